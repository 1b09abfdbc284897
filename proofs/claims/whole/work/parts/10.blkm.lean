/-! EightWiresModel.in(JJJ)Z -/
theorem bkX11_in_0 {d : Nat} {S : hs_T} {Q : Option av_T → hs_T → Prop} {x0 x2 x4 : Int64} (kt : (lg_cmp x0 x2) < 0 → Ev d mX11_in 17 [some (vJ x0), none, some (vJ x2), none, some (vJ x4), none] [] S Q) (kf : ¬ (lg_cmp x0 x2) < 0 → Ev d mX11_in 6 [some (vJ x0), none, some (vJ x2), none, some (vJ x4), none] [] S Q) : Ev d mX11_in 0 [some (vJ x0), none, some (vJ x2), none, some (vJ x4), none] [] S Q := by
  refine Ev.lload_n dX11_in_0 rfl rfl ?_
  refine Ev.lload_n dX11_in_1 rfl rfl ?_
  refine Ev.lcmp dX11_in_2 ?_
  exact Ev.if_lt (tgt := 17) dX11_in_3 (by decide) kt kf
theorem bkX11_in_6 {d : Nat} {S : hs_T} {Q : Option av_T → hs_T → Prop} {x0 x2 x4 : Int64} (kt : 0 < (lg_cmp x0 x4) → Ev d mX11_in 17 [some (vJ x0), none, some (vJ x2), none, some (vJ x4), none] [] S Q) (kf : ¬ 0 < (lg_cmp x0 x4) → Ev d mX11_in 13 [some (vJ x0), none, some (vJ x2), none, some (vJ x4), none] [] S Q) : Ev d mX11_in 6 [some (vJ x0), none, some (vJ x2), none, some (vJ x4), none] [] S Q := by
  refine Ev.lload_n dX11_in_6 rfl rfl ?_
  refine Ev.lload dX11_in_7 rfl ?_
  refine Ev.lcmp dX11_in_9 ?_
  exact Ev.if_gt (tgt := 17) dX11_in_10 (by decide) kt kf
theorem bkX11_in_13 {d : Nat} {S : hs_T} {Q : Option av_T → hs_T → Prop} {x0 x2 x4 : Int64} (kn : Ev d mX11_in 18 [some (vJ x0), none, some (vJ x2), none, some (vJ x4), none] [vI 1] S Q) : Ev d mX11_in 13 [some (vJ x0), none, some (vJ x2), none, some (vJ x4), none] [] S Q := by
  refine Ev.iconst (v := 1) dX11_in_13 (by decide) ?_
  refine Ev.goto (tgt := 18) dX11_in_14 (by decide) ?_
  exact kn
theorem bkX11_in_17 {d : Nat} {S : hs_T} {Q : Option av_T → hs_T → Prop} {x0 x2 x4 : Int64} (kn : Ev d mX11_in 18 [some (vJ x0), none, some (vJ x2), none, some (vJ x4), none] [vI 0] S Q) : Ev d mX11_in 17 [some (vJ x0), none, some (vJ x2), none, some (vJ x4), none] [] S Q := by
  refine Ev.iconst (v := 0) dX11_in_17 (by decide) ?_
  exact kn
theorem bkX11_in_18 {d : Nat} {S : hs_T} {Q : Option av_T → hs_T → Prop} {y0 : Int32} {x0 x2 x4 : Int64} (hn18 : narrow .boolean (.int y0) = .int y0) (hq : Q (some (vI y0)) S) : Ev d mX11_in 18 [some (vJ x0), none, some (vJ x2), none, some (vJ x4), none] [vI y0] S Q := by
  exact Ev.iret dX11_in_18 rfl hn18 hq
/-! EightWiresModel.flag(Z)I -/
theorem bkX11_flag_0 {d : Nat} {S : hs_T} {Q : Option av_T → hs_T → Prop} {x0 : Int32} (kt : x0 = 0 → Ev d mX11_flag 8 [some (vI x0)] [] S Q) (kf : ¬ x0 = 0 → Ev d mX11_flag 4 [some (vI x0)] [] S Q) : Ev d mX11_flag 0 [some (vI x0)] [] S Q := by
  refine Ev.iload_n dX11_flag_0 rfl rfl ?_
  exact Ev.if_eq (tgt := 8) dX11_flag_1 (by decide) kt kf
theorem bkX11_flag_4 {d : Nat} {S : hs_T} {Q : Option av_T → hs_T → Prop} {x0 : Int32} (kn : Ev d mX11_flag 9 [some (vI x0)] [vI 1] S Q) : Ev d mX11_flag 4 [some (vI x0)] [] S Q := by
  refine Ev.iconst (v := 1) dX11_flag_4 (by decide) ?_
  refine Ev.goto (tgt := 9) dX11_flag_5 (by decide) ?_
  exact kn
theorem bkX11_flag_8 {d : Nat} {S : hs_T} {Q : Option av_T → hs_T → Prop} {x0 : Int32} (kn : Ev d mX11_flag 9 [some (vI x0)] [vI 0] S Q) : Ev d mX11_flag 8 [some (vI x0)] [] S Q := by
  refine Ev.iconst (v := 0) dX11_flag_8 (by decide) ?_
  exact kn
theorem bkX11_flag_9 {d : Nat} {S : hs_T} {Q : Option av_T → hs_T → Prop} {x0 y0 : Int32} (hq : Q (some (vI y0)) S) : Ev d mX11_flag 9 [some (vI x0)] [vI y0] S Q := by
  exact Ev.iret dX11_flag_9 rfl rfl hq
/-! EightWiresModel.less(II)I -/
theorem bkX11_less_0 {d : Nat} {S : hs_T} {Q : Option av_T → hs_T → Prop} {x0 x1 : Int32} (kt : x1 ≤ x0 → Ev d mX11_less 9 [some (vI x0), some (vI x1)] [] S Q) (kf : ¬ x1 ≤ x0 → Ev d mX11_less 5 [some (vI x0), some (vI x1)] [] S Q) : Ev d mX11_less 0 [some (vI x0), some (vI x1)] [] S Q := by
  refine Ev.iload_n dX11_less_0 rfl rfl ?_
  refine Ev.iload_n dX11_less_1 rfl rfl ?_
  exact Ev.icmp_ge (tgt := 9) dX11_less_2 (by decide) kt kf
theorem bkX11_less_5 {d : Nat} {S : hs_T} {Q : Option av_T → hs_T → Prop} {x0 x1 : Int32} (kn : Ev d mX11_less 10 [some (vI x0), some (vI x1)] [vI x0] S Q) : Ev d mX11_less 5 [some (vI x0), some (vI x1)] [] S Q := by
  refine Ev.iload_n dX11_less_5 rfl rfl ?_
  refine Ev.goto (tgt := 10) dX11_less_6 (by decide) ?_
  exact kn
theorem bkX11_less_9 {d : Nat} {S : hs_T} {Q : Option av_T → hs_T → Prop} {x0 x1 : Int32} (kn : Ev d mX11_less 10 [some (vI x0), some (vI x1)] [vI x1] S Q) : Ev d mX11_less 9 [some (vI x0), some (vI x1)] [] S Q := by
  refine Ev.iload_n dX11_less_9 rfl rfl ?_
  exact kn
theorem bkX11_less_10 {d : Nat} {S : hs_T} {Q : Option av_T → hs_T → Prop} {x0 x1 y0 : Int32} (hq : Q (some (vI y0)) S) : Ev d mX11_less 10 [some (vI x0), some (vI x1)] [vI y0] S Q := by
  exact Ev.iret dX11_less_10 rfl rfl hq
/-! EightWiresModel.firstDraft()V -/
theorem bkX11_firstDraft_0 {d : Nat} {S : hs_T} {Q : Option av_T → hs_T → Prop} {o1 : Option av_T} (kn : Ev d mX11_firstDraft 2 [some (vR 11 0), some (vI 0)] [] S Q) : Ev d mX11_firstDraft 0 [some (vR 11 0), o1] [] S Q := by
  refine Ev.iconst (v := 0) dX11_firstDraft_0 (by decide) ?_
  refine Ev.istore_n (ls' := [some (vR 11 0), some (vI 0)]) dX11_firstDraft_1 rfl (by decide) rfl ?_
  exact kn
theorem bkX11_firstDraft_2 {d : Nat} {S : hs_T} {Q : Option av_T → hs_T → Prop} {x1 : Int32} (kt : 234 ≤ x1 → Ev d mX11_firstDraft 22 [some (vR 11 0), some (vI x1)] [] S Q) (kf : ¬ 234 ≤ x1 → Ev d mX11_firstDraft 9 [some (vR 11 0), some (vI x1)] [] S Q) : Ev d mX11_firstDraft 2 [some (vR 11 0), some (vI x1)] [] S Q := by
  refine Ev.iload_n dX11_firstDraft_2 rfl rfl ?_
  refine Ev.sipush (v := 234) dX11_firstDraft_3 (by decide) ?_
  exact Ev.icmp_ge (tgt := 22) dX11_firstDraft_6 (by decide) kt kf
theorem bkX11_firstDraft_9 {d : Nat} {S : hs_T} {Q : Option av_T → hs_T → Prop} {x1 : Int32} (hi15 : vp_in x1 234) (kn : Ev d mX11_firstDraft 2 [some (vR 11 0), some (vI (x1 + 1))] [] (sk_ S 1201 0 (upd (S.1 1201 0) x1.toNatClampNeg 0)) Q) : Ev d mX11_firstDraft 9 [some (vR 11 0), some (vI x1)] [] S Q := by
  refine Ev.aload_n dX11_firstDraft_9 rfl rfl ?_
  refine Ev.get (v := vR 1201 0) okX11 (by decide) fl_X11_13 pz_11_0 (ff_11_1 _ _) dX11_firstDraft_10 ?_
  refine Ev.iload_n dX11_firstDraft_13 rfl rfl ?_
  refine Ev.iconst (v := 0) dX11_firstDraft_14 (by decide) ?_
  refine Ev.iastoreA (a := x1.toNatClampNeg) pz_1201_0 (by decide) ak_1201 hi15 rfl rfl dX11_firstDraft_15 ?_
  refine Ev.iinc (v := (x1 + 1)) (ls' := [some (vR 11 0), some (vI (x1 + 1))]) dX11_firstDraft_16 rfl rfl (by decide) rfl ?_
  refine Ev.goto (tgt := 2) dX11_firstDraft_19 (by decide) ?_
  exact kn
theorem bkX11_firstDraft_22 {d : Nat} {S : hs_T} {Q : Option av_T → hs_T → Prop} {x1 : Int32} (hq : Q none (sk_ (sk_ S 1201 0 (upd (S.1 1201 0) 232 100)) 11 0 (upd ((sk_ S 1201 0 (upd (S.1 1201 0) 232 100)).1 11 0) 6 0))) : Ev d mX11_firstDraft 22 [some (vR 11 0), some (vI x1)] [] S Q := by
  refine Ev.aload_n dX11_firstDraft_22 rfl rfl ?_
  refine Ev.get (v := vR 1201 0) okX11 (by decide) fl_X11_13 pz_11_0 (ff_11_1 _ _) dX11_firstDraft_23 ?_
  refine Ev.sipush (v := 232) dX11_firstDraft_26 (by decide) ?_
  refine Ev.bipush (v := 100) dX11_firstDraft_29 (by decide) ?_
  refine Ev.iastoreA (a := 232) pz_1201_0 (by decide) ak_1201 (by unfold vp_in; decide) (by decide) rfl dX11_firstDraft_31 ?_
  refine Ev.aload_n dX11_firstDraft_32 rfl rfl ?_
  refine Ev.iconst (v := 0) dX11_firstDraft_33 (by decide) ?_
  refine Ev.put okX11 (by decide) fl_X11_49 pz_11_0 (by decide) rfl rfl rfl rfl dX11_firstDraft_34 ?_
  exact Ev.vret dX11_firstDraft_37 rfl hq
/-! EightWiresModel.keepDraft()V -/
theorem bkX11_keepDraft_0 {d : Nat} {S : hs_T} {Q : Option av_T → hs_T → Prop} {o1 : Option av_T} (kn : Ev d mX11_keepDraft 2 [some (vR 11 0), some (vI 0)] [] S Q) : Ev d mX11_keepDraft 0 [some (vR 11 0), o1] [] S Q := by
  refine Ev.iconst (v := 0) dX11_keepDraft_0 (by decide) ?_
  refine Ev.istore_n (ls' := [some (vR 11 0), some (vI 0)]) dX11_keepDraft_1 rfl (by decide) rfl ?_
  exact kn
theorem bkX11_keepDraft_2 {d : Nat} {S : hs_T} {Q : Option av_T → hs_T → Prop} {x1 : Int32} (kt : 234 ≤ x1 → Ev d mX11_keepDraft 27 [some (vR 11 0), some (vI x1)] [] S Q) (kf : ¬ 234 ≤ x1 → Ev d mX11_keepDraft 9 [some (vR 11 0), some (vI x1)] [] S Q) : Ev d mX11_keepDraft 2 [some (vR 11 0), some (vI x1)] [] S Q := by
  refine Ev.iload_n dX11_keepDraft_2 rfl rfl ?_
  refine Ev.sipush (v := 234) dX11_keepDraft_3 (by decide) ?_
  exact Ev.icmp_ge (tgt := 27) dX11_keepDraft_6 (by decide) kt kf
theorem bkX11_keepDraft_9 {d : Nat} {S : hs_T} {Q : Option av_T → hs_T → Prop} {x1 : Int32} (hi19 : vp_in x1 234) (kn : Ev d mX11_keepDraft 2 [some (vR 11 0), some (vI (x1 + 1))] [] (sk_ S 1200 0 (upd (S.1 1200 0) x1.toNatClampNeg (S.1 1201 0 x1.toNatClampNeg))) Q) : Ev d mX11_keepDraft 9 [some (vR 11 0), some (vI x1)] [] S Q := by
  refine Ev.aload_n dX11_keepDraft_9 rfl rfl ?_
  refine Ev.get (v := vR 1200 0) okX11 (by decide) fl_X11_7 pz_11_0 (ff_11_0 _ _) dX11_keepDraft_10 ?_
  refine Ev.iload_n dX11_keepDraft_13 rfl rfl ?_
  refine Ev.aload_n dX11_keepDraft_14 rfl rfl ?_
  refine Ev.get (v := vR 1201 0) okX11 (by decide) fl_X11_13 pz_11_0 (ff_11_1 _ _) dX11_keepDraft_15 ?_
  refine Ev.iload_n dX11_keepDraft_18 rfl rfl ?_
  refine Ev.ialoadA (a := x1.toNatClampNeg) pz_1201_0 (by decide) ak_1201 hi19 rfl dX11_keepDraft_19 ?_
  refine Ev.iastoreA (a := x1.toNatClampNeg) pz_1200_0 (by decide) ak_1200 hi19 rfl rfl dX11_keepDraft_20 ?_
  refine Ev.iinc (v := (x1 + 1)) (ls' := [some (vR 11 0), some (vI (x1 + 1))]) dX11_keepDraft_21 rfl rfl (by decide) rfl ?_
  refine Ev.goto (tgt := 2) dX11_keepDraft_24 (by decide) ?_
  exact kn
theorem bkX11_keepDraft_27 {d : Nat} {S : hs_T} {Q : Option av_T → hs_T → Prop} {x1 : Int32} (hq : Q none S) : Ev d mX11_keepDraft 27 [some (vR 11 0), some (vI x1)] [] S Q := by
  exact Ev.vret dX11_keepDraft_27 rfl hq
/-! EightWiresModel.feed(J)I -/
theorem bkX11_feed_0 {d : Nat} {S : hs_T} {Q : Option av_T → hs_T → Prop} {x1 : Int64} {o3 : Option av_T} (kt : ((S.1 11 0 8) + 8) ≤ 400 → Ev d mX11_feed 16 [some (vR 11 0), some (vJ x1), none, o3] [] S Q) (kf : ¬ ((S.1 11 0 8) + 8) ≤ 400 → Ev d mX11_feed 13 [some (vR 11 0), some (vJ x1), none, o3] [] S Q) : Ev d mX11_feed 0 [some (vR 11 0), some (vJ x1), none, o3] [] S Q := by
  refine Ev.aload_n dX11_feed_0 rfl rfl ?_
  refine Ev.get (v := vI (S.1 11 0 8)) okX11 (by decide) fl_X11_53 pz_11_0 (ff_11_8 _ _) dX11_feed_1 ?_
  refine Ev.bipush (v := 8) dX11_feed_4 (by decide) ?_
  refine Ev.iadd dX11_feed_6 ?_
  refine Ev.sipush (v := 400) dX11_feed_7 (by decide) ?_
  exact Ev.icmp_le (tgt := 16) dX11_feed_10 (by decide) kt kf
theorem bkX11_feed_13 {d : Nat} {S : hs_T} {Q : Option av_T → hs_T → Prop} {x1 : Int64} {o3 : Option av_T} (hq : Q (some (vI (-3))) S) : Ev d mX11_feed 13 [some (vR 11 0), some (vJ x1), none, o3] [] S Q := by
  refine Ev.bipush (v := (-3)) dX11_feed_13 (by decide) ?_
  exact Ev.iret dX11_feed_15 rfl rfl hq
theorem bkX11_feed_16 {d : Nat} {S : hs_T} {Q : Option av_T → hs_T → Prop} {x1 : Int64} {o3 : Option av_T} (kn : Ev d mX11_feed 19 [some (vR 11 0), some (vJ x1), none, some (vI 56)] [] S Q) : Ev d mX11_feed 16 [some (vR 11 0), some (vJ x1), none, o3] [] S Q := by
  refine Ev.bipush (v := 56) dX11_feed_16 (by decide) ?_
  refine Ev.istore_n (ls' := [some (vR 11 0), some (vJ x1), none, some (vI 56)]) dX11_feed_18 rfl (by decide) rfl ?_
  exact kn
theorem bkX11_feed_19 {d : Nat} {S : hs_T} {Q : Option av_T → hs_T → Prop} {x3 : Int32} {x1 : Int64} (kt : x3 < 0 → Ev d mX11_feed 56 [some (vR 11 0), some (vJ x1), none, some (vI x3)] [] S Q) (kf : ¬ x3 < 0 → Ev d mX11_feed 23 [some (vR 11 0), some (vJ x1), none, some (vI x3)] [] S Q) : Ev d mX11_feed 19 [some (vR 11 0), some (vJ x1), none, some (vI x3)] [] S Q := by
  refine Ev.iload_n dX11_feed_19 rfl rfl ?_
  exact Ev.if_lt (tgt := 56) dX11_feed_20 (by decide) kt kf
theorem bkX11_feed_23 {d : Nat} {S : hs_T} {Q : Option av_T → hs_T → Prop} {x3 : Int32} {x1 : Int64} (hi39 : vp_in (S.1 11 0 8) 400) (kn : Ev d mX11_feed 19 [some (vR 11 0), some (vJ x1), none, some (vI (x3 + (-8)))] [] (sk_ (sk_ S 1207 0 (upd (S.1 1207 0) ((S.1 11 0 8).toNatClampNeg) (((x1 >>> (x3.toInt64 &&& 63)) &&& 255).toInt32))) 11 0 (upd ((sk_ S 1207 0 (upd (S.1 1207 0) ((S.1 11 0 8).toNatClampNeg) (((x1 >>> (x3.toInt64 &&& 63)) &&& 255).toInt32))).1 11 0) 8 (((sk_ S 1207 0 (upd (S.1 1207 0) ((S.1 11 0 8).toNatClampNeg) (((x1 >>> (x3.toInt64 &&& 63)) &&& 255).toInt32))).1 11 0 8) + 1))) Q) : Ev d mX11_feed 23 [some (vR 11 0), some (vJ x1), none, some (vI x3)] [] S Q := by
  refine Ev.aload_n dX11_feed_23 rfl rfl ?_
  refine Ev.get (v := vR 1207 0) okX11 (by decide) fl_X11_25 pz_11_0 (ff_11_7 _ _) dX11_feed_24 ?_
  refine Ev.aload_n dX11_feed_27 rfl rfl ?_
  refine Ev.get (v := vI (S.1 11 0 8)) okX11 (by decide) fl_X11_53 pz_11_0 (ff_11_8 _ _) dX11_feed_28 ?_
  refine Ev.lload_n dX11_feed_31 rfl rfl ?_
  refine Ev.iload_n dX11_feed_32 rfl rfl ?_
  refine Ev.lshr dX11_feed_33 ?_
  refine Ev.ldc2 kl_X11_56 dX11_feed_34 ?_
  refine Ev.land dX11_feed_37 ?_
  refine Ev.l2i dX11_feed_38 ?_
  refine Ev.iastoreA (a := (S.1 11 0 8).toNatClampNeg) pz_1207_0 (by decide) ak_1207 hi39 rfl rfl dX11_feed_39 ?_
  refine Ev.aload_n dX11_feed_40 rfl rfl ?_
  refine Ev.dup dX11_feed_41 rfl ?_
  refine Ev.get (v := vI ((sk_ S 1207 0 (upd (S.1 1207 0) ((S.1 11 0 8).toNatClampNeg) (((x1 >>> (x3.toInt64 &&& 63)) &&& 255).toInt32))).1 11 0 8)) okX11 (by decide) fl_X11_53 pz_11_0 (ff_11_8 _ _) dX11_feed_42 ?_
  refine Ev.iconst (v := 1) dX11_feed_45 (by decide) ?_
  refine Ev.iadd dX11_feed_46 ?_
  refine Ev.put okX11 (by decide) fl_X11_53 pz_11_0 (by decide) rfl rfl rfl rfl dX11_feed_47 ?_
  refine Ev.iinc (v := (x3 + (-8))) (ls' := [some (vR 11 0), some (vJ x1), none, some (vI (x3 + (-8)))]) dX11_feed_50 rfl rfl (by decide) rfl ?_
  refine Ev.goto (tgt := 19) dX11_feed_53 (by decide) ?_
  exact kn
theorem bkX11_feed_56 {d : Nat} {S : hs_T} {Q : Option av_T → hs_T → Prop} {x3 : Int32} {x1 : Int64} (hq : Q (some (vI (S.1 11 0 8))) S) : Ev d mX11_feed 56 [some (vR 11 0), some (vJ x1), none, some (vI x3)] [] S Q := by
  refine Ev.aload_n dX11_feed_56 rfl rfl ?_
  refine Ev.get (v := vI (S.1 11 0 8)) okX11 (by decide) fl_X11_53 pz_11_0 (ff_11_8 _ _) dX11_feed_57 ?_
  exact Ev.iret dX11_feed_60 rfl rfl hq
/-! EightWiresModel.end(I)I -/
theorem bkX11_end_0 {d : Nat} {S : hs_T} {Q : Option av_T → hs_T → Prop} {P : Int32 → hs_T → Prop} {x1 : Int32} {o2 : Option av_T} (hC : Ci d mX11_in [vJ x1.toInt64, vJ 0, vJ ((S.1 11 0 8).toInt64)] S P) (kk : ∀ v S', P v S' → Ev (d + 1) mX11_end 11 [some (vR 11 0), some (vI x1), o2] [vI v] S' Q) : Ev (d + 1) mX11_end 0 [some (vR 11 0), some (vI x1), o2] [] S Q := by
  refine Ev.iload_n dX11_end_0 rfl rfl ?_
  refine Ev.i2l dX11_end_1 ?_
  refine Ev.lconst (v := 0) dX11_end_2 (by decide) ?_
  refine Ev.aload_n dX11_end_3 rfl rfl ?_
  refine Ev.get (v := vI (S.1 11 0 8)) okX11 (by decide) fl_X11_53 pz_11_0 (ff_11_8 _ _) dX11_end_4 ?_
  refine Ev.i2l dX11_end_7 ?_
  exact Ev.callS (as := [vJ x1.toInt64, vJ 0, vJ ((S.1 11 0 8).toInt64)]) (rest := []) okX11_in stX11_in ml_X11_58 rfl (Nat.le_of_ble_eq_true rfl) rfl dX11_end_8 hC (fun r S' h => by obtain ⟨v, rfl, h⟩ := h; exact kk v S' h)
theorem bkX11_end_11 {d : Nat} {S : hs_T} {Q : Option av_T → hs_T → Prop} {x1 y0 : Int32} {o2 : Option av_T} (kt : ¬ y0 = 0 → Ev d mX11_end 16 [some (vR 11 0), some (vI x1), o2] [] S Q) (kf : y0 = 0 → Ev d mX11_end 14 [some (vR 11 0), some (vI x1), o2] [] S Q) : Ev d mX11_end 11 [some (vR 11 0), some (vI x1), o2] [vI y0] S Q := by
  exact Ev.if_ne (tgt := 16) dX11_end_11 (by decide) kt kf
theorem bkX11_end_14 {d : Nat} {S : hs_T} {Q : Option av_T → hs_T → Prop} {x1 : Int32} {o2 : Option av_T} (hq : Q (some (vI (-1))) S) : Ev d mX11_end 14 [some (vR 11 0), some (vI x1), o2] [] S Q := by
  refine Ev.iconst (v := (-1)) dX11_end_14 (by decide) ?_
  exact Ev.iret dX11_end_15 rfl rfl hq
theorem bkX11_end_16 {d : Nat} {S : hs_T} {Q : Option av_T → hs_T → Prop} {x1 : Int32} {o2 : Option av_T} (hq : Q (some (vI (S.1 11 0 8))) (sk_ S 11 0 (upd (S.1 11 0) 8 x1))) : Ev d mX11_end 16 [some (vR 11 0), some (vI x1), o2] [] S Q := by
  refine Ev.aload_n dX11_end_16 rfl rfl ?_
  refine Ev.get (v := vI (S.1 11 0 8)) okX11 (by decide) fl_X11_53 pz_11_0 (ff_11_8 _ _) dX11_end_17 ?_
  refine Ev.istore_n (ls' := [some (vR 11 0), some (vI x1), some (vI (S.1 11 0 8))]) dX11_end_20 rfl (by decide) rfl ?_
  refine Ev.aload_n dX11_end_21 rfl rfl ?_
  refine Ev.iload_n dX11_end_22 rfl rfl ?_
  refine Ev.put okX11 (by decide) fl_X11_53 pz_11_0 (by decide) rfl rfl rfl rfl dX11_end_23 ?_
  refine Ev.iload_n dX11_end_26 rfl rfl ?_
  exact Ev.iret dX11_end_27 rfl rfl hq
/-! EightWiresModel.needs(ZI)V -/
theorem bkX11_needs_0 {d : Nat} {S : hs_T} {Q : Option av_T → hs_T → Prop} {x1 x2 : Int32} (kt : ¬ x1 = 0 → Ev d mX11_needs 24 [some (vR 11 0), some (vI x1), some (vI x2)] [] S Q) (kf : x1 = 0 → Ev d mX11_needs 4 [some (vR 11 0), some (vI x1), some (vI x2)] [] S Q) : Ev d mX11_needs 0 [some (vR 11 0), some (vI x1), some (vI x2)] [] S Q := by
  refine Ev.iload_n dX11_needs_0 rfl rfl ?_
  exact Ev.if_ne (tgt := 24) dX11_needs_1 (by decide) kt kf
theorem bkX11_needs_4 {d : Nat} {S : hs_T} {Q : Option av_T → hs_T → Prop} {x1 x2 : Int32} (kt : ¬ (S.1 11 0 13) = 0 → Ev d mX11_needs 24 [some (vR 11 0), some (vI x1), some (vI x2)] [] S Q) (kf : (S.1 11 0 13) = 0 → Ev d mX11_needs 11 [some (vR 11 0), some (vI x1), some (vI x2)] [] S Q) : Ev d mX11_needs 4 [some (vR 11 0), some (vI x1), some (vI x2)] [] S Q := by
  refine Ev.aload_n dX11_needs_4 rfl rfl ?_
  refine Ev.get (v := vI (S.1 11 0 13)) okX11 (by decide) fl_X11_62 pz_11_0 (ff_11_13 _ _) dX11_needs_5 ?_
  exact Ev.if_ne (tgt := 24) dX11_needs_8 (by decide) kt kf
theorem bkX11_needs_11 {d : Nat} {S : hs_T} {Q : Option av_T → hs_T → Prop} {x1 x2 : Int32} (kn : Ev d mX11_needs 24 [some (vR 11 0), some (vI x1), some (vI x2)] [] (sk_ (sk_ S 11 0 (upd (S.1 11 0) 13 x2)) 11 0 (upd ((sk_ S 11 0 (upd (S.1 11 0) 13 x2)).1 11 0) 14 ((sk_ S 11 0 (upd (S.1 11 0) 13 x2)).1 11 0 10))) Q) : Ev d mX11_needs 11 [some (vR 11 0), some (vI x1), some (vI x2)] [] S Q := by
  refine Ev.aload_n dX11_needs_11 rfl rfl ?_
  refine Ev.iload_n dX11_needs_12 rfl rfl ?_
  refine Ev.put okX11 (by decide) fl_X11_62 pz_11_0 (by decide) rfl rfl rfl rfl dX11_needs_13 ?_
  refine Ev.aload_n dX11_needs_16 rfl rfl ?_
  refine Ev.aload_n dX11_needs_17 rfl rfl ?_
  refine Ev.get (v := vI ((sk_ S 11 0 (upd (S.1 11 0) 13 x2)).1 11 0 10)) okX11 (by decide) fl_X11_65 pz_11_0 (ff_11_10 _ _) dX11_needs_18 ?_
  refine Ev.put okX11 (by decide) fl_X11_68 pz_11_0 (by decide) rfl rfl rfl rfl dX11_needs_21 ?_
  exact kn
theorem bkX11_needs_24 {d : Nat} {S : hs_T} {Q : Option av_T → hs_T → Prop} {x1 x2 : Int32} (hq : Q none S) : Ev d mX11_needs 24 [some (vR 11 0), some (vI x1), some (vI x2)] [] S Q := by
  exact Ev.vret dX11_needs_24 rfl hq
/-! EightWiresModel.look(I)I -/
theorem bkX11_look_0 {d : Nat} {S : hs_T} {Q : Option av_T → hs_T → Prop} {x1 : Int32} (kt : (S.1 11 0 8) ≤ x1 → Ev d mX11_look 17 [some (vR 11 0), some (vI x1)] [] S Q) (kf : ¬ (S.1 11 0 8) ≤ x1 → Ev d mX11_look 8 [some (vR 11 0), some (vI x1)] [] S Q) : Ev d mX11_look 0 [some (vR 11 0), some (vI x1)] [] S Q := by
  refine Ev.iload_n dX11_look_0 rfl rfl ?_
  refine Ev.aload_n dX11_look_1 rfl rfl ?_
  refine Ev.get (v := vI (S.1 11 0 8)) okX11 (by decide) fl_X11_53 pz_11_0 (ff_11_8 _ _) dX11_look_2 ?_
  exact Ev.icmp_ge (tgt := 17) dX11_look_5 (by decide) kt kf
theorem bkX11_look_8 {d : Nat} {S : hs_T} {Q : Option av_T → hs_T → Prop} {x1 : Int32} (hi13 : vp_in x1 400) (kn : Ev d mX11_look 18 [some (vR 11 0), some (vI x1)] [vI (S.1 1207 0 x1.toNatClampNeg)] S Q) : Ev d mX11_look 8 [some (vR 11 0), some (vI x1)] [] S Q := by
  refine Ev.aload_n dX11_look_8 rfl rfl ?_
  refine Ev.get (v := vR 1207 0) okX11 (by decide) fl_X11_25 pz_11_0 (ff_11_7 _ _) dX11_look_9 ?_
  refine Ev.iload_n dX11_look_12 rfl rfl ?_
  refine Ev.ialoadA (a := x1.toNatClampNeg) pz_1207_0 (by decide) ak_1207 hi13 rfl dX11_look_13 ?_
  refine Ev.goto (tgt := 18) dX11_look_14 (by decide) ?_
  exact kn
theorem bkX11_look_17 {d : Nat} {S : hs_T} {Q : Option av_T → hs_T → Prop} {x1 : Int32} (kn : Ev d mX11_look 18 [some (vR 11 0), some (vI x1)] [vI (-1)] S Q) : Ev d mX11_look 17 [some (vR 11 0), some (vI x1)] [] S Q := by
  refine Ev.iconst (v := (-1)) dX11_look_17 (by decide) ?_
  exact kn
theorem bkX11_look_18 {d : Nat} {S : hs_T} {Q : Option av_T → hs_T → Prop} {x1 y0 : Int32} (hq : Q (some (vI y0)) S) : Ev d mX11_look 18 [some (vR 11 0), some (vI x1)] [vI y0] S Q := by
  exact Ev.iret dX11_look_18 rfl rfl hq
/-! EightWiresModel.is(IIIII)Z -/
theorem bkX11_is_0 {d : Nat} {S : hs_T} {Q : Option av_T → hs_T → Prop} {x1 x2 x3 x4 x5 : Int32} (kt : ¬ ((S.1 11 0 9) - (S.1 11 0 10)) = x1 → Ev d mX11_is 83 [some (vR 11 0), some (vI x1), some (vI x2), some (vI x3), some (vI x4), some (vI x5)] [] S Q) (kf : ((S.1 11 0 9) - (S.1 11 0 10)) = x1 → Ev d mX11_is 13 [some (vR 11 0), some (vI x1), some (vI x2), some (vI x3), some (vI x4), some (vI x5)] [] S Q) : Ev d mX11_is 0 [some (vR 11 0), some (vI x1), some (vI x2), some (vI x3), some (vI x4), some (vI x5)] [] S Q := by
  refine Ev.aload_n dX11_is_0 rfl rfl ?_
  refine Ev.get (v := vI (S.1 11 0 9)) okX11 (by decide) fl_X11_71 pz_11_0 (ff_11_9 _ _) dX11_is_1 ?_
  refine Ev.aload_n dX11_is_4 rfl rfl ?_
  refine Ev.get (v := vI (S.1 11 0 10)) okX11 (by decide) fl_X11_65 pz_11_0 (ff_11_10 _ _) dX11_is_5 ?_
  refine Ev.isub dX11_is_8 ?_
  refine Ev.iload_n dX11_is_9 rfl rfl ?_
  exact Ev.icmp_ne (tgt := 83) dX11_is_10 (by decide) kt kf
theorem bkX11_is_13 {d : Nat} {S : hs_T} {Q : Option av_T → hs_T → Prop} {P : Int32 → hs_T → Prop} {x1 x2 x3 x4 x5 : Int32} (hC : Ci d mX11_look [vR 11 0, vI (S.1 11 0 10)] S P) (kk : ∀ v S', P v S' → Ev (d + 1) mX11_is 21 [some (vR 11 0), some (vI x1), some (vI x2), some (vI x3), some (vI x4), some (vI x5)] [vI v] S' Q) : Ev (d + 1) mX11_is 13 [some (vR 11 0), some (vI x1), some (vI x2), some (vI x3), some (vI x4), some (vI x5)] [] S Q := by
  refine Ev.aload_n dX11_is_13 rfl rfl ?_
  refine Ev.aload_n dX11_is_14 rfl rfl ?_
  refine Ev.get (v := vI (S.1 11 0 10)) okX11 (by decide) fl_X11_65 pz_11_0 (ff_11_10 _ _) dX11_is_15 ?_
  exact Ev.callV (as := [vI (S.1 11 0 10)]) (rest := []) okX11_look in_X11_look ml_X11_74 rfl (Nat.le_of_ble_eq_true rfl) pz_11_0 (by decide) rfl rfl dX11_is_18 hC (fun r S' h => by obtain ⟨v, rfl, h⟩ := h; exact kk v S' h)
theorem bkX11_is_21 {d : Nat} {S : hs_T} {Q : Option av_T → hs_T → Prop} {x1 x2 x3 x4 x5 y0 : Int32} (kt : ¬ y0 = x2 → Ev d mX11_is 83 [some (vR 11 0), some (vI x1), some (vI x2), some (vI x3), some (vI x4), some (vI x5)] [] S Q) (kf : y0 = x2 → Ev d mX11_is 25 [some (vR 11 0), some (vI x1), some (vI x2), some (vI x3), some (vI x4), some (vI x5)] [] S Q) : Ev d mX11_is 21 [some (vR 11 0), some (vI x1), some (vI x2), some (vI x3), some (vI x4), some (vI x5)] [vI y0] S Q := by
  refine Ev.iload_n dX11_is_21 rfl rfl ?_
  exact Ev.icmp_ne (tgt := 83) dX11_is_22 (by decide) kt kf
theorem bkX11_is_25 {d : Nat} {S : hs_T} {Q : Option av_T → hs_T → Prop} {P : Int32 → hs_T → Prop} {x1 x2 x3 x4 x5 : Int32} (hC : Ci d mX11_look [vR 11 0, vI ((S.1 11 0 10) + 1)] S P) (kk : ∀ v S', P v S' → Ev (d + 1) mX11_is 35 [some (vR 11 0), some (vI x1), some (vI x2), some (vI x3), some (vI x4), some (vI x5)] [vI v] S' Q) : Ev (d + 1) mX11_is 25 [some (vR 11 0), some (vI x1), some (vI x2), some (vI x3), some (vI x4), some (vI x5)] [] S Q := by
  refine Ev.aload_n dX11_is_25 rfl rfl ?_
  refine Ev.aload_n dX11_is_26 rfl rfl ?_
  refine Ev.get (v := vI (S.1 11 0 10)) okX11 (by decide) fl_X11_65 pz_11_0 (ff_11_10 _ _) dX11_is_27 ?_
  refine Ev.iconst (v := 1) dX11_is_30 (by decide) ?_
  refine Ev.iadd dX11_is_31 ?_
  exact Ev.callV (as := [vI ((S.1 11 0 10) + 1)]) (rest := []) okX11_look in_X11_look ml_X11_74 rfl (Nat.le_of_ble_eq_true rfl) pz_11_0 (by decide) rfl rfl dX11_is_32 hC (fun r S' h => by obtain ⟨v, rfl, h⟩ := h; exact kk v S' h)
theorem bkX11_is_35 {d : Nat} {S : hs_T} {Q : Option av_T → hs_T → Prop} {x1 x2 x3 x4 x5 y0 : Int32} (kt : ¬ y0 = x3 → Ev d mX11_is 83 [some (vR 11 0), some (vI x1), some (vI x2), some (vI x3), some (vI x4), some (vI x5)] [] S Q) (kf : y0 = x3 → Ev d mX11_is 39 [some (vR 11 0), some (vI x1), some (vI x2), some (vI x3), some (vI x4), some (vI x5)] [] S Q) : Ev d mX11_is 35 [some (vR 11 0), some (vI x1), some (vI x2), some (vI x3), some (vI x4), some (vI x5)] [vI y0] S Q := by
  refine Ev.iload_n dX11_is_35 rfl rfl ?_
  exact Ev.icmp_ne (tgt := 83) dX11_is_36 (by decide) kt kf
theorem bkX11_is_39 {d : Nat} {S : hs_T} {Q : Option av_T → hs_T → Prop} {x1 x2 x3 x4 x5 : Int32} (kt : x1 < 3 → Ev d mX11_is 59 [some (vR 11 0), some (vI x1), some (vI x2), some (vI x3), some (vI x4), some (vI x5)] [] S Q) (kf : ¬ x1 < 3 → Ev d mX11_is 44 [some (vR 11 0), some (vI x1), some (vI x2), some (vI x3), some (vI x4), some (vI x5)] [] S Q) : Ev d mX11_is 39 [some (vR 11 0), some (vI x1), some (vI x2), some (vI x3), some (vI x4), some (vI x5)] [] S Q := by
  refine Ev.iload_n dX11_is_39 rfl rfl ?_
  refine Ev.iconst (v := 3) dX11_is_40 (by decide) ?_
  exact Ev.icmp_lt (tgt := 59) dX11_is_41 (by decide) kt kf
theorem bkX11_is_44 {d : Nat} {S : hs_T} {Q : Option av_T → hs_T → Prop} {P : Int32 → hs_T → Prop} {x1 x2 x3 x4 x5 : Int32} (hC : Ci d mX11_look [vR 11 0, vI ((S.1 11 0 10) + 2)] S P) (kk : ∀ v S', P v S' → Ev (d + 1) mX11_is 54 [some (vR 11 0), some (vI x1), some (vI x2), some (vI x3), some (vI x4), some (vI x5)] [vI v] S' Q) : Ev (d + 1) mX11_is 44 [some (vR 11 0), some (vI x1), some (vI x2), some (vI x3), some (vI x4), some (vI x5)] [] S Q := by
  refine Ev.aload_n dX11_is_44 rfl rfl ?_
  refine Ev.aload_n dX11_is_45 rfl rfl ?_
  refine Ev.get (v := vI (S.1 11 0 10)) okX11 (by decide) fl_X11_65 pz_11_0 (ff_11_10 _ _) dX11_is_46 ?_
  refine Ev.iconst (v := 2) dX11_is_49 (by decide) ?_
  refine Ev.iadd dX11_is_50 ?_
  exact Ev.callV (as := [vI ((S.1 11 0 10) + 2)]) (rest := []) okX11_look in_X11_look ml_X11_74 rfl (Nat.le_of_ble_eq_true rfl) pz_11_0 (by decide) rfl rfl dX11_is_51 hC (fun r S' h => by obtain ⟨v, rfl, h⟩ := h; exact kk v S' h)
theorem bkX11_is_54 {d : Nat} {S : hs_T} {Q : Option av_T → hs_T → Prop} {x1 x2 x3 x4 x5 y0 : Int32} (kt : ¬ y0 = x4 → Ev d mX11_is 83 [some (vR 11 0), some (vI x1), some (vI x2), some (vI x3), some (vI x4), some (vI x5)] [] S Q) (kf : y0 = x4 → Ev d mX11_is 59 [some (vR 11 0), some (vI x1), some (vI x2), some (vI x3), some (vI x4), some (vI x5)] [] S Q) : Ev d mX11_is 54 [some (vR 11 0), some (vI x1), some (vI x2), some (vI x3), some (vI x4), some (vI x5)] [vI y0] S Q := by
  refine Ev.iload dX11_is_54 rfl ?_
  exact Ev.icmp_ne (tgt := 83) dX11_is_56 (by decide) kt kf
theorem bkX11_is_59 {d : Nat} {S : hs_T} {Q : Option av_T → hs_T → Prop} {x1 x2 x3 x4 x5 : Int32} (kt : x1 < 4 → Ev d mX11_is 79 [some (vR 11 0), some (vI x1), some (vI x2), some (vI x3), some (vI x4), some (vI x5)] [] S Q) (kf : ¬ x1 < 4 → Ev d mX11_is 64 [some (vR 11 0), some (vI x1), some (vI x2), some (vI x3), some (vI x4), some (vI x5)] [] S Q) : Ev d mX11_is 59 [some (vR 11 0), some (vI x1), some (vI x2), some (vI x3), some (vI x4), some (vI x5)] [] S Q := by
  refine Ev.iload_n dX11_is_59 rfl rfl ?_
  refine Ev.iconst (v := 4) dX11_is_60 (by decide) ?_
  exact Ev.icmp_lt (tgt := 79) dX11_is_61 (by decide) kt kf
theorem bkX11_is_64 {d : Nat} {S : hs_T} {Q : Option av_T → hs_T → Prop} {P : Int32 → hs_T → Prop} {x1 x2 x3 x4 x5 : Int32} (hC : Ci d mX11_look [vR 11 0, vI ((S.1 11 0 10) + 3)] S P) (kk : ∀ v S', P v S' → Ev (d + 1) mX11_is 74 [some (vR 11 0), some (vI x1), some (vI x2), some (vI x3), some (vI x4), some (vI x5)] [vI v] S' Q) : Ev (d + 1) mX11_is 64 [some (vR 11 0), some (vI x1), some (vI x2), some (vI x3), some (vI x4), some (vI x5)] [] S Q := by
  refine Ev.aload_n dX11_is_64 rfl rfl ?_
  refine Ev.aload_n dX11_is_65 rfl rfl ?_
  refine Ev.get (v := vI (S.1 11 0 10)) okX11 (by decide) fl_X11_65 pz_11_0 (ff_11_10 _ _) dX11_is_66 ?_
  refine Ev.iconst (v := 3) dX11_is_69 (by decide) ?_
  refine Ev.iadd dX11_is_70 ?_
  exact Ev.callV (as := [vI ((S.1 11 0 10) + 3)]) (rest := []) okX11_look in_X11_look ml_X11_74 rfl (Nat.le_of_ble_eq_true rfl) pz_11_0 (by decide) rfl rfl dX11_is_71 hC (fun r S' h => by obtain ⟨v, rfl, h⟩ := h; exact kk v S' h)
theorem bkX11_is_74 {d : Nat} {S : hs_T} {Q : Option av_T → hs_T → Prop} {x1 x2 x3 x4 x5 y0 : Int32} (kt : ¬ y0 = x5 → Ev d mX11_is 83 [some (vR 11 0), some (vI x1), some (vI x2), some (vI x3), some (vI x4), some (vI x5)] [] S Q) (kf : y0 = x5 → Ev d mX11_is 79 [some (vR 11 0), some (vI x1), some (vI x2), some (vI x3), some (vI x4), some (vI x5)] [] S Q) : Ev d mX11_is 74 [some (vR 11 0), some (vI x1), some (vI x2), some (vI x3), some (vI x4), some (vI x5)] [vI y0] S Q := by
  refine Ev.iload dX11_is_74 rfl ?_
  exact Ev.icmp_ne (tgt := 83) dX11_is_76 (by decide) kt kf
theorem bkX11_is_79 {d : Nat} {S : hs_T} {Q : Option av_T → hs_T → Prop} {x1 x2 x3 x4 x5 : Int32} (kn : Ev d mX11_is 84 [some (vR 11 0), some (vI x1), some (vI x2), some (vI x3), some (vI x4), some (vI x5)] [vI 1] S Q) : Ev d mX11_is 79 [some (vR 11 0), some (vI x1), some (vI x2), some (vI x3), some (vI x4), some (vI x5)] [] S Q := by
  refine Ev.iconst (v := 1) dX11_is_79 (by decide) ?_
  refine Ev.goto (tgt := 84) dX11_is_80 (by decide) ?_
  exact kn
theorem bkX11_is_83 {d : Nat} {S : hs_T} {Q : Option av_T → hs_T → Prop} {x1 x2 x3 x4 x5 : Int32} (kn : Ev d mX11_is 84 [some (vR 11 0), some (vI x1), some (vI x2), some (vI x3), some (vI x4), some (vI x5)] [vI 0] S Q) : Ev d mX11_is 83 [some (vR 11 0), some (vI x1), some (vI x2), some (vI x3), some (vI x4), some (vI x5)] [] S Q := by
  refine Ev.iconst (v := 0) dX11_is_83 (by decide) ?_
  exact kn
theorem bkX11_is_84 {d : Nat} {S : hs_T} {Q : Option av_T → hs_T → Prop} {x1 x2 x3 x4 x5 y0 : Int32} (hn84 : narrow .boolean (.int y0) = .int y0) (hq : Q (some (vI y0)) S) : Ev d mX11_is 84 [some (vR 11 0), some (vI x1), some (vI x2), some (vI x3), some (vI x4), some (vI x5)] [vI y0] S Q := by
  exact Ev.iret dX11_is_84 rfl hn84 hq
/-! EightWiresModel.termNow()I -/
theorem bkX11_termNow_0 {d : Nat} {S : hs_T} {Q : Option av_T → hs_T → Prop} {P : Int32 → hs_T → Prop} (hC : Ci d mX11_is [vR 11 0, vI 4, vI 104, vI 105, vI 103, vI 104] S P) (kk : ∀ v S', P v S' → Ev (d + 1) mX11_termNow 13 [some (vR 11 0)] [vI v] S' Q) : Ev (d + 1) mX11_termNow 0 [some (vR 11 0)] [] S Q := by
  refine Ev.aload_n dX11_termNow_0 rfl rfl ?_
  refine Ev.iconst (v := 4) dX11_termNow_1 (by decide) ?_
  refine Ev.bipush (v := 104) dX11_termNow_2 (by decide) ?_
  refine Ev.bipush (v := 105) dX11_termNow_4 (by decide) ?_
  refine Ev.bipush (v := 103) dX11_termNow_6 (by decide) ?_
  refine Ev.bipush (v := 104) dX11_termNow_8 (by decide) ?_
  exact Ev.callV (as := [vI 4, vI 104, vI 105, vI 103, vI 104]) (rest := []) okX11_is in_X11_is ml_X11_78 rfl (Nat.le_of_ble_eq_true rfl) pz_11_0 (by decide) rfl rfl dX11_termNow_10 hC (fun r S' h => by obtain ⟨v, rfl, h⟩ := h; exact kk v S' h)
theorem bkX11_termNow_13 {d : Nat} {S : hs_T} {Q : Option av_T → hs_T → Prop} {y0 : Int32} (kt : y0 = 0 → Ev d mX11_termNow 18 [some (vR 11 0)] [] S Q) (kf : ¬ y0 = 0 → Ev d mX11_termNow 16 [some (vR 11 0)] [] S Q) : Ev d mX11_termNow 13 [some (vR 11 0)] [vI y0] S Q := by
  exact Ev.if_eq (tgt := 18) dX11_termNow_13 (by decide) kt kf
theorem bkX11_termNow_16 {d : Nat} {S : hs_T} {Q : Option av_T → hs_T → Prop} (hq : Q (some (vI 0)) S) : Ev d mX11_termNow 16 [some (vR 11 0)] [] S Q := by
  refine Ev.iconst (v := 0) dX11_termNow_16 (by decide) ?_
  exact Ev.iret dX11_termNow_17 rfl rfl hq
theorem bkX11_termNow_18 {d : Nat} {S : hs_T} {Q : Option av_T → hs_T → Prop} {P : Int32 → hs_T → Prop} (hC : Ci d mX11_is [vR 11 0, vI 3, vI 108, vI 111, vI 119, vI 0] S P) (kk : ∀ v S', P v S' → Ev (d + 1) mX11_termNow 30 [some (vR 11 0)] [vI v] S' Q) : Ev (d + 1) mX11_termNow 18 [some (vR 11 0)] [] S Q := by
  refine Ev.aload_n dX11_termNow_18 rfl rfl ?_
  refine Ev.iconst (v := 3) dX11_termNow_19 (by decide) ?_
  refine Ev.bipush (v := 108) dX11_termNow_20 (by decide) ?_
  refine Ev.bipush (v := 111) dX11_termNow_22 (by decide) ?_
  refine Ev.bipush (v := 119) dX11_termNow_24 (by decide) ?_
  refine Ev.iconst (v := 0) dX11_termNow_26 (by decide) ?_
  exact Ev.callV (as := [vI 3, vI 108, vI 111, vI 119, vI 0]) (rest := []) okX11_is in_X11_is ml_X11_78 rfl (Nat.le_of_ble_eq_true rfl) pz_11_0 (by decide) rfl rfl dX11_termNow_27 hC (fun r S' h => by obtain ⟨v, rfl, h⟩ := h; exact kk v S' h)
theorem bkX11_termNow_30 {d : Nat} {S : hs_T} {Q : Option av_T → hs_T → Prop} {y0 : Int32} (kt : y0 = 0 → Ev d mX11_termNow 35 [some (vR 11 0)] [] S Q) (kf : ¬ y0 = 0 → Ev d mX11_termNow 33 [some (vR 11 0)] [] S Q) : Ev d mX11_termNow 30 [some (vR 11 0)] [vI y0] S Q := by
  exact Ev.if_eq (tgt := 35) dX11_termNow_30 (by decide) kt kf
theorem bkX11_termNow_33 {d : Nat} {S : hs_T} {Q : Option av_T → hs_T → Prop} (hq : Q (some (vI 1)) S) : Ev d mX11_termNow 33 [some (vR 11 0)] [] S Q := by
  refine Ev.iconst (v := 1) dX11_termNow_33 (by decide) ?_
  exact Ev.iret dX11_termNow_34 rfl rfl hq
theorem bkX11_termNow_35 {d : Nat} {S : hs_T} {Q : Option av_T → hs_T → Prop} {P : Int32 → hs_T → Prop} (hC : Ci d mX11_is [vR 11 0, vI 4, vI 114, vI 105, vI 115, vI 101] S P) (kk : ∀ v S', P v S' → Ev (d + 1) mX11_termNow 48 [some (vR 11 0)] [vI v] S' Q) : Ev (d + 1) mX11_termNow 35 [some (vR 11 0)] [] S Q := by
  refine Ev.aload_n dX11_termNow_35 rfl rfl ?_
  refine Ev.iconst (v := 4) dX11_termNow_36 (by decide) ?_
  refine Ev.bipush (v := 114) dX11_termNow_37 (by decide) ?_
  refine Ev.bipush (v := 105) dX11_termNow_39 (by decide) ?_
  refine Ev.bipush (v := 115) dX11_termNow_41 (by decide) ?_
  refine Ev.bipush (v := 101) dX11_termNow_43 (by decide) ?_
  exact Ev.callV (as := [vI 4, vI 114, vI 105, vI 115, vI 101]) (rest := []) okX11_is in_X11_is ml_X11_78 rfl (Nat.le_of_ble_eq_true rfl) pz_11_0 (by decide) rfl rfl dX11_termNow_45 hC (fun r S' h => by obtain ⟨v, rfl, h⟩ := h; exact kk v S' h)
theorem bkX11_termNow_48 {d : Nat} {S : hs_T} {Q : Option av_T → hs_T → Prop} {y0 : Int32} (kt : y0 = 0 → Ev d mX11_termNow 53 [some (vR 11 0)] [] S Q) (kf : ¬ y0 = 0 → Ev d mX11_termNow 51 [some (vR 11 0)] [] S Q) : Ev d mX11_termNow 48 [some (vR 11 0)] [vI y0] S Q := by
  exact Ev.if_eq (tgt := 53) dX11_termNow_48 (by decide) kt kf
theorem bkX11_termNow_51 {d : Nat} {S : hs_T} {Q : Option av_T → hs_T → Prop} (hq : Q (some (vI 2)) S) : Ev d mX11_termNow 51 [some (vR 11 0)] [] S Q := by
  refine Ev.iconst (v := 2) dX11_termNow_51 (by decide) ?_
  exact Ev.iret dX11_termNow_52 rfl rfl hq
theorem bkX11_termNow_53 {d : Nat} {S : hs_T} {Q : Option av_T → hs_T → Prop} {P : Int32 → hs_T → Prop} (hC : Ci d mX11_is [vR 11 0, vI 4, vI 102, vI 97, vI 108, vI 108] S P) (kk : ∀ v S', P v S' → Ev (d + 1) mX11_termNow 66 [some (vR 11 0)] [vI v] S' Q) : Ev (d + 1) mX11_termNow 53 [some (vR 11 0)] [] S Q := by
  refine Ev.aload_n dX11_termNow_53 rfl rfl ?_
  refine Ev.iconst (v := 4) dX11_termNow_54 (by decide) ?_
  refine Ev.bipush (v := 102) dX11_termNow_55 (by decide) ?_
  refine Ev.bipush (v := 97) dX11_termNow_57 (by decide) ?_
  refine Ev.bipush (v := 108) dX11_termNow_59 (by decide) ?_
  refine Ev.bipush (v := 108) dX11_termNow_61 (by decide) ?_
  exact Ev.callV (as := [vI 4, vI 102, vI 97, vI 108, vI 108]) (rest := []) okX11_is in_X11_is ml_X11_78 rfl (Nat.le_of_ble_eq_true rfl) pz_11_0 (by decide) rfl rfl dX11_termNow_63 hC (fun r S' h => by obtain ⟨v, rfl, h⟩ := h; exact kk v S' h)
theorem bkX11_termNow_66 {d : Nat} {S : hs_T} {Q : Option av_T → hs_T → Prop} {y0 : Int32} (kt : y0 = 0 → Ev d mX11_termNow 71 [some (vR 11 0)] [] S Q) (kf : ¬ y0 = 0 → Ev d mX11_termNow 69 [some (vR 11 0)] [] S Q) : Ev d mX11_termNow 66 [some (vR 11 0)] [vI y0] S Q := by
  exact Ev.if_eq (tgt := 71) dX11_termNow_66 (by decide) kt kf
theorem bkX11_termNow_69 {d : Nat} {S : hs_T} {Q : Option av_T → hs_T → Prop} (hq : Q (some (vI 3)) S) : Ev d mX11_termNow 69 [some (vR 11 0)] [] S Q := by
  refine Ev.iconst (v := 3) dX11_termNow_69 (by decide) ?_
  exact Ev.iret dX11_termNow_70 rfl rfl hq
theorem bkX11_termNow_71 {d : Nat} {S : hs_T} {Q : Option av_T → hs_T → Prop} {P : Int32 → hs_T → Prop} (hC : Ci d mX11_is [vR 11 0, vI 2, vI 105, vI 115, vI 0, vI 0] S P) (kk : ∀ v S', P v S' → Ev (d + 1) mX11_termNow 82 [some (vR 11 0)] [vI v] S' Q) : Ev (d + 1) mX11_termNow 71 [some (vR 11 0)] [] S Q := by
  refine Ev.aload_n dX11_termNow_71 rfl rfl ?_
  refine Ev.iconst (v := 2) dX11_termNow_72 (by decide) ?_
  refine Ev.bipush (v := 105) dX11_termNow_73 (by decide) ?_
  refine Ev.bipush (v := 115) dX11_termNow_75 (by decide) ?_
  refine Ev.iconst (v := 0) dX11_termNow_77 (by decide) ?_
  refine Ev.iconst (v := 0) dX11_termNow_78 (by decide) ?_
  exact Ev.callV (as := [vI 2, vI 105, vI 115, vI 0, vI 0]) (rest := []) okX11_is in_X11_is ml_X11_78 rfl (Nat.le_of_ble_eq_true rfl) pz_11_0 (by decide) rfl rfl dX11_termNow_79 hC (fun r S' h => by obtain ⟨v, rfl, h⟩ := h; exact kk v S' h)
theorem bkX11_termNow_82 {d : Nat} {S : hs_T} {Q : Option av_T → hs_T → Prop} {y0 : Int32} (kt : y0 = 0 → Ev d mX11_termNow 87 [some (vR 11 0)] [] S Q) (kf : ¬ y0 = 0 → Ev d mX11_termNow 85 [some (vR 11 0)] [] S Q) : Ev d mX11_termNow 82 [some (vR 11 0)] [vI y0] S Q := by
  exact Ev.if_eq (tgt := 87) dX11_termNow_82 (by decide) kt kf
theorem bkX11_termNow_85 {d : Nat} {S : hs_T} {Q : Option av_T → hs_T → Prop} (hq : Q (some (vI 4)) S) : Ev d mX11_termNow 85 [some (vR 11 0)] [] S Q := by
  refine Ev.iconst (v := 4) dX11_termNow_85 (by decide) ?_
  exact Ev.iret dX11_termNow_86 rfl rfl hq
theorem bkX11_termNow_87 {d : Nat} {S : hs_T} {Q : Option av_T → hs_T → Prop} {P : Int32 → hs_T → Prop} (hC : Ci d mX11_is [vR 11 0, vI 3, vI 110, vI 111, vI 116, vI 0] S P) (kk : ∀ v S', P v S' → Ev (d + 1) mX11_termNow 99 [some (vR 11 0)] [vI v] S' Q) : Ev (d + 1) mX11_termNow 87 [some (vR 11 0)] [] S Q := by
  refine Ev.aload_n dX11_termNow_87 rfl rfl ?_
  refine Ev.iconst (v := 3) dX11_termNow_88 (by decide) ?_
  refine Ev.bipush (v := 110) dX11_termNow_89 (by decide) ?_
  refine Ev.bipush (v := 111) dX11_termNow_91 (by decide) ?_
  refine Ev.bipush (v := 116) dX11_termNow_93 (by decide) ?_
  refine Ev.iconst (v := 0) dX11_termNow_95 (by decide) ?_
  exact Ev.callV (as := [vI 3, vI 110, vI 111, vI 116, vI 0]) (rest := []) okX11_is in_X11_is ml_X11_78 rfl (Nat.le_of_ble_eq_true rfl) pz_11_0 (by decide) rfl rfl dX11_termNow_96 hC (fun r S' h => by obtain ⟨v, rfl, h⟩ := h; exact kk v S' h)
theorem bkX11_termNow_99 {d : Nat} {S : hs_T} {Q : Option av_T → hs_T → Prop} {y0 : Int32} (kt : y0 = 0 → Ev d mX11_termNow 104 [some (vR 11 0)] [] S Q) (kf : ¬ y0 = 0 → Ev d mX11_termNow 102 [some (vR 11 0)] [] S Q) : Ev d mX11_termNow 99 [some (vR 11 0)] [vI y0] S Q := by
  exact Ev.if_eq (tgt := 104) dX11_termNow_99 (by decide) kt kf
theorem bkX11_termNow_102 {d : Nat} {S : hs_T} {Q : Option av_T → hs_T → Prop} (hq : Q (some (vI 5)) S) : Ev d mX11_termNow 102 [some (vR 11 0)] [] S Q := by
  refine Ev.iconst (v := 5) dX11_termNow_102 (by decide) ?_
  exact Ev.iret dX11_termNow_103 rfl rfl hq
theorem bkX11_termNow_104 {d : Nat} {S : hs_T} {Q : Option av_T → hs_T → Prop} {P : Int32 → hs_T → Prop} (hC : Ci d mX11_is [vR 11 0, vI 5, vI 97, vI 102, vI 116, vI 101] S P) (kk : ∀ v S', P v S' → Ev (d + 1) mX11_termNow 117 [some (vR 11 0)] [vI v] S' Q) : Ev (d + 1) mX11_termNow 104 [some (vR 11 0)] [] S Q := by
  refine Ev.aload_n dX11_termNow_104 rfl rfl ?_
  refine Ev.iconst (v := 5) dX11_termNow_105 (by decide) ?_
  refine Ev.bipush (v := 97) dX11_termNow_106 (by decide) ?_
  refine Ev.bipush (v := 102) dX11_termNow_108 (by decide) ?_
  refine Ev.bipush (v := 116) dX11_termNow_110 (by decide) ?_
  refine Ev.bipush (v := 101) dX11_termNow_112 (by decide) ?_
  exact Ev.callV (as := [vI 5, vI 97, vI 102, vI 116, vI 101]) (rest := []) okX11_is in_X11_is ml_X11_78 rfl (Nat.le_of_ble_eq_true rfl) pz_11_0 (by decide) rfl rfl dX11_termNow_114 hC (fun r S' h => by obtain ⟨v, rfl, h⟩ := h; exact kk v S' h)
theorem bkX11_termNow_117 {d : Nat} {S : hs_T} {Q : Option av_T → hs_T → Prop} {y0 : Int32} (kt : y0 = 0 → Ev d mX11_termNow 140 [some (vR 11 0)] [] S Q) (kf : ¬ y0 = 0 → Ev d mX11_termNow 120 [some (vR 11 0)] [] S Q) : Ev d mX11_termNow 117 [some (vR 11 0)] [vI y0] S Q := by
  exact Ev.if_eq (tgt := 140) dX11_termNow_117 (by decide) kt kf
theorem bkX11_termNow_120 {d : Nat} {S : hs_T} {Q : Option av_T → hs_T → Prop} {P : Int32 → hs_T → Prop} (hC : Ci d mX11_look [vR 11 0, vI ((S.1 11 0 10) + 4)] S P) (kk : ∀ v S', P v S' → Ev (d + 1) mX11_termNow 130 [some (vR 11 0)] [vI v] S' Q) : Ev (d + 1) mX11_termNow 120 [some (vR 11 0)] [] S Q := by
  refine Ev.aload_n dX11_termNow_120 rfl rfl ?_
  refine Ev.aload_n dX11_termNow_121 rfl rfl ?_
  refine Ev.get (v := vI (S.1 11 0 10)) okX11 (by decide) fl_X11_65 pz_11_0 (ff_11_10 _ _) dX11_termNow_122 ?_
  refine Ev.iconst (v := 4) dX11_termNow_125 (by decide) ?_
  refine Ev.iadd dX11_termNow_126 ?_
  exact Ev.callV (as := [vI ((S.1 11 0 10) + 4)]) (rest := []) okX11_look in_X11_look ml_X11_74 rfl (Nat.le_of_ble_eq_true rfl) pz_11_0 (by decide) rfl rfl dX11_termNow_127 hC (fun r S' h => by obtain ⟨v, rfl, h⟩ := h; exact kk v S' h)
theorem bkX11_termNow_130 {d : Nat} {S : hs_T} {Q : Option av_T → hs_T → Prop} {y0 : Int32} (kt : ¬ y0 = 114 → Ev d mX11_termNow 140 [some (vR 11 0)] [] S Q) (kf : y0 = 114 → Ev d mX11_termNow 135 [some (vR 11 0)] [] S Q) : Ev d mX11_termNow 130 [some (vR 11 0)] [vI y0] S Q := by
  refine Ev.bipush (v := 114) dX11_termNow_130 (by decide) ?_
  exact Ev.icmp_ne (tgt := 140) dX11_termNow_132 (by decide) kt kf
theorem bkX11_termNow_135 {d : Nat} {S : hs_T} {Q : Option av_T → hs_T → Prop} (kn : Ev d mX11_termNow 142 [some (vR 11 0)] [vI 6] S Q) : Ev d mX11_termNow 135 [some (vR 11 0)] [] S Q := by
  refine Ev.bipush (v := 6) dX11_termNow_135 (by decide) ?_
  refine Ev.goto (tgt := 142) dX11_termNow_137 (by decide) ?_
  exact kn
theorem bkX11_termNow_140 {d : Nat} {S : hs_T} {Q : Option av_T → hs_T → Prop} (kn : Ev d mX11_termNow 142 [some (vR 11 0)] [vI (-4)] S Q) : Ev d mX11_termNow 140 [some (vR 11 0)] [] S Q := by
  refine Ev.bipush (v := (-4)) dX11_termNow_140 (by decide) ?_
  exact kn
theorem bkX11_termNow_142 {d : Nat} {S : hs_T} {Q : Option av_T → hs_T → Prop} {y0 : Int32} (hq : Q (some (vI y0)) S) : Ev d mX11_termNow 142 [some (vR 11 0)] [vI y0] S Q := by
  exact Ev.iret dX11_termNow_142 rfl rfl hq
/-! EightWiresModel.lineNow()I -/
theorem bkX11_lineNow_0 {d : Nat} {S : hs_T} {Q : Option av_T → hs_T → Prop} {P : Int32 → hs_T → Prop} (hC : Ci d mX11_is [vR 11 0, vI 5, vI 115, vI 116, vI 97, vI 116] S P) (kk : ∀ v S', P v S' → Ev (d + 1) mX11_lineNow 13 [some (vR 11 0)] [vI v] S' Q) : Ev (d + 1) mX11_lineNow 0 [some (vR 11 0)] [] S Q := by
  refine Ev.aload_n dX11_lineNow_0 rfl rfl ?_
  refine Ev.iconst (v := 5) dX11_lineNow_1 (by decide) ?_
  refine Ev.bipush (v := 115) dX11_lineNow_2 (by decide) ?_
  refine Ev.bipush (v := 116) dX11_lineNow_4 (by decide) ?_
  refine Ev.bipush (v := 97) dX11_lineNow_6 (by decide) ?_
  refine Ev.bipush (v := 116) dX11_lineNow_8 (by decide) ?_
  exact Ev.callV (as := [vI 5, vI 115, vI 116, vI 97, vI 116]) (rest := []) okX11_is in_X11_is ml_X11_78 rfl (Nat.le_of_ble_eq_true rfl) pz_11_0 (by decide) rfl rfl dX11_lineNow_10 hC (fun r S' h => by obtain ⟨v, rfl, h⟩ := h; exact kk v S' h)
theorem bkX11_lineNow_13 {d : Nat} {S : hs_T} {Q : Option av_T → hs_T → Prop} {y0 : Int32} (kt : y0 = 0 → Ev d mX11_lineNow 34 [some (vR 11 0)] [] S Q) (kf : ¬ y0 = 0 → Ev d mX11_lineNow 16 [some (vR 11 0)] [] S Q) : Ev d mX11_lineNow 13 [some (vR 11 0)] [vI y0] S Q := by
  exact Ev.if_eq (tgt := 34) dX11_lineNow_13 (by decide) kt kf
theorem bkX11_lineNow_16 {d : Nat} {S : hs_T} {Q : Option av_T → hs_T → Prop} {P : Int32 → hs_T → Prop} (hC : Ci d mX11_look [vR 11 0, vI ((S.1 11 0 10) + 4)] S P) (kk : ∀ v S', P v S' → Ev (d + 1) mX11_lineNow 26 [some (vR 11 0)] [vI v] S' Q) : Ev (d + 1) mX11_lineNow 16 [some (vR 11 0)] [] S Q := by
  refine Ev.aload_n dX11_lineNow_16 rfl rfl ?_
  refine Ev.aload_n dX11_lineNow_17 rfl rfl ?_
  refine Ev.get (v := vI (S.1 11 0 10)) okX11 (by decide) fl_X11_65 pz_11_0 (ff_11_10 _ _) dX11_lineNow_18 ?_
  refine Ev.iconst (v := 4) dX11_lineNow_21 (by decide) ?_
  refine Ev.iadd dX11_lineNow_22 ?_
  exact Ev.callV (as := [vI ((S.1 11 0 10) + 4)]) (rest := []) okX11_look in_X11_look ml_X11_74 rfl (Nat.le_of_ble_eq_true rfl) pz_11_0 (by decide) rfl rfl dX11_lineNow_23 hC (fun r S' h => by obtain ⟨v, rfl, h⟩ := h; exact kk v S' h)
theorem bkX11_lineNow_26 {d : Nat} {S : hs_T} {Q : Option av_T → hs_T → Prop} {y0 : Int32} (kt : ¬ y0 = 101 → Ev d mX11_lineNow 34 [some (vR 11 0)] [] S Q) (kf : y0 = 101 → Ev d mX11_lineNow 31 [some (vR 11 0)] [] S Q) : Ev d mX11_lineNow 26 [some (vR 11 0)] [vI y0] S Q := by
  refine Ev.bipush (v := 101) dX11_lineNow_26 (by decide) ?_
  exact Ev.icmp_ne (tgt := 34) dX11_lineNow_28 (by decide) kt kf
theorem bkX11_lineNow_31 {d : Nat} {S : hs_T} {Q : Option av_T → hs_T → Prop} (hq : Q (some (vI 20)) S) : Ev d mX11_lineNow 31 [some (vR 11 0)] [] S Q := by
  refine Ev.bipush (v := 20) dX11_lineNow_31 (by decide) ?_
  exact Ev.iret dX11_lineNow_33 rfl rfl hq
theorem bkX11_lineNow_34 {d : Nat} {S : hs_T} {Q : Option av_T → hs_T → Prop} {P : Int32 → hs_T → Prop} (hC : Ci d mX11_is [vR 11 0, vI 4, vI 107, vI 101, vI 101, vI 112] S P) (kk : ∀ v S', P v S' → Ev (d + 1) mX11_lineNow 47 [some (vR 11 0)] [vI v] S' Q) : Ev (d + 1) mX11_lineNow 34 [some (vR 11 0)] [] S Q := by
  refine Ev.aload_n dX11_lineNow_34 rfl rfl ?_
  refine Ev.iconst (v := 4) dX11_lineNow_35 (by decide) ?_
  refine Ev.bipush (v := 107) dX11_lineNow_36 (by decide) ?_
  refine Ev.bipush (v := 101) dX11_lineNow_38 (by decide) ?_
  refine Ev.bipush (v := 101) dX11_lineNow_40 (by decide) ?_
  refine Ev.bipush (v := 112) dX11_lineNow_42 (by decide) ?_
  exact Ev.callV (as := [vI 4, vI 107, vI 101, vI 101, vI 112]) (rest := []) okX11_is in_X11_is ml_X11_78 rfl (Nat.le_of_ble_eq_true rfl) pz_11_0 (by decide) rfl rfl dX11_lineNow_44 hC (fun r S' h => by obtain ⟨v, rfl, h⟩ := h; exact kk v S' h)
theorem bkX11_lineNow_47 {d : Nat} {S : hs_T} {Q : Option av_T → hs_T → Prop} {y0 : Int32} (kt : y0 = 0 → Ev d mX11_lineNow 53 [some (vR 11 0)] [] S Q) (kf : ¬ y0 = 0 → Ev d mX11_lineNow 50 [some (vR 11 0)] [] S Q) : Ev d mX11_lineNow 47 [some (vR 11 0)] [vI y0] S Q := by
  exact Ev.if_eq (tgt := 53) dX11_lineNow_47 (by decide) kt kf
theorem bkX11_lineNow_50 {d : Nat} {S : hs_T} {Q : Option av_T → hs_T → Prop} (hq : Q (some (vI 21)) S) : Ev d mX11_lineNow 50 [some (vR 11 0)] [] S Q := by
  refine Ev.bipush (v := 21) dX11_lineNow_50 (by decide) ?_
  exact Ev.iret dX11_lineNow_52 rfl rfl hq
theorem bkX11_lineNow_53 {d : Nat} {S : hs_T} {Q : Option av_T → hs_T → Prop} {P : Int32 → hs_T → Prop} (hC : Ci d mX11_is [vR 11 0, vI 5, vI 100, vI 101, vI 112, vI 116] S P) (kk : ∀ v S', P v S' → Ev (d + 1) mX11_lineNow 66 [some (vR 11 0)] [vI v] S' Q) : Ev (d + 1) mX11_lineNow 53 [some (vR 11 0)] [] S Q := by
  refine Ev.aload_n dX11_lineNow_53 rfl rfl ?_
  refine Ev.iconst (v := 5) dX11_lineNow_54 (by decide) ?_
  refine Ev.bipush (v := 100) dX11_lineNow_55 (by decide) ?_
  refine Ev.bipush (v := 101) dX11_lineNow_57 (by decide) ?_
  refine Ev.bipush (v := 112) dX11_lineNow_59 (by decide) ?_
  refine Ev.bipush (v := 116) dX11_lineNow_61 (by decide) ?_
  exact Ev.callV (as := [vI 5, vI 100, vI 101, vI 112, vI 116]) (rest := []) okX11_is in_X11_is ml_X11_78 rfl (Nat.le_of_ble_eq_true rfl) pz_11_0 (by decide) rfl rfl dX11_lineNow_63 hC (fun r S' h => by obtain ⟨v, rfl, h⟩ := h; exact kk v S' h)
theorem bkX11_lineNow_66 {d : Nat} {S : hs_T} {Q : Option av_T → hs_T → Prop} {y0 : Int32} (kt : y0 = 0 → Ev d mX11_lineNow 87 [some (vR 11 0)] [] S Q) (kf : ¬ y0 = 0 → Ev d mX11_lineNow 69 [some (vR 11 0)] [] S Q) : Ev d mX11_lineNow 66 [some (vR 11 0)] [vI y0] S Q := by
  exact Ev.if_eq (tgt := 87) dX11_lineNow_66 (by decide) kt kf
theorem bkX11_lineNow_69 {d : Nat} {S : hs_T} {Q : Option av_T → hs_T → Prop} {P : Int32 → hs_T → Prop} (hC : Ci d mX11_look [vR 11 0, vI ((S.1 11 0 10) + 4)] S P) (kk : ∀ v S', P v S' → Ev (d + 1) mX11_lineNow 79 [some (vR 11 0)] [vI v] S' Q) : Ev (d + 1) mX11_lineNow 69 [some (vR 11 0)] [] S Q := by
  refine Ev.aload_n dX11_lineNow_69 rfl rfl ?_
  refine Ev.aload_n dX11_lineNow_70 rfl rfl ?_
  refine Ev.get (v := vI (S.1 11 0 10)) okX11 (by decide) fl_X11_65 pz_11_0 (ff_11_10 _ _) dX11_lineNow_71 ?_
  refine Ev.iconst (v := 4) dX11_lineNow_74 (by decide) ?_
  refine Ev.iadd dX11_lineNow_75 ?_
  exact Ev.callV (as := [vI ((S.1 11 0 10) + 4)]) (rest := []) okX11_look in_X11_look ml_X11_74 rfl (Nat.le_of_ble_eq_true rfl) pz_11_0 (by decide) rfl rfl dX11_lineNow_76 hC (fun r S' h => by obtain ⟨v, rfl, h⟩ := h; exact kk v S' h)
theorem bkX11_lineNow_79 {d : Nat} {S : hs_T} {Q : Option av_T → hs_T → Prop} {y0 : Int32} (kt : ¬ y0 = 104 → Ev d mX11_lineNow 87 [some (vR 11 0)] [] S Q) (kf : y0 = 104 → Ev d mX11_lineNow 84 [some (vR 11 0)] [] S Q) : Ev d mX11_lineNow 79 [some (vR 11 0)] [vI y0] S Q := by
  refine Ev.bipush (v := 104) dX11_lineNow_79 (by decide) ?_
  exact Ev.icmp_ne (tgt := 87) dX11_lineNow_81 (by decide) kt kf
theorem bkX11_lineNow_84 {d : Nat} {S : hs_T} {Q : Option av_T → hs_T → Prop} (hq : Q (some (vI 22)) S) : Ev d mX11_lineNow 84 [some (vR 11 0)] [] S Q := by
  refine Ev.bipush (v := 22) dX11_lineNow_84 (by decide) ?_
  exact Ev.iret dX11_lineNow_86 rfl rfl hq
theorem bkX11_lineNow_87 {d : Nat} {S : hs_T} {Q : Option av_T → hs_T → Prop} {P : Int32 → hs_T → Prop} (hC : Ci d mX11_is [vR 11 0, vI 5, vI 97, vI 104, vI 101, vI 97] S P) (kk : ∀ v S', P v S' → Ev (d + 1) mX11_lineNow 100 [some (vR 11 0)] [vI v] S' Q) : Ev (d + 1) mX11_lineNow 87 [some (vR 11 0)] [] S Q := by
  refine Ev.aload_n dX11_lineNow_87 rfl rfl ?_
  refine Ev.iconst (v := 5) dX11_lineNow_88 (by decide) ?_
  refine Ev.bipush (v := 97) dX11_lineNow_89 (by decide) ?_
  refine Ev.bipush (v := 104) dX11_lineNow_91 (by decide) ?_
  refine Ev.bipush (v := 101) dX11_lineNow_93 (by decide) ?_
  refine Ev.bipush (v := 97) dX11_lineNow_95 (by decide) ?_
  exact Ev.callV (as := [vI 5, vI 97, vI 104, vI 101, vI 97]) (rest := []) okX11_is in_X11_is ml_X11_78 rfl (Nat.le_of_ble_eq_true rfl) pz_11_0 (by decide) rfl rfl dX11_lineNow_97 hC (fun r S' h => by obtain ⟨v, rfl, h⟩ := h; exact kk v S' h)
theorem bkX11_lineNow_100 {d : Nat} {S : hs_T} {Q : Option av_T → hs_T → Prop} {y0 : Int32} (kt : y0 = 0 → Ev d mX11_lineNow 123 [some (vR 11 0)] [] S Q) (kf : ¬ y0 = 0 → Ev d mX11_lineNow 103 [some (vR 11 0)] [] S Q) : Ev d mX11_lineNow 100 [some (vR 11 0)] [vI y0] S Q := by
  exact Ev.if_eq (tgt := 123) dX11_lineNow_100 (by decide) kt kf
theorem bkX11_lineNow_103 {d : Nat} {S : hs_T} {Q : Option av_T → hs_T → Prop} {P : Int32 → hs_T → Prop} (hC : Ci d mX11_look [vR 11 0, vI ((S.1 11 0 10) + 4)] S P) (kk : ∀ v S', P v S' → Ev (d + 1) mX11_lineNow 113 [some (vR 11 0)] [vI v] S' Q) : Ev (d + 1) mX11_lineNow 103 [some (vR 11 0)] [] S Q := by
  refine Ev.aload_n dX11_lineNow_103 rfl rfl ?_
  refine Ev.aload_n dX11_lineNow_104 rfl rfl ?_
  refine Ev.get (v := vI (S.1 11 0 10)) okX11 (by decide) fl_X11_65 pz_11_0 (ff_11_10 _ _) dX11_lineNow_105 ?_
  refine Ev.iconst (v := 4) dX11_lineNow_108 (by decide) ?_
  refine Ev.iadd dX11_lineNow_109 ?_
  exact Ev.callV (as := [vI ((S.1 11 0 10) + 4)]) (rest := []) okX11_look in_X11_look ml_X11_74 rfl (Nat.le_of_ble_eq_true rfl) pz_11_0 (by decide) rfl rfl dX11_lineNow_110 hC (fun r S' h => by obtain ⟨v, rfl, h⟩ := h; exact kk v S' h)
theorem bkX11_lineNow_113 {d : Nat} {S : hs_T} {Q : Option av_T → hs_T → Prop} {y0 : Int32} (kt : ¬ y0 = 100 → Ev d mX11_lineNow 123 [some (vR 11 0)] [] S Q) (kf : y0 = 100 → Ev d mX11_lineNow 118 [some (vR 11 0)] [] S Q) : Ev d mX11_lineNow 113 [some (vR 11 0)] [vI y0] S Q := by
  refine Ev.bipush (v := 100) dX11_lineNow_113 (by decide) ?_
  exact Ev.icmp_ne (tgt := 123) dX11_lineNow_115 (by decide) kt kf
theorem bkX11_lineNow_118 {d : Nat} {S : hs_T} {Q : Option av_T → hs_T → Prop} (kn : Ev d mX11_lineNow 125 [some (vR 11 0)] [vI 23] S Q) : Ev d mX11_lineNow 118 [some (vR 11 0)] [] S Q := by
  refine Ev.bipush (v := 23) dX11_lineNow_118 (by decide) ?_
  refine Ev.goto (tgt := 125) dX11_lineNow_120 (by decide) ?_
  exact kn
theorem bkX11_lineNow_123 {d : Nat} {S : hs_T} {Q : Option av_T → hs_T → Prop} (kn : Ev d mX11_lineNow 125 [some (vR 11 0)] [vI (-4)] S Q) : Ev d mX11_lineNow 123 [some (vR 11 0)] [] S Q := by
  refine Ev.bipush (v := (-4)) dX11_lineNow_123 (by decide) ?_
  exact kn
theorem bkX11_lineNow_125 {d : Nat} {S : hs_T} {Q : Option av_T → hs_T → Prop} {y0 : Int32} (hq : Q (some (vI y0)) S) : Ev d mX11_lineNow 125 [some (vR 11 0)] [vI y0] S Q := by
  exact Ev.iret dX11_lineNow_125 rfl rfl hq
/-! EightWiresModel.wordNow()I -/
theorem bkX11_wordNow_0 {d : Nat} {S : hs_T} {Q : Option av_T → hs_T → Prop} {P : Int32 → hs_T → Prop} (hC : Ci d mX11_is [vR 11 0, vI 5, vI 116, vI 105, vI 109, vI 101] S P) (kk : ∀ v S', P v S' → Ev (d + 1) mX11_wordNow 13 [some (vR 11 0)] [vI v] S' Q) : Ev (d + 1) mX11_wordNow 0 [some (vR 11 0)] [] S Q := by
  refine Ev.aload_n dX11_wordNow_0 rfl rfl ?_
  refine Ev.iconst (v := 5) dX11_wordNow_1 (by decide) ?_
  refine Ev.bipush (v := 116) dX11_wordNow_2 (by decide) ?_
  refine Ev.bipush (v := 105) dX11_wordNow_4 (by decide) ?_
  refine Ev.bipush (v := 109) dX11_wordNow_6 (by decide) ?_
  refine Ev.bipush (v := 101) dX11_wordNow_8 (by decide) ?_
  exact Ev.callV (as := [vI 5, vI 116, vI 105, vI 109, vI 101]) (rest := []) okX11_is in_X11_is ml_X11_78 rfl (Nat.le_of_ble_eq_true rfl) pz_11_0 (by decide) rfl rfl dX11_wordNow_10 hC (fun r S' h => by obtain ⟨v, rfl, h⟩ := h; exact kk v S' h)
theorem bkX11_wordNow_13 {d : Nat} {S : hs_T} {Q : Option av_T → hs_T → Prop} {y0 : Int32} (kt : y0 = 0 → Ev d mX11_wordNow 34 [some (vR 11 0)] [] S Q) (kf : ¬ y0 = 0 → Ev d mX11_wordNow 16 [some (vR 11 0)] [] S Q) : Ev d mX11_wordNow 13 [some (vR 11 0)] [vI y0] S Q := by
  exact Ev.if_eq (tgt := 34) dX11_wordNow_13 (by decide) kt kf
theorem bkX11_wordNow_16 {d : Nat} {S : hs_T} {Q : Option av_T → hs_T → Prop} {P : Int32 → hs_T → Prop} (hC : Ci d mX11_look [vR 11 0, vI ((S.1 11 0 10) + 4)] S P) (kk : ∀ v S', P v S' → Ev (d + 1) mX11_wordNow 26 [some (vR 11 0)] [vI v] S' Q) : Ev (d + 1) mX11_wordNow 16 [some (vR 11 0)] [] S Q := by
  refine Ev.aload_n dX11_wordNow_16 rfl rfl ?_
  refine Ev.aload_n dX11_wordNow_17 rfl rfl ?_
  refine Ev.get (v := vI (S.1 11 0 10)) okX11 (by decide) fl_X11_65 pz_11_0 (ff_11_10 _ _) dX11_wordNow_18 ?_
  refine Ev.iconst (v := 4) dX11_wordNow_21 (by decide) ?_
  refine Ev.iadd dX11_wordNow_22 ?_
  exact Ev.callV (as := [vI ((S.1 11 0 10) + 4)]) (rest := []) okX11_look in_X11_look ml_X11_74 rfl (Nat.le_of_ble_eq_true rfl) pz_11_0 (by decide) rfl rfl dX11_wordNow_23 hC (fun r S' h => by obtain ⟨v, rfl, h⟩ := h; exact kk v S' h)
theorem bkX11_wordNow_26 {d : Nat} {S : hs_T} {Q : Option av_T → hs_T → Prop} {y0 : Int32} (kt : ¬ y0 = 115 → Ev d mX11_wordNow 34 [some (vR 11 0)] [] S Q) (kf : y0 = 115 → Ev d mX11_wordNow 31 [some (vR 11 0)] [] S Q) : Ev d mX11_wordNow 26 [some (vR 11 0)] [vI y0] S Q := by
  refine Ev.bipush (v := 115) dX11_wordNow_26 (by decide) ?_
  exact Ev.icmp_ne (tgt := 34) dX11_wordNow_28 (by decide) kt kf
theorem bkX11_wordNow_31 {d : Nat} {S : hs_T} {Q : Option av_T → hs_T → Prop} (hq : Q (some (vI 30)) S) : Ev d mX11_wordNow 31 [some (vR 11 0)] [] S Q := by
  refine Ev.bipush (v := 30) dX11_wordNow_31 (by decide) ?_
  exact Ev.iret dX11_wordNow_33 rfl rfl hq
theorem bkX11_wordNow_34 {d : Nat} {S : hs_T} {Q : Option av_T → hs_T → Prop} {P : Int32 → hs_T → Prop} (hC : Ci d mX11_is [vR 11 0, vI 2, vI 103, vI 111, vI 0, vI 0] S P) (kk : ∀ v S', P v S' → Ev (d + 1) mX11_wordNow 45 [some (vR 11 0)] [vI v] S' Q) : Ev (d + 1) mX11_wordNow 34 [some (vR 11 0)] [] S Q := by
  refine Ev.aload_n dX11_wordNow_34 rfl rfl ?_
  refine Ev.iconst (v := 2) dX11_wordNow_35 (by decide) ?_
  refine Ev.bipush (v := 103) dX11_wordNow_36 (by decide) ?_
  refine Ev.bipush (v := 111) dX11_wordNow_38 (by decide) ?_
  refine Ev.iconst (v := 0) dX11_wordNow_40 (by decide) ?_
  refine Ev.iconst (v := 0) dX11_wordNow_41 (by decide) ?_
  exact Ev.callV (as := [vI 2, vI 103, vI 111, vI 0, vI 0]) (rest := []) okX11_is in_X11_is ml_X11_78 rfl (Nat.le_of_ble_eq_true rfl) pz_11_0 (by decide) rfl rfl dX11_wordNow_42 hC (fun r S' h => by obtain ⟨v, rfl, h⟩ := h; exact kk v S' h)
theorem bkX11_wordNow_45 {d : Nat} {S : hs_T} {Q : Option av_T → hs_T → Prop} {y0 : Int32} (kt : y0 = 0 → Ev d mX11_wordNow 53 [some (vR 11 0)] [] S Q) (kf : ¬ y0 = 0 → Ev d mX11_wordNow 48 [some (vR 11 0)] [] S Q) : Ev d mX11_wordNow 45 [some (vR 11 0)] [vI y0] S Q := by
  exact Ev.if_eq (tgt := 53) dX11_wordNow_45 (by decide) kt kf
theorem bkX11_wordNow_48 {d : Nat} {S : hs_T} {Q : Option av_T → hs_T → Prop} (kn : Ev d mX11_wordNow 75 [some (vR 11 0)] [vI 31] S Q) : Ev d mX11_wordNow 48 [some (vR 11 0)] [] S Q := by
  refine Ev.bipush (v := 31) dX11_wordNow_48 (by decide) ?_
  refine Ev.goto (tgt := 75) dX11_wordNow_50 (by decide) ?_
  exact kn
theorem bkX11_wordNow_53 {d : Nat} {S : hs_T} {Q : Option av_T → hs_T → Prop} {P : Int32 → hs_T → Prop} (hC : Ci d mX11_is [vR 11 0, vI 3, vI 104, vI 105, vI 116, vI 0] S P) (kk : ∀ v S', P v S' → Ev (d + 1) mX11_wordNow 65 [some (vR 11 0)] [vI v] S' Q) : Ev (d + 1) mX11_wordNow 53 [some (vR 11 0)] [] S Q := by
  refine Ev.aload_n dX11_wordNow_53 rfl rfl ?_
  refine Ev.iconst (v := 3) dX11_wordNow_54 (by decide) ?_
  refine Ev.bipush (v := 104) dX11_wordNow_55 (by decide) ?_
  refine Ev.bipush (v := 105) dX11_wordNow_57 (by decide) ?_
  refine Ev.bipush (v := 116) dX11_wordNow_59 (by decide) ?_
  refine Ev.iconst (v := 0) dX11_wordNow_61 (by decide) ?_
  exact Ev.callV (as := [vI 3, vI 104, vI 105, vI 116, vI 0]) (rest := []) okX11_is in_X11_is ml_X11_78 rfl (Nat.le_of_ble_eq_true rfl) pz_11_0 (by decide) rfl rfl dX11_wordNow_62 hC (fun r S' h => by obtain ⟨v, rfl, h⟩ := h; exact kk v S' h)
theorem bkX11_wordNow_65 {d : Nat} {S : hs_T} {Q : Option av_T → hs_T → Prop} {y0 : Int32} (kt : y0 = 0 → Ev d mX11_wordNow 73 [some (vR 11 0)] [] S Q) (kf : ¬ y0 = 0 → Ev d mX11_wordNow 68 [some (vR 11 0)] [] S Q) : Ev d mX11_wordNow 65 [some (vR 11 0)] [vI y0] S Q := by
  exact Ev.if_eq (tgt := 73) dX11_wordNow_65 (by decide) kt kf
theorem bkX11_wordNow_68 {d : Nat} {S : hs_T} {Q : Option av_T → hs_T → Prop} (kn : Ev d mX11_wordNow 75 [some (vR 11 0)] [vI 32] S Q) : Ev d mX11_wordNow 68 [some (vR 11 0)] [] S Q := by
  refine Ev.bipush (v := 32) dX11_wordNow_68 (by decide) ?_
  refine Ev.goto (tgt := 75) dX11_wordNow_70 (by decide) ?_
  exact kn
theorem bkX11_wordNow_73 {d : Nat} {S : hs_T} {Q : Option av_T → hs_T → Prop} (kn : Ev d mX11_wordNow 75 [some (vR 11 0)] [vI (-4)] S Q) : Ev d mX11_wordNow 73 [some (vR 11 0)] [] S Q := by
  refine Ev.bipush (v := (-4)) dX11_wordNow_73 (by decide) ?_
  exact kn
theorem bkX11_wordNow_75 {d : Nat} {S : hs_T} {Q : Option av_T → hs_T → Prop} {y0 : Int32} (hq : Q (some (vI y0)) S) : Ev d mX11_wordNow 75 [some (vR 11 0)] [vI y0] S Q := by
  exact Ev.iret dX11_wordNow_75 rfl rfl hq
/-! EightWiresModel.token()V -/
theorem bkX11_token_0 {d : Nat} {S : hs_T} {Q : Option av_T → hs_T → Prop} {o1 : Option av_T} (kt : (S.1 11 0 13) ≤ 0 → Ev d mX11_token 8 [some (vR 11 0), o1] [] S Q) (kf : ¬ (S.1 11 0 13) ≤ 0 → Ev d mX11_token 7 [some (vR 11 0), o1] [] S Q) : Ev d mX11_token 0 [some (vR 11 0), o1] [] S Q := by
  refine Ev.aload_n dX11_token_0 rfl rfl ?_
  refine Ev.get (v := vI (S.1 11 0 13)) okX11 (by decide) fl_X11_62 pz_11_0 (ff_11_13 _ _) dX11_token_1 ?_
  exact Ev.if_le (tgt := 8) dX11_token_4 (by decide) kt kf
theorem bkX11_token_7 {d : Nat} {S : hs_T} {Q : Option av_T → hs_T → Prop} {o1 : Option av_T} (hq : Q none S) : Ev d mX11_token 7 [some (vR 11 0), o1] [] S Q := by
  exact Ev.vret dX11_token_7 rfl hq
theorem bkX11_token_8 {d : Nat} {S : hs_T} {Q : Option av_T → hs_T → Prop} {P : Int32 → hs_T → Prop} {o1 : Option av_T} (hC : Ci d mX11_look [vR 11 0, vI (S.1 11 0 9)] S P) (kk : ∀ v S', P v S' → Ev (d + 1) mX11_token 16 [some (vR 11 0), o1] [vI v] S' Q) : Ev (d + 1) mX11_token 8 [some (vR 11 0), o1] [] S Q := by
  refine Ev.aload_n dX11_token_8 rfl rfl ?_
  refine Ev.aload_n dX11_token_9 rfl rfl ?_
  refine Ev.get (v := vI (S.1 11 0 9)) okX11 (by decide) fl_X11_71 pz_11_0 (ff_11_9 _ _) dX11_token_10 ?_
  exact Ev.callV (as := [vI (S.1 11 0 9)]) (rest := []) okX11_look in_X11_look ml_X11_74 rfl (Nat.le_of_ble_eq_true rfl) pz_11_0 (by decide) rfl rfl dX11_token_13 hC (fun r S' h => by obtain ⟨v, rfl, h⟩ := h; exact kk v S' h)
theorem bkX11_token_16 {d : Nat} {S : hs_T} {Q : Option av_T → hs_T → Prop} {y0 : Int32} {o1 : Option av_T} (kt : ¬ y0 = 32 → Ev d mX11_token 34 [some (vR 11 0), o1] [] S Q) (kf : y0 = 32 → Ev d mX11_token 21 [some (vR 11 0), o1] [] S Q) : Ev d mX11_token 16 [some (vR 11 0), o1] [vI y0] S Q := by
  refine Ev.bipush (v := 32) dX11_token_16 (by decide) ?_
  exact Ev.icmp_ne (tgt := 34) dX11_token_18 (by decide) kt kf
theorem bkX11_token_21 {d : Nat} {S : hs_T} {Q : Option av_T → hs_T → Prop} {o1 : Option av_T} (kn : Ev d mX11_token 8 [some (vR 11 0), o1] [] (sk_ S 11 0 (upd (S.1 11 0) 9 ((S.1 11 0 9) + 1))) Q) : Ev d mX11_token 21 [some (vR 11 0), o1] [] S Q := by
  refine Ev.aload_n dX11_token_21 rfl rfl ?_
  refine Ev.dup dX11_token_22 rfl ?_
  refine Ev.get (v := vI (S.1 11 0 9)) okX11 (by decide) fl_X11_71 pz_11_0 (ff_11_9 _ _) dX11_token_23 ?_
  refine Ev.iconst (v := 1) dX11_token_26 (by decide) ?_
  refine Ev.iadd dX11_token_27 ?_
  refine Ev.put okX11 (by decide) fl_X11_71 pz_11_0 (by decide) rfl rfl rfl rfl dX11_token_28 ?_
  refine Ev.goto (tgt := 8) dX11_token_31 (by decide) ?_
  exact kn
theorem bkX11_token_34 {d : Nat} {S : hs_T} {Q : Option av_T → hs_T → Prop} {P : Int32 → hs_T → Prop} {o1 : Option av_T} (hC : Ci d mX11_look [vR 11 0, vI ((sk_ S 11 0 (upd (S.1 11 0) 10 (S.1 11 0 9))).1 11 0 9)] (sk_ S 11 0 (upd (S.1 11 0) 10 (S.1 11 0 9))) P) (kk : ∀ v S', P v S' → Ev (d + 1) mX11_token 50 [some (vR 11 0), o1] [vI v] S' Q) : Ev (d + 1) mX11_token 34 [some (vR 11 0), o1] [] S Q := by
  refine Ev.aload_n dX11_token_34 rfl rfl ?_
  refine Ev.aload_n dX11_token_35 rfl rfl ?_
  refine Ev.get (v := vI (S.1 11 0 9)) okX11 (by decide) fl_X11_71 pz_11_0 (ff_11_9 _ _) dX11_token_36 ?_
  refine Ev.put okX11 (by decide) fl_X11_65 pz_11_0 (by decide) rfl rfl rfl rfl dX11_token_39 ?_
  refine Ev.aload_n dX11_token_42 rfl rfl ?_
  refine Ev.aload_n dX11_token_43 rfl rfl ?_
  refine Ev.get (v := vI ((sk_ S 11 0 (upd (S.1 11 0) 10 (S.1 11 0 9))).1 11 0 9)) okX11 (by decide) fl_X11_71 pz_11_0 (ff_11_9 _ _) dX11_token_44 ?_
  exact Ev.callV (as := [vI ((sk_ S 11 0 (upd (S.1 11 0) 10 (S.1 11 0 9))).1 11 0 9)]) (rest := []) okX11_look in_X11_look ml_X11_74 rfl (Nat.le_of_ble_eq_true rfl) pz_11_0 (by decide) rfl rfl dX11_token_47 hC (fun r S' h => by obtain ⟨v, rfl, h⟩ := h; exact kk v S' h)
theorem bkX11_token_50 {d : Nat} {S : hs_T} {Q : Option av_T → hs_T → Prop} {y0 : Int32} {o1 : Option av_T} (kt : 0 ≤ y0 → Ev d mX11_token 63 [some (vR 11 0), some (vI y0)] [] S Q) (kf : ¬ 0 ≤ y0 → Ev d mX11_token 55 [some (vR 11 0), some (vI y0)] [] S Q) : Ev d mX11_token 50 [some (vR 11 0), o1] [vI y0] S Q := by
  refine Ev.istore_n (ls' := [some (vR 11 0), some (vI y0)]) dX11_token_50 rfl (by decide) rfl ?_
  refine Ev.iload_n dX11_token_51 rfl rfl ?_
  exact Ev.if_ge (tgt := 63) dX11_token_52 (by decide) kt kf
theorem bkX11_token_55 {d : Nat} {S : hs_T} {Q : Option av_T → hs_T → Prop} {x1 : Int32} (kn : Ev d mX11_token 306 [some (vR 11 0), some (vI x1)] [] (sk_ S 11 0 (upd (S.1 11 0) 11 0)) Q) : Ev d mX11_token 55 [some (vR 11 0), some (vI x1)] [] S Q := by
  refine Ev.aload_n dX11_token_55 rfl rfl ?_
  refine Ev.iconst (v := 0) dX11_token_56 (by decide) ?_
  refine Ev.put okX11 (by decide) fl_X11_82 pz_11_0 (by decide) rfl rfl rfl rfl dX11_token_57 ?_
  refine Ev.goto (tgt := 306) dX11_token_60 (by decide) ?_
  exact kn
theorem bkX11_token_63 {d : Nat} {S : hs_T} {Q : Option av_T → hs_T → Prop} {P : Int32 → hs_T → Prop} {x1 : Int32} (hC : Ci d mX11_in [vJ x1.toInt64, vJ 97, vJ 122] S P) (kk : ∀ v S', P v S' → Ev (d + 1) mX11_token 74 [some (vR 11 0), some (vI x1)] [vI v] S' Q) : Ev (d + 1) mX11_token 63 [some (vR 11 0), some (vI x1)] [] S Q := by
  refine Ev.iload_n dX11_token_63 rfl rfl ?_
  refine Ev.i2l dX11_token_64 ?_
  refine Ev.ldc2 kl_X11_85 dX11_token_65 ?_
  refine Ev.ldc2 kl_X11_87 dX11_token_68 ?_
  exact Ev.callS (as := [vJ x1.toInt64, vJ 97, vJ 122]) (rest := []) okX11_in stX11_in ml_X11_58 rfl (Nat.le_of_ble_eq_true rfl) rfl dX11_token_71 hC (fun r S' h => by obtain ⟨v, rfl, h⟩ := h; exact kk v S' h)
theorem bkX11_token_74 {d : Nat} {S : hs_T} {Q : Option av_T → hs_T → Prop} {x1 y0 : Int32} (kt : y0 = 0 → Ev d mX11_token 116 [some (vR 11 0), some (vI x1)] [] S Q) (kf : ¬ y0 = 0 → Ev d mX11_token 77 [some (vR 11 0), some (vI x1)] [] S Q) : Ev d mX11_token 74 [some (vR 11 0), some (vI x1)] [vI y0] S Q := by
  exact Ev.if_eq (tgt := 116) dX11_token_74 (by decide) kt kf
theorem bkX11_token_77 {d : Nat} {S : hs_T} {Q : Option av_T → hs_T → Prop} {x1 : Int32} (kn : Ev d mX11_token 82 [some (vR 11 0), some (vI x1)] [] (sk_ S 11 0 (upd (S.1 11 0) 11 1)) Q) : Ev d mX11_token 77 [some (vR 11 0), some (vI x1)] [] S Q := by
  refine Ev.aload_n dX11_token_77 rfl rfl ?_
  refine Ev.iconst (v := 1) dX11_token_78 (by decide) ?_
  refine Ev.put okX11 (by decide) fl_X11_82 pz_11_0 (by decide) rfl rfl rfl rfl dX11_token_79 ?_
  exact kn
theorem bkX11_token_82 {d : Nat} {S : hs_T} {Q : Option av_T → hs_T → Prop} {P : Int32 → hs_T → Prop} {x1 : Int32} (hC : Ci d mX11_look [vR 11 0, vI (S.1 11 0 9)] S P) (kk : ∀ v S', P v S' → Ev (d + 1) mX11_token 90 [some (vR 11 0), some (vI x1)] [vI v] S' Q) : Ev (d + 1) mX11_token 82 [some (vR 11 0), some (vI x1)] [] S Q := by
  refine Ev.aload_n dX11_token_82 rfl rfl ?_
  refine Ev.aload_n dX11_token_83 rfl rfl ?_
  refine Ev.get (v := vI (S.1 11 0 9)) okX11 (by decide) fl_X11_71 pz_11_0 (ff_11_9 _ _) dX11_token_84 ?_
  exact Ev.callV (as := [vI (S.1 11 0 9)]) (rest := []) okX11_look in_X11_look ml_X11_74 rfl (Nat.le_of_ble_eq_true rfl) pz_11_0 (by decide) rfl rfl dX11_token_87 hC (fun r S' h => by obtain ⟨v, rfl, h⟩ := h; exact kk v S' h)
theorem bkX11_token_90 {d : Nat} {S : hs_T} {Q : Option av_T → hs_T → Prop} {P : Int32 → hs_T → Prop} {x1 y0 : Int32} (hC : Ci d mX11_in [vJ y0.toInt64, vJ 97, vJ 122] S P) (kk : ∀ v S', P v S' → Ev (d + 1) mX11_token 100 [some (vR 11 0), some (vI x1)] [vI v] S' Q) : Ev (d + 1) mX11_token 90 [some (vR 11 0), some (vI x1)] [vI y0] S Q := by
  refine Ev.i2l dX11_token_90 ?_
  refine Ev.ldc2 kl_X11_85 dX11_token_91 ?_
  refine Ev.ldc2 kl_X11_87 dX11_token_94 ?_
  exact Ev.callS (as := [vJ y0.toInt64, vJ 97, vJ 122]) (rest := []) okX11_in stX11_in ml_X11_58 rfl (Nat.le_of_ble_eq_true rfl) rfl dX11_token_97 hC (fun r S' h => by obtain ⟨v, rfl, h⟩ := h; exact kk v S' h)
theorem bkX11_token_100 {d : Nat} {S : hs_T} {Q : Option av_T → hs_T → Prop} {x1 y0 : Int32} (kt : y0 = 0 → Ev d mX11_token 306 [some (vR 11 0), some (vI x1)] [] S Q) (kf : ¬ y0 = 0 → Ev d mX11_token 103 [some (vR 11 0), some (vI x1)] [] S Q) : Ev d mX11_token 100 [some (vR 11 0), some (vI x1)] [vI y0] S Q := by
  exact Ev.if_eq (tgt := 306) dX11_token_100 (by decide) kt kf
theorem bkX11_token_103 {d : Nat} {S : hs_T} {Q : Option av_T → hs_T → Prop} {x1 : Int32} (kn : Ev d mX11_token 82 [some (vR 11 0), some (vI x1)] [] (sk_ S 11 0 (upd (S.1 11 0) 9 ((S.1 11 0 9) + 1))) Q) : Ev d mX11_token 103 [some (vR 11 0), some (vI x1)] [] S Q := by
  refine Ev.aload_n dX11_token_103 rfl rfl ?_
  refine Ev.dup dX11_token_104 rfl ?_
  refine Ev.get (v := vI (S.1 11 0 9)) okX11 (by decide) fl_X11_71 pz_11_0 (ff_11_9 _ _) dX11_token_105 ?_
  refine Ev.iconst (v := 1) dX11_token_108 (by decide) ?_
  refine Ev.iadd dX11_token_109 ?_
  refine Ev.put okX11 (by decide) fl_X11_71 pz_11_0 (by decide) rfl rfl rfl rfl dX11_token_110 ?_
  refine Ev.goto (tgt := 82) dX11_token_113 (by decide) ?_
  exact kn
theorem bkX11_token_116 {d : Nat} {S : hs_T} {Q : Option av_T → hs_T → Prop} {P : Int32 → hs_T → Prop} {x1 : Int32} (hC : Ci d mX11_in [vJ x1.toInt64, vJ 48, vJ 57] S P) (kk : ∀ v S', P v S' → Ev (d + 1) mX11_token 127 [some (vR 11 0), some (vI x1)] [vI v] S' Q) : Ev (d + 1) mX11_token 116 [some (vR 11 0), some (vI x1)] [] S Q := by
  refine Ev.iload_n dX11_token_116 rfl rfl ?_
  refine Ev.i2l dX11_token_117 ?_
  refine Ev.ldc2 kl_X11_89 dX11_token_118 ?_
  refine Ev.ldc2 kl_X11_91 dX11_token_121 ?_
  exact Ev.callS (as := [vJ x1.toInt64, vJ 48, vJ 57]) (rest := []) okX11_in stX11_in ml_X11_58 rfl (Nat.le_of_ble_eq_true rfl) rfl dX11_token_124 hC (fun r S' h => by obtain ⟨v, rfl, h⟩ := h; exact kk v S' h)
theorem bkX11_token_127 {d : Nat} {S : hs_T} {Q : Option av_T → hs_T → Prop} {x1 y0 : Int32} (kt : y0 = 0 → Ev d mX11_token 243 [some (vR 11 0), some (vI x1)] [] S Q) (kf : ¬ y0 = 0 → Ev d mX11_token 130 [some (vR 11 0), some (vI x1)] [] S Q) : Ev d mX11_token 127 [some (vR 11 0), some (vI x1)] [vI y0] S Q := by
  exact Ev.if_eq (tgt := 243) dX11_token_127 (by decide) kt kf
theorem bkX11_token_130 {d : Nat} {S : hs_T} {Q : Option av_T → hs_T → Prop} {x1 : Int32} (kn : Ev d mX11_token 140 [some (vR 11 0), some (vI x1)] [] (sk_ (sk_ S 11 0 (upd (S.1 11 0) 11 2)) 11 0 (upd ((sk_ S 11 0 (upd (S.1 11 0) 11 2)).1 11 0) 12 0)) Q) : Ev d mX11_token 130 [some (vR 11 0), some (vI x1)] [] S Q := by
  refine Ev.aload_n dX11_token_130 rfl rfl ?_
  refine Ev.iconst (v := 2) dX11_token_131 (by decide) ?_
  refine Ev.put okX11 (by decide) fl_X11_82 pz_11_0 (by decide) rfl rfl rfl rfl dX11_token_132 ?_
  refine Ev.aload_n dX11_token_135 rfl rfl ?_
  refine Ev.iconst (v := 0) dX11_token_136 (by decide) ?_
  refine Ev.put okX11 (by decide) fl_X11_93 pz_11_0 (by decide) rfl rfl rfl rfl dX11_token_137 ?_
  exact kn
theorem bkX11_token_140 {d : Nat} {S : hs_T} {Q : Option av_T → hs_T → Prop} {P : Int32 → hs_T → Prop} {x1 : Int32} (hC : Ci d mX11_look [vR 11 0, vI (S.1 11 0 9)] S P) (kk : ∀ v S', P v S' → Ev (d + 1) mX11_token 148 [some (vR 11 0), some (vI x1)] [vI v] S' Q) : Ev (d + 1) mX11_token 140 [some (vR 11 0), some (vI x1)] [] S Q := by
  refine Ev.aload_n dX11_token_140 rfl rfl ?_
  refine Ev.aload_n dX11_token_141 rfl rfl ?_
  refine Ev.get (v := vI (S.1 11 0 9)) okX11 (by decide) fl_X11_71 pz_11_0 (ff_11_9 _ _) dX11_token_142 ?_
  exact Ev.callV (as := [vI (S.1 11 0 9)]) (rest := []) okX11_look in_X11_look ml_X11_74 rfl (Nat.le_of_ble_eq_true rfl) pz_11_0 (by decide) rfl rfl dX11_token_145 hC (fun r S' h => by obtain ⟨v, rfl, h⟩ := h; exact kk v S' h)
theorem bkX11_token_148 {d : Nat} {S : hs_T} {Q : Option av_T → hs_T → Prop} {P : Int32 → hs_T → Prop} {x1 y0 : Int32} (hC : Ci d mX11_in [vJ y0.toInt64, vJ 48, vJ 57] S P) (kk : ∀ v S', P v S' → Ev (d + 1) mX11_token 158 [some (vR 11 0), some (vI x1)] [vI v] S' Q) : Ev (d + 1) mX11_token 148 [some (vR 11 0), some (vI x1)] [vI y0] S Q := by
  refine Ev.i2l dX11_token_148 ?_
  refine Ev.ldc2 kl_X11_89 dX11_token_149 ?_
  refine Ev.ldc2 kl_X11_91 dX11_token_152 ?_
  exact Ev.callS (as := [vJ y0.toInt64, vJ 48, vJ 57]) (rest := []) okX11_in stX11_in ml_X11_58 rfl (Nat.le_of_ble_eq_true rfl) rfl dX11_token_155 hC (fun r S' h => by obtain ⟨v, rfl, h⟩ := h; exact kk v S' h)
theorem bkX11_token_158 {d : Nat} {S : hs_T} {Q : Option av_T → hs_T → Prop} {x1 y0 : Int32} (kt : y0 = 0 → Ev d mX11_token 217 [some (vR 11 0), some (vI x1)] [] S Q) (kf : ¬ y0 = 0 → Ev d mX11_token 161 [some (vR 11 0), some (vI x1)] [] S Q) : Ev d mX11_token 158 [some (vR 11 0), some (vI x1)] [vI y0] S Q := by
  exact Ev.if_eq (tgt := 217) dX11_token_158 (by decide) kt kf
theorem bkX11_token_161 {d : Nat} {S : hs_T} {Q : Option av_T → hs_T → Prop} {x1 : Int32} (kt : 3 ≤ ((S.1 11 0 9) - (S.1 11 0 10)) → Ev d mX11_token 197 [some (vR 11 0), some (vI x1)] [vR 11 0] S Q) (kf : ¬ 3 ≤ ((S.1 11 0 9) - (S.1 11 0 10)) → Ev d mX11_token 175 [some (vR 11 0), some (vI x1)] [vR 11 0] S Q) : Ev d mX11_token 161 [some (vR 11 0), some (vI x1)] [] S Q := by
  refine Ev.aload_n dX11_token_161 rfl rfl ?_
  refine Ev.aload_n dX11_token_162 rfl rfl ?_
  refine Ev.get (v := vI (S.1 11 0 9)) okX11 (by decide) fl_X11_71 pz_11_0 (ff_11_9 _ _) dX11_token_163 ?_
  refine Ev.aload_n dX11_token_166 rfl rfl ?_
  refine Ev.get (v := vI (S.1 11 0 10)) okX11 (by decide) fl_X11_65 pz_11_0 (ff_11_10 _ _) dX11_token_167 ?_
  refine Ev.isub dX11_token_170 ?_
  refine Ev.iconst (v := 3) dX11_token_171 (by decide) ?_
  exact Ev.icmp_ge (tgt := 197) dX11_token_172 (by decide) kt kf
theorem bkX11_token_175 {d : Nat} {S : hs_T} {Q : Option av_T → hs_T → Prop} {P : Int32 → hs_T → Prop} {x1 : Int32} (hC : Ci d mX11_look [vR 11 0, vI (S.1 11 0 9)] S P) (kk : ∀ v S', P v S' → Ev (d + 1) mX11_token 190 [some (vR 11 0), some (vI x1)] [vI v, vI (10 * (S.1 11 0 12)), vR 11 0] S' Q) : Ev (d + 1) mX11_token 175 [some (vR 11 0), some (vI x1)] [vR 11 0] S Q := by
  refine Ev.bipush (v := 10) dX11_token_175 (by decide) ?_
  refine Ev.aload_n dX11_token_177 rfl rfl ?_
  refine Ev.get (v := vI (S.1 11 0 12)) okX11 (by decide) fl_X11_93 pz_11_0 (ff_11_12 _ _) dX11_token_178 ?_
  refine Ev.imul dX11_token_181 ?_
  refine Ev.aload_n dX11_token_182 rfl rfl ?_
  refine Ev.aload_n dX11_token_183 rfl rfl ?_
  refine Ev.get (v := vI (S.1 11 0 9)) okX11 (by decide) fl_X11_71 pz_11_0 (ff_11_9 _ _) dX11_token_184 ?_
  exact Ev.callV (as := [vI (S.1 11 0 9)]) (rest := [vI (10 * (S.1 11 0 12)), vR 11 0]) okX11_look in_X11_look ml_X11_74 rfl (Nat.le_of_ble_eq_true rfl) pz_11_0 (by decide) rfl rfl dX11_token_187 hC (fun r S' h => by obtain ⟨v, rfl, h⟩ := h; exact kk v S' h)
theorem bkX11_token_190 {d : Nat} {S : hs_T} {Q : Option av_T → hs_T → Prop} {x1 y0 y1 : Int32} (kn : Ev d mX11_token 201 [some (vR 11 0), some (vI x1)] [vI ((y1 + y0) - 48), vR 11 0] S Q) : Ev d mX11_token 190 [some (vR 11 0), some (vI x1)] [vI y0, vI y1, vR 11 0] S Q := by
  refine Ev.iadd dX11_token_190 ?_
  refine Ev.bipush (v := 48) dX11_token_191 (by decide) ?_
  refine Ev.isub dX11_token_193 ?_
  refine Ev.goto (tgt := 201) dX11_token_194 (by decide) ?_
  exact kn
theorem bkX11_token_197 {d : Nat} {S : hs_T} {Q : Option av_T → hs_T → Prop} {x1 : Int32} (kn : Ev d mX11_token 201 [some (vR 11 0), some (vI x1)] [vI (S.1 11 0 12), vR 11 0] S Q) : Ev d mX11_token 197 [some (vR 11 0), some (vI x1)] [vR 11 0] S Q := by
  refine Ev.aload_n dX11_token_197 rfl rfl ?_
  refine Ev.get (v := vI (S.1 11 0 12)) okX11 (by decide) fl_X11_93 pz_11_0 (ff_11_12 _ _) dX11_token_198 ?_
  exact kn
theorem bkX11_token_201 {d : Nat} {S : hs_T} {Q : Option av_T → hs_T → Prop} {x1 y0 : Int32} (kn : Ev d mX11_token 140 [some (vR 11 0), some (vI x1)] [] (sk_ (sk_ S 11 0 (upd (S.1 11 0) 12 y0)) 11 0 (upd ((sk_ S 11 0 (upd (S.1 11 0) 12 y0)).1 11 0) 9 (((sk_ S 11 0 (upd (S.1 11 0) 12 y0)).1 11 0 9) + 1))) Q) : Ev d mX11_token 201 [some (vR 11 0), some (vI x1)] [vI y0, vR 11 0] S Q := by
  refine Ev.put okX11 (by decide) fl_X11_93 pz_11_0 (by decide) rfl rfl rfl rfl dX11_token_201 ?_
  refine Ev.aload_n dX11_token_204 rfl rfl ?_
  refine Ev.dup dX11_token_205 rfl ?_
  refine Ev.get (v := vI ((sk_ S 11 0 (upd (S.1 11 0) 12 y0)).1 11 0 9)) okX11 (by decide) fl_X11_71 pz_11_0 (ff_11_9 _ _) dX11_token_206 ?_
  refine Ev.iconst (v := 1) dX11_token_209 (by decide) ?_
  refine Ev.iadd dX11_token_210 ?_
  refine Ev.put okX11 (by decide) fl_X11_71 pz_11_0 (by decide) rfl rfl rfl rfl dX11_token_211 ?_
  refine Ev.goto (tgt := 140) dX11_token_214 (by decide) ?_
  exact kn
theorem bkX11_token_217 {d : Nat} {S : hs_T} {Q : Option av_T → hs_T → Prop} {x1 : Int32} (kt : 3 < ((S.1 11 0 9) - (S.1 11 0 10)) → Ev d mX11_token 235 [some (vR 11 0), some (vI x1)] [vR 11 0] S Q) (kf : ¬ 3 < ((S.1 11 0 9) - (S.1 11 0 10)) → Ev d mX11_token 231 [some (vR 11 0), some (vI x1)] [vR 11 0] S Q) : Ev d mX11_token 217 [some (vR 11 0), some (vI x1)] [] S Q := by
  refine Ev.aload_n dX11_token_217 rfl rfl ?_
  refine Ev.aload_n dX11_token_218 rfl rfl ?_
  refine Ev.get (v := vI (S.1 11 0 9)) okX11 (by decide) fl_X11_71 pz_11_0 (ff_11_9 _ _) dX11_token_219 ?_
  refine Ev.aload_n dX11_token_222 rfl rfl ?_
  refine Ev.get (v := vI (S.1 11 0 10)) okX11 (by decide) fl_X11_65 pz_11_0 (ff_11_10 _ _) dX11_token_223 ?_
  refine Ev.isub dX11_token_226 ?_
  refine Ev.iconst (v := 3) dX11_token_227 (by decide) ?_
  exact Ev.icmp_gt (tgt := 235) dX11_token_228 (by decide) kt kf
theorem bkX11_token_231 {d : Nat} {S : hs_T} {Q : Option av_T → hs_T → Prop} {x1 : Int32} (kn : Ev d mX11_token 236 [some (vR 11 0), some (vI x1)] [vI 1, vR 11 0] S Q) : Ev d mX11_token 231 [some (vR 11 0), some (vI x1)] [vR 11 0] S Q := by
  refine Ev.iconst (v := 1) dX11_token_231 (by decide) ?_
  refine Ev.goto (tgt := 236) dX11_token_232 (by decide) ?_
  exact kn
theorem bkX11_token_235 {d : Nat} {S : hs_T} {Q : Option av_T → hs_T → Prop} {x1 : Int32} (kn : Ev d mX11_token 236 [some (vR 11 0), some (vI x1)] [vI 0, vR 11 0] S Q) : Ev d mX11_token 235 [some (vR 11 0), some (vI x1)] [vR 11 0] S Q := by
  refine Ev.iconst (v := 0) dX11_token_235 (by decide) ?_
  exact kn
theorem bkX11_token_236 {d : Nat} {S : hs_T} {Q : Option av_T → hs_T → Prop} {P : hs_T → Prop} {x1 y0 : Int32} (hC : Cv d mX11_needs [vR 11 0, vI y0, vI 1] S P) (kk : ∀ S', P S' → Ev (d + 1) mX11_token 240 [some (vR 11 0), some (vI x1)] [] S' Q) : Ev (d + 1) mX11_token 236 [some (vR 11 0), some (vI x1)] [vI y0, vR 11 0] S Q := by
  refine Ev.iconst (v := 1) dX11_token_236 (by decide) ?_
  exact Ev.callV (as := [vI y0, vI 1]) (rest := []) okX11_needs in_X11_needs ml_X11_96 rfl (Nat.le_of_ble_eq_true rfl) pz_11_0 (by decide) rfl rfl dX11_token_237 hC (fun r S' h => by obtain ⟨rfl, h⟩ := h; exact kk S' h)
theorem bkX11_token_240 {d : Nat} {S : hs_T} {Q : Option av_T → hs_T → Prop} {x1 : Int32} (kn : Ev d mX11_token 306 [some (vR 11 0), some (vI x1)] [] S Q) : Ev d mX11_token 240 [some (vR 11 0), some (vI x1)] [] S Q := by
  refine Ev.goto (tgt := 306) dX11_token_240 (by decide) ?_
  exact kn
theorem bkX11_token_243 {d : Nat} {S : hs_T} {Q : Option av_T → hs_T → Prop} {x1 : Int32} (kt : ¬ x1 = 124 → Ev d mX11_token 254 [some (vR 11 0), some (vI x1)] [vR 11 0] S Q) (kf : x1 = 124 → Ev d mX11_token 250 [some (vR 11 0), some (vI x1)] [vR 11 0] S Q) : Ev d mX11_token 243 [some (vR 11 0), some (vI x1)] [] S Q := by
  refine Ev.aload_n dX11_token_243 rfl rfl ?_
  refine Ev.iload_n dX11_token_244 rfl rfl ?_
  refine Ev.bipush (v := 124) dX11_token_245 (by decide) ?_
  exact Ev.icmp_ne (tgt := 254) dX11_token_247 (by decide) kt kf
theorem bkX11_token_250 {d : Nat} {S : hs_T} {Q : Option av_T → hs_T → Prop} {x1 : Int32} (kn : Ev d mX11_token 265 [some (vR 11 0), some (vI x1)] [vI 4, vR 11 0] S Q) : Ev d mX11_token 250 [some (vR 11 0), some (vI x1)] [vR 11 0] S Q := by
  refine Ev.iconst (v := 4) dX11_token_250 (by decide) ?_
  refine Ev.goto (tgt := 265) dX11_token_251 (by decide) ?_
  exact kn
theorem bkX11_token_254 {d : Nat} {S : hs_T} {Q : Option av_T → hs_T → Prop} {x1 : Int32} (kt : ¬ x1 = 38 → Ev d mX11_token 264 [some (vR 11 0), some (vI x1)] [vR 11 0] S Q) (kf : x1 = 38 → Ev d mX11_token 260 [some (vR 11 0), some (vI x1)] [vR 11 0] S Q) : Ev d mX11_token 254 [some (vR 11 0), some (vI x1)] [vR 11 0] S Q := by
  refine Ev.iload_n dX11_token_254 rfl rfl ?_
  refine Ev.bipush (v := 38) dX11_token_255 (by decide) ?_
  exact Ev.icmp_ne (tgt := 264) dX11_token_257 (by decide) kt kf
theorem bkX11_token_260 {d : Nat} {S : hs_T} {Q : Option av_T → hs_T → Prop} {x1 : Int32} (kn : Ev d mX11_token 265 [some (vR 11 0), some (vI x1)] [vI 5, vR 11 0] S Q) : Ev d mX11_token 260 [some (vR 11 0), some (vI x1)] [vR 11 0] S Q := by
  refine Ev.iconst (v := 5) dX11_token_260 (by decide) ?_
  refine Ev.goto (tgt := 265) dX11_token_261 (by decide) ?_
  exact kn
theorem bkX11_token_264 {d : Nat} {S : hs_T} {Q : Option av_T → hs_T → Prop} {x1 : Int32} (kn : Ev d mX11_token 265 [some (vR 11 0), some (vI x1)] [vI 3, vR 11 0] S Q) : Ev d mX11_token 264 [some (vR 11 0), some (vI x1)] [vR 11 0] S Q := by
  refine Ev.iconst (v := 3) dX11_token_264 (by decide) ?_
  exact kn
theorem bkX11_token_265 {d : Nat} {S : hs_T} {Q : Option av_T → hs_T → Prop} {x1 y0 : Int32} (kt : x1 = 59 → Ev d mX11_token 287 [some (vR 11 0), some (vI x1)] [vR 11 0] (sk_ S 11 0 (upd (S.1 11 0) 11 y0)) Q) (kf : ¬ x1 = 59 → Ev d mX11_token 275 [some (vR 11 0), some (vI x1)] [vR 11 0] (sk_ S 11 0 (upd (S.1 11 0) 11 y0)) Q) : Ev d mX11_token 265 [some (vR 11 0), some (vI x1)] [vI y0, vR 11 0] S Q := by
  refine Ev.put okX11 (by decide) fl_X11_82 pz_11_0 (by decide) rfl rfl rfl rfl dX11_token_265 ?_
  refine Ev.aload_n dX11_token_268 rfl rfl ?_
  refine Ev.iload_n dX11_token_269 rfl rfl ?_
  refine Ev.bipush (v := 59) dX11_token_270 (by decide) ?_
  exact Ev.icmp_eq (tgt := 287) dX11_token_272 (by decide) kt kf
theorem bkX11_token_275 {d : Nat} {S : hs_T} {Q : Option av_T → hs_T → Prop} {x1 : Int32} (kt : x1 = 124 → Ev d mX11_token 287 [some (vR 11 0), some (vI x1)] [vR 11 0] S Q) (kf : ¬ x1 = 124 → Ev d mX11_token 281 [some (vR 11 0), some (vI x1)] [vR 11 0] S Q) : Ev d mX11_token 275 [some (vR 11 0), some (vI x1)] [vR 11 0] S Q := by
  refine Ev.iload_n dX11_token_275 rfl rfl ?_
  refine Ev.bipush (v := 124) dX11_token_276 (by decide) ?_
  exact Ev.icmp_eq (tgt := 287) dX11_token_278 (by decide) kt kf
theorem bkX11_token_281 {d : Nat} {S : hs_T} {Q : Option av_T → hs_T → Prop} {x1 : Int32} (kt : ¬ x1 = 38 → Ev d mX11_token 291 [some (vR 11 0), some (vI x1)] [vR 11 0] S Q) (kf : x1 = 38 → Ev d mX11_token 287 [some (vR 11 0), some (vI x1)] [vR 11 0] S Q) : Ev d mX11_token 281 [some (vR 11 0), some (vI x1)] [vR 11 0] S Q := by
  refine Ev.iload_n dX11_token_281 rfl rfl ?_
  refine Ev.bipush (v := 38) dX11_token_282 (by decide) ?_
  exact Ev.icmp_ne (tgt := 291) dX11_token_284 (by decide) kt kf
theorem bkX11_token_287 {d : Nat} {S : hs_T} {Q : Option av_T → hs_T → Prop} {x1 : Int32} (kn : Ev d mX11_token 292 [some (vR 11 0), some (vI x1)] [vI 1, vR 11 0] S Q) : Ev d mX11_token 287 [some (vR 11 0), some (vI x1)] [vR 11 0] S Q := by
  refine Ev.iconst (v := 1) dX11_token_287 (by decide) ?_
  refine Ev.goto (tgt := 292) dX11_token_288 (by decide) ?_
  exact kn
theorem bkX11_token_291 {d : Nat} {S : hs_T} {Q : Option av_T → hs_T → Prop} {x1 : Int32} (kn : Ev d mX11_token 292 [some (vR 11 0), some (vI x1)] [vI 0, vR 11 0] S Q) : Ev d mX11_token 291 [some (vR 11 0), some (vI x1)] [vR 11 0] S Q := by
  refine Ev.iconst (v := 0) dX11_token_291 (by decide) ?_
  exact kn
theorem bkX11_token_292 {d : Nat} {S : hs_T} {Q : Option av_T → hs_T → Prop} {P : hs_T → Prop} {x1 y0 : Int32} (hC : Cv d mX11_needs [vR 11 0, vI y0, vI 1] S P) (kk : ∀ S', P S' → Ev (d + 1) mX11_token 296 [some (vR 11 0), some (vI x1)] [] S' Q) : Ev (d + 1) mX11_token 292 [some (vR 11 0), some (vI x1)] [vI y0, vR 11 0] S Q := by
  refine Ev.iconst (v := 1) dX11_token_292 (by decide) ?_
  exact Ev.callV (as := [vI y0, vI 1]) (rest := []) okX11_needs in_X11_needs ml_X11_96 rfl (Nat.le_of_ble_eq_true rfl) pz_11_0 (by decide) rfl rfl dX11_token_293 hC (fun r S' h => by obtain ⟨rfl, h⟩ := h; exact kk S' h)
theorem bkX11_token_296 {d : Nat} {S : hs_T} {Q : Option av_T → hs_T → Prop} {x1 : Int32} (kn : Ev d mX11_token 306 [some (vR 11 0), some (vI x1)] [] (sk_ S 11 0 (upd (S.1 11 0) 9 ((S.1 11 0 9) + 1))) Q) : Ev d mX11_token 296 [some (vR 11 0), some (vI x1)] [] S Q := by
  refine Ev.aload_n dX11_token_296 rfl rfl ?_
  refine Ev.dup dX11_token_297 rfl ?_
  refine Ev.get (v := vI (S.1 11 0 9)) okX11 (by decide) fl_X11_71 pz_11_0 (ff_11_9 _ _) dX11_token_298 ?_
  refine Ev.iconst (v := 1) dX11_token_301 (by decide) ?_
  refine Ev.iadd dX11_token_302 ?_
  refine Ev.put okX11 (by decide) fl_X11_71 pz_11_0 (by decide) rfl rfl rfl rfl dX11_token_303 ?_
  exact kn
theorem bkX11_token_306 {d : Nat} {S : hs_T} {Q : Option av_T → hs_T → Prop} {x1 : Int32} (hq : Q none S) : Ev d mX11_token 306 [some (vR 11 0), some (vI x1)] [] S Q := by
  exact Ev.vret dX11_token_306 rfl hq
/-! EightWiresModel.readNumber(II)I -/
theorem bkX11_readNumber_0 {d : Nat} {S : hs_T} {Q : Option av_T → hs_T → Prop} {x1 x2 : Int32} {o3 : Option av_T} (kt : ¬ (S.1 11 0 13) = 0 → Ev d mX11_readNumber 25 [some (vR 11 0), some (vI x1), some (vI x2), o3] [] S Q) (kf : (S.1 11 0 13) = 0 → Ev d mX11_readNumber 7 [some (vR 11 0), some (vI x1), some (vI x2), o3] [] S Q) : Ev d mX11_readNumber 0 [some (vR 11 0), some (vI x1), some (vI x2), o3] [] S Q := by
  refine Ev.aload_n dX11_readNumber_0 rfl rfl ?_
  refine Ev.get (v := vI (S.1 11 0 13)) okX11 (by decide) fl_X11_62 pz_11_0 (ff_11_13 _ _) dX11_readNumber_1 ?_
  exact Ev.if_ne (tgt := 25) dX11_readNumber_4 (by decide) kt kf
theorem bkX11_readNumber_7 {d : Nat} {S : hs_T} {Q : Option av_T → hs_T → Prop} {x1 x2 : Int32} {o3 : Option av_T} (kt : ¬ (S.1 11 0 11) = 2 → Ev d mX11_readNumber 20 [some (vR 11 0), some (vI x1), some (vI x2), o3] [vR 11 0] S Q) (kf : (S.1 11 0 11) = 2 → Ev d mX11_readNumber 16 [some (vR 11 0), some (vI x1), some (vI x2), o3] [vR 11 0] S Q) : Ev d mX11_readNumber 7 [some (vR 11 0), some (vI x1), some (vI x2), o3] [] S Q := by
  refine Ev.aload_n dX11_readNumber_7 rfl rfl ?_
  refine Ev.aload_n dX11_readNumber_8 rfl rfl ?_
  refine Ev.get (v := vI (S.1 11 0 11)) okX11 (by decide) fl_X11_82 pz_11_0 (ff_11_11 _ _) dX11_readNumber_9 ?_
  refine Ev.iconst (v := 2) dX11_readNumber_12 (by decide) ?_
  exact Ev.icmp_ne (tgt := 20) dX11_readNumber_13 (by decide) kt kf
theorem bkX11_readNumber_16 {d : Nat} {S : hs_T} {Q : Option av_T → hs_T → Prop} {x1 x2 : Int32} {o3 : Option av_T} (kn : Ev d mX11_readNumber 21 [some (vR 11 0), some (vI x1), some (vI x2), o3] [vI 1, vR 11 0] S Q) : Ev d mX11_readNumber 16 [some (vR 11 0), some (vI x1), some (vI x2), o3] [vR 11 0] S Q := by
  refine Ev.iconst (v := 1) dX11_readNumber_16 (by decide) ?_
  refine Ev.goto (tgt := 21) dX11_readNumber_17 (by decide) ?_
  exact kn
theorem bkX11_readNumber_20 {d : Nat} {S : hs_T} {Q : Option av_T → hs_T → Prop} {x1 x2 : Int32} {o3 : Option av_T} (kn : Ev d mX11_readNumber 21 [some (vR 11 0), some (vI x1), some (vI x2), o3] [vI 0, vR 11 0] S Q) : Ev d mX11_readNumber 20 [some (vR 11 0), some (vI x1), some (vI x2), o3] [vR 11 0] S Q := by
  refine Ev.iconst (v := 0) dX11_readNumber_20 (by decide) ?_
  exact kn
theorem bkX11_readNumber_21 {d : Nat} {S : hs_T} {Q : Option av_T → hs_T → Prop} {P : hs_T → Prop} {x1 x2 y0 : Int32} {o3 : Option av_T} (hC : Cv d mX11_needs [vR 11 0, vI y0, vI 2] S P) (kk : ∀ S', P S' → Ev (d + 1) mX11_readNumber 25 [some (vR 11 0), some (vI x1), some (vI x2), o3] [] S' Q) : Ev (d + 1) mX11_readNumber 21 [some (vR 11 0), some (vI x1), some (vI x2), o3] [vI y0, vR 11 0] S Q := by
  refine Ev.iconst (v := 2) dX11_readNumber_21 (by decide) ?_
  exact Ev.callV (as := [vI y0, vI 2]) (rest := []) okX11_needs in_X11_needs ml_X11_96 rfl (Nat.le_of_ble_eq_true rfl) pz_11_0 (by decide) rfl rfl dX11_readNumber_22 hC (fun r S' h => by obtain ⟨rfl, h⟩ := h; exact kk S' h)
theorem bkX11_readNumber_25 {d : Nat} {S : hs_T} {Q : Option av_T → hs_T → Prop} {x1 x2 : Int32} {o3 : Option av_T} (kt : ¬ (S.1 11 0 13) = 0 → Ev d mX11_readNumber 49 [some (vR 11 0), some (vI x1), some (vI x2), o3] [] S Q) (kf : (S.1 11 0 13) = 0 → Ev d mX11_readNumber 32 [some (vR 11 0), some (vI x1), some (vI x2), o3] [] S Q) : Ev d mX11_readNumber 25 [some (vR 11 0), some (vI x1), some (vI x2), o3] [] S Q := by
  refine Ev.aload_n dX11_readNumber_25 rfl rfl ?_
  refine Ev.get (v := vI (S.1 11 0 13)) okX11 (by decide) fl_X11_62 pz_11_0 (ff_11_13 _ _) dX11_readNumber_26 ?_
  exact Ev.if_ne (tgt := 49) dX11_readNumber_29 (by decide) kt kf
theorem bkX11_readNumber_32 {d : Nat} {S : hs_T} {Q : Option av_T → hs_T → Prop} {P : Int32 → hs_T → Prop} {x1 x2 : Int32} {o3 : Option av_T} (hC : Ci d mX11_in [vJ ((S.1 11 0 12).toInt64), vJ x1.toInt64, vJ x2.toInt64] S P) (kk : ∀ v S', P v S' → Ev (d + 1) mX11_readNumber 45 [some (vR 11 0), some (vI x1), some (vI x2), o3] [vI v, vR 11 0] S' Q) : Ev (d + 1) mX11_readNumber 32 [some (vR 11 0), some (vI x1), some (vI x2), o3] [] S Q := by
  refine Ev.aload_n dX11_readNumber_32 rfl rfl ?_
  refine Ev.aload_n dX11_readNumber_33 rfl rfl ?_
  refine Ev.get (v := vI (S.1 11 0 12)) okX11 (by decide) fl_X11_93 pz_11_0 (ff_11_12 _ _) dX11_readNumber_34 ?_
  refine Ev.i2l dX11_readNumber_37 ?_
  refine Ev.iload_n dX11_readNumber_38 rfl rfl ?_
  refine Ev.i2l dX11_readNumber_39 ?_
  refine Ev.iload_n dX11_readNumber_40 rfl rfl ?_
  refine Ev.i2l dX11_readNumber_41 ?_
  exact Ev.callS (as := [vJ ((S.1 11 0 12).toInt64), vJ x1.toInt64, vJ x2.toInt64]) (rest := [vR 11 0]) okX11_in stX11_in ml_X11_58 rfl (Nat.le_of_ble_eq_true rfl) rfl dX11_readNumber_42 hC (fun r S' h => by obtain ⟨v, rfl, h⟩ := h; exact kk v S' h)
theorem bkX11_readNumber_45 {d : Nat} {S : hs_T} {Q : Option av_T → hs_T → Prop} {P : hs_T → Prop} {x1 x2 y0 : Int32} {o3 : Option av_T} (hC : Cv d mX11_needs [vR 11 0, vI y0, vI 3] S P) (kk : ∀ S', P S' → Ev (d + 1) mX11_readNumber 49 [some (vR 11 0), some (vI x1), some (vI x2), o3] [] S' Q) : Ev (d + 1) mX11_readNumber 45 [some (vR 11 0), some (vI x1), some (vI x2), o3] [vI y0, vR 11 0] S Q := by
  refine Ev.iconst (v := 3) dX11_readNumber_45 (by decide) ?_
  exact Ev.callV (as := [vI y0, vI 3]) (rest := []) okX11_needs in_X11_needs ml_X11_96 rfl (Nat.le_of_ble_eq_true rfl) pz_11_0 (by decide) rfl rfl dX11_readNumber_46 hC (fun r S' h => by obtain ⟨rfl, h⟩ := h; exact kk S' h)
theorem bkX11_readNumber_49 {d : Nat} {S : hs_T} {Q : Option av_T → hs_T → Prop} {P : hs_T → Prop} {x1 x2 : Int32} {o3 : Option av_T} (hC : Cv d mX11_token [vR 11 0] S P) (kk : ∀ S', P S' → Ev (d + 1) mX11_readNumber 58 [some (vR 11 0), some (vI x1), some (vI x2), some (vI (S.1 11 0 12))] [] S' Q) : Ev (d + 1) mX11_readNumber 49 [some (vR 11 0), some (vI x1), some (vI x2), o3] [] S Q := by
  refine Ev.aload_n dX11_readNumber_49 rfl rfl ?_
  refine Ev.get (v := vI (S.1 11 0 12)) okX11 (by decide) fl_X11_93 pz_11_0 (ff_11_12 _ _) dX11_readNumber_50 ?_
  refine Ev.istore_n (ls' := [some (vR 11 0), some (vI x1), some (vI x2), some (vI (S.1 11 0 12))]) dX11_readNumber_53 rfl (by decide) rfl ?_
  refine Ev.aload_n dX11_readNumber_54 rfl rfl ?_
  exact Ev.callV (as := []) (rest := []) okX11_token in_X11_token ml_X11_100 rfl (Nat.le_of_ble_eq_true rfl) pz_11_0 (by decide) rfl rfl dX11_readNumber_55 hC (fun r S' h => by obtain ⟨rfl, h⟩ := h; exact kk S' h)
theorem bkX11_readNumber_58 {d : Nat} {S : hs_T} {Q : Option av_T → hs_T → Prop} {x1 x2 x3 : Int32} (hq : Q (some (vI x3)) S) : Ev d mX11_readNumber 58 [some (vR 11 0), some (vI x1), some (vI x2), some (vI x3)] [] S Q := by
  refine Ev.iload_n dX11_readNumber_58 rfl rfl ?_
  exact Ev.iret dX11_readNumber_59 rfl rfl hq
/-! EightWiresModel.readCond(I)I -/
theorem bkX11_readCond_0 {d : Nat} {S : hs_T} {Q : Option av_T → hs_T → Prop} {x1 : Int32} {o2 o3 o4 o5 : Option av_T} (kn : Ev d mX11_readCond 4 [some (vR 11 0), some (vI x1), some (vI 0), some (vI 1), o4, o5] [] S Q) : Ev d mX11_readCond 0 [some (vR 11 0), some (vI x1), o2, o3, o4, o5] [] S Q := by
  refine Ev.iconst (v := 0) dX11_readCond_0 (by decide) ?_
  refine Ev.istore_n (ls' := [some (vR 11 0), some (vI x1), some (vI 0), o3, o4, o5]) dX11_readCond_1 rfl (by decide) rfl ?_
  refine Ev.iconst (v := 1) dX11_readCond_2 (by decide) ?_
  refine Ev.istore_n (ls' := [some (vR 11 0), some (vI x1), some (vI 0), some (vI 1), o4, o5]) dX11_readCond_3 rfl (by decide) rfl ?_
  exact kn
theorem bkX11_readCond_4 {d : Nat} {S : hs_T} {Q : Option av_T → hs_T → Prop} {x1 x2 x3 : Int32} {o4 o5 : Option av_T} (kt : ¬ (S.1 11 0 13) = 0 → Ev d mX11_readCond 184 [some (vR 11 0), some (vI x1), some (vI x2), some (vI x3), o4, o5] [] S Q) (kf : (S.1 11 0 13) = 0 → Ev d mX11_readCond 11 [some (vR 11 0), some (vI x1), some (vI x2), some (vI x3), o4, o5] [] S Q) : Ev d mX11_readCond 4 [some (vR 11 0), some (vI x1), some (vI x2), some (vI x3), o4, o5] [] S Q := by
  refine Ev.aload_n dX11_readCond_4 rfl rfl ?_
  refine Ev.get (v := vI (S.1 11 0 13)) okX11 (by decide) fl_X11_62 pz_11_0 (ff_11_13 _ _) dX11_readCond_5 ?_
  exact Ev.if_ne (tgt := 184) dX11_readCond_8 (by decide) kt kf
theorem bkX11_readCond_11 {d : Nat} {S : hs_T} {Q : Option av_T → hs_T → Prop} {x1 x2 x3 : Int32} {o4 o5 : Option av_T} (kt : x3 = 0 → Ev d mX11_readCond 184 [some (vR 11 0), some (vI x1), some (vI x2), some (vI x3), o4, o5] [] S Q) (kf : ¬ x3 = 0 → Ev d mX11_readCond 15 [some (vR 11 0), some (vI x1), some (vI x2), some (vI x3), o4, o5] [] S Q) : Ev d mX11_readCond 11 [some (vR 11 0), some (vI x1), some (vI x2), some (vI x3), o4, o5] [] S Q := by
  refine Ev.iload_n dX11_readCond_11 rfl rfl ?_
  exact Ev.if_eq (tgt := 184) dX11_readCond_12 (by decide) kt kf
theorem bkX11_readCond_15 {d : Nat} {S : hs_T} {Q : Option av_T → hs_T → Prop} {x1 x2 x3 : Int32} {o4 o5 : Option av_T} (kt : ¬ (S.1 11 0 11) = 1 → Ev d mX11_readCond 30 [some (vR 11 0), some (vI x1), some (vI x2), some (vI x3), o4, o5] [] S Q) (kf : (S.1 11 0 11) = 1 → Ev d mX11_readCond 23 [some (vR 11 0), some (vI x1), some (vI x2), some (vI x3), o4, o5] [] S Q) : Ev d mX11_readCond 15 [some (vR 11 0), some (vI x1), some (vI x2), some (vI x3), o4, o5] [] S Q := by
  refine Ev.aload_n dX11_readCond_15 rfl rfl ?_
  refine Ev.get (v := vI (S.1 11 0 11)) okX11 (by decide) fl_X11_82 pz_11_0 (ff_11_11 _ _) dX11_readCond_16 ?_
  refine Ev.iconst (v := 1) dX11_readCond_19 (by decide) ?_
  exact Ev.icmp_ne (tgt := 30) dX11_readCond_20 (by decide) kt kf
theorem bkX11_readCond_23 {d : Nat} {S : hs_T} {Q : Option av_T → hs_T → Prop} {P : Int32 → hs_T → Prop} {x1 x2 x3 : Int32} {o4 o5 : Option av_T} (hC : Ci d mX11_termNow [vR 11 0] S P) (kk : ∀ v S', P v S' → Ev (d + 1) mX11_readCond 27 [some (vR 11 0), some (vI x1), some (vI x2), some (vI x3), o4, o5] [vI v] S' Q) : Ev (d + 1) mX11_readCond 23 [some (vR 11 0), some (vI x1), some (vI x2), some (vI x3), o4, o5] [] S Q := by
  refine Ev.aload_n dX11_readCond_23 rfl rfl ?_
  exact Ev.callV (as := []) (rest := []) okX11_termNow in_X11_termNow ml_X11_103 rfl (Nat.le_of_ble_eq_true rfl) pz_11_0 (by decide) rfl rfl dX11_readCond_24 hC (fun r S' h => by obtain ⟨v, rfl, h⟩ := h; exact kk v S' h)
theorem bkX11_readCond_27 {d : Nat} {S : hs_T} {Q : Option av_T → hs_T → Prop} {x1 x2 x3 y0 : Int32} {o4 o5 : Option av_T} (kn : Ev d mX11_readCond 32 [some (vR 11 0), some (vI x1), some (vI x2), some (vI x3), o4, o5] [vI y0] S Q) : Ev d mX11_readCond 27 [some (vR 11 0), some (vI x1), some (vI x2), some (vI x3), o4, o5] [vI y0] S Q := by
  refine Ev.goto (tgt := 32) dX11_readCond_27 (by decide) ?_
  exact kn
theorem bkX11_readCond_30 {d : Nat} {S : hs_T} {Q : Option av_T → hs_T → Prop} {x1 x2 x3 : Int32} {o4 o5 : Option av_T} (kn : Ev d mX11_readCond 32 [some (vR 11 0), some (vI x1), some (vI x2), some (vI x3), o4, o5] [vI (-4)] S Q) : Ev d mX11_readCond 30 [some (vR 11 0), some (vI x1), some (vI x2), some (vI x3), o4, o5] [] S Q := by
  refine Ev.bipush (v := (-4)) dX11_readCond_30 (by decide) ?_
  exact kn
theorem bkX11_readCond_32 {d : Nat} {S : hs_T} {Q : Option av_T → hs_T → Prop} {x1 x2 x3 y0 : Int32} {o4 o5 : Option av_T} (kt : y0 = (-4) → Ev d mX11_readCond 46 [some (vR 11 0), some (vI x1), some (vI x2), some (vI x3), some (vI y0), o5] [vR 11 0] S Q) (kf : ¬ y0 = (-4) → Ev d mX11_readCond 42 [some (vR 11 0), some (vI x1), some (vI x2), some (vI x3), some (vI y0), o5] [vR 11 0] S Q) : Ev d mX11_readCond 32 [some (vR 11 0), some (vI x1), some (vI x2), some (vI x3), o4, o5] [vI y0] S Q := by
  refine Ev.istore (ls' := [some (vR 11 0), some (vI x1), some (vI x2), some (vI x3), some (vI y0), o5]) dX11_readCond_32 (by decide) rfl ?_
  refine Ev.aload_n dX11_readCond_34 rfl rfl ?_
  refine Ev.iload dX11_readCond_35 rfl ?_
  refine Ev.bipush (v := (-4)) dX11_readCond_37 (by decide) ?_
  exact Ev.icmp_eq (tgt := 46) dX11_readCond_39 (by decide) kt kf
theorem bkX11_readCond_42 {d : Nat} {S : hs_T} {Q : Option av_T → hs_T → Prop} {x1 x2 x3 x4 : Int32} {o5 : Option av_T} (kn : Ev d mX11_readCond 47 [some (vR 11 0), some (vI x1), some (vI x2), some (vI x3), some (vI x4), o5] [vI 1, vR 11 0] S Q) : Ev d mX11_readCond 42 [some (vR 11 0), some (vI x1), some (vI x2), some (vI x3), some (vI x4), o5] [vR 11 0] S Q := by
  refine Ev.iconst (v := 1) dX11_readCond_42 (by decide) ?_
  refine Ev.goto (tgt := 47) dX11_readCond_43 (by decide) ?_
  exact kn
theorem bkX11_readCond_46 {d : Nat} {S : hs_T} {Q : Option av_T → hs_T → Prop} {x1 x2 x3 x4 : Int32} {o5 : Option av_T} (kn : Ev d mX11_readCond 47 [some (vR 11 0), some (vI x1), some (vI x2), some (vI x3), some (vI x4), o5] [vI 0, vR 11 0] S Q) : Ev d mX11_readCond 46 [some (vR 11 0), some (vI x1), some (vI x2), some (vI x3), some (vI x4), o5] [vR 11 0] S Q := by
  refine Ev.iconst (v := 0) dX11_readCond_46 (by decide) ?_
  exact kn
theorem bkX11_readCond_47 {d : Nat} {S : hs_T} {Q : Option av_T → hs_T → Prop} {P : hs_T → Prop} {x1 x2 x3 x4 y0 : Int32} {o5 : Option av_T} (hC : Cv d mX11_needs [vR 11 0, vI y0, vI 2] S P) (kk : ∀ S', P S' → Ev (d + 1) mX11_readCond 51 [some (vR 11 0), some (vI x1), some (vI x2), some (vI x3), some (vI x4), o5] [] S' Q) : Ev (d + 1) mX11_readCond 47 [some (vR 11 0), some (vI x1), some (vI x2), some (vI x3), some (vI x4), o5] [vI y0, vR 11 0] S Q := by
  refine Ev.iconst (v := 2) dX11_readCond_47 (by decide) ?_
  exact Ev.callV (as := [vI y0, vI 2]) (rest := []) okX11_needs in_X11_needs ml_X11_96 rfl (Nat.le_of_ble_eq_true rfl) pz_11_0 (by decide) rfl rfl dX11_readCond_48 hC (fun r S' h => by obtain ⟨rfl, h⟩ := h; exact kk S' h)
theorem bkX11_readCond_51 {d : Nat} {S : hs_T} {Q : Option av_T → hs_T → Prop} {P : hs_T → Prop} {x1 x2 x3 x4 : Int32} {o5 : Option av_T} (hC : Cv d mX11_token [vR 11 0] S P) (kk : ∀ S', P S' → Ev (d + 1) mX11_readCond 55 [some (vR 11 0), some (vI x1), some (vI x2), some (vI x3), some (vI x4), o5] [] S' Q) : Ev (d + 1) mX11_readCond 51 [some (vR 11 0), some (vI x1), some (vI x2), some (vI x3), some (vI x4), o5] [] S Q := by
  refine Ev.aload_n dX11_readCond_51 rfl rfl ?_
  exact Ev.callV (as := []) (rest := []) okX11_token in_X11_token ml_X11_100 rfl (Nat.le_of_ble_eq_true rfl) pz_11_0 (by decide) rfl rfl dX11_readCond_52 hC (fun r S' h => by obtain ⟨rfl, h⟩ := h; exact kk S' h)
theorem bkX11_readCond_55 {d : Nat} {S : hs_T} {Q : Option av_T → hs_T → Prop} {x1 x2 x3 x4 : Int32} {o5 : Option av_T} (kt : ¬ x4 = 6 → Ev d mX11_readCond 67 [some (vR 11 0), some (vI x1), some (vI x2), some (vI x3), some (vI x4), o5] [vR 11 0] S Q) (kf : x4 = 6 → Ev d mX11_readCond 63 [some (vR 11 0), some (vI x1), some (vI x2), some (vI x3), some (vI x4), o5] [vR 11 0] S Q) : Ev d mX11_readCond 55 [some (vR 11 0), some (vI x1), some (vI x2), some (vI x3), some (vI x4), o5] [] S Q := by
  refine Ev.aload_n dX11_readCond_55 rfl rfl ?_
  refine Ev.iload dX11_readCond_56 rfl ?_
  refine Ev.bipush (v := 6) dX11_readCond_58 (by decide) ?_
  exact Ev.icmp_ne (tgt := 67) dX11_readCond_60 (by decide) kt kf
theorem bkX11_readCond_63 {d : Nat} {S : hs_T} {Q : Option av_T → hs_T → Prop} {x1 x2 x3 x4 : Int32} {o5 : Option av_T} (kn : Ev d mX11_readCond 68 [some (vR 11 0), some (vI x1), some (vI x2), some (vI x3), some (vI x4), o5] [vI 1, vR 11 0] S Q) : Ev d mX11_readCond 63 [some (vR 11 0), some (vI x1), some (vI x2), some (vI x3), some (vI x4), o5] [vR 11 0] S Q := by
  refine Ev.iconst (v := 1) dX11_readCond_63 (by decide) ?_
  refine Ev.goto (tgt := 68) dX11_readCond_64 (by decide) ?_
  exact kn
theorem bkX11_readCond_67 {d : Nat} {S : hs_T} {Q : Option av_T → hs_T → Prop} {x1 x2 x3 x4 : Int32} {o5 : Option av_T} (kn : Ev d mX11_readCond 68 [some (vR 11 0), some (vI x1), some (vI x2), some (vI x3), some (vI x4), o5] [vI 0, vR 11 0] S Q) : Ev d mX11_readCond 67 [some (vR 11 0), some (vI x1), some (vI x2), some (vI x3), some (vI x4), o5] [vR 11 0] S Q := by
  refine Ev.iconst (v := 0) dX11_readCond_67 (by decide) ?_
  exact kn
theorem bkX11_readCond_68 {d : Nat} {S : hs_T} {Q : Option av_T → hs_T → Prop} {x1 x2 x3 x4 y0 : Int32} {o5 : Option av_T} (kt : 4 ≤ x4 → Ev d mX11_readCond 79 [some (vR 11 0), some (vI x1), some (vI x2), some (vI x3), some (vI x4), o5] [vI y0, vR 11 0] S Q) (kf : ¬ 4 ≤ x4 → Ev d mX11_readCond 74 [some (vR 11 0), some (vI x1), some (vI x2), some (vI x3), some (vI x4), o5] [vI y0, vR 11 0] S Q) : Ev d mX11_readCond 68 [some (vR 11 0), some (vI x1), some (vI x2), some (vI x3), some (vI x4), o5] [vI y0, vR 11 0] S Q := by
  refine Ev.iload dX11_readCond_68 rfl ?_
  refine Ev.iconst (v := 4) dX11_readCond_70 (by decide) ?_
  exact Ev.icmp_ge (tgt := 79) dX11_readCond_71 (by decide) kt kf
theorem bkX11_readCond_74 {d : Nat} {S : hs_T} {Q : Option av_T → hs_T → Prop} {x1 x2 x3 x4 y0 : Int32} {o5 : Option av_T} (kn : Ev d mX11_readCond 95 [some (vR 11 0), some (vI x1), some (vI x2), some (vI x3), some (vI x4), o5] [vI 7, vI y0, vR 11 0] S Q) : Ev d mX11_readCond 74 [some (vR 11 0), some (vI x1), some (vI x2), some (vI x3), some (vI x4), o5] [vI y0, vR 11 0] S Q := by
  refine Ev.bipush (v := 7) dX11_readCond_74 (by decide) ?_
  refine Ev.goto (tgt := 95) dX11_readCond_76 (by decide) ?_
  exact kn
theorem bkX11_readCond_79 {d : Nat} {S : hs_T} {Q : Option av_T → hs_T → Prop} {x1 x2 x3 x4 y0 : Int32} {o5 : Option av_T} (kt : ¬ x4 = 6 → Ev d mX11_readCond 92 [some (vR 11 0), some (vI x1), some (vI x2), some (vI x3), some (vI x4), o5] [vI y0, vR 11 0] S Q) (kf : x4 = 6 → Ev d mX11_readCond 86 [some (vR 11 0), some (vI x1), some (vI x2), some (vI x3), some (vI x4), o5] [vI y0, vR 11 0] S Q) : Ev d mX11_readCond 79 [some (vR 11 0), some (vI x1), some (vI x2), some (vI x3), some (vI x4), o5] [vI y0, vR 11 0] S Q := by
  refine Ev.iload dX11_readCond_79 rfl ?_
  refine Ev.bipush (v := 6) dX11_readCond_81 (by decide) ?_
  exact Ev.icmp_ne (tgt := 92) dX11_readCond_83 (by decide) kt kf
theorem bkX11_readCond_86 {d : Nat} {S : hs_T} {Q : Option av_T → hs_T → Prop} {x1 x2 x3 x4 y0 : Int32} {o5 : Option av_T} (kn : Ev d mX11_readCond 95 [some (vR 11 0), some (vI x1), some (vI x2), some (vI x3), some (vI x4), o5] [vI 999, vI y0, vR 11 0] S Q) : Ev d mX11_readCond 86 [some (vR 11 0), some (vI x1), some (vI x2), some (vI x3), some (vI x4), o5] [vI y0, vR 11 0] S Q := by
  refine Ev.sipush (v := 999) dX11_readCond_86 (by decide) ?_
  refine Ev.goto (tgt := 95) dX11_readCond_89 (by decide) ?_
  exact kn
theorem bkX11_readCond_92 {d : Nat} {S : hs_T} {Q : Option av_T → hs_T → Prop} {x1 x2 x3 x4 y0 : Int32} {o5 : Option av_T} (kn : Ev d mX11_readCond 95 [some (vR 11 0), some (vI x1), some (vI x2), some (vI x3), some (vI x4), o5] [vI 255, vI y0, vR 11 0] S Q) : Ev d mX11_readCond 92 [some (vR 11 0), some (vI x1), some (vI x2), some (vI x3), some (vI x4), o5] [vI y0, vR 11 0] S Q := by
  refine Ev.sipush (v := 255) dX11_readCond_92 (by decide) ?_
  exact kn
theorem bkX11_readCond_95 {d : Nat} {S : hs_T} {Q : Option av_T → hs_T → Prop} {P : Int32 → hs_T → Prop} {x1 x2 x3 x4 y0 y1 : Int32} {o5 : Option av_T} (hC : Ci d mX11_readNumber [vR 11 0, vI y1, vI y0] S P) (kk : ∀ v S', P v S' → Ev (d + 1) mX11_readCond 98 [some (vR 11 0), some (vI x1), some (vI x2), some (vI x3), some (vI x4), o5] [vI v] S' Q) : Ev (d + 1) mX11_readCond 95 [some (vR 11 0), some (vI x1), some (vI x2), some (vI x3), some (vI x4), o5] [vI y0, vI y1, vR 11 0] S Q := by
  exact Ev.callV (as := [vI y1, vI y0]) (rest := []) okX11_readNumber in_X11_readNumber ml_X11_107 rfl (Nat.le_of_ble_eq_true rfl) pz_11_0 (by decide) rfl rfl dX11_readCond_95 hC (fun r S' h => by obtain ⟨v, rfl, h⟩ := h; exact kk v S' h)
theorem bkX11_readCond_98 {d : Nat} {S : hs_T} {Q : Option av_T → hs_T → Prop} {x1 x2 x3 x4 y0 : Int32} {o5 : Option av_T} (kt : ¬ (S.1 11 0 13) = 0 → Ev d mX11_readCond 137 [some (vR 11 0), some (vI x1), some (vI x2), some (vI x3), some (vI x4), some (vI y0)] [] S Q) (kf : (S.1 11 0 13) = 0 → Ev d mX11_readCond 107 [some (vR 11 0), some (vI x1), some (vI x2), some (vI x3), some (vI x4), some (vI y0)] [] S Q) : Ev d mX11_readCond 98 [some (vR 11 0), some (vI x1), some (vI x2), some (vI x3), some (vI x4), o5] [vI y0] S Q := by
  refine Ev.istore (ls' := [some (vR 11 0), some (vI x1), some (vI x2), some (vI x3), some (vI x4), some (vI y0)]) dX11_readCond_98 (by decide) rfl ?_
  refine Ev.aload_n dX11_readCond_100 rfl rfl ?_
  refine Ev.get (v := vI (S.1 11 0 13)) okX11 (by decide) fl_X11_62 pz_11_0 (ff_11_13 _ _) dX11_readCond_101 ?_
  exact Ev.if_ne (tgt := 137) dX11_readCond_104 (by decide) kt kf
theorem bkX11_readCond_107 {d : Nat} {S : hs_T} {Q : Option av_T → hs_T → Prop} {x1 x2 x3 x4 x5 : Int32} (hi119 : vp_in ((72 + x1) + x2) 234) (hi133 : vp_in ((147 + x1) + x2) 234) (kn : Ev d mX11_readCond 137 [some (vR 11 0), some (vI x1), some (vI (x2 + 1)), some (vI x3), some (vI x4), some (vI x5)] [] (sk_ (sk_ S 1201 0 (upd (S.1 1201 0) (((72 + x1) + x2).toNatClampNeg) x4)) 1201 0 (upd ((sk_ S 1201 0 (upd (S.1 1201 0) (((72 + x1) + x2).toNatClampNeg) x4)).1 1201 0) (((147 + x1) + x2).toNatClampNeg) x5)) Q) : Ev d mX11_readCond 107 [some (vR 11 0), some (vI x1), some (vI x2), some (vI x3), some (vI x4), some (vI x5)] [] S Q := by
  refine Ev.aload_n dX11_readCond_107 rfl rfl ?_
  refine Ev.get (v := vR 1201 0) okX11 (by decide) fl_X11_13 pz_11_0 (ff_11_1 _ _) dX11_readCond_108 ?_
  refine Ev.bipush (v := 72) dX11_readCond_111 (by decide) ?_
  refine Ev.iload_n dX11_readCond_113 rfl rfl ?_
  refine Ev.iadd dX11_readCond_114 ?_
  refine Ev.iload_n dX11_readCond_115 rfl rfl ?_
  refine Ev.iadd dX11_readCond_116 ?_
  refine Ev.iload dX11_readCond_117 rfl ?_
  refine Ev.iastoreA (a := ((72 + x1) + x2).toNatClampNeg) pz_1201_0 (by decide) ak_1201 hi119 rfl rfl dX11_readCond_119 ?_
  refine Ev.aload_n dX11_readCond_120 rfl rfl ?_
  refine Ev.get (v := vR 1201 0) okX11 (by decide) fl_X11_13 pz_11_0 (ff_11_1 _ _) dX11_readCond_121 ?_
  refine Ev.sipush (v := 147) dX11_readCond_124 (by decide) ?_
  refine Ev.iload_n dX11_readCond_127 rfl rfl ?_
  refine Ev.iadd dX11_readCond_128 ?_
  refine Ev.iload_n dX11_readCond_129 rfl rfl ?_
  refine Ev.iadd dX11_readCond_130 ?_
  refine Ev.iload dX11_readCond_131 rfl ?_
  refine Ev.iastoreA (a := ((147 + x1) + x2).toNatClampNeg) pz_1201_0 (by decide) ak_1201 hi133 rfl rfl dX11_readCond_133 ?_
  refine Ev.iinc (v := (x2 + 1)) (ls' := [some (vR 11 0), some (vI x1), some (vI (x2 + 1)), some (vI x3), some (vI x4), some (vI x5)]) dX11_readCond_134 rfl rfl (by decide) rfl ?_
  exact kn
theorem bkX11_readCond_137 {d : Nat} {S : hs_T} {Q : Option av_T → hs_T → Prop} {x1 x2 x3 x4 x5 : Int32} (kt : ¬ (S.1 11 0 13) = 0 → Ev d mX11_readCond 156 [some (vR 11 0), some (vI x1), some (vI x2), some (vI x3), some (vI x4), some (vI x5)] [] S Q) (kf : (S.1 11 0 13) = 0 → Ev d mX11_readCond 144 [some (vR 11 0), some (vI x1), some (vI x2), some (vI x3), some (vI x4), some (vI x5)] [] S Q) : Ev d mX11_readCond 137 [some (vR 11 0), some (vI x1), some (vI x2), some (vI x3), some (vI x4), some (vI x5)] [] S Q := by
  refine Ev.aload_n dX11_readCond_137 rfl rfl ?_
  refine Ev.get (v := vI (S.1 11 0 13)) okX11 (by decide) fl_X11_62 pz_11_0 (ff_11_13 _ _) dX11_readCond_138 ?_
  exact Ev.if_ne (tgt := 156) dX11_readCond_141 (by decide) kt kf
theorem bkX11_readCond_144 {d : Nat} {S : hs_T} {Q : Option av_T → hs_T → Prop} {x1 x2 x3 x4 x5 : Int32} (kt : ¬ (S.1 11 0 11) = 5 → Ev d mX11_readCond 156 [some (vR 11 0), some (vI x1), some (vI x2), some (vI x3), some (vI x4), some (vI x5)] [] S Q) (kf : (S.1 11 0 11) = 5 → Ev d mX11_readCond 152 [some (vR 11 0), some (vI x1), some (vI x2), some (vI x3), some (vI x4), some (vI x5)] [] S Q) : Ev d mX11_readCond 144 [some (vR 11 0), some (vI x1), some (vI x2), some (vI x3), some (vI x4), some (vI x5)] [] S Q := by
  refine Ev.aload_n dX11_readCond_144 rfl rfl ?_
  refine Ev.get (v := vI (S.1 11 0 11)) okX11 (by decide) fl_X11_82 pz_11_0 (ff_11_11 _ _) dX11_readCond_145 ?_
  refine Ev.iconst (v := 5) dX11_readCond_148 (by decide) ?_
  exact Ev.icmp_ne (tgt := 156) dX11_readCond_149 (by decide) kt kf
theorem bkX11_readCond_152 {d : Nat} {S : hs_T} {Q : Option av_T → hs_T → Prop} {x1 x2 x3 x4 x5 : Int32} (kn : Ev d mX11_readCond 157 [some (vR 11 0), some (vI x1), some (vI x2), some (vI x3), some (vI x4), some (vI x5)] [vI 1] S Q) : Ev d mX11_readCond 152 [some (vR 11 0), some (vI x1), some (vI x2), some (vI x3), some (vI x4), some (vI x5)] [] S Q := by
  refine Ev.iconst (v := 1) dX11_readCond_152 (by decide) ?_
  refine Ev.goto (tgt := 157) dX11_readCond_153 (by decide) ?_
  exact kn
theorem bkX11_readCond_156 {d : Nat} {S : hs_T} {Q : Option av_T → hs_T → Prop} {x1 x2 x3 x4 x5 : Int32} (kn : Ev d mX11_readCond 157 [some (vR 11 0), some (vI x1), some (vI x2), some (vI x3), some (vI x4), some (vI x5)] [vI 0] S Q) : Ev d mX11_readCond 156 [some (vR 11 0), some (vI x1), some (vI x2), some (vI x3), some (vI x4), some (vI x5)] [] S Q := by
  refine Ev.iconst (v := 0) dX11_readCond_156 (by decide) ?_
  exact kn
theorem bkX11_readCond_157 {d : Nat} {S : hs_T} {Q : Option av_T → hs_T → Prop} {x1 x2 x3 x4 x5 y0 : Int32} (kt : y0 = 0 → Ev d mX11_readCond 181 [some (vR 11 0), some (vI x1), some (vI x2), some (vI y0), some (vI x4), some (vI x5)] [] S Q) (kf : ¬ y0 = 0 → Ev d mX11_readCond 162 [some (vR 11 0), some (vI x1), some (vI x2), some (vI y0), some (vI x4), some (vI x5)] [] S Q) : Ev d mX11_readCond 157 [some (vR 11 0), some (vI x1), some (vI x2), some (vI x3), some (vI x4), some (vI x5)] [vI y0] S Q := by
  refine Ev.istore_n (ls' := [some (vR 11 0), some (vI x1), some (vI x2), some (vI y0), some (vI x4), some (vI x5)]) dX11_readCond_157 rfl (by decide) rfl ?_
  refine Ev.iload_n dX11_readCond_158 rfl rfl ?_
  exact Ev.if_eq (tgt := 181) dX11_readCond_159 (by decide) kt kf
theorem bkX11_readCond_162 {d : Nat} {S : hs_T} {Q : Option av_T → hs_T → Prop} {x1 x2 x3 x4 x5 : Int32} (kt : 3 ≤ x2 → Ev d mX11_readCond 172 [some (vR 11 0), some (vI x1), some (vI x2), some (vI x3), some (vI x4), some (vI x5)] [vR 11 0] S Q) (kf : ¬ 3 ≤ x2 → Ev d mX11_readCond 168 [some (vR 11 0), some (vI x1), some (vI x2), some (vI x3), some (vI x4), some (vI x5)] [vR 11 0] S Q) : Ev d mX11_readCond 162 [some (vR 11 0), some (vI x1), some (vI x2), some (vI x3), some (vI x4), some (vI x5)] [] S Q := by
  refine Ev.aload_n dX11_readCond_162 rfl rfl ?_
  refine Ev.iload_n dX11_readCond_163 rfl rfl ?_
  refine Ev.iconst (v := 3) dX11_readCond_164 (by decide) ?_
  exact Ev.icmp_ge (tgt := 172) dX11_readCond_165 (by decide) kt kf
theorem bkX11_readCond_168 {d : Nat} {S : hs_T} {Q : Option av_T → hs_T → Prop} {x1 x2 x3 x4 x5 : Int32} (kn : Ev d mX11_readCond 173 [some (vR 11 0), some (vI x1), some (vI x2), some (vI x3), some (vI x4), some (vI x5)] [vI 1, vR 11 0] S Q) : Ev d mX11_readCond 168 [some (vR 11 0), some (vI x1), some (vI x2), some (vI x3), some (vI x4), some (vI x5)] [vR 11 0] S Q := by
  refine Ev.iconst (v := 1) dX11_readCond_168 (by decide) ?_
  refine Ev.goto (tgt := 173) dX11_readCond_169 (by decide) ?_
  exact kn
theorem bkX11_readCond_172 {d : Nat} {S : hs_T} {Q : Option av_T → hs_T → Prop} {x1 x2 x3 x4 x5 : Int32} (kn : Ev d mX11_readCond 173 [some (vR 11 0), some (vI x1), some (vI x2), some (vI x3), some (vI x4), some (vI x5)] [vI 0, vR 11 0] S Q) : Ev d mX11_readCond 172 [some (vR 11 0), some (vI x1), some (vI x2), some (vI x3), some (vI x4), some (vI x5)] [vR 11 0] S Q := by
  refine Ev.iconst (v := 0) dX11_readCond_172 (by decide) ?_
  exact kn
theorem bkX11_readCond_173 {d : Nat} {S : hs_T} {Q : Option av_T → hs_T → Prop} {P : hs_T → Prop} {x1 x2 x3 x4 x5 y0 : Int32} (hC : Cv d mX11_needs [vR 11 0, vI y0, vI 5] S P) (kk : ∀ S', P S' → Ev (d + 1) mX11_readCond 177 [some (vR 11 0), some (vI x1), some (vI x2), some (vI x3), some (vI x4), some (vI x5)] [] S' Q) : Ev (d + 1) mX11_readCond 173 [some (vR 11 0), some (vI x1), some (vI x2), some (vI x3), some (vI x4), some (vI x5)] [vI y0, vR 11 0] S Q := by
  refine Ev.iconst (v := 5) dX11_readCond_173 (by decide) ?_
  exact Ev.callV (as := [vI y0, vI 5]) (rest := []) okX11_needs in_X11_needs ml_X11_96 rfl (Nat.le_of_ble_eq_true rfl) pz_11_0 (by decide) rfl rfl dX11_readCond_174 hC (fun r S' h => by obtain ⟨rfl, h⟩ := h; exact kk S' h)
theorem bkX11_readCond_177 {d : Nat} {S : hs_T} {Q : Option av_T → hs_T → Prop} {P : hs_T → Prop} {x1 x2 x3 x4 x5 : Int32} (hC : Cv d mX11_token [vR 11 0] S P) (kk : ∀ S', P S' → Ev (d + 1) mX11_readCond 181 [some (vR 11 0), some (vI x1), some (vI x2), some (vI x3), some (vI x4), some (vI x5)] [] S' Q) : Ev (d + 1) mX11_readCond 177 [some (vR 11 0), some (vI x1), some (vI x2), some (vI x3), some (vI x4), some (vI x5)] [] S Q := by
  refine Ev.aload_n dX11_readCond_177 rfl rfl ?_
  exact Ev.callV (as := []) (rest := []) okX11_token in_X11_token ml_X11_100 rfl (Nat.le_of_ble_eq_true rfl) pz_11_0 (by decide) rfl rfl dX11_readCond_178 hC (fun r S' h => by obtain ⟨rfl, h⟩ := h; exact kk S' h)
theorem bkX11_readCond_181 {d : Nat} {S : hs_T} {Q : Option av_T → hs_T → Prop} {x1 x2 x3 x4 x5 : Int32} (kn : Ev d mX11_readCond 4 [some (vR 11 0), some (vI x1), some (vI x2), some (vI x3), some (vI x4), some (vI x5)] [] S Q) : Ev d mX11_readCond 181 [some (vR 11 0), some (vI x1), some (vI x2), some (vI x3), some (vI x4), some (vI x5)] [] S Q := by
  refine Ev.goto (tgt := 4) dX11_readCond_181 (by decide) ?_
  exact kn
theorem bkX11_readCond_184 {d : Nat} {S : hs_T} {Q : Option av_T → hs_T → Prop} {x1 x2 x3 : Int32} {o4 o5 : Option av_T} (hq : Q (some (vI x2)) S) : Ev d mX11_readCond 184 [some (vR 11 0), some (vI x1), some (vI x2), some (vI x3), o4, o5] [] S Q := by
  refine Ev.iload_n dX11_readCond_184 rfl rfl ?_
  exact Ev.iret dX11_readCond_185 rfl rfl hq
/-! EightWiresModel.readBranch(I)V -/
theorem bkX11_readBranch_0 {d : Nat} {S : hs_T} {Q : Option av_T → hs_T → Prop} {P : Int32 → hs_T → Prop} {x1 : Int32} (hC : Ci d mX11_readCond [vR 11 0, vI (3 * x1)] S P) (kk : ∀ v S', P v S' → Ev (d + 1) mX11_readBranch 14 [some (vR 11 0), some (vI x1)] [vI v, vI (0 + x1), vR 1201 0] S' Q) : Ev (d + 1) mX11_readBranch 0 [some (vR 11 0), some (vI x1)] [] S Q := by
  refine Ev.aload_n dX11_readBranch_0 rfl rfl ?_
  refine Ev.get (v := vR 1201 0) okX11 (by decide) fl_X11_13 pz_11_0 (ff_11_1 _ _) dX11_readBranch_1 ?_
  refine Ev.iconst (v := 0) dX11_readBranch_4 (by decide) ?_
  refine Ev.iload_n dX11_readBranch_5 rfl rfl ?_
  refine Ev.iadd dX11_readBranch_6 ?_
  refine Ev.aload_n dX11_readBranch_7 rfl rfl ?_
  refine Ev.iconst (v := 3) dX11_readBranch_8 (by decide) ?_
  refine Ev.iload_n dX11_readBranch_9 rfl rfl ?_
  refine Ev.imul dX11_readBranch_10 ?_
  exact Ev.callV (as := [vI (3 * x1)]) (rest := [vI (0 + x1), vR 1201 0]) okX11_readCond in_X11_readCond ml_X11_111 rfl (Nat.le_of_ble_eq_true rfl) pz_11_0 (by decide) rfl rfl dX11_readBranch_11 hC (fun r S' h => by obtain ⟨v, rfl, h⟩ := h; exact kk v S' h)
theorem bkX11_readBranch_14 {d : Nat} {S : hs_T} {Q : Option av_T → hs_T → Prop} {x1 y0 y1 : Int32} (hi14 : vp_in y1 234) (hi24 : vp_in (24 + x1) 234) (kt : ¬ ((sk_ (sk_ S 1201 0 (upd (S.1 1201 0) y1.toNatClampNeg y0)) 1201 0 (upd ((sk_ S 1201 0 (upd (S.1 1201 0) y1.toNatClampNeg y0)).1 1201 0) ((24 + x1).toNatClampNeg) 1)).1 11 0 13) = 0 → Ev d mX11_readBranch 69 [some (vR 11 0), some (vI x1)] [] (sk_ (sk_ S 1201 0 (upd (S.1 1201 0) y1.toNatClampNeg y0)) 1201 0 (upd ((sk_ S 1201 0 (upd (S.1 1201 0) y1.toNatClampNeg y0)).1 1201 0) ((24 + x1).toNatClampNeg) 1)) Q) (kf : ((sk_ (sk_ S 1201 0 (upd (S.1 1201 0) y1.toNatClampNeg y0)) 1201 0 (upd ((sk_ S 1201 0 (upd (S.1 1201 0) y1.toNatClampNeg y0)).1 1201 0) ((24 + x1).toNatClampNeg) 1)).1 11 0 13) = 0 → Ev d mX11_readBranch 32 [some (vR 11 0), some (vI x1)] [] (sk_ (sk_ S 1201 0 (upd (S.1 1201 0) y1.toNatClampNeg y0)) 1201 0 (upd ((sk_ S 1201 0 (upd (S.1 1201 0) y1.toNatClampNeg y0)).1 1201 0) ((24 + x1).toNatClampNeg) 1)) Q) : Ev d mX11_readBranch 14 [some (vR 11 0), some (vI x1)] [vI y0, vI y1, vR 1201 0] S Q := by
  refine Ev.iastoreA (a := y1.toNatClampNeg) pz_1201_0 (by decide) ak_1201 hi14 rfl rfl dX11_readBranch_14 ?_
  refine Ev.aload_n dX11_readBranch_15 rfl rfl ?_
  refine Ev.get (v := vR 1201 0) okX11 (by decide) fl_X11_13 pz_11_0 (ff_11_1 _ _) dX11_readBranch_16 ?_
  refine Ev.bipush (v := 24) dX11_readBranch_19 (by decide) ?_
  refine Ev.iload_n dX11_readBranch_21 rfl rfl ?_
  refine Ev.iadd dX11_readBranch_22 ?_
  refine Ev.iconst (v := 1) dX11_readBranch_23 (by decide) ?_
  refine Ev.iastoreA (a := (24 + x1).toNatClampNeg) pz_1201_0 (by decide) ak_1201 hi24 rfl rfl dX11_readBranch_24 ?_
  refine Ev.aload_n dX11_readBranch_25 rfl rfl ?_
  refine Ev.get (v := vI ((sk_ (sk_ S 1201 0 (upd (S.1 1201 0) y1.toNatClampNeg y0)) 1201 0 (upd ((sk_ S 1201 0 (upd (S.1 1201 0) y1.toNatClampNeg y0)).1 1201 0) ((24 + x1).toNatClampNeg) 1)).1 11 0 13)) okX11 (by decide) fl_X11_62 pz_11_0 (ff_11_13 _ _) dX11_readBranch_26 ?_
  exact Ev.if_ne (tgt := 69) dX11_readBranch_29 (by decide) kt kf
theorem bkX11_readBranch_32 {d : Nat} {S : hs_T} {Q : Option av_T → hs_T → Prop} {x1 : Int32} (kt : ¬ (S.1 11 0 11) = 1 → Ev d mX11_readBranch 69 [some (vR 11 0), some (vI x1)] [] S Q) (kf : (S.1 11 0 11) = 1 → Ev d mX11_readBranch 40 [some (vR 11 0), some (vI x1)] [] S Q) : Ev d mX11_readBranch 32 [some (vR 11 0), some (vI x1)] [] S Q := by
  refine Ev.aload_n dX11_readBranch_32 rfl rfl ?_
  refine Ev.get (v := vI (S.1 11 0 11)) okX11 (by decide) fl_X11_82 pz_11_0 (ff_11_11 _ _) dX11_readBranch_33 ?_
  refine Ev.iconst (v := 1) dX11_readBranch_36 (by decide) ?_
  exact Ev.icmp_ne (tgt := 69) dX11_readBranch_37 (by decide) kt kf
theorem bkX11_readBranch_40 {d : Nat} {S : hs_T} {Q : Option av_T → hs_T → Prop} {P : Int32 → hs_T → Prop} {x1 : Int32} (hC : Ci d mX11_wordNow [vR 11 0] S P) (kk : ∀ v S', P v S' → Ev (d + 1) mX11_readBranch 44 [some (vR 11 0), some (vI x1)] [vI v] S' Q) : Ev (d + 1) mX11_readBranch 40 [some (vR 11 0), some (vI x1)] [] S Q := by
  refine Ev.aload_n dX11_readBranch_40 rfl rfl ?_
  exact Ev.callV (as := []) (rest := []) okX11_wordNow in_X11_wordNow ml_X11_114 rfl (Nat.le_of_ble_eq_true rfl) pz_11_0 (by decide) rfl rfl dX11_readBranch_41 hC (fun r S' h => by obtain ⟨v, rfl, h⟩ := h; exact kk v S' h)
theorem bkX11_readBranch_44 {d : Nat} {S : hs_T} {Q : Option av_T → hs_T → Prop} {x1 y0 : Int32} (kt : ¬ y0 = 30 → Ev d mX11_readBranch 69 [some (vR 11 0), some (vI x1)] [] S Q) (kf : y0 = 30 → Ev d mX11_readBranch 49 [some (vR 11 0), some (vI x1)] [] S Q) : Ev d mX11_readBranch 44 [some (vR 11 0), some (vI x1)] [vI y0] S Q := by
  refine Ev.bipush (v := 30) dX11_readBranch_44 (by decide) ?_
  exact Ev.icmp_ne (tgt := 69) dX11_readBranch_46 (by decide) kt kf
theorem bkX11_readBranch_49 {d : Nat} {S : hs_T} {Q : Option av_T → hs_T → Prop} {P : hs_T → Prop} {x1 : Int32} (hC : Cv d mX11_token [vR 11 0] S P) (kk : ∀ S', P S' → Ev (d + 1) mX11_readBranch 53 [some (vR 11 0), some (vI x1)] [] S' Q) : Ev (d + 1) mX11_readBranch 49 [some (vR 11 0), some (vI x1)] [] S Q := by
  refine Ev.aload_n dX11_readBranch_49 rfl rfl ?_
  exact Ev.callV (as := []) (rest := []) okX11_token in_X11_token ml_X11_100 rfl (Nat.le_of_ble_eq_true rfl) pz_11_0 (by decide) rfl rfl dX11_readBranch_50 hC (fun r S' h => by obtain ⟨rfl, h⟩ := h; exact kk S' h)
theorem bkX11_readBranch_53 {d : Nat} {S : hs_T} {Q : Option av_T → hs_T → Prop} {P : Int32 → hs_T → Prop} {x1 : Int32} (hC : Ci d mX11_readNumber [vR 11 0, vI 1, vI 99] S P) (kk : ∀ v S', P v S' → Ev (d + 1) mX11_readBranch 68 [some (vR 11 0), some (vI x1)] [vI v, vI (24 + x1), vR 1201 0] S' Q) : Ev (d + 1) mX11_readBranch 53 [some (vR 11 0), some (vI x1)] [] S Q := by
  refine Ev.aload_n dX11_readBranch_53 rfl rfl ?_
  refine Ev.get (v := vR 1201 0) okX11 (by decide) fl_X11_13 pz_11_0 (ff_11_1 _ _) dX11_readBranch_54 ?_
  refine Ev.bipush (v := 24) dX11_readBranch_57 (by decide) ?_
  refine Ev.iload_n dX11_readBranch_59 rfl rfl ?_
  refine Ev.iadd dX11_readBranch_60 ?_
  refine Ev.aload_n dX11_readBranch_61 rfl rfl ?_
  refine Ev.iconst (v := 1) dX11_readBranch_62 (by decide) ?_
  refine Ev.bipush (v := 99) dX11_readBranch_63 (by decide) ?_
  exact Ev.callV (as := [vI 1, vI 99]) (rest := [vI (24 + x1), vR 1201 0]) okX11_readNumber in_X11_readNumber ml_X11_107 rfl (Nat.le_of_ble_eq_true rfl) pz_11_0 (by decide) rfl rfl dX11_readBranch_65 hC (fun r S' h => by obtain ⟨v, rfl, h⟩ := h; exact kk v S' h)
theorem bkX11_readBranch_68 {d : Nat} {S : hs_T} {Q : Option av_T → hs_T → Prop} {x1 y0 y1 : Int32} (hi68 : vp_in y1 234) (kn : Ev d mX11_readBranch 69 [some (vR 11 0), some (vI x1)] [] (sk_ S 1201 0 (upd (S.1 1201 0) y1.toNatClampNeg y0)) Q) : Ev d mX11_readBranch 68 [some (vR 11 0), some (vI x1)] [vI y0, vI y1, vR 1201 0] S Q := by
  refine Ev.iastoreA (a := y1.toNatClampNeg) pz_1201_0 (by decide) ak_1201 hi68 rfl rfl dX11_readBranch_68 ?_
  exact kn
theorem bkX11_readBranch_69 {d : Nat} {S : hs_T} {Q : Option av_T → hs_T → Prop} {x1 : Int32} (kt : ¬ (S.1 11 0 13) = 0 → Ev d mX11_readBranch 103 [some (vR 11 0), some (vI x1)] [] S Q) (kf : (S.1 11 0 13) = 0 → Ev d mX11_readBranch 76 [some (vR 11 0), some (vI x1)] [] S Q) : Ev d mX11_readBranch 69 [some (vR 11 0), some (vI x1)] [] S Q := by
  refine Ev.aload_n dX11_readBranch_69 rfl rfl ?_
  refine Ev.get (v := vI (S.1 11 0 13)) okX11 (by decide) fl_X11_62 pz_11_0 (ff_11_13 _ _) dX11_readBranch_70 ?_
  exact Ev.if_ne (tgt := 103) dX11_readBranch_73 (by decide) kt kf
theorem bkX11_readBranch_76 {d : Nat} {S : hs_T} {Q : Option av_T → hs_T → Prop} {x1 : Int32} (kt : ¬ (S.1 11 0 11) = 1 → Ev d mX11_readBranch 98 [some (vR 11 0), some (vI x1)] [vR 11 0] S Q) (kf : (S.1 11 0 11) = 1 → Ev d mX11_readBranch 85 [some (vR 11 0), some (vI x1)] [vR 11 0] S Q) : Ev d mX11_readBranch 76 [some (vR 11 0), some (vI x1)] [] S Q := by
  refine Ev.aload_n dX11_readBranch_76 rfl rfl ?_
  refine Ev.aload_n dX11_readBranch_77 rfl rfl ?_
  refine Ev.get (v := vI (S.1 11 0 11)) okX11 (by decide) fl_X11_82 pz_11_0 (ff_11_11 _ _) dX11_readBranch_78 ?_
  refine Ev.iconst (v := 1) dX11_readBranch_81 (by decide) ?_
  exact Ev.icmp_ne (tgt := 98) dX11_readBranch_82 (by decide) kt kf
theorem bkX11_readBranch_85 {d : Nat} {S : hs_T} {Q : Option av_T → hs_T → Prop} {P : Int32 → hs_T → Prop} {x1 : Int32} (hC : Ci d mX11_wordNow [vR 11 0] S P) (kk : ∀ v S', P v S' → Ev (d + 1) mX11_readBranch 89 [some (vR 11 0), some (vI x1)] [vI v, vR 11 0] S' Q) : Ev (d + 1) mX11_readBranch 85 [some (vR 11 0), some (vI x1)] [vR 11 0] S Q := by
  refine Ev.aload_n dX11_readBranch_85 rfl rfl ?_
  exact Ev.callV (as := []) (rest := [vR 11 0]) okX11_wordNow in_X11_wordNow ml_X11_114 rfl (Nat.le_of_ble_eq_true rfl) pz_11_0 (by decide) rfl rfl dX11_readBranch_86 hC (fun r S' h => by obtain ⟨v, rfl, h⟩ := h; exact kk v S' h)
theorem bkX11_readBranch_89 {d : Nat} {S : hs_T} {Q : Option av_T → hs_T → Prop} {x1 y0 : Int32} (kt : ¬ y0 = 31 → Ev d mX11_readBranch 98 [some (vR 11 0), some (vI x1)] [vR 11 0] S Q) (kf : y0 = 31 → Ev d mX11_readBranch 94 [some (vR 11 0), some (vI x1)] [vR 11 0] S Q) : Ev d mX11_readBranch 89 [some (vR 11 0), some (vI x1)] [vI y0, vR 11 0] S Q := by
  refine Ev.bipush (v := 31) dX11_readBranch_89 (by decide) ?_
  exact Ev.icmp_ne (tgt := 98) dX11_readBranch_91 (by decide) kt kf
theorem bkX11_readBranch_94 {d : Nat} {S : hs_T} {Q : Option av_T → hs_T → Prop} {x1 : Int32} (kn : Ev d mX11_readBranch 99 [some (vR 11 0), some (vI x1)] [vI 1, vR 11 0] S Q) : Ev d mX11_readBranch 94 [some (vR 11 0), some (vI x1)] [vR 11 0] S Q := by
  refine Ev.iconst (v := 1) dX11_readBranch_94 (by decide) ?_
  refine Ev.goto (tgt := 99) dX11_readBranch_95 (by decide) ?_
  exact kn
theorem bkX11_readBranch_98 {d : Nat} {S : hs_T} {Q : Option av_T → hs_T → Prop} {x1 : Int32} (kn : Ev d mX11_readBranch 99 [some (vR 11 0), some (vI x1)] [vI 0, vR 11 0] S Q) : Ev d mX11_readBranch 98 [some (vR 11 0), some (vI x1)] [vR 11 0] S Q := by
  refine Ev.iconst (v := 0) dX11_readBranch_98 (by decide) ?_
  exact kn
theorem bkX11_readBranch_99 {d : Nat} {S : hs_T} {Q : Option av_T → hs_T → Prop} {P : hs_T → Prop} {x1 y0 : Int32} (hC : Cv d mX11_needs [vR 11 0, vI y0, vI 2] S P) (kk : ∀ S', P S' → Ev (d + 1) mX11_readBranch 103 [some (vR 11 0), some (vI x1)] [] S' Q) : Ev (d + 1) mX11_readBranch 99 [some (vR 11 0), some (vI x1)] [vI y0, vR 11 0] S Q := by
  refine Ev.iconst (v := 2) dX11_readBranch_99 (by decide) ?_
  exact Ev.callV (as := [vI y0, vI 2]) (rest := []) okX11_needs in_X11_needs ml_X11_96 rfl (Nat.le_of_ble_eq_true rfl) pz_11_0 (by decide) rfl rfl dX11_readBranch_100 hC (fun r S' h => by obtain ⟨rfl, h⟩ := h; exact kk S' h)
theorem bkX11_readBranch_103 {d : Nat} {S : hs_T} {Q : Option av_T → hs_T → Prop} {P : hs_T → Prop} {x1 : Int32} (hC : Cv d mX11_token [vR 11 0] S P) (kk : ∀ S', P S' → Ev (d + 1) mX11_readBranch 107 [some (vR 11 0), some (vI x1)] [] S' Q) : Ev (d + 1) mX11_readBranch 103 [some (vR 11 0), some (vI x1)] [] S Q := by
  refine Ev.aload_n dX11_readBranch_103 rfl rfl ?_
  exact Ev.callV (as := []) (rest := []) okX11_token in_X11_token ml_X11_100 rfl (Nat.le_of_ble_eq_true rfl) pz_11_0 (by decide) rfl rfl dX11_readBranch_104 hC (fun r S' h => by obtain ⟨rfl, h⟩ := h; exact kk S' h)
theorem bkX11_readBranch_107 {d : Nat} {S : hs_T} {Q : Option av_T → hs_T → Prop} {x1 : Int32} (kt : ¬ (S.1 11 0 13) = 0 → Ev d mX11_readBranch 159 [some (vR 11 0), some (vI x1)] [] S Q) (kf : (S.1 11 0 13) = 0 → Ev d mX11_readBranch 114 [some (vR 11 0), some (vI x1)] [] S Q) : Ev d mX11_readBranch 107 [some (vR 11 0), some (vI x1)] [] S Q := by
  refine Ev.aload_n dX11_readBranch_107 rfl rfl ?_
  refine Ev.get (v := vI (S.1 11 0 13)) okX11 (by decide) fl_X11_62 pz_11_0 (ff_11_13 _ _) dX11_readBranch_108 ?_
  exact Ev.if_ne (tgt := 159) dX11_readBranch_111 (by decide) kt kf
theorem bkX11_readBranch_114 {d : Nat} {S : hs_T} {Q : Option av_T → hs_T → Prop} {x1 : Int32} (kt : ¬ (S.1 11 0 11) = 1 → Ev d mX11_readBranch 159 [some (vR 11 0), some (vI x1)] [] S Q) (kf : (S.1 11 0 11) = 1 → Ev d mX11_readBranch 122 [some (vR 11 0), some (vI x1)] [] S Q) : Ev d mX11_readBranch 114 [some (vR 11 0), some (vI x1)] [] S Q := by
  refine Ev.aload_n dX11_readBranch_114 rfl rfl ?_
  refine Ev.get (v := vI (S.1 11 0 11)) okX11 (by decide) fl_X11_82 pz_11_0 (ff_11_11 _ _) dX11_readBranch_115 ?_
  refine Ev.iconst (v := 1) dX11_readBranch_118 (by decide) ?_
  exact Ev.icmp_ne (tgt := 159) dX11_readBranch_119 (by decide) kt kf
theorem bkX11_readBranch_122 {d : Nat} {S : hs_T} {Q : Option av_T → hs_T → Prop} {P : Int32 → hs_T → Prop} {x1 : Int32} (hC : Ci d mX11_wordNow [vR 11 0] S P) (kk : ∀ v S', P v S' → Ev (d + 1) mX11_readBranch 127 [some (vR 11 0), some (vI x1)] [vI v, vR 11 0] S' Q) : Ev (d + 1) mX11_readBranch 122 [some (vR 11 0), some (vI x1)] [] S Q := by
  refine Ev.aload_n dX11_readBranch_122 rfl rfl ?_
  refine Ev.aload_n dX11_readBranch_123 rfl rfl ?_
  exact Ev.callV (as := []) (rest := [vR 11 0]) okX11_wordNow in_X11_wordNow ml_X11_114 rfl (Nat.le_of_ble_eq_true rfl) pz_11_0 (by decide) rfl rfl dX11_readBranch_124 hC (fun r S' h => by obtain ⟨v, rfl, h⟩ := h; exact kk v S' h)
theorem bkX11_readBranch_127 {d : Nat} {S : hs_T} {Q : Option av_T → hs_T → Prop} {x1 y0 : Int32} (kt : ¬ y0 = 32 → Ev d mX11_readBranch 136 [some (vR 11 0), some (vI x1)] [vR 11 0] S Q) (kf : y0 = 32 → Ev d mX11_readBranch 132 [some (vR 11 0), some (vI x1)] [vR 11 0] S Q) : Ev d mX11_readBranch 127 [some (vR 11 0), some (vI x1)] [vI y0, vR 11 0] S Q := by
  refine Ev.bipush (v := 32) dX11_readBranch_127 (by decide) ?_
  exact Ev.icmp_ne (tgt := 136) dX11_readBranch_129 (by decide) kt kf
theorem bkX11_readBranch_132 {d : Nat} {S : hs_T} {Q : Option av_T → hs_T → Prop} {x1 : Int32} (kn : Ev d mX11_readBranch 137 [some (vR 11 0), some (vI x1)] [vI 1, vR 11 0] S Q) : Ev d mX11_readBranch 132 [some (vR 11 0), some (vI x1)] [vR 11 0] S Q := by
  refine Ev.iconst (v := 1) dX11_readBranch_132 (by decide) ?_
  refine Ev.goto (tgt := 137) dX11_readBranch_133 (by decide) ?_
  exact kn
theorem bkX11_readBranch_136 {d : Nat} {S : hs_T} {Q : Option av_T → hs_T → Prop} {x1 : Int32} (kn : Ev d mX11_readBranch 137 [some (vR 11 0), some (vI x1)] [vI 0, vR 11 0] S Q) : Ev d mX11_readBranch 136 [some (vR 11 0), some (vI x1)] [vR 11 0] S Q := by
  refine Ev.iconst (v := 0) dX11_readBranch_136 (by decide) ?_
  exact kn
theorem bkX11_readBranch_137 {d : Nat} {S : hs_T} {Q : Option av_T → hs_T → Prop} {P : hs_T → Prop} {x1 y0 : Int32} (hC : Cv d mX11_needs [vR 11 0, vI y0, vI 2] S P) (kk : ∀ S', P S' → Ev (d + 1) mX11_readBranch 141 [some (vR 11 0), some (vI x1)] [] S' Q) : Ev (d + 1) mX11_readBranch 137 [some (vR 11 0), some (vI x1)] [vI y0, vR 11 0] S Q := by
  refine Ev.iconst (v := 2) dX11_readBranch_137 (by decide) ?_
  exact Ev.callV (as := [vI y0, vI 2]) (rest := []) okX11_needs in_X11_needs ml_X11_96 rfl (Nat.le_of_ble_eq_true rfl) pz_11_0 (by decide) rfl rfl dX11_readBranch_138 hC (fun r S' h => by obtain ⟨rfl, h⟩ := h; exact kk S' h)
theorem bkX11_readBranch_141 {d : Nat} {S : hs_T} {Q : Option av_T → hs_T → Prop} {P : hs_T → Prop} {x1 : Int32} (hi151 : vp_in (48 + x1) 234) (hC : Cv d mX11_token [vR 11 0] (sk_ S 1201 0 (upd (S.1 1201 0) ((48 + x1).toNatClampNeg) 8)) P) (kk : ∀ S', P S' → Ev (d + 1) mX11_readBranch 156 [some (vR 11 0), some (vI x1)] [] S' Q) : Ev (d + 1) mX11_readBranch 141 [some (vR 11 0), some (vI x1)] [] S Q := by
  refine Ev.aload_n dX11_readBranch_141 rfl rfl ?_
  refine Ev.get (v := vR 1201 0) okX11 (by decide) fl_X11_13 pz_11_0 (ff_11_1 _ _) dX11_readBranch_142 ?_
  refine Ev.bipush (v := 48) dX11_readBranch_145 (by decide) ?_
  refine Ev.iload_n dX11_readBranch_147 rfl rfl ?_
  refine Ev.iadd dX11_readBranch_148 ?_
  refine Ev.bipush (v := 8) dX11_readBranch_149 (by decide) ?_
  refine Ev.iastoreA (a := (48 + x1).toNatClampNeg) pz_1201_0 (by decide) ak_1201 hi151 rfl rfl dX11_readBranch_151 ?_
  refine Ev.aload_n dX11_readBranch_152 rfl rfl ?_
  exact Ev.callV (as := []) (rest := []) okX11_token in_X11_token ml_X11_100 rfl (Nat.le_of_ble_eq_true rfl) pz_11_0 (by decide) rfl rfl dX11_readBranch_153 hC (fun r S' h => by obtain ⟨rfl, h⟩ := h; exact kk S' h)
theorem bkX11_readBranch_156 {d : Nat} {S : hs_T} {Q : Option av_T → hs_T → Prop} {x1 : Int32} (kn : Ev d mX11_readBranch 175 [some (vR 11 0), some (vI x1)] [] S Q) : Ev d mX11_readBranch 156 [some (vR 11 0), some (vI x1)] [] S Q := by
  refine Ev.goto (tgt := 175) dX11_readBranch_156 (by decide) ?_
  exact kn
theorem bkX11_readBranch_159 {d : Nat} {S : hs_T} {Q : Option av_T → hs_T → Prop} {P : Int32 → hs_T → Prop} {x1 : Int32} (hC : Ci d mX11_readNumber [vR 11 0, vI 0, vI 7] S P) (kk : ∀ v S', P v S' → Ev (d + 1) mX11_readBranch 174 [some (vR 11 0), some (vI x1)] [vI v, vI (48 + x1), vR 1201 0] S' Q) : Ev (d + 1) mX11_readBranch 159 [some (vR 11 0), some (vI x1)] [] S Q := by
  refine Ev.aload_n dX11_readBranch_159 rfl rfl ?_
  refine Ev.get (v := vR 1201 0) okX11 (by decide) fl_X11_13 pz_11_0 (ff_11_1 _ _) dX11_readBranch_160 ?_
  refine Ev.bipush (v := 48) dX11_readBranch_163 (by decide) ?_
  refine Ev.iload_n dX11_readBranch_165 rfl rfl ?_
  refine Ev.iadd dX11_readBranch_166 ?_
  refine Ev.aload_n dX11_readBranch_167 rfl rfl ?_
  refine Ev.iconst (v := 0) dX11_readBranch_168 (by decide) ?_
  refine Ev.bipush (v := 7) dX11_readBranch_169 (by decide) ?_
  exact Ev.callV (as := [vI 0, vI 7]) (rest := [vI (48 + x1), vR 1201 0]) okX11_readNumber in_X11_readNumber ml_X11_107 rfl (Nat.le_of_ble_eq_true rfl) pz_11_0 (by decide) rfl rfl dX11_readBranch_171 hC (fun r S' h => by obtain ⟨v, rfl, h⟩ := h; exact kk v S' h)
theorem bkX11_readBranch_174 {d : Nat} {S : hs_T} {Q : Option av_T → hs_T → Prop} {x1 y0 y1 : Int32} (hi174 : vp_in y1 234) (kn : Ev d mX11_readBranch 175 [some (vR 11 0), some (vI x1)] [] (sk_ S 1201 0 (upd (S.1 1201 0) y1.toNatClampNeg y0)) Q) : Ev d mX11_readBranch 174 [some (vR 11 0), some (vI x1)] [vI y0, vI y1, vR 1201 0] S Q := by
  refine Ev.iastoreA (a := y1.toNatClampNeg) pz_1201_0 (by decide) ak_1201 hi174 rfl rfl dX11_readBranch_174 ?_
  exact kn
theorem bkX11_readBranch_175 {d : Nat} {S : hs_T} {Q : Option av_T → hs_T → Prop} {x1 : Int32} (hq : Q none S) : Ev d mX11_readBranch 175 [some (vR 11 0), some (vI x1)] [] S Q := by
  exact Ev.vret dX11_readBranch_175 rfl hq
/-! EightWiresModel.readState()V -/
theorem bkX11_readState_0 {d : Nat} {S : hs_T} {Q : Option av_T → hs_T → Prop} {o1 o2 o3 : Option av_T} (kn : Ev d mX11_readState 13 [some (vR 11 0), some (vI (S.1 1201 0 230)), some (vI 0), some (vI 1)] [] S Q) : Ev d mX11_readState 0 [some (vR 11 0), o1, o2, o3] [] S Q := by
  refine Ev.aload_n dX11_readState_0 rfl rfl ?_
  refine Ev.get (v := vR 1201 0) okX11 (by decide) fl_X11_13 pz_11_0 (ff_11_1 _ _) dX11_readState_1 ?_
  refine Ev.sipush (v := 230) dX11_readState_4 (by decide) ?_
  refine Ev.ialoadA (a := 230) pz_1201_0 (by decide) ak_1201 (by unfold vp_in; decide) (by decide) dX11_readState_7 ?_
  refine Ev.istore_n (ls' := [some (vR 11 0), some (vI (S.1 1201 0 230)), o2, o3]) dX11_readState_8 rfl (by decide) rfl ?_
  refine Ev.iconst (v := 0) dX11_readState_9 (by decide) ?_
  refine Ev.istore_n (ls' := [some (vR 11 0), some (vI (S.1 1201 0 230)), some (vI 0), o3]) dX11_readState_10 rfl (by decide) rfl ?_
  refine Ev.iconst (v := 1) dX11_readState_11 (by decide) ?_
  refine Ev.istore_n (ls' := [some (vR 11 0), some (vI (S.1 1201 0 230)), some (vI 0), some (vI 1)]) dX11_readState_12 rfl (by decide) rfl ?_
  exact kn
theorem bkX11_readState_13 {d : Nat} {S : hs_T} {Q : Option av_T → hs_T → Prop} {x1 x2 x3 : Int32} (kt : ¬ (S.1 11 0 13) = 0 → Ev d mX11_readState 83 [some (vR 11 0), some (vI x1), some (vI x2), some (vI x3)] [] S Q) (kf : (S.1 11 0 13) = 0 → Ev d mX11_readState 20 [some (vR 11 0), some (vI x1), some (vI x2), some (vI x3)] [] S Q) : Ev d mX11_readState 13 [some (vR 11 0), some (vI x1), some (vI x2), some (vI x3)] [] S Q := by
  refine Ev.aload_n dX11_readState_13 rfl rfl ?_
  refine Ev.get (v := vI (S.1 11 0 13)) okX11 (by decide) fl_X11_62 pz_11_0 (ff_11_13 _ _) dX11_readState_14 ?_
  exact Ev.if_ne (tgt := 83) dX11_readState_17 (by decide) kt kf
theorem bkX11_readState_20 {d : Nat} {S : hs_T} {Q : Option av_T → hs_T → Prop} {x1 x2 x3 : Int32} (kt : x3 = 0 → Ev d mX11_readState 83 [some (vR 11 0), some (vI x1), some (vI x2), some (vI x3)] [] S Q) (kf : ¬ x3 = 0 → Ev d mX11_readState 24 [some (vR 11 0), some (vI x1), some (vI x2), some (vI x3)] [] S Q) : Ev d mX11_readState 20 [some (vR 11 0), some (vI x1), some (vI x2), some (vI x3)] [] S Q := by
  refine Ev.iload_n dX11_readState_20 rfl rfl ?_
  exact Ev.if_eq (tgt := 83) dX11_readState_21 (by decide) kt kf
theorem bkX11_readState_24 {d : Nat} {S : hs_T} {Q : Option av_T → hs_T → Prop} {P : hs_T → Prop} {x1 x2 x3 : Int32} (hC : Cv d mX11_readBranch [vR 11 0, vI ((3 * x1) + x2)] S P) (kk : ∀ S', P S' → Ev (d + 1) mX11_readState 33 [some (vR 11 0), some (vI x1), some (vI x2), some (vI x3)] [] S' Q) : Ev (d + 1) mX11_readState 24 [some (vR 11 0), some (vI x1), some (vI x2), some (vI x3)] [] S Q := by
  refine Ev.aload_n dX11_readState_24 rfl rfl ?_
  refine Ev.iconst (v := 3) dX11_readState_25 (by decide) ?_
  refine Ev.iload_n dX11_readState_26 rfl rfl ?_
  refine Ev.imul dX11_readState_27 ?_
  refine Ev.iload_n dX11_readState_28 rfl rfl ?_
  refine Ev.iadd dX11_readState_29 ?_
  exact Ev.callV (as := [vI ((3 * x1) + x2)]) (rest := []) okX11_readBranch in_X11_readBranch ml_X11_117 rfl (Nat.le_of_ble_eq_true rfl) pz_11_0 (by decide) rfl rfl dX11_readState_30 hC (fun r S' h => by obtain ⟨rfl, h⟩ := h; exact kk S' h)
theorem bkX11_readState_33 {d : Nat} {S : hs_T} {Q : Option av_T → hs_T → Prop} {x1 x2 x3 : Int32} (kt : ¬ (S.1 11 0 13) = 0 → Ev d mX11_readState 55 [some (vR 11 0), some (vI x1), some (vI (x2 + 1)), some (vI x3)] [] S Q) (kf : (S.1 11 0 13) = 0 → Ev d mX11_readState 43 [some (vR 11 0), some (vI x1), some (vI (x2 + 1)), some (vI x3)] [] S Q) : Ev d mX11_readState 33 [some (vR 11 0), some (vI x1), some (vI x2), some (vI x3)] [] S Q := by
  refine Ev.iinc (v := (x2 + 1)) (ls' := [some (vR 11 0), some (vI x1), some (vI (x2 + 1)), some (vI x3)]) dX11_readState_33 rfl rfl (by decide) rfl ?_
  refine Ev.aload_n dX11_readState_36 rfl rfl ?_
  refine Ev.get (v := vI (S.1 11 0 13)) okX11 (by decide) fl_X11_62 pz_11_0 (ff_11_13 _ _) dX11_readState_37 ?_
  exact Ev.if_ne (tgt := 55) dX11_readState_40 (by decide) kt kf
theorem bkX11_readState_43 {d : Nat} {S : hs_T} {Q : Option av_T → hs_T → Prop} {x1 x2 x3 : Int32} (kt : ¬ (S.1 11 0 11) = 4 → Ev d mX11_readState 55 [some (vR 11 0), some (vI x1), some (vI x2), some (vI x3)] [] S Q) (kf : (S.1 11 0 11) = 4 → Ev d mX11_readState 51 [some (vR 11 0), some (vI x1), some (vI x2), some (vI x3)] [] S Q) : Ev d mX11_readState 43 [some (vR 11 0), some (vI x1), some (vI x2), some (vI x3)] [] S Q := by
  refine Ev.aload_n dX11_readState_43 rfl rfl ?_
  refine Ev.get (v := vI (S.1 11 0 11)) okX11 (by decide) fl_X11_82 pz_11_0 (ff_11_11 _ _) dX11_readState_44 ?_
  refine Ev.iconst (v := 4) dX11_readState_47 (by decide) ?_
  exact Ev.icmp_ne (tgt := 55) dX11_readState_48 (by decide) kt kf
theorem bkX11_readState_51 {d : Nat} {S : hs_T} {Q : Option av_T → hs_T → Prop} {x1 x2 x3 : Int32} (kn : Ev d mX11_readState 56 [some (vR 11 0), some (vI x1), some (vI x2), some (vI x3)] [vI 1] S Q) : Ev d mX11_readState 51 [some (vR 11 0), some (vI x1), some (vI x2), some (vI x3)] [] S Q := by
  refine Ev.iconst (v := 1) dX11_readState_51 (by decide) ?_
  refine Ev.goto (tgt := 56) dX11_readState_52 (by decide) ?_
  exact kn
theorem bkX11_readState_55 {d : Nat} {S : hs_T} {Q : Option av_T → hs_T → Prop} {x1 x2 x3 : Int32} (kn : Ev d mX11_readState 56 [some (vR 11 0), some (vI x1), some (vI x2), some (vI x3)] [vI 0] S Q) : Ev d mX11_readState 55 [some (vR 11 0), some (vI x1), some (vI x2), some (vI x3)] [] S Q := by
  refine Ev.iconst (v := 0) dX11_readState_55 (by decide) ?_
  exact kn
theorem bkX11_readState_56 {d : Nat} {S : hs_T} {Q : Option av_T → hs_T → Prop} {x1 x2 x3 y0 : Int32} (kt : y0 = 0 → Ev d mX11_readState 13 [some (vR 11 0), some (vI x1), some (vI x2), some (vI y0)] [] S Q) (kf : ¬ y0 = 0 → Ev d mX11_readState 61 [some (vR 11 0), some (vI x1), some (vI x2), some (vI y0)] [] S Q) : Ev d mX11_readState 56 [some (vR 11 0), some (vI x1), some (vI x2), some (vI x3)] [vI y0] S Q := by
  refine Ev.istore_n (ls' := [some (vR 11 0), some (vI x1), some (vI x2), some (vI y0)]) dX11_readState_56 rfl (by decide) rfl ?_
  refine Ev.iload_n dX11_readState_57 rfl rfl ?_
  exact Ev.if_eq (tgt := 13) dX11_readState_58 (by decide) kt kf
theorem bkX11_readState_61 {d : Nat} {S : hs_T} {Q : Option av_T → hs_T → Prop} {x1 x2 x3 : Int32} (kt : 3 ≤ x2 → Ev d mX11_readState 71 [some (vR 11 0), some (vI x1), some (vI x2), some (vI x3)] [vR 11 0] S Q) (kf : ¬ 3 ≤ x2 → Ev d mX11_readState 67 [some (vR 11 0), some (vI x1), some (vI x2), some (vI x3)] [vR 11 0] S Q) : Ev d mX11_readState 61 [some (vR 11 0), some (vI x1), some (vI x2), some (vI x3)] [] S Q := by
  refine Ev.aload_n dX11_readState_61 rfl rfl ?_
  refine Ev.iload_n dX11_readState_62 rfl rfl ?_
  refine Ev.iconst (v := 3) dX11_readState_63 (by decide) ?_
  exact Ev.icmp_ge (tgt := 71) dX11_readState_64 (by decide) kt kf
theorem bkX11_readState_67 {d : Nat} {S : hs_T} {Q : Option av_T → hs_T → Prop} {x1 x2 x3 : Int32} (kn : Ev d mX11_readState 72 [some (vR 11 0), some (vI x1), some (vI x2), some (vI x3)] [vI 1, vR 11 0] S Q) : Ev d mX11_readState 67 [some (vR 11 0), some (vI x1), some (vI x2), some (vI x3)] [vR 11 0] S Q := by
  refine Ev.iconst (v := 1) dX11_readState_67 (by decide) ?_
  refine Ev.goto (tgt := 72) dX11_readState_68 (by decide) ?_
  exact kn
theorem bkX11_readState_71 {d : Nat} {S : hs_T} {Q : Option av_T → hs_T → Prop} {x1 x2 x3 : Int32} (kn : Ev d mX11_readState 72 [some (vR 11 0), some (vI x1), some (vI x2), some (vI x3)] [vI 0, vR 11 0] S Q) : Ev d mX11_readState 71 [some (vR 11 0), some (vI x1), some (vI x2), some (vI x3)] [vR 11 0] S Q := by
  refine Ev.iconst (v := 0) dX11_readState_71 (by decide) ?_
  exact kn
theorem bkX11_readState_72 {d : Nat} {S : hs_T} {Q : Option av_T → hs_T → Prop} {P : hs_T → Prop} {x1 x2 x3 y0 : Int32} (hC : Cv d mX11_needs [vR 11 0, vI y0, vI 5] S P) (kk : ∀ S', P S' → Ev (d + 1) mX11_readState 76 [some (vR 11 0), some (vI x1), some (vI x2), some (vI x3)] [] S' Q) : Ev (d + 1) mX11_readState 72 [some (vR 11 0), some (vI x1), some (vI x2), some (vI x3)] [vI y0, vR 11 0] S Q := by
  refine Ev.iconst (v := 5) dX11_readState_72 (by decide) ?_
  exact Ev.callV (as := [vI y0, vI 5]) (rest := []) okX11_needs in_X11_needs ml_X11_96 rfl (Nat.le_of_ble_eq_true rfl) pz_11_0 (by decide) rfl rfl dX11_readState_73 hC (fun r S' h => by obtain ⟨rfl, h⟩ := h; exact kk S' h)
theorem bkX11_readState_76 {d : Nat} {S : hs_T} {Q : Option av_T → hs_T → Prop} {P : hs_T → Prop} {x1 x2 x3 : Int32} (hC : Cv d mX11_token [vR 11 0] S P) (kk : ∀ S', P S' → Ev (d + 1) mX11_readState 80 [some (vR 11 0), some (vI x1), some (vI x2), some (vI x3)] [] S' Q) : Ev (d + 1) mX11_readState 76 [some (vR 11 0), some (vI x1), some (vI x2), some (vI x3)] [] S Q := by
  refine Ev.aload_n dX11_readState_76 rfl rfl ?_
  exact Ev.callV (as := []) (rest := []) okX11_token in_X11_token ml_X11_100 rfl (Nat.le_of_ble_eq_true rfl) pz_11_0 (by decide) rfl rfl dX11_readState_77 hC (fun r S' h => by obtain ⟨rfl, h⟩ := h; exact kk S' h)
theorem bkX11_readState_80 {d : Nat} {S : hs_T} {Q : Option av_T → hs_T → Prop} {x1 x2 x3 : Int32} (kn : Ev d mX11_readState 13 [some (vR 11 0), some (vI x1), some (vI x2), some (vI x3)] [] S Q) : Ev d mX11_readState 80 [some (vR 11 0), some (vI x1), some (vI x2), some (vI x3)] [] S Q := by
  refine Ev.goto (tgt := 13) dX11_readState_80 (by decide) ?_
  exact kn
theorem bkX11_readState_83 {d : Nat} {S : hs_T} {Q : Option av_T → hs_T → Prop} {x1 x2 x3 : Int32} (hi93 : vp_in (222 + x1) 234) (hq : Q none (sk_ (sk_ S 1201 0 (upd (S.1 1201 0) ((222 + x1).toNatClampNeg) x2)) 1201 0 (upd ((sk_ S 1201 0 (upd (S.1 1201 0) ((222 + x1).toNatClampNeg) x2)).1 1201 0) 230 (x1 + 1)))) : Ev d mX11_readState 83 [some (vR 11 0), some (vI x1), some (vI x2), some (vI x3)] [] S Q := by
  refine Ev.aload_n dX11_readState_83 rfl rfl ?_
  refine Ev.get (v := vR 1201 0) okX11 (by decide) fl_X11_13 pz_11_0 (ff_11_1 _ _) dX11_readState_84 ?_
  refine Ev.sipush (v := 222) dX11_readState_87 (by decide) ?_
  refine Ev.iload_n dX11_readState_90 rfl rfl ?_
  refine Ev.iadd dX11_readState_91 ?_
  refine Ev.iload_n dX11_readState_92 rfl rfl ?_
  refine Ev.iastoreA (a := (222 + x1).toNatClampNeg) pz_1201_0 (by decide) ak_1201 hi93 rfl rfl dX11_readState_93 ?_
  refine Ev.aload_n dX11_readState_94 rfl rfl ?_
  refine Ev.get (v := vR 1201 0) okX11 (by decide) fl_X11_13 pz_11_0 (ff_11_1 _ _) dX11_readState_95 ?_
  refine Ev.sipush (v := 230) dX11_readState_98 (by decide) ?_
  refine Ev.iload_n dX11_readState_101 rfl rfl ?_
  refine Ev.iconst (v := 1) dX11_readState_102 (by decide) ?_
  refine Ev.iadd dX11_readState_103 ?_
  refine Ev.iastoreA (a := 230) pz_1201_0 (by decide) ak_1201 (by unfold vp_in; decide) (by decide) rfl dX11_readState_104 ?_
  exact Ev.vret dX11_readState_105 rfl hq
/-! EightWiresModel.readLine()V -/
theorem bkX11_readLine_0 {d : Nat} {S : hs_T} {Q : Option av_T → hs_T → Prop} {o1 : Option av_T} (kt : ¬ (S.1 11 0 11) = 1 → Ev d mX11_readLine 15 [some (vR 11 0), o1] [] S Q) (kf : (S.1 11 0 11) = 1 → Ev d mX11_readLine 8 [some (vR 11 0), o1] [] S Q) : Ev d mX11_readLine 0 [some (vR 11 0), o1] [] S Q := by
  refine Ev.aload_n dX11_readLine_0 rfl rfl ?_
  refine Ev.get (v := vI (S.1 11 0 11)) okX11 (by decide) fl_X11_82 pz_11_0 (ff_11_11 _ _) dX11_readLine_1 ?_
  refine Ev.iconst (v := 1) dX11_readLine_4 (by decide) ?_
  exact Ev.icmp_ne (tgt := 15) dX11_readLine_5 (by decide) kt kf
theorem bkX11_readLine_8 {d : Nat} {S : hs_T} {Q : Option av_T → hs_T → Prop} {P : Int32 → hs_T → Prop} {o1 : Option av_T} (hC : Ci d mX11_lineNow [vR 11 0] S P) (kk : ∀ v S', P v S' → Ev (d + 1) mX11_readLine 12 [some (vR 11 0), o1] [vI v] S' Q) : Ev (d + 1) mX11_readLine 8 [some (vR 11 0), o1] [] S Q := by
  refine Ev.aload_n dX11_readLine_8 rfl rfl ?_
  exact Ev.callV (as := []) (rest := []) okX11_lineNow in_X11_lineNow ml_X11_121 rfl (Nat.le_of_ble_eq_true rfl) pz_11_0 (by decide) rfl rfl dX11_readLine_9 hC (fun r S' h => by obtain ⟨v, rfl, h⟩ := h; exact kk v S' h)
theorem bkX11_readLine_12 {d : Nat} {S : hs_T} {Q : Option av_T → hs_T → Prop} {y0 : Int32} {o1 : Option av_T} (kn : Ev d mX11_readLine 17 [some (vR 11 0), o1] [vI y0] S Q) : Ev d mX11_readLine 12 [some (vR 11 0), o1] [vI y0] S Q := by
  refine Ev.goto (tgt := 17) dX11_readLine_12 (by decide) ?_
  exact kn
theorem bkX11_readLine_15 {d : Nat} {S : hs_T} {Q : Option av_T → hs_T → Prop} {o1 : Option av_T} (kn : Ev d mX11_readLine 17 [some (vR 11 0), o1] [vI (-4)] S Q) : Ev d mX11_readLine 15 [some (vR 11 0), o1] [] S Q := by
  refine Ev.bipush (v := (-4)) dX11_readLine_15 (by decide) ?_
  exact kn
theorem bkX11_readLine_17 {d : Nat} {S : hs_T} {Q : Option av_T → hs_T → Prop} {y0 : Int32} {o1 : Option av_T} (kt : y0 = (-4) → Ev d mX11_readLine 29 [some (vR 11 0), some (vI y0)] [vR 11 0] S Q) (kf : ¬ y0 = (-4) → Ev d mX11_readLine 25 [some (vR 11 0), some (vI y0)] [vR 11 0] S Q) : Ev d mX11_readLine 17 [some (vR 11 0), o1] [vI y0] S Q := by
  refine Ev.istore_n (ls' := [some (vR 11 0), some (vI y0)]) dX11_readLine_17 rfl (by decide) rfl ?_
  refine Ev.aload_n dX11_readLine_18 rfl rfl ?_
  refine Ev.iload_n dX11_readLine_19 rfl rfl ?_
  refine Ev.bipush (v := (-4)) dX11_readLine_20 (by decide) ?_
  exact Ev.icmp_eq (tgt := 29) dX11_readLine_22 (by decide) kt kf
theorem bkX11_readLine_25 {d : Nat} {S : hs_T} {Q : Option av_T → hs_T → Prop} {x1 : Int32} (kn : Ev d mX11_readLine 30 [some (vR 11 0), some (vI x1)] [vI 1, vR 11 0] S Q) : Ev d mX11_readLine 25 [some (vR 11 0), some (vI x1)] [vR 11 0] S Q := by
  refine Ev.iconst (v := 1) dX11_readLine_25 (by decide) ?_
  refine Ev.goto (tgt := 30) dX11_readLine_26 (by decide) ?_
  exact kn
theorem bkX11_readLine_29 {d : Nat} {S : hs_T} {Q : Option av_T → hs_T → Prop} {x1 : Int32} (kn : Ev d mX11_readLine 30 [some (vR 11 0), some (vI x1)] [vI 0, vR 11 0] S Q) : Ev d mX11_readLine 29 [some (vR 11 0), some (vI x1)] [vR 11 0] S Q := by
  refine Ev.iconst (v := 0) dX11_readLine_29 (by decide) ?_
  exact kn
theorem bkX11_readLine_30 {d : Nat} {S : hs_T} {Q : Option av_T → hs_T → Prop} {P : hs_T → Prop} {x1 y0 : Int32} (hC : Cv d mX11_needs [vR 11 0, vI y0, vI 2] S P) (kk : ∀ S', P S' → Ev (d + 1) mX11_readLine 34 [some (vR 11 0), some (vI x1)] [] S' Q) : Ev (d + 1) mX11_readLine 30 [some (vR 11 0), some (vI x1)] [vI y0, vR 11 0] S Q := by
  refine Ev.iconst (v := 2) dX11_readLine_30 (by decide) ?_
  exact Ev.callV (as := [vI y0, vI 2]) (rest := []) okX11_needs in_X11_needs ml_X11_96 rfl (Nat.le_of_ble_eq_true rfl) pz_11_0 (by decide) rfl rfl dX11_readLine_31 hC (fun r S' h => by obtain ⟨rfl, h⟩ := h; exact kk S' h)
theorem bkX11_readLine_34 {d : Nat} {S : hs_T} {Q : Option av_T → hs_T → Prop} {x1 : Int32} (kt : ¬ x1 = 20 → Ev d mX11_readLine 54 [some (vR 11 0), some (vI x1)] [vR 11 0] S Q) (kf : x1 = 20 → Ev d mX11_readLine 41 [some (vR 11 0), some (vI x1)] [vR 11 0] S Q) : Ev d mX11_readLine 34 [some (vR 11 0), some (vI x1)] [] S Q := by
  refine Ev.aload_n dX11_readLine_34 rfl rfl ?_
  refine Ev.iload_n dX11_readLine_35 rfl rfl ?_
  refine Ev.bipush (v := 20) dX11_readLine_36 (by decide) ?_
  exact Ev.icmp_ne (tgt := 54) dX11_readLine_38 (by decide) kt kf
theorem bkX11_readLine_41 {d : Nat} {S : hs_T} {Q : Option av_T → hs_T → Prop} {x1 : Int32} (kt : 8 ≤ (S.1 1201 0 230) → Ev d mX11_readLine 58 [some (vR 11 0), some (vI x1)] [vR 11 0] S Q) (kf : ¬ 8 ≤ (S.1 1201 0 230) → Ev d mX11_readLine 54 [some (vR 11 0), some (vI x1)] [vR 11 0] S Q) : Ev d mX11_readLine 41 [some (vR 11 0), some (vI x1)] [vR 11 0] S Q := by
  refine Ev.aload_n dX11_readLine_41 rfl rfl ?_
  refine Ev.get (v := vR 1201 0) okX11 (by decide) fl_X11_13 pz_11_0 (ff_11_1 _ _) dX11_readLine_42 ?_
  refine Ev.sipush (v := 230) dX11_readLine_45 (by decide) ?_
  refine Ev.ialoadA (a := 230) pz_1201_0 (by decide) ak_1201 (by unfold vp_in; decide) (by decide) dX11_readLine_48 ?_
  refine Ev.bipush (v := 8) dX11_readLine_49 (by decide) ?_
  exact Ev.icmp_ge (tgt := 58) dX11_readLine_51 (by decide) kt kf
theorem bkX11_readLine_54 {d : Nat} {S : hs_T} {Q : Option av_T → hs_T → Prop} {x1 : Int32} (kn : Ev d mX11_readLine 59 [some (vR 11 0), some (vI x1)] [vI 1, vR 11 0] S Q) : Ev d mX11_readLine 54 [some (vR 11 0), some (vI x1)] [vR 11 0] S Q := by
  refine Ev.iconst (v := 1) dX11_readLine_54 (by decide) ?_
  refine Ev.goto (tgt := 59) dX11_readLine_55 (by decide) ?_
  exact kn
theorem bkX11_readLine_58 {d : Nat} {S : hs_T} {Q : Option av_T → hs_T → Prop} {x1 : Int32} (kn : Ev d mX11_readLine 59 [some (vR 11 0), some (vI x1)] [vI 0, vR 11 0] S Q) : Ev d mX11_readLine 58 [some (vR 11 0), some (vI x1)] [vR 11 0] S Q := by
  refine Ev.iconst (v := 0) dX11_readLine_58 (by decide) ?_
  exact kn
theorem bkX11_readLine_59 {d : Nat} {S : hs_T} {Q : Option av_T → hs_T → Prop} {P : hs_T → Prop} {x1 y0 : Int32} (hC : Cv d mX11_needs [vR 11 0, vI y0, vI 5] S P) (kk : ∀ S', P S' → Ev (d + 1) mX11_readLine 63 [some (vR 11 0), some (vI x1)] [] S' Q) : Ev (d + 1) mX11_readLine 59 [some (vR 11 0), some (vI x1)] [vI y0, vR 11 0] S Q := by
  refine Ev.iconst (v := 5) dX11_readLine_59 (by decide) ?_
  exact Ev.callV (as := [vI y0, vI 5]) (rest := []) okX11_needs in_X11_needs ml_X11_96 rfl (Nat.le_of_ble_eq_true rfl) pz_11_0 (by decide) rfl rfl dX11_readLine_60 hC (fun r S' h => by obtain ⟨rfl, h⟩ := h; exact kk S' h)
theorem bkX11_readLine_63 {d : Nat} {S : hs_T} {Q : Option av_T → hs_T → Prop} {x1 : Int32} (kt : ¬ (S.1 11 0 13) = 0 → Ev d mX11_readLine 109 [some (vR 11 0), some (vI x1)] [] S Q) (kf : (S.1 11 0 13) = 0 → Ev d mX11_readLine 70 [some (vR 11 0), some (vI x1)] [] S Q) : Ev d mX11_readLine 63 [some (vR 11 0), some (vI x1)] [] S Q := by
  refine Ev.aload_n dX11_readLine_63 rfl rfl ?_
  refine Ev.get (v := vI (S.1 11 0 13)) okX11 (by decide) fl_X11_62 pz_11_0 (ff_11_13 _ _) dX11_readLine_64 ?_
  exact Ev.if_ne (tgt := 109) dX11_readLine_67 (by decide) kt kf
theorem bkX11_readLine_70 {d : Nat} {S : hs_T} {Q : Option av_T → hs_T → Prop} {x1 : Int32} (kt : x1 = 20 → Ev d mX11_readLine 109 [some (vR 11 0), some (vI x1)] [] S Q) (kf : ¬ x1 = 20 → Ev d mX11_readLine 76 [some (vR 11 0), some (vI x1)] [] S Q) : Ev d mX11_readLine 70 [some (vR 11 0), some (vI x1)] [] S Q := by
  refine Ev.iload_n dX11_readLine_70 rfl rfl ?_
  refine Ev.bipush (v := 20) dX11_readLine_71 (by decide) ?_
  exact Ev.icmp_eq (tgt := 109) dX11_readLine_73 (by decide) kt kf
theorem bkX11_readLine_76 {d : Nat} {S : hs_T} {Q : Option av_T → hs_T → Prop} {x1 : Int32} (kt : ¬ (((S.1 11 0 6) >>> (x1 &&& 31)) &&& 1) = 0 → Ev d mX11_readLine 92 [some (vR 11 0), some (vI x1)] [vR 11 0] S Q) (kf : (((S.1 11 0 6) >>> (x1 &&& 31)) &&& 1) = 0 → Ev d mX11_readLine 88 [some (vR 11 0), some (vI x1)] [vR 11 0] S Q) : Ev d mX11_readLine 76 [some (vR 11 0), some (vI x1)] [] S Q := by
  refine Ev.aload_n dX11_readLine_76 rfl rfl ?_
  refine Ev.aload_n dX11_readLine_77 rfl rfl ?_
  refine Ev.get (v := vI (S.1 11 0 6)) okX11 (by decide) fl_X11_49 pz_11_0 (ff_11_6 _ _) dX11_readLine_78 ?_
  refine Ev.iload_n dX11_readLine_81 rfl rfl ?_
  refine Ev.ishr dX11_readLine_82 ?_
  refine Ev.iconst (v := 1) dX11_readLine_83 (by decide) ?_
  refine Ev.iand dX11_readLine_84 ?_
  exact Ev.if_ne (tgt := 92) dX11_readLine_85 (by decide) kt kf
theorem bkX11_readLine_88 {d : Nat} {S : hs_T} {Q : Option av_T → hs_T → Prop} {x1 : Int32} (kn : Ev d mX11_readLine 93 [some (vR 11 0), some (vI x1)] [vI 1, vR 11 0] S Q) : Ev d mX11_readLine 88 [some (vR 11 0), some (vI x1)] [vR 11 0] S Q := by
  refine Ev.iconst (v := 1) dX11_readLine_88 (by decide) ?_
  refine Ev.goto (tgt := 93) dX11_readLine_89 (by decide) ?_
  exact kn
theorem bkX11_readLine_92 {d : Nat} {S : hs_T} {Q : Option av_T → hs_T → Prop} {x1 : Int32} (kn : Ev d mX11_readLine 93 [some (vR 11 0), some (vI x1)] [vI 0, vR 11 0] S Q) : Ev d mX11_readLine 92 [some (vR 11 0), some (vI x1)] [vR 11 0] S Q := by
  refine Ev.iconst (v := 0) dX11_readLine_92 (by decide) ?_
  exact kn
theorem bkX11_readLine_93 {d : Nat} {S : hs_T} {Q : Option av_T → hs_T → Prop} {P : hs_T → Prop} {x1 y0 : Int32} (hC : Cv d mX11_needs [vR 11 0, vI y0, vI 4] S P) (kk : ∀ S', P S' → Ev (d + 1) mX11_readLine 97 [some (vR 11 0), some (vI x1)] [] S' Q) : Ev (d + 1) mX11_readLine 93 [some (vR 11 0), some (vI x1)] [vI y0, vR 11 0] S Q := by
  refine Ev.iconst (v := 4) dX11_readLine_93 (by decide) ?_
  exact Ev.callV (as := [vI y0, vI 4]) (rest := []) okX11_needs in_X11_needs ml_X11_96 rfl (Nat.le_of_ble_eq_true rfl) pz_11_0 (by decide) rfl rfl dX11_readLine_94 hC (fun r S' h => by obtain ⟨rfl, h⟩ := h; exact kk S' h)
theorem bkX11_readLine_97 {d : Nat} {S : hs_T} {Q : Option av_T → hs_T → Prop} {x1 : Int32} (kn : Ev d mX11_readLine 109 [some (vR 11 0), some (vI x1)] [] (sk_ S 11 0 (upd (S.1 11 0) 6 ((S.1 11 0 6) ||| (1 <<< (x1 &&& 31))))) Q) : Ev d mX11_readLine 97 [some (vR 11 0), some (vI x1)] [] S Q := by
  refine Ev.aload_n dX11_readLine_97 rfl rfl ?_
  refine Ev.dup dX11_readLine_98 rfl ?_
  refine Ev.get (v := vI (S.1 11 0 6)) okX11 (by decide) fl_X11_49 pz_11_0 (ff_11_6 _ _) dX11_readLine_99 ?_
  refine Ev.iconst (v := 1) dX11_readLine_102 (by decide) ?_
  refine Ev.iload_n dX11_readLine_103 rfl rfl ?_
  refine Ev.ishl dX11_readLine_104 ?_
  refine Ev.ior dX11_readLine_105 ?_
  refine Ev.put okX11 (by decide) fl_X11_49 pz_11_0 (by decide) rfl rfl rfl rfl dX11_readLine_106 ?_
  exact kn
theorem bkX11_readLine_109 {d : Nat} {S : hs_T} {Q : Option av_T → hs_T → Prop} {P : hs_T → Prop} {x1 : Int32} (hC : Cv d mX11_token [vR 11 0] S P) (kk : ∀ S', P S' → Ev (d + 1) mX11_readLine 113 [some (vR 11 0), some (vI x1)] [] S' Q) : Ev (d + 1) mX11_readLine 109 [some (vR 11 0), some (vI x1)] [] S Q := by
  refine Ev.aload_n dX11_readLine_109 rfl rfl ?_
  exact Ev.callV (as := []) (rest := []) okX11_token in_X11_token ml_X11_100 rfl (Nat.le_of_ble_eq_true rfl) pz_11_0 (by decide) rfl rfl dX11_readLine_110 hC (fun r S' h => by obtain ⟨rfl, h⟩ := h; exact kk S' h)
theorem bkX11_readLine_113 {d : Nat} {S : hs_T} {Q : Option av_T → hs_T → Prop} {x1 : Int32} (kt : (S.1 11 0 13) ≤ 0 → Ev d mX11_readLine 121 [some (vR 11 0), some (vI x1)] [] S Q) (kf : ¬ (S.1 11 0 13) ≤ 0 → Ev d mX11_readLine 120 [some (vR 11 0), some (vI x1)] [] S Q) : Ev d mX11_readLine 113 [some (vR 11 0), some (vI x1)] [] S Q := by
  refine Ev.aload_n dX11_readLine_113 rfl rfl ?_
  refine Ev.get (v := vI (S.1 11 0 13)) okX11 (by decide) fl_X11_62 pz_11_0 (ff_11_13 _ _) dX11_readLine_114 ?_
  exact Ev.if_le (tgt := 121) dX11_readLine_117 (by decide) kt kf
theorem bkX11_readLine_120 {d : Nat} {S : hs_T} {Q : Option av_T → hs_T → Prop} {x1 : Int32} (hq : Q none S) : Ev d mX11_readLine 120 [some (vR 11 0), some (vI x1)] [] S Q := by
  exact Ev.vret dX11_readLine_120 rfl hq
theorem bkX11_readLine_121 {d : Nat} {S : hs_T} {Q : Option av_T → hs_T → Prop} {x1 : Int32} (kt : ¬ x1 = 20 → Ev d mX11_readLine 134 [some (vR 11 0), some (vI x1)] [] S Q) (kf : x1 = 20 → Ev d mX11_readLine 127 [some (vR 11 0), some (vI x1)] [] S Q) : Ev d mX11_readLine 121 [some (vR 11 0), some (vI x1)] [] S Q := by
  refine Ev.iload_n dX11_readLine_121 rfl rfl ?_
  refine Ev.bipush (v := 20) dX11_readLine_122 (by decide) ?_
  exact Ev.icmp_ne (tgt := 134) dX11_readLine_124 (by decide) kt kf
theorem bkX11_readLine_127 {d : Nat} {S : hs_T} {Q : Option av_T → hs_T → Prop} {P : hs_T → Prop} {x1 : Int32} (hC : Cv d mX11_readState [vR 11 0] S P) (kk : ∀ S', P S' → Ev (d + 1) mX11_readLine 131 [some (vR 11 0), some (vI x1)] [] S' Q) : Ev (d + 1) mX11_readLine 127 [some (vR 11 0), some (vI x1)] [] S Q := by
  refine Ev.aload_n dX11_readLine_127 rfl rfl ?_
  exact Ev.callV (as := []) (rest := []) okX11_readState in_X11_readState ml_X11_124 rfl (Nat.le_of_ble_eq_true rfl) pz_11_0 (by decide) rfl rfl dX11_readLine_128 hC (fun r S' h => by obtain ⟨rfl, h⟩ := h; exact kk S' h)
theorem bkX11_readLine_131 {d : Nat} {S : hs_T} {Q : Option av_T → hs_T → Prop} {x1 : Int32} (kn : Ev d mX11_readLine 198 [some (vR 11 0), some (vI x1)] [] S Q) : Ev d mX11_readLine 131 [some (vR 11 0), some (vI x1)] [] S Q := by
  refine Ev.goto (tgt := 198) dX11_readLine_131 (by decide) ?_
  exact kn
theorem bkX11_readLine_134 {d : Nat} {S : hs_T} {Q : Option av_T → hs_T → Prop} {x1 : Int32} (kt : ¬ x1 = 21 → Ev d mX11_readLine 157 [some (vR 11 0), some (vI x1)] [] S Q) (kf : x1 = 21 → Ev d mX11_readLine 140 [some (vR 11 0), some (vI x1)] [] S Q) : Ev d mX11_readLine 134 [some (vR 11 0), some (vI x1)] [] S Q := by
  refine Ev.iload_n dX11_readLine_134 rfl rfl ?_
  refine Ev.bipush (v := 21) dX11_readLine_135 (by decide) ?_
  exact Ev.icmp_ne (tgt := 157) dX11_readLine_137 (by decide) kt kf
theorem bkX11_readLine_140 {d : Nat} {S : hs_T} {Q : Option av_T → hs_T → Prop} {P : Int32 → hs_T → Prop} {x1 : Int32} (hC : Ci d mX11_readCond [vR 11 0, vI 72] S P) (kk : ∀ v S', P v S' → Ev (d + 1) mX11_readLine 153 [some (vR 11 0), some (vI x1)] [vI v, vI 231, vR 1201 0] S' Q) : Ev (d + 1) mX11_readLine 140 [some (vR 11 0), some (vI x1)] [] S Q := by
  refine Ev.aload_n dX11_readLine_140 rfl rfl ?_
  refine Ev.get (v := vR 1201 0) okX11 (by decide) fl_X11_13 pz_11_0 (ff_11_1 _ _) dX11_readLine_141 ?_
  refine Ev.sipush (v := 231) dX11_readLine_144 (by decide) ?_
  refine Ev.aload_n dX11_readLine_147 rfl rfl ?_
  refine Ev.bipush (v := 72) dX11_readLine_148 (by decide) ?_
  exact Ev.callV (as := [vI 72]) (rest := [vI 231, vR 1201 0]) okX11_readCond in_X11_readCond ml_X11_111 rfl (Nat.le_of_ble_eq_true rfl) pz_11_0 (by decide) rfl rfl dX11_readLine_150 hC (fun r S' h => by obtain ⟨v, rfl, h⟩ := h; exact kk v S' h)
theorem bkX11_readLine_153 {d : Nat} {S : hs_T} {Q : Option av_T → hs_T → Prop} {x1 y0 y1 : Int32} (hi153 : vp_in y1 234) (kn : Ev d mX11_readLine 198 [some (vR 11 0), some (vI x1)] [] (sk_ S 1201 0 (upd (S.1 1201 0) y1.toNatClampNeg y0)) Q) : Ev d mX11_readLine 153 [some (vR 11 0), some (vI x1)] [vI y0, vI y1, vR 1201 0] S Q := by
  refine Ev.iastoreA (a := y1.toNatClampNeg) pz_1201_0 (by decide) ak_1201 hi153 rfl rfl dX11_readLine_153 ?_
  refine Ev.goto (tgt := 198) dX11_readLine_154 (by decide) ?_
  exact kn
theorem bkX11_readLine_157 {d : Nat} {S : hs_T} {Q : Option av_T → hs_T → Prop} {x1 : Int32} (kt : ¬ x1 = 22 → Ev d mX11_readLine 182 [some (vR 11 0), some (vI x1)] [] S Q) (kf : x1 = 22 → Ev d mX11_readLine 163 [some (vR 11 0), some (vI x1)] [] S Q) : Ev d mX11_readLine 157 [some (vR 11 0), some (vI x1)] [] S Q := by
  refine Ev.iload_n dX11_readLine_157 rfl rfl ?_
  refine Ev.bipush (v := 22) dX11_readLine_158 (by decide) ?_
  exact Ev.icmp_ne (tgt := 182) dX11_readLine_160 (by decide) kt kf
theorem bkX11_readLine_163 {d : Nat} {S : hs_T} {Q : Option av_T → hs_T → Prop} {P : Int32 → hs_T → Prop} {x1 : Int32} (hC : Ci d mX11_readNumber [vR 11 0, vI 1, vI 400] S P) (kk : ∀ v S', P v S' → Ev (d + 1) mX11_readLine 178 [some (vR 11 0), some (vI x1)] [vI v, vI 232, vR 1201 0] S' Q) : Ev (d + 1) mX11_readLine 163 [some (vR 11 0), some (vI x1)] [] S Q := by
  refine Ev.aload_n dX11_readLine_163 rfl rfl ?_
  refine Ev.get (v := vR 1201 0) okX11 (by decide) fl_X11_13 pz_11_0 (ff_11_1 _ _) dX11_readLine_164 ?_
  refine Ev.sipush (v := 232) dX11_readLine_167 (by decide) ?_
  refine Ev.aload_n dX11_readLine_170 rfl rfl ?_
  refine Ev.iconst (v := 1) dX11_readLine_171 (by decide) ?_
  refine Ev.sipush (v := 400) dX11_readLine_172 (by decide) ?_
  exact Ev.callV (as := [vI 1, vI 400]) (rest := [vI 232, vR 1201 0]) okX11_readNumber in_X11_readNumber ml_X11_107 rfl (Nat.le_of_ble_eq_true rfl) pz_11_0 (by decide) rfl rfl dX11_readLine_175 hC (fun r S' h => by obtain ⟨v, rfl, h⟩ := h; exact kk v S' h)
theorem bkX11_readLine_178 {d : Nat} {S : hs_T} {Q : Option av_T → hs_T → Prop} {x1 y0 y1 : Int32} (hi178 : vp_in y1 234) (kn : Ev d mX11_readLine 198 [some (vR 11 0), some (vI x1)] [] (sk_ S 1201 0 (upd (S.1 1201 0) y1.toNatClampNeg y0)) Q) : Ev d mX11_readLine 178 [some (vR 11 0), some (vI x1)] [vI y0, vI y1, vR 1201 0] S Q := by
  refine Ev.iastoreA (a := y1.toNatClampNeg) pz_1201_0 (by decide) ak_1201 hi178 rfl rfl dX11_readLine_178 ?_
  refine Ev.goto (tgt := 198) dX11_readLine_179 (by decide) ?_
  exact kn
theorem bkX11_readLine_182 {d : Nat} {S : hs_T} {Q : Option av_T → hs_T → Prop} {P : Int32 → hs_T → Prop} {x1 : Int32} (hC : Ci d mX11_readNumber [vR 11 0, vI 0, vI 399] S P) (kk : ∀ v S', P v S' → Ev (d + 1) mX11_readLine 197 [some (vR 11 0), some (vI x1)] [vI v, vI 233, vR 1201 0] S' Q) : Ev (d + 1) mX11_readLine 182 [some (vR 11 0), some (vI x1)] [] S Q := by
  refine Ev.aload_n dX11_readLine_182 rfl rfl ?_
  refine Ev.get (v := vR 1201 0) okX11 (by decide) fl_X11_13 pz_11_0 (ff_11_1 _ _) dX11_readLine_183 ?_
  refine Ev.sipush (v := 233) dX11_readLine_186 (by decide) ?_
  refine Ev.aload_n dX11_readLine_189 rfl rfl ?_
  refine Ev.iconst (v := 0) dX11_readLine_190 (by decide) ?_
  refine Ev.sipush (v := 399) dX11_readLine_191 (by decide) ?_
  exact Ev.callV (as := [vI 0, vI 399]) (rest := [vI 233, vR 1201 0]) okX11_readNumber in_X11_readNumber ml_X11_107 rfl (Nat.le_of_ble_eq_true rfl) pz_11_0 (by decide) rfl rfl dX11_readLine_194 hC (fun r S' h => by obtain ⟨v, rfl, h⟩ := h; exact kk v S' h)
theorem bkX11_readLine_197 {d : Nat} {S : hs_T} {Q : Option av_T → hs_T → Prop} {x1 y0 y1 : Int32} (hi197 : vp_in y1 234) (kn : Ev d mX11_readLine 198 [some (vR 11 0), some (vI x1)] [] (sk_ S 1201 0 (upd (S.1 1201 0) y1.toNatClampNeg y0)) Q) : Ev d mX11_readLine 197 [some (vR 11 0), some (vI x1)] [vI y0, vI y1, vR 1201 0] S Q := by
  refine Ev.iastoreA (a := y1.toNatClampNeg) pz_1201_0 (by decide) ak_1201 hi197 rfl rfl dX11_readLine_197 ?_
  exact kn
theorem bkX11_readLine_198 {d : Nat} {S : hs_T} {Q : Option av_T → hs_T → Prop} {x1 : Int32} (kt : ¬ (S.1 11 0 13) = 0 → Ev d mX11_readLine 223 [some (vR 11 0), some (vI x1)] [] S Q) (kf : (S.1 11 0 13) = 0 → Ev d mX11_readLine 205 [some (vR 11 0), some (vI x1)] [] S Q) : Ev d mX11_readLine 198 [some (vR 11 0), some (vI x1)] [] S Q := by
  refine Ev.aload_n dX11_readLine_198 rfl rfl ?_
  refine Ev.get (v := vI (S.1 11 0 13)) okX11 (by decide) fl_X11_62 pz_11_0 (ff_11_13 _ _) dX11_readLine_199 ?_
  exact Ev.if_ne (tgt := 223) dX11_readLine_202 (by decide) kt kf
theorem bkX11_readLine_205 {d : Nat} {S : hs_T} {Q : Option av_T → hs_T → Prop} {x1 : Int32} (kt : ¬ (S.1 11 0 11) = 3 → Ev d mX11_readLine 218 [some (vR 11 0), some (vI x1)] [vR 11 0] S Q) (kf : (S.1 11 0 11) = 3 → Ev d mX11_readLine 214 [some (vR 11 0), some (vI x1)] [vR 11 0] S Q) : Ev d mX11_readLine 205 [some (vR 11 0), some (vI x1)] [] S Q := by
  refine Ev.aload_n dX11_readLine_205 rfl rfl ?_
  refine Ev.aload_n dX11_readLine_206 rfl rfl ?_
  refine Ev.get (v := vI (S.1 11 0 11)) okX11 (by decide) fl_X11_82 pz_11_0 (ff_11_11 _ _) dX11_readLine_207 ?_
  refine Ev.iconst (v := 3) dX11_readLine_210 (by decide) ?_
  exact Ev.icmp_ne (tgt := 218) dX11_readLine_211 (by decide) kt kf
theorem bkX11_readLine_214 {d : Nat} {S : hs_T} {Q : Option av_T → hs_T → Prop} {x1 : Int32} (kn : Ev d mX11_readLine 219 [some (vR 11 0), some (vI x1)] [vI 1, vR 11 0] S Q) : Ev d mX11_readLine 214 [some (vR 11 0), some (vI x1)] [vR 11 0] S Q := by
  refine Ev.iconst (v := 1) dX11_readLine_214 (by decide) ?_
  refine Ev.goto (tgt := 219) dX11_readLine_215 (by decide) ?_
  exact kn
theorem bkX11_readLine_218 {d : Nat} {S : hs_T} {Q : Option av_T → hs_T → Prop} {x1 : Int32} (kn : Ev d mX11_readLine 219 [some (vR 11 0), some (vI x1)] [vI 0, vR 11 0] S Q) : Ev d mX11_readLine 218 [some (vR 11 0), some (vI x1)] [vR 11 0] S Q := by
  refine Ev.iconst (v := 0) dX11_readLine_218 (by decide) ?_
  exact kn
theorem bkX11_readLine_219 {d : Nat} {S : hs_T} {Q : Option av_T → hs_T → Prop} {P : hs_T → Prop} {x1 y0 : Int32} (hC : Cv d mX11_needs [vR 11 0, vI y0, vI 2] S P) (kk : ∀ S', P S' → Ev (d + 1) mX11_readLine 223 [some (vR 11 0), some (vI x1)] [] S' Q) : Ev (d + 1) mX11_readLine 219 [some (vR 11 0), some (vI x1)] [vI y0, vR 11 0] S Q := by
  refine Ev.iconst (v := 2) dX11_readLine_219 (by decide) ?_
  exact Ev.callV (as := [vI y0, vI 2]) (rest := []) okX11_needs in_X11_needs ml_X11_96 rfl (Nat.le_of_ble_eq_true rfl) pz_11_0 (by decide) rfl rfl dX11_readLine_220 hC (fun r S' h => by obtain ⟨rfl, h⟩ := h; exact kk S' h)
theorem bkX11_readLine_223 {d : Nat} {S : hs_T} {Q : Option av_T → hs_T → Prop} {P : hs_T → Prop} {x1 : Int32} (hC : Cv d mX11_token [vR 11 0] S P) (kk : ∀ S', P S' → Ev (d + 1) mX11_readLine 227 [some (vR 11 0), some (vI x1)] [] S' Q) : Ev (d + 1) mX11_readLine 223 [some (vR 11 0), some (vI x1)] [] S Q := by
  refine Ev.aload_n dX11_readLine_223 rfl rfl ?_
  exact Ev.callV (as := []) (rest := []) okX11_token in_X11_token ml_X11_100 rfl (Nat.le_of_ble_eq_true rfl) pz_11_0 (by decide) rfl rfl dX11_readLine_224 hC (fun r S' h => by obtain ⟨rfl, h⟩ := h; exact kk S' h)
theorem bkX11_readLine_227 {d : Nat} {S : hs_T} {Q : Option av_T → hs_T → Prop} {x1 : Int32} (hq : Q none S) : Ev d mX11_readLine 227 [some (vR 11 0), some (vI x1)] [] S Q := by
  exact Ev.vret dX11_readLine_227 rfl hq
/-! EightWiresModel.isWhole()Z -/
theorem bkX11_isWhole_0 {d : Nat} {S : hs_T} {Q : Option av_T → hs_T → Prop} {o1 o2 o3 o4 : Option av_T} (kt : (S.1 1201 0 232) ≤ (S.1 1201 0 233) → Ev d mX11_isWhole 23 [some (vR 11 0), o1, o2, o3, o4] [] S Q) (kf : ¬ (S.1 1201 0 232) ≤ (S.1 1201 0 233) → Ev d mX11_isWhole 19 [some (vR 11 0), o1, o2, o3, o4] [] S Q) : Ev d mX11_isWhole 0 [some (vR 11 0), o1, o2, o3, o4] [] S Q := by
  refine Ev.aload_n dX11_isWhole_0 rfl rfl ?_
  refine Ev.get (v := vR 1201 0) okX11 (by decide) fl_X11_13 pz_11_0 (ff_11_1 _ _) dX11_isWhole_1 ?_
  refine Ev.sipush (v := 233) dX11_isWhole_4 (by decide) ?_
  refine Ev.ialoadA (a := 233) pz_1201_0 (by decide) ak_1201 (by unfold vp_in; decide) (by decide) dX11_isWhole_7 ?_
  refine Ev.aload_n dX11_isWhole_8 rfl rfl ?_
  refine Ev.get (v := vR 1201 0) okX11 (by decide) fl_X11_13 pz_11_0 (ff_11_1 _ _) dX11_isWhole_9 ?_
  refine Ev.sipush (v := 232) dX11_isWhole_12 (by decide) ?_
  refine Ev.ialoadA (a := 232) pz_1201_0 (by decide) ak_1201 (by unfold vp_in; decide) (by decide) dX11_isWhole_15 ?_
  exact Ev.icmp_ge (tgt := 23) dX11_isWhole_16 (by decide) kt kf
theorem bkX11_isWhole_19 {d : Nat} {S : hs_T} {Q : Option av_T → hs_T → Prop} {o1 o2 o3 o4 : Option av_T} (kn : Ev d mX11_isWhole 24 [some (vR 11 0), o1, o2, o3, o4] [vI 1] S Q) : Ev d mX11_isWhole 19 [some (vR 11 0), o1, o2, o3, o4] [] S Q := by
  refine Ev.iconst (v := 1) dX11_isWhole_19 (by decide) ?_
  refine Ev.goto (tgt := 24) dX11_isWhole_20 (by decide) ?_
  exact kn
theorem bkX11_isWhole_23 {d : Nat} {S : hs_T} {Q : Option av_T → hs_T → Prop} {o1 o2 o3 o4 : Option av_T} (kn : Ev d mX11_isWhole 24 [some (vR 11 0), o1, o2, o3, o4] [vI 0] S Q) : Ev d mX11_isWhole 23 [some (vR 11 0), o1, o2, o3, o4] [] S Q := by
  refine Ev.iconst (v := 0) dX11_isWhole_23 (by decide) ?_
  exact kn
theorem bkX11_isWhole_24 {d : Nat} {S : hs_T} {Q : Option av_T → hs_T → Prop} {y0 : Int32} {o1 o2 o3 o4 : Option av_T} (kn : Ev d mX11_isWhole 27 [some (vR 11 0), some (vI y0), some (vI 0), o3, o4] [] S Q) : Ev d mX11_isWhole 24 [some (vR 11 0), o1, o2, o3, o4] [vI y0] S Q := by
  refine Ev.istore_n (ls' := [some (vR 11 0), some (vI y0), o2, o3, o4]) dX11_isWhole_24 rfl (by decide) rfl ?_
  refine Ev.iconst (v := 0) dX11_isWhole_25 (by decide) ?_
  refine Ev.istore_n (ls' := [some (vR 11 0), some (vI y0), some (vI 0), o3, o4]) dX11_isWhole_26 rfl (by decide) rfl ?_
  exact kn
theorem bkX11_isWhole_27 {d : Nat} {S : hs_T} {Q : Option av_T → hs_T → Prop} {x1 x2 : Int32} {o3 o4 : Option av_T} (kt : (S.1 1201 0 230) ≤ x2 → Ev d mX11_isWhole 112 [some (vR 11 0), some (vI x1), some (vI x2), o3, o4] [] S Q) (kf : ¬ (S.1 1201 0 230) ≤ x2 → Ev d mX11_isWhole 39 [some (vR 11 0), some (vI x1), some (vI x2), o3, o4] [] S Q) : Ev d mX11_isWhole 27 [some (vR 11 0), some (vI x1), some (vI x2), o3, o4] [] S Q := by
  refine Ev.iload_n dX11_isWhole_27 rfl rfl ?_
  refine Ev.aload_n dX11_isWhole_28 rfl rfl ?_
  refine Ev.get (v := vR 1201 0) okX11 (by decide) fl_X11_13 pz_11_0 (ff_11_1 _ _) dX11_isWhole_29 ?_
  refine Ev.sipush (v := 230) dX11_isWhole_32 (by decide) ?_
  refine Ev.ialoadA (a := 230) pz_1201_0 (by decide) ak_1201 (by unfold vp_in; decide) (by decide) dX11_isWhole_35 ?_
  exact Ev.icmp_ge (tgt := 112) dX11_isWhole_36 (by decide) kt kf
theorem bkX11_isWhole_39 {d : Nat} {S : hs_T} {Q : Option av_T → hs_T → Prop} {x1 x2 : Int32} {o3 o4 : Option av_T} (kn : Ev d mX11_isWhole 41 [some (vR 11 0), some (vI x1), some (vI x2), some (vI 0), o4] [] S Q) : Ev d mX11_isWhole 39 [some (vR 11 0), some (vI x1), some (vI x2), o3, o4] [] S Q := by
  refine Ev.iconst (v := 0) dX11_isWhole_39 (by decide) ?_
  refine Ev.istore_n (ls' := [some (vR 11 0), some (vI x1), some (vI x2), some (vI 0), o4]) dX11_isWhole_40 rfl (by decide) rfl ?_
  exact kn
theorem bkX11_isWhole_41 {d : Nat} {S : hs_T} {Q : Option av_T → hs_T → Prop} {x1 x2 x3 : Int32} {o4 : Option av_T} (hi51 : vp_in (222 + x2) 234) (kt : (S.1 1201 0 (222 + x2).toNatClampNeg) ≤ x3 → Ev d mX11_isWhole 106 [some (vR 11 0), some (vI x1), some (vI x2), some (vI x3), o4] [] S Q) (kf : ¬ (S.1 1201 0 (222 + x2).toNatClampNeg) ≤ x3 → Ev d mX11_isWhole 55 [some (vR 11 0), some (vI x1), some (vI x2), some (vI x3), o4] [] S Q) : Ev d mX11_isWhole 41 [some (vR 11 0), some (vI x1), some (vI x2), some (vI x3), o4] [] S Q := by
  refine Ev.iload_n dX11_isWhole_41 rfl rfl ?_
  refine Ev.aload_n dX11_isWhole_42 rfl rfl ?_
  refine Ev.get (v := vR 1201 0) okX11 (by decide) fl_X11_13 pz_11_0 (ff_11_1 _ _) dX11_isWhole_43 ?_
  refine Ev.sipush (v := 222) dX11_isWhole_46 (by decide) ?_
  refine Ev.iload_n dX11_isWhole_49 rfl rfl ?_
  refine Ev.iadd dX11_isWhole_50 ?_
  refine Ev.ialoadA (a := (222 + x2).toNatClampNeg) pz_1201_0 (by decide) ak_1201 hi51 rfl dX11_isWhole_51 ?_
  exact Ev.icmp_ge (tgt := 106) dX11_isWhole_52 (by decide) kt kf
theorem bkX11_isWhole_55 {d : Nat} {S : hs_T} {Q : Option av_T → hs_T → Prop} {x1 x2 x3 : Int32} {o4 : Option av_T} (hi67 : vp_in ((48 + (3 * x2)) + x3) 234) (kt : x1 = 0 → Ev d mX11_isWhole 98 [some (vR 11 0), some (vI x1), some (vI x2), some (vI x3), some (vI (S.1 1201 0 ((48 + (3 * x2)) + x3).toNatClampNeg))] [] S Q) (kf : ¬ x1 = 0 → Ev d mX11_isWhole 74 [some (vR 11 0), some (vI x1), some (vI x2), some (vI x3), some (vI (S.1 1201 0 ((48 + (3 * x2)) + x3).toNatClampNeg))] [] S Q) : Ev d mX11_isWhole 55 [some (vR 11 0), some (vI x1), some (vI x2), some (vI x3), o4] [] S Q := by
  refine Ev.aload_n dX11_isWhole_55 rfl rfl ?_
  refine Ev.get (v := vR 1201 0) okX11 (by decide) fl_X11_13 pz_11_0 (ff_11_1 _ _) dX11_isWhole_56 ?_
  refine Ev.bipush (v := 48) dX11_isWhole_59 (by decide) ?_
  refine Ev.iconst (v := 3) dX11_isWhole_61 (by decide) ?_
  refine Ev.iload_n dX11_isWhole_62 rfl rfl ?_
  refine Ev.imul dX11_isWhole_63 ?_
  refine Ev.iadd dX11_isWhole_64 ?_
  refine Ev.iload_n dX11_isWhole_65 rfl rfl ?_
  refine Ev.iadd dX11_isWhole_66 ?_
  refine Ev.ialoadA (a := ((48 + (3 * x2)) + x3).toNatClampNeg) pz_1201_0 (by decide) ak_1201 hi67 rfl dX11_isWhole_67 ?_
  refine Ev.istore (ls' := [some (vR 11 0), some (vI x1), some (vI x2), some (vI x3), some (vI (S.1 1201 0 ((48 + (3 * x2)) + x3).toNatClampNeg))]) dX11_isWhole_68 (by decide) rfl ?_
  refine Ev.iload_n dX11_isWhole_70 rfl rfl ?_
  exact Ev.if_eq (tgt := 98) dX11_isWhole_71 (by decide) kt kf
theorem bkX11_isWhole_74 {d : Nat} {S : hs_T} {Q : Option av_T → hs_T → Prop} {x1 x2 x3 x4 : Int32} (kt : x4 = 8 → Ev d mX11_isWhole 94 [some (vR 11 0), some (vI x1), some (vI x2), some (vI x3), some (vI x4)] [] S Q) (kf : ¬ x4 = 8 → Ev d mX11_isWhole 81 [some (vR 11 0), some (vI x1), some (vI x2), some (vI x3), some (vI x4)] [] S Q) : Ev d mX11_isWhole 74 [some (vR 11 0), some (vI x1), some (vI x2), some (vI x3), some (vI x4)] [] S Q := by
  refine Ev.iload dX11_isWhole_74 rfl ?_
  refine Ev.bipush (v := 8) dX11_isWhole_76 (by decide) ?_
  exact Ev.icmp_eq (tgt := 94) dX11_isWhole_78 (by decide) kt kf
theorem bkX11_isWhole_81 {d : Nat} {S : hs_T} {Q : Option av_T → hs_T → Prop} {x1 x2 x3 x4 : Int32} (kt : (S.1 1201 0 230) ≤ x4 → Ev d mX11_isWhole 98 [some (vR 11 0), some (vI x1), some (vI x2), some (vI x3), some (vI x4)] [] S Q) (kf : ¬ (S.1 1201 0 230) ≤ x4 → Ev d mX11_isWhole 94 [some (vR 11 0), some (vI x1), some (vI x2), some (vI x3), some (vI x4)] [] S Q) : Ev d mX11_isWhole 81 [some (vR 11 0), some (vI x1), some (vI x2), some (vI x3), some (vI x4)] [] S Q := by
  refine Ev.iload dX11_isWhole_81 rfl ?_
  refine Ev.aload_n dX11_isWhole_83 rfl rfl ?_
  refine Ev.get (v := vR 1201 0) okX11 (by decide) fl_X11_13 pz_11_0 (ff_11_1 _ _) dX11_isWhole_84 ?_
  refine Ev.sipush (v := 230) dX11_isWhole_87 (by decide) ?_
  refine Ev.ialoadA (a := 230) pz_1201_0 (by decide) ak_1201 (by unfold vp_in; decide) (by decide) dX11_isWhole_90 ?_
  exact Ev.icmp_ge (tgt := 98) dX11_isWhole_91 (by decide) kt kf
theorem bkX11_isWhole_94 {d : Nat} {S : hs_T} {Q : Option av_T → hs_T → Prop} {x1 x2 x3 x4 : Int32} (kn : Ev d mX11_isWhole 99 [some (vR 11 0), some (vI x1), some (vI x2), some (vI x3), some (vI x4)] [vI 1] S Q) : Ev d mX11_isWhole 94 [some (vR 11 0), some (vI x1), some (vI x2), some (vI x3), some (vI x4)] [] S Q := by
  refine Ev.iconst (v := 1) dX11_isWhole_94 (by decide) ?_
  refine Ev.goto (tgt := 99) dX11_isWhole_95 (by decide) ?_
  exact kn
theorem bkX11_isWhole_98 {d : Nat} {S : hs_T} {Q : Option av_T → hs_T → Prop} {x1 x2 x3 x4 : Int32} (kn : Ev d mX11_isWhole 99 [some (vR 11 0), some (vI x1), some (vI x2), some (vI x3), some (vI x4)] [vI 0] S Q) : Ev d mX11_isWhole 98 [some (vR 11 0), some (vI x1), some (vI x2), some (vI x3), some (vI x4)] [] S Q := by
  refine Ev.iconst (v := 0) dX11_isWhole_98 (by decide) ?_
  exact kn
theorem bkX11_isWhole_99 {d : Nat} {S : hs_T} {Q : Option av_T → hs_T → Prop} {x1 x2 x3 x4 y0 : Int32} (kn : Ev d mX11_isWhole 41 [some (vR 11 0), some (vI y0), some (vI x2), some (vI (x3 + 1)), some (vI x4)] [] S Q) : Ev d mX11_isWhole 99 [some (vR 11 0), some (vI x1), some (vI x2), some (vI x3), some (vI x4)] [vI y0] S Q := by
  refine Ev.istore_n (ls' := [some (vR 11 0), some (vI y0), some (vI x2), some (vI x3), some (vI x4)]) dX11_isWhole_99 rfl (by decide) rfl ?_
  refine Ev.iinc (v := (x3 + 1)) (ls' := [some (vR 11 0), some (vI y0), some (vI x2), some (vI (x3 + 1)), some (vI x4)]) dX11_isWhole_100 rfl rfl (by decide) rfl ?_
  refine Ev.goto (tgt := 41) dX11_isWhole_103 (by decide) ?_
  exact kn
theorem bkX11_isWhole_106 {d : Nat} {S : hs_T} {Q : Option av_T → hs_T → Prop} {x1 x2 x3 : Int32} {o4 : Option av_T} (kn : Ev d mX11_isWhole 27 [some (vR 11 0), some (vI x1), some (vI (x2 + 1)), some (vI x3), o4] [] S Q) : Ev d mX11_isWhole 106 [some (vR 11 0), some (vI x1), some (vI x2), some (vI x3), o4] [] S Q := by
  refine Ev.iinc (v := (x2 + 1)) (ls' := [some (vR 11 0), some (vI x1), some (vI (x2 + 1)), some (vI x3), o4]) dX11_isWhole_106 rfl rfl (by decide) rfl ?_
  refine Ev.goto (tgt := 27) dX11_isWhole_109 (by decide) ?_
  exact kn
theorem bkX11_isWhole_112 {d : Nat} {S : hs_T} {Q : Option av_T → hs_T → Prop} {x1 x2 : Int32} {o3 o4 : Option av_T} (hn113 : narrow .boolean (.int x1) = .int x1) (hq : Q (some (vI x1)) S) : Ev d mX11_isWhole 112 [some (vR 11 0), some (vI x1), some (vI x2), o3, o4] [] S Q := by
  refine Ev.iload_n dX11_isWhole_112 rfl rfl ?_
  exact Ev.iret dX11_isWhole_113 rfl hn113 hq
/-! EightWiresModel.text()I -/
theorem bkX11_text_0 {d : Nat} {S : hs_T} {Q : Option av_T → hs_T → Prop} {P : hs_T → Prop} {o1 : Option av_T} (hC : Cv d mX11_firstDraft [vR 11 0] (sk_ (sk_ S 11 0 (upd (S.1 11 0) 13 0)) 11 0 (upd ((sk_ S 11 0 (upd (S.1 11 0) 13 0)).1 11 0) 9 0)) P) (kk : ∀ S', P S' → Ev (d + 1) mX11_text 16 [some (vR 11 0), some (vI 0)] [] S' Q) : Ev (d + 1) mX11_text 0 [some (vR 11 0), o1] [] S Q := by
  refine Ev.iconst (v := 0) dX11_text_0 (by decide) ?_
  refine Ev.istore_n (ls' := [some (vR 11 0), some (vI 0)]) dX11_text_1 rfl (by decide) rfl ?_
  refine Ev.aload_n dX11_text_2 rfl rfl ?_
  refine Ev.iconst (v := 0) dX11_text_3 (by decide) ?_
  refine Ev.put okX11 (by decide) fl_X11_62 pz_11_0 (by decide) rfl rfl rfl rfl dX11_text_4 ?_
  refine Ev.aload_n dX11_text_7 rfl rfl ?_
  refine Ev.iconst (v := 0) dX11_text_8 (by decide) ?_
  refine Ev.put okX11 (by decide) fl_X11_71 pz_11_0 (by decide) rfl rfl rfl rfl dX11_text_9 ?_
  refine Ev.aload_n dX11_text_12 rfl rfl ?_
  exact Ev.callV (as := []) (rest := []) okX11_firstDraft in_X11_firstDraft ml_X11_43 rfl (Nat.le_of_ble_eq_true rfl) pz_11_0 (by decide) rfl rfl dX11_text_13 hC (fun r S' h => by obtain ⟨rfl, h⟩ := h; exact kk S' h)
theorem bkX11_text_16 {d : Nat} {S : hs_T} {Q : Option av_T → hs_T → Prop} {P : hs_T → Prop} {x1 : Int32} (hC : Cv d mX11_token [vR 11 0] S P) (kk : ∀ S', P S' → Ev (d + 1) mX11_text 20 [some (vR 11 0), some (vI x1)] [] S' Q) : Ev (d + 1) mX11_text 16 [some (vR 11 0), some (vI x1)] [] S Q := by
  refine Ev.aload_n dX11_text_16 rfl rfl ?_
  exact Ev.callV (as := []) (rest := []) okX11_token in_X11_token ml_X11_100 rfl (Nat.le_of_ble_eq_true rfl) pz_11_0 (by decide) rfl rfl dX11_text_17 hC (fun r S' h => by obtain ⟨rfl, h⟩ := h; exact kk S' h)
theorem bkX11_text_20 {d : Nat} {S : hs_T} {Q : Option av_T → hs_T → Prop} {x1 : Int32} (kt : ¬ (S.1 11 0 13) = 0 → Ev d mX11_text 44 [some (vR 11 0), some (vI x1)] [] S Q) (kf : (S.1 11 0 13) = 0 → Ev d mX11_text 27 [some (vR 11 0), some (vI x1)] [] S Q) : Ev d mX11_text 20 [some (vR 11 0), some (vI x1)] [] S Q := by
  refine Ev.aload_n dX11_text_20 rfl rfl ?_
  refine Ev.get (v := vI (S.1 11 0 13)) okX11 (by decide) fl_X11_62 pz_11_0 (ff_11_13 _ _) dX11_text_21 ?_
  exact Ev.if_ne (tgt := 44) dX11_text_24 (by decide) kt kf
theorem bkX11_text_27 {d : Nat} {S : hs_T} {Q : Option av_T → hs_T → Prop} {x1 : Int32} (kt : (S.1 11 0 11) = 0 → Ev d mX11_text 44 [some (vR 11 0), some (vI x1)] [] S Q) (kf : ¬ (S.1 11 0 11) = 0 → Ev d mX11_text 34 [some (vR 11 0), some (vI x1)] [] S Q) : Ev d mX11_text 27 [some (vR 11 0), some (vI x1)] [] S Q := by
  refine Ev.aload_n dX11_text_27 rfl rfl ?_
  refine Ev.get (v := vI (S.1 11 0 11)) okX11 (by decide) fl_X11_82 pz_11_0 (ff_11_11 _ _) dX11_text_28 ?_
  exact Ev.if_eq (tgt := 44) dX11_text_31 (by decide) kt kf
theorem bkX11_text_34 {d : Nat} {S : hs_T} {Q : Option av_T → hs_T → Prop} {P : hs_T → Prop} {x1 : Int32} (hC : Cv d mX11_readLine [vR 11 0] S P) (kk : ∀ S', P S' → Ev (d + 1) mX11_text 38 [some (vR 11 0), some (vI x1)] [] S' Q) : Ev (d + 1) mX11_text 34 [some (vR 11 0), some (vI x1)] [] S Q := by
  refine Ev.aload_n dX11_text_34 rfl rfl ?_
  exact Ev.callV (as := []) (rest := []) okX11_readLine in_X11_readLine ml_X11_127 rfl (Nat.le_of_ble_eq_true rfl) pz_11_0 (by decide) rfl rfl dX11_text_35 hC (fun r S' h => by obtain ⟨rfl, h⟩ := h; exact kk S' h)
theorem bkX11_text_38 {d : Nat} {S : hs_T} {Q : Option av_T → hs_T → Prop} {x1 : Int32} (kn : Ev d mX11_text 20 [some (vR 11 0), some (vI (x1 + 1))] [] S Q) : Ev d mX11_text 38 [some (vR 11 0), some (vI x1)] [] S Q := by
  refine Ev.iinc (v := (x1 + 1)) (ls' := [some (vR 11 0), some (vI (x1 + 1))]) dX11_text_38 rfl rfl (by decide) rfl ?_
  refine Ev.goto (tgt := 20) dX11_text_41 (by decide) ?_
  exact kn
theorem bkX11_text_44 {d : Nat} {S : hs_T} {Q : Option av_T → hs_T → Prop} {x1 : Int32} (kt : ¬ (S.1 11 0 13) = 0 → Ev d mX11_text 61 [some (vR 11 0), some (vI x1)] [] S Q) (kf : (S.1 11 0 13) = 0 → Ev d mX11_text 51 [some (vR 11 0), some (vI x1)] [] S Q) : Ev d mX11_text 44 [some (vR 11 0), some (vI x1)] [] S Q := by
  refine Ev.aload_n dX11_text_44 rfl rfl ?_
  refine Ev.get (v := vI (S.1 11 0 13)) okX11 (by decide) fl_X11_62 pz_11_0 (ff_11_13 _ _) dX11_text_45 ?_
  exact Ev.if_ne (tgt := 61) dX11_text_48 (by decide) kt kf
theorem bkX11_text_51 {d : Nat} {S : hs_T} {Q : Option av_T → hs_T → Prop} {P : Int32 → hs_T → Prop} {x1 : Int32} (hC : Ci d mX11_isWhole [vR 11 0] S P) (kk : ∀ v S', P v S' → Ev (d + 1) mX11_text 56 [some (vR 11 0), some (vI x1)] [vI v, vR 11 0] S' Q) : Ev (d + 1) mX11_text 51 [some (vR 11 0), some (vI x1)] [] S Q := by
  refine Ev.aload_n dX11_text_51 rfl rfl ?_
  refine Ev.aload_n dX11_text_52 rfl rfl ?_
  exact Ev.callV (as := []) (rest := [vR 11 0]) okX11_isWhole in_X11_isWhole ml_X11_130 rfl (Nat.le_of_ble_eq_true rfl) pz_11_0 (by decide) rfl rfl dX11_text_53 hC (fun r S' h => by obtain ⟨v, rfl, h⟩ := h; exact kk v S' h)
theorem bkX11_text_56 {d : Nat} {S : hs_T} {Q : Option av_T → hs_T → Prop} {P : hs_T → Prop} {x1 y0 : Int32} (hC : Cv d mX11_needs [vR 11 0, vI y0, vI 6] S P) (kk : ∀ S', P S' → Ev (d + 1) mX11_text 61 [some (vR 11 0), some (vI x1)] [] S' Q) : Ev (d + 1) mX11_text 56 [some (vR 11 0), some (vI x1)] [vI y0, vR 11 0] S Q := by
  refine Ev.bipush (v := 6) dX11_text_56 (by decide) ?_
  exact Ev.callV (as := [vI y0, vI 6]) (rest := []) okX11_needs in_X11_needs ml_X11_96 rfl (Nat.le_of_ble_eq_true rfl) pz_11_0 (by decide) rfl rfl dX11_text_58 hC (fun r S' h => by obtain ⟨rfl, h⟩ := h; exact kk S' h)
theorem bkX11_text_61 {d : Nat} {S : hs_T} {Q : Option av_T → hs_T → Prop} {x1 : Int32} (kt : ((sk_ S 11 0 (upd (S.1 11 0) 8 0)).1 11 0 13) ≤ 0 → Ev d mX11_text 81 [some (vR 11 0), some (vI x1)] [] (sk_ S 11 0 (upd (S.1 11 0) 8 0)) Q) (kf : ¬ ((sk_ S 11 0 (upd (S.1 11 0) 8 0)).1 11 0 13) ≤ 0 → Ev d mX11_text 73 [some (vR 11 0), some (vI x1)] [] (sk_ S 11 0 (upd (S.1 11 0) 8 0)) Q) : Ev d mX11_text 61 [some (vR 11 0), some (vI x1)] [] S Q := by
  refine Ev.aload_n dX11_text_61 rfl rfl ?_
  refine Ev.iconst (v := 0) dX11_text_62 (by decide) ?_
  refine Ev.put okX11 (by decide) fl_X11_53 pz_11_0 (by decide) rfl rfl rfl rfl dX11_text_63 ?_
  refine Ev.aload_n dX11_text_66 rfl rfl ?_
  refine Ev.get (v := vI ((sk_ S 11 0 (upd (S.1 11 0) 8 0)).1 11 0 13)) okX11 (by decide) fl_X11_62 pz_11_0 (ff_11_13 _ _) dX11_text_67 ?_
  exact Ev.if_le (tgt := 81) dX11_text_70 (by decide) kt kf
theorem bkX11_text_73 {d : Nat} {S : hs_T} {Q : Option av_T → hs_T → Prop} {x1 : Int32} (hq : Q (some (vI ((-10) - (S.1 11 0 14)))) S) : Ev d mX11_text 73 [some (vR 11 0), some (vI x1)] [] S Q := by
  refine Ev.bipush (v := (-10)) dX11_text_73 (by decide) ?_
  refine Ev.aload_n dX11_text_75 rfl rfl ?_
  refine Ev.get (v := vI (S.1 11 0 14)) okX11 (by decide) fl_X11_68 pz_11_0 (ff_11_14 _ _) dX11_text_76 ?_
  refine Ev.isub dX11_text_79 ?_
  exact Ev.iret dX11_text_80 rfl rfl hq
theorem bkX11_text_81 {d : Nat} {S : hs_T} {Q : Option av_T → hs_T → Prop} {P : hs_T → Prop} {x1 : Int32} (hC : Cv d mX11_keepDraft [vR 11 0] S P) (kk : ∀ S', P S' → Ev (d + 1) mX11_text 85 [some (vR 11 0), some (vI x1)] [] S' Q) : Ev (d + 1) mX11_text 81 [some (vR 11 0), some (vI x1)] [] S Q := by
  refine Ev.aload_n dX11_text_81 rfl rfl ?_
  exact Ev.callV (as := []) (rest := []) okX11_keepDraft in_X11_keepDraft ml_X11_46 rfl (Nat.le_of_ble_eq_true rfl) pz_11_0 (by decide) rfl rfl dX11_text_82 hC (fun r S' h => by obtain ⟨rfl, h⟩ := h; exact kk S' h)
theorem bkX11_text_85 {d : Nat} {S : hs_T} {Q : Option av_T → hs_T → Prop} {x1 : Int32} (hq : Q (some (vI x1)) S) : Ev d mX11_text 85 [some (vR 11 0), some (vI x1)] [] S Q := by
  refine Ev.iload_n dX11_text_85 rfl rfl ?_
  exact Ev.iret dX11_text_86 rfl rfl hq
/-! EightWiresModel.fault()I -/
theorem bkX11_fault_0 {d : Nat} {S : hs_T} {Q : Option av_T → hs_T → Prop} (hq : Q (some (vI (S.1 11 0 13))) S) : Ev d mX11_fault 0 [some (vR 11 0)] [] S Q := by
  refine Ev.aload_n dX11_fault_0 rfl rfl ?_
  refine Ev.get (v := vI (S.1 11 0 13)) okX11 (by decide) fl_X11_62 pz_11_0 (ff_11_13 _ _) dX11_fault_1 ?_
  exact Ev.iret dX11_fault_4 rfl rfl hq
/-! EightWiresModel.isState(I)Z -/
theorem bkX11_isState_0 {d : Nat} {S : hs_T} {Q : Option av_T → hs_T → Prop} {P : Int32 → hs_T → Prop} {x1 : Int32} (hC : Ci d mX11_in [vJ x1.toInt64, vJ 0, vJ (((S.1 1200 0 230) - 1).toInt64)] S P) (kk : ∀ v S', P v S' → Ev (d + 1) mX11_isState 17 [some (vR 11 0), some (vI x1)] [vI v] S' Q) : Ev (d + 1) mX11_isState 0 [some (vR 11 0), some (vI x1)] [] S Q := by
  refine Ev.iload_n dX11_isState_0 rfl rfl ?_
  refine Ev.i2l dX11_isState_1 ?_
  refine Ev.lconst (v := 0) dX11_isState_2 (by decide) ?_
  refine Ev.aload_n dX11_isState_3 rfl rfl ?_
  refine Ev.get (v := vR 1200 0) okX11 (by decide) fl_X11_7 pz_11_0 (ff_11_0 _ _) dX11_isState_4 ?_
  refine Ev.sipush (v := 230) dX11_isState_7 (by decide) ?_
  refine Ev.ialoadA (a := 230) pz_1200_0 (by decide) ak_1200 (by unfold vp_in; decide) (by decide) dX11_isState_10 ?_
  refine Ev.iconst (v := 1) dX11_isState_11 (by decide) ?_
  refine Ev.isub dX11_isState_12 ?_
  refine Ev.i2l dX11_isState_13 ?_
  exact Ev.callS (as := [vJ x1.toInt64, vJ 0, vJ (((S.1 1200 0 230) - 1).toInt64)]) (rest := []) okX11_in stX11_in ml_X11_58 rfl (Nat.le_of_ble_eq_true rfl) rfl dX11_isState_14 hC (fun r S' h => by obtain ⟨v, rfl, h⟩ := h; exact kk v S' h)
theorem bkX11_isState_17 {d : Nat} {S : hs_T} {Q : Option av_T → hs_T → Prop} {x1 y0 : Int32} (hn17 : narrow .boolean (.int y0) = .int y0) (hq : Q (some (vI y0)) S) : Ev d mX11_isState 17 [some (vR 11 0), some (vI x1)] [vI y0] S Q := by
  exact Ev.iret dX11_isState_17 rfl hn17 hq
/-! EightWiresModel.rule(I)I -/
theorem bkX11_rule_0 {d : Nat} {S : hs_T} {Q : Option av_T → hs_T → Prop} {x1 : Int32} (k0 : x1 = 0 → Ev d mX11_rule 32 [some (vR 11 0), some (vI x1)] [] S Q) (k1 : x1 = 1 → Ev d mX11_rule 41 [some (vR 11 0), some (vI x1)] [] S Q) (k2 : x1 = 2 → Ev d mX11_rule 50 [some (vR 11 0), some (vI x1)] [] S Q) (k3 : x1 = 3 → Ev d mX11_rule 59 [some (vR 11 0), some (vI x1)] [] S Q) (kd : ¬ x1 = 0 → ¬ x1 = 1 → ¬ x1 = 2 → ¬ x1 = 3 → Ev d mX11_rule 68 [some (vR 11 0), some (vI x1)] [] S Q) : Ev d mX11_rule 0 [some (vR 11 0), some (vI x1)] [] S Q := by
  refine Ev.iload_n dX11_rule_0 rfl rfl ?_
  by_cases hc0 : x1 = 0
  · exact Ev.tableIn (off := 31) (tgt := 32) dX11_rule_1 (by rw [hc0]; decide) (by rw [hc0]; decide) (by rw [hc0]; rfl) (by decide) (k0 hc0)
  by_cases hc1 : x1 = 1
  · exact Ev.tableIn (off := 40) (tgt := 41) dX11_rule_1 (by rw [hc1]; decide) (by rw [hc1]; decide) (by rw [hc1]; rfl) (by decide) (k1 hc1)
  by_cases hc2 : x1 = 2
  · exact Ev.tableIn (off := 49) (tgt := 50) dX11_rule_1 (by rw [hc2]; decide) (by rw [hc2]; decide) (by rw [hc2]; rfl) (by decide) (k2 hc2)
  by_cases hc3 : x1 = 3
  · exact Ev.tableIn (off := 58) (tgt := 59) dX11_rule_1 (by rw [hc3]; decide) (by rw [hc3]; decide) (by rw [hc3]; rfl) (by decide) (k3 hc3)
  refine Ev.tableOut (tgt := 68) dX11_rule_1 (tw_out (fun c h1 h2 => ?_)) (by decide) (kd hc0 hc1 hc2 hc3)
  have hcs : c = 0 ∨ c = 1 ∨ c = 2 ∨ c = 3 := by omega
  rcases hcs with rfl | rfl | rfl | rfl
  · exact fun z => hc0 (Int32.toInt_inj.mp (z.trans (by decide)))
  · exact fun z => hc1 (Int32.toInt_inj.mp (z.trans (by decide)))
  · exact fun z => hc2 (Int32.toInt_inj.mp (z.trans (by decide)))
  · exact fun z => hc3 (Int32.toInt_inj.mp (z.trans (by decide)))
theorem bkX11_rule_32 {d : Nat} {S : hs_T} {Q : Option av_T → hs_T → Prop} {x1 : Int32} (hq : Q (some (vI (S.1 1200 0 230))) S) : Ev d mX11_rule 32 [some (vR 11 0), some (vI x1)] [] S Q := by
  refine Ev.aload_n dX11_rule_32 rfl rfl ?_
  refine Ev.get (v := vR 1200 0) okX11 (by decide) fl_X11_7 pz_11_0 (ff_11_0 _ _) dX11_rule_33 ?_
  refine Ev.sipush (v := 230) dX11_rule_36 (by decide) ?_
  refine Ev.ialoadA (a := 230) pz_1200_0 (by decide) ak_1200 (by unfold vp_in; decide) (by decide) dX11_rule_39 ?_
  exact Ev.iret dX11_rule_40 rfl rfl hq
theorem bkX11_rule_41 {d : Nat} {S : hs_T} {Q : Option av_T → hs_T → Prop} {x1 : Int32} (hq : Q (some (vI (S.1 1200 0 232))) S) : Ev d mX11_rule 41 [some (vR 11 0), some (vI x1)] [] S Q := by
  refine Ev.aload_n dX11_rule_41 rfl rfl ?_
  refine Ev.get (v := vR 1200 0) okX11 (by decide) fl_X11_7 pz_11_0 (ff_11_0 _ _) dX11_rule_42 ?_
  refine Ev.sipush (v := 232) dX11_rule_45 (by decide) ?_
  refine Ev.ialoadA (a := 232) pz_1200_0 (by decide) ak_1200 (by unfold vp_in; decide) (by decide) dX11_rule_48 ?_
  exact Ev.iret dX11_rule_49 rfl rfl hq
theorem bkX11_rule_50 {d : Nat} {S : hs_T} {Q : Option av_T → hs_T → Prop} {x1 : Int32} (hq : Q (some (vI (S.1 1200 0 233))) S) : Ev d mX11_rule 50 [some (vR 11 0), some (vI x1)] [] S Q := by
  refine Ev.aload_n dX11_rule_50 rfl rfl ?_
  refine Ev.get (v := vR 1200 0) okX11 (by decide) fl_X11_7 pz_11_0 (ff_11_0 _ _) dX11_rule_51 ?_
  refine Ev.sipush (v := 233) dX11_rule_54 (by decide) ?_
  refine Ev.ialoadA (a := 233) pz_1200_0 (by decide) ak_1200 (by unfold vp_in; decide) (by decide) dX11_rule_57 ?_
  exact Ev.iret dX11_rule_58 rfl rfl hq
theorem bkX11_rule_59 {d : Nat} {S : hs_T} {Q : Option av_T → hs_T → Prop} {x1 : Int32} (hq : Q (some (vI (S.1 1200 0 231))) S) : Ev d mX11_rule 59 [some (vR 11 0), some (vI x1)] [] S Q := by
  refine Ev.aload_n dX11_rule_59 rfl rfl ?_
  refine Ev.get (v := vR 1200 0) okX11 (by decide) fl_X11_7 pz_11_0 (ff_11_0 _ _) dX11_rule_60 ?_
  refine Ev.sipush (v := 231) dX11_rule_63 (by decide) ?_
  refine Ev.ialoadA (a := 231) pz_1200_0 (by decide) ak_1200 (by unfold vp_in; decide) (by decide) dX11_rule_66 ?_
  exact Ev.iret dX11_rule_67 rfl rfl hq
theorem bkX11_rule_68 {d : Nat} {S : hs_T} {Q : Option av_T → hs_T → Prop} {P : Int32 → hs_T → Prop} {x1 : Int32} (hC : Ci d mX11_isState [vR 11 0, vI (x1 - 10)] S P) (kk : ∀ v S', P v S' → Ev (d + 1) mX11_rule 76 [some (vR 11 0), some (vI x1)] [vI v] S' Q) : Ev (d + 1) mX11_rule 68 [some (vR 11 0), some (vI x1)] [] S Q := by
  refine Ev.aload_n dX11_rule_68 rfl rfl ?_
  refine Ev.iload_n dX11_rule_69 rfl rfl ?_
  refine Ev.bipush (v := 10) dX11_rule_70 (by decide) ?_
  refine Ev.isub dX11_rule_72 ?_
  exact Ev.callV (as := [vI (x1 - 10)]) (rest := []) okX11_isState in_X11_isState ml_X11_134 rfl (Nat.le_of_ble_eq_true rfl) pz_11_0 (by decide) rfl rfl dX11_rule_73 hC (fun r S' h => by obtain ⟨v, rfl, h⟩ := h; exact kk v S' h)
theorem bkX11_rule_76 {d : Nat} {S : hs_T} {Q : Option av_T → hs_T → Prop} {x1 y0 : Int32} (kt : y0 = 0 → Ev d mX11_rule 95 [some (vR 11 0), some (vI x1)] [] S Q) (kf : ¬ y0 = 0 → Ev d mX11_rule 79 [some (vR 11 0), some (vI x1)] [] S Q) : Ev d mX11_rule 76 [some (vR 11 0), some (vI x1)] [vI y0] S Q := by
  exact Ev.if_eq (tgt := 95) dX11_rule_76 (by decide) kt kf
theorem bkX11_rule_79 {d : Nat} {S : hs_T} {Q : Option av_T → hs_T → Prop} {x1 : Int32} (hi91 : vp_in ((222 + x1) - 10) 234) (kn : Ev d mX11_rule 96 [some (vR 11 0), some (vI x1)] [vI (S.1 1200 0 ((222 + x1) - 10).toNatClampNeg)] S Q) : Ev d mX11_rule 79 [some (vR 11 0), some (vI x1)] [] S Q := by
  refine Ev.aload_n dX11_rule_79 rfl rfl ?_
  refine Ev.get (v := vR 1200 0) okX11 (by decide) fl_X11_7 pz_11_0 (ff_11_0 _ _) dX11_rule_80 ?_
  refine Ev.sipush (v := 222) dX11_rule_83 (by decide) ?_
  refine Ev.iload_n dX11_rule_86 rfl rfl ?_
  refine Ev.iadd dX11_rule_87 ?_
  refine Ev.bipush (v := 10) dX11_rule_88 (by decide) ?_
  refine Ev.isub dX11_rule_90 ?_
  refine Ev.ialoadA (a := ((222 + x1) - 10).toNatClampNeg) pz_1200_0 (by decide) ak_1200 hi91 rfl dX11_rule_91 ?_
  refine Ev.goto (tgt := 96) dX11_rule_92 (by decide) ?_
  exact kn
theorem bkX11_rule_95 {d : Nat} {S : hs_T} {Q : Option av_T → hs_T → Prop} {x1 : Int32} (kn : Ev d mX11_rule 96 [some (vR 11 0), some (vI x1)] [vI (-1)] S Q) : Ev d mX11_rule 95 [some (vR 11 0), some (vI x1)] [] S Q := by
  refine Ev.iconst (v := (-1)) dX11_rule_95 (by decide) ?_
  exact kn
theorem bkX11_rule_96 {d : Nat} {S : hs_T} {Q : Option av_T → hs_T → Prop} {x1 y0 : Int32} (hq : Q (some (vI y0)) S) : Ev d mX11_rule 96 [some (vR 11 0), some (vI x1)] [vI y0] S Q := by
  exact Ev.iret dX11_rule_96 rfl rfl hq
/-! EightWiresModel.branch(III)I -/
theorem bkX11_branch_0 {d : Nat} {S : hs_T} {Q : Option av_T → hs_T → Prop} {P : Int32 → hs_T → Prop} {x1 x2 x3 : Int32} {o4 : Option av_T} (hC : Ci d mX11_isState [vR 11 0, vI x1] S P) (kk : ∀ v S', P v S' → Ev (d + 1) mX11_branch 5 [some (vR 11 0), some (vI x1), some (vI x2), some (vI x3), o4] [vI v] S' Q) : Ev (d + 1) mX11_branch 0 [some (vR 11 0), some (vI x1), some (vI x2), some (vI x3), o4] [] S Q := by
  refine Ev.aload_n dX11_branch_0 rfl rfl ?_
  refine Ev.iload_n dX11_branch_1 rfl rfl ?_
  exact Ev.callV (as := [vI x1]) (rest := []) okX11_isState in_X11_isState ml_X11_134 rfl (Nat.le_of_ble_eq_true rfl) pz_11_0 (by decide) rfl rfl dX11_branch_2 hC (fun r S' h => by obtain ⟨v, rfl, h⟩ := h; exact kk v S' h)
theorem bkX11_branch_5 {d : Nat} {S : hs_T} {Q : Option av_T → hs_T → Prop} {x1 x2 x3 y0 : Int32} {o4 : Option av_T} (kt : y0 = 0 → Ev d mX11_branch 30 [some (vR 11 0), some (vI x1), some (vI x2), some (vI x3), o4] [] S Q) (kf : ¬ y0 = 0 → Ev d mX11_branch 8 [some (vR 11 0), some (vI x1), some (vI x2), some (vI x3), o4] [] S Q) : Ev d mX11_branch 5 [some (vR 11 0), some (vI x1), some (vI x2), some (vI x3), o4] [vI y0] S Q := by
  exact Ev.if_eq (tgt := 30) dX11_branch_5 (by decide) kt kf
theorem bkX11_branch_8 {d : Nat} {S : hs_T} {Q : Option av_T → hs_T → Prop} {P : Int32 → hs_T → Prop} {x1 x2 x3 : Int32} {o4 : Option av_T} (hi20 : vp_in (222 + x1) 234) (hC : Ci d mX11_in [vJ x2.toInt64, vJ 0, vJ (((S.1 1200 0 (222 + x1).toNatClampNeg) - 1).toInt64)] S P) (kk : ∀ v S', P v S' → Ev (d + 1) mX11_branch 27 [some (vR 11 0), some (vI x1), some (vI x2), some (vI x3), o4] [vI v] S' Q) : Ev (d + 1) mX11_branch 8 [some (vR 11 0), some (vI x1), some (vI x2), some (vI x3), o4] [] S Q := by
  refine Ev.iload_n dX11_branch_8 rfl rfl ?_
  refine Ev.i2l dX11_branch_9 ?_
  refine Ev.lconst (v := 0) dX11_branch_10 (by decide) ?_
  refine Ev.aload_n dX11_branch_11 rfl rfl ?_
  refine Ev.get (v := vR 1200 0) okX11 (by decide) fl_X11_7 pz_11_0 (ff_11_0 _ _) dX11_branch_12 ?_
  refine Ev.sipush (v := 222) dX11_branch_15 (by decide) ?_
  refine Ev.iload_n dX11_branch_18 rfl rfl ?_
  refine Ev.iadd dX11_branch_19 ?_
  refine Ev.ialoadA (a := (222 + x1).toNatClampNeg) pz_1200_0 (by decide) ak_1200 hi20 rfl dX11_branch_20 ?_
  refine Ev.iconst (v := 1) dX11_branch_21 (by decide) ?_
  refine Ev.isub dX11_branch_22 ?_
  refine Ev.i2l dX11_branch_23 ?_
  exact Ev.callS (as := [vJ x2.toInt64, vJ 0, vJ (((S.1 1200 0 (222 + x1).toNatClampNeg) - 1).toInt64)]) (rest := []) okX11_in stX11_in ml_X11_58 rfl (Nat.le_of_ble_eq_true rfl) rfl dX11_branch_24 hC (fun r S' h => by obtain ⟨v, rfl, h⟩ := h; exact kk v S' h)
theorem bkX11_branch_27 {d : Nat} {S : hs_T} {Q : Option av_T → hs_T → Prop} {x1 x2 x3 y0 : Int32} {o4 : Option av_T} (kt : ¬ y0 = 0 → Ev d mX11_branch 32 [some (vR 11 0), some (vI x1), some (vI x2), some (vI x3), o4] [] S Q) (kf : y0 = 0 → Ev d mX11_branch 30 [some (vR 11 0), some (vI x1), some (vI x2), some (vI x3), o4] [] S Q) : Ev d mX11_branch 27 [some (vR 11 0), some (vI x1), some (vI x2), some (vI x3), o4] [vI y0] S Q := by
  exact Ev.if_ne (tgt := 32) dX11_branch_27 (by decide) kt kf
theorem bkX11_branch_30 {d : Nat} {S : hs_T} {Q : Option av_T → hs_T → Prop} {x1 x2 x3 : Int32} {o4 : Option av_T} (hq : Q (some (vI (-1))) S) : Ev d mX11_branch 30 [some (vR 11 0), some (vI x1), some (vI x2), some (vI x3), o4] [] S Q := by
  refine Ev.iconst (v := (-1)) dX11_branch_30 (by decide) ?_
  exact Ev.iret dX11_branch_31 rfl rfl hq
theorem bkX11_branch_32 {d : Nat} {S : hs_T} {Q : Option av_T → hs_T → Prop} {P : Int32 → hs_T → Prop} {x1 x2 x3 : Int32} {o4 : Option av_T} (hC : Ci d mX11_in [vJ x3.toInt64, vJ 0, vJ 2] S P) (kk : ∀ v S', P v S' → Ev (d + 1) mX11_branch 48 [some (vR 11 0), some (vI x1), some (vI x2), some (vI x3), some (vI ((3 * x1) + x2))] [vI v] S' Q) : Ev (d + 1) mX11_branch 32 [some (vR 11 0), some (vI x1), some (vI x2), some (vI x3), o4] [] S Q := by
  refine Ev.iconst (v := 3) dX11_branch_32 (by decide) ?_
  refine Ev.iload_n dX11_branch_33 rfl rfl ?_
  refine Ev.imul dX11_branch_34 ?_
  refine Ev.iload_n dX11_branch_35 rfl rfl ?_
  refine Ev.iadd dX11_branch_36 ?_
  refine Ev.istore (ls' := [some (vR 11 0), some (vI x1), some (vI x2), some (vI x3), some (vI ((3 * x1) + x2))]) dX11_branch_37 (by decide) rfl ?_
  refine Ev.iload_n dX11_branch_39 rfl rfl ?_
  refine Ev.i2l dX11_branch_40 ?_
  refine Ev.lconst (v := 0) dX11_branch_41 (by decide) ?_
  refine Ev.ldc2 kl_X11_138 dX11_branch_42 ?_
  exact Ev.callS (as := [vJ x3.toInt64, vJ 0, vJ 2]) (rest := []) okX11_in stX11_in ml_X11_58 rfl (Nat.le_of_ble_eq_true rfl) rfl dX11_branch_45 hC (fun r S' h => by obtain ⟨v, rfl, h⟩ := h; exact kk v S' h)
theorem bkX11_branch_48 {d : Nat} {S : hs_T} {Q : Option av_T → hs_T → Prop} {x1 x2 x3 x4 y0 : Int32} (kt : y0 = 0 → Ev d mX11_branch 96 [some (vR 11 0), some (vI x1), some (vI x2), some (vI x3), some (vI x4)] [] S Q) (kf : ¬ y0 = 0 → Ev d mX11_branch 51 [some (vR 11 0), some (vI x1), some (vI x2), some (vI x3), some (vI x4)] [] S Q) : Ev d mX11_branch 48 [some (vR 11 0), some (vI x1), some (vI x2), some (vI x3), some (vI x4)] [vI y0] S Q := by
  exact Ev.if_eq (tgt := 96) dX11_branch_48 (by decide) kt kf
theorem bkX11_branch_51 {d : Nat} {S : hs_T} {Q : Option av_T → hs_T → Prop} {x1 x2 x3 x4 : Int32} (kt : ¬ x3 = 0 → Ev d mX11_branch 67 [some (vR 11 0), some (vI x1), some (vI x2), some (vI x3), some (vI x4)] [] S Q) (kf : x3 = 0 → Ev d mX11_branch 55 [some (vR 11 0), some (vI x1), some (vI x2), some (vI x3), some (vI x4)] [] S Q) : Ev d mX11_branch 51 [some (vR 11 0), some (vI x1), some (vI x2), some (vI x3), some (vI x4)] [] S Q := by
  refine Ev.iload_n dX11_branch_51 rfl rfl ?_
  exact Ev.if_ne (tgt := 67) dX11_branch_52 (by decide) kt kf
theorem bkX11_branch_55 {d : Nat} {S : hs_T} {Q : Option av_T → hs_T → Prop} {x1 x2 x3 x4 : Int32} (hi63 : vp_in (0 + x4) 234) (kn : Ev d mX11_branch 95 [some (vR 11 0), some (vI x1), some (vI x2), some (vI x3), some (vI x4)] [vI (S.1 1200 0 (0 + x4).toNatClampNeg)] S Q) : Ev d mX11_branch 55 [some (vR 11 0), some (vI x1), some (vI x2), some (vI x3), some (vI x4)] [] S Q := by
  refine Ev.aload_n dX11_branch_55 rfl rfl ?_
  refine Ev.get (v := vR 1200 0) okX11 (by decide) fl_X11_7 pz_11_0 (ff_11_0 _ _) dX11_branch_56 ?_
  refine Ev.iconst (v := 0) dX11_branch_59 (by decide) ?_
  refine Ev.iload dX11_branch_60 rfl ?_
  refine Ev.iadd dX11_branch_62 ?_
  refine Ev.ialoadA (a := (0 + x4).toNatClampNeg) pz_1200_0 (by decide) ak_1200 hi63 rfl dX11_branch_63 ?_
  refine Ev.goto (tgt := 95) dX11_branch_64 (by decide) ?_
  exact kn
theorem bkX11_branch_67 {d : Nat} {S : hs_T} {Q : Option av_T → hs_T → Prop} {x1 x2 x3 x4 : Int32} (kt : ¬ x3 = 1 → Ev d mX11_branch 85 [some (vR 11 0), some (vI x1), some (vI x2), some (vI x3), some (vI x4)] [] S Q) (kf : x3 = 1 → Ev d mX11_branch 72 [some (vR 11 0), some (vI x1), some (vI x2), some (vI x3), some (vI x4)] [] S Q) : Ev d mX11_branch 67 [some (vR 11 0), some (vI x1), some (vI x2), some (vI x3), some (vI x4)] [] S Q := by
  refine Ev.iload_n dX11_branch_67 rfl rfl ?_
  refine Ev.iconst (v := 1) dX11_branch_68 (by decide) ?_
  exact Ev.icmp_ne (tgt := 85) dX11_branch_69 (by decide) kt kf
theorem bkX11_branch_72 {d : Nat} {S : hs_T} {Q : Option av_T → hs_T → Prop} {x1 x2 x3 x4 : Int32} (hi81 : vp_in (24 + x4) 234) (kn : Ev d mX11_branch 95 [some (vR 11 0), some (vI x1), some (vI x2), some (vI x3), some (vI x4)] [vI (S.1 1200 0 (24 + x4).toNatClampNeg)] S Q) : Ev d mX11_branch 72 [some (vR 11 0), some (vI x1), some (vI x2), some (vI x3), some (vI x4)] [] S Q := by
  refine Ev.aload_n dX11_branch_72 rfl rfl ?_
  refine Ev.get (v := vR 1200 0) okX11 (by decide) fl_X11_7 pz_11_0 (ff_11_0 _ _) dX11_branch_73 ?_
  refine Ev.bipush (v := 24) dX11_branch_76 (by decide) ?_
  refine Ev.iload dX11_branch_78 rfl ?_
  refine Ev.iadd dX11_branch_80 ?_
  refine Ev.ialoadA (a := (24 + x4).toNatClampNeg) pz_1200_0 (by decide) ak_1200 hi81 rfl dX11_branch_81 ?_
  refine Ev.goto (tgt := 95) dX11_branch_82 (by decide) ?_
  exact kn
theorem bkX11_branch_85 {d : Nat} {S : hs_T} {Q : Option av_T → hs_T → Prop} {x1 x2 x3 x4 : Int32} (hi94 : vp_in (48 + x4) 234) (kn : Ev d mX11_branch 95 [some (vR 11 0), some (vI x1), some (vI x2), some (vI x3), some (vI x4)] [vI (S.1 1200 0 (48 + x4).toNatClampNeg)] S Q) : Ev d mX11_branch 85 [some (vR 11 0), some (vI x1), some (vI x2), some (vI x3), some (vI x4)] [] S Q := by
  refine Ev.aload_n dX11_branch_85 rfl rfl ?_
  refine Ev.get (v := vR 1200 0) okX11 (by decide) fl_X11_7 pz_11_0 (ff_11_0 _ _) dX11_branch_86 ?_
  refine Ev.bipush (v := 48) dX11_branch_89 (by decide) ?_
  refine Ev.iload dX11_branch_91 rfl ?_
  refine Ev.iadd dX11_branch_93 ?_
  refine Ev.ialoadA (a := (48 + x4).toNatClampNeg) pz_1200_0 (by decide) ak_1200 hi94 rfl dX11_branch_94 ?_
  exact kn
theorem bkX11_branch_95 {d : Nat} {S : hs_T} {Q : Option av_T → hs_T → Prop} {x1 x2 x3 x4 y0 : Int32} (hq : Q (some (vI y0)) S) : Ev d mX11_branch 95 [some (vR 11 0), some (vI x1), some (vI x2), some (vI x3), some (vI x4)] [vI y0] S Q := by
  exact Ev.iret dX11_branch_95 rfl rfl hq
theorem bkX11_branch_96 {d : Nat} {S : hs_T} {Q : Option av_T → hs_T → Prop} {P : Int32 → hs_T → Prop} {x1 x2 x3 x4 : Int32} (hi111 : vp_in (0 + x4) 234) (hC : Ci d mX11_in [vJ x3.toInt64, vJ 10, vJ ((9 + (S.1 1200 0 (0 + x4).toNatClampNeg)).toInt64)] S P) (kk : ∀ v S', P v S' → Ev (d + 1) mX11_branch 117 [some (vR 11 0), some (vI x1), some (vI x2), some (vI x3), some (vI x4)] [vI v] S' Q) : Ev (d + 1) mX11_branch 96 [some (vR 11 0), some (vI x1), some (vI x2), some (vI x3), some (vI x4)] [] S Q := by
  refine Ev.iload_n dX11_branch_96 rfl rfl ?_
  refine Ev.i2l dX11_branch_97 ?_
  refine Ev.ldc2 kl_X11_140 dX11_branch_98 ?_
  refine Ev.bipush (v := 9) dX11_branch_101 (by decide) ?_
  refine Ev.aload_n dX11_branch_103 rfl rfl ?_
  refine Ev.get (v := vR 1200 0) okX11 (by decide) fl_X11_7 pz_11_0 (ff_11_0 _ _) dX11_branch_104 ?_
  refine Ev.iconst (v := 0) dX11_branch_107 (by decide) ?_
  refine Ev.iload dX11_branch_108 rfl ?_
  refine Ev.iadd dX11_branch_110 ?_
  refine Ev.ialoadA (a := (0 + x4).toNatClampNeg) pz_1200_0 (by decide) ak_1200 hi111 rfl dX11_branch_111 ?_
  refine Ev.iadd dX11_branch_112 ?_
  refine Ev.i2l dX11_branch_113 ?_
  exact Ev.callS (as := [vJ x3.toInt64, vJ 10, vJ ((9 + (S.1 1200 0 (0 + x4).toNatClampNeg)).toInt64)]) (rest := []) okX11_in stX11_in ml_X11_58 rfl (Nat.le_of_ble_eq_true rfl) rfl dX11_branch_114 hC (fun r S' h => by obtain ⟨v, rfl, h⟩ := h; exact kk v S' h)
theorem bkX11_branch_117 {d : Nat} {S : hs_T} {Q : Option av_T → hs_T → Prop} {x1 x2 x3 x4 y0 : Int32} (kt : y0 = 0 → Ev d mX11_branch 138 [some (vR 11 0), some (vI x1), some (vI x2), some (vI x3), some (vI x4)] [] S Q) (kf : ¬ y0 = 0 → Ev d mX11_branch 120 [some (vR 11 0), some (vI x1), some (vI x2), some (vI x3), some (vI x4)] [] S Q) : Ev d mX11_branch 117 [some (vR 11 0), some (vI x1), some (vI x2), some (vI x3), some (vI x4)] [vI y0] S Q := by
  exact Ev.if_eq (tgt := 138) dX11_branch_117 (by decide) kt kf
theorem bkX11_branch_120 {d : Nat} {S : hs_T} {Q : Option av_T → hs_T → Prop} {x1 x2 x3 x4 : Int32} (hi136 : vp_in (((72 + (3 * x4)) + x3) - 10) 234) (hq : Q (some (vI (S.1 1200 0 (((72 + (3 * x4)) + x3) - 10).toNatClampNeg))) S) : Ev d mX11_branch 120 [some (vR 11 0), some (vI x1), some (vI x2), some (vI x3), some (vI x4)] [] S Q := by
  refine Ev.aload_n dX11_branch_120 rfl rfl ?_
  refine Ev.get (v := vR 1200 0) okX11 (by decide) fl_X11_7 pz_11_0 (ff_11_0 _ _) dX11_branch_121 ?_
  refine Ev.bipush (v := 72) dX11_branch_124 (by decide) ?_
  refine Ev.iconst (v := 3) dX11_branch_126 (by decide) ?_
  refine Ev.iload dX11_branch_127 rfl ?_
  refine Ev.imul dX11_branch_129 ?_
  refine Ev.iadd dX11_branch_130 ?_
  refine Ev.iload_n dX11_branch_131 rfl rfl ?_
  refine Ev.iadd dX11_branch_132 ?_
  refine Ev.bipush (v := 10) dX11_branch_133 (by decide) ?_
  refine Ev.isub dX11_branch_135 ?_
  refine Ev.ialoadA (a := (((72 + (3 * x4)) + x3) - 10).toNatClampNeg) pz_1200_0 (by decide) ak_1200 hi136 rfl dX11_branch_136 ?_
  exact Ev.iret dX11_branch_137 rfl rfl hq
theorem bkX11_branch_138 {d : Nat} {S : hs_T} {Q : Option av_T → hs_T → Prop} {P : Int32 → hs_T → Prop} {x1 x2 x3 x4 : Int32} (hi153 : vp_in (0 + x4) 234) (hC : Ci d mX11_in [vJ x3.toInt64, vJ 20, vJ ((19 + (S.1 1200 0 (0 + x4).toNatClampNeg)).toInt64)] S P) (kk : ∀ v S', P v S' → Ev (d + 1) mX11_branch 159 [some (vR 11 0), some (vI x1), some (vI x2), some (vI x3), some (vI x4)] [vI v] S' Q) : Ev (d + 1) mX11_branch 138 [some (vR 11 0), some (vI x1), some (vI x2), some (vI x3), some (vI x4)] [] S Q := by
  refine Ev.iload_n dX11_branch_138 rfl rfl ?_
  refine Ev.i2l dX11_branch_139 ?_
  refine Ev.ldc2 kl_X11_142 dX11_branch_140 ?_
  refine Ev.bipush (v := 19) dX11_branch_143 (by decide) ?_
  refine Ev.aload_n dX11_branch_145 rfl rfl ?_
  refine Ev.get (v := vR 1200 0) okX11 (by decide) fl_X11_7 pz_11_0 (ff_11_0 _ _) dX11_branch_146 ?_
  refine Ev.iconst (v := 0) dX11_branch_149 (by decide) ?_
  refine Ev.iload dX11_branch_150 rfl ?_
  refine Ev.iadd dX11_branch_152 ?_
  refine Ev.ialoadA (a := (0 + x4).toNatClampNeg) pz_1200_0 (by decide) ak_1200 hi153 rfl dX11_branch_153 ?_
  refine Ev.iadd dX11_branch_154 ?_
  refine Ev.i2l dX11_branch_155 ?_
  exact Ev.callS (as := [vJ x3.toInt64, vJ 20, vJ ((19 + (S.1 1200 0 (0 + x4).toNatClampNeg)).toInt64)]) (rest := []) okX11_in stX11_in ml_X11_58 rfl (Nat.le_of_ble_eq_true rfl) rfl dX11_branch_156 hC (fun r S' h => by obtain ⟨v, rfl, h⟩ := h; exact kk v S' h)
theorem bkX11_branch_159 {d : Nat} {S : hs_T} {Q : Option av_T → hs_T → Prop} {x1 x2 x3 x4 y0 : Int32} (kt : y0 = 0 → Ev d mX11_branch 183 [some (vR 11 0), some (vI x1), some (vI x2), some (vI x3), some (vI x4)] [] S Q) (kf : ¬ y0 = 0 → Ev d mX11_branch 162 [some (vR 11 0), some (vI x1), some (vI x2), some (vI x3), some (vI x4)] [] S Q) : Ev d mX11_branch 159 [some (vR 11 0), some (vI x1), some (vI x2), some (vI x3), some (vI x4)] [vI y0] S Q := by
  exact Ev.if_eq (tgt := 183) dX11_branch_159 (by decide) kt kf
theorem bkX11_branch_162 {d : Nat} {S : hs_T} {Q : Option av_T → hs_T → Prop} {x1 x2 x3 x4 : Int32} (hi179 : vp_in (((147 + (3 * x4)) + x3) - 20) 234) (kn : Ev d mX11_branch 184 [some (vR 11 0), some (vI x1), some (vI x2), some (vI x3), some (vI x4)] [vI (S.1 1200 0 (((147 + (3 * x4)) + x3) - 20).toNatClampNeg)] S Q) : Ev d mX11_branch 162 [some (vR 11 0), some (vI x1), some (vI x2), some (vI x3), some (vI x4)] [] S Q := by
  refine Ev.aload_n dX11_branch_162 rfl rfl ?_
  refine Ev.get (v := vR 1200 0) okX11 (by decide) fl_X11_7 pz_11_0 (ff_11_0 _ _) dX11_branch_163 ?_
  refine Ev.sipush (v := 147) dX11_branch_166 (by decide) ?_
  refine Ev.iconst (v := 3) dX11_branch_169 (by decide) ?_
  refine Ev.iload dX11_branch_170 rfl ?_
  refine Ev.imul dX11_branch_172 ?_
  refine Ev.iadd dX11_branch_173 ?_
  refine Ev.iload_n dX11_branch_174 rfl rfl ?_
  refine Ev.iadd dX11_branch_175 ?_
  refine Ev.bipush (v := 20) dX11_branch_176 (by decide) ?_
  refine Ev.isub dX11_branch_178 ?_
  refine Ev.ialoadA (a := (((147 + (3 * x4)) + x3) - 20).toNatClampNeg) pz_1200_0 (by decide) ak_1200 hi179 rfl dX11_branch_179 ?_
  refine Ev.goto (tgt := 184) dX11_branch_180 (by decide) ?_
  exact kn
theorem bkX11_branch_183 {d : Nat} {S : hs_T} {Q : Option av_T → hs_T → Prop} {x1 x2 x3 x4 : Int32} (kn : Ev d mX11_branch 184 [some (vR 11 0), some (vI x1), some (vI x2), some (vI x3), some (vI x4)] [vI (-1)] S Q) : Ev d mX11_branch 183 [some (vR 11 0), some (vI x1), some (vI x2), some (vI x3), some (vI x4)] [] S Q := by
  refine Ev.iconst (v := (-1)) dX11_branch_183 (by decide) ?_
  exact kn
theorem bkX11_branch_184 {d : Nat} {S : hs_T} {Q : Option av_T → hs_T → Prop} {x1 x2 x3 x4 y0 : Int32} (hq : Q (some (vI y0)) S) : Ev d mX11_branch 184 [some (vR 11 0), some (vI x1), some (vI x2), some (vI x3), some (vI x4)] [vI y0] S Q := by
  exact Ev.iret dX11_branch_184 rfl rfl hq
/-! EightWiresModel.isValue(I)Z -/
theorem bkX11_isValue_0 {d : Nat} {S : hs_T} {Q : Option av_T → hs_T → Prop} {P : Int32 → hs_T → Prop} {x0 : Int32} (hC : Ci d mX11_in [vJ x0.toInt64, vJ 0, vJ 255] S P) (kk : ∀ v S', P v S' → Ev (d + 1) mX11_isValue 9 [some (vI x0)] [vI v] S' Q) : Ev (d + 1) mX11_isValue 0 [some (vI x0)] [] S Q := by
  refine Ev.iload_n dX11_isValue_0 rfl rfl ?_
  refine Ev.i2l dX11_isValue_1 ?_
  refine Ev.lconst (v := 0) dX11_isValue_2 (by decide) ?_
  refine Ev.ldc2 kl_X11_56 dX11_isValue_3 ?_
  exact Ev.callS (as := [vJ x0.toInt64, vJ 0, vJ 255]) (rest := []) okX11_in stX11_in ml_X11_58 rfl (Nat.le_of_ble_eq_true rfl) rfl dX11_isValue_6 hC (fun r S' h => by obtain ⟨v, rfl, h⟩ := h; exact kk v S' h)
theorem bkX11_isValue_9 {d : Nat} {S : hs_T} {Q : Option av_T → hs_T → Prop} {x0 y0 : Int32} (hn9 : narrow .boolean (.int y0) = .int y0) (hq : Q (some (vI y0)) S) : Ev d mX11_isValue 9 [some (vI x0)] [vI y0] S Q := by
  exact Ev.iret dX11_isValue_9 rfl hn9 hq
/-! EightWiresModel.isSample(I)Z -/
theorem bkX11_isSample_0 {d : Nat} {S : hs_T} {Q : Option av_T → hs_T → Prop} {P : Int32 → hs_T → Prop} {x1 : Int32} (hC : Ci d mX11_in [vJ x1.toInt64, vJ 0, vJ (((S.1 11 0 3) - 1).toInt64)] S P) (kk : ∀ v S', P v S' → Ev (d + 1) mX11_isSample 13 [some (vR 11 0), some (vI x1)] [vI v] S' Q) : Ev (d + 1) mX11_isSample 0 [some (vR 11 0), some (vI x1)] [] S Q := by
  refine Ev.iload_n dX11_isSample_0 rfl rfl ?_
  refine Ev.i2l dX11_isSample_1 ?_
  refine Ev.lconst (v := 0) dX11_isSample_2 (by decide) ?_
  refine Ev.aload_n dX11_isSample_3 rfl rfl ?_
  refine Ev.get (v := vI (S.1 11 0 3)) okX11 (by decide) fl_X11_144 pz_11_0 (ff_11_3 _ _) dX11_isSample_4 ?_
  refine Ev.iconst (v := 1) dX11_isSample_7 (by decide) ?_
  refine Ev.isub dX11_isSample_8 ?_
  refine Ev.i2l dX11_isSample_9 ?_
  exact Ev.callS (as := [vJ x1.toInt64, vJ 0, vJ (((S.1 11 0 3) - 1).toInt64)]) (rest := []) okX11_in stX11_in ml_X11_58 rfl (Nat.le_of_ble_eq_true rfl) rfl dX11_isSample_10 hC (fun r S' h => by obtain ⟨v, rfl, h⟩ := h; exact kk v S' h)
theorem bkX11_isSample_13 {d : Nat} {S : hs_T} {Q : Option av_T → hs_T → Prop} {x1 y0 : Int32} (hn13 : narrow .boolean (.int y0) = .int y0) (hq : Q (some (vI y0)) S) : Ev d mX11_isSample 13 [some (vR 11 0), some (vI x1)] [vI y0] S Q := by
  exact Ev.iret dX11_isSample_13 rfl hn13 hq
/-! EightWiresModel.see(II)I -/
theorem bkX11_see_0 {d : Nat} {S : hs_T} {Q : Option av_T → hs_T → Prop} {P : Int32 → hs_T → Prop} {x1 x2 : Int32} {o3 : Option av_T} (hC : Ci d mX11_in [vJ x1.toInt64, vJ 1, vJ 400] S P) (kk : ∀ v S', P v S' → Ev (d + 1) mX11_see 9 [some (vR 11 0), some (vI x1), some (vI x2), o3] [vI v] S' Q) : Ev (d + 1) mX11_see 0 [some (vR 11 0), some (vI x1), some (vI x2), o3] [] S Q := by
  refine Ev.iload_n dX11_see_0 rfl rfl ?_
  refine Ev.i2l dX11_see_1 ?_
  refine Ev.lconst (v := 1) dX11_see_2 (by decide) ?_
  refine Ev.ldc2 kl_X11_147 dX11_see_3 ?_
  exact Ev.callS (as := [vJ x1.toInt64, vJ 1, vJ 400]) (rest := []) okX11_in stX11_in ml_X11_58 rfl (Nat.le_of_ble_eq_true rfl) rfl dX11_see_6 hC (fun r S' h => by obtain ⟨v, rfl, h⟩ := h; exact kk v S' h)
theorem bkX11_see_9 {d : Nat} {S : hs_T} {Q : Option av_T → hs_T → Prop} {x1 x2 y0 : Int32} {o3 : Option av_T} (kt : y0 = 0 → Ev d mX11_see 19 [some (vR 11 0), some (vI x1), some (vI x2), o3] [] S Q) (kf : ¬ y0 = 0 → Ev d mX11_see 12 [some (vR 11 0), some (vI x1), some (vI x2), o3] [] S Q) : Ev d mX11_see 9 [some (vR 11 0), some (vI x1), some (vI x2), o3] [vI y0] S Q := by
  exact Ev.if_eq (tgt := 19) dX11_see_9 (by decide) kt kf
theorem bkX11_see_12 {d : Nat} {S : hs_T} {Q : Option av_T → hs_T → Prop} {P : Int32 → hs_T → Prop} {x1 x2 : Int32} {o3 : Option av_T} (hC : Ci d mX11_isValue [vI x2] S P) (kk : ∀ v S', P v S' → Ev (d + 1) mX11_see 16 [some (vR 11 0), some (vI x1), some (vI x2), o3] [vI v] S' Q) : Ev (d + 1) mX11_see 12 [some (vR 11 0), some (vI x1), some (vI x2), o3] [] S Q := by
  refine Ev.iload_n dX11_see_12 rfl rfl ?_
  exact Ev.callS (as := [vI x2]) (rest := []) okX11_isValue stX11_isValue ml_X11_149 rfl (Nat.le_of_ble_eq_true rfl) rfl dX11_see_13 hC (fun r S' h => by obtain ⟨v, rfl, h⟩ := h; exact kk v S' h)
theorem bkX11_see_16 {d : Nat} {S : hs_T} {Q : Option av_T → hs_T → Prop} {x1 x2 y0 : Int32} {o3 : Option av_T} (kt : ¬ y0 = 0 → Ev d mX11_see 21 [some (vR 11 0), some (vI x1), some (vI x2), o3] [] S Q) (kf : y0 = 0 → Ev d mX11_see 19 [some (vR 11 0), some (vI x1), some (vI x2), o3] [] S Q) : Ev d mX11_see 16 [some (vR 11 0), some (vI x1), some (vI x2), o3] [vI y0] S Q := by
  exact Ev.if_ne (tgt := 21) dX11_see_16 (by decide) kt kf
theorem bkX11_see_19 {d : Nat} {S : hs_T} {Q : Option av_T → hs_T → Prop} {x1 x2 : Int32} {o3 : Option av_T} (hq : Q (some (vI (-1))) S) : Ev d mX11_see 19 [some (vR 11 0), some (vI x1), some (vI x2), o3] [] S Q := by
  refine Ev.iconst (v := (-1)) dX11_see_19 (by decide) ?_
  exact Ev.iret dX11_see_20 rfl rfl hq
theorem bkX11_see_21 {d : Nat} {S : hs_T} {Q : Option av_T → hs_T → Prop} {x1 x2 : Int32} {o3 : Option av_T} (kt : ((S.1 11 0 3) + x1) ≤ 400 → Ev d mX11_see 36 [some (vR 11 0), some (vI x1), some (vI x2), o3] [] S Q) (kf : ¬ ((S.1 11 0 3) + x1) ≤ 400 → Ev d mX11_see 33 [some (vR 11 0), some (vI x1), some (vI x2), o3] [] S Q) : Ev d mX11_see 21 [some (vR 11 0), some (vI x1), some (vI x2), o3] [] S Q := by
  refine Ev.aload_n dX11_see_21 rfl rfl ?_
  refine Ev.get (v := vI (S.1 11 0 3)) okX11 (by decide) fl_X11_144 pz_11_0 (ff_11_3 _ _) dX11_see_22 ?_
  refine Ev.iload_n dX11_see_25 rfl rfl ?_
  refine Ev.iadd dX11_see_26 ?_
  refine Ev.sipush (v := 400) dX11_see_27 (by decide) ?_
  exact Ev.icmp_le (tgt := 36) dX11_see_30 (by decide) kt kf
theorem bkX11_see_33 {d : Nat} {S : hs_T} {Q : Option av_T → hs_T → Prop} {x1 x2 : Int32} {o3 : Option av_T} (hq : Q (some (vI (-3))) S) : Ev d mX11_see 33 [some (vR 11 0), some (vI x1), some (vI x2), o3] [] S Q := by
  refine Ev.bipush (v := (-3)) dX11_see_33 (by decide) ?_
  exact Ev.iret dX11_see_35 rfl rfl hq
theorem bkX11_see_36 {d : Nat} {S : hs_T} {Q : Option av_T → hs_T → Prop} {x1 x2 : Int32} {o3 : Option av_T} (kn : Ev d mX11_see 38 [some (vR 11 0), some (vI x1), some (vI x2), some (vI 0)] [] S Q) : Ev d mX11_see 36 [some (vR 11 0), some (vI x1), some (vI x2), o3] [] S Q := by
  refine Ev.iconst (v := 0) dX11_see_36 (by decide) ?_
  refine Ev.istore_n (ls' := [some (vR 11 0), some (vI x1), some (vI x2), some (vI 0)]) dX11_see_37 rfl (by decide) rfl ?_
  exact kn
theorem bkX11_see_38 {d : Nat} {S : hs_T} {Q : Option av_T → hs_T → Prop} {x1 x2 x3 : Int32} (kt : x1 ≤ x3 → Ev d mX11_see 69 [some (vR 11 0), some (vI x1), some (vI x2), some (vI x3)] [] S Q) (kf : ¬ x1 ≤ x3 → Ev d mX11_see 43 [some (vR 11 0), some (vI x1), some (vI x2), some (vI x3)] [] S Q) : Ev d mX11_see 38 [some (vR 11 0), some (vI x1), some (vI x2), some (vI x3)] [] S Q := by
  refine Ev.iload_n dX11_see_38 rfl rfl ?_
  refine Ev.iload_n dX11_see_39 rfl rfl ?_
  exact Ev.icmp_ge (tgt := 69) dX11_see_40 (by decide) kt kf
theorem bkX11_see_43 {d : Nat} {S : hs_T} {Q : Option av_T → hs_T → Prop} {x1 x2 x3 : Int32} (hi52 : vp_in (S.1 11 0 3) 400) (kn : Ev d mX11_see 38 [some (vR 11 0), some (vI x1), some (vI x2), some (vI (x3 + 1))] [] (sk_ (sk_ S 1202 0 (upd (S.1 1202 0) ((S.1 11 0 3).toNatClampNeg) x2)) 11 0 (upd ((sk_ S 1202 0 (upd (S.1 1202 0) ((S.1 11 0 3).toNatClampNeg) x2)).1 11 0) 3 (((sk_ S 1202 0 (upd (S.1 1202 0) ((S.1 11 0 3).toNatClampNeg) x2)).1 11 0 3) + 1))) Q) : Ev d mX11_see 43 [some (vR 11 0), some (vI x1), some (vI x2), some (vI x3)] [] S Q := by
  refine Ev.aload_n dX11_see_43 rfl rfl ?_
  refine Ev.get (v := vR 1202 0) okX11 (by decide) fl_X11_16 pz_11_0 (ff_11_2 _ _) dX11_see_44 ?_
  refine Ev.aload_n dX11_see_47 rfl rfl ?_
  refine Ev.get (v := vI (S.1 11 0 3)) okX11 (by decide) fl_X11_144 pz_11_0 (ff_11_3 _ _) dX11_see_48 ?_
  refine Ev.iload_n dX11_see_51 rfl rfl ?_
  refine Ev.iastoreA (a := (S.1 11 0 3).toNatClampNeg) pz_1202_0 (by decide) ak_1202 hi52 rfl rfl dX11_see_52 ?_
  refine Ev.aload_n dX11_see_53 rfl rfl ?_
  refine Ev.dup dX11_see_54 rfl ?_
  refine Ev.get (v := vI ((sk_ S 1202 0 (upd (S.1 1202 0) ((S.1 11 0 3).toNatClampNeg) x2)).1 11 0 3)) okX11 (by decide) fl_X11_144 pz_11_0 (ff_11_3 _ _) dX11_see_55 ?_
  refine Ev.iconst (v := 1) dX11_see_58 (by decide) ?_
  refine Ev.iadd dX11_see_59 ?_
  refine Ev.put okX11 (by decide) fl_X11_144 pz_11_0 (by decide) rfl rfl rfl rfl dX11_see_60 ?_
  refine Ev.iinc (v := (x3 + 1)) (ls' := [some (vR 11 0), some (vI x1), some (vI x2), some (vI (x3 + 1))]) dX11_see_63 rfl rfl (by decide) rfl ?_
  refine Ev.goto (tgt := 38) dX11_see_66 (by decide) ?_
  exact kn
theorem bkX11_see_69 {d : Nat} {S : hs_T} {Q : Option av_T → hs_T → Prop} {x1 x2 x3 : Int32} (hq : Q (some (vI (S.1 11 0 3))) S) : Ev d mX11_see 69 [some (vR 11 0), some (vI x1), some (vI x2), some (vI x3)] [] S Q := by
  refine Ev.aload_n dX11_see_69 rfl rfl ?_
  refine Ev.get (v := vI (S.1 11 0 3)) okX11 (by decide) fl_X11_144 pz_11_0 (ff_11_3 _ _) dX11_see_70 ?_
  exact Ev.iret dX11_see_73 rfl rfl hq
/-! EightWiresModel.cut(I)I -/
theorem bkX11_cut_0 {d : Nat} {S : hs_T} {Q : Option av_T → hs_T → Prop} {P : Int32 → hs_T → Prop} {x1 : Int32} {o2 : Option av_T} (hC : Ci d mX11_in [vJ x1.toInt64, vJ 0, vJ ((S.1 11 0 3).toInt64)] S P) (kk : ∀ v S', P v S' → Ev (d + 1) mX11_cut 11 [some (vR 11 0), some (vI x1), o2] [vI v] S' Q) : Ev (d + 1) mX11_cut 0 [some (vR 11 0), some (vI x1), o2] [] S Q := by
  refine Ev.iload_n dX11_cut_0 rfl rfl ?_
  refine Ev.i2l dX11_cut_1 ?_
  refine Ev.lconst (v := 0) dX11_cut_2 (by decide) ?_
  refine Ev.aload_n dX11_cut_3 rfl rfl ?_
  refine Ev.get (v := vI (S.1 11 0 3)) okX11 (by decide) fl_X11_144 pz_11_0 (ff_11_3 _ _) dX11_cut_4 ?_
  refine Ev.i2l dX11_cut_7 ?_
  exact Ev.callS (as := [vJ x1.toInt64, vJ 0, vJ ((S.1 11 0 3).toInt64)]) (rest := []) okX11_in stX11_in ml_X11_58 rfl (Nat.le_of_ble_eq_true rfl) rfl dX11_cut_8 hC (fun r S' h => by obtain ⟨v, rfl, h⟩ := h; exact kk v S' h)
theorem bkX11_cut_11 {d : Nat} {S : hs_T} {Q : Option av_T → hs_T → Prop} {x1 y0 : Int32} {o2 : Option av_T} (kt : ¬ y0 = 0 → Ev d mX11_cut 16 [some (vR 11 0), some (vI x1), o2] [] S Q) (kf : y0 = 0 → Ev d mX11_cut 14 [some (vR 11 0), some (vI x1), o2] [] S Q) : Ev d mX11_cut 11 [some (vR 11 0), some (vI x1), o2] [vI y0] S Q := by
  exact Ev.if_ne (tgt := 16) dX11_cut_11 (by decide) kt kf
theorem bkX11_cut_14 {d : Nat} {S : hs_T} {Q : Option av_T → hs_T → Prop} {x1 : Int32} {o2 : Option av_T} (hq : Q (some (vI (-1))) S) : Ev d mX11_cut 14 [some (vR 11 0), some (vI x1), o2] [] S Q := by
  refine Ev.iconst (v := (-1)) dX11_cut_14 (by decide) ?_
  exact Ev.iret dX11_cut_15 rfl rfl hq
theorem bkX11_cut_16 {d : Nat} {S : hs_T} {Q : Option av_T → hs_T → Prop} {x1 : Int32} {o2 : Option av_T} (hq : Q (some (vI (S.1 11 0 3))) (sk_ S 11 0 (upd (S.1 11 0) 3 x1))) : Ev d mX11_cut 16 [some (vR 11 0), some (vI x1), o2] [] S Q := by
  refine Ev.aload_n dX11_cut_16 rfl rfl ?_
  refine Ev.get (v := vI (S.1 11 0 3)) okX11 (by decide) fl_X11_144 pz_11_0 (ff_11_3 _ _) dX11_cut_17 ?_
  refine Ev.istore_n (ls' := [some (vR 11 0), some (vI x1), some (vI (S.1 11 0 3))]) dX11_cut_20 rfl (by decide) rfl ?_
  refine Ev.aload_n dX11_cut_21 rfl rfl ?_
  refine Ev.iload_n dX11_cut_22 rfl rfl ?_
  refine Ev.put okX11 (by decide) fl_X11_144 pz_11_0 (by decide) rfl rfl rfl rfl dX11_cut_23 ?_
  refine Ev.iload_n dX11_cut_26 rfl rfl ?_
  exact Ev.iret dX11_cut_27 rfl rfl hq
/-! EightWiresModel.at(I)I -/
theorem bkX11_at_0 {d : Nat} {S : hs_T} {Q : Option av_T → hs_T → Prop} {P : Int32 → hs_T → Prop} {x1 : Int32} (hC : Ci d mX11_isSample [vR 11 0, vI x1] S P) (kk : ∀ v S', P v S' → Ev (d + 1) mX11_at 5 [some (vR 11 0), some (vI x1)] [vI v] S' Q) : Ev (d + 1) mX11_at 0 [some (vR 11 0), some (vI x1)] [] S Q := by
  refine Ev.aload_n dX11_at_0 rfl rfl ?_
  refine Ev.iload_n dX11_at_1 rfl rfl ?_
  exact Ev.callV (as := [vI x1]) (rest := []) okX11_isSample in_X11_isSample ml_X11_152 rfl (Nat.le_of_ble_eq_true rfl) pz_11_0 (by decide) rfl rfl dX11_at_2 hC (fun r S' h => by obtain ⟨v, rfl, h⟩ := h; exact kk v S' h)
theorem bkX11_at_5 {d : Nat} {S : hs_T} {Q : Option av_T → hs_T → Prop} {x1 y0 : Int32} (kt : y0 = 0 → Ev d mX11_at 17 [some (vR 11 0), some (vI x1)] [] S Q) (kf : ¬ y0 = 0 → Ev d mX11_at 8 [some (vR 11 0), some (vI x1)] [] S Q) : Ev d mX11_at 5 [some (vR 11 0), some (vI x1)] [vI y0] S Q := by
  exact Ev.if_eq (tgt := 17) dX11_at_5 (by decide) kt kf
theorem bkX11_at_8 {d : Nat} {S : hs_T} {Q : Option av_T → hs_T → Prop} {x1 : Int32} (hi13 : vp_in x1 400) (kn : Ev d mX11_at 18 [some (vR 11 0), some (vI x1)] [vI (S.1 1202 0 x1.toNatClampNeg)] S Q) : Ev d mX11_at 8 [some (vR 11 0), some (vI x1)] [] S Q := by
  refine Ev.aload_n dX11_at_8 rfl rfl ?_
  refine Ev.get (v := vR 1202 0) okX11 (by decide) fl_X11_16 pz_11_0 (ff_11_2 _ _) dX11_at_9 ?_
  refine Ev.iload_n dX11_at_12 rfl rfl ?_
  refine Ev.ialoadA (a := x1.toNatClampNeg) pz_1202_0 (by decide) ak_1202 hi13 rfl dX11_at_13 ?_
  refine Ev.goto (tgt := 18) dX11_at_14 (by decide) ?_
  exact kn
theorem bkX11_at_17 {d : Nat} {S : hs_T} {Q : Option av_T → hs_T → Prop} {x1 : Int32} (kn : Ev d mX11_at 18 [some (vR 11 0), some (vI x1)] [vI (-1)] S Q) : Ev d mX11_at 17 [some (vR 11 0), some (vI x1)] [] S Q := by
  refine Ev.iconst (v := (-1)) dX11_at_17 (by decide) ?_
  exact kn
theorem bkX11_at_18 {d : Nat} {S : hs_T} {Q : Option av_T → hs_T → Prop} {x1 y0 : Int32} (hq : Q (some (vI y0)) S) : Ev d mX11_at 18 [some (vR 11 0), some (vI x1)] [vI y0] S Q := by
  exact Ev.iret dX11_at_18 rfl rfl hq
/-! EightWiresModel.put(II)I -/
theorem bkX11_put_0 {d : Nat} {S : hs_T} {Q : Option av_T → hs_T → Prop} {P : Int32 → hs_T → Prop} {x1 x2 : Int32} {o3 : Option av_T} (hC : Ci d mX11_isSample [vR 11 0, vI x1] S P) (kk : ∀ v S', P v S' → Ev (d + 1) mX11_put 5 [some (vR 11 0), some (vI x1), some (vI x2), o3] [vI v] S' Q) : Ev (d + 1) mX11_put 0 [some (vR 11 0), some (vI x1), some (vI x2), o3] [] S Q := by
  refine Ev.aload_n dX11_put_0 rfl rfl ?_
  refine Ev.iload_n dX11_put_1 rfl rfl ?_
  exact Ev.callV (as := [vI x1]) (rest := []) okX11_isSample in_X11_isSample ml_X11_152 rfl (Nat.le_of_ble_eq_true rfl) pz_11_0 (by decide) rfl rfl dX11_put_2 hC (fun r S' h => by obtain ⟨v, rfl, h⟩ := h; exact kk v S' h)
theorem bkX11_put_5 {d : Nat} {S : hs_T} {Q : Option av_T → hs_T → Prop} {x1 x2 y0 : Int32} {o3 : Option av_T} (kt : y0 = 0 → Ev d mX11_put 15 [some (vR 11 0), some (vI x1), some (vI x2), o3] [] S Q) (kf : ¬ y0 = 0 → Ev d mX11_put 8 [some (vR 11 0), some (vI x1), some (vI x2), o3] [] S Q) : Ev d mX11_put 5 [some (vR 11 0), some (vI x1), some (vI x2), o3] [vI y0] S Q := by
  exact Ev.if_eq (tgt := 15) dX11_put_5 (by decide) kt kf
theorem bkX11_put_8 {d : Nat} {S : hs_T} {Q : Option av_T → hs_T → Prop} {P : Int32 → hs_T → Prop} {x1 x2 : Int32} {o3 : Option av_T} (hC : Ci d mX11_isValue [vI x2] S P) (kk : ∀ v S', P v S' → Ev (d + 1) mX11_put 12 [some (vR 11 0), some (vI x1), some (vI x2), o3] [vI v] S' Q) : Ev (d + 1) mX11_put 8 [some (vR 11 0), some (vI x1), some (vI x2), o3] [] S Q := by
  refine Ev.iload_n dX11_put_8 rfl rfl ?_
  exact Ev.callS (as := [vI x2]) (rest := []) okX11_isValue stX11_isValue ml_X11_149 rfl (Nat.le_of_ble_eq_true rfl) rfl dX11_put_9 hC (fun r S' h => by obtain ⟨v, rfl, h⟩ := h; exact kk v S' h)
theorem bkX11_put_12 {d : Nat} {S : hs_T} {Q : Option av_T → hs_T → Prop} {x1 x2 y0 : Int32} {o3 : Option av_T} (kt : ¬ y0 = 0 → Ev d mX11_put 17 [some (vR 11 0), some (vI x1), some (vI x2), o3] [] S Q) (kf : y0 = 0 → Ev d mX11_put 15 [some (vR 11 0), some (vI x1), some (vI x2), o3] [] S Q) : Ev d mX11_put 12 [some (vR 11 0), some (vI x1), some (vI x2), o3] [vI y0] S Q := by
  exact Ev.if_ne (tgt := 17) dX11_put_12 (by decide) kt kf
theorem bkX11_put_15 {d : Nat} {S : hs_T} {Q : Option av_T → hs_T → Prop} {x1 x2 : Int32} {o3 : Option av_T} (hq : Q (some (vI (-1))) S) : Ev d mX11_put 15 [some (vR 11 0), some (vI x1), some (vI x2), o3] [] S Q := by
  refine Ev.iconst (v := (-1)) dX11_put_15 (by decide) ?_
  exact Ev.iret dX11_put_16 rfl rfl hq
theorem bkX11_put_17 {d : Nat} {S : hs_T} {Q : Option av_T → hs_T → Prop} {x1 x2 : Int32} {o3 : Option av_T} (hi22 : vp_in x1 400) (hq : Q (some (vI (S.1 1202 0 x1.toNatClampNeg))) (sk_ S 1202 0 (upd (S.1 1202 0) x1.toNatClampNeg x2))) : Ev d mX11_put 17 [some (vR 11 0), some (vI x1), some (vI x2), o3] [] S Q := by
  refine Ev.aload_n dX11_put_17 rfl rfl ?_
  refine Ev.get (v := vR 1202 0) okX11 (by decide) fl_X11_16 pz_11_0 (ff_11_2 _ _) dX11_put_18 ?_
  refine Ev.iload_n dX11_put_21 rfl rfl ?_
  refine Ev.ialoadA (a := x1.toNatClampNeg) pz_1202_0 (by decide) ak_1202 hi22 rfl dX11_put_22 ?_
  refine Ev.istore_n (ls' := [some (vR 11 0), some (vI x1), some (vI x2), some (vI (S.1 1202 0 x1.toNatClampNeg))]) dX11_put_23 rfl (by decide) rfl ?_
  refine Ev.aload_n dX11_put_24 rfl rfl ?_
  refine Ev.get (v := vR 1202 0) okX11 (by decide) fl_X11_16 pz_11_0 (ff_11_2 _ _) dX11_put_25 ?_
  refine Ev.iload_n dX11_put_28 rfl rfl ?_
  refine Ev.iload_n dX11_put_29 rfl rfl ?_
  refine Ev.iastoreA (a := x1.toNatClampNeg) pz_1202_0 (by decide) ak_1202 hi22 rfl rfl dX11_put_30 ?_
  refine Ev.iload_n dX11_put_31 rfl rfl ?_
  exact Ev.iret dX11_put_32 rfl rfl hq
/-! EightWiresModel.isHigh(II)Z -/
theorem bkX11_isHigh_0 {d : Nat} {S : hs_T} {Q : Option av_T → hs_T → Prop} {x1 x2 : Int32} (hi5 : vp_in x2 400) (kt : ¬ (((S.1 1202 0 x2.toNatClampNeg) >>> (x1 &&& 31)) &&& 1) = 1 → Ev d mX11_isHigh 18 [some (vR 11 0), some (vI x1), some (vI x2)] [] S Q) (kf : (((S.1 1202 0 x2.toNatClampNeg) >>> (x1 &&& 31)) &&& 1) = 1 → Ev d mX11_isHigh 14 [some (vR 11 0), some (vI x1), some (vI x2)] [] S Q) : Ev d mX11_isHigh 0 [some (vR 11 0), some (vI x1), some (vI x2)] [] S Q := by
  refine Ev.aload_n dX11_isHigh_0 rfl rfl ?_
  refine Ev.get (v := vR 1202 0) okX11 (by decide) fl_X11_16 pz_11_0 (ff_11_2 _ _) dX11_isHigh_1 ?_
  refine Ev.iload_n dX11_isHigh_4 rfl rfl ?_
  refine Ev.ialoadA (a := x2.toNatClampNeg) pz_1202_0 (by decide) ak_1202 hi5 rfl dX11_isHigh_5 ?_
  refine Ev.iload_n dX11_isHigh_6 rfl rfl ?_
  refine Ev.ishr dX11_isHigh_7 ?_
  refine Ev.iconst (v := 1) dX11_isHigh_8 (by decide) ?_
  refine Ev.iand dX11_isHigh_9 ?_
  refine Ev.iconst (v := 1) dX11_isHigh_10 (by decide) ?_
  exact Ev.icmp_ne (tgt := 18) dX11_isHigh_11 (by decide) kt kf
theorem bkX11_isHigh_14 {d : Nat} {S : hs_T} {Q : Option av_T → hs_T → Prop} {x1 x2 : Int32} (kn : Ev d mX11_isHigh 19 [some (vR 11 0), some (vI x1), some (vI x2)] [vI 1] S Q) : Ev d mX11_isHigh 14 [some (vR 11 0), some (vI x1), some (vI x2)] [] S Q := by
  refine Ev.iconst (v := 1) dX11_isHigh_14 (by decide) ?_
  refine Ev.goto (tgt := 19) dX11_isHigh_15 (by decide) ?_
  exact kn
theorem bkX11_isHigh_18 {d : Nat} {S : hs_T} {Q : Option av_T → hs_T → Prop} {x1 x2 : Int32} (kn : Ev d mX11_isHigh 19 [some (vR 11 0), some (vI x1), some (vI x2)] [vI 0] S Q) : Ev d mX11_isHigh 18 [some (vR 11 0), some (vI x1), some (vI x2)] [] S Q := by
  refine Ev.iconst (v := 0) dX11_isHigh_18 (by decide) ?_
  exact kn
theorem bkX11_isHigh_19 {d : Nat} {S : hs_T} {Q : Option av_T → hs_T → Prop} {x1 x2 y0 : Int32} (hn19 : narrow .boolean (.int y0) = .int y0) (hq : Q (some (vI y0)) S) : Ev d mX11_isHigh 19 [some (vR 11 0), some (vI x1), some (vI x2)] [vI y0] S Q := by
  exact Ev.iret dX11_isHigh_19 rfl hn19 hq
/-! EightWiresModel.rises(II)Z -/
theorem bkX11_rises_0 {d : Nat} {S : hs_T} {Q : Option av_T → hs_T → Prop} {x1 x2 : Int32} (kt : x2 ≤ 0 → Ev d mX11_rises 28 [some (vR 11 0), some (vI x1), some (vI x2)] [] S Q) (kf : ¬ x2 ≤ 0 → Ev d mX11_rises 4 [some (vR 11 0), some (vI x1), some (vI x2)] [] S Q) : Ev d mX11_rises 0 [some (vR 11 0), some (vI x1), some (vI x2)] [] S Q := by
  refine Ev.iload_n dX11_rises_0 rfl rfl ?_
  exact Ev.if_le (tgt := 28) dX11_rises_1 (by decide) kt kf
theorem bkX11_rises_4 {d : Nat} {S : hs_T} {Q : Option av_T → hs_T → Prop} {P : Int32 → hs_T → Prop} {x1 x2 : Int32} (hC : Ci d mX11_isHigh [vR 11 0, vI x1, vI x2] S P) (kk : ∀ v S', P v S' → Ev (d + 1) mX11_rises 10 [some (vR 11 0), some (vI x1), some (vI x2)] [vI v] S' Q) : Ev (d + 1) mX11_rises 4 [some (vR 11 0), some (vI x1), some (vI x2)] [] S Q := by
  refine Ev.aload_n dX11_rises_4 rfl rfl ?_
  refine Ev.iload_n dX11_rises_5 rfl rfl ?_
  refine Ev.iload_n dX11_rises_6 rfl rfl ?_
  exact Ev.callV (as := [vI x1, vI x2]) (rest := []) okX11_isHigh in_X11_isHigh ml_X11_155 rfl (Nat.le_of_ble_eq_true rfl) pz_11_0 (by decide) rfl rfl dX11_rises_7 hC (fun r S' h => by obtain ⟨v, rfl, h⟩ := h; exact kk v S' h)
theorem bkX11_rises_10 {d : Nat} {S : hs_T} {Q : Option av_T → hs_T → Prop} {x1 x2 y0 : Int32} (kt : y0 = 0 → Ev d mX11_rises 28 [some (vR 11 0), some (vI x1), some (vI x2)] [] S Q) (kf : ¬ y0 = 0 → Ev d mX11_rises 13 [some (vR 11 0), some (vI x1), some (vI x2)] [] S Q) : Ev d mX11_rises 10 [some (vR 11 0), some (vI x1), some (vI x2)] [vI y0] S Q := by
  exact Ev.if_eq (tgt := 28) dX11_rises_10 (by decide) kt kf
theorem bkX11_rises_13 {d : Nat} {S : hs_T} {Q : Option av_T → hs_T → Prop} {P : Int32 → hs_T → Prop} {x1 x2 : Int32} (hC : Ci d mX11_isHigh [vR 11 0, vI x1, vI (x2 - 1)] S P) (kk : ∀ v S', P v S' → Ev (d + 1) mX11_rises 21 [some (vR 11 0), some (vI x1), some (vI x2)] [vI v] S' Q) : Ev (d + 1) mX11_rises 13 [some (vR 11 0), some (vI x1), some (vI x2)] [] S Q := by
  refine Ev.aload_n dX11_rises_13 rfl rfl ?_
  refine Ev.iload_n dX11_rises_14 rfl rfl ?_
  refine Ev.iload_n dX11_rises_15 rfl rfl ?_
  refine Ev.iconst (v := 1) dX11_rises_16 (by decide) ?_
  refine Ev.isub dX11_rises_17 ?_
  exact Ev.callV (as := [vI x1, vI (x2 - 1)]) (rest := []) okX11_isHigh in_X11_isHigh ml_X11_155 rfl (Nat.le_of_ble_eq_true rfl) pz_11_0 (by decide) rfl rfl dX11_rises_18 hC (fun r S' h => by obtain ⟨v, rfl, h⟩ := h; exact kk v S' h)
theorem bkX11_rises_21 {d : Nat} {S : hs_T} {Q : Option av_T → hs_T → Prop} {x1 x2 y0 : Int32} (kt : ¬ y0 = 0 → Ev d mX11_rises 28 [some (vR 11 0), some (vI x1), some (vI x2)] [] S Q) (kf : y0 = 0 → Ev d mX11_rises 24 [some (vR 11 0), some (vI x1), some (vI x2)] [] S Q) : Ev d mX11_rises 21 [some (vR 11 0), some (vI x1), some (vI x2)] [vI y0] S Q := by
  exact Ev.if_ne (tgt := 28) dX11_rises_21 (by decide) kt kf
theorem bkX11_rises_24 {d : Nat} {S : hs_T} {Q : Option av_T → hs_T → Prop} {x1 x2 : Int32} (kn : Ev d mX11_rises 29 [some (vR 11 0), some (vI x1), some (vI x2)] [vI 1] S Q) : Ev d mX11_rises 24 [some (vR 11 0), some (vI x1), some (vI x2)] [] S Q := by
  refine Ev.iconst (v := 1) dX11_rises_24 (by decide) ?_
  refine Ev.goto (tgt := 29) dX11_rises_25 (by decide) ?_
  exact kn
theorem bkX11_rises_28 {d : Nat} {S : hs_T} {Q : Option av_T → hs_T → Prop} {x1 x2 : Int32} (kn : Ev d mX11_rises 29 [some (vR 11 0), some (vI x1), some (vI x2)] [vI 0] S Q) : Ev d mX11_rises 28 [some (vR 11 0), some (vI x1), some (vI x2)] [] S Q := by
  refine Ev.iconst (v := 0) dX11_rises_28 (by decide) ?_
  exact kn
theorem bkX11_rises_29 {d : Nat} {S : hs_T} {Q : Option av_T → hs_T → Prop} {x1 x2 y0 : Int32} (hn29 : narrow .boolean (.int y0) = .int y0) (hq : Q (some (vI y0)) S) : Ev d mX11_rises 29 [some (vR 11 0), some (vI x1), some (vI x2)] [vI y0] S Q := by
  exact Ev.iret dX11_rises_29 rfl hn29 hq
/-! EightWiresModel.falls(II)Z -/
theorem bkX11_falls_0 {d : Nat} {S : hs_T} {Q : Option av_T → hs_T → Prop} {x1 x2 : Int32} (kt : x2 ≤ 0 → Ev d mX11_falls 28 [some (vR 11 0), some (vI x1), some (vI x2)] [] S Q) (kf : ¬ x2 ≤ 0 → Ev d mX11_falls 4 [some (vR 11 0), some (vI x1), some (vI x2)] [] S Q) : Ev d mX11_falls 0 [some (vR 11 0), some (vI x1), some (vI x2)] [] S Q := by
  refine Ev.iload_n dX11_falls_0 rfl rfl ?_
  exact Ev.if_le (tgt := 28) dX11_falls_1 (by decide) kt kf
theorem bkX11_falls_4 {d : Nat} {S : hs_T} {Q : Option av_T → hs_T → Prop} {P : Int32 → hs_T → Prop} {x1 x2 : Int32} (hC : Ci d mX11_isHigh [vR 11 0, vI x1, vI x2] S P) (kk : ∀ v S', P v S' → Ev (d + 1) mX11_falls 10 [some (vR 11 0), some (vI x1), some (vI x2)] [vI v] S' Q) : Ev (d + 1) mX11_falls 4 [some (vR 11 0), some (vI x1), some (vI x2)] [] S Q := by
  refine Ev.aload_n dX11_falls_4 rfl rfl ?_
  refine Ev.iload_n dX11_falls_5 rfl rfl ?_
  refine Ev.iload_n dX11_falls_6 rfl rfl ?_
  exact Ev.callV (as := [vI x1, vI x2]) (rest := []) okX11_isHigh in_X11_isHigh ml_X11_155 rfl (Nat.le_of_ble_eq_true rfl) pz_11_0 (by decide) rfl rfl dX11_falls_7 hC (fun r S' h => by obtain ⟨v, rfl, h⟩ := h; exact kk v S' h)
theorem bkX11_falls_10 {d : Nat} {S : hs_T} {Q : Option av_T → hs_T → Prop} {x1 x2 y0 : Int32} (kt : ¬ y0 = 0 → Ev d mX11_falls 28 [some (vR 11 0), some (vI x1), some (vI x2)] [] S Q) (kf : y0 = 0 → Ev d mX11_falls 13 [some (vR 11 0), some (vI x1), some (vI x2)] [] S Q) : Ev d mX11_falls 10 [some (vR 11 0), some (vI x1), some (vI x2)] [vI y0] S Q := by
  exact Ev.if_ne (tgt := 28) dX11_falls_10 (by decide) kt kf
theorem bkX11_falls_13 {d : Nat} {S : hs_T} {Q : Option av_T → hs_T → Prop} {P : Int32 → hs_T → Prop} {x1 x2 : Int32} (hC : Ci d mX11_isHigh [vR 11 0, vI x1, vI (x2 - 1)] S P) (kk : ∀ v S', P v S' → Ev (d + 1) mX11_falls 21 [some (vR 11 0), some (vI x1), some (vI x2)] [vI v] S' Q) : Ev (d + 1) mX11_falls 13 [some (vR 11 0), some (vI x1), some (vI x2)] [] S Q := by
  refine Ev.aload_n dX11_falls_13 rfl rfl ?_
  refine Ev.iload_n dX11_falls_14 rfl rfl ?_
  refine Ev.iload_n dX11_falls_15 rfl rfl ?_
  refine Ev.iconst (v := 1) dX11_falls_16 (by decide) ?_
  refine Ev.isub dX11_falls_17 ?_
  exact Ev.callV (as := [vI x1, vI (x2 - 1)]) (rest := []) okX11_isHigh in_X11_isHigh ml_X11_155 rfl (Nat.le_of_ble_eq_true rfl) pz_11_0 (by decide) rfl rfl dX11_falls_18 hC (fun r S' h => by obtain ⟨v, rfl, h⟩ := h; exact kk v S' h)
theorem bkX11_falls_21 {d : Nat} {S : hs_T} {Q : Option av_T → hs_T → Prop} {x1 x2 y0 : Int32} (kt : y0 = 0 → Ev d mX11_falls 28 [some (vR 11 0), some (vI x1), some (vI x2)] [] S Q) (kf : ¬ y0 = 0 → Ev d mX11_falls 24 [some (vR 11 0), some (vI x1), some (vI x2)] [] S Q) : Ev d mX11_falls 21 [some (vR 11 0), some (vI x1), some (vI x2)] [vI y0] S Q := by
  exact Ev.if_eq (tgt := 28) dX11_falls_21 (by decide) kt kf
theorem bkX11_falls_24 {d : Nat} {S : hs_T} {Q : Option av_T → hs_T → Prop} {x1 x2 : Int32} (kn : Ev d mX11_falls 29 [some (vR 11 0), some (vI x1), some (vI x2)] [vI 1] S Q) : Ev d mX11_falls 24 [some (vR 11 0), some (vI x1), some (vI x2)] [] S Q := by
  refine Ev.iconst (v := 1) dX11_falls_24 (by decide) ?_
  refine Ev.goto (tgt := 29) dX11_falls_25 (by decide) ?_
  exact kn
theorem bkX11_falls_28 {d : Nat} {S : hs_T} {Q : Option av_T → hs_T → Prop} {x1 x2 : Int32} (kn : Ev d mX11_falls 29 [some (vR 11 0), some (vI x1), some (vI x2)] [vI 0] S Q) : Ev d mX11_falls 28 [some (vR 11 0), some (vI x1), some (vI x2)] [] S Q := by
  refine Ev.iconst (v := 0) dX11_falls_28 (by decide) ?_
  exact kn
theorem bkX11_falls_29 {d : Nat} {S : hs_T} {Q : Option av_T → hs_T → Prop} {x1 x2 y0 : Int32} (hn29 : narrow .boolean (.int y0) = .int y0) (hq : Q (some (vI y0)) S) : Ev d mX11_falls 29 [some (vR 11 0), some (vI x1), some (vI x2)] [vI y0] S Q := by
  exact Ev.iret dX11_falls_29 rfl hn29 hq
/-! EightWiresModel.isSo(IIII)Z -/
theorem bkX11_isSo_0 {d : Nat} {S : hs_T} {Q : Option av_T → hs_T → Prop} {x1 x2 x3 x4 : Int32} {o5 o6 o7 : Option av_T} (kn : Ev d mX11_isSo 6 [some (vR 11 0), some (vI x1), some (vI x2), some (vI x3), some (vI x4), some (vI 1), some (vI x1), o7] [] S Q) : Ev d mX11_isSo 0 [some (vR 11 0), some (vI x1), some (vI x2), some (vI x3), some (vI x4), o5, o6, o7] [] S Q := by
  refine Ev.iconst (v := 1) dX11_isSo_0 (by decide) ?_
  refine Ev.istore (ls' := [some (vR 11 0), some (vI x1), some (vI x2), some (vI x3), some (vI x4), some (vI 1), o6, o7]) dX11_isSo_1 (by decide) rfl ?_
  refine Ev.iload_n dX11_isSo_3 rfl rfl ?_
  refine Ev.istore (ls' := [some (vR 11 0), some (vI x1), some (vI x2), some (vI x3), some (vI x4), some (vI 1), some (vI x1), o7]) dX11_isSo_4 (by decide) rfl ?_
  exact kn
theorem bkX11_isSo_6 {d : Nat} {S : hs_T} {Q : Option av_T → hs_T → Prop} {x1 x2 x3 x4 x5 x6 : Int32} {o7 : Option av_T} (kt : (x1 + x2) ≤ x6 → Ev d mX11_isSo 253 [some (vR 11 0), some (vI x1), some (vI x2), some (vI x3), some (vI x4), some (vI x5), some (vI x6), o7] [] S Q) (kf : ¬ (x1 + x2) ≤ x6 → Ev d mX11_isSo 14 [some (vR 11 0), some (vI x1), some (vI x2), some (vI x3), some (vI x4), some (vI x5), some (vI x6), o7] [] S Q) : Ev d mX11_isSo 6 [some (vR 11 0), some (vI x1), some (vI x2), some (vI x3), some (vI x4), some (vI x5), some (vI x6), o7] [] S Q := by
  refine Ev.iload dX11_isSo_6 rfl ?_
  refine Ev.iload_n dX11_isSo_8 rfl rfl ?_
  refine Ev.iload_n dX11_isSo_9 rfl rfl ?_
  refine Ev.iadd dX11_isSo_10 ?_
  exact Ev.icmp_ge (tgt := 253) dX11_isSo_11 (by decide) kt kf
theorem bkX11_isSo_14 {d : Nat} {S : hs_T} {Q : Option av_T → hs_T → Prop} {x1 x2 x3 x4 x5 x6 : Int32} {o7 : Option av_T} (hi24 : vp_in (147 + x6) 234) (hi36 : vp_in (72 + x6) 234) (k0 : (S.1 1200 0 (72 + x6).toNatClampNeg) = 0 → Ev d mX11_isSo 76 [some (vR 11 0), some (vI x1), some (vI x2), some (vI x3), some (vI x4), some (vI x5), some (vI x6), some (vI (S.1 1200 0 (147 + x6).toNatClampNeg))] [] S Q) (k1 : (S.1 1200 0 (72 + x6).toNatClampNeg) = 1 → Ev d mX11_isSo 101 [some (vR 11 0), some (vI x1), some (vI x2), some (vI x3), some (vI x4), some (vI x5), some (vI x6), some (vI (S.1 1200 0 (147 + x6).toNatClampNeg))] [] S Q) (k2 : (S.1 1200 0 (72 + x6).toNatClampNeg) = 2 → Ev d mX11_isSo 126 [some (vR 11 0), some (vI x1), some (vI x2), some (vI x3), some (vI x4), some (vI x5), some (vI x6), some (vI (S.1 1200 0 (147 + x6).toNatClampNeg))] [] S Q) (k3 : (S.1 1200 0 (72 + x6).toNatClampNeg) = 3 → Ev d mX11_isSo 151 [some (vR 11 0), some (vI x1), some (vI x2), some (vI x3), some (vI x4), some (vI x5), some (vI x6), some (vI (S.1 1200 0 (147 + x6).toNatClampNeg))] [] S Q) (k4 : (S.1 1200 0 (72 + x6).toNatClampNeg) = 4 → Ev d mX11_isSo 176 [some (vR 11 0), some (vI x1), some (vI x2), some (vI x3), some (vI x4), some (vI x5), some (vI x6), some (vI (S.1 1200 0 (147 + x6).toNatClampNeg))] [] S Q) (k5 : (S.1 1200 0 (72 + x6).toNatClampNeg) = 5 → Ev d mX11_isSo 202 [some (vR 11 0), some (vI x1), some (vI x2), some (vI x3), some (vI x4), some (vI x5), some (vI x6), some (vI (S.1 1200 0 (147 + x6).toNatClampNeg))] [] S Q) (kd : ¬ (S.1 1200 0 (72 + x6).toNatClampNeg) = 0 → ¬ (S.1 1200 0 (72 + x6).toNatClampNeg) = 1 → ¬ (S.1 1200 0 (72 + x6).toNatClampNeg) = 2 → ¬ (S.1 1200 0 (72 + x6).toNatClampNeg) = 3 → ¬ (S.1 1200 0 (72 + x6).toNatClampNeg) = 4 → ¬ (S.1 1200 0 (72 + x6).toNatClampNeg) = 5 → Ev d mX11_isSo 228 [some (vR 11 0), some (vI x1), some (vI x2), some (vI x3), some (vI x4), some (vI x5), some (vI x6), some (vI (S.1 1200 0 (147 + x6).toNatClampNeg))] [] S Q) : Ev d mX11_isSo 14 [some (vR 11 0), some (vI x1), some (vI x2), some (vI x3), some (vI x4), some (vI x5), some (vI x6), o7] [] S Q := by
  refine Ev.aload_n dX11_isSo_14 rfl rfl ?_
  refine Ev.get (v := vR 1200 0) okX11 (by decide) fl_X11_7 pz_11_0 (ff_11_0 _ _) dX11_isSo_15 ?_
  refine Ev.sipush (v := 147) dX11_isSo_18 (by decide) ?_
  refine Ev.iload dX11_isSo_21 rfl ?_
  refine Ev.iadd dX11_isSo_23 ?_
  refine Ev.ialoadA (a := (147 + x6).toNatClampNeg) pz_1200_0 (by decide) ak_1200 hi24 rfl dX11_isSo_24 ?_
  refine Ev.istore (ls' := [some (vR 11 0), some (vI x1), some (vI x2), some (vI x3), some (vI x4), some (vI x5), some (vI x6), some (vI (S.1 1200 0 (147 + x6).toNatClampNeg))]) dX11_isSo_25 (by decide) rfl ?_
  refine Ev.aload_n dX11_isSo_27 rfl rfl ?_
  refine Ev.get (v := vR 1200 0) okX11 (by decide) fl_X11_7 pz_11_0 (ff_11_0 _ _) dX11_isSo_28 ?_
  refine Ev.bipush (v := 72) dX11_isSo_31 (by decide) ?_
  refine Ev.iload dX11_isSo_33 rfl ?_
  refine Ev.iadd dX11_isSo_35 ?_
  refine Ev.ialoadA (a := (72 + x6).toNatClampNeg) pz_1200_0 (by decide) ak_1200 hi36 rfl dX11_isSo_36 ?_
  by_cases hc0 : (S.1 1200 0 (72 + x6).toNatClampNeg) = 0
  · exact Ev.tableIn (off := 39) (tgt := 76) dX11_isSo_37 (by rw [hc0]; decide) (by rw [hc0]; decide) (by rw [hc0]; rfl) (by decide) (k0 hc0)
  by_cases hc1 : (S.1 1200 0 (72 + x6).toNatClampNeg) = 1
  · exact Ev.tableIn (off := 64) (tgt := 101) dX11_isSo_37 (by rw [hc1]; decide) (by rw [hc1]; decide) (by rw [hc1]; rfl) (by decide) (k1 hc1)
  by_cases hc2 : (S.1 1200 0 (72 + x6).toNatClampNeg) = 2
  · exact Ev.tableIn (off := 89) (tgt := 126) dX11_isSo_37 (by rw [hc2]; decide) (by rw [hc2]; decide) (by rw [hc2]; rfl) (by decide) (k2 hc2)
  by_cases hc3 : (S.1 1200 0 (72 + x6).toNatClampNeg) = 3
  · exact Ev.tableIn (off := 114) (tgt := 151) dX11_isSo_37 (by rw [hc3]; decide) (by rw [hc3]; decide) (by rw [hc3]; rfl) (by decide) (k3 hc3)
  by_cases hc4 : (S.1 1200 0 (72 + x6).toNatClampNeg) = 4
  · exact Ev.tableIn (off := 139) (tgt := 176) dX11_isSo_37 (by rw [hc4]; decide) (by rw [hc4]; decide) (by rw [hc4]; rfl) (by decide) (k4 hc4)
  by_cases hc5 : (S.1 1200 0 (72 + x6).toNatClampNeg) = 5
  · exact Ev.tableIn (off := 165) (tgt := 202) dX11_isSo_37 (by rw [hc5]; decide) (by rw [hc5]; decide) (by rw [hc5]; rfl) (by decide) (k5 hc5)
  refine Ev.tableOut (tgt := 228) dX11_isSo_37 (tw_out (fun c h1 h2 => ?_)) (by decide) (kd hc0 hc1 hc2 hc3 hc4 hc5)
  have hcs : c = 0 ∨ c = 1 ∨ c = 2 ∨ c = 3 ∨ c = 4 ∨ c = 5 := by omega
  rcases hcs with rfl | rfl | rfl | rfl | rfl | rfl
  · exact fun z => hc0 (Int32.toInt_inj.mp (z.trans (by decide)))
  · exact fun z => hc1 (Int32.toInt_inj.mp (z.trans (by decide)))
  · exact fun z => hc2 (Int32.toInt_inj.mp (z.trans (by decide)))
  · exact fun z => hc3 (Int32.toInt_inj.mp (z.trans (by decide)))
  · exact fun z => hc4 (Int32.toInt_inj.mp (z.trans (by decide)))
  · exact fun z => hc5 (Int32.toInt_inj.mp (z.trans (by decide)))
theorem bkX11_isSo_76 {d : Nat} {S : hs_T} {Q : Option av_T → hs_T → Prop} {x1 x2 x3 x4 x5 x6 x7 : Int32} (kt : x5 = 0 → Ev d mX11_isSo 95 [some (vR 11 0), some (vI x1), some (vI x2), some (vI x3), some (vI x4), some (vI x5), some (vI x6), some (vI x7)] [] S Q) (kf : ¬ x5 = 0 → Ev d mX11_isSo 81 [some (vR 11 0), some (vI x1), some (vI x2), some (vI x3), some (vI x4), some (vI x5), some (vI x6), some (vI x7)] [] S Q) : Ev d mX11_isSo 76 [some (vR 11 0), some (vI x1), some (vI x2), some (vI x3), some (vI x4), some (vI x5), some (vI x6), some (vI x7)] [] S Q := by
  refine Ev.iload dX11_isSo_76 rfl ?_
  exact Ev.if_eq (tgt := 95) dX11_isSo_78 (by decide) kt kf
theorem bkX11_isSo_81 {d : Nat} {S : hs_T} {Q : Option av_T → hs_T → Prop} {P : Int32 → hs_T → Prop} {x1 x2 x3 x4 x5 x6 x7 : Int32} (hC : Ci d mX11_isHigh [vR 11 0, vI x7, vI x3] S P) (kk : ∀ v S', P v S' → Ev (d + 1) mX11_isSo 88 [some (vR 11 0), some (vI x1), some (vI x2), some (vI x3), some (vI x4), some (vI x5), some (vI x6), some (vI x7)] [vI v] S' Q) : Ev (d + 1) mX11_isSo 81 [some (vR 11 0), some (vI x1), some (vI x2), some (vI x3), some (vI x4), some (vI x5), some (vI x6), some (vI x7)] [] S Q := by
  refine Ev.aload_n dX11_isSo_81 rfl rfl ?_
  refine Ev.iload dX11_isSo_82 rfl ?_
  refine Ev.iload_n dX11_isSo_84 rfl rfl ?_
  exact Ev.callV (as := [vI x7, vI x3]) (rest := []) okX11_isHigh in_X11_isHigh ml_X11_155 rfl (Nat.le_of_ble_eq_true rfl) pz_11_0 (by decide) rfl rfl dX11_isSo_85 hC (fun r S' h => by obtain ⟨v, rfl, h⟩ := h; exact kk v S' h)
theorem bkX11_isSo_88 {d : Nat} {S : hs_T} {Q : Option av_T → hs_T → Prop} {x1 x2 x3 x4 x5 x6 x7 y0 : Int32} (kt : y0 = 0 → Ev d mX11_isSo 95 [some (vR 11 0), some (vI x1), some (vI x2), some (vI x3), some (vI x4), some (vI x5), some (vI x6), some (vI x7)] [] S Q) (kf : ¬ y0 = 0 → Ev d mX11_isSo 91 [some (vR 11 0), some (vI x1), some (vI x2), some (vI x3), some (vI x4), some (vI x5), some (vI x6), some (vI x7)] [] S Q) : Ev d mX11_isSo 88 [some (vR 11 0), some (vI x1), some (vI x2), some (vI x3), some (vI x4), some (vI x5), some (vI x6), some (vI x7)] [vI y0] S Q := by
  exact Ev.if_eq (tgt := 95) dX11_isSo_88 (by decide) kt kf
theorem bkX11_isSo_91 {d : Nat} {S : hs_T} {Q : Option av_T → hs_T → Prop} {x1 x2 x3 x4 x5 x6 x7 : Int32} (kn : Ev d mX11_isSo 96 [some (vR 11 0), some (vI x1), some (vI x2), some (vI x3), some (vI x4), some (vI x5), some (vI x6), some (vI x7)] [vI 1] S Q) : Ev d mX11_isSo 91 [some (vR 11 0), some (vI x1), some (vI x2), some (vI x3), some (vI x4), some (vI x5), some (vI x6), some (vI x7)] [] S Q := by
  refine Ev.iconst (v := 1) dX11_isSo_91 (by decide) ?_
  refine Ev.goto (tgt := 96) dX11_isSo_92 (by decide) ?_
  exact kn
theorem bkX11_isSo_95 {d : Nat} {S : hs_T} {Q : Option av_T → hs_T → Prop} {x1 x2 x3 x4 x5 x6 x7 : Int32} (kn : Ev d mX11_isSo 96 [some (vR 11 0), some (vI x1), some (vI x2), some (vI x3), some (vI x4), some (vI x5), some (vI x6), some (vI x7)] [vI 0] S Q) : Ev d mX11_isSo 95 [some (vR 11 0), some (vI x1), some (vI x2), some (vI x3), some (vI x4), some (vI x5), some (vI x6), some (vI x7)] [] S Q := by
  refine Ev.iconst (v := 0) dX11_isSo_95 (by decide) ?_
  exact kn
theorem bkX11_isSo_96 {d : Nat} {S : hs_T} {Q : Option av_T → hs_T → Prop} {x1 x2 x3 x4 x5 x6 x7 y0 : Int32} (kn : Ev d mX11_isSo 247 [some (vR 11 0), some (vI x1), some (vI x2), some (vI x3), some (vI x4), some (vI y0), some (vI x6), some (vI x7)] [] S Q) : Ev d mX11_isSo 96 [some (vR 11 0), some (vI x1), some (vI x2), some (vI x3), some (vI x4), some (vI x5), some (vI x6), some (vI x7)] [vI y0] S Q := by
  refine Ev.istore (ls' := [some (vR 11 0), some (vI x1), some (vI x2), some (vI x3), some (vI x4), some (vI y0), some (vI x6), some (vI x7)]) dX11_isSo_96 (by decide) rfl ?_
  refine Ev.goto (tgt := 247) dX11_isSo_98 (by decide) ?_
  exact kn
theorem bkX11_isSo_101 {d : Nat} {S : hs_T} {Q : Option av_T → hs_T → Prop} {x1 x2 x3 x4 x5 x6 x7 : Int32} (kt : x5 = 0 → Ev d mX11_isSo 120 [some (vR 11 0), some (vI x1), some (vI x2), some (vI x3), some (vI x4), some (vI x5), some (vI x6), some (vI x7)] [] S Q) (kf : ¬ x5 = 0 → Ev d mX11_isSo 106 [some (vR 11 0), some (vI x1), some (vI x2), some (vI x3), some (vI x4), some (vI x5), some (vI x6), some (vI x7)] [] S Q) : Ev d mX11_isSo 101 [some (vR 11 0), some (vI x1), some (vI x2), some (vI x3), some (vI x4), some (vI x5), some (vI x6), some (vI x7)] [] S Q := by
  refine Ev.iload dX11_isSo_101 rfl ?_
  exact Ev.if_eq (tgt := 120) dX11_isSo_103 (by decide) kt kf
theorem bkX11_isSo_106 {d : Nat} {S : hs_T} {Q : Option av_T → hs_T → Prop} {P : Int32 → hs_T → Prop} {x1 x2 x3 x4 x5 x6 x7 : Int32} (hC : Ci d mX11_isHigh [vR 11 0, vI x7, vI x3] S P) (kk : ∀ v S', P v S' → Ev (d + 1) mX11_isSo 113 [some (vR 11 0), some (vI x1), some (vI x2), some (vI x3), some (vI x4), some (vI x5), some (vI x6), some (vI x7)] [vI v] S' Q) : Ev (d + 1) mX11_isSo 106 [some (vR 11 0), some (vI x1), some (vI x2), some (vI x3), some (vI x4), some (vI x5), some (vI x6), some (vI x7)] [] S Q := by
  refine Ev.aload_n dX11_isSo_106 rfl rfl ?_
  refine Ev.iload dX11_isSo_107 rfl ?_
  refine Ev.iload_n dX11_isSo_109 rfl rfl ?_
  exact Ev.callV (as := [vI x7, vI x3]) (rest := []) okX11_isHigh in_X11_isHigh ml_X11_155 rfl (Nat.le_of_ble_eq_true rfl) pz_11_0 (by decide) rfl rfl dX11_isSo_110 hC (fun r S' h => by obtain ⟨v, rfl, h⟩ := h; exact kk v S' h)
theorem bkX11_isSo_113 {d : Nat} {S : hs_T} {Q : Option av_T → hs_T → Prop} {x1 x2 x3 x4 x5 x6 x7 y0 : Int32} (kt : ¬ y0 = 0 → Ev d mX11_isSo 120 [some (vR 11 0), some (vI x1), some (vI x2), some (vI x3), some (vI x4), some (vI x5), some (vI x6), some (vI x7)] [] S Q) (kf : y0 = 0 → Ev d mX11_isSo 116 [some (vR 11 0), some (vI x1), some (vI x2), some (vI x3), some (vI x4), some (vI x5), some (vI x6), some (vI x7)] [] S Q) : Ev d mX11_isSo 113 [some (vR 11 0), some (vI x1), some (vI x2), some (vI x3), some (vI x4), some (vI x5), some (vI x6), some (vI x7)] [vI y0] S Q := by
  exact Ev.if_ne (tgt := 120) dX11_isSo_113 (by decide) kt kf
theorem bkX11_isSo_116 {d : Nat} {S : hs_T} {Q : Option av_T → hs_T → Prop} {x1 x2 x3 x4 x5 x6 x7 : Int32} (kn : Ev d mX11_isSo 121 [some (vR 11 0), some (vI x1), some (vI x2), some (vI x3), some (vI x4), some (vI x5), some (vI x6), some (vI x7)] [vI 1] S Q) : Ev d mX11_isSo 116 [some (vR 11 0), some (vI x1), some (vI x2), some (vI x3), some (vI x4), some (vI x5), some (vI x6), some (vI x7)] [] S Q := by
  refine Ev.iconst (v := 1) dX11_isSo_116 (by decide) ?_
  refine Ev.goto (tgt := 121) dX11_isSo_117 (by decide) ?_
  exact kn
theorem bkX11_isSo_120 {d : Nat} {S : hs_T} {Q : Option av_T → hs_T → Prop} {x1 x2 x3 x4 x5 x6 x7 : Int32} (kn : Ev d mX11_isSo 121 [some (vR 11 0), some (vI x1), some (vI x2), some (vI x3), some (vI x4), some (vI x5), some (vI x6), some (vI x7)] [vI 0] S Q) : Ev d mX11_isSo 120 [some (vR 11 0), some (vI x1), some (vI x2), some (vI x3), some (vI x4), some (vI x5), some (vI x6), some (vI x7)] [] S Q := by
  refine Ev.iconst (v := 0) dX11_isSo_120 (by decide) ?_
  exact kn
theorem bkX11_isSo_121 {d : Nat} {S : hs_T} {Q : Option av_T → hs_T → Prop} {x1 x2 x3 x4 x5 x6 x7 y0 : Int32} (kn : Ev d mX11_isSo 247 [some (vR 11 0), some (vI x1), some (vI x2), some (vI x3), some (vI x4), some (vI y0), some (vI x6), some (vI x7)] [] S Q) : Ev d mX11_isSo 121 [some (vR 11 0), some (vI x1), some (vI x2), some (vI x3), some (vI x4), some (vI x5), some (vI x6), some (vI x7)] [vI y0] S Q := by
  refine Ev.istore (ls' := [some (vR 11 0), some (vI x1), some (vI x2), some (vI x3), some (vI x4), some (vI y0), some (vI x6), some (vI x7)]) dX11_isSo_121 (by decide) rfl ?_
  refine Ev.goto (tgt := 247) dX11_isSo_123 (by decide) ?_
  exact kn
theorem bkX11_isSo_126 {d : Nat} {S : hs_T} {Q : Option av_T → hs_T → Prop} {x1 x2 x3 x4 x5 x6 x7 : Int32} (kt : x5 = 0 → Ev d mX11_isSo 145 [some (vR 11 0), some (vI x1), some (vI x2), some (vI x3), some (vI x4), some (vI x5), some (vI x6), some (vI x7)] [] S Q) (kf : ¬ x5 = 0 → Ev d mX11_isSo 131 [some (vR 11 0), some (vI x1), some (vI x2), some (vI x3), some (vI x4), some (vI x5), some (vI x6), some (vI x7)] [] S Q) : Ev d mX11_isSo 126 [some (vR 11 0), some (vI x1), some (vI x2), some (vI x3), some (vI x4), some (vI x5), some (vI x6), some (vI x7)] [] S Q := by
  refine Ev.iload dX11_isSo_126 rfl ?_
  exact Ev.if_eq (tgt := 145) dX11_isSo_128 (by decide) kt kf
theorem bkX11_isSo_131 {d : Nat} {S : hs_T} {Q : Option av_T → hs_T → Prop} {P : Int32 → hs_T → Prop} {x1 x2 x3 x4 x5 x6 x7 : Int32} (hC : Ci d mX11_rises [vR 11 0, vI x7, vI x3] S P) (kk : ∀ v S', P v S' → Ev (d + 1) mX11_isSo 138 [some (vR 11 0), some (vI x1), some (vI x2), some (vI x3), some (vI x4), some (vI x5), some (vI x6), some (vI x7)] [vI v] S' Q) : Ev (d + 1) mX11_isSo 131 [some (vR 11 0), some (vI x1), some (vI x2), some (vI x3), some (vI x4), some (vI x5), some (vI x6), some (vI x7)] [] S Q := by
  refine Ev.aload_n dX11_isSo_131 rfl rfl ?_
  refine Ev.iload dX11_isSo_132 rfl ?_
  refine Ev.iload_n dX11_isSo_134 rfl rfl ?_
  exact Ev.callV (as := [vI x7, vI x3]) (rest := []) okX11_rises in_X11_rises ml_X11_159 rfl (Nat.le_of_ble_eq_true rfl) pz_11_0 (by decide) rfl rfl dX11_isSo_135 hC (fun r S' h => by obtain ⟨v, rfl, h⟩ := h; exact kk v S' h)
theorem bkX11_isSo_138 {d : Nat} {S : hs_T} {Q : Option av_T → hs_T → Prop} {x1 x2 x3 x4 x5 x6 x7 y0 : Int32} (kt : y0 = 0 → Ev d mX11_isSo 145 [some (vR 11 0), some (vI x1), some (vI x2), some (vI x3), some (vI x4), some (vI x5), some (vI x6), some (vI x7)] [] S Q) (kf : ¬ y0 = 0 → Ev d mX11_isSo 141 [some (vR 11 0), some (vI x1), some (vI x2), some (vI x3), some (vI x4), some (vI x5), some (vI x6), some (vI x7)] [] S Q) : Ev d mX11_isSo 138 [some (vR 11 0), some (vI x1), some (vI x2), some (vI x3), some (vI x4), some (vI x5), some (vI x6), some (vI x7)] [vI y0] S Q := by
  exact Ev.if_eq (tgt := 145) dX11_isSo_138 (by decide) kt kf
theorem bkX11_isSo_141 {d : Nat} {S : hs_T} {Q : Option av_T → hs_T → Prop} {x1 x2 x3 x4 x5 x6 x7 : Int32} (kn : Ev d mX11_isSo 146 [some (vR 11 0), some (vI x1), some (vI x2), some (vI x3), some (vI x4), some (vI x5), some (vI x6), some (vI x7)] [vI 1] S Q) : Ev d mX11_isSo 141 [some (vR 11 0), some (vI x1), some (vI x2), some (vI x3), some (vI x4), some (vI x5), some (vI x6), some (vI x7)] [] S Q := by
  refine Ev.iconst (v := 1) dX11_isSo_141 (by decide) ?_
  refine Ev.goto (tgt := 146) dX11_isSo_142 (by decide) ?_
  exact kn
theorem bkX11_isSo_145 {d : Nat} {S : hs_T} {Q : Option av_T → hs_T → Prop} {x1 x2 x3 x4 x5 x6 x7 : Int32} (kn : Ev d mX11_isSo 146 [some (vR 11 0), some (vI x1), some (vI x2), some (vI x3), some (vI x4), some (vI x5), some (vI x6), some (vI x7)] [vI 0] S Q) : Ev d mX11_isSo 145 [some (vR 11 0), some (vI x1), some (vI x2), some (vI x3), some (vI x4), some (vI x5), some (vI x6), some (vI x7)] [] S Q := by
  refine Ev.iconst (v := 0) dX11_isSo_145 (by decide) ?_
  exact kn
theorem bkX11_isSo_146 {d : Nat} {S : hs_T} {Q : Option av_T → hs_T → Prop} {x1 x2 x3 x4 x5 x6 x7 y0 : Int32} (kn : Ev d mX11_isSo 247 [some (vR 11 0), some (vI x1), some (vI x2), some (vI x3), some (vI x4), some (vI y0), some (vI x6), some (vI x7)] [] S Q) : Ev d mX11_isSo 146 [some (vR 11 0), some (vI x1), some (vI x2), some (vI x3), some (vI x4), some (vI x5), some (vI x6), some (vI x7)] [vI y0] S Q := by
  refine Ev.istore (ls' := [some (vR 11 0), some (vI x1), some (vI x2), some (vI x3), some (vI x4), some (vI y0), some (vI x6), some (vI x7)]) dX11_isSo_146 (by decide) rfl ?_
  refine Ev.goto (tgt := 247) dX11_isSo_148 (by decide) ?_
  exact kn
theorem bkX11_isSo_151 {d : Nat} {S : hs_T} {Q : Option av_T → hs_T → Prop} {x1 x2 x3 x4 x5 x6 x7 : Int32} (kt : x5 = 0 → Ev d mX11_isSo 170 [some (vR 11 0), some (vI x1), some (vI x2), some (vI x3), some (vI x4), some (vI x5), some (vI x6), some (vI x7)] [] S Q) (kf : ¬ x5 = 0 → Ev d mX11_isSo 156 [some (vR 11 0), some (vI x1), some (vI x2), some (vI x3), some (vI x4), some (vI x5), some (vI x6), some (vI x7)] [] S Q) : Ev d mX11_isSo 151 [some (vR 11 0), some (vI x1), some (vI x2), some (vI x3), some (vI x4), some (vI x5), some (vI x6), some (vI x7)] [] S Q := by
  refine Ev.iload dX11_isSo_151 rfl ?_
  exact Ev.if_eq (tgt := 170) dX11_isSo_153 (by decide) kt kf
theorem bkX11_isSo_156 {d : Nat} {S : hs_T} {Q : Option av_T → hs_T → Prop} {P : Int32 → hs_T → Prop} {x1 x2 x3 x4 x5 x6 x7 : Int32} (hC : Ci d mX11_falls [vR 11 0, vI x7, vI x3] S P) (kk : ∀ v S', P v S' → Ev (d + 1) mX11_isSo 163 [some (vR 11 0), some (vI x1), some (vI x2), some (vI x3), some (vI x4), some (vI x5), some (vI x6), some (vI x7)] [vI v] S' Q) : Ev (d + 1) mX11_isSo 156 [some (vR 11 0), some (vI x1), some (vI x2), some (vI x3), some (vI x4), some (vI x5), some (vI x6), some (vI x7)] [] S Q := by
  refine Ev.aload_n dX11_isSo_156 rfl rfl ?_
  refine Ev.iload dX11_isSo_157 rfl ?_
  refine Ev.iload_n dX11_isSo_159 rfl rfl ?_
  exact Ev.callV (as := [vI x7, vI x3]) (rest := []) okX11_falls in_X11_falls ml_X11_162 rfl (Nat.le_of_ble_eq_true rfl) pz_11_0 (by decide) rfl rfl dX11_isSo_160 hC (fun r S' h => by obtain ⟨v, rfl, h⟩ := h; exact kk v S' h)
theorem bkX11_isSo_163 {d : Nat} {S : hs_T} {Q : Option av_T → hs_T → Prop} {x1 x2 x3 x4 x5 x6 x7 y0 : Int32} (kt : y0 = 0 → Ev d mX11_isSo 170 [some (vR 11 0), some (vI x1), some (vI x2), some (vI x3), some (vI x4), some (vI x5), some (vI x6), some (vI x7)] [] S Q) (kf : ¬ y0 = 0 → Ev d mX11_isSo 166 [some (vR 11 0), some (vI x1), some (vI x2), some (vI x3), some (vI x4), some (vI x5), some (vI x6), some (vI x7)] [] S Q) : Ev d mX11_isSo 163 [some (vR 11 0), some (vI x1), some (vI x2), some (vI x3), some (vI x4), some (vI x5), some (vI x6), some (vI x7)] [vI y0] S Q := by
  exact Ev.if_eq (tgt := 170) dX11_isSo_163 (by decide) kt kf
theorem bkX11_isSo_166 {d : Nat} {S : hs_T} {Q : Option av_T → hs_T → Prop} {x1 x2 x3 x4 x5 x6 x7 : Int32} (kn : Ev d mX11_isSo 171 [some (vR 11 0), some (vI x1), some (vI x2), some (vI x3), some (vI x4), some (vI x5), some (vI x6), some (vI x7)] [vI 1] S Q) : Ev d mX11_isSo 166 [some (vR 11 0), some (vI x1), some (vI x2), some (vI x3), some (vI x4), some (vI x5), some (vI x6), some (vI x7)] [] S Q := by
  refine Ev.iconst (v := 1) dX11_isSo_166 (by decide) ?_
  refine Ev.goto (tgt := 171) dX11_isSo_167 (by decide) ?_
  exact kn
theorem bkX11_isSo_170 {d : Nat} {S : hs_T} {Q : Option av_T → hs_T → Prop} {x1 x2 x3 x4 x5 x6 x7 : Int32} (kn : Ev d mX11_isSo 171 [some (vR 11 0), some (vI x1), some (vI x2), some (vI x3), some (vI x4), some (vI x5), some (vI x6), some (vI x7)] [vI 0] S Q) : Ev d mX11_isSo 170 [some (vR 11 0), some (vI x1), some (vI x2), some (vI x3), some (vI x4), some (vI x5), some (vI x6), some (vI x7)] [] S Q := by
  refine Ev.iconst (v := 0) dX11_isSo_170 (by decide) ?_
  exact kn
theorem bkX11_isSo_171 {d : Nat} {S : hs_T} {Q : Option av_T → hs_T → Prop} {x1 x2 x3 x4 x5 x6 x7 y0 : Int32} (kn : Ev d mX11_isSo 247 [some (vR 11 0), some (vI x1), some (vI x2), some (vI x3), some (vI x4), some (vI y0), some (vI x6), some (vI x7)] [] S Q) : Ev d mX11_isSo 171 [some (vR 11 0), some (vI x1), some (vI x2), some (vI x3), some (vI x4), some (vI x5), some (vI x6), some (vI x7)] [vI y0] S Q := by
  refine Ev.istore (ls' := [some (vR 11 0), some (vI x1), some (vI x2), some (vI x3), some (vI x4), some (vI y0), some (vI x6), some (vI x7)]) dX11_isSo_171 (by decide) rfl ?_
  refine Ev.goto (tgt := 247) dX11_isSo_173 (by decide) ?_
  exact kn
theorem bkX11_isSo_176 {d : Nat} {S : hs_T} {Q : Option av_T → hs_T → Prop} {x1 x2 x3 x4 x5 x6 x7 : Int32} (kt : x5 = 0 → Ev d mX11_isSo 196 [some (vR 11 0), some (vI x1), some (vI x2), some (vI x3), some (vI x4), some (vI x5), some (vI x6), some (vI x7)] [] S Q) (kf : ¬ x5 = 0 → Ev d mX11_isSo 181 [some (vR 11 0), some (vI x1), some (vI x2), some (vI x3), some (vI x4), some (vI x5), some (vI x6), some (vI x7)] [] S Q) : Ev d mX11_isSo 176 [some (vR 11 0), some (vI x1), some (vI x2), some (vI x3), some (vI x4), some (vI x5), some (vI x6), some (vI x7)] [] S Q := by
  refine Ev.iload dX11_isSo_176 rfl ?_
  exact Ev.if_eq (tgt := 196) dX11_isSo_178 (by decide) kt kf
theorem bkX11_isSo_181 {d : Nat} {S : hs_T} {Q : Option av_T → hs_T → Prop} {x1 x2 x3 x4 x5 x6 x7 : Int32} (hi186 : vp_in x3 400) (kt : ¬ (S.1 1202 0 x3.toNatClampNeg) = x7 → Ev d mX11_isSo 196 [some (vR 11 0), some (vI x1), some (vI x2), some (vI x3), some (vI x4), some (vI x5), some (vI x6), some (vI x7)] [] S Q) (kf : (S.1 1202 0 x3.toNatClampNeg) = x7 → Ev d mX11_isSo 192 [some (vR 11 0), some (vI x1), some (vI x2), some (vI x3), some (vI x4), some (vI x5), some (vI x6), some (vI x7)] [] S Q) : Ev d mX11_isSo 181 [some (vR 11 0), some (vI x1), some (vI x2), some (vI x3), some (vI x4), some (vI x5), some (vI x6), some (vI x7)] [] S Q := by
  refine Ev.aload_n dX11_isSo_181 rfl rfl ?_
  refine Ev.get (v := vR 1202 0) okX11 (by decide) fl_X11_16 pz_11_0 (ff_11_2 _ _) dX11_isSo_182 ?_
  refine Ev.iload_n dX11_isSo_185 rfl rfl ?_
  refine Ev.ialoadA (a := x3.toNatClampNeg) pz_1202_0 (by decide) ak_1202 hi186 rfl dX11_isSo_186 ?_
  refine Ev.iload dX11_isSo_187 rfl ?_
  exact Ev.icmp_ne (tgt := 196) dX11_isSo_189 (by decide) kt kf
theorem bkX11_isSo_192 {d : Nat} {S : hs_T} {Q : Option av_T → hs_T → Prop} {x1 x2 x3 x4 x5 x6 x7 : Int32} (kn : Ev d mX11_isSo 197 [some (vR 11 0), some (vI x1), some (vI x2), some (vI x3), some (vI x4), some (vI x5), some (vI x6), some (vI x7)] [vI 1] S Q) : Ev d mX11_isSo 192 [some (vR 11 0), some (vI x1), some (vI x2), some (vI x3), some (vI x4), some (vI x5), some (vI x6), some (vI x7)] [] S Q := by
  refine Ev.iconst (v := 1) dX11_isSo_192 (by decide) ?_
  refine Ev.goto (tgt := 197) dX11_isSo_193 (by decide) ?_
  exact kn
theorem bkX11_isSo_196 {d : Nat} {S : hs_T} {Q : Option av_T → hs_T → Prop} {x1 x2 x3 x4 x5 x6 x7 : Int32} (kn : Ev d mX11_isSo 197 [some (vR 11 0), some (vI x1), some (vI x2), some (vI x3), some (vI x4), some (vI x5), some (vI x6), some (vI x7)] [vI 0] S Q) : Ev d mX11_isSo 196 [some (vR 11 0), some (vI x1), some (vI x2), some (vI x3), some (vI x4), some (vI x5), some (vI x6), some (vI x7)] [] S Q := by
  refine Ev.iconst (v := 0) dX11_isSo_196 (by decide) ?_
  exact kn
theorem bkX11_isSo_197 {d : Nat} {S : hs_T} {Q : Option av_T → hs_T → Prop} {x1 x2 x3 x4 x5 x6 x7 y0 : Int32} (kn : Ev d mX11_isSo 247 [some (vR 11 0), some (vI x1), some (vI x2), some (vI x3), some (vI x4), some (vI y0), some (vI x6), some (vI x7)] [] S Q) : Ev d mX11_isSo 197 [some (vR 11 0), some (vI x1), some (vI x2), some (vI x3), some (vI x4), some (vI x5), some (vI x6), some (vI x7)] [vI y0] S Q := by
  refine Ev.istore (ls' := [some (vR 11 0), some (vI x1), some (vI x2), some (vI x3), some (vI x4), some (vI y0), some (vI x6), some (vI x7)]) dX11_isSo_197 (by decide) rfl ?_
  refine Ev.goto (tgt := 247) dX11_isSo_199 (by decide) ?_
  exact kn
theorem bkX11_isSo_202 {d : Nat} {S : hs_T} {Q : Option av_T → hs_T → Prop} {x1 x2 x3 x4 x5 x6 x7 : Int32} (kt : x5 = 0 → Ev d mX11_isSo 222 [some (vR 11 0), some (vI x1), some (vI x2), some (vI x3), some (vI x4), some (vI x5), some (vI x6), some (vI x7)] [] S Q) (kf : ¬ x5 = 0 → Ev d mX11_isSo 207 [some (vR 11 0), some (vI x1), some (vI x2), some (vI x3), some (vI x4), some (vI x5), some (vI x6), some (vI x7)] [] S Q) : Ev d mX11_isSo 202 [some (vR 11 0), some (vI x1), some (vI x2), some (vI x3), some (vI x4), some (vI x5), some (vI x6), some (vI x7)] [] S Q := by
  refine Ev.iload dX11_isSo_202 rfl ?_
  exact Ev.if_eq (tgt := 222) dX11_isSo_204 (by decide) kt kf
theorem bkX11_isSo_207 {d : Nat} {S : hs_T} {Q : Option av_T → hs_T → Prop} {x1 x2 x3 x4 x5 x6 x7 : Int32} (hi212 : vp_in x3 400) (kt : (S.1 1202 0 x3.toNatClampNeg) = x7 → Ev d mX11_isSo 222 [some (vR 11 0), some (vI x1), some (vI x2), some (vI x3), some (vI x4), some (vI x5), some (vI x6), some (vI x7)] [] S Q) (kf : ¬ (S.1 1202 0 x3.toNatClampNeg) = x7 → Ev d mX11_isSo 218 [some (vR 11 0), some (vI x1), some (vI x2), some (vI x3), some (vI x4), some (vI x5), some (vI x6), some (vI x7)] [] S Q) : Ev d mX11_isSo 207 [some (vR 11 0), some (vI x1), some (vI x2), some (vI x3), some (vI x4), some (vI x5), some (vI x6), some (vI x7)] [] S Q := by
  refine Ev.aload_n dX11_isSo_207 rfl rfl ?_
  refine Ev.get (v := vR 1202 0) okX11 (by decide) fl_X11_16 pz_11_0 (ff_11_2 _ _) dX11_isSo_208 ?_
  refine Ev.iload_n dX11_isSo_211 rfl rfl ?_
  refine Ev.ialoadA (a := x3.toNatClampNeg) pz_1202_0 (by decide) ak_1202 hi212 rfl dX11_isSo_212 ?_
  refine Ev.iload dX11_isSo_213 rfl ?_
  exact Ev.icmp_eq (tgt := 222) dX11_isSo_215 (by decide) kt kf
theorem bkX11_isSo_218 {d : Nat} {S : hs_T} {Q : Option av_T → hs_T → Prop} {x1 x2 x3 x4 x5 x6 x7 : Int32} (kn : Ev d mX11_isSo 223 [some (vR 11 0), some (vI x1), some (vI x2), some (vI x3), some (vI x4), some (vI x5), some (vI x6), some (vI x7)] [vI 1] S Q) : Ev d mX11_isSo 218 [some (vR 11 0), some (vI x1), some (vI x2), some (vI x3), some (vI x4), some (vI x5), some (vI x6), some (vI x7)] [] S Q := by
  refine Ev.iconst (v := 1) dX11_isSo_218 (by decide) ?_
  refine Ev.goto (tgt := 223) dX11_isSo_219 (by decide) ?_
  exact kn
theorem bkX11_isSo_222 {d : Nat} {S : hs_T} {Q : Option av_T → hs_T → Prop} {x1 x2 x3 x4 x5 x6 x7 : Int32} (kn : Ev d mX11_isSo 223 [some (vR 11 0), some (vI x1), some (vI x2), some (vI x3), some (vI x4), some (vI x5), some (vI x6), some (vI x7)] [vI 0] S Q) : Ev d mX11_isSo 222 [some (vR 11 0), some (vI x1), some (vI x2), some (vI x3), some (vI x4), some (vI x5), some (vI x6), some (vI x7)] [] S Q := by
  refine Ev.iconst (v := 0) dX11_isSo_222 (by decide) ?_
  exact kn
theorem bkX11_isSo_223 {d : Nat} {S : hs_T} {Q : Option av_T → hs_T → Prop} {x1 x2 x3 x4 x5 x6 x7 y0 : Int32} (kn : Ev d mX11_isSo 247 [some (vR 11 0), some (vI x1), some (vI x2), some (vI x3), some (vI x4), some (vI y0), some (vI x6), some (vI x7)] [] S Q) : Ev d mX11_isSo 223 [some (vR 11 0), some (vI x1), some (vI x2), some (vI x3), some (vI x4), some (vI x5), some (vI x6), some (vI x7)] [vI y0] S Q := by
  refine Ev.istore (ls' := [some (vR 11 0), some (vI x1), some (vI x2), some (vI x3), some (vI x4), some (vI y0), some (vI x6), some (vI x7)]) dX11_isSo_223 (by decide) rfl ?_
  refine Ev.goto (tgt := 247) dX11_isSo_225 (by decide) ?_
  exact kn
theorem bkX11_isSo_228 {d : Nat} {S : hs_T} {Q : Option av_T → hs_T → Prop} {x1 x2 x3 x4 x5 x6 x7 : Int32} (kt : x5 = 0 → Ev d mX11_isSo 244 [some (vR 11 0), some (vI x1), some (vI x2), some (vI x3), some (vI x4), some (vI x5), some (vI x6), some (vI x7)] [] S Q) (kf : ¬ x5 = 0 → Ev d mX11_isSo 233 [some (vR 11 0), some (vI x1), some (vI x2), some (vI x3), some (vI x4), some (vI x5), some (vI x6), some (vI x7)] [] S Q) : Ev d mX11_isSo 228 [some (vR 11 0), some (vI x1), some (vI x2), some (vI x3), some (vI x4), some (vI x5), some (vI x6), some (vI x7)] [] S Q := by
  refine Ev.iload dX11_isSo_228 rfl ?_
  exact Ev.if_eq (tgt := 244) dX11_isSo_230 (by decide) kt kf
theorem bkX11_isSo_233 {d : Nat} {S : hs_T} {Q : Option av_T → hs_T → Prop} {x1 x2 x3 x4 x5 x6 x7 : Int32} (kt : x4 < x7 → Ev d mX11_isSo 244 [some (vR 11 0), some (vI x1), some (vI x2), some (vI x3), some (vI x4), some (vI x5), some (vI x6), some (vI x7)] [] S Q) (kf : ¬ x4 < x7 → Ev d mX11_isSo 240 [some (vR 11 0), some (vI x1), some (vI x2), some (vI x3), some (vI x4), some (vI x5), some (vI x6), some (vI x7)] [] S Q) : Ev d mX11_isSo 233 [some (vR 11 0), some (vI x1), some (vI x2), some (vI x3), some (vI x4), some (vI x5), some (vI x6), some (vI x7)] [] S Q := by
  refine Ev.iload dX11_isSo_233 rfl ?_
  refine Ev.iload dX11_isSo_235 rfl ?_
  exact Ev.icmp_lt (tgt := 244) dX11_isSo_237 (by decide) kt kf
theorem bkX11_isSo_240 {d : Nat} {S : hs_T} {Q : Option av_T → hs_T → Prop} {x1 x2 x3 x4 x5 x6 x7 : Int32} (kn : Ev d mX11_isSo 245 [some (vR 11 0), some (vI x1), some (vI x2), some (vI x3), some (vI x4), some (vI x5), some (vI x6), some (vI x7)] [vI 1] S Q) : Ev d mX11_isSo 240 [some (vR 11 0), some (vI x1), some (vI x2), some (vI x3), some (vI x4), some (vI x5), some (vI x6), some (vI x7)] [] S Q := by
  refine Ev.iconst (v := 1) dX11_isSo_240 (by decide) ?_
  refine Ev.goto (tgt := 245) dX11_isSo_241 (by decide) ?_
  exact kn
theorem bkX11_isSo_244 {d : Nat} {S : hs_T} {Q : Option av_T → hs_T → Prop} {x1 x2 x3 x4 x5 x6 x7 : Int32} (kn : Ev d mX11_isSo 245 [some (vR 11 0), some (vI x1), some (vI x2), some (vI x3), some (vI x4), some (vI x5), some (vI x6), some (vI x7)] [vI 0] S Q) : Ev d mX11_isSo 244 [some (vR 11 0), some (vI x1), some (vI x2), some (vI x3), some (vI x4), some (vI x5), some (vI x6), some (vI x7)] [] S Q := by
  refine Ev.iconst (v := 0) dX11_isSo_244 (by decide) ?_
  exact kn
theorem bkX11_isSo_245 {d : Nat} {S : hs_T} {Q : Option av_T → hs_T → Prop} {x1 x2 x3 x4 x5 x6 x7 y0 : Int32} (kn : Ev d mX11_isSo 247 [some (vR 11 0), some (vI x1), some (vI x2), some (vI x3), some (vI x4), some (vI y0), some (vI x6), some (vI x7)] [] S Q) : Ev d mX11_isSo 245 [some (vR 11 0), some (vI x1), some (vI x2), some (vI x3), some (vI x4), some (vI x5), some (vI x6), some (vI x7)] [vI y0] S Q := by
  refine Ev.istore (ls' := [some (vR 11 0), some (vI x1), some (vI x2), some (vI x3), some (vI x4), some (vI y0), some (vI x6), some (vI x7)]) dX11_isSo_245 (by decide) rfl ?_
  exact kn
theorem bkX11_isSo_247 {d : Nat} {S : hs_T} {Q : Option av_T → hs_T → Prop} {x1 x2 x3 x4 x5 x6 x7 : Int32} (kn : Ev d mX11_isSo 6 [some (vR 11 0), some (vI x1), some (vI x2), some (vI x3), some (vI x4), some (vI x5), some (vI (x6 + 1)), some (vI x7)] [] S Q) : Ev d mX11_isSo 247 [some (vR 11 0), some (vI x1), some (vI x2), some (vI x3), some (vI x4), some (vI x5), some (vI x6), some (vI x7)] [] S Q := by
  refine Ev.iinc (v := (x6 + 1)) (ls' := [some (vR 11 0), some (vI x1), some (vI x2), some (vI x3), some (vI x4), some (vI x5), some (vI (x6 + 1)), some (vI x7)]) dX11_isSo_247 rfl rfl (by decide) rfl ?_
  refine Ev.goto (tgt := 6) dX11_isSo_250 (by decide) ?_
  exact kn
theorem bkX11_isSo_253 {d : Nat} {S : hs_T} {Q : Option av_T → hs_T → Prop} {x1 x2 x3 x4 x5 x6 : Int32} {o7 : Option av_T} (hn255 : narrow .boolean (.int x5) = .int x5) (hq : Q (some (vI x5)) S) : Ev d mX11_isSo 253 [some (vR 11 0), some (vI x1), some (vI x2), some (vI x3), some (vI x4), some (vI x5), some (vI x6), o7] [] S Q := by
  refine Ev.iload dX11_isSo_253 rfl ?_
  exact Ev.iret dX11_isSo_255 rfl hn255 hq
/-! EightWiresModel.enters(II)V -/
theorem bkX11_enters_0 {d : Nat} {S : hs_T} {Q : Option av_T → hs_T → Prop} {x1 x2 : Int32} (hq : Q none (sk_ (sk_ (sk_ (sk_ (sk_ S 11 0 (upd (S.1 11 0) 15 x1)) 11 0 (upd ((sk_ S 11 0 (upd (S.1 11 0) 15 x1)).1 11 0) 19 x2)) 1220 0 (upd ((sk_ (sk_ S 11 0 (upd (S.1 11 0) 15 x1)) 11 0 (upd ((sk_ S 11 0 (upd (S.1 11 0) 15 x1)).1 11 0) 19 x2)).1 1220 0) 0 0)) 1220 0 (upd ((sk_ (sk_ (sk_ S 11 0 (upd (S.1 11 0) 15 x1)) 11 0 (upd ((sk_ S 11 0 (upd (S.1 11 0) 15 x1)).1 11 0) 19 x2)) 1220 0 (upd ((sk_ (sk_ S 11 0 (upd (S.1 11 0) 15 x1)) 11 0 (upd ((sk_ S 11 0 (upd (S.1 11 0) 15 x1)).1 11 0) 19 x2)).1 1220 0) 0 0)).1 1220 0) 1 0)) 1220 0 (upd ((sk_ (sk_ (sk_ (sk_ S 11 0 (upd (S.1 11 0) 15 x1)) 11 0 (upd ((sk_ S 11 0 (upd (S.1 11 0) 15 x1)).1 11 0) 19 x2)) 1220 0 (upd ((sk_ (sk_ S 11 0 (upd (S.1 11 0) 15 x1)) 11 0 (upd ((sk_ S 11 0 (upd (S.1 11 0) 15 x1)).1 11 0) 19 x2)).1 1220 0) 0 0)) 1220 0 (upd ((sk_ (sk_ (sk_ S 11 0 (upd (S.1 11 0) 15 x1)) 11 0 (upd ((sk_ S 11 0 (upd (S.1 11 0) 15 x1)).1 11 0) 19 x2)) 1220 0 (upd ((sk_ (sk_ S 11 0 (upd (S.1 11 0) 15 x1)) 11 0 (upd ((sk_ S 11 0 (upd (S.1 11 0) 15 x1)).1 11 0) 19 x2)).1 1220 0) 0 0)).1 1220 0) 1 0)).1 1220 0) 2 0))) : Ev d mX11_enters 0 [some (vR 11 0), some (vI x1), some (vI x2)] [] S Q := by
  refine Ev.aload_n dX11_enters_0 rfl rfl ?_
  refine Ev.iload_n dX11_enters_1 rfl rfl ?_
  refine Ev.put okX11 (by decide) fl_X11_165 pz_11_0 (by decide) rfl rfl rfl rfl dX11_enters_2 ?_
  refine Ev.aload_n dX11_enters_5 rfl rfl ?_
  refine Ev.iload_n dX11_enters_6 rfl rfl ?_
  refine Ev.put okX11 (by decide) fl_X11_168 pz_11_0 (by decide) rfl rfl rfl rfl dX11_enters_7 ?_
  refine Ev.aload_n dX11_enters_10 rfl rfl ?_
  refine Ev.get (v := vR 1220 0) okX11 (by decide) fl_X11_28 pz_11_0 (ff_11_20 _ _) dX11_enters_11 ?_
  refine Ev.iconst (v := 0) dX11_enters_14 (by decide) ?_
  refine Ev.iconst (v := 0) dX11_enters_15 (by decide) ?_
  refine Ev.iastoreA (a := 0) pz_1220_0 (by decide) ak_1220 (by unfold vp_in; decide) (by decide) rfl dX11_enters_16 ?_
  refine Ev.aload_n dX11_enters_17 rfl rfl ?_
  refine Ev.get (v := vR 1220 0) okX11 (by decide) fl_X11_28 pz_11_0 (ff_11_20 _ _) dX11_enters_18 ?_
  refine Ev.iconst (v := 1) dX11_enters_21 (by decide) ?_
  refine Ev.iconst (v := 0) dX11_enters_22 (by decide) ?_
  refine Ev.iastoreA (a := 1) pz_1220_0 (by decide) ak_1220 (by unfold vp_in; decide) (by decide) rfl dX11_enters_23 ?_
  refine Ev.aload_n dX11_enters_24 rfl rfl ?_
  refine Ev.get (v := vR 1220 0) okX11 (by decide) fl_X11_28 pz_11_0 (ff_11_20 _ _) dX11_enters_25 ?_
  refine Ev.iconst (v := 2) dX11_enters_28 (by decide) ?_
  refine Ev.iconst (v := 0) dX11_enters_29 (by decide) ?_
  refine Ev.iastoreA (a := 2) pz_1220_0 (by decide) ak_1220 (by unfold vp_in; decide) (by decide) rfl dX11_enters_30 ?_
  exact Ev.vret dX11_enters_31 rfl hq
/-! EightWiresModel.sample(I)V -/
theorem bkX11_sample_0 {d : Nat} {S : hs_T} {Q : Option av_T → hs_T → Prop} {x1 : Int32} {o2 o3 o4 o5 : Option av_T} (kn : Ev d mX11_sample 20 [some (vR 11 0), some (vI x1), some (vI (S.1 11 0 15)), some (vI 1), some (vI 0), o5] [] (sk_ S 11 0 (upd (S.1 11 0) 18 ((S.1 11 0 18) + 1))) Q) : Ev d mX11_sample 0 [some (vR 11 0), some (vI x1), o2, o3, o4, o5] [] S Q := by
  refine Ev.aload_n dX11_sample_0 rfl rfl ?_
  refine Ev.get (v := vI (S.1 11 0 15)) okX11 (by decide) fl_X11_165 pz_11_0 (ff_11_15 _ _) dX11_sample_1 ?_
  refine Ev.istore_n (ls' := [some (vR 11 0), some (vI x1), some (vI (S.1 11 0 15)), o3, o4, o5]) dX11_sample_4 rfl (by decide) rfl ?_
  refine Ev.iconst (v := 1) dX11_sample_5 (by decide) ?_
  refine Ev.istore_n (ls' := [some (vR 11 0), some (vI x1), some (vI (S.1 11 0 15)), some (vI 1), o4, o5]) dX11_sample_6 rfl (by decide) rfl ?_
  refine Ev.aload_n dX11_sample_7 rfl rfl ?_
  refine Ev.dup dX11_sample_8 rfl ?_
  refine Ev.get (v := vI (S.1 11 0 18)) okX11 (by decide) fl_X11_171 pz_11_0 (ff_11_18 _ _) dX11_sample_9 ?_
  refine Ev.iconst (v := 1) dX11_sample_12 (by decide) ?_
  refine Ev.iadd dX11_sample_13 ?_
  refine Ev.put okX11 (by decide) fl_X11_171 pz_11_0 (by decide) rfl rfl rfl rfl dX11_sample_14 ?_
  refine Ev.iconst (v := 0) dX11_sample_17 (by decide) ?_
  refine Ev.istore (ls' := [some (vR 11 0), some (vI x1), some (vI (S.1 11 0 15)), some (vI 1), some (vI 0), o5]) dX11_sample_18 (by decide) rfl ?_
  exact kn
theorem bkX11_sample_20 {d : Nat} {S : hs_T} {Q : Option av_T → hs_T → Prop} {x1 x2 x3 x4 : Int32} {o5 : Option av_T} (hi31 : vp_in (222 + x2) 234) (kt : (S.1 1200 0 (222 + x2).toNatClampNeg) ≤ x4 → Ev d mX11_sample 169 [some (vR 11 0), some (vI x1), some (vI x2), some (vI x3), some (vI x4), o5] [] S Q) (kf : ¬ (S.1 1200 0 (222 + x2).toNatClampNeg) ≤ x4 → Ev d mX11_sample 35 [some (vR 11 0), some (vI x1), some (vI x2), some (vI x3), some (vI x4), o5] [] S Q) : Ev d mX11_sample 20 [some (vR 11 0), some (vI x1), some (vI x2), some (vI x3), some (vI x4), o5] [] S Q := by
  refine Ev.iload dX11_sample_20 rfl ?_
  refine Ev.aload_n dX11_sample_22 rfl rfl ?_
  refine Ev.get (v := vR 1200 0) okX11 (by decide) fl_X11_7 pz_11_0 (ff_11_0 _ _) dX11_sample_23 ?_
  refine Ev.sipush (v := 222) dX11_sample_26 (by decide) ?_
  refine Ev.iload_n dX11_sample_29 rfl rfl ?_
  refine Ev.iadd dX11_sample_30 ?_
  refine Ev.ialoadA (a := (222 + x2).toNatClampNeg) pz_1200_0 (by decide) ak_1200 hi31 rfl dX11_sample_31 ?_
  exact Ev.icmp_ge (tgt := 169) dX11_sample_32 (by decide) kt kf
theorem bkX11_sample_35 {d : Nat} {S : hs_T} {Q : Option av_T → hs_T → Prop} {x1 x2 x3 x4 : Int32} {o5 : Option av_T} (kt : x3 = 0 → Ev d mX11_sample 169 [some (vR 11 0), some (vI x1), some (vI x2), some (vI x3), some (vI x4), o5] [] S Q) (kf : ¬ x3 = 0 → Ev d mX11_sample 39 [some (vR 11 0), some (vI x1), some (vI x2), some (vI x3), some (vI x4), o5] [] S Q) : Ev d mX11_sample 35 [some (vR 11 0), some (vI x1), some (vI x2), some (vI x3), some (vI x4), o5] [] S Q := by
  refine Ev.iload_n dX11_sample_35 rfl rfl ?_
  exact Ev.if_eq (tgt := 169) dX11_sample_36 (by decide) kt kf
theorem bkX11_sample_39 {d : Nat} {S : hs_T} {Q : Option av_T → hs_T → Prop} {P : Int32 → hs_T → Prop} {x1 x2 x3 x4 : Int32} {o5 : Option av_T} (hi60 : vp_in (0 + ((3 * x2) + x4)) 234) (hC : Ci d mX11_isSo [vR 11 0, vI (3 * ((3 * x2) + x4)), vI (S.1 1200 0 (0 + ((3 * x2) + x4)).toNatClampNeg), vI x1, vI (x1 - (S.1 11 0 19))] S P) (kk : ∀ v S', P v S' → Ev (d + 1) mX11_sample 71 [some (vR 11 0), some (vI x1), some (vI x2), some (vI x3), some (vI x4), some (vI ((3 * x2) + x4))] [vI v] S' Q) : Ev (d + 1) mX11_sample 39 [some (vR 11 0), some (vI x1), some (vI x2), some (vI x3), some (vI x4), o5] [] S Q := by
  refine Ev.iconst (v := 3) dX11_sample_39 (by decide) ?_
  refine Ev.iload_n dX11_sample_40 rfl rfl ?_
  refine Ev.imul dX11_sample_41 ?_
  refine Ev.iload dX11_sample_42 rfl ?_
  refine Ev.iadd dX11_sample_44 ?_
  refine Ev.istore (ls' := [some (vR 11 0), some (vI x1), some (vI x2), some (vI x3), some (vI x4), some (vI ((3 * x2) + x4))]) dX11_sample_45 (by decide) rfl ?_
  refine Ev.aload_n dX11_sample_47 rfl rfl ?_
  refine Ev.iconst (v := 3) dX11_sample_48 (by decide) ?_
  refine Ev.iload dX11_sample_49 rfl ?_
  refine Ev.imul dX11_sample_51 ?_
  refine Ev.aload_n dX11_sample_52 rfl rfl ?_
  refine Ev.get (v := vR 1200 0) okX11 (by decide) fl_X11_7 pz_11_0 (ff_11_0 _ _) dX11_sample_53 ?_
  refine Ev.iconst (v := 0) dX11_sample_56 (by decide) ?_
  refine Ev.iload dX11_sample_57 rfl ?_
  refine Ev.iadd dX11_sample_59 ?_
  refine Ev.ialoadA (a := (0 + ((3 * x2) + x4)).toNatClampNeg) pz_1200_0 (by decide) ak_1200 hi60 rfl dX11_sample_60 ?_
  refine Ev.iload_n dX11_sample_61 rfl rfl ?_
  refine Ev.iload_n dX11_sample_62 rfl rfl ?_
  refine Ev.aload_n dX11_sample_63 rfl rfl ?_
  refine Ev.get (v := vI (S.1 11 0 19)) okX11 (by decide) fl_X11_168 pz_11_0 (ff_11_19 _ _) dX11_sample_64 ?_
  refine Ev.isub dX11_sample_67 ?_
  exact Ev.callV (as := [vI (3 * ((3 * x2) + x4)), vI (S.1 1200 0 (0 + ((3 * x2) + x4)).toNatClampNeg), vI x1, vI (x1 - (S.1 11 0 19))]) (rest := []) okX11_isSo in_X11_isSo ml_X11_174 rfl (Nat.le_of_ble_eq_true rfl) pz_11_0 (by decide) rfl rfl dX11_sample_68 hC (fun r S' h => by obtain ⟨v, rfl, h⟩ := h; exact kk v S' h)
theorem bkX11_sample_71 {d : Nat} {S : hs_T} {Q : Option av_T → hs_T → Prop} {x1 x2 x3 x4 x5 y0 : Int32} (kt : y0 = 0 → Ev d mX11_sample 163 [some (vR 11 0), some (vI x1), some (vI x2), some (vI x3), some (vI x4), some (vI x5)] [] S Q) (kf : ¬ y0 = 0 → Ev d mX11_sample 74 [some (vR 11 0), some (vI x1), some (vI x2), some (vI x3), some (vI x4), some (vI x5)] [] S Q) : Ev d mX11_sample 71 [some (vR 11 0), some (vI x1), some (vI x2), some (vI x3), some (vI x4), some (vI x5)] [vI y0] S Q := by
  exact Ev.if_eq (tgt := 163) dX11_sample_71 (by decide) kt kf
theorem bkX11_sample_74 {d : Nat} {S : hs_T} {Q : Option av_T → hs_T → Prop} {x1 x2 x3 x4 x5 : Int32} (hi81 : vp_in x4 3) (hi101 : vp_in (24 + x5) 234) (kt : ¬ ((sk_ S 1220 0 (upd (S.1 1220 0) x4.toNatClampNeg ((S.1 1220 0 x4.toNatClampNeg) + 1))).1 1220 0 x4.toNatClampNeg) = ((sk_ S 1220 0 (upd (S.1 1220 0) x4.toNatClampNeg ((S.1 1220 0 x4.toNatClampNeg) + 1))).1 1200 0 (24 + x5).toNatClampNeg) → Ev d mX11_sample 163 [some (vR 11 0), some (vI x1), some (vI x2), some (vI x3), some (vI x4), some (vI x5)] [] (sk_ S 1220 0 (upd (S.1 1220 0) x4.toNatClampNeg ((S.1 1220 0 x4.toNatClampNeg) + 1))) Q) (kf : ((sk_ S 1220 0 (upd (S.1 1220 0) x4.toNatClampNeg ((S.1 1220 0 x4.toNatClampNeg) + 1))).1 1220 0 x4.toNatClampNeg) = ((sk_ S 1220 0 (upd (S.1 1220 0) x4.toNatClampNeg ((S.1 1220 0 x4.toNatClampNeg) + 1))).1 1200 0 (24 + x5).toNatClampNeg) → Ev d mX11_sample 105 [some (vR 11 0), some (vI x1), some (vI x2), some (vI x3), some (vI x4), some (vI x5)] [] (sk_ S 1220 0 (upd (S.1 1220 0) x4.toNatClampNeg ((S.1 1220 0 x4.toNatClampNeg) + 1))) Q) : Ev d mX11_sample 74 [some (vR 11 0), some (vI x1), some (vI x2), some (vI x3), some (vI x4), some (vI x5)] [] S Q := by
  refine Ev.aload_n dX11_sample_74 rfl rfl ?_
  refine Ev.get (v := vR 1220 0) okX11 (by decide) fl_X11_28 pz_11_0 (ff_11_20 _ _) dX11_sample_75 ?_
  refine Ev.iload dX11_sample_78 rfl ?_
  refine Ev.dup2 dX11_sample_80 rfl rfl ?_
  refine Ev.ialoadA (a := x4.toNatClampNeg) pz_1220_0 (by decide) ak_1220 hi81 rfl dX11_sample_81 ?_
  refine Ev.iconst (v := 1) dX11_sample_82 (by decide) ?_
  refine Ev.iadd dX11_sample_83 ?_
  refine Ev.iastoreA (a := x4.toNatClampNeg) pz_1220_0 (by decide) ak_1220 hi81 rfl rfl dX11_sample_84 ?_
  refine Ev.aload_n dX11_sample_85 rfl rfl ?_
  refine Ev.get (v := vR 1220 0) okX11 (by decide) fl_X11_28 pz_11_0 (ff_11_20 _ _) dX11_sample_86 ?_
  refine Ev.iload dX11_sample_89 rfl ?_
  refine Ev.ialoadA (a := x4.toNatClampNeg) pz_1220_0 (by decide) ak_1220 hi81 rfl dX11_sample_91 ?_
  refine Ev.aload_n dX11_sample_92 rfl rfl ?_
  refine Ev.get (v := vR 1200 0) okX11 (by decide) fl_X11_7 pz_11_0 (ff_11_0 _ _) dX11_sample_93 ?_
  refine Ev.bipush (v := 24) dX11_sample_96 (by decide) ?_
  refine Ev.iload dX11_sample_98 rfl ?_
  refine Ev.iadd dX11_sample_100 ?_
  refine Ev.ialoadA (a := (24 + x5).toNatClampNeg) pz_1200_0 (by decide) ak_1200 hi101 rfl dX11_sample_101 ?_
  exact Ev.icmp_ne (tgt := 163) dX11_sample_102 (by decide) kt kf
theorem bkX11_sample_105 {d : Nat} {S : hs_T} {Q : Option av_T → hs_T → Prop} {x1 x2 x3 x4 x5 : Int32} (hi116 : vp_in (48 + x5) 234) (kt : ¬ (S.1 1200 0 (48 + x5).toNatClampNeg) = 8 → Ev d mX11_sample 136 [some (vR 11 0), some (vI x1), some (vI x2), some (vI 0), some (vI x4), some (vI x5)] [] S Q) (kf : (S.1 1200 0 (48 + x5).toNatClampNeg) = 8 → Ev d mX11_sample 122 [some (vR 11 0), some (vI x1), some (vI x2), some (vI 0), some (vI x4), some (vI x5)] [] S Q) : Ev d mX11_sample 105 [some (vR 11 0), some (vI x1), some (vI x2), some (vI x3), some (vI x4), some (vI x5)] [] S Q := by
  refine Ev.iconst (v := 0) dX11_sample_105 (by decide) ?_
  refine Ev.istore_n (ls' := [some (vR 11 0), some (vI x1), some (vI x2), some (vI 0), some (vI x4), some (vI x5)]) dX11_sample_106 rfl (by decide) rfl ?_
  refine Ev.aload_n dX11_sample_107 rfl rfl ?_
  refine Ev.get (v := vR 1200 0) okX11 (by decide) fl_X11_7 pz_11_0 (ff_11_0 _ _) dX11_sample_108 ?_
  refine Ev.bipush (v := 48) dX11_sample_111 (by decide) ?_
  refine Ev.iload dX11_sample_113 rfl ?_
  refine Ev.iadd dX11_sample_115 ?_
  refine Ev.ialoadA (a := (48 + x5).toNatClampNeg) pz_1200_0 (by decide) ak_1200 hi116 rfl dX11_sample_116 ?_
  refine Ev.bipush (v := 8) dX11_sample_117 (by decide) ?_
  exact Ev.icmp_ne (tgt := 136) dX11_sample_119 (by decide) kt kf
theorem bkX11_sample_122 {d : Nat} {S : hs_T} {Q : Option av_T → hs_T → Prop} {x1 x2 x3 x4 x5 : Int32} (kn : Ev d mX11_sample 163 [some (vR 11 0), some (vI x1), some (vI x2), some (vI x3), some (vI x4), some (vI x5)] [] (sk_ (sk_ S 11 0 (upd (S.1 11 0) 16 x1)) 11 0 (upd ((sk_ S 11 0 (upd (S.1 11 0) 16 x1)).1 11 0) 15 8)) Q) : Ev d mX11_sample 122 [some (vR 11 0), some (vI x1), some (vI x2), some (vI x3), some (vI x4), some (vI x5)] [] S Q := by
  refine Ev.aload_n dX11_sample_122 rfl rfl ?_
  refine Ev.iload_n dX11_sample_123 rfl rfl ?_
  refine Ev.put okX11 (by decide) fl_X11_178 pz_11_0 (by decide) rfl rfl rfl rfl dX11_sample_124 ?_
  refine Ev.aload_n dX11_sample_127 rfl rfl ?_
  refine Ev.bipush (v := 8) dX11_sample_128 (by decide) ?_
  refine Ev.put okX11 (by decide) fl_X11_165 pz_11_0 (by decide) rfl rfl rfl rfl dX11_sample_130 ?_
  refine Ev.goto (tgt := 163) dX11_sample_133 (by decide) ?_
  exact kn
theorem bkX11_sample_136 {d : Nat} {S : hs_T} {Q : Option av_T → hs_T → Prop} {P : hs_T → Prop} {x1 x2 x3 x4 x5 : Int32} (hi146 : vp_in (48 + x5) 234) (hC : Cv d mX11_enters [vR 11 0, vI (S.1 1200 0 (48 + x5).toNatClampNeg), vI (x1 + 1)] S P) (kk : ∀ S', P S' → Ev (d + 1) mX11_sample 153 [some (vR 11 0), some (vI x1), some (vI x2), some (vI x3), some (vI x4), some (vI x5)] [] S' Q) : Ev (d + 1) mX11_sample 136 [some (vR 11 0), some (vI x1), some (vI x2), some (vI x3), some (vI x4), some (vI x5)] [] S Q := by
  refine Ev.aload_n dX11_sample_136 rfl rfl ?_
  refine Ev.aload_n dX11_sample_137 rfl rfl ?_
  refine Ev.get (v := vR 1200 0) okX11 (by decide) fl_X11_7 pz_11_0 (ff_11_0 _ _) dX11_sample_138 ?_
  refine Ev.bipush (v := 48) dX11_sample_141 (by decide) ?_
  refine Ev.iload dX11_sample_143 rfl ?_
  refine Ev.iadd dX11_sample_145 ?_
  refine Ev.ialoadA (a := (48 + x5).toNatClampNeg) pz_1200_0 (by decide) ak_1200 hi146 rfl dX11_sample_146 ?_
  refine Ev.iload_n dX11_sample_147 rfl rfl ?_
  refine Ev.iconst (v := 1) dX11_sample_148 (by decide) ?_
  refine Ev.iadd dX11_sample_149 ?_
  exact Ev.callV (as := [vI (S.1 1200 0 (48 + x5).toNatClampNeg), vI (x1 + 1)]) (rest := []) okX11_enters in_X11_enters ml_X11_181 rfl (Nat.le_of_ble_eq_true rfl) pz_11_0 (by decide) rfl rfl dX11_sample_150 hC (fun r S' h => by obtain ⟨rfl, h⟩ := h; exact kk S' h)
theorem bkX11_sample_153 {d : Nat} {S : hs_T} {Q : Option av_T → hs_T → Prop} {x1 x2 x3 x4 x5 : Int32} (kn : Ev d mX11_sample 163 [some (vR 11 0), some (vI x1), some (vI x2), some (vI x3), some (vI x4), some (vI x5)] [] (sk_ S 11 0 (upd (S.1 11 0) 17 ((S.1 11 0 17) + 1))) Q) : Ev d mX11_sample 153 [some (vR 11 0), some (vI x1), some (vI x2), some (vI x3), some (vI x4), some (vI x5)] [] S Q := by
  refine Ev.aload_n dX11_sample_153 rfl rfl ?_
  refine Ev.dup dX11_sample_154 rfl ?_
  refine Ev.get (v := vI (S.1 11 0 17)) okX11 (by decide) fl_X11_185 pz_11_0 (ff_11_17 _ _) dX11_sample_155 ?_
  refine Ev.iconst (v := 1) dX11_sample_158 (by decide) ?_
  refine Ev.iadd dX11_sample_159 ?_
  refine Ev.put okX11 (by decide) fl_X11_185 pz_11_0 (by decide) rfl rfl rfl rfl dX11_sample_160 ?_
  exact kn
theorem bkX11_sample_163 {d : Nat} {S : hs_T} {Q : Option av_T → hs_T → Prop} {x1 x2 x3 x4 x5 : Int32} (kn : Ev d mX11_sample 20 [some (vR 11 0), some (vI x1), some (vI x2), some (vI x3), some (vI (x4 + 1)), some (vI x5)] [] S Q) : Ev d mX11_sample 163 [some (vR 11 0), some (vI x1), some (vI x2), some (vI x3), some (vI x4), some (vI x5)] [] S Q := by
  refine Ev.iinc (v := (x4 + 1)) (ls' := [some (vR 11 0), some (vI x1), some (vI x2), some (vI x3), some (vI (x4 + 1)), some (vI x5)]) dX11_sample_163 rfl rfl (by decide) rfl ?_
  refine Ev.goto (tgt := 20) dX11_sample_166 (by decide) ?_
  exact kn
theorem bkX11_sample_169 {d : Nat} {S : hs_T} {Q : Option av_T → hs_T → Prop} {x1 x2 x3 x4 : Int32} {o5 : Option av_T} (hq : Q none S) : Ev d mX11_sample 169 [some (vR 11 0), some (vI x1), some (vI x2), some (vI x3), some (vI x4), o5] [] S Q := by
  exact Ev.vret dX11_sample_169 rfl hq
/-! EightWiresModel.runs0(I)V -/
theorem bkX11_runs0_0 {d : Nat} {S : hs_T} {Q : Option av_T → hs_T → Prop} {P : hs_T → Prop} {x1 : Int32} {o2 : Option av_T} (hC : Cv d mX11_enters [vR 11 0, vI 0, vI 0] (sk_ (sk_ (sk_ S 11 0 (upd (S.1 11 0) 16 (-4))) 11 0 (upd ((sk_ S 11 0 (upd (S.1 11 0) 16 (-4))).1 11 0) 17 0)) 11 0 (upd ((sk_ (sk_ S 11 0 (upd (S.1 11 0) 16 (-4))) 11 0 (upd ((sk_ S 11 0 (upd (S.1 11 0) 16 (-4))).1 11 0) 17 0)).1 11 0) 18 0)) P) (kk : ∀ S', P S' → Ev (d + 1) mX11_runs0 22 [some (vR 11 0), some (vI x1), o2] [] S' Q) : Ev (d + 1) mX11_runs0 0 [some (vR 11 0), some (vI x1), o2] [] S Q := by
  refine Ev.aload_n dX11_runs0_0 rfl rfl ?_
  refine Ev.bipush (v := (-4)) dX11_runs0_1 (by decide) ?_
  refine Ev.put okX11 (by decide) fl_X11_178 pz_11_0 (by decide) rfl rfl rfl rfl dX11_runs0_3 ?_
  refine Ev.aload_n dX11_runs0_6 rfl rfl ?_
  refine Ev.iconst (v := 0) dX11_runs0_7 (by decide) ?_
  refine Ev.put okX11 (by decide) fl_X11_185 pz_11_0 (by decide) rfl rfl rfl rfl dX11_runs0_8 ?_
  refine Ev.aload_n dX11_runs0_11 rfl rfl ?_
  refine Ev.iconst (v := 0) dX11_runs0_12 (by decide) ?_
  refine Ev.put okX11 (by decide) fl_X11_171 pz_11_0 (by decide) rfl rfl rfl rfl dX11_runs0_13 ?_
  refine Ev.aload_n dX11_runs0_16 rfl rfl ?_
  refine Ev.iconst (v := 0) dX11_runs0_17 (by decide) ?_
  refine Ev.iconst (v := 0) dX11_runs0_18 (by decide) ?_
  exact Ev.callV (as := [vI 0, vI 0]) (rest := []) okX11_enters in_X11_enters ml_X11_181 rfl (Nat.le_of_ble_eq_true rfl) pz_11_0 (by decide) rfl rfl dX11_runs0_19 hC (fun r S' h => by obtain ⟨rfl, h⟩ := h; exact kk S' h)
theorem bkX11_runs0_22 {d : Nat} {S : hs_T} {Q : Option av_T → hs_T → Prop} {x1 : Int32} {o2 : Option av_T} (kn : Ev d mX11_runs0 24 [some (vR 11 0), some (vI x1), some (vI 0)] [] S Q) : Ev d mX11_runs0 22 [some (vR 11 0), some (vI x1), o2] [] S Q := by
  refine Ev.iconst (v := 0) dX11_runs0_22 (by decide) ?_
  refine Ev.istore_n (ls' := [some (vR 11 0), some (vI x1), some (vI 0)]) dX11_runs0_23 rfl (by decide) rfl ?_
  exact kn
theorem bkX11_runs0_24 {d : Nat} {S : hs_T} {Q : Option av_T → hs_T → Prop} {x1 x2 : Int32} (kt : x1 < x2 → Ev d mX11_runs0 60 [some (vR 11 0), some (vI x1), some (vI x2)] [] S Q) (kf : ¬ x1 < x2 → Ev d mX11_runs0 29 [some (vR 11 0), some (vI x1), some (vI x2)] [] S Q) : Ev d mX11_runs0 24 [some (vR 11 0), some (vI x1), some (vI x2)] [] S Q := by
  refine Ev.iload_n dX11_runs0_24 rfl rfl ?_
  refine Ev.iload_n dX11_runs0_25 rfl rfl ?_
  exact Ev.icmp_gt (tgt := 60) dX11_runs0_26 (by decide) kt kf
theorem bkX11_runs0_29 {d : Nat} {S : hs_T} {Q : Option av_T → hs_T → Prop} {x1 x2 : Int32} (kt : ¬ (S.1 11 0 16) = (-4) → Ev d mX11_runs0 60 [some (vR 11 0), some (vI x1), some (vI x2)] [] S Q) (kf : (S.1 11 0 16) = (-4) → Ev d mX11_runs0 38 [some (vR 11 0), some (vI x1), some (vI x2)] [] S Q) : Ev d mX11_runs0 29 [some (vR 11 0), some (vI x1), some (vI x2)] [] S Q := by
  refine Ev.aload_n dX11_runs0_29 rfl rfl ?_
  refine Ev.get (v := vI (S.1 11 0 16)) okX11 (by decide) fl_X11_178 pz_11_0 (ff_11_16 _ _) dX11_runs0_30 ?_
  refine Ev.bipush (v := (-4)) dX11_runs0_33 (by decide) ?_
  exact Ev.icmp_ne (tgt := 60) dX11_runs0_35 (by decide) kt kf
theorem bkX11_runs0_38 {d : Nat} {S : hs_T} {Q : Option av_T → hs_T → Prop} {x1 x2 : Int32} (kt : (S.1 1200 0 230) ≤ 0 → Ev d mX11_runs0 60 [some (vR 11 0), some (vI x1), some (vI x2)] [] S Q) (kf : ¬ (S.1 1200 0 230) ≤ 0 → Ev d mX11_runs0 49 [some (vR 11 0), some (vI x1), some (vI x2)] [] S Q) : Ev d mX11_runs0 38 [some (vR 11 0), some (vI x1), some (vI x2)] [] S Q := by
  refine Ev.aload_n dX11_runs0_38 rfl rfl ?_
  refine Ev.get (v := vR 1200 0) okX11 (by decide) fl_X11_7 pz_11_0 (ff_11_0 _ _) dX11_runs0_39 ?_
  refine Ev.sipush (v := 230) dX11_runs0_42 (by decide) ?_
  refine Ev.ialoadA (a := 230) pz_1200_0 (by decide) ak_1200 (by unfold vp_in; decide) (by decide) dX11_runs0_45 ?_
  exact Ev.if_le (tgt := 60) dX11_runs0_46 (by decide) kt kf
theorem bkX11_runs0_49 {d : Nat} {S : hs_T} {Q : Option av_T → hs_T → Prop} {P : hs_T → Prop} {x1 x2 : Int32} (hC : Cv d mX11_sample [vR 11 0, vI x2] S P) (kk : ∀ S', P S' → Ev (d + 1) mX11_runs0 54 [some (vR 11 0), some (vI x1), some (vI x2)] [] S' Q) : Ev (d + 1) mX11_runs0 49 [some (vR 11 0), some (vI x1), some (vI x2)] [] S Q := by
  refine Ev.aload_n dX11_runs0_49 rfl rfl ?_
  refine Ev.iload_n dX11_runs0_50 rfl rfl ?_
  exact Ev.callV (as := [vI x2]) (rest := []) okX11_sample in_X11_sample ml_X11_188 rfl (Nat.le_of_ble_eq_true rfl) pz_11_0 (by decide) rfl rfl dX11_runs0_51 hC (fun r S' h => by obtain ⟨rfl, h⟩ := h; exact kk S' h)
theorem bkX11_runs0_54 {d : Nat} {S : hs_T} {Q : Option av_T → hs_T → Prop} {x1 x2 : Int32} (kn : Ev d mX11_runs0 24 [some (vR 11 0), some (vI x1), some (vI (x2 + 1))] [] S Q) : Ev d mX11_runs0 54 [some (vR 11 0), some (vI x1), some (vI x2)] [] S Q := by
  refine Ev.iinc (v := (x2 + 1)) (ls' := [some (vR 11 0), some (vI x1), some (vI (x2 + 1))]) dX11_runs0_54 rfl rfl (by decide) rfl ?_
  refine Ev.goto (tgt := 24) dX11_runs0_57 (by decide) ?_
  exact kn
theorem bkX11_runs0_60 {d : Nat} {S : hs_T} {Q : Option av_T → hs_T → Prop} {x1 x2 : Int32} (hq : Q none S) : Ev d mX11_runs0 60 [some (vR 11 0), some (vI x1), some (vI x2)] [] S Q := by
  exact Ev.vret dX11_runs0_60 rfl hq
/-! EightWiresModel.run(I)I -/
theorem bkX11_run_0 {d : Nat} {S : hs_T} {Q : Option av_T → hs_T → Prop} {P : Int32 → hs_T → Prop} {x1 : Int32} (hC : Ci d mX11_in [vJ x1.toInt64, vJ 0, vJ 3] S P) (kk : ∀ v S', P v S' → Ev (d + 1) mX11_run 9 [some (vR 11 0), some (vI x1)] [vI v] S' Q) : Ev (d + 1) mX11_run 0 [some (vR 11 0), some (vI x1)] [] S Q := by
  refine Ev.iload_n dX11_run_0 rfl rfl ?_
  refine Ev.i2l dX11_run_1 ?_
  refine Ev.lconst (v := 0) dX11_run_2 (by decide) ?_
  refine Ev.ldc2 kl_X11_191 dX11_run_3 ?_
  exact Ev.callS (as := [vJ x1.toInt64, vJ 0, vJ 3]) (rest := []) okX11_in stX11_in ml_X11_58 rfl (Nat.le_of_ble_eq_true rfl) rfl dX11_run_6 hC (fun r S' h => by obtain ⟨v, rfl, h⟩ := h; exact kk v S' h)
theorem bkX11_run_9 {d : Nat} {S : hs_T} {Q : Option av_T → hs_T → Prop} {x1 y0 : Int32} (kt : ¬ y0 = 0 → Ev d mX11_run 14 [some (vR 11 0), some (vI x1)] [] S Q) (kf : y0 = 0 → Ev d mX11_run 12 [some (vR 11 0), some (vI x1)] [] S Q) : Ev d mX11_run 9 [some (vR 11 0), some (vI x1)] [vI y0] S Q := by
  exact Ev.if_ne (tgt := 14) dX11_run_9 (by decide) kt kf
theorem bkX11_run_12 {d : Nat} {S : hs_T} {Q : Option av_T → hs_T → Prop} {x1 : Int32} (hq : Q (some (vI (-1))) S) : Ev d mX11_run 12 [some (vR 11 0), some (vI x1)] [] S Q := by
  refine Ev.iconst (v := (-1)) dX11_run_12 (by decide) ?_
  exact Ev.iret dX11_run_13 rfl rfl hq
theorem bkX11_run_14 {d : Nat} {S : hs_T} {Q : Option av_T → hs_T → Prop} {x1 : Int32} (kt : ¬ (S.1 1200 0 230) = 0 → Ev d mX11_run 28 [some (vR 11 0), some (vI x1)] [] S Q) (kf : (S.1 1200 0 230) = 0 → Ev d mX11_run 25 [some (vR 11 0), some (vI x1)] [] S Q) : Ev d mX11_run 14 [some (vR 11 0), some (vI x1)] [] S Q := by
  refine Ev.aload_n dX11_run_14 rfl rfl ?_
  refine Ev.get (v := vR 1200 0) okX11 (by decide) fl_X11_7 pz_11_0 (ff_11_0 _ _) dX11_run_15 ?_
  refine Ev.sipush (v := 230) dX11_run_18 (by decide) ?_
  refine Ev.ialoadA (a := 230) pz_1200_0 (by decide) ak_1200 (by unfold vp_in; decide) (by decide) dX11_run_21 ?_
  exact Ev.if_ne (tgt := 28) dX11_run_22 (by decide) kt kf
theorem bkX11_run_25 {d : Nat} {S : hs_T} {Q : Option av_T → hs_T → Prop} {x1 : Int32} (hq : Q (some (vI (-2))) S) : Ev d mX11_run 25 [some (vR 11 0), some (vI x1)] [] S Q := by
  refine Ev.bipush (v := (-2)) dX11_run_25 (by decide) ?_
  exact Ev.iret dX11_run_27 rfl rfl hq
theorem bkX11_run_28 {d : Nat} {S : hs_T} {Q : Option av_T → hs_T → Prop} {P : hs_T → Prop} {x1 : Int32} (hC : Cv d mX11_runs0 [vR 11 0, vI ((S.1 11 0 3) - 1)] S P) (kk : ∀ S', P S' → Ev (d + 1) mX11_run 38 [some (vR 11 0), some (vI x1)] [] S' Q) : Ev (d + 1) mX11_run 28 [some (vR 11 0), some (vI x1)] [] S Q := by
  refine Ev.aload_n dX11_run_28 rfl rfl ?_
  refine Ev.aload_n dX11_run_29 rfl rfl ?_
  refine Ev.get (v := vI (S.1 11 0 3)) okX11 (by decide) fl_X11_144 pz_11_0 (ff_11_3 _ _) dX11_run_30 ?_
  refine Ev.iconst (v := 1) dX11_run_33 (by decide) ?_
  refine Ev.isub dX11_run_34 ?_
  exact Ev.callV (as := [vI ((S.1 11 0 3) - 1)]) (rest := []) okX11_runs0 in_X11_runs0 ml_X11_193 rfl (Nat.le_of_ble_eq_true rfl) pz_11_0 (by decide) rfl rfl dX11_run_35 hC (fun r S' h => by obtain ⟨rfl, h⟩ := h; exact kk S' h)
theorem bkX11_run_38 {d : Nat} {S : hs_T} {Q : Option av_T → hs_T → Prop} {x1 : Int32} (kt : ¬ x1 = 0 → Ev d mX11_run 49 [some (vR 11 0), some (vI x1)] [] S Q) (kf : x1 = 0 → Ev d mX11_run 42 [some (vR 11 0), some (vI x1)] [] S Q) : Ev d mX11_run 38 [some (vR 11 0), some (vI x1)] [] S Q := by
  refine Ev.iload_n dX11_run_38 rfl rfl ?_
  exact Ev.if_ne (tgt := 49) dX11_run_39 (by decide) kt kf
theorem bkX11_run_42 {d : Nat} {S : hs_T} {Q : Option av_T → hs_T → Prop} {x1 : Int32} (kn : Ev d mX11_run 77 [some (vR 11 0), some (vI x1)] [vI (S.1 11 0 16)] S Q) : Ev d mX11_run 42 [some (vR 11 0), some (vI x1)] [] S Q := by
  refine Ev.aload_n dX11_run_42 rfl rfl ?_
  refine Ev.get (v := vI (S.1 11 0 16)) okX11 (by decide) fl_X11_178 pz_11_0 (ff_11_16 _ _) dX11_run_43 ?_
  refine Ev.goto (tgt := 77) dX11_run_46 (by decide) ?_
  exact kn
theorem bkX11_run_49 {d : Nat} {S : hs_T} {Q : Option av_T → hs_T → Prop} {x1 : Int32} (kt : ¬ x1 = 1 → Ev d mX11_run 61 [some (vR 11 0), some (vI x1)] [] S Q) (kf : x1 = 1 → Ev d mX11_run 54 [some (vR 11 0), some (vI x1)] [] S Q) : Ev d mX11_run 49 [some (vR 11 0), some (vI x1)] [] S Q := by
  refine Ev.iload_n dX11_run_49 rfl rfl ?_
  refine Ev.iconst (v := 1) dX11_run_50 (by decide) ?_
  exact Ev.icmp_ne (tgt := 61) dX11_run_51 (by decide) kt kf
theorem bkX11_run_54 {d : Nat} {S : hs_T} {Q : Option av_T → hs_T → Prop} {x1 : Int32} (kn : Ev d mX11_run 77 [some (vR 11 0), some (vI x1)] [vI (S.1 11 0 15)] S Q) : Ev d mX11_run 54 [some (vR 11 0), some (vI x1)] [] S Q := by
  refine Ev.aload_n dX11_run_54 rfl rfl ?_
  refine Ev.get (v := vI (S.1 11 0 15)) okX11 (by decide) fl_X11_165 pz_11_0 (ff_11_15 _ _) dX11_run_55 ?_
  refine Ev.goto (tgt := 77) dX11_run_58 (by decide) ?_
  exact kn
theorem bkX11_run_61 {d : Nat} {S : hs_T} {Q : Option av_T → hs_T → Prop} {x1 : Int32} (kt : ¬ x1 = 2 → Ev d mX11_run 73 [some (vR 11 0), some (vI x1)] [] S Q) (kf : x1 = 2 → Ev d mX11_run 66 [some (vR 11 0), some (vI x1)] [] S Q) : Ev d mX11_run 61 [some (vR 11 0), some (vI x1)] [] S Q := by
  refine Ev.iload_n dX11_run_61 rfl rfl ?_
  refine Ev.iconst (v := 2) dX11_run_62 (by decide) ?_
  exact Ev.icmp_ne (tgt := 73) dX11_run_63 (by decide) kt kf
theorem bkX11_run_66 {d : Nat} {S : hs_T} {Q : Option av_T → hs_T → Prop} {x1 : Int32} (kn : Ev d mX11_run 77 [some (vR 11 0), some (vI x1)] [vI (S.1 11 0 17)] S Q) : Ev d mX11_run 66 [some (vR 11 0), some (vI x1)] [] S Q := by
  refine Ev.aload_n dX11_run_66 rfl rfl ?_
  refine Ev.get (v := vI (S.1 11 0 17)) okX11 (by decide) fl_X11_185 pz_11_0 (ff_11_17 _ _) dX11_run_67 ?_
  refine Ev.goto (tgt := 77) dX11_run_70 (by decide) ?_
  exact kn
theorem bkX11_run_73 {d : Nat} {S : hs_T} {Q : Option av_T → hs_T → Prop} {x1 : Int32} (kn : Ev d mX11_run 77 [some (vR 11 0), some (vI x1)] [vI (S.1 11 0 18)] S Q) : Ev d mX11_run 73 [some (vR 11 0), some (vI x1)] [] S Q := by
  refine Ev.aload_n dX11_run_73 rfl rfl ?_
  refine Ev.get (v := vI (S.1 11 0 18)) okX11 (by decide) fl_X11_171 pz_11_0 (ff_11_18 _ _) dX11_run_74 ?_
  exact kn
theorem bkX11_run_77 {d : Nat} {S : hs_T} {Q : Option av_T → hs_T → Prop} {x1 y0 : Int32} (hq : Q (some (vI y0)) S) : Ev d mX11_run 77 [some (vR 11 0), some (vI x1)] [vI y0] S Q := by
  exact Ev.iret dX11_run_77 rfl rfl hq
/-! EightWiresModel.state(I)I -/
theorem bkX11_state_0 {d : Nat} {S : hs_T} {Q : Option av_T → hs_T → Prop} {P : Int32 → hs_T → Prop} {x1 : Int32} (hC : Ci d mX11_isSample [vR 11 0, vI x1] S P) (kk : ∀ v S', P v S' → Ev (d + 1) mX11_state 5 [some (vR 11 0), some (vI x1)] [vI v] S' Q) : Ev (d + 1) mX11_state 0 [some (vR 11 0), some (vI x1)] [] S Q := by
  refine Ev.aload_n dX11_state_0 rfl rfl ?_
  refine Ev.iload_n dX11_state_1 rfl rfl ?_
  exact Ev.callV (as := [vI x1]) (rest := []) okX11_isSample in_X11_isSample ml_X11_152 rfl (Nat.le_of_ble_eq_true rfl) pz_11_0 (by decide) rfl rfl dX11_state_2 hC (fun r S' h => by obtain ⟨v, rfl, h⟩ := h; exact kk v S' h)
theorem bkX11_state_5 {d : Nat} {S : hs_T} {Q : Option av_T → hs_T → Prop} {x1 y0 : Int32} (kt : ¬ y0 = 0 → Ev d mX11_state 10 [some (vR 11 0), some (vI x1)] [] S Q) (kf : y0 = 0 → Ev d mX11_state 8 [some (vR 11 0), some (vI x1)] [] S Q) : Ev d mX11_state 5 [some (vR 11 0), some (vI x1)] [vI y0] S Q := by
  exact Ev.if_ne (tgt := 10) dX11_state_5 (by decide) kt kf
theorem bkX11_state_8 {d : Nat} {S : hs_T} {Q : Option av_T → hs_T → Prop} {x1 : Int32} (hq : Q (some (vI (-1))) S) : Ev d mX11_state 8 [some (vR 11 0), some (vI x1)] [] S Q := by
  refine Ev.iconst (v := (-1)) dX11_state_8 (by decide) ?_
  exact Ev.iret dX11_state_9 rfl rfl hq
theorem bkX11_state_10 {d : Nat} {S : hs_T} {Q : Option av_T → hs_T → Prop} {x1 : Int32} (kt : ¬ (S.1 1200 0 230) = 0 → Ev d mX11_state 24 [some (vR 11 0), some (vI x1)] [] S Q) (kf : (S.1 1200 0 230) = 0 → Ev d mX11_state 21 [some (vR 11 0), some (vI x1)] [] S Q) : Ev d mX11_state 10 [some (vR 11 0), some (vI x1)] [] S Q := by
  refine Ev.aload_n dX11_state_10 rfl rfl ?_
  refine Ev.get (v := vR 1200 0) okX11 (by decide) fl_X11_7 pz_11_0 (ff_11_0 _ _) dX11_state_11 ?_
  refine Ev.sipush (v := 230) dX11_state_14 (by decide) ?_
  refine Ev.ialoadA (a := 230) pz_1200_0 (by decide) ak_1200 (by unfold vp_in; decide) (by decide) dX11_state_17 ?_
  exact Ev.if_ne (tgt := 24) dX11_state_18 (by decide) kt kf
theorem bkX11_state_21 {d : Nat} {S : hs_T} {Q : Option av_T → hs_T → Prop} {x1 : Int32} (hq : Q (some (vI (-2))) S) : Ev d mX11_state 21 [some (vR 11 0), some (vI x1)] [] S Q := by
  refine Ev.bipush (v := (-2)) dX11_state_21 (by decide) ?_
  exact Ev.iret dX11_state_23 rfl rfl hq
theorem bkX11_state_24 {d : Nat} {S : hs_T} {Q : Option av_T → hs_T → Prop} {P : hs_T → Prop} {x1 : Int32} (hC : Cv d mX11_runs0 [vR 11 0, vI x1] S P) (kk : ∀ S', P S' → Ev (d + 1) mX11_state 29 [some (vR 11 0), some (vI x1)] [] S' Q) : Ev (d + 1) mX11_state 24 [some (vR 11 0), some (vI x1)] [] S Q := by
  refine Ev.aload_n dX11_state_24 rfl rfl ?_
  refine Ev.iload_n dX11_state_25 rfl rfl ?_
  exact Ev.callV (as := [vI x1]) (rest := []) okX11_runs0 in_X11_runs0 ml_X11_193 rfl (Nat.le_of_ble_eq_true rfl) pz_11_0 (by decide) rfl rfl dX11_state_26 hC (fun r S' h => by obtain ⟨rfl, h⟩ := h; exact kk S' h)
theorem bkX11_state_29 {d : Nat} {S : hs_T} {Q : Option av_T → hs_T → Prop} {x1 : Int32} (hq : Q (some (vI (S.1 11 0 15))) S) : Ev d mX11_state 29 [some (vR 11 0), some (vI x1)] [] S Q := by
  refine Ev.aload_n dX11_state_29 rfl rfl ?_
  refine Ev.get (v := vI (S.1 11 0 15)) okX11 (by decide) fl_X11_165 pz_11_0 (ff_11_15 _ _) dX11_state_30 ?_
  exact Ev.iret dX11_state_33 rfl rfl hq
/-! EightWiresModel.isKept(I)Z -/
theorem bkX11_isKept_0 {d : Nat} {S : hs_T} {Q : Option av_T → hs_T → Prop} {P : Int32 → hs_T → Prop} {x1 : Int32} (hC : Ci d mX11_isSo [vR 11 0, vI 72, vI (S.1 1200 0 231), vI x1, vI x1] S P) (kk : ∀ v S', P v S' → Ev (d + 1) mX11_isKept 16 [some (vR 11 0), some (vI x1)] [vI v] S' Q) : Ev (d + 1) mX11_isKept 0 [some (vR 11 0), some (vI x1)] [] S Q := by
  refine Ev.aload_n dX11_isKept_0 rfl rfl ?_
  refine Ev.bipush (v := 72) dX11_isKept_1 (by decide) ?_
  refine Ev.aload_n dX11_isKept_3 rfl rfl ?_
  refine Ev.get (v := vR 1200 0) okX11 (by decide) fl_X11_7 pz_11_0 (ff_11_0 _ _) dX11_isKept_4 ?_
  refine Ev.sipush (v := 231) dX11_isKept_7 (by decide) ?_
  refine Ev.ialoadA (a := 231) pz_1200_0 (by decide) ak_1200 (by unfold vp_in; decide) (by decide) dX11_isKept_10 ?_
  refine Ev.iload_n dX11_isKept_11 rfl rfl ?_
  refine Ev.iload_n dX11_isKept_12 rfl rfl ?_
  exact Ev.callV (as := [vI 72, vI (S.1 1200 0 231), vI x1, vI x1]) (rest := []) okX11_isSo in_X11_isSo ml_X11_174 rfl (Nat.le_of_ble_eq_true rfl) pz_11_0 (by decide) rfl rfl dX11_isKept_13 hC (fun r S' h => by obtain ⟨v, rfl, h⟩ := h; exact kk v S' h)
theorem bkX11_isKept_16 {d : Nat} {S : hs_T} {Q : Option av_T → hs_T → Prop} {x1 y0 : Int32} (hn16 : narrow .boolean (.int y0) = .int y0) (hq : Q (some (vI y0)) S) : Ev d mX11_isKept 16 [some (vR 11 0), some (vI x1)] [vI y0] S Q := by
  exact Ev.iret dX11_isKept_16 rfl hn16 hq
/-! EightWiresModel.stored(I)I -/
theorem bkX11_stored_0 {d : Nat} {S : hs_T} {Q : Option av_T → hs_T → Prop} {P : Int32 → hs_T → Prop} {x1 : Int32} {o2 o3 o4 o5 o6 o7 : Option av_T} (hC : Ci d mX11_in [vJ x1.toInt64, vJ 0, vJ 2] S P) (kk : ∀ v S', P v S' → Ev (d + 1) mX11_stored 9 [some (vR 11 0), some (vI x1), o2, o3, o4, o5, o6, o7] [vI v] S' Q) : Ev (d + 1) mX11_stored 0 [some (vR 11 0), some (vI x1), o2, o3, o4, o5, o6, o7] [] S Q := by
  refine Ev.iload_n dX11_stored_0 rfl rfl ?_
  refine Ev.i2l dX11_stored_1 ?_
  refine Ev.lconst (v := 0) dX11_stored_2 (by decide) ?_
  refine Ev.ldc2 kl_X11_138 dX11_stored_3 ?_
  exact Ev.callS (as := [vJ x1.toInt64, vJ 0, vJ 2]) (rest := []) okX11_in stX11_in ml_X11_58 rfl (Nat.le_of_ble_eq_true rfl) rfl dX11_stored_6 hC (fun r S' h => by obtain ⟨v, rfl, h⟩ := h; exact kk v S' h)
theorem bkX11_stored_9 {d : Nat} {S : hs_T} {Q : Option av_T → hs_T → Prop} {x1 y0 : Int32} {o2 o3 o4 o5 o6 o7 : Option av_T} (kt : ¬ y0 = 0 → Ev d mX11_stored 28 [some (vR 11 0), some (vI x1), o2, o3, o4, o5, o6, o7] [] S Q) (kf : y0 = 0 → Ev d mX11_stored 12 [some (vR 11 0), some (vI x1), o2, o3, o4, o5, o6, o7] [] S Q) : Ev d mX11_stored 9 [some (vR 11 0), some (vI x1), o2, o3, o4, o5, o6, o7] [vI y0] S Q := by
  exact Ev.if_ne (tgt := 28) dX11_stored_9 (by decide) kt kf
theorem bkX11_stored_12 {d : Nat} {S : hs_T} {Q : Option av_T → hs_T → Prop} {P : Int32 → hs_T → Prop} {x1 : Int32} {o2 o3 o4 o5 o6 o7 : Option av_T} (hC : Ci d mX11_in [vJ x1.toInt64, vJ 10, vJ 409] S P) (kk : ∀ v S', P v S' → Ev (d + 1) mX11_stored 23 [some (vR 11 0), some (vI x1), o2, o3, o4, o5, o6, o7] [vI v] S' Q) : Ev (d + 1) mX11_stored 12 [some (vR 11 0), some (vI x1), o2, o3, o4, o5, o6, o7] [] S Q := by
  refine Ev.iload_n dX11_stored_12 rfl rfl ?_
  refine Ev.i2l dX11_stored_13 ?_
  refine Ev.ldc2 kl_X11_140 dX11_stored_14 ?_
  refine Ev.ldc2 kl_X11_196 dX11_stored_17 ?_
  exact Ev.callS (as := [vJ x1.toInt64, vJ 10, vJ 409]) (rest := []) okX11_in stX11_in ml_X11_58 rfl (Nat.le_of_ble_eq_true rfl) rfl dX11_stored_20 hC (fun r S' h => by obtain ⟨v, rfl, h⟩ := h; exact kk v S' h)
theorem bkX11_stored_23 {d : Nat} {S : hs_T} {Q : Option av_T → hs_T → Prop} {x1 y0 : Int32} {o2 o3 o4 o5 o6 o7 : Option av_T} (kt : ¬ y0 = 0 → Ev d mX11_stored 28 [some (vR 11 0), some (vI x1), o2, o3, o4, o5, o6, o7] [] S Q) (kf : y0 = 0 → Ev d mX11_stored 26 [some (vR 11 0), some (vI x1), o2, o3, o4, o5, o6, o7] [] S Q) : Ev d mX11_stored 23 [some (vR 11 0), some (vI x1), o2, o3, o4, o5, o6, o7] [vI y0] S Q := by
  exact Ev.if_ne (tgt := 28) dX11_stored_23 (by decide) kt kf
theorem bkX11_stored_26 {d : Nat} {S : hs_T} {Q : Option av_T → hs_T → Prop} {x1 : Int32} {o2 o3 o4 o5 o6 o7 : Option av_T} (hq : Q (some (vI (-1))) S) : Ev d mX11_stored 26 [some (vR 11 0), some (vI x1), o2, o3, o4, o5, o6, o7] [] S Q := by
  refine Ev.iconst (v := (-1)) dX11_stored_26 (by decide) ?_
  exact Ev.iret dX11_stored_27 rfl rfl hq
theorem bkX11_stored_28 {d : Nat} {S : hs_T} {Q : Option av_T → hs_T → Prop} {P : hs_T → Prop} {x1 : Int32} {o2 o3 o4 o5 o6 o7 : Option av_T} (hC : Cv d mX11_runs0 [vR 11 0, vI ((S.1 11 0 3) - 1)] S P) (kk : ∀ S', P S' → Ev (d + 1) mX11_stored 38 [some (vR 11 0), some (vI x1), o2, o3, o4, o5, o6, o7] [] S' Q) : Ev (d + 1) mX11_stored 28 [some (vR 11 0), some (vI x1), o2, o3, o4, o5, o6, o7] [] S Q := by
  refine Ev.aload_n dX11_stored_28 rfl rfl ?_
  refine Ev.aload_n dX11_stored_29 rfl rfl ?_
  refine Ev.get (v := vI (S.1 11 0 3)) okX11 (by decide) fl_X11_144 pz_11_0 (ff_11_3 _ _) dX11_stored_30 ?_
  refine Ev.iconst (v := 1) dX11_stored_33 (by decide) ?_
  refine Ev.isub dX11_stored_34 ?_
  exact Ev.callV (as := [vI ((S.1 11 0 3) - 1)]) (rest := []) okX11_runs0 in_X11_runs0 ml_X11_193 rfl (Nat.le_of_ble_eq_true rfl) pz_11_0 (by decide) rfl rfl dX11_stored_35 hC (fun r S' h => by obtain ⟨rfl, h⟩ := h; exact kk S' h)
theorem bkX11_stored_38 {d : Nat} {S : hs_T} {Q : Option av_T → hs_T → Prop} {x1 : Int32} {o2 o3 o4 o5 o6 o7 : Option av_T} (kt : ¬ (S.1 11 0 16) = (-4) → Ev d mX11_stored 50 [some (vR 11 0), some (vI x1), o2, o3, o4, o5, o6, o7] [] S Q) (kf : (S.1 11 0 16) = (-4) → Ev d mX11_stored 47 [some (vR 11 0), some (vI x1), o2, o3, o4, o5, o6, o7] [] S Q) : Ev d mX11_stored 38 [some (vR 11 0), some (vI x1), o2, o3, o4, o5, o6, o7] [] S Q := by
  refine Ev.aload_n dX11_stored_38 rfl rfl ?_
  refine Ev.get (v := vI (S.1 11 0 16)) okX11 (by decide) fl_X11_178 pz_11_0 (ff_11_16 _ _) dX11_stored_39 ?_
  refine Ev.bipush (v := (-4)) dX11_stored_42 (by decide) ?_
  exact Ev.icmp_ne (tgt := 50) dX11_stored_44 (by decide) kt kf
theorem bkX11_stored_47 {d : Nat} {S : hs_T} {Q : Option av_T → hs_T → Prop} {x1 : Int32} {o2 o3 o4 o5 o6 o7 : Option av_T} (hq : Q (some (vI (-4))) S) : Ev d mX11_stored 47 [some (vR 11 0), some (vI x1), o2, o3, o4, o5, o6, o7] [] S Q := by
  refine Ev.bipush (v := (-4)) dX11_stored_47 (by decide) ?_
  exact Ev.iret dX11_stored_49 rfl rfl hq
theorem bkX11_stored_50 {d : Nat} {S : hs_T} {Q : Option av_T → hs_T → Prop} {x1 : Int32} {o2 o3 o4 o5 o6 o7 : Option av_T} (kt : 0 ≤ ((S.1 11 0 16) - (S.1 1200 0 233)) → Ev d mX11_stored 86 [some (vR 11 0), some (vI x1), some (vI 0), some (vI (-4)), some (vI (-4)), some (vI (-1)), some (vI ((S.1 11 0 16) - (S.1 1200 0 233))), o7] [] S Q) (kf : ¬ 0 ≤ ((S.1 11 0 16) - (S.1 1200 0 233)) → Ev d mX11_stored 82 [some (vR 11 0), some (vI x1), some (vI 0), some (vI (-4)), some (vI (-4)), some (vI (-1)), some (vI ((S.1 11 0 16) - (S.1 1200 0 233))), o7] [] S Q) : Ev d mX11_stored 50 [some (vR 11 0), some (vI x1), o2, o3, o4, o5, o6, o7] [] S Q := by
  refine Ev.iconst (v := 0) dX11_stored_50 (by decide) ?_
  refine Ev.istore_n (ls' := [some (vR 11 0), some (vI x1), some (vI 0), o3, o4, o5, o6, o7]) dX11_stored_51 rfl (by decide) rfl ?_
  refine Ev.bipush (v := (-4)) dX11_stored_52 (by decide) ?_
  refine Ev.istore_n (ls' := [some (vR 11 0), some (vI x1), some (vI 0), some (vI (-4)), o4, o5, o6, o7]) dX11_stored_54 rfl (by decide) rfl ?_
  refine Ev.bipush (v := (-4)) dX11_stored_55 (by decide) ?_
  refine Ev.istore (ls' := [some (vR 11 0), some (vI x1), some (vI 0), some (vI (-4)), some (vI (-4)), o5, o6, o7]) dX11_stored_57 (by decide) rfl ?_
  refine Ev.iconst (v := (-1)) dX11_stored_59 (by decide) ?_
  refine Ev.istore (ls' := [some (vR 11 0), some (vI x1), some (vI 0), some (vI (-4)), some (vI (-4)), some (vI (-1)), o6, o7]) dX11_stored_60 (by decide) rfl ?_
  refine Ev.aload_n dX11_stored_62 rfl rfl ?_
  refine Ev.get (v := vI (S.1 11 0 16)) okX11 (by decide) fl_X11_178 pz_11_0 (ff_11_16 _ _) dX11_stored_63 ?_
  refine Ev.aload_n dX11_stored_66 rfl rfl ?_
  refine Ev.get (v := vR 1200 0) okX11 (by decide) fl_X11_7 pz_11_0 (ff_11_0 _ _) dX11_stored_67 ?_
  refine Ev.sipush (v := 233) dX11_stored_70 (by decide) ?_
  refine Ev.ialoadA (a := 233) pz_1200_0 (by decide) ak_1200 (by unfold vp_in; decide) (by decide) dX11_stored_73 ?_
  refine Ev.isub dX11_stored_74 ?_
  refine Ev.istore (ls' := [some (vR 11 0), some (vI x1), some (vI 0), some (vI (-4)), some (vI (-4)), some (vI (-1)), some (vI ((S.1 11 0 16) - (S.1 1200 0 233))), o7]) dX11_stored_75 (by decide) rfl ?_
  refine Ev.iload dX11_stored_77 rfl ?_
  exact Ev.if_ge (tgt := 86) dX11_stored_79 (by decide) kt kf
theorem bkX11_stored_82 {d : Nat} {S : hs_T} {Q : Option av_T → hs_T → Prop} {x1 x2 x3 x4 x5 x6 : Int32} {o7 : Option av_T} (kn : Ev d mX11_stored 88 [some (vR 11 0), some (vI x1), some (vI x2), some (vI x3), some (vI x4), some (vI x5), some (vI x6), o7] [vI 0] S Q) : Ev d mX11_stored 82 [some (vR 11 0), some (vI x1), some (vI x2), some (vI x3), some (vI x4), some (vI x5), some (vI x6), o7] [] S Q := by
  refine Ev.iconst (v := 0) dX11_stored_82 (by decide) ?_
  refine Ev.goto (tgt := 88) dX11_stored_83 (by decide) ?_
  exact kn
theorem bkX11_stored_86 {d : Nat} {S : hs_T} {Q : Option av_T → hs_T → Prop} {x1 x2 x3 x4 x5 x6 : Int32} {o7 : Option av_T} (kn : Ev d mX11_stored 88 [some (vR 11 0), some (vI x1), some (vI x2), some (vI x3), some (vI x4), some (vI x5), some (vI x6), o7] [vI x6] S Q) : Ev d mX11_stored 86 [some (vR 11 0), some (vI x1), some (vI x2), some (vI x3), some (vI x4), some (vI x5), some (vI x6), o7] [] S Q := by
  refine Ev.iload dX11_stored_86 rfl ?_
  exact kn
theorem bkX11_stored_88 {d : Nat} {S : hs_T} {Q : Option av_T → hs_T → Prop} {x1 x2 x3 x4 x5 x6 y0 : Int32} {o7 : Option av_T} (kn : Ev d mX11_stored 90 [some (vR 11 0), some (vI x1), some (vI x2), some (vI x3), some (vI x4), some (vI x5), some (vI x6), some (vI y0)] [] S Q) : Ev d mX11_stored 88 [some (vR 11 0), some (vI x1), some (vI x2), some (vI x3), some (vI x4), some (vI x5), some (vI x6), o7] [vI y0] S Q := by
  refine Ev.istore (ls' := [some (vR 11 0), some (vI x1), some (vI x2), some (vI x3), some (vI x4), some (vI x5), some (vI x6), some (vI y0)]) dX11_stored_88 (by decide) rfl ?_
  exact kn
theorem bkX11_stored_90 {d : Nat} {S : hs_T} {Q : Option av_T → hs_T → Prop} {P : Int32 → hs_T → Prop} {x1 x2 x3 x4 x5 x6 x7 : Int32} (hC : Ci d mX11_less [vI (S.1 11 0 3), vI (x6 + (S.1 1200 0 232))] S P) (kk : ∀ v S', P v S' → Ev (d + 1) mX11_stored 110 [some (vR 11 0), some (vI x1), some (vI x2), some (vI x3), some (vI x4), some (vI x5), some (vI x6), some (vI x7)] [vI v, vI x7] S' Q) : Ev (d + 1) mX11_stored 90 [some (vR 11 0), some (vI x1), some (vI x2), some (vI x3), some (vI x4), some (vI x5), some (vI x6), some (vI x7)] [] S Q := by
  refine Ev.iload dX11_stored_90 rfl ?_
  refine Ev.aload_n dX11_stored_92 rfl rfl ?_
  refine Ev.get (v := vI (S.1 11 0 3)) okX11 (by decide) fl_X11_144 pz_11_0 (ff_11_3 _ _) dX11_stored_93 ?_
  refine Ev.iload dX11_stored_96 rfl ?_
  refine Ev.aload_n dX11_stored_98 rfl rfl ?_
  refine Ev.get (v := vR 1200 0) okX11 (by decide) fl_X11_7 pz_11_0 (ff_11_0 _ _) dX11_stored_99 ?_
  refine Ev.sipush (v := 232) dX11_stored_102 (by decide) ?_
  refine Ev.ialoadA (a := 232) pz_1200_0 (by decide) ak_1200 (by unfold vp_in; decide) (by decide) dX11_stored_105 ?_
  refine Ev.iadd dX11_stored_106 ?_
  exact Ev.callS (as := [vI (S.1 11 0 3), vI (x6 + (S.1 1200 0 232))]) (rest := [vI x7]) okX11_less stX11_less ml_X11_198 rfl (Nat.le_of_ble_eq_true rfl) rfl dX11_stored_107 hC (fun r S' h => by obtain ⟨v, rfl, h⟩ := h; exact kk v S' h)
theorem bkX11_stored_110 {d : Nat} {S : hs_T} {Q : Option av_T → hs_T → Prop} {x1 x2 x3 x4 x5 x6 x7 y0 y1 : Int32} (kt : y0 ≤ y1 → Ev d mX11_stored 165 [some (vR 11 0), some (vI x1), some (vI x2), some (vI x3), some (vI x4), some (vI x5), some (vI x6), some (vI x7)] [] S Q) (kf : ¬ y0 ≤ y1 → Ev d mX11_stored 113 [some (vR 11 0), some (vI x1), some (vI x2), some (vI x3), some (vI x4), some (vI x5), some (vI x6), some (vI x7)] [] S Q) : Ev d mX11_stored 110 [some (vR 11 0), some (vI x1), some (vI x2), some (vI x3), some (vI x4), some (vI x5), some (vI x6), some (vI x7)] [vI y0, vI y1] S Q := by
  exact Ev.icmp_ge (tgt := 165) dX11_stored_110 (by decide) kt kf
theorem bkX11_stored_113 {d : Nat} {S : hs_T} {Q : Option av_T → hs_T → Prop} {P : Int32 → hs_T → Prop} {x1 x2 x3 x4 x5 x6 x7 : Int32} (hC : Ci d mX11_isKept [vR 11 0, vI x7] S P) (kk : ∀ v S', P v S' → Ev (d + 1) mX11_stored 119 [some (vR 11 0), some (vI x1), some (vI x2), some (vI x3), some (vI x4), some (vI x5), some (vI x6), some (vI x7)] [vI v] S' Q) : Ev (d + 1) mX11_stored 113 [some (vR 11 0), some (vI x1), some (vI x2), some (vI x3), some (vI x4), some (vI x5), some (vI x6), some (vI x7)] [] S Q := by
  refine Ev.aload_n dX11_stored_113 rfl rfl ?_
  refine Ev.iload dX11_stored_114 rfl ?_
  exact Ev.callV (as := [vI x7]) (rest := []) okX11_isKept in_X11_isKept ml_X11_201 rfl (Nat.le_of_ble_eq_true rfl) pz_11_0 (by decide) rfl rfl dX11_stored_116 hC (fun r S' h => by obtain ⟨v, rfl, h⟩ := h; exact kk v S' h)
theorem bkX11_stored_119 {d : Nat} {S : hs_T} {Q : Option av_T → hs_T → Prop} {x1 x2 x3 x4 x5 x6 x7 y0 : Int32} (kt : y0 = 0 → Ev d mX11_stored 159 [some (vR 11 0), some (vI x1), some (vI x2), some (vI x3), some (vI x4), some (vI x5), some (vI x6), some (vI x7)] [] S Q) (kf : ¬ y0 = 0 → Ev d mX11_stored 122 [some (vR 11 0), some (vI x1), some (vI x2), some (vI x3), some (vI x4), some (vI x5), some (vI x6), some (vI x7)] [] S Q) : Ev d mX11_stored 119 [some (vR 11 0), some (vI x1), some (vI x2), some (vI x3), some (vI x4), some (vI x5), some (vI x6), some (vI x7)] [vI y0] S Q := by
  exact Ev.if_eq (tgt := 159) dX11_stored_119 (by decide) kt kf
theorem bkX11_stored_122 {d : Nat} {S : hs_T} {Q : Option av_T → hs_T → Prop} {x1 x2 x3 x4 x5 x6 x7 : Int32} (kt : ¬ x3 = (-4) → Ev d mX11_stored 133 [some (vR 11 0), some (vI x1), some (vI x2), some (vI x3), some (vI x4), some (vI x5), some (vI x6), some (vI x7)] [] S Q) (kf : x3 = (-4) → Ev d mX11_stored 128 [some (vR 11 0), some (vI x1), some (vI x2), some (vI x3), some (vI x4), some (vI x5), some (vI x6), some (vI x7)] [] S Q) : Ev d mX11_stored 122 [some (vR 11 0), some (vI x1), some (vI x2), some (vI x3), some (vI x4), some (vI x5), some (vI x6), some (vI x7)] [] S Q := by
  refine Ev.iload_n dX11_stored_122 rfl rfl ?_
  refine Ev.bipush (v := (-4)) dX11_stored_123 (by decide) ?_
  exact Ev.icmp_ne (tgt := 133) dX11_stored_125 (by decide) kt kf
theorem bkX11_stored_128 {d : Nat} {S : hs_T} {Q : Option av_T → hs_T → Prop} {x1 x2 x3 x4 x5 x6 x7 : Int32} (kn : Ev d mX11_stored 134 [some (vR 11 0), some (vI x1), some (vI x2), some (vI x3), some (vI x4), some (vI x5), some (vI x6), some (vI x7)] [vI x7] S Q) : Ev d mX11_stored 128 [some (vR 11 0), some (vI x1), some (vI x2), some (vI x3), some (vI x4), some (vI x5), some (vI x6), some (vI x7)] [] S Q := by
  refine Ev.iload dX11_stored_128 rfl ?_
  refine Ev.goto (tgt := 134) dX11_stored_130 (by decide) ?_
  exact kn
theorem bkX11_stored_133 {d : Nat} {S : hs_T} {Q : Option av_T → hs_T → Prop} {x1 x2 x3 x4 x5 x6 x7 : Int32} (kn : Ev d mX11_stored 134 [some (vR 11 0), some (vI x1), some (vI x2), some (vI x3), some (vI x4), some (vI x5), some (vI x6), some (vI x7)] [vI x3] S Q) : Ev d mX11_stored 133 [some (vR 11 0), some (vI x1), some (vI x2), some (vI x3), some (vI x4), some (vI x5), some (vI x6), some (vI x7)] [] S Q := by
  refine Ev.iload_n dX11_stored_133 rfl rfl ?_
  exact kn
theorem bkX11_stored_134 {d : Nat} {S : hs_T} {Q : Option av_T → hs_T → Prop} {x1 x2 x3 x4 x5 x6 x7 y0 : Int32} (kt : ¬ x2 = (x1 - 10) → Ev d mX11_stored 152 [some (vR 11 0), some (vI x1), some (vI x2), some (vI y0), some (vI x7), some (vI x5), some (vI x6), some (vI x7)] [] S Q) (kf : x2 = (x1 - 10) → Ev d mX11_stored 147 [some (vR 11 0), some (vI x1), some (vI x2), some (vI y0), some (vI x7), some (vI x5), some (vI x6), some (vI x7)] [] S Q) : Ev d mX11_stored 134 [some (vR 11 0), some (vI x1), some (vI x2), some (vI x3), some (vI x4), some (vI x5), some (vI x6), some (vI x7)] [vI y0] S Q := by
  refine Ev.istore_n (ls' := [some (vR 11 0), some (vI x1), some (vI x2), some (vI y0), some (vI x4), some (vI x5), some (vI x6), some (vI x7)]) dX11_stored_134 rfl (by decide) rfl ?_
  refine Ev.iload dX11_stored_135 rfl ?_
  refine Ev.istore (ls' := [some (vR 11 0), some (vI x1), some (vI x2), some (vI y0), some (vI x7), some (vI x5), some (vI x6), some (vI x7)]) dX11_stored_137 (by decide) rfl ?_
  refine Ev.iload_n dX11_stored_139 rfl rfl ?_
  refine Ev.iload_n dX11_stored_140 rfl rfl ?_
  refine Ev.bipush (v := 10) dX11_stored_141 (by decide) ?_
  refine Ev.isub dX11_stored_143 ?_
  exact Ev.icmp_ne (tgt := 152) dX11_stored_144 (by decide) kt kf
theorem bkX11_stored_147 {d : Nat} {S : hs_T} {Q : Option av_T → hs_T → Prop} {x1 x2 x3 x4 x5 x6 x7 : Int32} (kn : Ev d mX11_stored 154 [some (vR 11 0), some (vI x1), some (vI x2), some (vI x3), some (vI x4), some (vI x5), some (vI x6), some (vI x7)] [vI x7] S Q) : Ev d mX11_stored 147 [some (vR 11 0), some (vI x1), some (vI x2), some (vI x3), some (vI x4), some (vI x5), some (vI x6), some (vI x7)] [] S Q := by
  refine Ev.iload dX11_stored_147 rfl ?_
  refine Ev.goto (tgt := 154) dX11_stored_149 (by decide) ?_
  exact kn
theorem bkX11_stored_152 {d : Nat} {S : hs_T} {Q : Option av_T → hs_T → Prop} {x1 x2 x3 x4 x5 x6 x7 : Int32} (kn : Ev d mX11_stored 154 [some (vR 11 0), some (vI x1), some (vI x2), some (vI x3), some (vI x4), some (vI x5), some (vI x6), some (vI x7)] [vI x5] S Q) : Ev d mX11_stored 152 [some (vR 11 0), some (vI x1), some (vI x2), some (vI x3), some (vI x4), some (vI x5), some (vI x6), some (vI x7)] [] S Q := by
  refine Ev.iload dX11_stored_152 rfl ?_
  exact kn
theorem bkX11_stored_154 {d : Nat} {S : hs_T} {Q : Option av_T → hs_T → Prop} {x1 x2 x3 x4 x5 x6 x7 y0 : Int32} (kn : Ev d mX11_stored 159 [some (vR 11 0), some (vI x1), some (vI (x2 + 1)), some (vI x3), some (vI x4), some (vI y0), some (vI x6), some (vI x7)] [] S Q) : Ev d mX11_stored 154 [some (vR 11 0), some (vI x1), some (vI x2), some (vI x3), some (vI x4), some (vI x5), some (vI x6), some (vI x7)] [vI y0] S Q := by
  refine Ev.istore (ls' := [some (vR 11 0), some (vI x1), some (vI x2), some (vI x3), some (vI x4), some (vI y0), some (vI x6), some (vI x7)]) dX11_stored_154 (by decide) rfl ?_
  refine Ev.iinc (v := (x2 + 1)) (ls' := [some (vR 11 0), some (vI x1), some (vI (x2 + 1)), some (vI x3), some (vI x4), some (vI y0), some (vI x6), some (vI x7)]) dX11_stored_156 rfl rfl (by decide) rfl ?_
  exact kn
theorem bkX11_stored_159 {d : Nat} {S : hs_T} {Q : Option av_T → hs_T → Prop} {x1 x2 x3 x4 x5 x6 x7 : Int32} (kn : Ev d mX11_stored 90 [some (vR 11 0), some (vI x1), some (vI x2), some (vI x3), some (vI x4), some (vI x5), some (vI x6), some (vI (x7 + 1))] [] S Q) : Ev d mX11_stored 159 [some (vR 11 0), some (vI x1), some (vI x2), some (vI x3), some (vI x4), some (vI x5), some (vI x6), some (vI x7)] [] S Q := by
  refine Ev.iinc (v := (x7 + 1)) (ls' := [some (vR 11 0), some (vI x1), some (vI x2), some (vI x3), some (vI x4), some (vI x5), some (vI x6), some (vI (x7 + 1))]) dX11_stored_159 rfl rfl (by decide) rfl ?_
  refine Ev.goto (tgt := 90) dX11_stored_162 (by decide) ?_
  exact kn
theorem bkX11_stored_165 {d : Nat} {S : hs_T} {Q : Option av_T → hs_T → Prop} {x1 x2 x3 x4 x5 x6 x7 : Int32} (kt : ¬ x1 = 0 → Ev d mX11_stored 173 [some (vR 11 0), some (vI x1), some (vI x2), some (vI x3), some (vI x4), some (vI x5), some (vI x6), some (vI x7)] [] S Q) (kf : x1 = 0 → Ev d mX11_stored 169 [some (vR 11 0), some (vI x1), some (vI x2), some (vI x3), some (vI x4), some (vI x5), some (vI x6), some (vI x7)] [] S Q) : Ev d mX11_stored 165 [some (vR 11 0), some (vI x1), some (vI x2), some (vI x3), some (vI x4), some (vI x5), some (vI x6), some (vI x7)] [] S Q := by
  refine Ev.iload_n dX11_stored_165 rfl rfl ?_
  exact Ev.if_ne (tgt := 173) dX11_stored_166 (by decide) kt kf
theorem bkX11_stored_169 {d : Nat} {S : hs_T} {Q : Option av_T → hs_T → Prop} {x1 x2 x3 x4 x5 x6 x7 : Int32} (kn : Ev d mX11_stored 194 [some (vR 11 0), some (vI x1), some (vI x2), some (vI x3), some (vI x4), some (vI x5), some (vI x6), some (vI x7)] [vI x2] S Q) : Ev d mX11_stored 169 [some (vR 11 0), some (vI x1), some (vI x2), some (vI x3), some (vI x4), some (vI x5), some (vI x6), some (vI x7)] [] S Q := by
  refine Ev.iload_n dX11_stored_169 rfl rfl ?_
  refine Ev.goto (tgt := 194) dX11_stored_170 (by decide) ?_
  exact kn
theorem bkX11_stored_173 {d : Nat} {S : hs_T} {Q : Option av_T → hs_T → Prop} {x1 x2 x3 x4 x5 x6 x7 : Int32} (kt : ¬ x1 = 1 → Ev d mX11_stored 182 [some (vR 11 0), some (vI x1), some (vI x2), some (vI x3), some (vI x4), some (vI x5), some (vI x6), some (vI x7)] [] S Q) (kf : x1 = 1 → Ev d mX11_stored 178 [some (vR 11 0), some (vI x1), some (vI x2), some (vI x3), some (vI x4), some (vI x5), some (vI x6), some (vI x7)] [] S Q) : Ev d mX11_stored 173 [some (vR 11 0), some (vI x1), some (vI x2), some (vI x3), some (vI x4), some (vI x5), some (vI x6), some (vI x7)] [] S Q := by
  refine Ev.iload_n dX11_stored_173 rfl rfl ?_
  refine Ev.iconst (v := 1) dX11_stored_174 (by decide) ?_
  exact Ev.icmp_ne (tgt := 182) dX11_stored_175 (by decide) kt kf
theorem bkX11_stored_178 {d : Nat} {S : hs_T} {Q : Option av_T → hs_T → Prop} {x1 x2 x3 x4 x5 x6 x7 : Int32} (kn : Ev d mX11_stored 194 [some (vR 11 0), some (vI x1), some (vI x2), some (vI x3), some (vI x4), some (vI x5), some (vI x6), some (vI x7)] [vI x3] S Q) : Ev d mX11_stored 178 [some (vR 11 0), some (vI x1), some (vI x2), some (vI x3), some (vI x4), some (vI x5), some (vI x6), some (vI x7)] [] S Q := by
  refine Ev.iload_n dX11_stored_178 rfl rfl ?_
  refine Ev.goto (tgt := 194) dX11_stored_179 (by decide) ?_
  exact kn
theorem bkX11_stored_182 {d : Nat} {S : hs_T} {Q : Option av_T → hs_T → Prop} {x1 x2 x3 x4 x5 x6 x7 : Int32} (kt : ¬ x1 = 2 → Ev d mX11_stored 192 [some (vR 11 0), some (vI x1), some (vI x2), some (vI x3), some (vI x4), some (vI x5), some (vI x6), some (vI x7)] [] S Q) (kf : x1 = 2 → Ev d mX11_stored 187 [some (vR 11 0), some (vI x1), some (vI x2), some (vI x3), some (vI x4), some (vI x5), some (vI x6), some (vI x7)] [] S Q) : Ev d mX11_stored 182 [some (vR 11 0), some (vI x1), some (vI x2), some (vI x3), some (vI x4), some (vI x5), some (vI x6), some (vI x7)] [] S Q := by
  refine Ev.iload_n dX11_stored_182 rfl rfl ?_
  refine Ev.iconst (v := 2) dX11_stored_183 (by decide) ?_
  exact Ev.icmp_ne (tgt := 192) dX11_stored_184 (by decide) kt kf
theorem bkX11_stored_187 {d : Nat} {S : hs_T} {Q : Option av_T → hs_T → Prop} {x1 x2 x3 x4 x5 x6 x7 : Int32} (kn : Ev d mX11_stored 194 [some (vR 11 0), some (vI x1), some (vI x2), some (vI x3), some (vI x4), some (vI x5), some (vI x6), some (vI x7)] [vI x4] S Q) : Ev d mX11_stored 187 [some (vR 11 0), some (vI x1), some (vI x2), some (vI x3), some (vI x4), some (vI x5), some (vI x6), some (vI x7)] [] S Q := by
  refine Ev.iload dX11_stored_187 rfl ?_
  refine Ev.goto (tgt := 194) dX11_stored_189 (by decide) ?_
  exact kn
theorem bkX11_stored_192 {d : Nat} {S : hs_T} {Q : Option av_T → hs_T → Prop} {x1 x2 x3 x4 x5 x6 x7 : Int32} (kn : Ev d mX11_stored 194 [some (vR 11 0), some (vI x1), some (vI x2), some (vI x3), some (vI x4), some (vI x5), some (vI x6), some (vI x7)] [vI x5] S Q) : Ev d mX11_stored 192 [some (vR 11 0), some (vI x1), some (vI x2), some (vI x3), some (vI x4), some (vI x5), some (vI x6), some (vI x7)] [] S Q := by
  refine Ev.iload dX11_stored_192 rfl ?_
  exact kn
theorem bkX11_stored_194 {d : Nat} {S : hs_T} {Q : Option av_T → hs_T → Prop} {x1 x2 x3 x4 x5 x6 x7 y0 : Int32} (hq : Q (some (vI y0)) S) : Ev d mX11_stored 194 [some (vR 11 0), some (vI x1), some (vI x2), some (vI x3), some (vI x4), some (vI x5), some (vI x6), some (vI x7)] [vI y0] S Q := by
  exact Ev.iret dX11_stored_194 rfl rfl hq
/-! EightWiresModel.next(I)I -/
theorem bkX11_next_0 {d : Nat} {S : hs_T} {Q : Option av_T → hs_T → Prop} {P : Int32 → hs_T → Prop} {x1 : Int32} {o2 o3 : Option av_T} (hC : Ci d mX11_isSample [vR 11 0, vI x1] S P) (kk : ∀ v S', P v S' → Ev (d + 1) mX11_next 5 [some (vR 11 0), some (vI x1), o2, o3] [vI v] S' Q) : Ev (d + 1) mX11_next 0 [some (vR 11 0), some (vI x1), o2, o3] [] S Q := by
  refine Ev.aload_n dX11_next_0 rfl rfl ?_
  refine Ev.iload_n dX11_next_1 rfl rfl ?_
  exact Ev.callV (as := [vI x1]) (rest := []) okX11_isSample in_X11_isSample ml_X11_152 rfl (Nat.le_of_ble_eq_true rfl) pz_11_0 (by decide) rfl rfl dX11_next_2 hC (fun r S' h => by obtain ⟨v, rfl, h⟩ := h; exact kk v S' h)
theorem bkX11_next_5 {d : Nat} {S : hs_T} {Q : Option av_T → hs_T → Prop} {x1 y0 : Int32} {o2 o3 : Option av_T} (kt : ¬ y0 = 0 → Ev d mX11_next 10 [some (vR 11 0), some (vI x1), o2, o3] [] S Q) (kf : y0 = 0 → Ev d mX11_next 8 [some (vR 11 0), some (vI x1), o2, o3] [] S Q) : Ev d mX11_next 5 [some (vR 11 0), some (vI x1), o2, o3] [vI y0] S Q := by
  exact Ev.if_ne (tgt := 10) dX11_next_5 (by decide) kt kf
theorem bkX11_next_8 {d : Nat} {S : hs_T} {Q : Option av_T → hs_T → Prop} {x1 : Int32} {o2 o3 : Option av_T} (hq : Q (some (vI (-1))) S) : Ev d mX11_next 8 [some (vR 11 0), some (vI x1), o2, o3] [] S Q := by
  refine Ev.iconst (v := (-1)) dX11_next_8 (by decide) ?_
  exact Ev.iret dX11_next_9 rfl rfl hq
theorem bkX11_next_10 {d : Nat} {S : hs_T} {Q : Option av_T → hs_T → Prop} {x1 : Int32} {o2 o3 : Option av_T} (kn : Ev d mX11_next 20 [some (vR 11 0), some (vI x1), some (vI (-4)), some (vI ((S.1 11 0 3) - 1))] [] S Q) : Ev d mX11_next 10 [some (vR 11 0), some (vI x1), o2, o3] [] S Q := by
  refine Ev.bipush (v := (-4)) dX11_next_10 (by decide) ?_
  refine Ev.istore_n (ls' := [some (vR 11 0), some (vI x1), some (vI (-4)), o3]) dX11_next_12 rfl (by decide) rfl ?_
  refine Ev.aload_n dX11_next_13 rfl rfl ?_
  refine Ev.get (v := vI (S.1 11 0 3)) okX11 (by decide) fl_X11_144 pz_11_0 (ff_11_3 _ _) dX11_next_14 ?_
  refine Ev.iconst (v := 1) dX11_next_17 (by decide) ?_
  refine Ev.isub dX11_next_18 ?_
  refine Ev.istore_n (ls' := [some (vR 11 0), some (vI x1), some (vI (-4)), some (vI ((S.1 11 0 3) - 1))]) dX11_next_19 rfl (by decide) rfl ?_
  exact kn
theorem bkX11_next_20 {d : Nat} {S : hs_T} {Q : Option av_T → hs_T → Prop} {x1 x2 x3 : Int32} (kt : x3 < x1 → Ev d mX11_next 45 [some (vR 11 0), some (vI x1), some (vI x2), some (vI x3)] [] S Q) (kf : ¬ x3 < x1 → Ev d mX11_next 25 [some (vR 11 0), some (vI x1), some (vI x2), some (vI x3)] [] S Q) : Ev d mX11_next 20 [some (vR 11 0), some (vI x1), some (vI x2), some (vI x3)] [] S Q := by
  refine Ev.iload_n dX11_next_20 rfl rfl ?_
  refine Ev.iload_n dX11_next_21 rfl rfl ?_
  exact Ev.icmp_lt (tgt := 45) dX11_next_22 (by decide) kt kf
theorem bkX11_next_25 {d : Nat} {S : hs_T} {Q : Option av_T → hs_T → Prop} {P : Int32 → hs_T → Prop} {x1 x2 x3 : Int32} (hC : Ci d mX11_isKept [vR 11 0, vI x3] S P) (kk : ∀ v S', P v S' → Ev (d + 1) mX11_next 30 [some (vR 11 0), some (vI x1), some (vI x2), some (vI x3)] [vI v] S' Q) : Ev (d + 1) mX11_next 25 [some (vR 11 0), some (vI x1), some (vI x2), some (vI x3)] [] S Q := by
  refine Ev.aload_n dX11_next_25 rfl rfl ?_
  refine Ev.iload_n dX11_next_26 rfl rfl ?_
  exact Ev.callV (as := [vI x3]) (rest := []) okX11_isKept in_X11_isKept ml_X11_201 rfl (Nat.le_of_ble_eq_true rfl) pz_11_0 (by decide) rfl rfl dX11_next_27 hC (fun r S' h => by obtain ⟨v, rfl, h⟩ := h; exact kk v S' h)
theorem bkX11_next_30 {d : Nat} {S : hs_T} {Q : Option av_T → hs_T → Prop} {x1 x2 x3 y0 : Int32} (kt : y0 = 0 → Ev d mX11_next 37 [some (vR 11 0), some (vI x1), some (vI x2), some (vI x3)] [] S Q) (kf : ¬ y0 = 0 → Ev d mX11_next 33 [some (vR 11 0), some (vI x1), some (vI x2), some (vI x3)] [] S Q) : Ev d mX11_next 30 [some (vR 11 0), some (vI x1), some (vI x2), some (vI x3)] [vI y0] S Q := by
  exact Ev.if_eq (tgt := 37) dX11_next_30 (by decide) kt kf
theorem bkX11_next_33 {d : Nat} {S : hs_T} {Q : Option av_T → hs_T → Prop} {x1 x2 x3 : Int32} (kn : Ev d mX11_next 38 [some (vR 11 0), some (vI x1), some (vI x2), some (vI x3)] [vI x3] S Q) : Ev d mX11_next 33 [some (vR 11 0), some (vI x1), some (vI x2), some (vI x3)] [] S Q := by
  refine Ev.iload_n dX11_next_33 rfl rfl ?_
  refine Ev.goto (tgt := 38) dX11_next_34 (by decide) ?_
  exact kn
theorem bkX11_next_37 {d : Nat} {S : hs_T} {Q : Option av_T → hs_T → Prop} {x1 x2 x3 : Int32} (kn : Ev d mX11_next 38 [some (vR 11 0), some (vI x1), some (vI x2), some (vI x3)] [vI x2] S Q) : Ev d mX11_next 37 [some (vR 11 0), some (vI x1), some (vI x2), some (vI x3)] [] S Q := by
  refine Ev.iload_n dX11_next_37 rfl rfl ?_
  exact kn
theorem bkX11_next_38 {d : Nat} {S : hs_T} {Q : Option av_T → hs_T → Prop} {x1 x2 x3 y0 : Int32} (kn : Ev d mX11_next 20 [some (vR 11 0), some (vI x1), some (vI y0), some (vI (x3 + (-1)))] [] S Q) : Ev d mX11_next 38 [some (vR 11 0), some (vI x1), some (vI x2), some (vI x3)] [vI y0] S Q := by
  refine Ev.istore_n (ls' := [some (vR 11 0), some (vI x1), some (vI y0), some (vI x3)]) dX11_next_38 rfl (by decide) rfl ?_
  refine Ev.iinc (v := (x3 + (-1))) (ls' := [some (vR 11 0), some (vI x1), some (vI y0), some (vI (x3 + (-1)))]) dX11_next_39 rfl rfl (by decide) rfl ?_
  refine Ev.goto (tgt := 20) dX11_next_42 (by decide) ?_
  exact kn
theorem bkX11_next_45 {d : Nat} {S : hs_T} {Q : Option av_T → hs_T → Prop} {x1 x2 x3 : Int32} (hq : Q (some (vI x2)) S) : Ev d mX11_next 45 [some (vR 11 0), some (vI x1), some (vI x2), some (vI x3)] [] S Q := by
  refine Ev.iload_n dX11_next_45 rfl rfl ?_
  exact Ev.iret dX11_next_46 rfl rfl hq
/-! EightWiresModel.isWire(I)Z -/
theorem bkX11_isWire_0 {d : Nat} {S : hs_T} {Q : Option av_T → hs_T → Prop} {P : Int32 → hs_T → Prop} {x0 : Int32} (hC : Ci d mX11_in [vJ x0.toInt64, vJ 0, vJ 7] S P) (kk : ∀ v S', P v S' → Ev (d + 1) mX11_isWire 9 [some (vI x0)] [vI v] S' Q) : Ev (d + 1) mX11_isWire 0 [some (vI x0)] [] S Q := by
  refine Ev.iload_n dX11_isWire_0 rfl rfl ?_
  refine Ev.i2l dX11_isWire_1 ?_
  refine Ev.lconst (v := 0) dX11_isWire_2 (by decide) ?_
  refine Ev.ldc2 kl_X11_204 dX11_isWire_3 ?_
  exact Ev.callS (as := [vJ x0.toInt64, vJ 0, vJ 7]) (rest := []) okX11_in stX11_in ml_X11_58 rfl (Nat.le_of_ble_eq_true rfl) rfl dX11_isWire_6 hC (fun r S' h => by obtain ⟨v, rfl, h⟩ := h; exact kk v S' h)
theorem bkX11_isWire_9 {d : Nat} {S : hs_T} {Q : Option av_T → hs_T → Prop} {x0 y0 : Int32} (hn9 : narrow .boolean (.int y0) = .int y0) (hq : Q (some (vI y0)) S) : Ev d mX11_isWire 9 [some (vI x0)] [vI y0] S Q := by
  exact Ev.iret dX11_isWire_9 rfl hn9 hq
/-! EightWiresModel.isEdge(IZI)Z -/
theorem bkX11_isEdge_0 {d : Nat} {S : hs_T} {Q : Option av_T → hs_T → Prop} {x1 x2 x3 : Int32} (kt : x2 = 0 → Ev d mX11_isEdge 13 [some (vR 11 0), some (vI x1), some (vI x2), some (vI x3)] [] S Q) (kf : ¬ x2 = 0 → Ev d mX11_isEdge 4 [some (vR 11 0), some (vI x1), some (vI x2), some (vI x3)] [] S Q) : Ev d mX11_isEdge 0 [some (vR 11 0), some (vI x1), some (vI x2), some (vI x3)] [] S Q := by
  refine Ev.iload_n dX11_isEdge_0 rfl rfl ?_
  exact Ev.if_eq (tgt := 13) dX11_isEdge_1 (by decide) kt kf
theorem bkX11_isEdge_4 {d : Nat} {S : hs_T} {Q : Option av_T → hs_T → Prop} {P : Int32 → hs_T → Prop} {x1 x2 x3 : Int32} (hC : Ci d mX11_falls [vR 11 0, vI x1, vI x3] S P) (kk : ∀ v S', P v S' → Ev (d + 1) mX11_isEdge 10 [some (vR 11 0), some (vI x1), some (vI x2), some (vI x3)] [vI v] S' Q) : Ev (d + 1) mX11_isEdge 4 [some (vR 11 0), some (vI x1), some (vI x2), some (vI x3)] [] S Q := by
  refine Ev.aload_n dX11_isEdge_4 rfl rfl ?_
  refine Ev.iload_n dX11_isEdge_5 rfl rfl ?_
  refine Ev.iload_n dX11_isEdge_6 rfl rfl ?_
  exact Ev.callV (as := [vI x1, vI x3]) (rest := []) okX11_falls in_X11_falls ml_X11_162 rfl (Nat.le_of_ble_eq_true rfl) pz_11_0 (by decide) rfl rfl dX11_isEdge_7 hC (fun r S' h => by obtain ⟨v, rfl, h⟩ := h; exact kk v S' h)
theorem bkX11_isEdge_10 {d : Nat} {S : hs_T} {Q : Option av_T → hs_T → Prop} {x1 x2 x3 y0 : Int32} (kn : Ev d mX11_isEdge 19 [some (vR 11 0), some (vI x1), some (vI x2), some (vI x3)] [vI y0] S Q) : Ev d mX11_isEdge 10 [some (vR 11 0), some (vI x1), some (vI x2), some (vI x3)] [vI y0] S Q := by
  refine Ev.goto (tgt := 19) dX11_isEdge_10 (by decide) ?_
  exact kn
theorem bkX11_isEdge_13 {d : Nat} {S : hs_T} {Q : Option av_T → hs_T → Prop} {P : Int32 → hs_T → Prop} {x1 x2 x3 : Int32} (hC : Ci d mX11_rises [vR 11 0, vI x1, vI x3] S P) (kk : ∀ v S', P v S' → Ev (d + 1) mX11_isEdge 19 [some (vR 11 0), some (vI x1), some (vI x2), some (vI x3)] [vI v] S' Q) : Ev (d + 1) mX11_isEdge 13 [some (vR 11 0), some (vI x1), some (vI x2), some (vI x3)] [] S Q := by
  refine Ev.aload_n dX11_isEdge_13 rfl rfl ?_
  refine Ev.iload_n dX11_isEdge_14 rfl rfl ?_
  refine Ev.iload_n dX11_isEdge_15 rfl rfl ?_
  exact Ev.callV (as := [vI x1, vI x3]) (rest := []) okX11_rises in_X11_rises ml_X11_159 rfl (Nat.le_of_ble_eq_true rfl) pz_11_0 (by decide) rfl rfl dX11_isEdge_16 hC (fun r S' h => by obtain ⟨v, rfl, h⟩ := h; exact kk v S' h)
theorem bkX11_isEdge_19 {d : Nat} {S : hs_T} {Q : Option av_T → hs_T → Prop} {x1 x2 x3 y0 : Int32} (hn19 : narrow .boolean (.int y0) = .int y0) (hq : Q (some (vI y0)) S) : Ev d mX11_isEdge 19 [some (vR 11 0), some (vI x1), some (vI x2), some (vI x3)] [vI y0] S Q := by
  exact Ev.iret dX11_isEdge_19 rfl hn19 hq
/-! EightWiresModel.edges(IZ)I -/
theorem bkX11_edges_0 {d : Nat} {S : hs_T} {Q : Option av_T → hs_T → Prop} {P : Int32 → hs_T → Prop} {x1 x2 : Int32} {o3 o4 : Option av_T} (hC : Ci d mX11_isWire [vI x1] S P) (kk : ∀ v S', P v S' → Ev (d + 1) mX11_edges 4 [some (vR 11 0), some (vI x1), some (vI x2), o3, o4] [vI v] S' Q) : Ev (d + 1) mX11_edges 0 [some (vR 11 0), some (vI x1), some (vI x2), o3, o4] [] S Q := by
  refine Ev.iload_n dX11_edges_0 rfl rfl ?_
  exact Ev.callS (as := [vI x1]) (rest := []) okX11_isWire stX11_isWire ml_X11_206 rfl (Nat.le_of_ble_eq_true rfl) rfl dX11_edges_1 hC (fun r S' h => by obtain ⟨v, rfl, h⟩ := h; exact kk v S' h)
theorem bkX11_edges_4 {d : Nat} {S : hs_T} {Q : Option av_T → hs_T → Prop} {x1 x2 y0 : Int32} {o3 o4 : Option av_T} (kt : ¬ y0 = 0 → Ev d mX11_edges 9 [some (vR 11 0), some (vI x1), some (vI x2), o3, o4] [] S Q) (kf : y0 = 0 → Ev d mX11_edges 7 [some (vR 11 0), some (vI x1), some (vI x2), o3, o4] [] S Q) : Ev d mX11_edges 4 [some (vR 11 0), some (vI x1), some (vI x2), o3, o4] [vI y0] S Q := by
  exact Ev.if_ne (tgt := 9) dX11_edges_4 (by decide) kt kf
theorem bkX11_edges_7 {d : Nat} {S : hs_T} {Q : Option av_T → hs_T → Prop} {x1 x2 : Int32} {o3 o4 : Option av_T} (hq : Q (some (vI (-1))) S) : Ev d mX11_edges 7 [some (vR 11 0), some (vI x1), some (vI x2), o3, o4] [] S Q := by
  refine Ev.iconst (v := (-1)) dX11_edges_7 (by decide) ?_
  exact Ev.iret dX11_edges_8 rfl rfl hq
theorem bkX11_edges_9 {d : Nat} {S : hs_T} {Q : Option av_T → hs_T → Prop} {x1 x2 : Int32} {o3 o4 : Option av_T} (kn : Ev d mX11_edges 14 [some (vR 11 0), some (vI x1), some (vI x2), some (vI 0), some (vI 0)] [] S Q) : Ev d mX11_edges 9 [some (vR 11 0), some (vI x1), some (vI x2), o3, o4] [] S Q := by
  refine Ev.iconst (v := 0) dX11_edges_9 (by decide) ?_
  refine Ev.istore_n (ls' := [some (vR 11 0), some (vI x1), some (vI x2), some (vI 0), o4]) dX11_edges_10 rfl (by decide) rfl ?_
  refine Ev.iconst (v := 0) dX11_edges_11 (by decide) ?_
  refine Ev.istore (ls' := [some (vR 11 0), some (vI x1), some (vI x2), some (vI 0), some (vI 0)]) dX11_edges_12 (by decide) rfl ?_
  exact kn
theorem bkX11_edges_14 {d : Nat} {S : hs_T} {Q : Option av_T → hs_T → Prop} {x1 x2 x3 x4 : Int32} (kt : (S.1 11 0 3) ≤ x4 → Ev d mX11_edges 43 [some (vR 11 0), some (vI x1), some (vI x2), some (vI x3), some (vI x4)] [] S Q) (kf : ¬ (S.1 11 0 3) ≤ x4 → Ev d mX11_edges 23 [some (vR 11 0), some (vI x1), some (vI x2), some (vI x3), some (vI x4)] [] S Q) : Ev d mX11_edges 14 [some (vR 11 0), some (vI x1), some (vI x2), some (vI x3), some (vI x4)] [] S Q := by
  refine Ev.iload dX11_edges_14 rfl ?_
  refine Ev.aload_n dX11_edges_16 rfl rfl ?_
  refine Ev.get (v := vI (S.1 11 0 3)) okX11 (by decide) fl_X11_144 pz_11_0 (ff_11_3 _ _) dX11_edges_17 ?_
  exact Ev.icmp_ge (tgt := 43) dX11_edges_20 (by decide) kt kf
theorem bkX11_edges_23 {d : Nat} {S : hs_T} {Q : Option av_T → hs_T → Prop} {P : Int32 → hs_T → Prop} {x1 x2 x3 x4 : Int32} (hC : Ci d mX11_isEdge [vR 11 0, vI x1, vI x2, vI x4] S P) (kk : ∀ v S', P v S' → Ev (d + 1) mX11_edges 32 [some (vR 11 0), some (vI x1), some (vI x2), some (vI x3), some (vI x4)] [vI v, vI x3] S' Q) : Ev (d + 1) mX11_edges 23 [some (vR 11 0), some (vI x1), some (vI x2), some (vI x3), some (vI x4)] [] S Q := by
  refine Ev.iload_n dX11_edges_23 rfl rfl ?_
  refine Ev.aload_n dX11_edges_24 rfl rfl ?_
  refine Ev.iload_n dX11_edges_25 rfl rfl ?_
  refine Ev.iload_n dX11_edges_26 rfl rfl ?_
  refine Ev.iload dX11_edges_27 rfl ?_
  exact Ev.callV (as := [vI x1, vI x2, vI x4]) (rest := [vI x3]) okX11_isEdge in_X11_isEdge ml_X11_209 rfl (Nat.le_of_ble_eq_true rfl) pz_11_0 (by decide) rfl rfl dX11_edges_29 hC (fun r S' h => by obtain ⟨v, rfl, h⟩ := h; exact kk v S' h)
theorem bkX11_edges_32 {d : Nat} {S : hs_T} {Q : Option av_T → hs_T → Prop} {P : Int32 → hs_T → Prop} {x1 x2 x3 x4 y0 y1 : Int32} (hC : Ci d mX11_flag [vI y0] S P) (kk : ∀ v S', P v S' → Ev (d + 1) mX11_edges 35 [some (vR 11 0), some (vI x1), some (vI x2), some (vI x3), some (vI x4)] [vI v, vI y1] S' Q) : Ev (d + 1) mX11_edges 32 [some (vR 11 0), some (vI x1), some (vI x2), some (vI x3), some (vI x4)] [vI y0, vI y1] S Q := by
  exact Ev.callS (as := [vI y0]) (rest := [vI y1]) okX11_flag stX11_flag ml_X11_213 rfl (Nat.le_of_ble_eq_true rfl) rfl dX11_edges_32 hC (fun r S' h => by obtain ⟨v, rfl, h⟩ := h; exact kk v S' h)
theorem bkX11_edges_35 {d : Nat} {S : hs_T} {Q : Option av_T → hs_T → Prop} {x1 x2 x3 x4 y0 y1 : Int32} (kn : Ev d mX11_edges 14 [some (vR 11 0), some (vI x1), some (vI x2), some (vI (y1 + y0)), some (vI (x4 + 1))] [] S Q) : Ev d mX11_edges 35 [some (vR 11 0), some (vI x1), some (vI x2), some (vI x3), some (vI x4)] [vI y0, vI y1] S Q := by
  refine Ev.iadd dX11_edges_35 ?_
  refine Ev.istore_n (ls' := [some (vR 11 0), some (vI x1), some (vI x2), some (vI (y1 + y0)), some (vI x4)]) dX11_edges_36 rfl (by decide) rfl ?_
  refine Ev.iinc (v := (x4 + 1)) (ls' := [some (vR 11 0), some (vI x1), some (vI x2), some (vI (y1 + y0)), some (vI (x4 + 1))]) dX11_edges_37 rfl rfl (by decide) rfl ?_
  refine Ev.goto (tgt := 14) dX11_edges_40 (by decide) ?_
  exact kn
theorem bkX11_edges_43 {d : Nat} {S : hs_T} {Q : Option av_T → hs_T → Prop} {x1 x2 x3 x4 : Int32} (hq : Q (some (vI x3)) S) : Ev d mX11_edges 43 [some (vR 11 0), some (vI x1), some (vI x2), some (vI x3), some (vI x4)] [] S Q := by
  refine Ev.iload_n dX11_edges_43 rfl rfl ?_
  exact Ev.iret dX11_edges_44 rfl rfl hq
/-! EightWiresModel.edge(IZI)I -/
theorem bkX11_edge_0 {d : Nat} {S : hs_T} {Q : Option av_T → hs_T → Prop} {P : Int32 → hs_T → Prop} {x1 x2 x3 : Int32} {o4 o5 : Option av_T} (hC : Ci d mX11_isWire [vI x1] S P) (kk : ∀ v S', P v S' → Ev (d + 1) mX11_edge 4 [some (vR 11 0), some (vI x1), some (vI x2), some (vI x3), o4, o5] [vI v] S' Q) : Ev (d + 1) mX11_edge 0 [some (vR 11 0), some (vI x1), some (vI x2), some (vI x3), o4, o5] [] S Q := by
  refine Ev.iload_n dX11_edge_0 rfl rfl ?_
  exact Ev.callS (as := [vI x1]) (rest := []) okX11_isWire stX11_isWire ml_X11_206 rfl (Nat.le_of_ble_eq_true rfl) rfl dX11_edge_1 hC (fun r S' h => by obtain ⟨v, rfl, h⟩ := h; exact kk v S' h)
theorem bkX11_edge_4 {d : Nat} {S : hs_T} {Q : Option av_T → hs_T → Prop} {x1 x2 x3 y0 : Int32} {o4 o5 : Option av_T} (kt : y0 = 0 → Ev d mX11_edge 11 [some (vR 11 0), some (vI x1), some (vI x2), some (vI x3), o4, o5] [] S Q) (kf : ¬ y0 = 0 → Ev d mX11_edge 7 [some (vR 11 0), some (vI x1), some (vI x2), some (vI x3), o4, o5] [] S Q) : Ev d mX11_edge 4 [some (vR 11 0), some (vI x1), some (vI x2), some (vI x3), o4, o5] [vI y0] S Q := by
  exact Ev.if_eq (tgt := 11) dX11_edge_4 (by decide) kt kf
theorem bkX11_edge_7 {d : Nat} {S : hs_T} {Q : Option av_T → hs_T → Prop} {x1 x2 x3 : Int32} {o4 o5 : Option av_T} (kt : 0 ≤ x3 → Ev d mX11_edge 13 [some (vR 11 0), some (vI x1), some (vI x2), some (vI x3), o4, o5] [] S Q) (kf : ¬ 0 ≤ x3 → Ev d mX11_edge 11 [some (vR 11 0), some (vI x1), some (vI x2), some (vI x3), o4, o5] [] S Q) : Ev d mX11_edge 7 [some (vR 11 0), some (vI x1), some (vI x2), some (vI x3), o4, o5] [] S Q := by
  refine Ev.iload_n dX11_edge_7 rfl rfl ?_
  exact Ev.if_ge (tgt := 13) dX11_edge_8 (by decide) kt kf
theorem bkX11_edge_11 {d : Nat} {S : hs_T} {Q : Option av_T → hs_T → Prop} {x1 x2 x3 : Int32} {o4 o5 : Option av_T} (hq : Q (some (vI (-1))) S) : Ev d mX11_edge 11 [some (vR 11 0), some (vI x1), some (vI x2), some (vI x3), o4, o5] [] S Q := by
  refine Ev.iconst (v := (-1)) dX11_edge_11 (by decide) ?_
  exact Ev.iret dX11_edge_12 rfl rfl hq
theorem bkX11_edge_13 {d : Nat} {S : hs_T} {Q : Option av_T → hs_T → Prop} {x1 x2 x3 : Int32} {o4 o5 : Option av_T} (kn : Ev d mX11_edge 19 [some (vR 11 0), some (vI x1), some (vI x2), some (vI x3), some (vI 0), some (vI 0)] [] S Q) : Ev d mX11_edge 13 [some (vR 11 0), some (vI x1), some (vI x2), some (vI x3), o4, o5] [] S Q := by
  refine Ev.iconst (v := 0) dX11_edge_13 (by decide) ?_
  refine Ev.istore (ls' := [some (vR 11 0), some (vI x1), some (vI x2), some (vI x3), some (vI 0), o5]) dX11_edge_14 (by decide) rfl ?_
  refine Ev.iconst (v := 0) dX11_edge_16 (by decide) ?_
  refine Ev.istore (ls' := [some (vR 11 0), some (vI x1), some (vI x2), some (vI x3), some (vI 0), some (vI 0)]) dX11_edge_17 (by decide) rfl ?_
  exact kn
theorem bkX11_edge_19 {d : Nat} {S : hs_T} {Q : Option av_T → hs_T → Prop} {x1 x2 x3 x4 x5 : Int32} (kt : (S.1 11 0 3) ≤ x5 → Ev d mX11_edge 57 [some (vR 11 0), some (vI x1), some (vI x2), some (vI x3), some (vI x4), some (vI x5)] [] S Q) (kf : ¬ (S.1 11 0 3) ≤ x5 → Ev d mX11_edge 28 [some (vR 11 0), some (vI x1), some (vI x2), some (vI x3), some (vI x4), some (vI x5)] [] S Q) : Ev d mX11_edge 19 [some (vR 11 0), some (vI x1), some (vI x2), some (vI x3), some (vI x4), some (vI x5)] [] S Q := by
  refine Ev.iload dX11_edge_19 rfl ?_
  refine Ev.aload_n dX11_edge_21 rfl rfl ?_
  refine Ev.get (v := vI (S.1 11 0 3)) okX11 (by decide) fl_X11_144 pz_11_0 (ff_11_3 _ _) dX11_edge_22 ?_
  exact Ev.icmp_ge (tgt := 57) dX11_edge_25 (by decide) kt kf
theorem bkX11_edge_28 {d : Nat} {S : hs_T} {Q : Option av_T → hs_T → Prop} {P : Int32 → hs_T → Prop} {x1 x2 x3 x4 x5 : Int32} (hC : Ci d mX11_isEdge [vR 11 0, vI x1, vI x2, vI x5] S P) (kk : ∀ v S', P v S' → Ev (d + 1) mX11_edge 36 [some (vR 11 0), some (vI x1), some (vI x2), some (vI x3), some (vI x4), some (vI x5)] [vI v] S' Q) : Ev (d + 1) mX11_edge 28 [some (vR 11 0), some (vI x1), some (vI x2), some (vI x3), some (vI x4), some (vI x5)] [] S Q := by
  refine Ev.aload_n dX11_edge_28 rfl rfl ?_
  refine Ev.iload_n dX11_edge_29 rfl rfl ?_
  refine Ev.iload_n dX11_edge_30 rfl rfl ?_
  refine Ev.iload dX11_edge_31 rfl ?_
  exact Ev.callV (as := [vI x1, vI x2, vI x5]) (rest := []) okX11_isEdge in_X11_isEdge ml_X11_209 rfl (Nat.le_of_ble_eq_true rfl) pz_11_0 (by decide) rfl rfl dX11_edge_33 hC (fun r S' h => by obtain ⟨v, rfl, h⟩ := h; exact kk v S' h)
theorem bkX11_edge_36 {d : Nat} {S : hs_T} {Q : Option av_T → hs_T → Prop} {x1 x2 x3 x4 x5 y0 : Int32} (kt : y0 = 0 → Ev d mX11_edge 51 [some (vR 11 0), some (vI x1), some (vI x2), some (vI x3), some (vI x4), some (vI x5)] [] S Q) (kf : ¬ y0 = 0 → Ev d mX11_edge 39 [some (vR 11 0), some (vI x1), some (vI x2), some (vI x3), some (vI x4), some (vI x5)] [] S Q) : Ev d mX11_edge 36 [some (vR 11 0), some (vI x1), some (vI x2), some (vI x3), some (vI x4), some (vI x5)] [vI y0] S Q := by
  exact Ev.if_eq (tgt := 51) dX11_edge_36 (by decide) kt kf
theorem bkX11_edge_39 {d : Nat} {S : hs_T} {Q : Option av_T → hs_T → Prop} {x1 x2 x3 x4 x5 : Int32} (kt : ¬ x4 = x3 → Ev d mX11_edge 48 [some (vR 11 0), some (vI x1), some (vI x2), some (vI x3), some (vI x4), some (vI x5)] [] S Q) (kf : x4 = x3 → Ev d mX11_edge 45 [some (vR 11 0), some (vI x1), some (vI x2), some (vI x3), some (vI x4), some (vI x5)] [] S Q) : Ev d mX11_edge 39 [some (vR 11 0), some (vI x1), some (vI x2), some (vI x3), some (vI x4), some (vI x5)] [] S Q := by
  refine Ev.iload dX11_edge_39 rfl ?_
  refine Ev.iload_n dX11_edge_41 rfl rfl ?_
  exact Ev.icmp_ne (tgt := 48) dX11_edge_42 (by decide) kt kf
theorem bkX11_edge_45 {d : Nat} {S : hs_T} {Q : Option av_T → hs_T → Prop} {x1 x2 x3 x4 x5 : Int32} (hq : Q (some (vI x5)) S) : Ev d mX11_edge 45 [some (vR 11 0), some (vI x1), some (vI x2), some (vI x3), some (vI x4), some (vI x5)] [] S Q := by
  refine Ev.iload dX11_edge_45 rfl ?_
  exact Ev.iret dX11_edge_47 rfl rfl hq
theorem bkX11_edge_48 {d : Nat} {S : hs_T} {Q : Option av_T → hs_T → Prop} {x1 x2 x3 x4 x5 : Int32} (kn : Ev d mX11_edge 51 [some (vR 11 0), some (vI x1), some (vI x2), some (vI x3), some (vI (x4 + 1)), some (vI x5)] [] S Q) : Ev d mX11_edge 48 [some (vR 11 0), some (vI x1), some (vI x2), some (vI x3), some (vI x4), some (vI x5)] [] S Q := by
  refine Ev.iinc (v := (x4 + 1)) (ls' := [some (vR 11 0), some (vI x1), some (vI x2), some (vI x3), some (vI (x4 + 1)), some (vI x5)]) dX11_edge_48 rfl rfl (by decide) rfl ?_
  exact kn
theorem bkX11_edge_51 {d : Nat} {S : hs_T} {Q : Option av_T → hs_T → Prop} {x1 x2 x3 x4 x5 : Int32} (kn : Ev d mX11_edge 19 [some (vR 11 0), some (vI x1), some (vI x2), some (vI x3), some (vI x4), some (vI (x5 + 1))] [] S Q) : Ev d mX11_edge 51 [some (vR 11 0), some (vI x1), some (vI x2), some (vI x3), some (vI x4), some (vI x5)] [] S Q := by
  refine Ev.iinc (v := (x5 + 1)) (ls' := [some (vR 11 0), some (vI x1), some (vI x2), some (vI x3), some (vI x4), some (vI (x5 + 1))]) dX11_edge_51 rfl rfl (by decide) rfl ?_
  refine Ev.goto (tgt := 19) dX11_edge_54 (by decide) ?_
  exact kn
theorem bkX11_edge_57 {d : Nat} {S : hs_T} {Q : Option av_T → hs_T → Prop} {x1 x2 x3 x4 x5 : Int32} (hq : Q (some (vI (-4))) S) : Ev d mX11_edge 57 [some (vR 11 0), some (vI x1), some (vI x2), some (vI x3), some (vI x4), some (vI x5)] [] S Q := by
  refine Ev.bipush (v := (-4)) dX11_edge_57 (by decide) ?_
  exact Ev.iret dX11_edge_59 rfl rfl hq
/-! EightWiresModel.endOf(II)I -/
theorem bkX11_endOf_0 {d : Nat} {S : hs_T} {Q : Option av_T → hs_T → Prop} {x1 x2 : Int32} {o3 : Option av_T} (kn : Ev d mX11_endOf 2 [some (vR 11 0), some (vI x1), some (vI x2), some (vI x2)] [] S Q) : Ev d mX11_endOf 0 [some (vR 11 0), some (vI x1), some (vI x2), o3] [] S Q := by
  refine Ev.iload_n dX11_endOf_0 rfl rfl ?_
  refine Ev.istore_n (ls' := [some (vR 11 0), some (vI x1), some (vI x2), some (vI x2)]) dX11_endOf_1 rfl (by decide) rfl ?_
  exact kn
theorem bkX11_endOf_2 {d : Nat} {S : hs_T} {Q : Option av_T → hs_T → Prop} {x1 x2 x3 : Int32} (kt : (S.1 11 0 3) ≤ x3 → Ev d mX11_endOf 31 [some (vR 11 0), some (vI x1), some (vI x2), some (vI x3)] [] S Q) (kf : ¬ (S.1 11 0 3) ≤ x3 → Ev d mX11_endOf 10 [some (vR 11 0), some (vI x1), some (vI x2), some (vI x3)] [] S Q) : Ev d mX11_endOf 2 [some (vR 11 0), some (vI x1), some (vI x2), some (vI x3)] [] S Q := by
  refine Ev.iload_n dX11_endOf_2 rfl rfl ?_
  refine Ev.aload_n dX11_endOf_3 rfl rfl ?_
  refine Ev.get (v := vI (S.1 11 0 3)) okX11 (by decide) fl_X11_144 pz_11_0 (ff_11_3 _ _) dX11_endOf_4 ?_
  exact Ev.icmp_ge (tgt := 31) dX11_endOf_7 (by decide) kt kf
theorem bkX11_endOf_10 {d : Nat} {S : hs_T} {Q : Option av_T → hs_T → Prop} {P : Int32 → hs_T → Prop} {x1 x2 x3 : Int32} (hC : Ci d mX11_isHigh [vR 11 0, vI x1, vI x3] S P) (kk : ∀ v S', P v S' → Ev (d + 1) mX11_endOf 16 [some (vR 11 0), some (vI x1), some (vI x2), some (vI x3)] [vI v] S' Q) : Ev (d + 1) mX11_endOf 10 [some (vR 11 0), some (vI x1), some (vI x2), some (vI x3)] [] S Q := by
  refine Ev.aload_n dX11_endOf_10 rfl rfl ?_
  refine Ev.iload_n dX11_endOf_11 rfl rfl ?_
  refine Ev.iload_n dX11_endOf_12 rfl rfl ?_
  exact Ev.callV (as := [vI x1, vI x3]) (rest := []) okX11_isHigh in_X11_isHigh ml_X11_155 rfl (Nat.le_of_ble_eq_true rfl) pz_11_0 (by decide) rfl rfl dX11_endOf_13 hC (fun r S' h => by obtain ⟨v, rfl, h⟩ := h; exact kk v S' h)
theorem bkX11_endOf_16 {d : Nat} {S : hs_T} {Q : Option av_T → hs_T → Prop} {P : Int32 → hs_T → Prop} {x1 x2 x3 y0 : Int32} (hC : Ci d mX11_isHigh [vR 11 0, vI x1, vI x2] S P) (kk : ∀ v S', P v S' → Ev (d + 1) mX11_endOf 22 [some (vR 11 0), some (vI x1), some (vI x2), some (vI x3)] [vI v, vI y0] S' Q) : Ev (d + 1) mX11_endOf 16 [some (vR 11 0), some (vI x1), some (vI x2), some (vI x3)] [vI y0] S Q := by
  refine Ev.aload_n dX11_endOf_16 rfl rfl ?_
  refine Ev.iload_n dX11_endOf_17 rfl rfl ?_
  refine Ev.iload_n dX11_endOf_18 rfl rfl ?_
  exact Ev.callV (as := [vI x1, vI x2]) (rest := [vI y0]) okX11_isHigh in_X11_isHigh ml_X11_155 rfl (Nat.le_of_ble_eq_true rfl) pz_11_0 (by decide) rfl rfl dX11_endOf_19 hC (fun r S' h => by obtain ⟨v, rfl, h⟩ := h; exact kk v S' h)
theorem bkX11_endOf_22 {d : Nat} {S : hs_T} {Q : Option av_T → hs_T → Prop} {x1 x2 x3 y0 y1 : Int32} (kt : ¬ y1 = y0 → Ev d mX11_endOf 31 [some (vR 11 0), some (vI x1), some (vI x2), some (vI x3)] [] S Q) (kf : y1 = y0 → Ev d mX11_endOf 25 [some (vR 11 0), some (vI x1), some (vI x2), some (vI x3)] [] S Q) : Ev d mX11_endOf 22 [some (vR 11 0), some (vI x1), some (vI x2), some (vI x3)] [vI y0, vI y1] S Q := by
  exact Ev.icmp_ne (tgt := 31) dX11_endOf_22 (by decide) kt kf
theorem bkX11_endOf_25 {d : Nat} {S : hs_T} {Q : Option av_T → hs_T → Prop} {x1 x2 x3 : Int32} (kn : Ev d mX11_endOf 2 [some (vR 11 0), some (vI x1), some (vI x2), some (vI (x3 + 1))] [] S Q) : Ev d mX11_endOf 25 [some (vR 11 0), some (vI x1), some (vI x2), some (vI x3)] [] S Q := by
  refine Ev.iinc (v := (x3 + 1)) (ls' := [some (vR 11 0), some (vI x1), some (vI x2), some (vI (x3 + 1))]) dX11_endOf_25 rfl rfl (by decide) rfl ?_
  refine Ev.goto (tgt := 2) dX11_endOf_28 (by decide) ?_
  exact kn
theorem bkX11_endOf_31 {d : Nat} {S : hs_T} {Q : Option av_T → hs_T → Prop} {x1 x2 x3 : Int32} (hq : Q (some (vI x3)) S) : Ev d mX11_endOf 31 [some (vR 11 0), some (vI x1), some (vI x2), some (vI x3)] [] S Q := by
  refine Ev.iload_n dX11_endOf_31 rfl rfl ?_
  exact Ev.iret dX11_endOf_32 rfl rfl hq
/-! EightWiresModel.noPulses()V -/
theorem bkX11_noPulses_0 {d : Nat} {S : hs_T} {Q : Option av_T → hs_T → Prop} (hq : Q none (sk_ (sk_ (sk_ (sk_ (sk_ S 11 0 (upd (S.1 11 0) 21 0)) 11 0 (upd ((sk_ S 11 0 (upd (S.1 11 0) 21 0)).1 11 0) 22 (-4))) 11 0 (upd ((sk_ (sk_ S 11 0 (upd (S.1 11 0) 21 0)) 11 0 (upd ((sk_ S 11 0 (upd (S.1 11 0) 21 0)).1 11 0) 22 (-4))).1 11 0) 23 (-4))) 11 0 (upd ((sk_ (sk_ (sk_ S 11 0 (upd (S.1 11 0) 21 0)) 11 0 (upd ((sk_ S 11 0 (upd (S.1 11 0) 21 0)).1 11 0) 22 (-4))) 11 0 (upd ((sk_ (sk_ S 11 0 (upd (S.1 11 0) 21 0)) 11 0 (upd ((sk_ S 11 0 (upd (S.1 11 0) 21 0)).1 11 0) 22 (-4))).1 11 0) 23 (-4))).1 11 0) 24 (-4))) 11 0 (upd ((sk_ (sk_ (sk_ (sk_ S 11 0 (upd (S.1 11 0) 21 0)) 11 0 (upd ((sk_ S 11 0 (upd (S.1 11 0) 21 0)).1 11 0) 22 (-4))) 11 0 (upd ((sk_ (sk_ S 11 0 (upd (S.1 11 0) 21 0)) 11 0 (upd ((sk_ S 11 0 (upd (S.1 11 0) 21 0)).1 11 0) 22 (-4))).1 11 0) 23 (-4))) 11 0 (upd ((sk_ (sk_ (sk_ S 11 0 (upd (S.1 11 0) 21 0)) 11 0 (upd ((sk_ S 11 0 (upd (S.1 11 0) 21 0)).1 11 0) 22 (-4))) 11 0 (upd ((sk_ (sk_ S 11 0 (upd (S.1 11 0) 21 0)) 11 0 (upd ((sk_ S 11 0 (upd (S.1 11 0) 21 0)).1 11 0) 22 (-4))).1 11 0) 23 (-4))).1 11 0) 24 (-4))).1 11 0) 25 (-4)))) : Ev d mX11_noPulses 0 [some (vR 11 0)] [] S Q := by
  refine Ev.aload_n dX11_noPulses_0 rfl rfl ?_
  refine Ev.iconst (v := 0) dX11_noPulses_1 (by decide) ?_
  refine Ev.put okX11 (by decide) fl_X11_217 pz_11_0 (by decide) rfl rfl rfl rfl dX11_noPulses_2 ?_
  refine Ev.aload_n dX11_noPulses_5 rfl rfl ?_
  refine Ev.bipush (v := (-4)) dX11_noPulses_6 (by decide) ?_
  refine Ev.put okX11 (by decide) fl_X11_220 pz_11_0 (by decide) rfl rfl rfl rfl dX11_noPulses_8 ?_
  refine Ev.aload_n dX11_noPulses_11 rfl rfl ?_
  refine Ev.bipush (v := (-4)) dX11_noPulses_12 (by decide) ?_
  refine Ev.put okX11 (by decide) fl_X11_223 pz_11_0 (by decide) rfl rfl rfl rfl dX11_noPulses_14 ?_
  refine Ev.aload_n dX11_noPulses_17 rfl rfl ?_
  refine Ev.bipush (v := (-4)) dX11_noPulses_18 (by decide) ?_
  refine Ev.put okX11 (by decide) fl_X11_226 pz_11_0 (by decide) rfl rfl rfl rfl dX11_noPulses_20 ?_
  refine Ev.aload_n dX11_noPulses_23 rfl rfl ?_
  refine Ev.bipush (v := (-4)) dX11_noPulses_24 (by decide) ?_
  refine Ev.put okX11 (by decide) fl_X11_229 pz_11_0 (by decide) rfl rfl rfl rfl dX11_noPulses_26 ?_
  exact Ev.vret dX11_noPulses_29 rfl hq
/-! EightWiresModel.findPulses(II)V -/
theorem bkX11_findPulses_0 {d : Nat} {S : hs_T} {Q : Option av_T → hs_T → Prop} {x1 x2 : Int32} {o3 o4 : Option av_T} (kn : Ev d mX11_findPulses 2 [some (vR 11 0), some (vI x1), some (vI x2), some (vI 0), o4] [] S Q) : Ev d mX11_findPulses 0 [some (vR 11 0), some (vI x1), some (vI x2), o3, o4] [] S Q := by
  refine Ev.iconst (v := 0) dX11_findPulses_0 (by decide) ?_
  refine Ev.istore_n (ls' := [some (vR 11 0), some (vI x1), some (vI x2), some (vI 0), o4]) dX11_findPulses_1 rfl (by decide) rfl ?_
  exact kn
theorem bkX11_findPulses_2 {d : Nat} {S : hs_T} {Q : Option av_T → hs_T → Prop} {x1 x2 x3 : Int32} {o4 : Option av_T} (kt : (S.1 11 0 3) ≤ x3 → Ev d mX11_findPulses 176 [some (vR 11 0), some (vI x1), some (vI x2), some (vI x3), o4] [] S Q) (kf : ¬ (S.1 11 0 3) ≤ x3 → Ev d mX11_findPulses 10 [some (vR 11 0), some (vI x1), some (vI x2), some (vI x3), o4] [] S Q) : Ev d mX11_findPulses 2 [some (vR 11 0), some (vI x1), some (vI x2), some (vI x3), o4] [] S Q := by
  refine Ev.iload_n dX11_findPulses_2 rfl rfl ?_
  refine Ev.aload_n dX11_findPulses_3 rfl rfl ?_
  refine Ev.get (v := vI (S.1 11 0 3)) okX11 (by decide) fl_X11_144 pz_11_0 (ff_11_3 _ _) dX11_findPulses_4 ?_
  exact Ev.icmp_ge (tgt := 176) dX11_findPulses_7 (by decide) kt kf
theorem bkX11_findPulses_10 {d : Nat} {S : hs_T} {Q : Option av_T → hs_T → Prop} {P : Int32 → hs_T → Prop} {x1 x2 x3 : Int32} {o4 : Option av_T} (hC : Ci d mX11_endOf [vR 11 0, vI x1, vI x3] S P) (kk : ∀ v S', P v S' → Ev (d + 1) mX11_findPulses 16 [some (vR 11 0), some (vI x1), some (vI x2), some (vI x3), o4] [vI v] S' Q) : Ev (d + 1) mX11_findPulses 10 [some (vR 11 0), some (vI x1), some (vI x2), some (vI x3), o4] [] S Q := by
  refine Ev.aload_n dX11_findPulses_10 rfl rfl ?_
  refine Ev.iload_n dX11_findPulses_11 rfl rfl ?_
  refine Ev.iload_n dX11_findPulses_12 rfl rfl ?_
  exact Ev.callV (as := [vI x1, vI x3]) (rest := []) okX11_endOf in_X11_endOf ml_X11_232 rfl (Nat.le_of_ble_eq_true rfl) pz_11_0 (by decide) rfl rfl dX11_findPulses_13 hC (fun r S' h => by obtain ⟨v, rfl, h⟩ := h; exact kk v S' h)
theorem bkX11_findPulses_16 {d : Nat} {S : hs_T} {Q : Option av_T → hs_T → Prop} {x1 x2 x3 y0 : Int32} {o4 : Option av_T} (kt : x3 ≤ 0 → Ev d mX11_findPulses 170 [some (vR 11 0), some (vI x1), some (vI x2), some (vI x3), some (vI y0)] [] S Q) (kf : ¬ x3 ≤ 0 → Ev d mX11_findPulses 22 [some (vR 11 0), some (vI x1), some (vI x2), some (vI x3), some (vI y0)] [] S Q) : Ev d mX11_findPulses 16 [some (vR 11 0), some (vI x1), some (vI x2), some (vI x3), o4] [vI y0] S Q := by
  refine Ev.istore (ls' := [some (vR 11 0), some (vI x1), some (vI x2), some (vI x3), some (vI y0)]) dX11_findPulses_16 (by decide) rfl ?_
  refine Ev.iload_n dX11_findPulses_18 rfl rfl ?_
  exact Ev.if_le (tgt := 170) dX11_findPulses_19 (by decide) kt kf
theorem bkX11_findPulses_22 {d : Nat} {S : hs_T} {Q : Option av_T → hs_T → Prop} {x1 x2 x3 x4 : Int32} (kt : (S.1 11 0 3) ≤ x4 → Ev d mX11_findPulses 170 [some (vR 11 0), some (vI x1), some (vI x2), some (vI x3), some (vI x4)] [] S Q) (kf : ¬ (S.1 11 0 3) ≤ x4 → Ev d mX11_findPulses 31 [some (vR 11 0), some (vI x1), some (vI x2), some (vI x3), some (vI x4)] [] S Q) : Ev d mX11_findPulses 22 [some (vR 11 0), some (vI x1), some (vI x2), some (vI x3), some (vI x4)] [] S Q := by
  refine Ev.iload dX11_findPulses_22 rfl ?_
  refine Ev.aload_n dX11_findPulses_24 rfl rfl ?_
  refine Ev.get (v := vI (S.1 11 0 3)) okX11 (by decide) fl_X11_144 pz_11_0 (ff_11_3 _ _) dX11_findPulses_25 ?_
  exact Ev.icmp_ge (tgt := 170) dX11_findPulses_28 (by decide) kt kf
theorem bkX11_findPulses_31 {d : Nat} {S : hs_T} {Q : Option av_T → hs_T → Prop} {P : Int32 → hs_T → Prop} {x1 x2 x3 x4 : Int32} (hC : Ci d mX11_isHigh [vR 11 0, vI x1, vI x3] S P) (kk : ∀ v S', P v S' → Ev (d + 1) mX11_findPulses 38 [some (vR 11 0), some (vI x1), some (vI x2), some (vI x3), some (vI x4)] [vI v, vI x2] S' Q) : Ev (d + 1) mX11_findPulses 31 [some (vR 11 0), some (vI x1), some (vI x2), some (vI x3), some (vI x4)] [] S Q := by
  refine Ev.iload_n dX11_findPulses_31 rfl rfl ?_
  refine Ev.aload_n dX11_findPulses_32 rfl rfl ?_
  refine Ev.iload_n dX11_findPulses_33 rfl rfl ?_
  refine Ev.iload_n dX11_findPulses_34 rfl rfl ?_
  exact Ev.callV (as := [vI x1, vI x3]) (rest := [vI x2]) okX11_isHigh in_X11_isHigh ml_X11_155 rfl (Nat.le_of_ble_eq_true rfl) pz_11_0 (by decide) rfl rfl dX11_findPulses_35 hC (fun r S' h => by obtain ⟨v, rfl, h⟩ := h; exact kk v S' h)
theorem bkX11_findPulses_38 {d : Nat} {S : hs_T} {Q : Option av_T → hs_T → Prop} {P : Int32 → hs_T → Prop} {x1 x2 x3 x4 y0 y1 : Int32} (hC : Ci d mX11_flag [vI y0] S P) (kk : ∀ v S', P v S' → Ev (d + 1) mX11_findPulses 41 [some (vR 11 0), some (vI x1), some (vI x2), some (vI x3), some (vI x4)] [vI v, vI y1] S' Q) : Ev (d + 1) mX11_findPulses 38 [some (vR 11 0), some (vI x1), some (vI x2), some (vI x3), some (vI x4)] [vI y0, vI y1] S Q := by
  exact Ev.callS (as := [vI y0]) (rest := [vI y1]) okX11_flag stX11_flag ml_X11_213 rfl (Nat.le_of_ble_eq_true rfl) rfl dX11_findPulses_38 hC (fun r S' h => by obtain ⟨v, rfl, h⟩ := h; exact kk v S' h)
theorem bkX11_findPulses_41 {d : Nat} {S : hs_T} {Q : Option av_T → hs_T → Prop} {x1 x2 x3 x4 y0 y1 : Int32} (kt : ¬ ((y1 >>> (y0 &&& 31)) &&& 1) = 1 → Ev d mX11_findPulses 170 [some (vR 11 0), some (vI x1), some (vI x2), some (vI x3), some (vI x4)] [] S Q) (kf : ((y1 >>> (y0 &&& 31)) &&& 1) = 1 → Ev d mX11_findPulses 48 [some (vR 11 0), some (vI x1), some (vI x2), some (vI x3), some (vI x4)] [] S Q) : Ev d mX11_findPulses 41 [some (vR 11 0), some (vI x1), some (vI x2), some (vI x3), some (vI x4)] [vI y0, vI y1] S Q := by
  refine Ev.ishr dX11_findPulses_41 ?_
  refine Ev.iconst (v := 1) dX11_findPulses_42 (by decide) ?_
  refine Ev.iand dX11_findPulses_43 ?_
  refine Ev.iconst (v := 1) dX11_findPulses_44 (by decide) ?_
  exact Ev.icmp_ne (tgt := 170) dX11_findPulses_45 (by decide) kt kf
theorem bkX11_findPulses_48 {d : Nat} {S : hs_T} {Q : Option av_T → hs_T → Prop} {x1 x2 x3 x4 : Int32} (kt : ((sk_ S 11 0 (upd (S.1 11 0) 21 ((S.1 11 0 21) + 1))).1 11 0 22) = (-4) → Ev d mX11_findPulses 79 [some (vR 11 0), some (vI x1), some (vI x2), some (vI x3), some (vI x4)] [vR 11 0] (sk_ S 11 0 (upd (S.1 11 0) 21 ((S.1 11 0 21) + 1))) Q) (kf : ¬ ((sk_ S 11 0 (upd (S.1 11 0) 21 ((S.1 11 0 21) + 1))).1 11 0 22) = (-4) → Ev d mX11_findPulses 68 [some (vR 11 0), some (vI x1), some (vI x2), some (vI x3), some (vI x4)] [vR 11 0] (sk_ S 11 0 (upd (S.1 11 0) 21 ((S.1 11 0 21) + 1))) Q) : Ev d mX11_findPulses 48 [some (vR 11 0), some (vI x1), some (vI x2), some (vI x3), some (vI x4)] [] S Q := by
  refine Ev.aload_n dX11_findPulses_48 rfl rfl ?_
  refine Ev.dup dX11_findPulses_49 rfl ?_
  refine Ev.get (v := vI (S.1 11 0 21)) okX11 (by decide) fl_X11_217 pz_11_0 (ff_11_21 _ _) dX11_findPulses_50 ?_
  refine Ev.iconst (v := 1) dX11_findPulses_53 (by decide) ?_
  refine Ev.iadd dX11_findPulses_54 ?_
  refine Ev.put okX11 (by decide) fl_X11_217 pz_11_0 (by decide) rfl rfl rfl rfl dX11_findPulses_55 ?_
  refine Ev.aload_n dX11_findPulses_58 rfl rfl ?_
  refine Ev.aload_n dX11_findPulses_59 rfl rfl ?_
  refine Ev.get (v := vI ((sk_ S 11 0 (upd (S.1 11 0) 21 ((S.1 11 0 21) + 1))).1 11 0 22)) okX11 (by decide) fl_X11_220 pz_11_0 (ff_11_22 _ _) dX11_findPulses_60 ?_
  refine Ev.bipush (v := (-4)) dX11_findPulses_63 (by decide) ?_
  exact Ev.icmp_eq (tgt := 79) dX11_findPulses_65 (by decide) kt kf
theorem bkX11_findPulses_68 {d : Nat} {S : hs_T} {Q : Option av_T → hs_T → Prop} {x1 x2 x3 x4 : Int32} (kt : (S.1 11 0 22) ≤ (x4 - x3) → Ev d mX11_findPulses 83 [some (vR 11 0), some (vI x1), some (vI x2), some (vI x3), some (vI x4)] [vR 11 0] S Q) (kf : ¬ (S.1 11 0 22) ≤ (x4 - x3) → Ev d mX11_findPulses 79 [some (vR 11 0), some (vI x1), some (vI x2), some (vI x3), some (vI x4)] [vR 11 0] S Q) : Ev d mX11_findPulses 68 [some (vR 11 0), some (vI x1), some (vI x2), some (vI x3), some (vI x4)] [vR 11 0] S Q := by
  refine Ev.iload dX11_findPulses_68 rfl ?_
  refine Ev.iload_n dX11_findPulses_70 rfl rfl ?_
  refine Ev.isub dX11_findPulses_71 ?_
  refine Ev.aload_n dX11_findPulses_72 rfl rfl ?_
  refine Ev.get (v := vI (S.1 11 0 22)) okX11 (by decide) fl_X11_220 pz_11_0 (ff_11_22 _ _) dX11_findPulses_73 ?_
  exact Ev.icmp_ge (tgt := 83) dX11_findPulses_76 (by decide) kt kf
theorem bkX11_findPulses_79 {d : Nat} {S : hs_T} {Q : Option av_T → hs_T → Prop} {x1 x2 x3 x4 : Int32} (kn : Ev d mX11_findPulses 87 [some (vR 11 0), some (vI x1), some (vI x2), some (vI x3), some (vI x4)] [vI x3, vR 11 0] S Q) : Ev d mX11_findPulses 79 [some (vR 11 0), some (vI x1), some (vI x2), some (vI x3), some (vI x4)] [vR 11 0] S Q := by
  refine Ev.iload_n dX11_findPulses_79 rfl rfl ?_
  refine Ev.goto (tgt := 87) dX11_findPulses_80 (by decide) ?_
  exact kn
theorem bkX11_findPulses_83 {d : Nat} {S : hs_T} {Q : Option av_T → hs_T → Prop} {x1 x2 x3 x4 : Int32} (kn : Ev d mX11_findPulses 87 [some (vR 11 0), some (vI x1), some (vI x2), some (vI x3), some (vI x4)] [vI (S.1 11 0 23), vR 11 0] S Q) : Ev d mX11_findPulses 83 [some (vR 11 0), some (vI x1), some (vI x2), some (vI x3), some (vI x4)] [vR 11 0] S Q := by
  refine Ev.aload_n dX11_findPulses_83 rfl rfl ?_
  refine Ev.get (v := vI (S.1 11 0 23)) okX11 (by decide) fl_X11_223 pz_11_0 (ff_11_23 _ _) dX11_findPulses_84 ?_
  exact kn
theorem bkX11_findPulses_87 {d : Nat} {S : hs_T} {Q : Option av_T → hs_T → Prop} {x1 x2 x3 x4 y0 : Int32} (kt : ¬ ((sk_ S 11 0 (upd (S.1 11 0) 23 y0)).1 11 0 22) = (-4) → Ev d mX11_findPulses 107 [some (vR 11 0), some (vI x1), some (vI x2), some (vI x3), some (vI x4)] [vR 11 0] (sk_ S 11 0 (upd (S.1 11 0) 23 y0)) Q) (kf : ((sk_ S 11 0 (upd (S.1 11 0) 23 y0)).1 11 0 22) = (-4) → Ev d mX11_findPulses 100 [some (vR 11 0), some (vI x1), some (vI x2), some (vI x3), some (vI x4)] [vR 11 0] (sk_ S 11 0 (upd (S.1 11 0) 23 y0)) Q) : Ev d mX11_findPulses 87 [some (vR 11 0), some (vI x1), some (vI x2), some (vI x3), some (vI x4)] [vI y0, vR 11 0] S Q := by
  refine Ev.put okX11 (by decide) fl_X11_223 pz_11_0 (by decide) rfl rfl rfl rfl dX11_findPulses_87 ?_
  refine Ev.aload_n dX11_findPulses_90 rfl rfl ?_
  refine Ev.aload_n dX11_findPulses_91 rfl rfl ?_
  refine Ev.get (v := vI ((sk_ S 11 0 (upd (S.1 11 0) 23 y0)).1 11 0 22)) okX11 (by decide) fl_X11_220 pz_11_0 (ff_11_22 _ _) dX11_findPulses_92 ?_
  refine Ev.bipush (v := (-4)) dX11_findPulses_95 (by decide) ?_
  exact Ev.icmp_ne (tgt := 107) dX11_findPulses_97 (by decide) kt kf
theorem bkX11_findPulses_100 {d : Nat} {S : hs_T} {Q : Option av_T → hs_T → Prop} {x1 x2 x3 x4 : Int32} (kn : Ev d mX11_findPulses 118 [some (vR 11 0), some (vI x1), some (vI x2), some (vI x3), some (vI x4)] [vI (x4 - x3), vR 11 0] S Q) : Ev d mX11_findPulses 100 [some (vR 11 0), some (vI x1), some (vI x2), some (vI x3), some (vI x4)] [vR 11 0] S Q := by
  refine Ev.iload dX11_findPulses_100 rfl ?_
  refine Ev.iload_n dX11_findPulses_102 rfl rfl ?_
  refine Ev.isub dX11_findPulses_103 ?_
  refine Ev.goto (tgt := 118) dX11_findPulses_104 (by decide) ?_
  exact kn
theorem bkX11_findPulses_107 {d : Nat} {S : hs_T} {Q : Option av_T → hs_T → Prop} {P : Int32 → hs_T → Prop} {x1 x2 x3 x4 : Int32} (hC : Ci d mX11_less [vI (S.1 11 0 22), vI (x4 - x3)] S P) (kk : ∀ v S', P v S' → Ev (d + 1) mX11_findPulses 118 [some (vR 11 0), some (vI x1), some (vI x2), some (vI x3), some (vI x4)] [vI v, vR 11 0] S' Q) : Ev (d + 1) mX11_findPulses 107 [some (vR 11 0), some (vI x1), some (vI x2), some (vI x3), some (vI x4)] [vR 11 0] S Q := by
  refine Ev.aload_n dX11_findPulses_107 rfl rfl ?_
  refine Ev.get (v := vI (S.1 11 0 22)) okX11 (by decide) fl_X11_220 pz_11_0 (ff_11_22 _ _) dX11_findPulses_108 ?_
  refine Ev.iload dX11_findPulses_111 rfl ?_
  refine Ev.iload_n dX11_findPulses_113 rfl rfl ?_
  refine Ev.isub dX11_findPulses_114 ?_
  exact Ev.callS (as := [vI (S.1 11 0 22), vI (x4 - x3)]) (rest := [vR 11 0]) okX11_less stX11_less ml_X11_198 rfl (Nat.le_of_ble_eq_true rfl) rfl dX11_findPulses_115 hC (fun r S' h => by obtain ⟨v, rfl, h⟩ := h; exact kk v S' h)
theorem bkX11_findPulses_118 {d : Nat} {S : hs_T} {Q : Option av_T → hs_T → Prop} {x1 x2 x3 x4 y0 : Int32} (kt : (x4 - x3) ≤ ((sk_ S 11 0 (upd (S.1 11 0) 22 y0)).1 11 0 24) → Ev d mX11_findPulses 137 [some (vR 11 0), some (vI x1), some (vI x2), some (vI x3), some (vI x4)] [vR 11 0] (sk_ S 11 0 (upd (S.1 11 0) 22 y0)) Q) (kf : ¬ (x4 - x3) ≤ ((sk_ S 11 0 (upd (S.1 11 0) 22 y0)).1 11 0 24) → Ev d mX11_findPulses 133 [some (vR 11 0), some (vI x1), some (vI x2), some (vI x3), some (vI x4)] [vR 11 0] (sk_ S 11 0 (upd (S.1 11 0) 22 y0)) Q) : Ev d mX11_findPulses 118 [some (vR 11 0), some (vI x1), some (vI x2), some (vI x3), some (vI x4)] [vI y0, vR 11 0] S Q := by
  refine Ev.put okX11 (by decide) fl_X11_220 pz_11_0 (by decide) rfl rfl rfl rfl dX11_findPulses_118 ?_
  refine Ev.aload_n dX11_findPulses_121 rfl rfl ?_
  refine Ev.iload dX11_findPulses_122 rfl ?_
  refine Ev.iload_n dX11_findPulses_124 rfl rfl ?_
  refine Ev.isub dX11_findPulses_125 ?_
  refine Ev.aload_n dX11_findPulses_126 rfl rfl ?_
  refine Ev.get (v := vI ((sk_ S 11 0 (upd (S.1 11 0) 22 y0)).1 11 0 24)) okX11 (by decide) fl_X11_226 pz_11_0 (ff_11_24 _ _) dX11_findPulses_127 ?_
  exact Ev.icmp_le (tgt := 137) dX11_findPulses_130 (by decide) kt kf
theorem bkX11_findPulses_133 {d : Nat} {S : hs_T} {Q : Option av_T → hs_T → Prop} {x1 x2 x3 x4 : Int32} (kn : Ev d mX11_findPulses 141 [some (vR 11 0), some (vI x1), some (vI x2), some (vI x3), some (vI x4)] [vI x3, vR 11 0] S Q) : Ev d mX11_findPulses 133 [some (vR 11 0), some (vI x1), some (vI x2), some (vI x3), some (vI x4)] [vR 11 0] S Q := by
  refine Ev.iload_n dX11_findPulses_133 rfl rfl ?_
  refine Ev.goto (tgt := 141) dX11_findPulses_134 (by decide) ?_
  exact kn
theorem bkX11_findPulses_137 {d : Nat} {S : hs_T} {Q : Option av_T → hs_T → Prop} {x1 x2 x3 x4 : Int32} (kn : Ev d mX11_findPulses 141 [some (vR 11 0), some (vI x1), some (vI x2), some (vI x3), some (vI x4)] [vI (S.1 11 0 25), vR 11 0] S Q) : Ev d mX11_findPulses 137 [some (vR 11 0), some (vI x1), some (vI x2), some (vI x3), some (vI x4)] [vR 11 0] S Q := by
  refine Ev.aload_n dX11_findPulses_137 rfl rfl ?_
  refine Ev.get (v := vI (S.1 11 0 25)) okX11 (by decide) fl_X11_229 pz_11_0 (ff_11_25 _ _) dX11_findPulses_138 ?_
  exact kn
theorem bkX11_findPulses_141 {d : Nat} {S : hs_T} {Q : Option av_T → hs_T → Prop} {x1 x2 x3 x4 y0 : Int32} (kt : (x4 - x3) ≤ ((sk_ S 11 0 (upd (S.1 11 0) 25 y0)).1 11 0 24) → Ev d mX11_findPulses 163 [some (vR 11 0), some (vI x1), some (vI x2), some (vI x3), some (vI x4)] [vR 11 0] (sk_ S 11 0 (upd (S.1 11 0) 25 y0)) Q) (kf : ¬ (x4 - x3) ≤ ((sk_ S 11 0 (upd (S.1 11 0) 25 y0)).1 11 0 24) → Ev d mX11_findPulses 156 [some (vR 11 0), some (vI x1), some (vI x2), some (vI x3), some (vI x4)] [vR 11 0] (sk_ S 11 0 (upd (S.1 11 0) 25 y0)) Q) : Ev d mX11_findPulses 141 [some (vR 11 0), some (vI x1), some (vI x2), some (vI x3), some (vI x4)] [vI y0, vR 11 0] S Q := by
  refine Ev.put okX11 (by decide) fl_X11_229 pz_11_0 (by decide) rfl rfl rfl rfl dX11_findPulses_141 ?_
  refine Ev.aload_n dX11_findPulses_144 rfl rfl ?_
  refine Ev.iload dX11_findPulses_145 rfl ?_
  refine Ev.iload_n dX11_findPulses_147 rfl rfl ?_
  refine Ev.isub dX11_findPulses_148 ?_
  refine Ev.aload_n dX11_findPulses_149 rfl rfl ?_
  refine Ev.get (v := vI ((sk_ S 11 0 (upd (S.1 11 0) 25 y0)).1 11 0 24)) okX11 (by decide) fl_X11_226 pz_11_0 (ff_11_24 _ _) dX11_findPulses_150 ?_
  exact Ev.icmp_le (tgt := 163) dX11_findPulses_153 (by decide) kt kf
theorem bkX11_findPulses_156 {d : Nat} {S : hs_T} {Q : Option av_T → hs_T → Prop} {x1 x2 x3 x4 : Int32} (kn : Ev d mX11_findPulses 167 [some (vR 11 0), some (vI x1), some (vI x2), some (vI x3), some (vI x4)] [vI (x4 - x3), vR 11 0] S Q) : Ev d mX11_findPulses 156 [some (vR 11 0), some (vI x1), some (vI x2), some (vI x3), some (vI x4)] [vR 11 0] S Q := by
  refine Ev.iload dX11_findPulses_156 rfl ?_
  refine Ev.iload_n dX11_findPulses_158 rfl rfl ?_
  refine Ev.isub dX11_findPulses_159 ?_
  refine Ev.goto (tgt := 167) dX11_findPulses_160 (by decide) ?_
  exact kn
theorem bkX11_findPulses_163 {d : Nat} {S : hs_T} {Q : Option av_T → hs_T → Prop} {x1 x2 x3 x4 : Int32} (kn : Ev d mX11_findPulses 167 [some (vR 11 0), some (vI x1), some (vI x2), some (vI x3), some (vI x4)] [vI (S.1 11 0 24), vR 11 0] S Q) : Ev d mX11_findPulses 163 [some (vR 11 0), some (vI x1), some (vI x2), some (vI x3), some (vI x4)] [vR 11 0] S Q := by
  refine Ev.aload_n dX11_findPulses_163 rfl rfl ?_
  refine Ev.get (v := vI (S.1 11 0 24)) okX11 (by decide) fl_X11_226 pz_11_0 (ff_11_24 _ _) dX11_findPulses_164 ?_
  exact kn
theorem bkX11_findPulses_167 {d : Nat} {S : hs_T} {Q : Option av_T → hs_T → Prop} {x1 x2 x3 x4 y0 : Int32} (kn : Ev d mX11_findPulses 170 [some (vR 11 0), some (vI x1), some (vI x2), some (vI x3), some (vI x4)] [] (sk_ S 11 0 (upd (S.1 11 0) 24 y0)) Q) : Ev d mX11_findPulses 167 [some (vR 11 0), some (vI x1), some (vI x2), some (vI x3), some (vI x4)] [vI y0, vR 11 0] S Q := by
  refine Ev.put okX11 (by decide) fl_X11_226 pz_11_0 (by decide) rfl rfl rfl rfl dX11_findPulses_167 ?_
  exact kn
theorem bkX11_findPulses_170 {d : Nat} {S : hs_T} {Q : Option av_T → hs_T → Prop} {x1 x2 x3 x4 : Int32} (kn : Ev d mX11_findPulses 2 [some (vR 11 0), some (vI x1), some (vI x2), some (vI x4), some (vI x4)] [] S Q) : Ev d mX11_findPulses 170 [some (vR 11 0), some (vI x1), some (vI x2), some (vI x3), some (vI x4)] [] S Q := by
  refine Ev.iload dX11_findPulses_170 rfl ?_
  refine Ev.istore_n (ls' := [some (vR 11 0), some (vI x1), some (vI x2), some (vI x4), some (vI x4)]) dX11_findPulses_172 rfl (by decide) rfl ?_
  refine Ev.goto (tgt := 2) dX11_findPulses_173 (by decide) ?_
  exact kn
theorem bkX11_findPulses_176 {d : Nat} {S : hs_T} {Q : Option av_T → hs_T → Prop} {x1 x2 x3 : Int32} {o4 : Option av_T} (hq : Q none S) : Ev d mX11_findPulses 176 [some (vR 11 0), some (vI x1), some (vI x2), some (vI x3), o4] [] S Q := by
  exact Ev.vret dX11_findPulses_176 rfl hq
/-! EightWiresModel.pulse(III)I -/
theorem bkX11_pulse_0 {d : Nat} {S : hs_T} {Q : Option av_T → hs_T → Prop} {P : Int32 → hs_T → Prop} {x1 x2 x3 : Int32} (hC : Ci d mX11_isWire [vI x1] S P) (kk : ∀ v S', P v S' → Ev (d + 1) mX11_pulse 4 [some (vR 11 0), some (vI x1), some (vI x2), some (vI x3)] [vI v] S' Q) : Ev (d + 1) mX11_pulse 0 [some (vR 11 0), some (vI x1), some (vI x2), some (vI x3)] [] S Q := by
  refine Ev.iload_n dX11_pulse_0 rfl rfl ?_
  exact Ev.callS (as := [vI x1]) (rest := []) okX11_isWire stX11_isWire ml_X11_206 rfl (Nat.le_of_ble_eq_true rfl) rfl dX11_pulse_1 hC (fun r S' h => by obtain ⟨v, rfl, h⟩ := h; exact kk v S' h)
theorem bkX11_pulse_4 {d : Nat} {S : hs_T} {Q : Option av_T → hs_T → Prop} {x1 x2 x3 y0 : Int32} (kt : y0 = 0 → Ev d mX11_pulse 29 [some (vR 11 0), some (vI x1), some (vI x2), some (vI x3)] [] S Q) (kf : ¬ y0 = 0 → Ev d mX11_pulse 7 [some (vR 11 0), some (vI x1), some (vI x2), some (vI x3)] [] S Q) : Ev d mX11_pulse 4 [some (vR 11 0), some (vI x1), some (vI x2), some (vI x3)] [vI y0] S Q := by
  exact Ev.if_eq (tgt := 29) dX11_pulse_4 (by decide) kt kf
theorem bkX11_pulse_7 {d : Nat} {S : hs_T} {Q : Option av_T → hs_T → Prop} {P : Int32 → hs_T → Prop} {x1 x2 x3 : Int32} (hC : Ci d mX11_in [vJ x2.toInt64, vJ 0, vJ 1] S P) (kk : ∀ v S', P v S' → Ev (d + 1) mX11_pulse 14 [some (vR 11 0), some (vI x1), some (vI x2), some (vI x3)] [vI v] S' Q) : Ev (d + 1) mX11_pulse 7 [some (vR 11 0), some (vI x1), some (vI x2), some (vI x3)] [] S Q := by
  refine Ev.iload_n dX11_pulse_7 rfl rfl ?_
  refine Ev.i2l dX11_pulse_8 ?_
  refine Ev.lconst (v := 0) dX11_pulse_9 (by decide) ?_
  refine Ev.lconst (v := 1) dX11_pulse_10 (by decide) ?_
  exact Ev.callS (as := [vJ x2.toInt64, vJ 0, vJ 1]) (rest := []) okX11_in stX11_in ml_X11_58 rfl (Nat.le_of_ble_eq_true rfl) rfl dX11_pulse_11 hC (fun r S' h => by obtain ⟨v, rfl, h⟩ := h; exact kk v S' h)
theorem bkX11_pulse_14 {d : Nat} {S : hs_T} {Q : Option av_T → hs_T → Prop} {x1 x2 x3 y0 : Int32} (kt : y0 = 0 → Ev d mX11_pulse 29 [some (vR 11 0), some (vI x1), some (vI x2), some (vI x3)] [] S Q) (kf : ¬ y0 = 0 → Ev d mX11_pulse 17 [some (vR 11 0), some (vI x1), some (vI x2), some (vI x3)] [] S Q) : Ev d mX11_pulse 14 [some (vR 11 0), some (vI x1), some (vI x2), some (vI x3)] [vI y0] S Q := by
  exact Ev.if_eq (tgt := 29) dX11_pulse_14 (by decide) kt kf
theorem bkX11_pulse_17 {d : Nat} {S : hs_T} {Q : Option av_T → hs_T → Prop} {P : Int32 → hs_T → Prop} {x1 x2 x3 : Int32} (hC : Ci d mX11_in [vJ x3.toInt64, vJ 0, vJ 4] S P) (kk : ∀ v S', P v S' → Ev (d + 1) mX11_pulse 26 [some (vR 11 0), some (vI x1), some (vI x2), some (vI x3)] [vI v] S' Q) : Ev (d + 1) mX11_pulse 17 [some (vR 11 0), some (vI x1), some (vI x2), some (vI x3)] [] S Q := by
  refine Ev.iload_n dX11_pulse_17 rfl rfl ?_
  refine Ev.i2l dX11_pulse_18 ?_
  refine Ev.lconst (v := 0) dX11_pulse_19 (by decide) ?_
  refine Ev.ldc2 kl_X11_235 dX11_pulse_20 ?_
  exact Ev.callS (as := [vJ x3.toInt64, vJ 0, vJ 4]) (rest := []) okX11_in stX11_in ml_X11_58 rfl (Nat.le_of_ble_eq_true rfl) rfl dX11_pulse_23 hC (fun r S' h => by obtain ⟨v, rfl, h⟩ := h; exact kk v S' h)
theorem bkX11_pulse_26 {d : Nat} {S : hs_T} {Q : Option av_T → hs_T → Prop} {x1 x2 x3 y0 : Int32} (kt : ¬ y0 = 0 → Ev d mX11_pulse 31 [some (vR 11 0), some (vI x1), some (vI x2), some (vI x3)] [] S Q) (kf : y0 = 0 → Ev d mX11_pulse 29 [some (vR 11 0), some (vI x1), some (vI x2), some (vI x3)] [] S Q) : Ev d mX11_pulse 26 [some (vR 11 0), some (vI x1), some (vI x2), some (vI x3)] [vI y0] S Q := by
  exact Ev.if_ne (tgt := 31) dX11_pulse_26 (by decide) kt kf
theorem bkX11_pulse_29 {d : Nat} {S : hs_T} {Q : Option av_T → hs_T → Prop} {x1 x2 x3 : Int32} (hq : Q (some (vI (-1))) S) : Ev d mX11_pulse 29 [some (vR 11 0), some (vI x1), some (vI x2), some (vI x3)] [] S Q := by
  refine Ev.iconst (v := (-1)) dX11_pulse_29 (by decide) ?_
  exact Ev.iret dX11_pulse_30 rfl rfl hq
theorem bkX11_pulse_31 {d : Nat} {S : hs_T} {Q : Option av_T → hs_T → Prop} {P : hs_T → Prop} {x1 x2 x3 : Int32} (hC : Cv d mX11_noPulses [vR 11 0] S P) (kk : ∀ S', P S' → Ev (d + 1) mX11_pulse 35 [some (vR 11 0), some (vI x1), some (vI x2), some (vI x3)] [] S' Q) : Ev (d + 1) mX11_pulse 31 [some (vR 11 0), some (vI x1), some (vI x2), some (vI x3)] [] S Q := by
  refine Ev.aload_n dX11_pulse_31 rfl rfl ?_
  exact Ev.callV (as := []) (rest := []) okX11_noPulses in_X11_noPulses ml_X11_237 rfl (Nat.le_of_ble_eq_true rfl) pz_11_0 (by decide) rfl rfl dX11_pulse_32 hC (fun r S' h => by obtain ⟨rfl, h⟩ := h; exact kk S' h)
theorem bkX11_pulse_35 {d : Nat} {S : hs_T} {Q : Option av_T → hs_T → Prop} {P : hs_T → Prop} {x1 x2 x3 : Int32} (hC : Cv d mX11_findPulses [vR 11 0, vI x1, vI (1 <<< (x2 &&& 31))] S P) (kk : ∀ S', P S' → Ev (d + 1) mX11_pulse 43 [some (vR 11 0), some (vI x1), some (vI x2), some (vI x3)] [] S' Q) : Ev (d + 1) mX11_pulse 35 [some (vR 11 0), some (vI x1), some (vI x2), some (vI x3)] [] S Q := by
  refine Ev.aload_n dX11_pulse_35 rfl rfl ?_
  refine Ev.iload_n dX11_pulse_36 rfl rfl ?_
  refine Ev.iconst (v := 1) dX11_pulse_37 (by decide) ?_
  refine Ev.iload_n dX11_pulse_38 rfl rfl ?_
  refine Ev.ishl dX11_pulse_39 ?_
  exact Ev.callV (as := [vI x1, vI (1 <<< (x2 &&& 31))]) (rest := []) okX11_findPulses in_X11_findPulses ml_X11_240 rfl (Nat.le_of_ble_eq_true rfl) pz_11_0 (by decide) rfl rfl dX11_pulse_40 hC (fun r S' h => by obtain ⟨rfl, h⟩ := h; exact kk S' h)
theorem bkX11_pulse_43 {d : Nat} {S : hs_T} {Q : Option av_T → hs_T → Prop} {x1 x2 x3 : Int32} (kt : ¬ x3 = 0 → Ev d mX11_pulse 54 [some (vR 11 0), some (vI x1), some (vI x2), some (vI x3)] [] S Q) (kf : x3 = 0 → Ev d mX11_pulse 47 [some (vR 11 0), some (vI x1), some (vI x2), some (vI x3)] [] S Q) : Ev d mX11_pulse 43 [some (vR 11 0), some (vI x1), some (vI x2), some (vI x3)] [] S Q := by
  refine Ev.iload_n dX11_pulse_43 rfl rfl ?_
  exact Ev.if_ne (tgt := 54) dX11_pulse_44 (by decide) kt kf
theorem bkX11_pulse_47 {d : Nat} {S : hs_T} {Q : Option av_T → hs_T → Prop} {x1 x2 x3 : Int32} (kn : Ev d mX11_pulse 94 [some (vR 11 0), some (vI x1), some (vI x2), some (vI x3)] [vI (S.1 11 0 21)] S Q) : Ev d mX11_pulse 47 [some (vR 11 0), some (vI x1), some (vI x2), some (vI x3)] [] S Q := by
  refine Ev.aload_n dX11_pulse_47 rfl rfl ?_
  refine Ev.get (v := vI (S.1 11 0 21)) okX11 (by decide) fl_X11_217 pz_11_0 (ff_11_21 _ _) dX11_pulse_48 ?_
  refine Ev.goto (tgt := 94) dX11_pulse_51 (by decide) ?_
  exact kn
theorem bkX11_pulse_54 {d : Nat} {S : hs_T} {Q : Option av_T → hs_T → Prop} {x1 x2 x3 : Int32} (kt : ¬ x3 = 1 → Ev d mX11_pulse 66 [some (vR 11 0), some (vI x1), some (vI x2), some (vI x3)] [] S Q) (kf : x3 = 1 → Ev d mX11_pulse 59 [some (vR 11 0), some (vI x1), some (vI x2), some (vI x3)] [] S Q) : Ev d mX11_pulse 54 [some (vR 11 0), some (vI x1), some (vI x2), some (vI x3)] [] S Q := by
  refine Ev.iload_n dX11_pulse_54 rfl rfl ?_
  refine Ev.iconst (v := 1) dX11_pulse_55 (by decide) ?_
  exact Ev.icmp_ne (tgt := 66) dX11_pulse_56 (by decide) kt kf
theorem bkX11_pulse_59 {d : Nat} {S : hs_T} {Q : Option av_T → hs_T → Prop} {x1 x2 x3 : Int32} (kn : Ev d mX11_pulse 94 [some (vR 11 0), some (vI x1), some (vI x2), some (vI x3)] [vI (S.1 11 0 22)] S Q) : Ev d mX11_pulse 59 [some (vR 11 0), some (vI x1), some (vI x2), some (vI x3)] [] S Q := by
  refine Ev.aload_n dX11_pulse_59 rfl rfl ?_
  refine Ev.get (v := vI (S.1 11 0 22)) okX11 (by decide) fl_X11_220 pz_11_0 (ff_11_22 _ _) dX11_pulse_60 ?_
  refine Ev.goto (tgt := 94) dX11_pulse_63 (by decide) ?_
  exact kn
theorem bkX11_pulse_66 {d : Nat} {S : hs_T} {Q : Option av_T → hs_T → Prop} {x1 x2 x3 : Int32} (kt : ¬ x3 = 2 → Ev d mX11_pulse 78 [some (vR 11 0), some (vI x1), some (vI x2), some (vI x3)] [] S Q) (kf : x3 = 2 → Ev d mX11_pulse 71 [some (vR 11 0), some (vI x1), some (vI x2), some (vI x3)] [] S Q) : Ev d mX11_pulse 66 [some (vR 11 0), some (vI x1), some (vI x2), some (vI x3)] [] S Q := by
  refine Ev.iload_n dX11_pulse_66 rfl rfl ?_
  refine Ev.iconst (v := 2) dX11_pulse_67 (by decide) ?_
  exact Ev.icmp_ne (tgt := 78) dX11_pulse_68 (by decide) kt kf
theorem bkX11_pulse_71 {d : Nat} {S : hs_T} {Q : Option av_T → hs_T → Prop} {x1 x2 x3 : Int32} (kn : Ev d mX11_pulse 94 [some (vR 11 0), some (vI x1), some (vI x2), some (vI x3)] [vI (S.1 11 0 23)] S Q) : Ev d mX11_pulse 71 [some (vR 11 0), some (vI x1), some (vI x2), some (vI x3)] [] S Q := by
  refine Ev.aload_n dX11_pulse_71 rfl rfl ?_
  refine Ev.get (v := vI (S.1 11 0 23)) okX11 (by decide) fl_X11_223 pz_11_0 (ff_11_23 _ _) dX11_pulse_72 ?_
  refine Ev.goto (tgt := 94) dX11_pulse_75 (by decide) ?_
  exact kn
theorem bkX11_pulse_78 {d : Nat} {S : hs_T} {Q : Option av_T → hs_T → Prop} {x1 x2 x3 : Int32} (kt : ¬ x3 = 3 → Ev d mX11_pulse 90 [some (vR 11 0), some (vI x1), some (vI x2), some (vI x3)] [] S Q) (kf : x3 = 3 → Ev d mX11_pulse 83 [some (vR 11 0), some (vI x1), some (vI x2), some (vI x3)] [] S Q) : Ev d mX11_pulse 78 [some (vR 11 0), some (vI x1), some (vI x2), some (vI x3)] [] S Q := by
  refine Ev.iload_n dX11_pulse_78 rfl rfl ?_
  refine Ev.iconst (v := 3) dX11_pulse_79 (by decide) ?_
  exact Ev.icmp_ne (tgt := 90) dX11_pulse_80 (by decide) kt kf
theorem bkX11_pulse_83 {d : Nat} {S : hs_T} {Q : Option av_T → hs_T → Prop} {x1 x2 x3 : Int32} (kn : Ev d mX11_pulse 94 [some (vR 11 0), some (vI x1), some (vI x2), some (vI x3)] [vI (S.1 11 0 24)] S Q) : Ev d mX11_pulse 83 [some (vR 11 0), some (vI x1), some (vI x2), some (vI x3)] [] S Q := by
  refine Ev.aload_n dX11_pulse_83 rfl rfl ?_
  refine Ev.get (v := vI (S.1 11 0 24)) okX11 (by decide) fl_X11_226 pz_11_0 (ff_11_24 _ _) dX11_pulse_84 ?_
  refine Ev.goto (tgt := 94) dX11_pulse_87 (by decide) ?_
  exact kn
theorem bkX11_pulse_90 {d : Nat} {S : hs_T} {Q : Option av_T → hs_T → Prop} {x1 x2 x3 : Int32} (kn : Ev d mX11_pulse 94 [some (vR 11 0), some (vI x1), some (vI x2), some (vI x3)] [vI (S.1 11 0 25)] S Q) : Ev d mX11_pulse 90 [some (vR 11 0), some (vI x1), some (vI x2), some (vI x3)] [] S Q := by
  refine Ev.aload_n dX11_pulse_90 rfl rfl ?_
  refine Ev.get (v := vI (S.1 11 0 25)) okX11 (by decide) fl_X11_229 pz_11_0 (ff_11_25 _ _) dX11_pulse_91 ?_
  exact kn
theorem bkX11_pulse_94 {d : Nat} {S : hs_T} {Q : Option av_T → hs_T → Prop} {x1 x2 x3 y0 : Int32} (hq : Q (some (vI y0)) S) : Ev d mX11_pulse 94 [some (vR 11 0), some (vI x1), some (vI x2), some (vI x3)] [vI y0] S Q := by
  exact Ev.iret dX11_pulse_94 rfl rfl hq
/-! EightWiresModel.told(III)I -/
theorem bkX11_told_0 {d : Nat} {S : hs_T} {Q : Option av_T → hs_T → Prop} {x0 x1 x2 : Int32} {o3 o4 o5 : Option av_T} (kn : Ev d mX11_told 5 [some (vI x0), some (vI x1), some (vI x2), some (vI x1), some (vI x0), o5] [] S Q) : Ev d mX11_told 0 [some (vI x0), some (vI x1), some (vI x2), o3, o4, o5] [] S Q := by
  refine Ev.iload_n dX11_told_0 rfl rfl ?_
  refine Ev.istore_n (ls' := [some (vI x0), some (vI x1), some (vI x2), some (vI x1), o4, o5]) dX11_told_1 rfl (by decide) rfl ?_
  refine Ev.iload_n dX11_told_2 rfl rfl ?_
  refine Ev.istore (ls' := [some (vI x0), some (vI x1), some (vI x2), some (vI x1), some (vI x0), o5]) dX11_told_3 (by decide) rfl ?_
  exact kn
theorem bkX11_told_5 {d : Nat} {S : hs_T} {Q : Option av_T → hs_T → Prop} {x0 x1 x2 x3 x4 : Int32} {o5 : Option av_T} (kt : x4 = 0 → Ev d mX11_told 26 [some (vI x0), some (vI x1), some (vI x2), some (vI x3), some (vI x4), o5] [] S Q) (kf : ¬ x4 = 0 → Ev d mX11_told 10 [some (vI x0), some (vI x1), some (vI x2), some (vI x3), some (vI x4), o5] [] S Q) : Ev d mX11_told 5 [some (vI x0), some (vI x1), some (vI x2), some (vI x3), some (vI x4), o5] [] S Q := by
  refine Ev.iload dX11_told_5 rfl ?_
  exact Ev.if_eq (tgt := 26) dX11_told_7 (by decide) kt kf
theorem bkX11_told_10 {d : Nat} {S : hs_T} {Q : Option av_T → hs_T → Prop} {x0 x1 x2 x3 x4 : Int32} {o5 : Option av_T} (hz13 : ¬ x4 = 0) (kn : Ev d mX11_told 5 [some (vI x0), some (vI x1), some (vI x2), some (vI x4), some (vI (x3 - x3 / x4 * x4)), some (vI (x3 - x3 / x4 * x4))] [] S Q) : Ev d mX11_told 10 [some (vI x0), some (vI x1), some (vI x2), some (vI x3), some (vI x4), o5] [] S Q := by
  refine Ev.iload_n dX11_told_10 rfl rfl ?_
  refine Ev.iload dX11_told_11 rfl ?_
  refine Ev.irem dX11_told_13 hz13 ?_
  refine Ev.istore (ls' := [some (vI x0), some (vI x1), some (vI x2), some (vI x3), some (vI x4), some (vI (x3 - x3 / x4 * x4))]) dX11_told_14 (by decide) rfl ?_
  refine Ev.iload dX11_told_16 rfl ?_
  refine Ev.istore_n (ls' := [some (vI x0), some (vI x1), some (vI x2), some (vI x4), some (vI x4), some (vI (x3 - x3 / x4 * x4))]) dX11_told_18 rfl (by decide) rfl ?_
  refine Ev.iload dX11_told_19 rfl ?_
  refine Ev.istore (ls' := [some (vI x0), some (vI x1), some (vI x2), some (vI x4), some (vI (x3 - x3 / x4 * x4)), some (vI (x3 - x3 / x4 * x4))]) dX11_told_21 (by decide) rfl ?_
  refine Ev.goto (tgt := 5) dX11_told_23 (by decide) ?_
  exact kn
theorem bkX11_told_26 {d : Nat} {S : hs_T} {Q : Option av_T → hs_T → Prop} {x0 x1 x2 x3 x4 : Int32} {o5 : Option av_T} (kt : ¬ x2 = 0 → Ev d mX11_told 36 [some (vI x0), some (vI x1), some (vI x2), some (vI x3), some (vI x4), o5] [] S Q) (kf : x2 = 0 → Ev d mX11_told 30 [some (vI x0), some (vI x1), some (vI x2), some (vI x3), some (vI x4), o5] [] S Q) : Ev d mX11_told 26 [some (vI x0), some (vI x1), some (vI x2), some (vI x3), some (vI x4), o5] [] S Q := by
  refine Ev.iload_n dX11_told_26 rfl rfl ?_
  exact Ev.if_ne (tgt := 36) dX11_told_27 (by decide) kt kf
theorem bkX11_told_30 {d : Nat} {S : hs_T} {Q : Option av_T → hs_T → Prop} {x0 x1 x2 x3 x4 : Int32} {o5 : Option av_T} (hz32 : ¬ x3 = 0) (kn : Ev d mX11_told 39 [some (vI x0), some (vI x1), some (vI x2), some (vI x3), some (vI x4), o5] [vI (x0 / x3)] S Q) : Ev d mX11_told 30 [some (vI x0), some (vI x1), some (vI x2), some (vI x3), some (vI x4), o5] [] S Q := by
  refine Ev.iload_n dX11_told_30 rfl rfl ?_
  refine Ev.iload_n dX11_told_31 rfl rfl ?_
  refine Ev.idiv dX11_told_32 hz32 ?_
  refine Ev.goto (tgt := 39) dX11_told_33 (by decide) ?_
  exact kn
theorem bkX11_told_36 {d : Nat} {S : hs_T} {Q : Option av_T → hs_T → Prop} {x0 x1 x2 x3 x4 : Int32} {o5 : Option av_T} (hz38 : ¬ x3 = 0) (kn : Ev d mX11_told 39 [some (vI x0), some (vI x1), some (vI x2), some (vI x3), some (vI x4), o5] [vI (x1 / x3)] S Q) : Ev d mX11_told 36 [some (vI x0), some (vI x1), some (vI x2), some (vI x3), some (vI x4), o5] [] S Q := by
  refine Ev.iload_n dX11_told_36 rfl rfl ?_
  refine Ev.iload_n dX11_told_37 rfl rfl ?_
  refine Ev.idiv dX11_told_38 hz38 ?_
  exact kn
theorem bkX11_told_39 {d : Nat} {S : hs_T} {Q : Option av_T → hs_T → Prop} {x0 x1 x2 x3 x4 y0 : Int32} {o5 : Option av_T} (hq : Q (some (vI y0)) S) : Ev d mX11_told 39 [some (vI x0), some (vI x1), some (vI x2), some (vI x3), some (vI x4), o5] [vI y0] S Q := by
  exact Ev.iret dX11_told_39 rfl rfl hq
/-! EightWiresModel.duty(II)I -/
theorem bkX11_duty_0 {d : Nat} {S : hs_T} {Q : Option av_T → hs_T → Prop} {P : Int32 → hs_T → Prop} {x1 x2 : Int32} {o3 o4 o5 o6 : Option av_T} (hC : Ci d mX11_isWire [vI x1] S P) (kk : ∀ v S', P v S' → Ev (d + 1) mX11_duty 4 [some (vR 11 0), some (vI x1), some (vI x2), o3, o4, o5, o6] [vI v] S' Q) : Ev (d + 1) mX11_duty 0 [some (vR 11 0), some (vI x1), some (vI x2), o3, o4, o5, o6] [] S Q := by
  refine Ev.iload_n dX11_duty_0 rfl rfl ?_
  exact Ev.callS (as := [vI x1]) (rest := []) okX11_isWire stX11_isWire ml_X11_206 rfl (Nat.le_of_ble_eq_true rfl) rfl dX11_duty_1 hC (fun r S' h => by obtain ⟨v, rfl, h⟩ := h; exact kk v S' h)
theorem bkX11_duty_4 {d : Nat} {S : hs_T} {Q : Option av_T → hs_T → Prop} {x1 x2 y0 : Int32} {o3 o4 o5 o6 : Option av_T} (kt : y0 = 0 → Ev d mX11_duty 17 [some (vR 11 0), some (vI x1), some (vI x2), o3, o4, o5, o6] [] S Q) (kf : ¬ y0 = 0 → Ev d mX11_duty 7 [some (vR 11 0), some (vI x1), some (vI x2), o3, o4, o5, o6] [] S Q) : Ev d mX11_duty 4 [some (vR 11 0), some (vI x1), some (vI x2), o3, o4, o5, o6] [vI y0] S Q := by
  exact Ev.if_eq (tgt := 17) dX11_duty_4 (by decide) kt kf
theorem bkX11_duty_7 {d : Nat} {S : hs_T} {Q : Option av_T → hs_T → Prop} {P : Int32 → hs_T → Prop} {x1 x2 : Int32} {o3 o4 o5 o6 : Option av_T} (hC : Ci d mX11_in [vJ x2.toInt64, vJ 0, vJ 1] S P) (kk : ∀ v S', P v S' → Ev (d + 1) mX11_duty 14 [some (vR 11 0), some (vI x1), some (vI x2), o3, o4, o5, o6] [vI v] S' Q) : Ev (d + 1) mX11_duty 7 [some (vR 11 0), some (vI x1), some (vI x2), o3, o4, o5, o6] [] S Q := by
  refine Ev.iload_n dX11_duty_7 rfl rfl ?_
  refine Ev.i2l dX11_duty_8 ?_
  refine Ev.lconst (v := 0) dX11_duty_9 (by decide) ?_
  refine Ev.lconst (v := 1) dX11_duty_10 (by decide) ?_
  exact Ev.callS (as := [vJ x2.toInt64, vJ 0, vJ 1]) (rest := []) okX11_in stX11_in ml_X11_58 rfl (Nat.le_of_ble_eq_true rfl) rfl dX11_duty_11 hC (fun r S' h => by obtain ⟨v, rfl, h⟩ := h; exact kk v S' h)
theorem bkX11_duty_14 {d : Nat} {S : hs_T} {Q : Option av_T → hs_T → Prop} {x1 x2 y0 : Int32} {o3 o4 o5 o6 : Option av_T} (kt : ¬ y0 = 0 → Ev d mX11_duty 19 [some (vR 11 0), some (vI x1), some (vI x2), o3, o4, o5, o6] [] S Q) (kf : y0 = 0 → Ev d mX11_duty 17 [some (vR 11 0), some (vI x1), some (vI x2), o3, o4, o5, o6] [] S Q) : Ev d mX11_duty 14 [some (vR 11 0), some (vI x1), some (vI x2), o3, o4, o5, o6] [vI y0] S Q := by
  exact Ev.if_ne (tgt := 19) dX11_duty_14 (by decide) kt kf
theorem bkX11_duty_17 {d : Nat} {S : hs_T} {Q : Option av_T → hs_T → Prop} {x1 x2 : Int32} {o3 o4 o5 o6 : Option av_T} (hq : Q (some (vI (-1))) S) : Ev d mX11_duty 17 [some (vR 11 0), some (vI x1), some (vI x2), o3, o4, o5, o6] [] S Q := by
  refine Ev.iconst (v := (-1)) dX11_duty_17 (by decide) ?_
  exact Ev.iret dX11_duty_18 rfl rfl hq
theorem bkX11_duty_19 {d : Nat} {S : hs_T} {Q : Option av_T → hs_T → Prop} {x1 x2 : Int32} {o3 o4 o5 o6 : Option av_T} (kn : Ev d mX11_duty 29 [some (vR 11 0), some (vI x1), some (vI x2), some (vI (-4)), some (vI (-4)), some (vI 0), o6] [] S Q) : Ev d mX11_duty 19 [some (vR 11 0), some (vI x1), some (vI x2), o3, o4, o5, o6] [] S Q := by
  refine Ev.bipush (v := (-4)) dX11_duty_19 (by decide) ?_
  refine Ev.istore_n (ls' := [some (vR 11 0), some (vI x1), some (vI x2), some (vI (-4)), o4, o5, o6]) dX11_duty_21 rfl (by decide) rfl ?_
  refine Ev.bipush (v := (-4)) dX11_duty_22 (by decide) ?_
  refine Ev.istore (ls' := [some (vR 11 0), some (vI x1), some (vI x2), some (vI (-4)), some (vI (-4)), o5, o6]) dX11_duty_24 (by decide) rfl ?_
  refine Ev.iconst (v := 0) dX11_duty_26 (by decide) ?_
  refine Ev.istore (ls' := [some (vR 11 0), some (vI x1), some (vI x2), some (vI (-4)), some (vI (-4)), some (vI 0), o6]) dX11_duty_27 (by decide) rfl ?_
  exact kn
theorem bkX11_duty_29 {d : Nat} {S : hs_T} {Q : Option av_T → hs_T → Prop} {x1 x2 x3 x4 x5 : Int32} {o6 : Option av_T} (kt : (S.1 11 0 3) ≤ x5 → Ev d mX11_duty 86 [some (vR 11 0), some (vI x1), some (vI x2), some (vI x3), some (vI x4), some (vI x5), o6] [] S Q) (kf : ¬ (S.1 11 0 3) ≤ x5 → Ev d mX11_duty 38 [some (vR 11 0), some (vI x1), some (vI x2), some (vI x3), some (vI x4), some (vI x5), o6] [] S Q) : Ev d mX11_duty 29 [some (vR 11 0), some (vI x1), some (vI x2), some (vI x3), some (vI x4), some (vI x5), o6] [] S Q := by
  refine Ev.iload dX11_duty_29 rfl ?_
  refine Ev.aload_n dX11_duty_31 rfl rfl ?_
  refine Ev.get (v := vI (S.1 11 0 3)) okX11 (by decide) fl_X11_144 pz_11_0 (ff_11_3 _ _) dX11_duty_32 ?_
  exact Ev.icmp_ge (tgt := 86) dX11_duty_35 (by decide) kt kf
theorem bkX11_duty_38 {d : Nat} {S : hs_T} {Q : Option av_T → hs_T → Prop} {x1 x2 x3 x4 x5 : Int32} {o6 : Option av_T} (kt : ¬ x3 = (-4) → Ev d mX11_duty 59 [some (vR 11 0), some (vI x1), some (vI x2), some (vI x3), some (vI x4), some (vI x5), o6] [] S Q) (kf : x3 = (-4) → Ev d mX11_duty 44 [some (vR 11 0), some (vI x1), some (vI x2), some (vI x3), some (vI x4), some (vI x5), o6] [] S Q) : Ev d mX11_duty 38 [some (vR 11 0), some (vI x1), some (vI x2), some (vI x3), some (vI x4), some (vI x5), o6] [] S Q := by
  refine Ev.iload_n dX11_duty_38 rfl rfl ?_
  refine Ev.bipush (v := (-4)) dX11_duty_39 (by decide) ?_
  exact Ev.icmp_ne (tgt := 59) dX11_duty_41 (by decide) kt kf
theorem bkX11_duty_44 {d : Nat} {S : hs_T} {Q : Option av_T → hs_T → Prop} {P : Int32 → hs_T → Prop} {x1 x2 x3 x4 x5 : Int32} {o6 : Option av_T} (hC : Ci d mX11_rises [vR 11 0, vI x1, vI x5] S P) (kk : ∀ v S', P v S' → Ev (d + 1) mX11_duty 51 [some (vR 11 0), some (vI x1), some (vI x2), some (vI x3), some (vI x4), some (vI x5), o6] [vI v] S' Q) : Ev (d + 1) mX11_duty 44 [some (vR 11 0), some (vI x1), some (vI x2), some (vI x3), some (vI x4), some (vI x5), o6] [] S Q := by
  refine Ev.aload_n dX11_duty_44 rfl rfl ?_
  refine Ev.iload_n dX11_duty_45 rfl rfl ?_
  refine Ev.iload dX11_duty_46 rfl ?_
  exact Ev.callV (as := [vI x1, vI x5]) (rest := []) okX11_rises in_X11_rises ml_X11_159 rfl (Nat.le_of_ble_eq_true rfl) pz_11_0 (by decide) rfl rfl dX11_duty_48 hC (fun r S' h => by obtain ⟨v, rfl, h⟩ := h; exact kk v S' h)
theorem bkX11_duty_51 {d : Nat} {S : hs_T} {Q : Option av_T → hs_T → Prop} {x1 x2 x3 x4 x5 y0 : Int32} {o6 : Option av_T} (kt : y0 = 0 → Ev d mX11_duty 59 [some (vR 11 0), some (vI x1), some (vI x2), some (vI x3), some (vI x4), some (vI x5), o6] [] S Q) (kf : ¬ y0 = 0 → Ev d mX11_duty 54 [some (vR 11 0), some (vI x1), some (vI x2), some (vI x3), some (vI x4), some (vI x5), o6] [] S Q) : Ev d mX11_duty 51 [some (vR 11 0), some (vI x1), some (vI x2), some (vI x3), some (vI x4), some (vI x5), o6] [vI y0] S Q := by
  exact Ev.if_eq (tgt := 59) dX11_duty_51 (by decide) kt kf
theorem bkX11_duty_54 {d : Nat} {S : hs_T} {Q : Option av_T → hs_T → Prop} {x1 x2 x3 x4 x5 : Int32} {o6 : Option av_T} (kn : Ev d mX11_duty 60 [some (vR 11 0), some (vI x1), some (vI x2), some (vI x3), some (vI x4), some (vI x5), o6] [vI x5] S Q) : Ev d mX11_duty 54 [some (vR 11 0), some (vI x1), some (vI x2), some (vI x3), some (vI x4), some (vI x5), o6] [] S Q := by
  refine Ev.iload dX11_duty_54 rfl ?_
  refine Ev.goto (tgt := 60) dX11_duty_56 (by decide) ?_
  exact kn
theorem bkX11_duty_59 {d : Nat} {S : hs_T} {Q : Option av_T → hs_T → Prop} {x1 x2 x3 x4 x5 : Int32} {o6 : Option av_T} (kn : Ev d mX11_duty 60 [some (vR 11 0), some (vI x1), some (vI x2), some (vI x3), some (vI x4), some (vI x5), o6] [vI x3] S Q) : Ev d mX11_duty 59 [some (vR 11 0), some (vI x1), some (vI x2), some (vI x3), some (vI x4), some (vI x5), o6] [] S Q := by
  refine Ev.iload_n dX11_duty_59 rfl rfl ?_
  exact kn
theorem bkX11_duty_60 {d : Nat} {S : hs_T} {Q : Option av_T → hs_T → Prop} {P : Int32 → hs_T → Prop} {x1 x2 x3 x4 x5 y0 : Int32} {o6 : Option av_T} (hC : Ci d mX11_rises [vR 11 0, vI x1, vI x5] S P) (kk : ∀ v S', P v S' → Ev (d + 1) mX11_duty 68 [some (vR 11 0), some (vI x1), some (vI x2), some (vI y0), some (vI x4), some (vI x5), o6] [vI v] S' Q) : Ev (d + 1) mX11_duty 60 [some (vR 11 0), some (vI x1), some (vI x2), some (vI x3), some (vI x4), some (vI x5), o6] [vI y0] S Q := by
  refine Ev.istore_n (ls' := [some (vR 11 0), some (vI x1), some (vI x2), some (vI y0), some (vI x4), some (vI x5), o6]) dX11_duty_60 rfl (by decide) rfl ?_
  refine Ev.aload_n dX11_duty_61 rfl rfl ?_
  refine Ev.iload_n dX11_duty_62 rfl rfl ?_
  refine Ev.iload dX11_duty_63 rfl ?_
  exact Ev.callV (as := [vI x1, vI x5]) (rest := []) okX11_rises in_X11_rises ml_X11_159 rfl (Nat.le_of_ble_eq_true rfl) pz_11_0 (by decide) rfl rfl dX11_duty_65 hC (fun r S' h => by obtain ⟨v, rfl, h⟩ := h; exact kk v S' h)
theorem bkX11_duty_68 {d : Nat} {S : hs_T} {Q : Option av_T → hs_T → Prop} {x1 x2 x3 x4 x5 y0 : Int32} {o6 : Option av_T} (kt : y0 = 0 → Ev d mX11_duty 76 [some (vR 11 0), some (vI x1), some (vI x2), some (vI x3), some (vI x4), some (vI x5), o6] [] S Q) (kf : ¬ y0 = 0 → Ev d mX11_duty 71 [some (vR 11 0), some (vI x1), some (vI x2), some (vI x3), some (vI x4), some (vI x5), o6] [] S Q) : Ev d mX11_duty 68 [some (vR 11 0), some (vI x1), some (vI x2), some (vI x3), some (vI x4), some (vI x5), o6] [vI y0] S Q := by
  exact Ev.if_eq (tgt := 76) dX11_duty_68 (by decide) kt kf
theorem bkX11_duty_71 {d : Nat} {S : hs_T} {Q : Option av_T → hs_T → Prop} {x1 x2 x3 x4 x5 : Int32} {o6 : Option av_T} (kn : Ev d mX11_duty 78 [some (vR 11 0), some (vI x1), some (vI x2), some (vI x3), some (vI x4), some (vI x5), o6] [vI x5] S Q) : Ev d mX11_duty 71 [some (vR 11 0), some (vI x1), some (vI x2), some (vI x3), some (vI x4), some (vI x5), o6] [] S Q := by
  refine Ev.iload dX11_duty_71 rfl ?_
  refine Ev.goto (tgt := 78) dX11_duty_73 (by decide) ?_
  exact kn
theorem bkX11_duty_76 {d : Nat} {S : hs_T} {Q : Option av_T → hs_T → Prop} {x1 x2 x3 x4 x5 : Int32} {o6 : Option av_T} (kn : Ev d mX11_duty 78 [some (vR 11 0), some (vI x1), some (vI x2), some (vI x3), some (vI x4), some (vI x5), o6] [vI x4] S Q) : Ev d mX11_duty 76 [some (vR 11 0), some (vI x1), some (vI x2), some (vI x3), some (vI x4), some (vI x5), o6] [] S Q := by
  refine Ev.iload dX11_duty_76 rfl ?_
  exact kn
theorem bkX11_duty_78 {d : Nat} {S : hs_T} {Q : Option av_T → hs_T → Prop} {x1 x2 x3 x4 x5 y0 : Int32} {o6 : Option av_T} (kn : Ev d mX11_duty 29 [some (vR 11 0), some (vI x1), some (vI x2), some (vI x3), some (vI y0), some (vI (x5 + 1)), o6] [] S Q) : Ev d mX11_duty 78 [some (vR 11 0), some (vI x1), some (vI x2), some (vI x3), some (vI x4), some (vI x5), o6] [vI y0] S Q := by
  refine Ev.istore (ls' := [some (vR 11 0), some (vI x1), some (vI x2), some (vI x3), some (vI y0), some (vI x5), o6]) dX11_duty_78 (by decide) rfl ?_
  refine Ev.iinc (v := (x5 + 1)) (ls' := [some (vR 11 0), some (vI x1), some (vI x2), some (vI x3), some (vI y0), some (vI (x5 + 1)), o6]) dX11_duty_80 rfl rfl (by decide) rfl ?_
  refine Ev.goto (tgt := 29) dX11_duty_83 (by decide) ?_
  exact kn
theorem bkX11_duty_86 {d : Nat} {S : hs_T} {Q : Option av_T → hs_T → Prop} {x1 x2 x3 x4 x5 : Int32} {o6 : Option av_T} (kt : ¬ x3 = x4 → Ev d mX11_duty 95 [some (vR 11 0), some (vI x1), some (vI x2), some (vI x3), some (vI x4), some (vI x5), o6] [] S Q) (kf : x3 = x4 → Ev d mX11_duty 92 [some (vR 11 0), some (vI x1), some (vI x2), some (vI x3), some (vI x4), some (vI x5), o6] [] S Q) : Ev d mX11_duty 86 [some (vR 11 0), some (vI x1), some (vI x2), some (vI x3), some (vI x4), some (vI x5), o6] [] S Q := by
  refine Ev.iload_n dX11_duty_86 rfl rfl ?_
  refine Ev.iload dX11_duty_87 rfl ?_
  exact Ev.icmp_ne (tgt := 95) dX11_duty_89 (by decide) kt kf
theorem bkX11_duty_92 {d : Nat} {S : hs_T} {Q : Option av_T → hs_T → Prop} {x1 x2 x3 x4 x5 : Int32} {o6 : Option av_T} (hq : Q (some (vI (-4))) S) : Ev d mX11_duty 92 [some (vR 11 0), some (vI x1), some (vI x2), some (vI x3), some (vI x4), some (vI x5), o6] [] S Q := by
  refine Ev.bipush (v := (-4)) dX11_duty_92 (by decide) ?_
  exact Ev.iret dX11_duty_94 rfl rfl hq
theorem bkX11_duty_95 {d : Nat} {S : hs_T} {Q : Option av_T → hs_T → Prop} {x1 x2 x3 x4 x5 : Int32} {o6 : Option av_T} (kn : Ev d mX11_duty 101 [some (vR 11 0), some (vI x1), some (vI x2), some (vI x3), some (vI x4), some (vI 0), some (vI x3)] [] S Q) : Ev d mX11_duty 95 [some (vR 11 0), some (vI x1), some (vI x2), some (vI x3), some (vI x4), some (vI x5), o6] [] S Q := by
  refine Ev.iconst (v := 0) dX11_duty_95 (by decide) ?_
  refine Ev.istore (ls' := [some (vR 11 0), some (vI x1), some (vI x2), some (vI x3), some (vI x4), some (vI 0), o6]) dX11_duty_96 (by decide) rfl ?_
  refine Ev.iload_n dX11_duty_98 rfl rfl ?_
  refine Ev.istore (ls' := [some (vR 11 0), some (vI x1), some (vI x2), some (vI x3), some (vI x4), some (vI 0), some (vI x3)]) dX11_duty_99 (by decide) rfl ?_
  exact kn
theorem bkX11_duty_101 {d : Nat} {S : hs_T} {Q : Option av_T → hs_T → Prop} {x1 x2 x3 x4 x5 x6 : Int32} (kt : x4 ≤ x6 → Ev d mX11_duty 129 [some (vR 11 0), some (vI x1), some (vI x2), some (vI x3), some (vI x4), some (vI x5), some (vI x6)] [] S Q) (kf : ¬ x4 ≤ x6 → Ev d mX11_duty 108 [some (vR 11 0), some (vI x1), some (vI x2), some (vI x3), some (vI x4), some (vI x5), some (vI x6)] [] S Q) : Ev d mX11_duty 101 [some (vR 11 0), some (vI x1), some (vI x2), some (vI x3), some (vI x4), some (vI x5), some (vI x6)] [] S Q := by
  refine Ev.iload dX11_duty_101 rfl ?_
  refine Ev.iload dX11_duty_103 rfl ?_
  exact Ev.icmp_ge (tgt := 129) dX11_duty_105 (by decide) kt kf
theorem bkX11_duty_108 {d : Nat} {S : hs_T} {Q : Option av_T → hs_T → Prop} {P : Int32 → hs_T → Prop} {x1 x2 x3 x4 x5 x6 : Int32} (hC : Ci d mX11_isHigh [vR 11 0, vI x1, vI x6] S P) (kk : ∀ v S', P v S' → Ev (d + 1) mX11_duty 117 [some (vR 11 0), some (vI x1), some (vI x2), some (vI x3), some (vI x4), some (vI x5), some (vI x6)] [vI v, vI x5] S' Q) : Ev (d + 1) mX11_duty 108 [some (vR 11 0), some (vI x1), some (vI x2), some (vI x3), some (vI x4), some (vI x5), some (vI x6)] [] S Q := by
  refine Ev.iload dX11_duty_108 rfl ?_
  refine Ev.aload_n dX11_duty_110 rfl rfl ?_
  refine Ev.iload_n dX11_duty_111 rfl rfl ?_
  refine Ev.iload dX11_duty_112 rfl ?_
  exact Ev.callV (as := [vI x1, vI x6]) (rest := [vI x5]) okX11_isHigh in_X11_isHigh ml_X11_155 rfl (Nat.le_of_ble_eq_true rfl) pz_11_0 (by decide) rfl rfl dX11_duty_114 hC (fun r S' h => by obtain ⟨v, rfl, h⟩ := h; exact kk v S' h)
theorem bkX11_duty_117 {d : Nat} {S : hs_T} {Q : Option av_T → hs_T → Prop} {P : Int32 → hs_T → Prop} {x1 x2 x3 x4 x5 x6 y0 y1 : Int32} (hC : Ci d mX11_flag [vI y0] S P) (kk : ∀ v S', P v S' → Ev (d + 1) mX11_duty 120 [some (vR 11 0), some (vI x1), some (vI x2), some (vI x3), some (vI x4), some (vI x5), some (vI x6)] [vI v, vI y1] S' Q) : Ev (d + 1) mX11_duty 117 [some (vR 11 0), some (vI x1), some (vI x2), some (vI x3), some (vI x4), some (vI x5), some (vI x6)] [vI y0, vI y1] S Q := by
  exact Ev.callS (as := [vI y0]) (rest := [vI y1]) okX11_flag stX11_flag ml_X11_213 rfl (Nat.le_of_ble_eq_true rfl) rfl dX11_duty_117 hC (fun r S' h => by obtain ⟨v, rfl, h⟩ := h; exact kk v S' h)
theorem bkX11_duty_120 {d : Nat} {S : hs_T} {Q : Option av_T → hs_T → Prop} {x1 x2 x3 x4 x5 x6 y0 y1 : Int32} (kn : Ev d mX11_duty 101 [some (vR 11 0), some (vI x1), some (vI x2), some (vI x3), some (vI x4), some (vI (y1 + y0)), some (vI (x6 + 1))] [] S Q) : Ev d mX11_duty 120 [some (vR 11 0), some (vI x1), some (vI x2), some (vI x3), some (vI x4), some (vI x5), some (vI x6)] [vI y0, vI y1] S Q := by
  refine Ev.iadd dX11_duty_120 ?_
  refine Ev.istore (ls' := [some (vR 11 0), some (vI x1), some (vI x2), some (vI x3), some (vI x4), some (vI (y1 + y0)), some (vI x6)]) dX11_duty_121 (by decide) rfl ?_
  refine Ev.iinc (v := (x6 + 1)) (ls' := [some (vR 11 0), some (vI x1), some (vI x2), some (vI x3), some (vI x4), some (vI (y1 + y0)), some (vI (x6 + 1))]) dX11_duty_123 rfl rfl (by decide) rfl ?_
  refine Ev.goto (tgt := 101) dX11_duty_126 (by decide) ?_
  exact kn
theorem bkX11_duty_129 {d : Nat} {S : hs_T} {Q : Option av_T → hs_T → Prop} {P : Int32 → hs_T → Prop} {x1 x2 x3 x4 x5 x6 : Int32} (hC : Ci d mX11_told [vI x5, vI (x4 - x3), vI x2] S P) (kk : ∀ v S', P v S' → Ev (d + 1) mX11_duty 139 [some (vR 11 0), some (vI x1), some (vI x2), some (vI x3), some (vI x4), some (vI x5), some (vI x6)] [vI v] S' Q) : Ev (d + 1) mX11_duty 129 [some (vR 11 0), some (vI x1), some (vI x2), some (vI x3), some (vI x4), some (vI x5), some (vI x6)] [] S Q := by
  refine Ev.iload dX11_duty_129 rfl ?_
  refine Ev.iload dX11_duty_131 rfl ?_
  refine Ev.iload_n dX11_duty_133 rfl rfl ?_
  refine Ev.isub dX11_duty_134 ?_
  refine Ev.iload_n dX11_duty_135 rfl rfl ?_
  exact Ev.callS (as := [vI x5, vI (x4 - x3), vI x2]) (rest := []) okX11_told stX11_told ml_X11_243 rfl (Nat.le_of_ble_eq_true rfl) rfl dX11_duty_136 hC (fun r S' h => by obtain ⟨v, rfl, h⟩ := h; exact kk v S' h)
theorem bkX11_duty_139 {d : Nat} {S : hs_T} {Q : Option av_T → hs_T → Prop} {x1 x2 x3 x4 x5 x6 y0 : Int32} (hq : Q (some (vI y0)) S) : Ev d mX11_duty 139 [some (vR 11 0), some (vI x1), some (vI x2), some (vI x3), some (vI x4), some (vI x5), some (vI x6)] [vI y0] S Q := by
  exact Ev.iret dX11_duty_139 rfl rfl hq
/-! EightWiresModel.shorter(II)I -/
theorem bkX11_shorter_0 {d : Nat} {S : hs_T} {Q : Option av_T → hs_T → Prop} {P : Int32 → hs_T → Prop} {x1 x2 : Int32} {o3 o4 o5 : Option av_T} (hC : Ci d mX11_isWire [vI x1] S P) (kk : ∀ v S', P v S' → Ev (d + 1) mX11_shorter 4 [some (vR 11 0), some (vI x1), some (vI x2), o3, o4, o5] [vI v] S' Q) : Ev (d + 1) mX11_shorter 0 [some (vR 11 0), some (vI x1), some (vI x2), o3, o4, o5] [] S Q := by
  refine Ev.iload_n dX11_shorter_0 rfl rfl ?_
  exact Ev.callS (as := [vI x1]) (rest := []) okX11_isWire stX11_isWire ml_X11_206 rfl (Nat.le_of_ble_eq_true rfl) rfl dX11_shorter_1 hC (fun r S' h => by obtain ⟨v, rfl, h⟩ := h; exact kk v S' h)
theorem bkX11_shorter_4 {d : Nat} {S : hs_T} {Q : Option av_T → hs_T → Prop} {x1 x2 y0 : Int32} {o3 o4 o5 : Option av_T} (kt : y0 = 0 → Ev d mX11_shorter 19 [some (vR 11 0), some (vI x1), some (vI x2), o3, o4, o5] [] S Q) (kf : ¬ y0 = 0 → Ev d mX11_shorter 7 [some (vR 11 0), some (vI x1), some (vI x2), o3, o4, o5] [] S Q) : Ev d mX11_shorter 4 [some (vR 11 0), some (vI x1), some (vI x2), o3, o4, o5] [vI y0] S Q := by
  exact Ev.if_eq (tgt := 19) dX11_shorter_4 (by decide) kt kf
theorem bkX11_shorter_7 {d : Nat} {S : hs_T} {Q : Option av_T → hs_T → Prop} {P : Int32 → hs_T → Prop} {x1 x2 : Int32} {o3 o4 o5 : Option av_T} (hC : Ci d mX11_in [vJ x2.toInt64, vJ 1, vJ 400] S P) (kk : ∀ v S', P v S' → Ev (d + 1) mX11_shorter 16 [some (vR 11 0), some (vI x1), some (vI x2), o3, o4, o5] [vI v] S' Q) : Ev (d + 1) mX11_shorter 7 [some (vR 11 0), some (vI x1), some (vI x2), o3, o4, o5] [] S Q := by
  refine Ev.iload_n dX11_shorter_7 rfl rfl ?_
  refine Ev.i2l dX11_shorter_8 ?_
  refine Ev.lconst (v := 1) dX11_shorter_9 (by decide) ?_
  refine Ev.ldc2 kl_X11_147 dX11_shorter_10 ?_
  exact Ev.callS (as := [vJ x2.toInt64, vJ 1, vJ 400]) (rest := []) okX11_in stX11_in ml_X11_58 rfl (Nat.le_of_ble_eq_true rfl) rfl dX11_shorter_13 hC (fun r S' h => by obtain ⟨v, rfl, h⟩ := h; exact kk v S' h)
theorem bkX11_shorter_16 {d : Nat} {S : hs_T} {Q : Option av_T → hs_T → Prop} {x1 x2 y0 : Int32} {o3 o4 o5 : Option av_T} (kt : ¬ y0 = 0 → Ev d mX11_shorter 21 [some (vR 11 0), some (vI x1), some (vI x2), o3, o4, o5] [] S Q) (kf : y0 = 0 → Ev d mX11_shorter 19 [some (vR 11 0), some (vI x1), some (vI x2), o3, o4, o5] [] S Q) : Ev d mX11_shorter 16 [some (vR 11 0), some (vI x1), some (vI x2), o3, o4, o5] [vI y0] S Q := by
  exact Ev.if_ne (tgt := 21) dX11_shorter_16 (by decide) kt kf
theorem bkX11_shorter_19 {d : Nat} {S : hs_T} {Q : Option av_T → hs_T → Prop} {x1 x2 : Int32} {o3 o4 o5 : Option av_T} (hq : Q (some (vI (-1))) S) : Ev d mX11_shorter 19 [some (vR 11 0), some (vI x1), some (vI x2), o3, o4, o5] [] S Q := by
  refine Ev.iconst (v := (-1)) dX11_shorter_19 (by decide) ?_
  exact Ev.iret dX11_shorter_20 rfl rfl hq
theorem bkX11_shorter_21 {d : Nat} {S : hs_T} {Q : Option av_T → hs_T → Prop} {x1 x2 : Int32} {o3 o4 o5 : Option av_T} (kn : Ev d mX11_shorter 26 [some (vR 11 0), some (vI x1), some (vI x2), some (vI 0), some (vI 0), o5] [] S Q) : Ev d mX11_shorter 21 [some (vR 11 0), some (vI x1), some (vI x2), o3, o4, o5] [] S Q := by
  refine Ev.iconst (v := 0) dX11_shorter_21 (by decide) ?_
  refine Ev.istore_n (ls' := [some (vR 11 0), some (vI x1), some (vI x2), some (vI 0), o4, o5]) dX11_shorter_22 rfl (by decide) rfl ?_
  refine Ev.iconst (v := 0) dX11_shorter_23 (by decide) ?_
  refine Ev.istore (ls' := [some (vR 11 0), some (vI x1), some (vI x2), some (vI 0), some (vI 0), o5]) dX11_shorter_24 (by decide) rfl ?_
  exact kn
theorem bkX11_shorter_26 {d : Nat} {S : hs_T} {Q : Option av_T → hs_T → Prop} {x1 x2 x3 x4 : Int32} {o5 : Option av_T} (kt : (S.1 11 0 3) ≤ x4 → Ev d mX11_shorter 85 [some (vR 11 0), some (vI x1), some (vI x2), some (vI x3), some (vI x4), o5] [] S Q) (kf : ¬ (S.1 11 0 3) ≤ x4 → Ev d mX11_shorter 35 [some (vR 11 0), some (vI x1), some (vI x2), some (vI x3), some (vI x4), o5] [] S Q) : Ev d mX11_shorter 26 [some (vR 11 0), some (vI x1), some (vI x2), some (vI x3), some (vI x4), o5] [] S Q := by
  refine Ev.iload dX11_shorter_26 rfl ?_
  refine Ev.aload_n dX11_shorter_28 rfl rfl ?_
  refine Ev.get (v := vI (S.1 11 0 3)) okX11 (by decide) fl_X11_144 pz_11_0 (ff_11_3 _ _) dX11_shorter_29 ?_
  exact Ev.icmp_ge (tgt := 85) dX11_shorter_32 (by decide) kt kf
theorem bkX11_shorter_35 {d : Nat} {S : hs_T} {Q : Option av_T → hs_T → Prop} {P : Int32 → hs_T → Prop} {x1 x2 x3 x4 : Int32} {o5 : Option av_T} (hC : Ci d mX11_endOf [vR 11 0, vI x1, vI x4] S P) (kk : ∀ v S', P v S' → Ev (d + 1) mX11_shorter 42 [some (vR 11 0), some (vI x1), some (vI x2), some (vI x3), some (vI x4), o5] [vI v] S' Q) : Ev (d + 1) mX11_shorter 35 [some (vR 11 0), some (vI x1), some (vI x2), some (vI x3), some (vI x4), o5] [] S Q := by
  refine Ev.aload_n dX11_shorter_35 rfl rfl ?_
  refine Ev.iload_n dX11_shorter_36 rfl rfl ?_
  refine Ev.iload dX11_shorter_37 rfl ?_
  exact Ev.callV (as := [vI x1, vI x4]) (rest := []) okX11_endOf in_X11_endOf ml_X11_232 rfl (Nat.le_of_ble_eq_true rfl) pz_11_0 (by decide) rfl rfl dX11_shorter_39 hC (fun r S' h => by obtain ⟨v, rfl, h⟩ := h; exact kk v S' h)
theorem bkX11_shorter_42 {d : Nat} {S : hs_T} {Q : Option av_T → hs_T → Prop} {x1 x2 x3 x4 y0 : Int32} {o5 : Option av_T} (kt : x4 ≤ 0 → Ev d mX11_shorter 72 [some (vR 11 0), some (vI x1), some (vI x2), some (vI x3), some (vI x4), some (vI y0)] [vI x3] S Q) (kf : ¬ x4 ≤ 0 → Ev d mX11_shorter 50 [some (vR 11 0), some (vI x1), some (vI x2), some (vI x3), some (vI x4), some (vI y0)] [vI x3] S Q) : Ev d mX11_shorter 42 [some (vR 11 0), some (vI x1), some (vI x2), some (vI x3), some (vI x4), o5] [vI y0] S Q := by
  refine Ev.istore (ls' := [some (vR 11 0), some (vI x1), some (vI x2), some (vI x3), some (vI x4), some (vI y0)]) dX11_shorter_42 (by decide) rfl ?_
  refine Ev.iload_n dX11_shorter_44 rfl rfl ?_
  refine Ev.iload dX11_shorter_45 rfl ?_
  exact Ev.if_le (tgt := 72) dX11_shorter_47 (by decide) kt kf
theorem bkX11_shorter_50 {d : Nat} {S : hs_T} {Q : Option av_T → hs_T → Prop} {x1 x2 x3 x4 x5 y0 : Int32} (kt : (S.1 11 0 3) ≤ x5 → Ev d mX11_shorter 72 [some (vR 11 0), some (vI x1), some (vI x2), some (vI x3), some (vI x4), some (vI x5)] [vI y0] S Q) (kf : ¬ (S.1 11 0 3) ≤ x5 → Ev d mX11_shorter 59 [some (vR 11 0), some (vI x1), some (vI x2), some (vI x3), some (vI x4), some (vI x5)] [vI y0] S Q) : Ev d mX11_shorter 50 [some (vR 11 0), some (vI x1), some (vI x2), some (vI x3), some (vI x4), some (vI x5)] [vI y0] S Q := by
  refine Ev.iload dX11_shorter_50 rfl ?_
  refine Ev.aload_n dX11_shorter_52 rfl rfl ?_
  refine Ev.get (v := vI (S.1 11 0 3)) okX11 (by decide) fl_X11_144 pz_11_0 (ff_11_3 _ _) dX11_shorter_53 ?_
  exact Ev.icmp_ge (tgt := 72) dX11_shorter_56 (by decide) kt kf
theorem bkX11_shorter_59 {d : Nat} {S : hs_T} {Q : Option av_T → hs_T → Prop} {x1 x2 x3 x4 x5 y0 : Int32} (kt : x2 ≤ (x5 - x4) → Ev d mX11_shorter 72 [some (vR 11 0), some (vI x1), some (vI x2), some (vI x3), some (vI x4), some (vI x5)] [vI y0] S Q) (kf : ¬ x2 ≤ (x5 - x4) → Ev d mX11_shorter 68 [some (vR 11 0), some (vI x1), some (vI x2), some (vI x3), some (vI x4), some (vI x5)] [vI y0] S Q) : Ev d mX11_shorter 59 [some (vR 11 0), some (vI x1), some (vI x2), some (vI x3), some (vI x4), some (vI x5)] [vI y0] S Q := by
  refine Ev.iload dX11_shorter_59 rfl ?_
  refine Ev.iload dX11_shorter_61 rfl ?_
  refine Ev.isub dX11_shorter_63 ?_
  refine Ev.iload_n dX11_shorter_64 rfl rfl ?_
  exact Ev.icmp_ge (tgt := 72) dX11_shorter_65 (by decide) kt kf
theorem bkX11_shorter_68 {d : Nat} {S : hs_T} {Q : Option av_T → hs_T → Prop} {x1 x2 x3 x4 x5 y0 : Int32} (kn : Ev d mX11_shorter 73 [some (vR 11 0), some (vI x1), some (vI x2), some (vI x3), some (vI x4), some (vI x5)] [vI 1, vI y0] S Q) : Ev d mX11_shorter 68 [some (vR 11 0), some (vI x1), some (vI x2), some (vI x3), some (vI x4), some (vI x5)] [vI y0] S Q := by
  refine Ev.iconst (v := 1) dX11_shorter_68 (by decide) ?_
  refine Ev.goto (tgt := 73) dX11_shorter_69 (by decide) ?_
  exact kn
theorem bkX11_shorter_72 {d : Nat} {S : hs_T} {Q : Option av_T → hs_T → Prop} {x1 x2 x3 x4 x5 y0 : Int32} (kn : Ev d mX11_shorter 73 [some (vR 11 0), some (vI x1), some (vI x2), some (vI x3), some (vI x4), some (vI x5)] [vI 0, vI y0] S Q) : Ev d mX11_shorter 72 [some (vR 11 0), some (vI x1), some (vI x2), some (vI x3), some (vI x4), some (vI x5)] [vI y0] S Q := by
  refine Ev.iconst (v := 0) dX11_shorter_72 (by decide) ?_
  exact kn
theorem bkX11_shorter_73 {d : Nat} {S : hs_T} {Q : Option av_T → hs_T → Prop} {P : Int32 → hs_T → Prop} {x1 x2 x3 x4 x5 y0 y1 : Int32} (hC : Ci d mX11_flag [vI y0] S P) (kk : ∀ v S', P v S' → Ev (d + 1) mX11_shorter 76 [some (vR 11 0), some (vI x1), some (vI x2), some (vI x3), some (vI x4), some (vI x5)] [vI v, vI y1] S' Q) : Ev (d + 1) mX11_shorter 73 [some (vR 11 0), some (vI x1), some (vI x2), some (vI x3), some (vI x4), some (vI x5)] [vI y0, vI y1] S Q := by
  exact Ev.callS (as := [vI y0]) (rest := [vI y1]) okX11_flag stX11_flag ml_X11_213 rfl (Nat.le_of_ble_eq_true rfl) rfl dX11_shorter_73 hC (fun r S' h => by obtain ⟨v, rfl, h⟩ := h; exact kk v S' h)
theorem bkX11_shorter_76 {d : Nat} {S : hs_T} {Q : Option av_T → hs_T → Prop} {x1 x2 x3 x4 x5 y0 y1 : Int32} (kn : Ev d mX11_shorter 26 [some (vR 11 0), some (vI x1), some (vI x2), some (vI (y1 + y0)), some (vI x5), some (vI x5)] [] S Q) : Ev d mX11_shorter 76 [some (vR 11 0), some (vI x1), some (vI x2), some (vI x3), some (vI x4), some (vI x5)] [vI y0, vI y1] S Q := by
  refine Ev.iadd dX11_shorter_76 ?_
  refine Ev.istore_n (ls' := [some (vR 11 0), some (vI x1), some (vI x2), some (vI (y1 + y0)), some (vI x4), some (vI x5)]) dX11_shorter_77 rfl (by decide) rfl ?_
  refine Ev.iload dX11_shorter_78 rfl ?_
  refine Ev.istore (ls' := [some (vR 11 0), some (vI x1), some (vI x2), some (vI (y1 + y0)), some (vI x5), some (vI x5)]) dX11_shorter_80 (by decide) rfl ?_
  refine Ev.goto (tgt := 26) dX11_shorter_82 (by decide) ?_
  exact kn
theorem bkX11_shorter_85 {d : Nat} {S : hs_T} {Q : Option av_T → hs_T → Prop} {x1 x2 x3 x4 : Int32} {o5 : Option av_T} (hq : Q (some (vI x3)) S) : Ev d mX11_shorter 85 [some (vR 11 0), some (vI x1), some (vI x2), some (vI x3), some (vI x4), o5] [] S Q := by
  refine Ev.iload_n dX11_shorter_85 rfl rfl ?_
  exact Ev.iret dX11_shorter_86 rfl rfl hq
/-! EightWiresModel.smooths(II)V -/
theorem bkX11_smooths_0 {d : Nat} {S : hs_T} {Q : Option av_T → hs_T → Prop} {x1 x2 : Int32} {o3 o4 o5 : Option av_T} (kn : Ev d mX11_smooths 2 [some (vR 11 0), some (vI x1), some (vI x2), some (vI 0), o4, o5] [] S Q) : Ev d mX11_smooths 0 [some (vR 11 0), some (vI x1), some (vI x2), o3, o4, o5] [] S Q := by
  refine Ev.iconst (v := 0) dX11_smooths_0 (by decide) ?_
  refine Ev.istore_n (ls' := [some (vR 11 0), some (vI x1), some (vI x2), some (vI 0), o4, o5]) dX11_smooths_1 rfl (by decide) rfl ?_
  exact kn
theorem bkX11_smooths_2 {d : Nat} {S : hs_T} {Q : Option av_T → hs_T → Prop} {x1 x2 x3 : Int32} {o4 o5 : Option av_T} (kt : (S.1 11 0 3) ≤ x3 → Ev d mX11_smooths 83 [some (vR 11 0), some (vI x1), some (vI x2), some (vI x3), o4, o5] [] S Q) (kf : ¬ (S.1 11 0 3) ≤ x3 → Ev d mX11_smooths 10 [some (vR 11 0), some (vI x1), some (vI x2), some (vI x3), o4, o5] [] S Q) : Ev d mX11_smooths 2 [some (vR 11 0), some (vI x1), some (vI x2), some (vI x3), o4, o5] [] S Q := by
  refine Ev.iload_n dX11_smooths_2 rfl rfl ?_
  refine Ev.aload_n dX11_smooths_3 rfl rfl ?_
  refine Ev.get (v := vI (S.1 11 0 3)) okX11 (by decide) fl_X11_144 pz_11_0 (ff_11_3 _ _) dX11_smooths_4 ?_
  exact Ev.icmp_ge (tgt := 83) dX11_smooths_7 (by decide) kt kf
theorem bkX11_smooths_10 {d : Nat} {S : hs_T} {Q : Option av_T → hs_T → Prop} {P : Int32 → hs_T → Prop} {x1 x2 x3 : Int32} {o4 o5 : Option av_T} (hC : Ci d mX11_endOf [vR 11 0, vI x1, vI x3] S P) (kk : ∀ v S', P v S' → Ev (d + 1) mX11_smooths 16 [some (vR 11 0), some (vI x1), some (vI x2), some (vI x3), o4, o5] [vI v] S' Q) : Ev (d + 1) mX11_smooths 10 [some (vR 11 0), some (vI x1), some (vI x2), some (vI x3), o4, o5] [] S Q := by
  refine Ev.aload_n dX11_smooths_10 rfl rfl ?_
  refine Ev.iload_n dX11_smooths_11 rfl rfl ?_
  refine Ev.iload_n dX11_smooths_12 rfl rfl ?_
  exact Ev.callV (as := [vI x1, vI x3]) (rest := []) okX11_endOf in_X11_endOf ml_X11_232 rfl (Nat.le_of_ble_eq_true rfl) pz_11_0 (by decide) rfl rfl dX11_smooths_13 hC (fun r S' h => by obtain ⟨v, rfl, h⟩ := h; exact kk v S' h)
theorem bkX11_smooths_16 {d : Nat} {S : hs_T} {Q : Option av_T → hs_T → Prop} {x1 x2 x3 y0 : Int32} {o4 o5 : Option av_T} (kt : x3 ≤ 0 → Ev d mX11_smooths 77 [some (vR 11 0), some (vI x1), some (vI x2), some (vI x3), some (vI y0), o5] [] S Q) (kf : ¬ x3 ≤ 0 → Ev d mX11_smooths 22 [some (vR 11 0), some (vI x1), some (vI x2), some (vI x3), some (vI y0), o5] [] S Q) : Ev d mX11_smooths 16 [some (vR 11 0), some (vI x1), some (vI x2), some (vI x3), o4, o5] [vI y0] S Q := by
  refine Ev.istore (ls' := [some (vR 11 0), some (vI x1), some (vI x2), some (vI x3), some (vI y0), o5]) dX11_smooths_16 (by decide) rfl ?_
  refine Ev.iload_n dX11_smooths_18 rfl rfl ?_
  exact Ev.if_le (tgt := 77) dX11_smooths_19 (by decide) kt kf
theorem bkX11_smooths_22 {d : Nat} {S : hs_T} {Q : Option av_T → hs_T → Prop} {x1 x2 x3 x4 : Int32} {o5 : Option av_T} (kt : (S.1 11 0 3) ≤ x4 → Ev d mX11_smooths 77 [some (vR 11 0), some (vI x1), some (vI x2), some (vI x3), some (vI x4), o5] [] S Q) (kf : ¬ (S.1 11 0 3) ≤ x4 → Ev d mX11_smooths 31 [some (vR 11 0), some (vI x1), some (vI x2), some (vI x3), some (vI x4), o5] [] S Q) : Ev d mX11_smooths 22 [some (vR 11 0), some (vI x1), some (vI x2), some (vI x3), some (vI x4), o5] [] S Q := by
  refine Ev.iload dX11_smooths_22 rfl ?_
  refine Ev.aload_n dX11_smooths_24 rfl rfl ?_
  refine Ev.get (v := vI (S.1 11 0 3)) okX11 (by decide) fl_X11_144 pz_11_0 (ff_11_3 _ _) dX11_smooths_25 ?_
  exact Ev.icmp_ge (tgt := 77) dX11_smooths_28 (by decide) kt kf
theorem bkX11_smooths_31 {d : Nat} {S : hs_T} {Q : Option av_T → hs_T → Prop} {x1 x2 x3 x4 : Int32} {o5 : Option av_T} (kt : x2 ≤ (x4 - x3) → Ev d mX11_smooths 77 [some (vR 11 0), some (vI x1), some (vI x2), some (vI x3), some (vI x4), o5] [] S Q) (kf : ¬ x2 ≤ (x4 - x3) → Ev d mX11_smooths 39 [some (vR 11 0), some (vI x1), some (vI x2), some (vI x3), some (vI x4), o5] [] S Q) : Ev d mX11_smooths 31 [some (vR 11 0), some (vI x1), some (vI x2), some (vI x3), some (vI x4), o5] [] S Q := by
  refine Ev.iload dX11_smooths_31 rfl ?_
  refine Ev.iload_n dX11_smooths_33 rfl rfl ?_
  refine Ev.isub dX11_smooths_34 ?_
  refine Ev.iload_n dX11_smooths_35 rfl rfl ?_
  exact Ev.icmp_ge (tgt := 77) dX11_smooths_36 (by decide) kt kf
theorem bkX11_smooths_39 {d : Nat} {S : hs_T} {Q : Option av_T → hs_T → Prop} {x1 x2 x3 x4 : Int32} {o5 : Option av_T} (kn : Ev d mX11_smooths 42 [some (vR 11 0), some (vI x1), some (vI x2), some (vI x3), some (vI x4), some (vI x3)] [] S Q) : Ev d mX11_smooths 39 [some (vR 11 0), some (vI x1), some (vI x2), some (vI x3), some (vI x4), o5] [] S Q := by
  refine Ev.iload_n dX11_smooths_39 rfl rfl ?_
  refine Ev.istore (ls' := [some (vR 11 0), some (vI x1), some (vI x2), some (vI x3), some (vI x4), some (vI x3)]) dX11_smooths_40 (by decide) rfl ?_
  exact kn
theorem bkX11_smooths_42 {d : Nat} {S : hs_T} {Q : Option av_T → hs_T → Prop} {x1 x2 x3 x4 x5 : Int32} (kt : x4 ≤ x5 → Ev d mX11_smooths 68 [some (vR 11 0), some (vI x1), some (vI x2), some (vI x3), some (vI x4), some (vI x5)] [] S Q) (kf : ¬ x4 ≤ x5 → Ev d mX11_smooths 49 [some (vR 11 0), some (vI x1), some (vI x2), some (vI x3), some (vI x4), some (vI x5)] [] S Q) : Ev d mX11_smooths 42 [some (vR 11 0), some (vI x1), some (vI x2), some (vI x3), some (vI x4), some (vI x5)] [] S Q := by
  refine Ev.iload dX11_smooths_42 rfl ?_
  refine Ev.iload dX11_smooths_44 rfl ?_
  exact Ev.icmp_ge (tgt := 68) dX11_smooths_46 (by decide) kt kf
theorem bkX11_smooths_49 {d : Nat} {S : hs_T} {Q : Option av_T → hs_T → Prop} {x1 x2 x3 x4 x5 : Int32} (hi56 : vp_in x5 400) (kn : Ev d mX11_smooths 42 [some (vR 11 0), some (vI x1), some (vI x2), some (vI x3), some (vI x4), some (vI (x5 + 1))] [] (sk_ S 1202 0 (upd (S.1 1202 0) x5.toNatClampNeg ((S.1 1202 0 x5.toNatClampNeg) ^^^ (1 <<< (x1 &&& 31))))) Q) : Ev d mX11_smooths 49 [some (vR 11 0), some (vI x1), some (vI x2), some (vI x3), some (vI x4), some (vI x5)] [] S Q := by
  refine Ev.aload_n dX11_smooths_49 rfl rfl ?_
  refine Ev.get (v := vR 1202 0) okX11 (by decide) fl_X11_16 pz_11_0 (ff_11_2 _ _) dX11_smooths_50 ?_
  refine Ev.iload dX11_smooths_53 rfl ?_
  refine Ev.dup2 dX11_smooths_55 rfl rfl ?_
  refine Ev.ialoadA (a := x5.toNatClampNeg) pz_1202_0 (by decide) ak_1202 hi56 rfl dX11_smooths_56 ?_
  refine Ev.iconst (v := 1) dX11_smooths_57 (by decide) ?_
  refine Ev.iload_n dX11_smooths_58 rfl rfl ?_
  refine Ev.ishl dX11_smooths_59 ?_
  refine Ev.ixor dX11_smooths_60 ?_
  refine Ev.iastoreA (a := x5.toNatClampNeg) pz_1202_0 (by decide) ak_1202 hi56 rfl rfl dX11_smooths_61 ?_
  refine Ev.iinc (v := (x5 + 1)) (ls' := [some (vR 11 0), some (vI x1), some (vI x2), some (vI x3), some (vI x4), some (vI (x5 + 1))]) dX11_smooths_62 rfl rfl (by decide) rfl ?_
  refine Ev.goto (tgt := 42) dX11_smooths_65 (by decide) ?_
  exact kn
theorem bkX11_smooths_68 {d : Nat} {S : hs_T} {Q : Option av_T → hs_T → Prop} {P : Int32 → hs_T → Prop} {x1 x2 x3 x4 x5 : Int32} (hC : Ci d mX11_endOf [vR 11 0, vI x1, vI x4] S P) (kk : ∀ v S', P v S' → Ev (d + 1) mX11_smooths 75 [some (vR 11 0), some (vI x1), some (vI x2), some (vI x3), some (vI x4), some (vI x5)] [vI v] S' Q) : Ev (d + 1) mX11_smooths 68 [some (vR 11 0), some (vI x1), some (vI x2), some (vI x3), some (vI x4), some (vI x5)] [] S Q := by
  refine Ev.aload_n dX11_smooths_68 rfl rfl ?_
  refine Ev.iload_n dX11_smooths_69 rfl rfl ?_
  refine Ev.iload dX11_smooths_70 rfl ?_
  exact Ev.callV (as := [vI x1, vI x4]) (rest := []) okX11_endOf in_X11_endOf ml_X11_232 rfl (Nat.le_of_ble_eq_true rfl) pz_11_0 (by decide) rfl rfl dX11_smooths_72 hC (fun r S' h => by obtain ⟨v, rfl, h⟩ := h; exact kk v S' h)
theorem bkX11_smooths_75 {d : Nat} {S : hs_T} {Q : Option av_T → hs_T → Prop} {x1 x2 x3 x4 x5 y0 : Int32} (kn : Ev d mX11_smooths 77 [some (vR 11 0), some (vI x1), some (vI x2), some (vI x3), some (vI y0), some (vI x5)] [] S Q) : Ev d mX11_smooths 75 [some (vR 11 0), some (vI x1), some (vI x2), some (vI x3), some (vI x4), some (vI x5)] [vI y0] S Q := by
  refine Ev.istore (ls' := [some (vR 11 0), some (vI x1), some (vI x2), some (vI x3), some (vI y0), some (vI x5)]) dX11_smooths_75 (by decide) rfl ?_
  exact kn
theorem bkX11_smooths_77 {d : Nat} {S : hs_T} {Q : Option av_T → hs_T → Prop} {x1 x2 x3 x4 : Int32} {o5 : Option av_T} (kn : Ev d mX11_smooths 2 [some (vR 11 0), some (vI x1), some (vI x2), some (vI x4), some (vI x4), o5] [] S Q) : Ev d mX11_smooths 77 [some (vR 11 0), some (vI x1), some (vI x2), some (vI x3), some (vI x4), o5] [] S Q := by
  refine Ev.iload dX11_smooths_77 rfl ?_
  refine Ev.istore_n (ls' := [some (vR 11 0), some (vI x1), some (vI x2), some (vI x4), some (vI x4), o5]) dX11_smooths_79 rfl (by decide) rfl ?_
  refine Ev.goto (tgt := 2) dX11_smooths_80 (by decide) ?_
  exact kn
theorem bkX11_smooths_83 {d : Nat} {S : hs_T} {Q : Option av_T → hs_T → Prop} {x1 x2 x3 : Int32} {o4 o5 : Option av_T} (hq : Q none S) : Ev d mX11_smooths 83 [some (vR 11 0), some (vI x1), some (vI x2), some (vI x3), o4, o5] [] S Q := by
  exact Ev.vret dX11_smooths_83 rfl hq
/-! EightWiresModel.smooth(I)I -/
theorem bkX11_smooth_0 {d : Nat} {S : hs_T} {Q : Option av_T → hs_T → Prop} {P : Int32 → hs_T → Prop} {x1 : Int32} {o2 o3 : Option av_T} (hC : Ci d mX11_in [vJ x1.toInt64, vJ 1, vJ 400] S P) (kk : ∀ v S', P v S' → Ev (d + 1) mX11_smooth 9 [some (vR 11 0), some (vI x1), o2, o3] [vI v] S' Q) : Ev (d + 1) mX11_smooth 0 [some (vR 11 0), some (vI x1), o2, o3] [] S Q := by
  refine Ev.iload_n dX11_smooth_0 rfl rfl ?_
  refine Ev.i2l dX11_smooth_1 ?_
  refine Ev.lconst (v := 1) dX11_smooth_2 (by decide) ?_
  refine Ev.ldc2 kl_X11_147 dX11_smooth_3 ?_
  exact Ev.callS (as := [vJ x1.toInt64, vJ 1, vJ 400]) (rest := []) okX11_in stX11_in ml_X11_58 rfl (Nat.le_of_ble_eq_true rfl) rfl dX11_smooth_6 hC (fun r S' h => by obtain ⟨v, rfl, h⟩ := h; exact kk v S' h)
theorem bkX11_smooth_9 {d : Nat} {S : hs_T} {Q : Option av_T → hs_T → Prop} {x1 y0 : Int32} {o2 o3 : Option av_T} (kt : ¬ y0 = 0 → Ev d mX11_smooth 14 [some (vR 11 0), some (vI x1), o2, o3] [] S Q) (kf : y0 = 0 → Ev d mX11_smooth 12 [some (vR 11 0), some (vI x1), o2, o3] [] S Q) : Ev d mX11_smooth 9 [some (vR 11 0), some (vI x1), o2, o3] [vI y0] S Q := by
  exact Ev.if_ne (tgt := 14) dX11_smooth_9 (by decide) kt kf
theorem bkX11_smooth_12 {d : Nat} {S : hs_T} {Q : Option av_T → hs_T → Prop} {x1 : Int32} {o2 o3 : Option av_T} (hq : Q (some (vI (-1))) S) : Ev d mX11_smooth 12 [some (vR 11 0), some (vI x1), o2, o3] [] S Q := by
  refine Ev.iconst (v := (-1)) dX11_smooth_12 (by decide) ?_
  exact Ev.iret dX11_smooth_13 rfl rfl hq
theorem bkX11_smooth_14 {d : Nat} {S : hs_T} {Q : Option av_T → hs_T → Prop} {x1 : Int32} {o2 o3 : Option av_T} (kn : Ev d mX11_smooth 16 [some (vR 11 0), some (vI x1), some (vI 0), o3] [] S Q) : Ev d mX11_smooth 14 [some (vR 11 0), some (vI x1), o2, o3] [] S Q := by
  refine Ev.iconst (v := 0) dX11_smooth_14 (by decide) ?_
  refine Ev.istore_n (ls' := [some (vR 11 0), some (vI x1), some (vI 0), o3]) dX11_smooth_15 rfl (by decide) rfl ?_
  exact kn
theorem bkX11_smooth_16 {d : Nat} {S : hs_T} {Q : Option av_T → hs_T → Prop} {x1 x2 : Int32} {o3 : Option av_T} (kt : (S.1 11 0 3) ≤ x2 → Ev d mX11_smooth 42 [some (vR 11 0), some (vI x1), some (vI x2), o3] [] S Q) (kf : ¬ (S.1 11 0 3) ≤ x2 → Ev d mX11_smooth 24 [some (vR 11 0), some (vI x1), some (vI x2), o3] [] S Q) : Ev d mX11_smooth 16 [some (vR 11 0), some (vI x1), some (vI x2), o3] [] S Q := by
  refine Ev.iload_n dX11_smooth_16 rfl rfl ?_
  refine Ev.aload_n dX11_smooth_17 rfl rfl ?_
  refine Ev.get (v := vI (S.1 11 0 3)) okX11 (by decide) fl_X11_144 pz_11_0 (ff_11_3 _ _) dX11_smooth_18 ?_
  exact Ev.icmp_ge (tgt := 42) dX11_smooth_21 (by decide) kt kf
theorem bkX11_smooth_24 {d : Nat} {S : hs_T} {Q : Option av_T → hs_T → Prop} {x1 x2 : Int32} {o3 : Option av_T} (hi34 : vp_in x2 400) (kn : Ev d mX11_smooth 16 [some (vR 11 0), some (vI x1), some (vI (x2 + 1)), o3] [] (sk_ S 1226 0 (upd (S.1 1226 0) x2.toNatClampNeg (S.1 1202 0 x2.toNatClampNeg))) Q) : Ev d mX11_smooth 24 [some (vR 11 0), some (vI x1), some (vI x2), o3] [] S Q := by
  refine Ev.aload_n dX11_smooth_24 rfl rfl ?_
  refine Ev.get (v := vR 1226 0) okX11 (by decide) fl_X11_31 pz_11_0 (ff_11_26 _ _) dX11_smooth_25 ?_
  refine Ev.iload_n dX11_smooth_28 rfl rfl ?_
  refine Ev.aload_n dX11_smooth_29 rfl rfl ?_
  refine Ev.get (v := vR 1202 0) okX11 (by decide) fl_X11_16 pz_11_0 (ff_11_2 _ _) dX11_smooth_30 ?_
  refine Ev.iload_n dX11_smooth_33 rfl rfl ?_
  refine Ev.ialoadA (a := x2.toNatClampNeg) pz_1202_0 (by decide) ak_1202 hi34 rfl dX11_smooth_34 ?_
  refine Ev.iastoreA (a := x2.toNatClampNeg) pz_1226_0 (by decide) ak_1226 hi34 rfl rfl dX11_smooth_35 ?_
  refine Ev.iinc (v := (x2 + 1)) (ls' := [some (vR 11 0), some (vI x1), some (vI (x2 + 1)), o3]) dX11_smooth_36 rfl rfl (by decide) rfl ?_
  refine Ev.goto (tgt := 16) dX11_smooth_39 (by decide) ?_
  exact kn
theorem bkX11_smooth_42 {d : Nat} {S : hs_T} {Q : Option av_T → hs_T → Prop} {x1 x2 : Int32} {o3 : Option av_T} (kn : Ev d mX11_smooth 44 [some (vR 11 0), some (vI x1), some (vI 0), o3] [] S Q) : Ev d mX11_smooth 42 [some (vR 11 0), some (vI x1), some (vI x2), o3] [] S Q := by
  refine Ev.iconst (v := 0) dX11_smooth_42 (by decide) ?_
  refine Ev.istore_n (ls' := [some (vR 11 0), some (vI x1), some (vI 0), o3]) dX11_smooth_43 rfl (by decide) rfl ?_
  exact kn
theorem bkX11_smooth_44 {d : Nat} {S : hs_T} {Q : Option av_T → hs_T → Prop} {x1 x2 : Int32} {o3 : Option av_T} (kt : 8 ≤ x2 → Ev d mX11_smooth 62 [some (vR 11 0), some (vI x1), some (vI x2), o3] [] S Q) (kf : ¬ 8 ≤ x2 → Ev d mX11_smooth 50 [some (vR 11 0), some (vI x1), some (vI x2), o3] [] S Q) : Ev d mX11_smooth 44 [some (vR 11 0), some (vI x1), some (vI x2), o3] [] S Q := by
  refine Ev.iload_n dX11_smooth_44 rfl rfl ?_
  refine Ev.bipush (v := 8) dX11_smooth_45 (by decide) ?_
  exact Ev.icmp_ge (tgt := 62) dX11_smooth_47 (by decide) kt kf
theorem bkX11_smooth_50 {d : Nat} {S : hs_T} {Q : Option av_T → hs_T → Prop} {P : hs_T → Prop} {x1 x2 : Int32} {o3 : Option av_T} (hC : Cv d mX11_smooths [vR 11 0, vI x2, vI x1] S P) (kk : ∀ S', P S' → Ev (d + 1) mX11_smooth 56 [some (vR 11 0), some (vI x1), some (vI x2), o3] [] S' Q) : Ev (d + 1) mX11_smooth 50 [some (vR 11 0), some (vI x1), some (vI x2), o3] [] S Q := by
  refine Ev.aload_n dX11_smooth_50 rfl rfl ?_
  refine Ev.iload_n dX11_smooth_51 rfl rfl ?_
  refine Ev.iload_n dX11_smooth_52 rfl rfl ?_
  exact Ev.callV (as := [vI x2, vI x1]) (rest := []) okX11_smooths in_X11_smooths ml_X11_247 rfl (Nat.le_of_ble_eq_true rfl) pz_11_0 (by decide) rfl rfl dX11_smooth_53 hC (fun r S' h => by obtain ⟨rfl, h⟩ := h; exact kk S' h)
theorem bkX11_smooth_56 {d : Nat} {S : hs_T} {Q : Option av_T → hs_T → Prop} {x1 x2 : Int32} {o3 : Option av_T} (kn : Ev d mX11_smooth 44 [some (vR 11 0), some (vI x1), some (vI (x2 + 1)), o3] [] S Q) : Ev d mX11_smooth 56 [some (vR 11 0), some (vI x1), some (vI x2), o3] [] S Q := by
  refine Ev.iinc (v := (x2 + 1)) (ls' := [some (vR 11 0), some (vI x1), some (vI (x2 + 1)), o3]) dX11_smooth_56 rfl rfl (by decide) rfl ?_
  refine Ev.goto (tgt := 44) dX11_smooth_59 (by decide) ?_
  exact kn
theorem bkX11_smooth_62 {d : Nat} {S : hs_T} {Q : Option av_T → hs_T → Prop} {x1 x2 : Int32} {o3 : Option av_T} (kn : Ev d mX11_smooth 66 [some (vR 11 0), some (vI x1), some (vI 0), some (vI 0)] [] S Q) : Ev d mX11_smooth 62 [some (vR 11 0), some (vI x1), some (vI x2), o3] [] S Q := by
  refine Ev.iconst (v := 0) dX11_smooth_62 (by decide) ?_
  refine Ev.istore_n (ls' := [some (vR 11 0), some (vI x1), some (vI 0), o3]) dX11_smooth_63 rfl (by decide) rfl ?_
  refine Ev.iconst (v := 0) dX11_smooth_64 (by decide) ?_
  refine Ev.istore_n (ls' := [some (vR 11 0), some (vI x1), some (vI 0), some (vI 0)]) dX11_smooth_65 rfl (by decide) rfl ?_
  exact kn
theorem bkX11_smooth_66 {d : Nat} {S : hs_T} {Q : Option av_T → hs_T → Prop} {x1 x2 x3 : Int32} (kt : (S.1 11 0 3) ≤ x3 → Ev d mX11_smooth 106 [some (vR 11 0), some (vI x1), some (vI x2), some (vI x3)] [] S Q) (kf : ¬ (S.1 11 0 3) ≤ x3 → Ev d mX11_smooth 74 [some (vR 11 0), some (vI x1), some (vI x2), some (vI x3)] [] S Q) : Ev d mX11_smooth 66 [some (vR 11 0), some (vI x1), some (vI x2), some (vI x3)] [] S Q := by
  refine Ev.iload_n dX11_smooth_66 rfl rfl ?_
  refine Ev.aload_n dX11_smooth_67 rfl rfl ?_
  refine Ev.get (v := vI (S.1 11 0 3)) okX11 (by decide) fl_X11_144 pz_11_0 (ff_11_3 _ _) dX11_smooth_68 ?_
  exact Ev.icmp_ge (tgt := 106) dX11_smooth_71 (by decide) kt kf
theorem bkX11_smooth_74 {d : Nat} {S : hs_T} {Q : Option av_T → hs_T → Prop} {x1 x2 x3 : Int32} (hi80 : vp_in x3 400) (kt : (S.1 1226 0 x3.toNatClampNeg) = (S.1 1202 0 x3.toNatClampNeg) → Ev d mX11_smooth 94 [some (vR 11 0), some (vI x1), some (vI x2), some (vI x3)] [vI x2] S Q) (kf : ¬ (S.1 1226 0 x3.toNatClampNeg) = (S.1 1202 0 x3.toNatClampNeg) → Ev d mX11_smooth 90 [some (vR 11 0), some (vI x1), some (vI x2), some (vI x3)] [vI x2] S Q) : Ev d mX11_smooth 74 [some (vR 11 0), some (vI x1), some (vI x2), some (vI x3)] [] S Q := by
  refine Ev.iload_n dX11_smooth_74 rfl rfl ?_
  refine Ev.aload_n dX11_smooth_75 rfl rfl ?_
  refine Ev.get (v := vR 1226 0) okX11 (by decide) fl_X11_31 pz_11_0 (ff_11_26 _ _) dX11_smooth_76 ?_
  refine Ev.iload_n dX11_smooth_79 rfl rfl ?_
  refine Ev.ialoadA (a := x3.toNatClampNeg) pz_1226_0 (by decide) ak_1226 hi80 rfl dX11_smooth_80 ?_
  refine Ev.aload_n dX11_smooth_81 rfl rfl ?_
  refine Ev.get (v := vR 1202 0) okX11 (by decide) fl_X11_16 pz_11_0 (ff_11_2 _ _) dX11_smooth_82 ?_
  refine Ev.iload_n dX11_smooth_85 rfl rfl ?_
  refine Ev.ialoadA (a := x3.toNatClampNeg) pz_1202_0 (by decide) ak_1202 hi80 rfl dX11_smooth_86 ?_
  exact Ev.icmp_eq (tgt := 94) dX11_smooth_87 (by decide) kt kf
theorem bkX11_smooth_90 {d : Nat} {S : hs_T} {Q : Option av_T → hs_T → Prop} {x1 x2 x3 y0 : Int32} (kn : Ev d mX11_smooth 95 [some (vR 11 0), some (vI x1), some (vI x2), some (vI x3)] [vI 1, vI y0] S Q) : Ev d mX11_smooth 90 [some (vR 11 0), some (vI x1), some (vI x2), some (vI x3)] [vI y0] S Q := by
  refine Ev.iconst (v := 1) dX11_smooth_90 (by decide) ?_
  refine Ev.goto (tgt := 95) dX11_smooth_91 (by decide) ?_
  exact kn
theorem bkX11_smooth_94 {d : Nat} {S : hs_T} {Q : Option av_T → hs_T → Prop} {x1 x2 x3 y0 : Int32} (kn : Ev d mX11_smooth 95 [some (vR 11 0), some (vI x1), some (vI x2), some (vI x3)] [vI 0, vI y0] S Q) : Ev d mX11_smooth 94 [some (vR 11 0), some (vI x1), some (vI x2), some (vI x3)] [vI y0] S Q := by
  refine Ev.iconst (v := 0) dX11_smooth_94 (by decide) ?_
  exact kn
theorem bkX11_smooth_95 {d : Nat} {S : hs_T} {Q : Option av_T → hs_T → Prop} {P : Int32 → hs_T → Prop} {x1 x2 x3 y0 y1 : Int32} (hC : Ci d mX11_flag [vI y0] S P) (kk : ∀ v S', P v S' → Ev (d + 1) mX11_smooth 98 [some (vR 11 0), some (vI x1), some (vI x2), some (vI x3)] [vI v, vI y1] S' Q) : Ev (d + 1) mX11_smooth 95 [some (vR 11 0), some (vI x1), some (vI x2), some (vI x3)] [vI y0, vI y1] S Q := by
  exact Ev.callS (as := [vI y0]) (rest := [vI y1]) okX11_flag stX11_flag ml_X11_213 rfl (Nat.le_of_ble_eq_true rfl) rfl dX11_smooth_95 hC (fun r S' h => by obtain ⟨v, rfl, h⟩ := h; exact kk v S' h)
theorem bkX11_smooth_98 {d : Nat} {S : hs_T} {Q : Option av_T → hs_T → Prop} {x1 x2 x3 y0 y1 : Int32} (kn : Ev d mX11_smooth 66 [some (vR 11 0), some (vI x1), some (vI (y1 + y0)), some (vI (x3 + 1))] [] S Q) : Ev d mX11_smooth 98 [some (vR 11 0), some (vI x1), some (vI x2), some (vI x3)] [vI y0, vI y1] S Q := by
  refine Ev.iadd dX11_smooth_98 ?_
  refine Ev.istore_n (ls' := [some (vR 11 0), some (vI x1), some (vI (y1 + y0)), some (vI x3)]) dX11_smooth_99 rfl (by decide) rfl ?_
  refine Ev.iinc (v := (x3 + 1)) (ls' := [some (vR 11 0), some (vI x1), some (vI (y1 + y0)), some (vI (x3 + 1))]) dX11_smooth_100 rfl rfl (by decide) rfl ?_
  refine Ev.goto (tgt := 66) dX11_smooth_103 (by decide) ?_
  exact kn
theorem bkX11_smooth_106 {d : Nat} {S : hs_T} {Q : Option av_T → hs_T → Prop} {x1 x2 x3 : Int32} (hq : Q (some (vI x2)) S) : Ev d mX11_smooth 106 [some (vR 11 0), some (vI x1), some (vI x2), some (vI x3)] [] S Q := by
  refine Ev.iload_n dX11_smooth_106 rfl rfl ?_
  exact Ev.iret dX11_smooth_107 rfl rfl hq
/-! EightWiresModel.changes(II)Z -/
theorem bkX11_changes_0 {d : Nat} {S : hs_T} {Q : Option av_T → hs_T → Prop} {P : Int32 → hs_T → Prop} {x1 x2 : Int32} (hC : Ci d mX11_rises [vR 11 0, vI x1, vI x2] S P) (kk : ∀ v S', P v S' → Ev (d + 1) mX11_changes 6 [some (vR 11 0), some (vI x1), some (vI x2)] [vI v] S' Q) : Ev (d + 1) mX11_changes 0 [some (vR 11 0), some (vI x1), some (vI x2)] [] S Q := by
  refine Ev.aload_n dX11_changes_0 rfl rfl ?_
  refine Ev.iload_n dX11_changes_1 rfl rfl ?_
  refine Ev.iload_n dX11_changes_2 rfl rfl ?_
  exact Ev.callV (as := [vI x1, vI x2]) (rest := []) okX11_rises in_X11_rises ml_X11_159 rfl (Nat.le_of_ble_eq_true rfl) pz_11_0 (by decide) rfl rfl dX11_changes_3 hC (fun r S' h => by obtain ⟨v, rfl, h⟩ := h; exact kk v S' h)
theorem bkX11_changes_6 {d : Nat} {S : hs_T} {Q : Option av_T → hs_T → Prop} {x1 x2 y0 : Int32} (kt : ¬ y0 = 0 → Ev d mX11_changes 18 [some (vR 11 0), some (vI x1), some (vI x2)] [] S Q) (kf : y0 = 0 → Ev d mX11_changes 9 [some (vR 11 0), some (vI x1), some (vI x2)] [] S Q) : Ev d mX11_changes 6 [some (vR 11 0), some (vI x1), some (vI x2)] [vI y0] S Q := by
  exact Ev.if_ne (tgt := 18) dX11_changes_6 (by decide) kt kf
theorem bkX11_changes_9 {d : Nat} {S : hs_T} {Q : Option av_T → hs_T → Prop} {P : Int32 → hs_T → Prop} {x1 x2 : Int32} (hC : Ci d mX11_falls [vR 11 0, vI x1, vI x2] S P) (kk : ∀ v S', P v S' → Ev (d + 1) mX11_changes 15 [some (vR 11 0), some (vI x1), some (vI x2)] [vI v] S' Q) : Ev (d + 1) mX11_changes 9 [some (vR 11 0), some (vI x1), some (vI x2)] [] S Q := by
  refine Ev.aload_n dX11_changes_9 rfl rfl ?_
  refine Ev.iload_n dX11_changes_10 rfl rfl ?_
  refine Ev.iload_n dX11_changes_11 rfl rfl ?_
  exact Ev.callV (as := [vI x1, vI x2]) (rest := []) okX11_falls in_X11_falls ml_X11_162 rfl (Nat.le_of_ble_eq_true rfl) pz_11_0 (by decide) rfl rfl dX11_changes_12 hC (fun r S' h => by obtain ⟨v, rfl, h⟩ := h; exact kk v S' h)
theorem bkX11_changes_15 {d : Nat} {S : hs_T} {Q : Option av_T → hs_T → Prop} {x1 x2 y0 : Int32} (kt : y0 = 0 → Ev d mX11_changes 22 [some (vR 11 0), some (vI x1), some (vI x2)] [] S Q) (kf : ¬ y0 = 0 → Ev d mX11_changes 18 [some (vR 11 0), some (vI x1), some (vI x2)] [] S Q) : Ev d mX11_changes 15 [some (vR 11 0), some (vI x1), some (vI x2)] [vI y0] S Q := by
  exact Ev.if_eq (tgt := 22) dX11_changes_15 (by decide) kt kf
theorem bkX11_changes_18 {d : Nat} {S : hs_T} {Q : Option av_T → hs_T → Prop} {x1 x2 : Int32} (kn : Ev d mX11_changes 23 [some (vR 11 0), some (vI x1), some (vI x2)] [vI 1] S Q) : Ev d mX11_changes 18 [some (vR 11 0), some (vI x1), some (vI x2)] [] S Q := by
  refine Ev.iconst (v := 1) dX11_changes_18 (by decide) ?_
  refine Ev.goto (tgt := 23) dX11_changes_19 (by decide) ?_
  exact kn
theorem bkX11_changes_22 {d : Nat} {S : hs_T} {Q : Option av_T → hs_T → Prop} {x1 x2 : Int32} (kn : Ev d mX11_changes 23 [some (vR 11 0), some (vI x1), some (vI x2)] [vI 0] S Q) : Ev d mX11_changes 22 [some (vR 11 0), some (vI x1), some (vI x2)] [] S Q := by
  refine Ev.iconst (v := 0) dX11_changes_22 (by decide) ?_
  exact kn
theorem bkX11_changes_23 {d : Nat} {S : hs_T} {Q : Option av_T → hs_T → Prop} {x1 x2 y0 : Int32} (hn23 : narrow .boolean (.int y0) = .int y0) (hq : Q (some (vI y0)) S) : Ev d mX11_changes 23 [some (vR 11 0), some (vI x1), some (vI x2)] [vI y0] S Q := by
  exact Ev.iret dX11_changes_23 rfl hn23 hq
/-! EightWiresModel.aheadOf(II)I -/
theorem bkX11_aheadOf_0 {d : Nat} {S : hs_T} {Q : Option av_T → hs_T → Prop} {x1 x2 : Int32} {o3 : Option av_T} (kn : Ev d mX11_aheadOf 2 [some (vR 11 0), some (vI x1), some (vI x2), some (vI x2)] [] S Q) : Ev d mX11_aheadOf 0 [some (vR 11 0), some (vI x1), some (vI x2), o3] [] S Q := by
  refine Ev.iload_n dX11_aheadOf_0 rfl rfl ?_
  refine Ev.istore_n (ls' := [some (vR 11 0), some (vI x1), some (vI x2), some (vI x2)]) dX11_aheadOf_1 rfl (by decide) rfl ?_
  exact kn
theorem bkX11_aheadOf_2 {d : Nat} {S : hs_T} {Q : Option av_T → hs_T → Prop} {x1 x2 x3 : Int32} (kt : x3 ≤ 0 → Ev d mX11_aheadOf 25 [some (vR 11 0), some (vI x1), some (vI x2), some (vI x3)] [] S Q) (kf : ¬ x3 ≤ 0 → Ev d mX11_aheadOf 6 [some (vR 11 0), some (vI x1), some (vI x2), some (vI x3)] [] S Q) : Ev d mX11_aheadOf 2 [some (vR 11 0), some (vI x1), some (vI x2), some (vI x3)] [] S Q := by
  refine Ev.iload_n dX11_aheadOf_2 rfl rfl ?_
  exact Ev.if_le (tgt := 25) dX11_aheadOf_3 (by decide) kt kf
theorem bkX11_aheadOf_6 {d : Nat} {S : hs_T} {Q : Option av_T → hs_T → Prop} {P : Int32 → hs_T → Prop} {x1 x2 x3 : Int32} (hC : Ci d mX11_changes [vR 11 0, vI x1, vI x3] S P) (kk : ∀ v S', P v S' → Ev (d + 1) mX11_aheadOf 12 [some (vR 11 0), some (vI x1), some (vI x2), some (vI x3)] [vI v] S' Q) : Ev (d + 1) mX11_aheadOf 6 [some (vR 11 0), some (vI x1), some (vI x2), some (vI x3)] [] S Q := by
  refine Ev.aload_n dX11_aheadOf_6 rfl rfl ?_
  refine Ev.iload_n dX11_aheadOf_7 rfl rfl ?_
  refine Ev.iload_n dX11_aheadOf_8 rfl rfl ?_
  exact Ev.callV (as := [vI x1, vI x3]) (rest := []) okX11_changes in_X11_changes ml_X11_250 rfl (Nat.le_of_ble_eq_true rfl) pz_11_0 (by decide) rfl rfl dX11_aheadOf_9 hC (fun r S' h => by obtain ⟨v, rfl, h⟩ := h; exact kk v S' h)
theorem bkX11_aheadOf_12 {d : Nat} {S : hs_T} {Q : Option av_T → hs_T → Prop} {x1 x2 x3 y0 : Int32} (kt : y0 = 0 → Ev d mX11_aheadOf 19 [some (vR 11 0), some (vI x1), some (vI x2), some (vI x3)] [] S Q) (kf : ¬ y0 = 0 → Ev d mX11_aheadOf 15 [some (vR 11 0), some (vI x1), some (vI x2), some (vI x3)] [] S Q) : Ev d mX11_aheadOf 12 [some (vR 11 0), some (vI x1), some (vI x2), some (vI x3)] [vI y0] S Q := by
  exact Ev.if_eq (tgt := 19) dX11_aheadOf_12 (by decide) kt kf
theorem bkX11_aheadOf_15 {d : Nat} {S : hs_T} {Q : Option av_T → hs_T → Prop} {x1 x2 x3 : Int32} (hq : Q (some (vI (x2 - x3))) S) : Ev d mX11_aheadOf 15 [some (vR 11 0), some (vI x1), some (vI x2), some (vI x3)] [] S Q := by
  refine Ev.iload_n dX11_aheadOf_15 rfl rfl ?_
  refine Ev.iload_n dX11_aheadOf_16 rfl rfl ?_
  refine Ev.isub dX11_aheadOf_17 ?_
  exact Ev.iret dX11_aheadOf_18 rfl rfl hq
theorem bkX11_aheadOf_19 {d : Nat} {S : hs_T} {Q : Option av_T → hs_T → Prop} {x1 x2 x3 : Int32} (kn : Ev d mX11_aheadOf 2 [some (vR 11 0), some (vI x1), some (vI x2), some (vI (x3 + (-1)))] [] S Q) : Ev d mX11_aheadOf 19 [some (vR 11 0), some (vI x1), some (vI x2), some (vI x3)] [] S Q := by
  refine Ev.iinc (v := (x3 + (-1))) (ls' := [some (vR 11 0), some (vI x1), some (vI x2), some (vI (x3 + (-1)))]) dX11_aheadOf_19 rfl rfl (by decide) rfl ?_
  refine Ev.goto (tgt := 2) dX11_aheadOf_22 (by decide) ?_
  exact kn
theorem bkX11_aheadOf_25 {d : Nat} {S : hs_T} {Q : Option av_T → hs_T → Prop} {x1 x2 x3 : Int32} (hq : Q (some (vI (-4))) S) : Ev d mX11_aheadOf 25 [some (vR 11 0), some (vI x1), some (vI x2), some (vI x3)] [] S Q := by
  refine Ev.bipush (v := (-4)) dX11_aheadOf_25 (by decide) ?_
  exact Ev.iret dX11_aheadOf_27 rfl rfl hq
/-! EightWiresModel.behindOf(II)I -/
theorem bkX11_behindOf_0 {d : Nat} {S : hs_T} {Q : Option av_T → hs_T → Prop} {x1 x2 : Int32} {o3 : Option av_T} (kn : Ev d mX11_behindOf 4 [some (vR 11 0), some (vI x1), some (vI x2), some (vI (x2 + 1))] [] S Q) : Ev d mX11_behindOf 0 [some (vR 11 0), some (vI x1), some (vI x2), o3] [] S Q := by
  refine Ev.iload_n dX11_behindOf_0 rfl rfl ?_
  refine Ev.iconst (v := 1) dX11_behindOf_1 (by decide) ?_
  refine Ev.iadd dX11_behindOf_2 ?_
  refine Ev.istore_n (ls' := [some (vR 11 0), some (vI x1), some (vI x2), some (vI (x2 + 1))]) dX11_behindOf_3 rfl (by decide) rfl ?_
  exact kn
theorem bkX11_behindOf_4 {d : Nat} {S : hs_T} {Q : Option av_T → hs_T → Prop} {x1 x2 x3 : Int32} (kt : (S.1 11 0 3) ≤ x3 → Ev d mX11_behindOf 31 [some (vR 11 0), some (vI x1), some (vI x2), some (vI x3)] [] S Q) (kf : ¬ (S.1 11 0 3) ≤ x3 → Ev d mX11_behindOf 12 [some (vR 11 0), some (vI x1), some (vI x2), some (vI x3)] [] S Q) : Ev d mX11_behindOf 4 [some (vR 11 0), some (vI x1), some (vI x2), some (vI x3)] [] S Q := by
  refine Ev.iload_n dX11_behindOf_4 rfl rfl ?_
  refine Ev.aload_n dX11_behindOf_5 rfl rfl ?_
  refine Ev.get (v := vI (S.1 11 0 3)) okX11 (by decide) fl_X11_144 pz_11_0 (ff_11_3 _ _) dX11_behindOf_6 ?_
  exact Ev.icmp_ge (tgt := 31) dX11_behindOf_9 (by decide) kt kf
theorem bkX11_behindOf_12 {d : Nat} {S : hs_T} {Q : Option av_T → hs_T → Prop} {P : Int32 → hs_T → Prop} {x1 x2 x3 : Int32} (hC : Ci d mX11_changes [vR 11 0, vI x1, vI x3] S P) (kk : ∀ v S', P v S' → Ev (d + 1) mX11_behindOf 18 [some (vR 11 0), some (vI x1), some (vI x2), some (vI x3)] [vI v] S' Q) : Ev (d + 1) mX11_behindOf 12 [some (vR 11 0), some (vI x1), some (vI x2), some (vI x3)] [] S Q := by
  refine Ev.aload_n dX11_behindOf_12 rfl rfl ?_
  refine Ev.iload_n dX11_behindOf_13 rfl rfl ?_
  refine Ev.iload_n dX11_behindOf_14 rfl rfl ?_
  exact Ev.callV (as := [vI x1, vI x3]) (rest := []) okX11_changes in_X11_changes ml_X11_250 rfl (Nat.le_of_ble_eq_true rfl) pz_11_0 (by decide) rfl rfl dX11_behindOf_15 hC (fun r S' h => by obtain ⟨v, rfl, h⟩ := h; exact kk v S' h)
theorem bkX11_behindOf_18 {d : Nat} {S : hs_T} {Q : Option av_T → hs_T → Prop} {x1 x2 x3 y0 : Int32} (kt : y0 = 0 → Ev d mX11_behindOf 25 [some (vR 11 0), some (vI x1), some (vI x2), some (vI x3)] [] S Q) (kf : ¬ y0 = 0 → Ev d mX11_behindOf 21 [some (vR 11 0), some (vI x1), some (vI x2), some (vI x3)] [] S Q) : Ev d mX11_behindOf 18 [some (vR 11 0), some (vI x1), some (vI x2), some (vI x3)] [vI y0] S Q := by
  exact Ev.if_eq (tgt := 25) dX11_behindOf_18 (by decide) kt kf
theorem bkX11_behindOf_21 {d : Nat} {S : hs_T} {Q : Option av_T → hs_T → Prop} {x1 x2 x3 : Int32} (hq : Q (some (vI (x3 - x2))) S) : Ev d mX11_behindOf 21 [some (vR 11 0), some (vI x1), some (vI x2), some (vI x3)] [] S Q := by
  refine Ev.iload_n dX11_behindOf_21 rfl rfl ?_
  refine Ev.iload_n dX11_behindOf_22 rfl rfl ?_
  refine Ev.isub dX11_behindOf_23 ?_
  exact Ev.iret dX11_behindOf_24 rfl rfl hq
theorem bkX11_behindOf_25 {d : Nat} {S : hs_T} {Q : Option av_T → hs_T → Prop} {x1 x2 x3 : Int32} (kn : Ev d mX11_behindOf 4 [some (vR 11 0), some (vI x1), some (vI x2), some (vI (x3 + 1))] [] S Q) : Ev d mX11_behindOf 25 [some (vR 11 0), some (vI x1), some (vI x2), some (vI x3)] [] S Q := by
  refine Ev.iinc (v := (x3 + 1)) (ls' := [some (vR 11 0), some (vI x1), some (vI x2), some (vI (x3 + 1))]) dX11_behindOf_25 rfl rfl (by decide) rfl ?_
  refine Ev.goto (tgt := 4) dX11_behindOf_28 (by decide) ?_
  exact kn
theorem bkX11_behindOf_31 {d : Nat} {S : hs_T} {Q : Option av_T → hs_T → Prop} {x1 x2 x3 : Int32} (hq : Q (some (vI (-4))) S) : Ev d mX11_behindOf 31 [some (vR 11 0), some (vI x1), some (vI x2), some (vI x3)] [] S Q := by
  refine Ev.bipush (v := (-4)) dX11_behindOf_31 (by decide) ?_
  exact Ev.iret dX11_behindOf_33 rfl rfl hq
/-! EightWiresModel.setup(III)I -/
theorem bkX11_setup_0 {d : Nat} {S : hs_T} {Q : Option av_T → hs_T → Prop} {P : Int32 → hs_T → Prop} {x1 x2 x3 : Int32} {o4 o5 o6 o7 o8 : Option av_T} (hC : Ci d mX11_isWire [vI x1] S P) (kk : ∀ v S', P v S' → Ev (d + 1) mX11_setup 4 [some (vR 11 0), some (vI x1), some (vI x2), some (vI x3), o4, o5, o6, o7, o8] [vI v] S' Q) : Ev (d + 1) mX11_setup 0 [some (vR 11 0), some (vI x1), some (vI x2), some (vI x3), o4, o5, o6, o7, o8] [] S Q := by
  refine Ev.iload_n dX11_setup_0 rfl rfl ?_
  exact Ev.callS (as := [vI x1]) (rest := []) okX11_isWire stX11_isWire ml_X11_206 rfl (Nat.le_of_ble_eq_true rfl) rfl dX11_setup_1 hC (fun r S' h => by obtain ⟨v, rfl, h⟩ := h; exact kk v S' h)
theorem bkX11_setup_4 {d : Nat} {S : hs_T} {Q : Option av_T → hs_T → Prop} {x1 x2 x3 y0 : Int32} {o4 o5 o6 o7 o8 : Option av_T} (kt : y0 = 0 → Ev d mX11_setup 26 [some (vR 11 0), some (vI x1), some (vI x2), some (vI x3), o4, o5, o6, o7, o8] [] S Q) (kf : ¬ y0 = 0 → Ev d mX11_setup 7 [some (vR 11 0), some (vI x1), some (vI x2), some (vI x3), o4, o5, o6, o7, o8] [] S Q) : Ev d mX11_setup 4 [some (vR 11 0), some (vI x1), some (vI x2), some (vI x3), o4, o5, o6, o7, o8] [vI y0] S Q := by
  exact Ev.if_eq (tgt := 26) dX11_setup_4 (by decide) kt kf
theorem bkX11_setup_7 {d : Nat} {S : hs_T} {Q : Option av_T → hs_T → Prop} {P : Int32 → hs_T → Prop} {x1 x2 x3 : Int32} {o4 o5 o6 o7 o8 : Option av_T} (hC : Ci d mX11_isWire [vI x2] S P) (kk : ∀ v S', P v S' → Ev (d + 1) mX11_setup 11 [some (vR 11 0), some (vI x1), some (vI x2), some (vI x3), o4, o5, o6, o7, o8] [vI v] S' Q) : Ev (d + 1) mX11_setup 7 [some (vR 11 0), some (vI x1), some (vI x2), some (vI x3), o4, o5, o6, o7, o8] [] S Q := by
  refine Ev.iload_n dX11_setup_7 rfl rfl ?_
  exact Ev.callS (as := [vI x2]) (rest := []) okX11_isWire stX11_isWire ml_X11_206 rfl (Nat.le_of_ble_eq_true rfl) rfl dX11_setup_8 hC (fun r S' h => by obtain ⟨v, rfl, h⟩ := h; exact kk v S' h)
theorem bkX11_setup_11 {d : Nat} {S : hs_T} {Q : Option av_T → hs_T → Prop} {x1 x2 x3 y0 : Int32} {o4 o5 o6 o7 o8 : Option av_T} (kt : y0 = 0 → Ev d mX11_setup 26 [some (vR 11 0), some (vI x1), some (vI x2), some (vI x3), o4, o5, o6, o7, o8] [] S Q) (kf : ¬ y0 = 0 → Ev d mX11_setup 14 [some (vR 11 0), some (vI x1), some (vI x2), some (vI x3), o4, o5, o6, o7, o8] [] S Q) : Ev d mX11_setup 11 [some (vR 11 0), some (vI x1), some (vI x2), some (vI x3), o4, o5, o6, o7, o8] [vI y0] S Q := by
  exact Ev.if_eq (tgt := 26) dX11_setup_11 (by decide) kt kf
theorem bkX11_setup_14 {d : Nat} {S : hs_T} {Q : Option av_T → hs_T → Prop} {P : Int32 → hs_T → Prop} {x1 x2 x3 : Int32} {o4 o5 o6 o7 o8 : Option av_T} (hC : Ci d mX11_in [vJ x3.toInt64, vJ 0, vJ 3] S P) (kk : ∀ v S', P v S' → Ev (d + 1) mX11_setup 23 [some (vR 11 0), some (vI x1), some (vI x2), some (vI x3), o4, o5, o6, o7, o8] [vI v] S' Q) : Ev (d + 1) mX11_setup 14 [some (vR 11 0), some (vI x1), some (vI x2), some (vI x3), o4, o5, o6, o7, o8] [] S Q := by
  refine Ev.iload_n dX11_setup_14 rfl rfl ?_
  refine Ev.i2l dX11_setup_15 ?_
  refine Ev.lconst (v := 0) dX11_setup_16 (by decide) ?_
  refine Ev.ldc2 kl_X11_191 dX11_setup_17 ?_
  exact Ev.callS (as := [vJ x3.toInt64, vJ 0, vJ 3]) (rest := []) okX11_in stX11_in ml_X11_58 rfl (Nat.le_of_ble_eq_true rfl) rfl dX11_setup_20 hC (fun r S' h => by obtain ⟨v, rfl, h⟩ := h; exact kk v S' h)
theorem bkX11_setup_23 {d : Nat} {S : hs_T} {Q : Option av_T → hs_T → Prop} {x1 x2 x3 y0 : Int32} {o4 o5 o6 o7 o8 : Option av_T} (kt : ¬ y0 = 0 → Ev d mX11_setup 28 [some (vR 11 0), some (vI x1), some (vI x2), some (vI x3), o4, o5, o6, o7, o8] [] S Q) (kf : y0 = 0 → Ev d mX11_setup 26 [some (vR 11 0), some (vI x1), some (vI x2), some (vI x3), o4, o5, o6, o7, o8] [] S Q) : Ev d mX11_setup 23 [some (vR 11 0), some (vI x1), some (vI x2), some (vI x3), o4, o5, o6, o7, o8] [vI y0] S Q := by
  exact Ev.if_ne (tgt := 28) dX11_setup_23 (by decide) kt kf
theorem bkX11_setup_26 {d : Nat} {S : hs_T} {Q : Option av_T → hs_T → Prop} {x1 x2 x3 : Int32} {o4 o5 o6 o7 o8 : Option av_T} (hq : Q (some (vI (-1))) S) : Ev d mX11_setup 26 [some (vR 11 0), some (vI x1), some (vI x2), some (vI x3), o4, o5, o6, o7, o8] [] S Q := by
  refine Ev.iconst (v := (-1)) dX11_setup_26 (by decide) ?_
  exact Ev.iret dX11_setup_27 rfl rfl hq
theorem bkX11_setup_28 {d : Nat} {S : hs_T} {Q : Option av_T → hs_T → Prop} {x1 x2 x3 : Int32} {o4 o5 o6 o7 o8 : Option av_T} (kn : Ev d mX11_setup 39 [some (vR 11 0), some (vI x1), some (vI x2), some (vI x3), some (vI (-4)), some (vI (-4)), some (vI 0), o7, o8] [] S Q) : Ev d mX11_setup 28 [some (vR 11 0), some (vI x1), some (vI x2), some (vI x3), o4, o5, o6, o7, o8] [] S Q := by
  refine Ev.bipush (v := (-4)) dX11_setup_28 (by decide) ?_
  refine Ev.istore (ls' := [some (vR 11 0), some (vI x1), some (vI x2), some (vI x3), some (vI (-4)), o5, o6, o7, o8]) dX11_setup_30 (by decide) rfl ?_
  refine Ev.bipush (v := (-4)) dX11_setup_32 (by decide) ?_
  refine Ev.istore (ls' := [some (vR 11 0), some (vI x1), some (vI x2), some (vI x3), some (vI (-4)), some (vI (-4)), o6, o7, o8]) dX11_setup_34 (by decide) rfl ?_
  refine Ev.iconst (v := 0) dX11_setup_36 (by decide) ?_
  refine Ev.istore (ls' := [some (vR 11 0), some (vI x1), some (vI x2), some (vI x3), some (vI (-4)), some (vI (-4)), some (vI 0), o7, o8]) dX11_setup_37 (by decide) rfl ?_
  exact kn
theorem bkX11_setup_39 {d : Nat} {S : hs_T} {Q : Option av_T → hs_T → Prop} {x1 x2 x3 x4 x5 x6 : Int32} {o7 o8 : Option av_T} (kt : (S.1 11 0 3) ≤ x6 → Ev d mX11_setup 144 [some (vR 11 0), some (vI x1), some (vI x2), some (vI x3), some (vI x4), some (vI x5), some (vI x6), o7, o8] [] S Q) (kf : ¬ (S.1 11 0 3) ≤ x6 → Ev d mX11_setup 48 [some (vR 11 0), some (vI x1), some (vI x2), some (vI x3), some (vI x4), some (vI x5), some (vI x6), o7, o8] [] S Q) : Ev d mX11_setup 39 [some (vR 11 0), some (vI x1), some (vI x2), some (vI x3), some (vI x4), some (vI x5), some (vI x6), o7, o8] [] S Q := by
  refine Ev.iload dX11_setup_39 rfl ?_
  refine Ev.aload_n dX11_setup_41 rfl rfl ?_
  refine Ev.get (v := vI (S.1 11 0 3)) okX11 (by decide) fl_X11_144 pz_11_0 (ff_11_3 _ _) dX11_setup_42 ?_
  exact Ev.icmp_ge (tgt := 144) dX11_setup_45 (by decide) kt kf
theorem bkX11_setup_48 {d : Nat} {S : hs_T} {Q : Option av_T → hs_T → Prop} {P : Int32 → hs_T → Prop} {x1 x2 x3 x4 x5 x6 : Int32} {o7 o8 : Option av_T} (hC : Ci d mX11_rises [vR 11 0, vI x1, vI x6] S P) (kk : ∀ v S', P v S' → Ev (d + 1) mX11_setup 55 [some (vR 11 0), some (vI x1), some (vI x2), some (vI x3), some (vI x4), some (vI x5), some (vI x6), o7, o8] [vI v] S' Q) : Ev (d + 1) mX11_setup 48 [some (vR 11 0), some (vI x1), some (vI x2), some (vI x3), some (vI x4), some (vI x5), some (vI x6), o7, o8] [] S Q := by
  refine Ev.aload_n dX11_setup_48 rfl rfl ?_
  refine Ev.iload_n dX11_setup_49 rfl rfl ?_
  refine Ev.iload dX11_setup_50 rfl ?_
  exact Ev.callV (as := [vI x1, vI x6]) (rest := []) okX11_rises in_X11_rises ml_X11_159 rfl (Nat.le_of_ble_eq_true rfl) pz_11_0 (by decide) rfl rfl dX11_setup_52 hC (fun r S' h => by obtain ⟨v, rfl, h⟩ := h; exact kk v S' h)
theorem bkX11_setup_55 {d : Nat} {S : hs_T} {Q : Option av_T → hs_T → Prop} {x1 x2 x3 x4 x5 x6 y0 : Int32} {o7 o8 : Option av_T} (kt : y0 = 0 → Ev d mX11_setup 138 [some (vR 11 0), some (vI x1), some (vI x2), some (vI x3), some (vI x4), some (vI x5), some (vI x6), o7, o8] [] S Q) (kf : ¬ y0 = 0 → Ev d mX11_setup 58 [some (vR 11 0), some (vI x1), some (vI x2), some (vI x3), some (vI x4), some (vI x5), some (vI x6), o7, o8] [] S Q) : Ev d mX11_setup 55 [some (vR 11 0), some (vI x1), some (vI x2), some (vI x3), some (vI x4), some (vI x5), some (vI x6), o7, o8] [vI y0] S Q := by
  exact Ev.if_eq (tgt := 138) dX11_setup_55 (by decide) kt kf
theorem bkX11_setup_58 {d : Nat} {S : hs_T} {Q : Option av_T → hs_T → Prop} {x1 x2 x3 x4 x5 x6 : Int32} {o7 o8 : Option av_T} (kt : 2 ≤ x3 → Ev d mX11_setup 73 [some (vR 11 0), some (vI x1), some (vI x2), some (vI x3), some (vI x4), some (vI x5), some (vI x6), o7, o8] [] S Q) (kf : ¬ 2 ≤ x3 → Ev d mX11_setup 63 [some (vR 11 0), some (vI x1), some (vI x2), some (vI x3), some (vI x4), some (vI x5), some (vI x6), o7, o8] [] S Q) : Ev d mX11_setup 58 [some (vR 11 0), some (vI x1), some (vI x2), some (vI x3), some (vI x4), some (vI x5), some (vI x6), o7, o8] [] S Q := by
  refine Ev.iload_n dX11_setup_58 rfl rfl ?_
  refine Ev.iconst (v := 2) dX11_setup_59 (by decide) ?_
  exact Ev.icmp_ge (tgt := 73) dX11_setup_60 (by decide) kt kf
theorem bkX11_setup_63 {d : Nat} {S : hs_T} {Q : Option av_T → hs_T → Prop} {P : Int32 → hs_T → Prop} {x1 x2 x3 x4 x5 x6 : Int32} {o7 o8 : Option av_T} (hC : Ci d mX11_aheadOf [vR 11 0, vI x2, vI x6] S P) (kk : ∀ v S', P v S' → Ev (d + 1) mX11_setup 70 [some (vR 11 0), some (vI x1), some (vI x2), some (vI x3), some (vI x4), some (vI x5), some (vI x6), o7, o8] [vI v] S' Q) : Ev (d + 1) mX11_setup 63 [some (vR 11 0), some (vI x1), some (vI x2), some (vI x3), some (vI x4), some (vI x5), some (vI x6), o7, o8] [] S Q := by
  refine Ev.aload_n dX11_setup_63 rfl rfl ?_
  refine Ev.iload_n dX11_setup_64 rfl rfl ?_
  refine Ev.iload dX11_setup_65 rfl ?_
  exact Ev.callV (as := [vI x2, vI x6]) (rest := []) okX11_aheadOf in_X11_aheadOf ml_X11_253 rfl (Nat.le_of_ble_eq_true rfl) pz_11_0 (by decide) rfl rfl dX11_setup_67 hC (fun r S' h => by obtain ⟨v, rfl, h⟩ := h; exact kk v S' h)
theorem bkX11_setup_70 {d : Nat} {S : hs_T} {Q : Option av_T → hs_T → Prop} {x1 x2 x3 x4 x5 x6 y0 : Int32} {o7 o8 : Option av_T} (kn : Ev d mX11_setup 80 [some (vR 11 0), some (vI x1), some (vI x2), some (vI x3), some (vI x4), some (vI x5), some (vI x6), o7, o8] [vI y0] S Q) : Ev d mX11_setup 70 [some (vR 11 0), some (vI x1), some (vI x2), some (vI x3), some (vI x4), some (vI x5), some (vI x6), o7, o8] [vI y0] S Q := by
  refine Ev.goto (tgt := 80) dX11_setup_70 (by decide) ?_
  exact kn
theorem bkX11_setup_73 {d : Nat} {S : hs_T} {Q : Option av_T → hs_T → Prop} {P : Int32 → hs_T → Prop} {x1 x2 x3 x4 x5 x6 : Int32} {o7 o8 : Option av_T} (hC : Ci d mX11_behindOf [vR 11 0, vI x2, vI x6] S P) (kk : ∀ v S', P v S' → Ev (d + 1) mX11_setup 80 [some (vR 11 0), some (vI x1), some (vI x2), some (vI x3), some (vI x4), some (vI x5), some (vI x6), o7, o8] [vI v] S' Q) : Ev (d + 1) mX11_setup 73 [some (vR 11 0), some (vI x1), some (vI x2), some (vI x3), some (vI x4), some (vI x5), some (vI x6), o7, o8] [] S Q := by
  refine Ev.aload_n dX11_setup_73 rfl rfl ?_
  refine Ev.iload_n dX11_setup_74 rfl rfl ?_
  refine Ev.iload dX11_setup_75 rfl ?_
  exact Ev.callV (as := [vI x2, vI x6]) (rest := []) okX11_behindOf in_X11_behindOf ml_X11_256 rfl (Nat.le_of_ble_eq_true rfl) pz_11_0 (by decide) rfl rfl dX11_setup_77 hC (fun r S' h => by obtain ⟨v, rfl, h⟩ := h; exact kk v S' h)
theorem bkX11_setup_80 {d : Nat} {S : hs_T} {Q : Option av_T → hs_T → Prop} {x1 x2 x3 x4 x5 x6 y0 : Int32} {o7 o8 : Option av_T} (kt : y0 = (-4) → Ev d mX11_setup 107 [some (vR 11 0), some (vI x1), some (vI x2), some (vI x3), some (vI x4), some (vI x5), some (vI x6), some (vI y0), o8] [] S Q) (kf : ¬ y0 = (-4) → Ev d mX11_setup 89 [some (vR 11 0), some (vI x1), some (vI x2), some (vI x3), some (vI x4), some (vI x5), some (vI x6), some (vI y0), o8] [] S Q) : Ev d mX11_setup 80 [some (vR 11 0), some (vI x1), some (vI x2), some (vI x3), some (vI x4), some (vI x5), some (vI x6), o7, o8] [vI y0] S Q := by
  refine Ev.istore (ls' := [some (vR 11 0), some (vI x1), some (vI x2), some (vI x3), some (vI x4), some (vI x5), some (vI x6), some (vI y0), o8]) dX11_setup_80 (by decide) rfl ?_
  refine Ev.iload dX11_setup_82 rfl ?_
  refine Ev.bipush (v := (-4)) dX11_setup_84 (by decide) ?_
  exact Ev.icmp_eq (tgt := 107) dX11_setup_86 (by decide) kt kf
theorem bkX11_setup_89 {d : Nat} {S : hs_T} {Q : Option av_T → hs_T → Prop} {x1 x2 x3 x4 x5 x6 x7 : Int32} {o8 : Option av_T} (kt : x4 = (-4) → Ev d mX11_setup 103 [some (vR 11 0), some (vI x1), some (vI x2), some (vI x3), some (vI x4), some (vI x5), some (vI x6), some (vI x7), o8] [] S Q) (kf : ¬ x4 = (-4) → Ev d mX11_setup 96 [some (vR 11 0), some (vI x1), some (vI x2), some (vI x3), some (vI x4), some (vI x5), some (vI x6), some (vI x7), o8] [] S Q) : Ev d mX11_setup 89 [some (vR 11 0), some (vI x1), some (vI x2), some (vI x3), some (vI x4), some (vI x5), some (vI x6), some (vI x7), o8] [] S Q := by
  refine Ev.iload dX11_setup_89 rfl ?_
  refine Ev.bipush (v := (-4)) dX11_setup_91 (by decide) ?_
  exact Ev.icmp_eq (tgt := 103) dX11_setup_93 (by decide) kt kf
theorem bkX11_setup_96 {d : Nat} {S : hs_T} {Q : Option av_T → hs_T → Prop} {x1 x2 x3 x4 x5 x6 x7 : Int32} {o8 : Option av_T} (kt : x4 ≤ x7 → Ev d mX11_setup 107 [some (vR 11 0), some (vI x1), some (vI x2), some (vI x3), some (vI x4), some (vI x5), some (vI x6), some (vI x7), o8] [] S Q) (kf : ¬ x4 ≤ x7 → Ev d mX11_setup 103 [some (vR 11 0), some (vI x1), some (vI x2), some (vI x3), some (vI x4), some (vI x5), some (vI x6), some (vI x7), o8] [] S Q) : Ev d mX11_setup 96 [some (vR 11 0), some (vI x1), some (vI x2), some (vI x3), some (vI x4), some (vI x5), some (vI x6), some (vI x7), o8] [] S Q := by
  refine Ev.iload dX11_setup_96 rfl ?_
  refine Ev.iload dX11_setup_98 rfl ?_
  exact Ev.icmp_ge (tgt := 107) dX11_setup_100 (by decide) kt kf
theorem bkX11_setup_103 {d : Nat} {S : hs_T} {Q : Option av_T → hs_T → Prop} {x1 x2 x3 x4 x5 x6 x7 : Int32} {o8 : Option av_T} (kn : Ev d mX11_setup 108 [some (vR 11 0), some (vI x1), some (vI x2), some (vI x3), some (vI x4), some (vI x5), some (vI x6), some (vI x7), o8] [vI 1] S Q) : Ev d mX11_setup 103 [some (vR 11 0), some (vI x1), some (vI x2), some (vI x3), some (vI x4), some (vI x5), some (vI x6), some (vI x7), o8] [] S Q := by
  refine Ev.iconst (v := 1) dX11_setup_103 (by decide) ?_
  refine Ev.goto (tgt := 108) dX11_setup_104 (by decide) ?_
  exact kn
theorem bkX11_setup_107 {d : Nat} {S : hs_T} {Q : Option av_T → hs_T → Prop} {x1 x2 x3 x4 x5 x6 x7 : Int32} {o8 : Option av_T} (kn : Ev d mX11_setup 108 [some (vR 11 0), some (vI x1), some (vI x2), some (vI x3), some (vI x4), some (vI x5), some (vI x6), some (vI x7), o8] [vI 0] S Q) : Ev d mX11_setup 107 [some (vR 11 0), some (vI x1), some (vI x2), some (vI x3), some (vI x4), some (vI x5), some (vI x6), some (vI x7), o8] [] S Q := by
  refine Ev.iconst (v := 0) dX11_setup_107 (by decide) ?_
  exact kn
theorem bkX11_setup_108 {d : Nat} {S : hs_T} {Q : Option av_T → hs_T → Prop} {x1 x2 x3 x4 x5 x6 x7 y0 : Int32} {o8 : Option av_T} (kt : y0 = 0 → Ev d mX11_setup 120 [some (vR 11 0), some (vI x1), some (vI x2), some (vI x3), some (vI x4), some (vI x5), some (vI x6), some (vI x7), some (vI y0)] [] S Q) (kf : ¬ y0 = 0 → Ev d mX11_setup 115 [some (vR 11 0), some (vI x1), some (vI x2), some (vI x3), some (vI x4), some (vI x5), some (vI x6), some (vI x7), some (vI y0)] [] S Q) : Ev d mX11_setup 108 [some (vR 11 0), some (vI x1), some (vI x2), some (vI x3), some (vI x4), some (vI x5), some (vI x6), some (vI x7), o8] [vI y0] S Q := by
  refine Ev.istore (ls' := [some (vR 11 0), some (vI x1), some (vI x2), some (vI x3), some (vI x4), some (vI x5), some (vI x6), some (vI x7), some (vI y0)]) dX11_setup_108 (by decide) rfl ?_
  refine Ev.iload dX11_setup_110 rfl ?_
  exact Ev.if_eq (tgt := 120) dX11_setup_112 (by decide) kt kf
theorem bkX11_setup_115 {d : Nat} {S : hs_T} {Q : Option av_T → hs_T → Prop} {x1 x2 x3 x4 x5 x6 x7 x8 : Int32} (kn : Ev d mX11_setup 122 [some (vR 11 0), some (vI x1), some (vI x2), some (vI x3), some (vI x4), some (vI x5), some (vI x6), some (vI x7), some (vI x8)] [vI x7] S Q) : Ev d mX11_setup 115 [some (vR 11 0), some (vI x1), some (vI x2), some (vI x3), some (vI x4), some (vI x5), some (vI x6), some (vI x7), some (vI x8)] [] S Q := by
  refine Ev.iload dX11_setup_115 rfl ?_
  refine Ev.goto (tgt := 122) dX11_setup_117 (by decide) ?_
  exact kn
theorem bkX11_setup_120 {d : Nat} {S : hs_T} {Q : Option av_T → hs_T → Prop} {x1 x2 x3 x4 x5 x6 x7 x8 : Int32} (kn : Ev d mX11_setup 122 [some (vR 11 0), some (vI x1), some (vI x2), some (vI x3), some (vI x4), some (vI x5), some (vI x6), some (vI x7), some (vI x8)] [vI x4] S Q) : Ev d mX11_setup 120 [some (vR 11 0), some (vI x1), some (vI x2), some (vI x3), some (vI x4), some (vI x5), some (vI x6), some (vI x7), some (vI x8)] [] S Q := by
  refine Ev.iload dX11_setup_120 rfl ?_
  exact kn
theorem bkX11_setup_122 {d : Nat} {S : hs_T} {Q : Option av_T → hs_T → Prop} {x1 x2 x3 x4 x5 x6 x7 x8 y0 : Int32} (kt : x8 = 0 → Ev d mX11_setup 134 [some (vR 11 0), some (vI x1), some (vI x2), some (vI x3), some (vI y0), some (vI x5), some (vI x6), some (vI x7), some (vI x8)] [] S Q) (kf : ¬ x8 = 0 → Ev d mX11_setup 129 [some (vR 11 0), some (vI x1), some (vI x2), some (vI x3), some (vI y0), some (vI x5), some (vI x6), some (vI x7), some (vI x8)] [] S Q) : Ev d mX11_setup 122 [some (vR 11 0), some (vI x1), some (vI x2), some (vI x3), some (vI x4), some (vI x5), some (vI x6), some (vI x7), some (vI x8)] [vI y0] S Q := by
  refine Ev.istore (ls' := [some (vR 11 0), some (vI x1), some (vI x2), some (vI x3), some (vI y0), some (vI x5), some (vI x6), some (vI x7), some (vI x8)]) dX11_setup_122 (by decide) rfl ?_
  refine Ev.iload dX11_setup_124 rfl ?_
  exact Ev.if_eq (tgt := 134) dX11_setup_126 (by decide) kt kf
theorem bkX11_setup_129 {d : Nat} {S : hs_T} {Q : Option av_T → hs_T → Prop} {x1 x2 x3 x4 x5 x6 x7 x8 : Int32} (kn : Ev d mX11_setup 136 [some (vR 11 0), some (vI x1), some (vI x2), some (vI x3), some (vI x4), some (vI x5), some (vI x6), some (vI x7), some (vI x8)] [vI x6] S Q) : Ev d mX11_setup 129 [some (vR 11 0), some (vI x1), some (vI x2), some (vI x3), some (vI x4), some (vI x5), some (vI x6), some (vI x7), some (vI x8)] [] S Q := by
  refine Ev.iload dX11_setup_129 rfl ?_
  refine Ev.goto (tgt := 136) dX11_setup_131 (by decide) ?_
  exact kn
theorem bkX11_setup_134 {d : Nat} {S : hs_T} {Q : Option av_T → hs_T → Prop} {x1 x2 x3 x4 x5 x6 x7 x8 : Int32} (kn : Ev d mX11_setup 136 [some (vR 11 0), some (vI x1), some (vI x2), some (vI x3), some (vI x4), some (vI x5), some (vI x6), some (vI x7), some (vI x8)] [vI x5] S Q) : Ev d mX11_setup 134 [some (vR 11 0), some (vI x1), some (vI x2), some (vI x3), some (vI x4), some (vI x5), some (vI x6), some (vI x7), some (vI x8)] [] S Q := by
  refine Ev.iload dX11_setup_134 rfl ?_
  exact kn
theorem bkX11_setup_136 {d : Nat} {S : hs_T} {Q : Option av_T → hs_T → Prop} {x1 x2 x3 x4 x5 x6 x7 x8 y0 : Int32} (kn : Ev d mX11_setup 138 [some (vR 11 0), some (vI x1), some (vI x2), some (vI x3), some (vI x4), some (vI y0), some (vI x6), some (vI x7), some (vI x8)] [] S Q) : Ev d mX11_setup 136 [some (vR 11 0), some (vI x1), some (vI x2), some (vI x3), some (vI x4), some (vI x5), some (vI x6), some (vI x7), some (vI x8)] [vI y0] S Q := by
  refine Ev.istore (ls' := [some (vR 11 0), some (vI x1), some (vI x2), some (vI x3), some (vI x4), some (vI y0), some (vI x6), some (vI x7), some (vI x8)]) dX11_setup_136 (by decide) rfl ?_
  exact kn
theorem bkX11_setup_138 {d : Nat} {S : hs_T} {Q : Option av_T → hs_T → Prop} {x1 x2 x3 x4 x5 x6 : Int32} {o7 o8 : Option av_T} (kn : Ev d mX11_setup 39 [some (vR 11 0), some (vI x1), some (vI x2), some (vI x3), some (vI x4), some (vI x5), some (vI (x6 + 1)), o7, o8] [] S Q) : Ev d mX11_setup 138 [some (vR 11 0), some (vI x1), some (vI x2), some (vI x3), some (vI x4), some (vI x5), some (vI x6), o7, o8] [] S Q := by
  refine Ev.iinc (v := (x6 + 1)) (ls' := [some (vR 11 0), some (vI x1), some (vI x2), some (vI x3), some (vI x4), some (vI x5), some (vI (x6 + 1)), o7, o8]) dX11_setup_138 rfl rfl (by decide) rfl ?_
  refine Ev.goto (tgt := 39) dX11_setup_141 (by decide) ?_
  exact kn
theorem bkX11_setup_144 {d : Nat} {S : hs_T} {Q : Option av_T → hs_T → Prop} {x1 x2 x3 x4 x5 x6 : Int32} {o7 o8 : Option av_T} (kt : ¬ (x3 - x3 / 2 * 2) = 0 → Ev d mX11_setup 155 [some (vR 11 0), some (vI x1), some (vI x2), some (vI x3), some (vI x4), some (vI x5), some (vI x6), o7, o8] [] S Q) (kf : (x3 - x3 / 2 * 2) = 0 → Ev d mX11_setup 150 [some (vR 11 0), some (vI x1), some (vI x2), some (vI x3), some (vI x4), some (vI x5), some (vI x6), o7, o8] [] S Q) : Ev d mX11_setup 144 [some (vR 11 0), some (vI x1), some (vI x2), some (vI x3), some (vI x4), some (vI x5), some (vI x6), o7, o8] [] S Q := by
  refine Ev.iload_n dX11_setup_144 rfl rfl ?_
  refine Ev.iconst (v := 2) dX11_setup_145 (by decide) ?_
  refine Ev.irem dX11_setup_146 (by decide) ?_
  exact Ev.if_ne (tgt := 155) dX11_setup_147 (by decide) kt kf
theorem bkX11_setup_150 {d : Nat} {S : hs_T} {Q : Option av_T → hs_T → Prop} {x1 x2 x3 x4 x5 x6 : Int32} {o7 o8 : Option av_T} (kn : Ev d mX11_setup 157 [some (vR 11 0), some (vI x1), some (vI x2), some (vI x3), some (vI x4), some (vI x5), some (vI x6), o7, o8] [vI x4] S Q) : Ev d mX11_setup 150 [some (vR 11 0), some (vI x1), some (vI x2), some (vI x3), some (vI x4), some (vI x5), some (vI x6), o7, o8] [] S Q := by
  refine Ev.iload dX11_setup_150 rfl ?_
  refine Ev.goto (tgt := 157) dX11_setup_152 (by decide) ?_
  exact kn
theorem bkX11_setup_155 {d : Nat} {S : hs_T} {Q : Option av_T → hs_T → Prop} {x1 x2 x3 x4 x5 x6 : Int32} {o7 o8 : Option av_T} (kn : Ev d mX11_setup 157 [some (vR 11 0), some (vI x1), some (vI x2), some (vI x3), some (vI x4), some (vI x5), some (vI x6), o7, o8] [vI x5] S Q) : Ev d mX11_setup 155 [some (vR 11 0), some (vI x1), some (vI x2), some (vI x3), some (vI x4), some (vI x5), some (vI x6), o7, o8] [] S Q := by
  refine Ev.iload dX11_setup_155 rfl ?_
  exact kn
theorem bkX11_setup_157 {d : Nat} {S : hs_T} {Q : Option av_T → hs_T → Prop} {x1 x2 x3 x4 x5 x6 y0 : Int32} {o7 o8 : Option av_T} (hq : Q (some (vI y0)) S) : Ev d mX11_setup 157 [some (vR 11 0), some (vI x1), some (vI x2), some (vI x3), some (vI x4), some (vI x5), some (vI x6), o7, o8] [vI y0] S Q := by
  exact Ev.iret dX11_setup_157 rfl rfl hq
/-! EightWiresModel.tight(IIII)I -/
theorem bkX11_tight_0 {d : Nat} {S : hs_T} {Q : Option av_T → hs_T → Prop} {P : Int32 → hs_T → Prop} {x1 x2 x3 x4 : Int32} {o5 o6 o7 o8 : Option av_T} (hC : Ci d mX11_isWire [vI x1] S P) (kk : ∀ v S', P v S' → Ev (d + 1) mX11_tight 4 [some (vR 11 0), some (vI x1), some (vI x2), some (vI x3), some (vI x4), o5, o6, o7, o8] [vI v] S' Q) : Ev (d + 1) mX11_tight 0 [some (vR 11 0), some (vI x1), some (vI x2), some (vI x3), some (vI x4), o5, o6, o7, o8] [] S Q := by
  refine Ev.iload_n dX11_tight_0 rfl rfl ?_
  exact Ev.callS (as := [vI x1]) (rest := []) okX11_isWire stX11_isWire ml_X11_206 rfl (Nat.le_of_ble_eq_true rfl) rfl dX11_tight_1 hC (fun r S' h => by obtain ⟨v, rfl, h⟩ := h; exact kk v S' h)
theorem bkX11_tight_4 {d : Nat} {S : hs_T} {Q : Option av_T → hs_T → Prop} {x1 x2 x3 x4 y0 : Int32} {o5 o6 o7 o8 : Option av_T} (kt : y0 = 0 → Ev d mX11_tight 39 [some (vR 11 0), some (vI x1), some (vI x2), some (vI x3), some (vI x4), o5, o6, o7, o8] [] S Q) (kf : ¬ y0 = 0 → Ev d mX11_tight 7 [some (vR 11 0), some (vI x1), some (vI x2), some (vI x3), some (vI x4), o5, o6, o7, o8] [] S Q) : Ev d mX11_tight 4 [some (vR 11 0), some (vI x1), some (vI x2), some (vI x3), some (vI x4), o5, o6, o7, o8] [vI y0] S Q := by
  exact Ev.if_eq (tgt := 39) dX11_tight_4 (by decide) kt kf
theorem bkX11_tight_7 {d : Nat} {S : hs_T} {Q : Option av_T → hs_T → Prop} {P : Int32 → hs_T → Prop} {x1 x2 x3 x4 : Int32} {o5 o6 o7 o8 : Option av_T} (hC : Ci d mX11_isWire [vI x2] S P) (kk : ∀ v S', P v S' → Ev (d + 1) mX11_tight 11 [some (vR 11 0), some (vI x1), some (vI x2), some (vI x3), some (vI x4), o5, o6, o7, o8] [vI v] S' Q) : Ev (d + 1) mX11_tight 7 [some (vR 11 0), some (vI x1), some (vI x2), some (vI x3), some (vI x4), o5, o6, o7, o8] [] S Q := by
  refine Ev.iload_n dX11_tight_7 rfl rfl ?_
  exact Ev.callS (as := [vI x2]) (rest := []) okX11_isWire stX11_isWire ml_X11_206 rfl (Nat.le_of_ble_eq_true rfl) rfl dX11_tight_8 hC (fun r S' h => by obtain ⟨v, rfl, h⟩ := h; exact kk v S' h)
theorem bkX11_tight_11 {d : Nat} {S : hs_T} {Q : Option av_T → hs_T → Prop} {x1 x2 x3 x4 y0 : Int32} {o5 o6 o7 o8 : Option av_T} (kt : y0 = 0 → Ev d mX11_tight 39 [some (vR 11 0), some (vI x1), some (vI x2), some (vI x3), some (vI x4), o5, o6, o7, o8] [] S Q) (kf : ¬ y0 = 0 → Ev d mX11_tight 14 [some (vR 11 0), some (vI x1), some (vI x2), some (vI x3), some (vI x4), o5, o6, o7, o8] [] S Q) : Ev d mX11_tight 11 [some (vR 11 0), some (vI x1), some (vI x2), some (vI x3), some (vI x4), o5, o6, o7, o8] [vI y0] S Q := by
  exact Ev.if_eq (tgt := 39) dX11_tight_11 (by decide) kt kf
theorem bkX11_tight_14 {d : Nat} {S : hs_T} {Q : Option av_T → hs_T → Prop} {P : Int32 → hs_T → Prop} {x1 x2 x3 x4 : Int32} {o5 o6 o7 o8 : Option av_T} (hC : Ci d mX11_in [vJ x3.toInt64, vJ 0, vJ 400] S P) (kk : ∀ v S', P v S' → Ev (d + 1) mX11_tight 23 [some (vR 11 0), some (vI x1), some (vI x2), some (vI x3), some (vI x4), o5, o6, o7, o8] [vI v] S' Q) : Ev (d + 1) mX11_tight 14 [some (vR 11 0), some (vI x1), some (vI x2), some (vI x3), some (vI x4), o5, o6, o7, o8] [] S Q := by
  refine Ev.iload_n dX11_tight_14 rfl rfl ?_
  refine Ev.i2l dX11_tight_15 ?_
  refine Ev.lconst (v := 0) dX11_tight_16 (by decide) ?_
  refine Ev.ldc2 kl_X11_147 dX11_tight_17 ?_
  exact Ev.callS (as := [vJ x3.toInt64, vJ 0, vJ 400]) (rest := []) okX11_in stX11_in ml_X11_58 rfl (Nat.le_of_ble_eq_true rfl) rfl dX11_tight_20 hC (fun r S' h => by obtain ⟨v, rfl, h⟩ := h; exact kk v S' h)
theorem bkX11_tight_23 {d : Nat} {S : hs_T} {Q : Option av_T → hs_T → Prop} {x1 x2 x3 x4 y0 : Int32} {o5 o6 o7 o8 : Option av_T} (kt : y0 = 0 → Ev d mX11_tight 39 [some (vR 11 0), some (vI x1), some (vI x2), some (vI x3), some (vI x4), o5, o6, o7, o8] [] S Q) (kf : ¬ y0 = 0 → Ev d mX11_tight 26 [some (vR 11 0), some (vI x1), some (vI x2), some (vI x3), some (vI x4), o5, o6, o7, o8] [] S Q) : Ev d mX11_tight 23 [some (vR 11 0), some (vI x1), some (vI x2), some (vI x3), some (vI x4), o5, o6, o7, o8] [vI y0] S Q := by
  exact Ev.if_eq (tgt := 39) dX11_tight_23 (by decide) kt kf
theorem bkX11_tight_26 {d : Nat} {S : hs_T} {Q : Option av_T → hs_T → Prop} {P : Int32 → hs_T → Prop} {x1 x2 x3 x4 : Int32} {o5 o6 o7 o8 : Option av_T} (hC : Ci d mX11_in [vJ x4.toInt64, vJ 0, vJ 400] S P) (kk : ∀ v S', P v S' → Ev (d + 1) mX11_tight 36 [some (vR 11 0), some (vI x1), some (vI x2), some (vI x3), some (vI x4), o5, o6, o7, o8] [vI v] S' Q) : Ev (d + 1) mX11_tight 26 [some (vR 11 0), some (vI x1), some (vI x2), some (vI x3), some (vI x4), o5, o6, o7, o8] [] S Q := by
  refine Ev.iload dX11_tight_26 rfl ?_
  refine Ev.i2l dX11_tight_28 ?_
  refine Ev.lconst (v := 0) dX11_tight_29 (by decide) ?_
  refine Ev.ldc2 kl_X11_147 dX11_tight_30 ?_
  exact Ev.callS (as := [vJ x4.toInt64, vJ 0, vJ 400]) (rest := []) okX11_in stX11_in ml_X11_58 rfl (Nat.le_of_ble_eq_true rfl) rfl dX11_tight_33 hC (fun r S' h => by obtain ⟨v, rfl, h⟩ := h; exact kk v S' h)
theorem bkX11_tight_36 {d : Nat} {S : hs_T} {Q : Option av_T → hs_T → Prop} {x1 x2 x3 x4 y0 : Int32} {o5 o6 o7 o8 : Option av_T} (kt : ¬ y0 = 0 → Ev d mX11_tight 41 [some (vR 11 0), some (vI x1), some (vI x2), some (vI x3), some (vI x4), o5, o6, o7, o8] [] S Q) (kf : y0 = 0 → Ev d mX11_tight 39 [some (vR 11 0), some (vI x1), some (vI x2), some (vI x3), some (vI x4), o5, o6, o7, o8] [] S Q) : Ev d mX11_tight 36 [some (vR 11 0), some (vI x1), some (vI x2), some (vI x3), some (vI x4), o5, o6, o7, o8] [vI y0] S Q := by
  exact Ev.if_ne (tgt := 41) dX11_tight_36 (by decide) kt kf
theorem bkX11_tight_39 {d : Nat} {S : hs_T} {Q : Option av_T → hs_T → Prop} {x1 x2 x3 x4 : Int32} {o5 o6 o7 o8 : Option av_T} (hq : Q (some (vI (-1))) S) : Ev d mX11_tight 39 [some (vR 11 0), some (vI x1), some (vI x2), some (vI x3), some (vI x4), o5, o6, o7, o8] [] S Q := by
  refine Ev.iconst (v := (-1)) dX11_tight_39 (by decide) ?_
  exact Ev.iret dX11_tight_40 rfl rfl hq
theorem bkX11_tight_41 {d : Nat} {S : hs_T} {Q : Option av_T → hs_T → Prop} {x1 x2 x3 x4 : Int32} {o5 o6 o7 o8 : Option av_T} (kn : Ev d mX11_tight 47 [some (vR 11 0), some (vI x1), some (vI x2), some (vI x3), some (vI x4), some (vI 0), some (vI 0), o7, o8] [] S Q) : Ev d mX11_tight 41 [some (vR 11 0), some (vI x1), some (vI x2), some (vI x3), some (vI x4), o5, o6, o7, o8] [] S Q := by
  refine Ev.iconst (v := 0) dX11_tight_41 (by decide) ?_
  refine Ev.istore (ls' := [some (vR 11 0), some (vI x1), some (vI x2), some (vI x3), some (vI x4), some (vI 0), o6, o7, o8]) dX11_tight_42 (by decide) rfl ?_
  refine Ev.iconst (v := 0) dX11_tight_44 (by decide) ?_
  refine Ev.istore (ls' := [some (vR 11 0), some (vI x1), some (vI x2), some (vI x3), some (vI x4), some (vI 0), some (vI 0), o7, o8]) dX11_tight_45 (by decide) rfl ?_
  exact kn
theorem bkX11_tight_47 {d : Nat} {S : hs_T} {Q : Option av_T → hs_T → Prop} {x1 x2 x3 x4 x5 x6 : Int32} {o7 o8 : Option av_T} (kt : (S.1 11 0 3) ≤ x6 → Ev d mX11_tight 130 [some (vR 11 0), some (vI x1), some (vI x2), some (vI x3), some (vI x4), some (vI x5), some (vI x6), o7, o8] [] S Q) (kf : ¬ (S.1 11 0 3) ≤ x6 → Ev d mX11_tight 56 [some (vR 11 0), some (vI x1), some (vI x2), some (vI x3), some (vI x4), some (vI x5), some (vI x6), o7, o8] [] S Q) : Ev d mX11_tight 47 [some (vR 11 0), some (vI x1), some (vI x2), some (vI x3), some (vI x4), some (vI x5), some (vI x6), o7, o8] [] S Q := by
  refine Ev.iload dX11_tight_47 rfl ?_
  refine Ev.aload_n dX11_tight_49 rfl rfl ?_
  refine Ev.get (v := vI (S.1 11 0 3)) okX11 (by decide) fl_X11_144 pz_11_0 (ff_11_3 _ _) dX11_tight_50 ?_
  exact Ev.icmp_ge (tgt := 130) dX11_tight_53 (by decide) kt kf
theorem bkX11_tight_56 {d : Nat} {S : hs_T} {Q : Option av_T → hs_T → Prop} {P : Int32 → hs_T → Prop} {x1 x2 x3 x4 x5 x6 : Int32} {o7 o8 : Option av_T} (hC : Ci d mX11_rises [vR 11 0, vI x1, vI x6] S P) (kk : ∀ v S', P v S' → Ev (d + 1) mX11_tight 63 [some (vR 11 0), some (vI x1), some (vI x2), some (vI x3), some (vI x4), some (vI x5), some (vI x6), o7, o8] [vI v] S' Q) : Ev (d + 1) mX11_tight 56 [some (vR 11 0), some (vI x1), some (vI x2), some (vI x3), some (vI x4), some (vI x5), some (vI x6), o7, o8] [] S Q := by
  refine Ev.aload_n dX11_tight_56 rfl rfl ?_
  refine Ev.iload_n dX11_tight_57 rfl rfl ?_
  refine Ev.iload dX11_tight_58 rfl ?_
  exact Ev.callV (as := [vI x1, vI x6]) (rest := []) okX11_rises in_X11_rises ml_X11_159 rfl (Nat.le_of_ble_eq_true rfl) pz_11_0 (by decide) rfl rfl dX11_tight_60 hC (fun r S' h => by obtain ⟨v, rfl, h⟩ := h; exact kk v S' h)
theorem bkX11_tight_63 {d : Nat} {S : hs_T} {Q : Option av_T → hs_T → Prop} {x1 x2 x3 x4 x5 x6 y0 : Int32} {o7 o8 : Option av_T} (kt : y0 = 0 → Ev d mX11_tight 124 [some (vR 11 0), some (vI x1), some (vI x2), some (vI x3), some (vI x4), some (vI x5), some (vI x6), o7, o8] [] S Q) (kf : ¬ y0 = 0 → Ev d mX11_tight 66 [some (vR 11 0), some (vI x1), some (vI x2), some (vI x3), some (vI x4), some (vI x5), some (vI x6), o7, o8] [] S Q) : Ev d mX11_tight 63 [some (vR 11 0), some (vI x1), some (vI x2), some (vI x3), some (vI x4), some (vI x5), some (vI x6), o7, o8] [vI y0] S Q := by
  exact Ev.if_eq (tgt := 124) dX11_tight_63 (by decide) kt kf
theorem bkX11_tight_66 {d : Nat} {S : hs_T} {Q : Option av_T → hs_T → Prop} {P : Int32 → hs_T → Prop} {x1 x2 x3 x4 x5 x6 : Int32} {o7 o8 : Option av_T} (hC : Ci d mX11_aheadOf [vR 11 0, vI x2, vI x6] S P) (kk : ∀ v S', P v S' → Ev (d + 1) mX11_tight 73 [some (vR 11 0), some (vI x1), some (vI x2), some (vI x3), some (vI x4), some (vI x5), some (vI x6), o7, o8] [vI v] S' Q) : Ev (d + 1) mX11_tight 66 [some (vR 11 0), some (vI x1), some (vI x2), some (vI x3), some (vI x4), some (vI x5), some (vI x6), o7, o8] [] S Q := by
  refine Ev.aload_n dX11_tight_66 rfl rfl ?_
  refine Ev.iload_n dX11_tight_67 rfl rfl ?_
  refine Ev.iload dX11_tight_68 rfl ?_
  exact Ev.callV (as := [vI x2, vI x6]) (rest := []) okX11_aheadOf in_X11_aheadOf ml_X11_253 rfl (Nat.le_of_ble_eq_true rfl) pz_11_0 (by decide) rfl rfl dX11_tight_70 hC (fun r S' h => by obtain ⟨v, rfl, h⟩ := h; exact kk v S' h)
theorem bkX11_tight_73 {d : Nat} {S : hs_T} {Q : Option av_T → hs_T → Prop} {P : Int32 → hs_T → Prop} {x1 x2 x3 x4 x5 x6 y0 : Int32} {o7 o8 : Option av_T} (hC : Ci d mX11_behindOf [vR 11 0, vI x2, vI x6] S P) (kk : ∀ v S', P v S' → Ev (d + 1) mX11_tight 82 [some (vR 11 0), some (vI x1), some (vI x2), some (vI x3), some (vI x4), some (vI x5), some (vI x6), some (vI y0), o8] [vI v] S' Q) : Ev (d + 1) mX11_tight 73 [some (vR 11 0), some (vI x1), some (vI x2), some (vI x3), some (vI x4), some (vI x5), some (vI x6), o7, o8] [vI y0] S Q := by
  refine Ev.istore (ls' := [some (vR 11 0), some (vI x1), some (vI x2), some (vI x3), some (vI x4), some (vI x5), some (vI x6), some (vI y0), o8]) dX11_tight_73 (by decide) rfl ?_
  refine Ev.aload_n dX11_tight_75 rfl rfl ?_
  refine Ev.iload_n dX11_tight_76 rfl rfl ?_
  refine Ev.iload dX11_tight_77 rfl ?_
  exact Ev.callV (as := [vI x2, vI x6]) (rest := []) okX11_behindOf in_X11_behindOf ml_X11_256 rfl (Nat.le_of_ble_eq_true rfl) pz_11_0 (by decide) rfl rfl dX11_tight_79 hC (fun r S' h => by obtain ⟨v, rfl, h⟩ := h; exact kk v S' h)
theorem bkX11_tight_82 {d : Nat} {S : hs_T} {Q : Option av_T → hs_T → Prop} {x1 x2 x3 x4 x5 x6 x7 y0 : Int32} {o8 : Option av_T} (kt : x7 = (-4) → Ev d mX11_tight 99 [some (vR 11 0), some (vI x1), some (vI x2), some (vI x3), some (vI x4), some (vI x5), some (vI x6), some (vI x7), some (vI y0)] [vI x5] S Q) (kf : ¬ x7 = (-4) → Ev d mX11_tight 93 [some (vR 11 0), some (vI x1), some (vI x2), some (vI x3), some (vI x4), some (vI x5), some (vI x6), some (vI x7), some (vI y0)] [vI x5] S Q) : Ev d mX11_tight 82 [some (vR 11 0), some (vI x1), some (vI x2), some (vI x3), some (vI x4), some (vI x5), some (vI x6), some (vI x7), o8] [vI y0] S Q := by
  refine Ev.istore (ls' := [some (vR 11 0), some (vI x1), some (vI x2), some (vI x3), some (vI x4), some (vI x5), some (vI x6), some (vI x7), some (vI y0)]) dX11_tight_82 (by decide) rfl ?_
  refine Ev.iload dX11_tight_84 rfl ?_
  refine Ev.iload dX11_tight_86 rfl ?_
  refine Ev.bipush (v := (-4)) dX11_tight_88 (by decide) ?_
  exact Ev.icmp_eq (tgt := 99) dX11_tight_90 (by decide) kt kf
theorem bkX11_tight_93 {d : Nat} {S : hs_T} {Q : Option av_T → hs_T → Prop} {x1 x2 x3 x4 x5 x6 x7 x8 y0 : Int32} (kt : x7 < x3 → Ev d mX11_tight 113 [some (vR 11 0), some (vI x1), some (vI x2), some (vI x3), some (vI x4), some (vI x5), some (vI x6), some (vI x7), some (vI x8)] [vI y0] S Q) (kf : ¬ x7 < x3 → Ev d mX11_tight 99 [some (vR 11 0), some (vI x1), some (vI x2), some (vI x3), some (vI x4), some (vI x5), some (vI x6), some (vI x7), some (vI x8)] [vI y0] S Q) : Ev d mX11_tight 93 [some (vR 11 0), some (vI x1), some (vI x2), some (vI x3), some (vI x4), some (vI x5), some (vI x6), some (vI x7), some (vI x8)] [vI y0] S Q := by
  refine Ev.iload dX11_tight_93 rfl ?_
  refine Ev.iload_n dX11_tight_95 rfl rfl ?_
  exact Ev.icmp_lt (tgt := 113) dX11_tight_96 (by decide) kt kf
theorem bkX11_tight_99 {d : Nat} {S : hs_T} {Q : Option av_T → hs_T → Prop} {x1 x2 x3 x4 x5 x6 x7 x8 y0 : Int32} (kt : x8 = (-4) → Ev d mX11_tight 117 [some (vR 11 0), some (vI x1), some (vI x2), some (vI x3), some (vI x4), some (vI x5), some (vI x6), some (vI x7), some (vI x8)] [vI y0] S Q) (kf : ¬ x8 = (-4) → Ev d mX11_tight 106 [some (vR 11 0), some (vI x1), some (vI x2), some (vI x3), some (vI x4), some (vI x5), some (vI x6), some (vI x7), some (vI x8)] [vI y0] S Q) : Ev d mX11_tight 99 [some (vR 11 0), some (vI x1), some (vI x2), some (vI x3), some (vI x4), some (vI x5), some (vI x6), some (vI x7), some (vI x8)] [vI y0] S Q := by
  refine Ev.iload dX11_tight_99 rfl ?_
  refine Ev.bipush (v := (-4)) dX11_tight_101 (by decide) ?_
  exact Ev.icmp_eq (tgt := 117) dX11_tight_103 (by decide) kt kf
theorem bkX11_tight_106 {d : Nat} {S : hs_T} {Q : Option av_T → hs_T → Prop} {x1 x2 x3 x4 x5 x6 x7 x8 y0 : Int32} (kt : x4 ≤ x8 → Ev d mX11_tight 117 [some (vR 11 0), some (vI x1), some (vI x2), some (vI x3), some (vI x4), some (vI x5), some (vI x6), some (vI x7), some (vI x8)] [vI y0] S Q) (kf : ¬ x4 ≤ x8 → Ev d mX11_tight 113 [some (vR 11 0), some (vI x1), some (vI x2), some (vI x3), some (vI x4), some (vI x5), some (vI x6), some (vI x7), some (vI x8)] [vI y0] S Q) : Ev d mX11_tight 106 [some (vR 11 0), some (vI x1), some (vI x2), some (vI x3), some (vI x4), some (vI x5), some (vI x6), some (vI x7), some (vI x8)] [vI y0] S Q := by
  refine Ev.iload dX11_tight_106 rfl ?_
  refine Ev.iload dX11_tight_108 rfl ?_
  exact Ev.icmp_ge (tgt := 117) dX11_tight_110 (by decide) kt kf
theorem bkX11_tight_113 {d : Nat} {S : hs_T} {Q : Option av_T → hs_T → Prop} {x1 x2 x3 x4 x5 x6 x7 x8 y0 : Int32} (kn : Ev d mX11_tight 118 [some (vR 11 0), some (vI x1), some (vI x2), some (vI x3), some (vI x4), some (vI x5), some (vI x6), some (vI x7), some (vI x8)] [vI 1, vI y0] S Q) : Ev d mX11_tight 113 [some (vR 11 0), some (vI x1), some (vI x2), some (vI x3), some (vI x4), some (vI x5), some (vI x6), some (vI x7), some (vI x8)] [vI y0] S Q := by
  refine Ev.iconst (v := 1) dX11_tight_113 (by decide) ?_
  refine Ev.goto (tgt := 118) dX11_tight_114 (by decide) ?_
  exact kn
theorem bkX11_tight_117 {d : Nat} {S : hs_T} {Q : Option av_T → hs_T → Prop} {x1 x2 x3 x4 x5 x6 x7 x8 y0 : Int32} (kn : Ev d mX11_tight 118 [some (vR 11 0), some (vI x1), some (vI x2), some (vI x3), some (vI x4), some (vI x5), some (vI x6), some (vI x7), some (vI x8)] [vI 0, vI y0] S Q) : Ev d mX11_tight 117 [some (vR 11 0), some (vI x1), some (vI x2), some (vI x3), some (vI x4), some (vI x5), some (vI x6), some (vI x7), some (vI x8)] [vI y0] S Q := by
  refine Ev.iconst (v := 0) dX11_tight_117 (by decide) ?_
  exact kn
theorem bkX11_tight_118 {d : Nat} {S : hs_T} {Q : Option av_T → hs_T → Prop} {P : Int32 → hs_T → Prop} {x1 x2 x3 x4 x5 x6 x7 x8 y0 y1 : Int32} (hC : Ci d mX11_flag [vI y0] S P) (kk : ∀ v S', P v S' → Ev (d + 1) mX11_tight 121 [some (vR 11 0), some (vI x1), some (vI x2), some (vI x3), some (vI x4), some (vI x5), some (vI x6), some (vI x7), some (vI x8)] [vI v, vI y1] S' Q) : Ev (d + 1) mX11_tight 118 [some (vR 11 0), some (vI x1), some (vI x2), some (vI x3), some (vI x4), some (vI x5), some (vI x6), some (vI x7), some (vI x8)] [vI y0, vI y1] S Q := by
  exact Ev.callS (as := [vI y0]) (rest := [vI y1]) okX11_flag stX11_flag ml_X11_213 rfl (Nat.le_of_ble_eq_true rfl) rfl dX11_tight_118 hC (fun r S' h => by obtain ⟨v, rfl, h⟩ := h; exact kk v S' h)
theorem bkX11_tight_121 {d : Nat} {S : hs_T} {Q : Option av_T → hs_T → Prop} {x1 x2 x3 x4 x5 x6 x7 x8 y0 y1 : Int32} (kn : Ev d mX11_tight 124 [some (vR 11 0), some (vI x1), some (vI x2), some (vI x3), some (vI x4), some (vI (y1 + y0)), some (vI x6), some (vI x7), some (vI x8)] [] S Q) : Ev d mX11_tight 121 [some (vR 11 0), some (vI x1), some (vI x2), some (vI x3), some (vI x4), some (vI x5), some (vI x6), some (vI x7), some (vI x8)] [vI y0, vI y1] S Q := by
  refine Ev.iadd dX11_tight_121 ?_
  refine Ev.istore (ls' := [some (vR 11 0), some (vI x1), some (vI x2), some (vI x3), some (vI x4), some (vI (y1 + y0)), some (vI x6), some (vI x7), some (vI x8)]) dX11_tight_122 (by decide) rfl ?_
  exact kn
theorem bkX11_tight_124 {d : Nat} {S : hs_T} {Q : Option av_T → hs_T → Prop} {x1 x2 x3 x4 x5 x6 : Int32} {o7 o8 : Option av_T} (kn : Ev d mX11_tight 47 [some (vR 11 0), some (vI x1), some (vI x2), some (vI x3), some (vI x4), some (vI x5), some (vI (x6 + 1)), o7, o8] [] S Q) : Ev d mX11_tight 124 [some (vR 11 0), some (vI x1), some (vI x2), some (vI x3), some (vI x4), some (vI x5), some (vI x6), o7, o8] [] S Q := by
  refine Ev.iinc (v := (x6 + 1)) (ls' := [some (vR 11 0), some (vI x1), some (vI x2), some (vI x3), some (vI x4), some (vI x5), some (vI (x6 + 1)), o7, o8]) dX11_tight_124 rfl rfl (by decide) rfl ?_
  refine Ev.goto (tgt := 47) dX11_tight_127 (by decide) ?_
  exact kn
theorem bkX11_tight_130 {d : Nat} {S : hs_T} {Q : Option av_T → hs_T → Prop} {x1 x2 x3 x4 x5 x6 : Int32} {o7 o8 : Option av_T} (hq : Q (some (vI x5)) S) : Ev d mX11_tight 130 [some (vR 11 0), some (vI x1), some (vI x2), some (vI x3), some (vI x4), some (vI x5), some (vI x6), o7, o8] [] S Q := by
  refine Ev.iload dX11_tight_130 rfl ?_
  exact Ev.iret dX11_tight_132 rfl rfl hq
/-! EightWiresModel.bits(IIII)I -/
theorem bkX11_bits_0 {d : Nat} {S : hs_T} {Q : Option av_T → hs_T → Prop} {P : Int32 → hs_T → Prop} {x1 x2 x3 x4 : Int32} {o5 o6 o7 o8 o9 o10 : Option av_T} (hC : Ci d mX11_isWire [vI x1] S P) (kk : ∀ v S', P v S' → Ev (d + 1) mX11_bits 4 [some (vR 11 0), some (vI x1), some (vI x2), some (vI x3), some (vI x4), o5, o6, o7, o8, o9, o10] [vI v] S' Q) : Ev (d + 1) mX11_bits 0 [some (vR 11 0), some (vI x1), some (vI x2), some (vI x3), some (vI x4), o5, o6, o7, o8, o9, o10] [] S Q := by
  refine Ev.iload_n dX11_bits_0 rfl rfl ?_
  exact Ev.callS (as := [vI x1]) (rest := []) okX11_isWire stX11_isWire ml_X11_206 rfl (Nat.le_of_ble_eq_true rfl) rfl dX11_bits_1 hC (fun r S' h => by obtain ⟨v, rfl, h⟩ := h; exact kk v S' h)
theorem bkX11_bits_4 {d : Nat} {S : hs_T} {Q : Option av_T → hs_T → Prop} {x1 x2 x3 x4 y0 : Int32} {o5 o6 o7 o8 o9 o10 : Option av_T} (kt : y0 = 0 → Ev d mX11_bits 41 [some (vR 11 0), some (vI x1), some (vI x2), some (vI x3), some (vI x4), o5, o6, o7, o8, o9, o10] [] S Q) (kf : ¬ y0 = 0 → Ev d mX11_bits 7 [some (vR 11 0), some (vI x1), some (vI x2), some (vI x3), some (vI x4), o5, o6, o7, o8, o9, o10] [] S Q) : Ev d mX11_bits 4 [some (vR 11 0), some (vI x1), some (vI x2), some (vI x3), some (vI x4), o5, o6, o7, o8, o9, o10] [vI y0] S Q := by
  exact Ev.if_eq (tgt := 41) dX11_bits_4 (by decide) kt kf
theorem bkX11_bits_7 {d : Nat} {S : hs_T} {Q : Option av_T → hs_T → Prop} {P : Int32 → hs_T → Prop} {x1 x2 x3 x4 : Int32} {o5 o6 o7 o8 o9 o10 : Option av_T} (hC : Ci d mX11_isWire [vI x2] S P) (kk : ∀ v S', P v S' → Ev (d + 1) mX11_bits 11 [some (vR 11 0), some (vI x1), some (vI x2), some (vI x3), some (vI x4), o5, o6, o7, o8, o9, o10] [vI v] S' Q) : Ev (d + 1) mX11_bits 7 [some (vR 11 0), some (vI x1), some (vI x2), some (vI x3), some (vI x4), o5, o6, o7, o8, o9, o10] [] S Q := by
  refine Ev.iload_n dX11_bits_7 rfl rfl ?_
  exact Ev.callS (as := [vI x2]) (rest := []) okX11_isWire stX11_isWire ml_X11_206 rfl (Nat.le_of_ble_eq_true rfl) rfl dX11_bits_8 hC (fun r S' h => by obtain ⟨v, rfl, h⟩ := h; exact kk v S' h)
theorem bkX11_bits_11 {d : Nat} {S : hs_T} {Q : Option av_T → hs_T → Prop} {x1 x2 x3 x4 y0 : Int32} {o5 o6 o7 o8 o9 o10 : Option av_T} (kt : y0 = 0 → Ev d mX11_bits 41 [some (vR 11 0), some (vI x1), some (vI x2), some (vI x3), some (vI x4), o5, o6, o7, o8, o9, o10] [] S Q) (kf : ¬ y0 = 0 → Ev d mX11_bits 14 [some (vR 11 0), some (vI x1), some (vI x2), some (vI x3), some (vI x4), o5, o6, o7, o8, o9, o10] [] S Q) : Ev d mX11_bits 11 [some (vR 11 0), some (vI x1), some (vI x2), some (vI x3), some (vI x4), o5, o6, o7, o8, o9, o10] [vI y0] S Q := by
  exact Ev.if_eq (tgt := 41) dX11_bits_11 (by decide) kt kf
theorem bkX11_bits_14 {d : Nat} {S : hs_T} {Q : Option av_T → hs_T → Prop} {P : Int32 → hs_T → Prop} {x1 x2 x3 x4 : Int32} {o5 o6 o7 o8 o9 o10 : Option av_T} (hC : Ci d mX11_isWire [vI x3] S P) (kk : ∀ v S', P v S' → Ev (d + 1) mX11_bits 18 [some (vR 11 0), some (vI x1), some (vI x2), some (vI x3), some (vI x4), o5, o6, o7, o8, o9, o10] [vI v] S' Q) : Ev (d + 1) mX11_bits 14 [some (vR 11 0), some (vI x1), some (vI x2), some (vI x3), some (vI x4), o5, o6, o7, o8, o9, o10] [] S Q := by
  refine Ev.iload_n dX11_bits_14 rfl rfl ?_
  exact Ev.callS (as := [vI x3]) (rest := []) okX11_isWire stX11_isWire ml_X11_206 rfl (Nat.le_of_ble_eq_true rfl) rfl dX11_bits_15 hC (fun r S' h => by obtain ⟨v, rfl, h⟩ := h; exact kk v S' h)
theorem bkX11_bits_18 {d : Nat} {S : hs_T} {Q : Option av_T → hs_T → Prop} {x1 x2 x3 x4 y0 : Int32} {o5 o6 o7 o8 o9 o10 : Option av_T} (kt : y0 = 0 → Ev d mX11_bits 41 [some (vR 11 0), some (vI x1), some (vI x2), some (vI x3), some (vI x4), o5, o6, o7, o8, o9, o10] [] S Q) (kf : ¬ y0 = 0 → Ev d mX11_bits 21 [some (vR 11 0), some (vI x1), some (vI x2), some (vI x3), some (vI x4), o5, o6, o7, o8, o9, o10] [] S Q) : Ev d mX11_bits 18 [some (vR 11 0), some (vI x1), some (vI x2), some (vI x3), some (vI x4), o5, o6, o7, o8, o9, o10] [vI y0] S Q := by
  exact Ev.if_eq (tgt := 41) dX11_bits_18 (by decide) kt kf
theorem bkX11_bits_21 {d : Nat} {S : hs_T} {Q : Option av_T → hs_T → Prop} {P : Int32 → hs_T → Prop} {x1 x2 x3 x4 : Int32} {o5 o6 o7 o8 o9 o10 : Option av_T} (hC : Ci d mX11_in [vJ x4.toInt64, vJ 0, vJ 2] S P) (kk : ∀ v S', P v S' → Ev (d + 1) mX11_bits 31 [some (vR 11 0), some (vI x1), some (vI x2), some (vI x3), some (vI x4), o5, o6, o7, o8, o9, o10] [vI v] S' Q) : Ev (d + 1) mX11_bits 21 [some (vR 11 0), some (vI x1), some (vI x2), some (vI x3), some (vI x4), o5, o6, o7, o8, o9, o10] [] S Q := by
  refine Ev.iload dX11_bits_21 rfl ?_
  refine Ev.i2l dX11_bits_23 ?_
  refine Ev.lconst (v := 0) dX11_bits_24 (by decide) ?_
  refine Ev.ldc2 kl_X11_138 dX11_bits_25 ?_
  exact Ev.callS (as := [vJ x4.toInt64, vJ 0, vJ 2]) (rest := []) okX11_in stX11_in ml_X11_58 rfl (Nat.le_of_ble_eq_true rfl) rfl dX11_bits_28 hC (fun r S' h => by obtain ⟨v, rfl, h⟩ := h; exact kk v S' h)
theorem bkX11_bits_31 {d : Nat} {S : hs_T} {Q : Option av_T → hs_T → Prop} {x1 x2 x3 x4 y0 : Int32} {o5 o6 o7 o8 o9 o10 : Option av_T} (kt : ¬ y0 = 0 → Ev d mX11_bits 43 [some (vR 11 0), some (vI x1), some (vI x2), some (vI x3), some (vI x4), o5, o6, o7, o8, o9, o10] [] S Q) (kf : y0 = 0 → Ev d mX11_bits 34 [some (vR 11 0), some (vI x1), some (vI x2), some (vI x3), some (vI x4), o5, o6, o7, o8, o9, o10] [] S Q) : Ev d mX11_bits 31 [some (vR 11 0), some (vI x1), some (vI x2), some (vI x3), some (vI x4), o5, o6, o7, o8, o9, o10] [vI y0] S Q := by
  exact Ev.if_ne (tgt := 43) dX11_bits_31 (by decide) kt kf
theorem bkX11_bits_34 {d : Nat} {S : hs_T} {Q : Option av_T → hs_T → Prop} {x1 x2 x3 x4 : Int32} {o5 o6 o7 o8 o9 o10 : Option av_T} (kt : 10 ≤ x4 → Ev d mX11_bits 43 [some (vR 11 0), some (vI x1), some (vI x2), some (vI x3), some (vI x4), o5, o6, o7, o8, o9, o10] [] S Q) (kf : ¬ 10 ≤ x4 → Ev d mX11_bits 41 [some (vR 11 0), some (vI x1), some (vI x2), some (vI x3), some (vI x4), o5, o6, o7, o8, o9, o10] [] S Q) : Ev d mX11_bits 34 [some (vR 11 0), some (vI x1), some (vI x2), some (vI x3), some (vI x4), o5, o6, o7, o8, o9, o10] [] S Q := by
  refine Ev.iload dX11_bits_34 rfl ?_
  refine Ev.bipush (v := 10) dX11_bits_36 (by decide) ?_
  exact Ev.icmp_ge (tgt := 43) dX11_bits_38 (by decide) kt kf
theorem bkX11_bits_41 {d : Nat} {S : hs_T} {Q : Option av_T → hs_T → Prop} {x1 x2 x3 x4 : Int32} {o5 o6 o7 o8 o9 o10 : Option av_T} (hq : Q (some (vI (-1))) S) : Ev d mX11_bits 41 [some (vR 11 0), some (vI x1), some (vI x2), some (vI x3), some (vI x4), o5, o6, o7, o8, o9, o10] [] S Q := by
  refine Ev.iconst (v := (-1)) dX11_bits_41 (by decide) ?_
  exact Ev.iret dX11_bits_42 rfl rfl hq
theorem bkX11_bits_43 {d : Nat} {S : hs_T} {Q : Option av_T → hs_T → Prop} {x1 x2 x3 x4 : Int32} {o5 o6 o7 o8 o9 o10 : Option av_T} (kn : Ev d mX11_bits 61 [some (vR 11 0), some (vI x1), some (vI x2), some (vI x3), some (vI x4), some (vI 0), some (vI 0), some (vI 0), some (vI 0), some (vI (-1)), some (vI 0)] [] S Q) : Ev d mX11_bits 43 [some (vR 11 0), some (vI x1), some (vI x2), some (vI x3), some (vI x4), o5, o6, o7, o8, o9, o10] [] S Q := by
  refine Ev.iconst (v := 0) dX11_bits_43 (by decide) ?_
  refine Ev.istore (ls' := [some (vR 11 0), some (vI x1), some (vI x2), some (vI x3), some (vI x4), some (vI 0), o6, o7, o8, o9, o10]) dX11_bits_44 (by decide) rfl ?_
  refine Ev.iconst (v := 0) dX11_bits_46 (by decide) ?_
  refine Ev.istore (ls' := [some (vR 11 0), some (vI x1), some (vI x2), some (vI x3), some (vI x4), some (vI 0), some (vI 0), o7, o8, o9, o10]) dX11_bits_47 (by decide) rfl ?_
  refine Ev.iconst (v := 0) dX11_bits_49 (by decide) ?_
  refine Ev.istore (ls' := [some (vR 11 0), some (vI x1), some (vI x2), some (vI x3), some (vI x4), some (vI 0), some (vI 0), some (vI 0), o8, o9, o10]) dX11_bits_50 (by decide) rfl ?_
  refine Ev.iconst (v := 0) dX11_bits_52 (by decide) ?_
  refine Ev.istore (ls' := [some (vR 11 0), some (vI x1), some (vI x2), some (vI x3), some (vI x4), some (vI 0), some (vI 0), some (vI 0), some (vI 0), o9, o10]) dX11_bits_53 (by decide) rfl ?_
  refine Ev.iconst (v := (-1)) dX11_bits_55 (by decide) ?_
  refine Ev.istore (ls' := [some (vR 11 0), some (vI x1), some (vI x2), some (vI x3), some (vI x4), some (vI 0), some (vI 0), some (vI 0), some (vI 0), some (vI (-1)), o10]) dX11_bits_56 (by decide) rfl ?_
  refine Ev.iconst (v := 0) dX11_bits_58 (by decide) ?_
  refine Ev.istore (ls' := [some (vR 11 0), some (vI x1), some (vI x2), some (vI x3), some (vI x4), some (vI 0), some (vI 0), some (vI 0), some (vI 0), some (vI (-1)), some (vI 0)]) dX11_bits_59 (by decide) rfl ?_
  exact kn
theorem bkX11_bits_61 {d : Nat} {S : hs_T} {Q : Option av_T → hs_T → Prop} {x1 x2 x3 x4 x5 x6 x7 x8 x9 x10 : Int32} (kt : (S.1 11 0 3) ≤ x10 → Ev d mX11_bits 167 [some (vR 11 0), some (vI x1), some (vI x2), some (vI x3), some (vI x4), some (vI x5), some (vI x6), some (vI x7), some (vI x8), some (vI x9), some (vI x10)] [] S Q) (kf : ¬ (S.1 11 0 3) ≤ x10 → Ev d mX11_bits 70 [some (vR 11 0), some (vI x1), some (vI x2), some (vI x3), some (vI x4), some (vI x5), some (vI x6), some (vI x7), some (vI x8), some (vI x9), some (vI x10)] [] S Q) : Ev d mX11_bits 61 [some (vR 11 0), some (vI x1), some (vI x2), some (vI x3), some (vI x4), some (vI x5), some (vI x6), some (vI x7), some (vI x8), some (vI x9), some (vI x10)] [] S Q := by
  refine Ev.iload dX11_bits_61 rfl ?_
  refine Ev.aload_n dX11_bits_63 rfl rfl ?_
  refine Ev.get (v := vI (S.1 11 0 3)) okX11 (by decide) fl_X11_144 pz_11_0 (ff_11_3 _ _) dX11_bits_64 ?_
  exact Ev.icmp_ge (tgt := 167) dX11_bits_67 (by decide) kt kf
theorem bkX11_bits_70 {d : Nat} {S : hs_T} {Q : Option av_T → hs_T → Prop} {P : Int32 → hs_T → Prop} {x1 x2 x3 x4 x5 x6 x7 x8 x9 x10 : Int32} (hC : Ci d mX11_isHigh [vR 11 0, vI x3, vI x10] S P) (kk : ∀ v S', P v S' → Ev (d + 1) mX11_bits 77 [some (vR 11 0), some (vI x1), some (vI x2), some (vI x3), some (vI x4), some (vI x5), some (vI x6), some (vI x7), some (vI x8), some (vI x9), some (vI x10)] [vI v] S' Q) : Ev (d + 1) mX11_bits 70 [some (vR 11 0), some (vI x1), some (vI x2), some (vI x3), some (vI x4), some (vI x5), some (vI x6), some (vI x7), some (vI x8), some (vI x9), some (vI x10)] [] S Q := by
  refine Ev.aload_n dX11_bits_70 rfl rfl ?_
  refine Ev.iload_n dX11_bits_71 rfl rfl ?_
  refine Ev.iload dX11_bits_72 rfl ?_
  exact Ev.callV (as := [vI x3, vI x10]) (rest := []) okX11_isHigh in_X11_isHigh ml_X11_155 rfl (Nat.le_of_ble_eq_true rfl) pz_11_0 (by decide) rfl rfl dX11_bits_74 hC (fun r S' h => by obtain ⟨v, rfl, h⟩ := h; exact kk v S' h)
theorem bkX11_bits_77 {d : Nat} {S : hs_T} {Q : Option av_T → hs_T → Prop} {x1 x2 x3 x4 x5 x6 x7 x8 x9 x10 y0 : Int32} (kt : y0 = 0 → Ev d mX11_bits 96 [some (vR 11 0), some (vI x1), some (vI x2), some (vI x3), some (vI x4), some (vI x5), some (vI x6), some (vI x7), some (vI x8), some (vI x9), some (vI x10)] [] S Q) (kf : ¬ y0 = 0 → Ev d mX11_bits 80 [some (vR 11 0), some (vI x1), some (vI x2), some (vI x3), some (vI x4), some (vI x5), some (vI x6), some (vI x7), some (vI x8), some (vI x9), some (vI x10)] [] S Q) : Ev d mX11_bits 77 [some (vR 11 0), some (vI x1), some (vI x2), some (vI x3), some (vI x4), some (vI x5), some (vI x6), some (vI x7), some (vI x8), some (vI x9), some (vI x10)] [vI y0] S Q := by
  exact Ev.if_eq (tgt := 96) dX11_bits_77 (by decide) kt kf
theorem bkX11_bits_80 {d : Nat} {S : hs_T} {Q : Option av_T → hs_T → Prop} {x1 x2 x3 x4 x5 x6 x7 x8 x9 x10 : Int32} (kn : Ev d mX11_bits 161 [some (vR 11 0), some (vI x1), some (vI x2), some (vI x3), some (vI x4), some (vI x5), some (vI (x6 + x7)), some (vI 0), some (vI 0), some (vI x9), some (vI x10)] [] S Q) : Ev d mX11_bits 80 [some (vR 11 0), some (vI x1), some (vI x2), some (vI x3), some (vI x4), some (vI x5), some (vI x6), some (vI x7), some (vI x8), some (vI x9), some (vI x10)] [] S Q := by
  refine Ev.iload dX11_bits_80 rfl ?_
  refine Ev.iload dX11_bits_82 rfl ?_
  refine Ev.iadd dX11_bits_84 ?_
  refine Ev.istore (ls' := [some (vR 11 0), some (vI x1), some (vI x2), some (vI x3), some (vI x4), some (vI x5), some (vI (x6 + x7)), some (vI x7), some (vI x8), some (vI x9), some (vI x10)]) dX11_bits_85 (by decide) rfl ?_
  refine Ev.iconst (v := 0) dX11_bits_87 (by decide) ?_
  refine Ev.istore (ls' := [some (vR 11 0), some (vI x1), some (vI x2), some (vI x3), some (vI x4), some (vI x5), some (vI (x6 + x7)), some (vI 0), some (vI x8), some (vI x9), some (vI x10)]) dX11_bits_88 (by decide) rfl ?_
  refine Ev.iconst (v := 0) dX11_bits_90 (by decide) ?_
  refine Ev.istore (ls' := [some (vR 11 0), some (vI x1), some (vI x2), some (vI x3), some (vI x4), some (vI x5), some (vI (x6 + x7)), some (vI 0), some (vI 0), some (vI x9), some (vI x10)]) dX11_bits_91 (by decide) rfl ?_
  refine Ev.goto (tgt := 161) dX11_bits_93 (by decide) ?_
  exact kn
theorem bkX11_bits_96 {d : Nat} {S : hs_T} {Q : Option av_T → hs_T → Prop} {P : Int32 → hs_T → Prop} {x1 x2 x3 x4 x5 x6 x7 x8 x9 x10 : Int32} (hC : Ci d mX11_rises [vR 11 0, vI x1, vI x10] S P) (kk : ∀ v S', P v S' → Ev (d + 1) mX11_bits 103 [some (vR 11 0), some (vI x1), some (vI x2), some (vI x3), some (vI x4), some (vI x5), some (vI x6), some (vI x7), some (vI x8), some (vI x9), some (vI x10)] [vI v] S' Q) : Ev (d + 1) mX11_bits 96 [some (vR 11 0), some (vI x1), some (vI x2), some (vI x3), some (vI x4), some (vI x5), some (vI x6), some (vI x7), some (vI x8), some (vI x9), some (vI x10)] [] S Q := by
  refine Ev.aload_n dX11_bits_96 rfl rfl ?_
  refine Ev.iload_n dX11_bits_97 rfl rfl ?_
  refine Ev.iload dX11_bits_98 rfl ?_
  exact Ev.callV (as := [vI x1, vI x10]) (rest := []) okX11_rises in_X11_rises ml_X11_159 rfl (Nat.le_of_ble_eq_true rfl) pz_11_0 (by decide) rfl rfl dX11_bits_100 hC (fun r S' h => by obtain ⟨v, rfl, h⟩ := h; exact kk v S' h)
theorem bkX11_bits_103 {d : Nat} {S : hs_T} {Q : Option av_T → hs_T → Prop} {x1 x2 x3 x4 x5 x6 x7 x8 x9 x10 y0 : Int32} (kt : y0 = 0 → Ev d mX11_bits 161 [some (vR 11 0), some (vI x1), some (vI x2), some (vI x3), some (vI x4), some (vI x5), some (vI x6), some (vI x7), some (vI x8), some (vI x9), some (vI x10)] [] S Q) (kf : ¬ y0 = 0 → Ev d mX11_bits 106 [some (vR 11 0), some (vI x1), some (vI x2), some (vI x3), some (vI x4), some (vI x5), some (vI x6), some (vI x7), some (vI x8), some (vI x9), some (vI x10)] [] S Q) : Ev d mX11_bits 103 [some (vR 11 0), some (vI x1), some (vI x2), some (vI x3), some (vI x4), some (vI x5), some (vI x6), some (vI x7), some (vI x8), some (vI x9), some (vI x10)] [vI y0] S Q := by
  exact Ev.if_eq (tgt := 161) dX11_bits_103 (by decide) kt kf
theorem bkX11_bits_106 {d : Nat} {S : hs_T} {Q : Option av_T → hs_T → Prop} {P : Int32 → hs_T → Prop} {x1 x2 x3 x4 x5 x6 x7 x8 x9 x10 : Int32} (hC : Ci d mX11_isHigh [vR 11 0, vI x2, vI x10] S P) (kk : ∀ v S', P v S' → Ev (d + 1) mX11_bits 117 [some (vR 11 0), some (vI x1), some (vI x2), some (vI x3), some (vI x4), some (vI x5), some (vI x6), some (vI x7), some (vI x8), some (vI x9), some (vI x10)] [vI v, vI (2 * x8)] S' Q) : Ev (d + 1) mX11_bits 106 [some (vR 11 0), some (vI x1), some (vI x2), some (vI x3), some (vI x4), some (vI x5), some (vI x6), some (vI x7), some (vI x8), some (vI x9), some (vI x10)] [] S Q := by
  refine Ev.iconst (v := 2) dX11_bits_106 (by decide) ?_
  refine Ev.iload dX11_bits_107 rfl ?_
  refine Ev.imul dX11_bits_109 ?_
  refine Ev.aload_n dX11_bits_110 rfl rfl ?_
  refine Ev.iload_n dX11_bits_111 rfl rfl ?_
  refine Ev.iload dX11_bits_112 rfl ?_
  exact Ev.callV (as := [vI x2, vI x10]) (rest := [vI (2 * x8)]) okX11_isHigh in_X11_isHigh ml_X11_155 rfl (Nat.le_of_ble_eq_true rfl) pz_11_0 (by decide) rfl rfl dX11_bits_114 hC (fun r S' h => by obtain ⟨v, rfl, h⟩ := h; exact kk v S' h)
theorem bkX11_bits_117 {d : Nat} {S : hs_T} {Q : Option av_T → hs_T → Prop} {P : Int32 → hs_T → Prop} {x1 x2 x3 x4 x5 x6 x7 x8 x9 x10 y0 y1 : Int32} (hC : Ci d mX11_flag [vI y0] S P) (kk : ∀ v S', P v S' → Ev (d + 1) mX11_bits 120 [some (vR 11 0), some (vI x1), some (vI x2), some (vI x3), some (vI x4), some (vI x5), some (vI x6), some (vI x7), some (vI x8), some (vI x9), some (vI x10)] [vI v, vI y1] S' Q) : Ev (d + 1) mX11_bits 117 [some (vR 11 0), some (vI x1), some (vI x2), some (vI x3), some (vI x4), some (vI x5), some (vI x6), some (vI x7), some (vI x8), some (vI x9), some (vI x10)] [vI y0, vI y1] S Q := by
  exact Ev.callS (as := [vI y0]) (rest := [vI y1]) okX11_flag stX11_flag ml_X11_213 rfl (Nat.le_of_ble_eq_true rfl) rfl dX11_bits_117 hC (fun r S' h => by obtain ⟨v, rfl, h⟩ := h; exact kk v S' h)
theorem bkX11_bits_120 {d : Nat} {S : hs_T} {Q : Option av_T → hs_T → Prop} {x1 x2 x3 x4 x5 x6 x7 x8 x9 x10 y0 y1 : Int32} (kt : ¬ (x7 + 1) = 8 → Ev d mX11_bits 161 [some (vR 11 0), some (vI x1), some (vI x2), some (vI x3), some (vI x4), some (vI x5), some (vI x6), some (vI (x7 + 1)), some (vI (y1 + y0)), some (vI x9), some (vI x10)] [] S Q) (kf : (x7 + 1) = 8 → Ev d mX11_bits 133 [some (vR 11 0), some (vI x1), some (vI x2), some (vI x3), some (vI x4), some (vI x5), some (vI x6), some (vI (x7 + 1)), some (vI (y1 + y0)), some (vI x9), some (vI x10)] [] S Q) : Ev d mX11_bits 120 [some (vR 11 0), some (vI x1), some (vI x2), some (vI x3), some (vI x4), some (vI x5), some (vI x6), some (vI x7), some (vI x8), some (vI x9), some (vI x10)] [vI y0, vI y1] S Q := by
  refine Ev.iadd dX11_bits_120 ?_
  refine Ev.istore (ls' := [some (vR 11 0), some (vI x1), some (vI x2), some (vI x3), some (vI x4), some (vI x5), some (vI x6), some (vI x7), some (vI (y1 + y0)), some (vI x9), some (vI x10)]) dX11_bits_121 (by decide) rfl ?_
  refine Ev.iinc (v := (x7 + 1)) (ls' := [some (vR 11 0), some (vI x1), some (vI x2), some (vI x3), some (vI x4), some (vI x5), some (vI x6), some (vI (x7 + 1)), some (vI (y1 + y0)), some (vI x9), some (vI x10)]) dX11_bits_123 rfl rfl (by decide) rfl ?_
  refine Ev.iload dX11_bits_126 rfl ?_
  refine Ev.bipush (v := 8) dX11_bits_128 (by decide) ?_
  exact Ev.icmp_ne (tgt := 161) dX11_bits_130 (by decide) kt kf
theorem bkX11_bits_133 {d : Nat} {S : hs_T} {Q : Option av_T → hs_T → Prop} {x1 x2 x3 x4 x5 x6 x7 x8 x9 x10 : Int32} (kt : ¬ x5 = (x4 - 10) → Ev d mX11_bits 148 [some (vR 11 0), some (vI x1), some (vI x2), some (vI x3), some (vI x4), some (vI x5), some (vI x6), some (vI x7), some (vI x8), some (vI x9), some (vI x10)] [] S Q) (kf : x5 = (x4 - 10) → Ev d mX11_bits 143 [some (vR 11 0), some (vI x1), some (vI x2), some (vI x3), some (vI x4), some (vI x5), some (vI x6), some (vI x7), some (vI x8), some (vI x9), some (vI x10)] [] S Q) : Ev d mX11_bits 133 [some (vR 11 0), some (vI x1), some (vI x2), some (vI x3), some (vI x4), some (vI x5), some (vI x6), some (vI x7), some (vI x8), some (vI x9), some (vI x10)] [] S Q := by
  refine Ev.iload dX11_bits_133 rfl ?_
  refine Ev.iload dX11_bits_135 rfl ?_
  refine Ev.bipush (v := 10) dX11_bits_137 (by decide) ?_
  refine Ev.isub dX11_bits_139 ?_
  exact Ev.icmp_ne (tgt := 148) dX11_bits_140 (by decide) kt kf
theorem bkX11_bits_143 {d : Nat} {S : hs_T} {Q : Option av_T → hs_T → Prop} {x1 x2 x3 x4 x5 x6 x7 x8 x9 x10 : Int32} (kn : Ev d mX11_bits 150 [some (vR 11 0), some (vI x1), some (vI x2), some (vI x3), some (vI x4), some (vI x5), some (vI x6), some (vI x7), some (vI x8), some (vI x9), some (vI x10)] [vI x8] S Q) : Ev d mX11_bits 143 [some (vR 11 0), some (vI x1), some (vI x2), some (vI x3), some (vI x4), some (vI x5), some (vI x6), some (vI x7), some (vI x8), some (vI x9), some (vI x10)] [] S Q := by
  refine Ev.iload dX11_bits_143 rfl ?_
  refine Ev.goto (tgt := 150) dX11_bits_145 (by decide) ?_
  exact kn
theorem bkX11_bits_148 {d : Nat} {S : hs_T} {Q : Option av_T → hs_T → Prop} {x1 x2 x3 x4 x5 x6 x7 x8 x9 x10 : Int32} (kn : Ev d mX11_bits 150 [some (vR 11 0), some (vI x1), some (vI x2), some (vI x3), some (vI x4), some (vI x5), some (vI x6), some (vI x7), some (vI x8), some (vI x9), some (vI x10)] [vI x9] S Q) : Ev d mX11_bits 148 [some (vR 11 0), some (vI x1), some (vI x2), some (vI x3), some (vI x4), some (vI x5), some (vI x6), some (vI x7), some (vI x8), some (vI x9), some (vI x10)] [] S Q := by
  refine Ev.iload dX11_bits_148 rfl ?_
  exact kn
theorem bkX11_bits_150 {d : Nat} {S : hs_T} {Q : Option av_T → hs_T → Prop} {x1 x2 x3 x4 x5 x6 x7 x8 x9 x10 y0 : Int32} (kn : Ev d mX11_bits 161 [some (vR 11 0), some (vI x1), some (vI x2), some (vI x3), some (vI x4), some (vI (x5 + 1)), some (vI x6), some (vI 0), some (vI 0), some (vI y0), some (vI x10)] [] S Q) : Ev d mX11_bits 150 [some (vR 11 0), some (vI x1), some (vI x2), some (vI x3), some (vI x4), some (vI x5), some (vI x6), some (vI x7), some (vI x8), some (vI x9), some (vI x10)] [vI y0] S Q := by
  refine Ev.istore (ls' := [some (vR 11 0), some (vI x1), some (vI x2), some (vI x3), some (vI x4), some (vI x5), some (vI x6), some (vI x7), some (vI x8), some (vI y0), some (vI x10)]) dX11_bits_150 (by decide) rfl ?_
  refine Ev.iinc (v := (x5 + 1)) (ls' := [some (vR 11 0), some (vI x1), some (vI x2), some (vI x3), some (vI x4), some (vI (x5 + 1)), some (vI x6), some (vI x7), some (vI x8), some (vI y0), some (vI x10)]) dX11_bits_152 rfl rfl (by decide) rfl ?_
  refine Ev.iconst (v := 0) dX11_bits_155 (by decide) ?_
  refine Ev.istore (ls' := [some (vR 11 0), some (vI x1), some (vI x2), some (vI x3), some (vI x4), some (vI (x5 + 1)), some (vI x6), some (vI 0), some (vI x8), some (vI y0), some (vI x10)]) dX11_bits_156 (by decide) rfl ?_
  refine Ev.iconst (v := 0) dX11_bits_158 (by decide) ?_
  refine Ev.istore (ls' := [some (vR 11 0), some (vI x1), some (vI x2), some (vI x3), some (vI x4), some (vI (x5 + 1)), some (vI x6), some (vI 0), some (vI 0), some (vI y0), some (vI x10)]) dX11_bits_159 (by decide) rfl ?_
  exact kn
theorem bkX11_bits_161 {d : Nat} {S : hs_T} {Q : Option av_T → hs_T → Prop} {x1 x2 x3 x4 x5 x6 x7 x8 x9 x10 : Int32} (kn : Ev d mX11_bits 61 [some (vR 11 0), some (vI x1), some (vI x2), some (vI x3), some (vI x4), some (vI x5), some (vI x6), some (vI x7), some (vI x8), some (vI x9), some (vI (x10 + 1))] [] S Q) : Ev d mX11_bits 161 [some (vR 11 0), some (vI x1), some (vI x2), some (vI x3), some (vI x4), some (vI x5), some (vI x6), some (vI x7), some (vI x8), some (vI x9), some (vI x10)] [] S Q := by
  refine Ev.iinc (v := (x10 + 1)) (ls' := [some (vR 11 0), some (vI x1), some (vI x2), some (vI x3), some (vI x4), some (vI x5), some (vI x6), some (vI x7), some (vI x8), some (vI x9), some (vI (x10 + 1))]) dX11_bits_161 rfl rfl (by decide) rfl ?_
  refine Ev.goto (tgt := 61) dX11_bits_164 (by decide) ?_
  exact kn
theorem bkX11_bits_167 {d : Nat} {S : hs_T} {Q : Option av_T → hs_T → Prop} {x1 x2 x3 x4 x5 x6 x7 x8 x9 x10 : Int32} (kt : ¬ x4 = 0 → Ev d mX11_bits 177 [some (vR 11 0), some (vI x1), some (vI x2), some (vI x3), some (vI x4), some (vI x5), some (vI x6), some (vI x7), some (vI x8), some (vI x9), some (vI x10)] [] S Q) (kf : x4 = 0 → Ev d mX11_bits 172 [some (vR 11 0), some (vI x1), some (vI x2), some (vI x3), some (vI x4), some (vI x5), some (vI x6), some (vI x7), some (vI x8), some (vI x9), some (vI x10)] [] S Q) : Ev d mX11_bits 167 [some (vR 11 0), some (vI x1), some (vI x2), some (vI x3), some (vI x4), some (vI x5), some (vI x6), some (vI x7), some (vI x8), some (vI x9), some (vI x10)] [] S Q := by
  refine Ev.iload dX11_bits_167 rfl ?_
  exact Ev.if_ne (tgt := 177) dX11_bits_169 (by decide) kt kf
theorem bkX11_bits_172 {d : Nat} {S : hs_T} {Q : Option av_T → hs_T → Prop} {x1 x2 x3 x4 x5 x6 x7 x8 x9 x10 : Int32} (kn : Ev d mX11_bits 201 [some (vR 11 0), some (vI x1), some (vI x2), some (vI x3), some (vI x4), some (vI x5), some (vI x6), some (vI x7), some (vI x8), some (vI x9), some (vI x10)] [vI x5] S Q) : Ev d mX11_bits 172 [some (vR 11 0), some (vI x1), some (vI x2), some (vI x3), some (vI x4), some (vI x5), some (vI x6), some (vI x7), some (vI x8), some (vI x9), some (vI x10)] [] S Q := by
  refine Ev.iload dX11_bits_172 rfl ?_
  refine Ev.goto (tgt := 201) dX11_bits_174 (by decide) ?_
  exact kn
theorem bkX11_bits_177 {d : Nat} {S : hs_T} {Q : Option av_T → hs_T → Prop} {x1 x2 x3 x4 x5 x6 x7 x8 x9 x10 : Int32} (kt : ¬ x4 = 1 → Ev d mX11_bits 188 [some (vR 11 0), some (vI x1), some (vI x2), some (vI x3), some (vI x4), some (vI x5), some (vI x6), some (vI x7), some (vI x8), some (vI x9), some (vI x10)] [] S Q) (kf : x4 = 1 → Ev d mX11_bits 183 [some (vR 11 0), some (vI x1), some (vI x2), some (vI x3), some (vI x4), some (vI x5), some (vI x6), some (vI x7), some (vI x8), some (vI x9), some (vI x10)] [] S Q) : Ev d mX11_bits 177 [some (vR 11 0), some (vI x1), some (vI x2), some (vI x3), some (vI x4), some (vI x5), some (vI x6), some (vI x7), some (vI x8), some (vI x9), some (vI x10)] [] S Q := by
  refine Ev.iload dX11_bits_177 rfl ?_
  refine Ev.iconst (v := 1) dX11_bits_179 (by decide) ?_
  exact Ev.icmp_ne (tgt := 188) dX11_bits_180 (by decide) kt kf
theorem bkX11_bits_183 {d : Nat} {S : hs_T} {Q : Option av_T → hs_T → Prop} {x1 x2 x3 x4 x5 x6 x7 x8 x9 x10 : Int32} (kn : Ev d mX11_bits 201 [some (vR 11 0), some (vI x1), some (vI x2), some (vI x3), some (vI x4), some (vI x5), some (vI x6), some (vI x7), some (vI x8), some (vI x9), some (vI x10)] [vI x6] S Q) : Ev d mX11_bits 183 [some (vR 11 0), some (vI x1), some (vI x2), some (vI x3), some (vI x4), some (vI x5), some (vI x6), some (vI x7), some (vI x8), some (vI x9), some (vI x10)] [] S Q := by
  refine Ev.iload dX11_bits_183 rfl ?_
  refine Ev.goto (tgt := 201) dX11_bits_185 (by decide) ?_
  exact kn
theorem bkX11_bits_188 {d : Nat} {S : hs_T} {Q : Option av_T → hs_T → Prop} {x1 x2 x3 x4 x5 x6 x7 x8 x9 x10 : Int32} (kt : ¬ x4 = 2 → Ev d mX11_bits 199 [some (vR 11 0), some (vI x1), some (vI x2), some (vI x3), some (vI x4), some (vI x5), some (vI x6), some (vI x7), some (vI x8), some (vI x9), some (vI x10)] [] S Q) (kf : x4 = 2 → Ev d mX11_bits 194 [some (vR 11 0), some (vI x1), some (vI x2), some (vI x3), some (vI x4), some (vI x5), some (vI x6), some (vI x7), some (vI x8), some (vI x9), some (vI x10)] [] S Q) : Ev d mX11_bits 188 [some (vR 11 0), some (vI x1), some (vI x2), some (vI x3), some (vI x4), some (vI x5), some (vI x6), some (vI x7), some (vI x8), some (vI x9), some (vI x10)] [] S Q := by
  refine Ev.iload dX11_bits_188 rfl ?_
  refine Ev.iconst (v := 2) dX11_bits_190 (by decide) ?_
  exact Ev.icmp_ne (tgt := 199) dX11_bits_191 (by decide) kt kf
theorem bkX11_bits_194 {d : Nat} {S : hs_T} {Q : Option av_T → hs_T → Prop} {x1 x2 x3 x4 x5 x6 x7 x8 x9 x10 : Int32} (kn : Ev d mX11_bits 201 [some (vR 11 0), some (vI x1), some (vI x2), some (vI x3), some (vI x4), some (vI x5), some (vI x6), some (vI x7), some (vI x8), some (vI x9), some (vI x10)] [vI x7] S Q) : Ev d mX11_bits 194 [some (vR 11 0), some (vI x1), some (vI x2), some (vI x3), some (vI x4), some (vI x5), some (vI x6), some (vI x7), some (vI x8), some (vI x9), some (vI x10)] [] S Q := by
  refine Ev.iload dX11_bits_194 rfl ?_
  refine Ev.goto (tgt := 201) dX11_bits_196 (by decide) ?_
  exact kn
theorem bkX11_bits_199 {d : Nat} {S : hs_T} {Q : Option av_T → hs_T → Prop} {x1 x2 x3 x4 x5 x6 x7 x8 x9 x10 : Int32} (kn : Ev d mX11_bits 201 [some (vR 11 0), some (vI x1), some (vI x2), some (vI x3), some (vI x4), some (vI x5), some (vI x6), some (vI x7), some (vI x8), some (vI x9), some (vI x10)] [vI x9] S Q) : Ev d mX11_bits 199 [some (vR 11 0), some (vI x1), some (vI x2), some (vI x3), some (vI x4), some (vI x5), some (vI x6), some (vI x7), some (vI x8), some (vI x9), some (vI x10)] [] S Q := by
  refine Ev.iload dX11_bits_199 rfl ?_
  exact kn
theorem bkX11_bits_201 {d : Nat} {S : hs_T} {Q : Option av_T → hs_T → Prop} {x1 x2 x3 x4 x5 x6 x7 x8 x9 x10 y0 : Int32} (hq : Q (some (vI y0)) S) : Ev d mX11_bits 201 [some (vR 11 0), some (vI x1), some (vI x2), some (vI x3), some (vI x4), some (vI x5), some (vI x6), some (vI x7), some (vI x8), some (vI x9), some (vI x10)] [vI y0] S Q := by
  exact Ev.iret dX11_bits_201 rfl rfl hq
/-! EightWiresModel.layFrames(III)V -/
theorem bkX11_layFrames_0 {d : Nat} {S : hs_T} {Q : Option av_T → hs_T → Prop} {x1 x2 x3 : Int32} {o4 o5 o6 o7 o8 : Option av_T} (kn : Ev d mX11_layFrames 18 [some (vR 11 0), some (vI x1), some (vI x2), some (vI x3), some (vI 0), o5, o6, o7, o8] [] (sk_ (sk_ (sk_ S 11 0 (upd (S.1 11 0) 27 0)) 11 0 (upd ((sk_ S 11 0 (upd (S.1 11 0) 27 0)).1 11 0) 28 0)) 11 0 (upd ((sk_ (sk_ S 11 0 (upd (S.1 11 0) 27 0)) 11 0 (upd ((sk_ S 11 0 (upd (S.1 11 0) 27 0)).1 11 0) 28 0)).1 11 0) 29 (-1))) Q) : Ev d mX11_layFrames 0 [some (vR 11 0), some (vI x1), some (vI x2), some (vI x3), o4, o5, o6, o7, o8] [] S Q := by
  refine Ev.aload_n dX11_layFrames_0 rfl rfl ?_
  refine Ev.iconst (v := 0) dX11_layFrames_1 (by decide) ?_
  refine Ev.put okX11 (by decide) fl_X11_259 pz_11_0 (by decide) rfl rfl rfl rfl dX11_layFrames_2 ?_
  refine Ev.aload_n dX11_layFrames_5 rfl rfl ?_
  refine Ev.iconst (v := 0) dX11_layFrames_6 (by decide) ?_
  refine Ev.put okX11 (by decide) fl_X11_262 pz_11_0 (by decide) rfl rfl rfl rfl dX11_layFrames_7 ?_
  refine Ev.aload_n dX11_layFrames_10 rfl rfl ?_
  refine Ev.iconst (v := (-1)) dX11_layFrames_11 (by decide) ?_
  refine Ev.put okX11 (by decide) fl_X11_265 pz_11_0 (by decide) rfl rfl rfl rfl dX11_layFrames_12 ?_
  refine Ev.iconst (v := 0) dX11_layFrames_15 (by decide) ?_
  refine Ev.istore (ls' := [some (vR 11 0), some (vI x1), some (vI x2), some (vI x3), some (vI 0), o5, o6, o7, o8]) dX11_layFrames_16 (by decide) rfl ?_
  exact kn
theorem bkX11_layFrames_18 {d : Nat} {S : hs_T} {Q : Option av_T → hs_T → Prop} {x1 x2 x3 x4 : Int32} {o5 o6 o7 o8 : Option av_T} (kt : (S.1 11 0 3) ≤ x4 → Ev d mX11_layFrames 230 [some (vR 11 0), some (vI x1), some (vI x2), some (vI x3), some (vI x4), o5, o6, o7, o8] [] S Q) (kf : ¬ (S.1 11 0 3) ≤ x4 → Ev d mX11_layFrames 27 [some (vR 11 0), some (vI x1), some (vI x2), some (vI x3), some (vI x4), o5, o6, o7, o8] [] S Q) : Ev d mX11_layFrames 18 [some (vR 11 0), some (vI x1), some (vI x2), some (vI x3), some (vI x4), o5, o6, o7, o8] [] S Q := by
  refine Ev.iload dX11_layFrames_18 rfl ?_
  refine Ev.aload_n dX11_layFrames_20 rfl rfl ?_
  refine Ev.get (v := vI (S.1 11 0 3)) okX11 (by decide) fl_X11_144 pz_11_0 (ff_11_3 _ _) dX11_layFrames_21 ?_
  exact Ev.icmp_ge (tgt := 230) dX11_layFrames_24 (by decide) kt kf
theorem bkX11_layFrames_27 {d : Nat} {S : hs_T} {Q : Option av_T → hs_T → Prop} {x1 x2 x3 x4 : Int32} {o5 o6 o7 o8 : Option av_T} (kt : ¬ x4 = 0 → Ev d mX11_layFrames 49 [some (vR 11 0), some (vI x1), some (vI x2), some (vI x3), some (vI x4), o5, o6, o7, o8] [] S Q) (kf : x4 = 0 → Ev d mX11_layFrames 32 [some (vR 11 0), some (vI x1), some (vI x2), some (vI x3), some (vI x4), o5, o6, o7, o8] [] S Q) : Ev d mX11_layFrames 27 [some (vR 11 0), some (vI x1), some (vI x2), some (vI x3), some (vI x4), o5, o6, o7, o8] [] S Q := by
  refine Ev.iload dX11_layFrames_27 rfl ?_
  exact Ev.if_ne (tgt := 49) dX11_layFrames_29 (by decide) kt kf
theorem bkX11_layFrames_32 {d : Nat} {S : hs_T} {Q : Option av_T → hs_T → Prop} {P : Int32 → hs_T → Prop} {x1 x2 x3 x4 : Int32} {o5 o6 o7 o8 : Option av_T} (hC : Ci d mX11_isHigh [vR 11 0, vI x1, vI 0] S P) (kk : ∀ v S', P v S' → Ev (d + 1) mX11_layFrames 38 [some (vR 11 0), some (vI x1), some (vI x2), some (vI x3), some (vI x4), o5, o6, o7, o8] [vI v] S' Q) : Ev (d + 1) mX11_layFrames 32 [some (vR 11 0), some (vI x1), some (vI x2), some (vI x3), some (vI x4), o5, o6, o7, o8] [] S Q := by
  refine Ev.aload_n dX11_layFrames_32 rfl rfl ?_
  refine Ev.iload_n dX11_layFrames_33 rfl rfl ?_
  refine Ev.iconst (v := 0) dX11_layFrames_34 (by decide) ?_
  exact Ev.callV (as := [vI x1, vI 0]) (rest := []) okX11_isHigh in_X11_isHigh ml_X11_155 rfl (Nat.le_of_ble_eq_true rfl) pz_11_0 (by decide) rfl rfl dX11_layFrames_35 hC (fun r S' h => by obtain ⟨v, rfl, h⟩ := h; exact kk v S' h)
theorem bkX11_layFrames_38 {d : Nat} {S : hs_T} {Q : Option av_T → hs_T → Prop} {x1 x2 x3 x4 y0 : Int32} {o5 o6 o7 o8 : Option av_T} (kt : ¬ y0 = 0 → Ev d mX11_layFrames 45 [some (vR 11 0), some (vI x1), some (vI x2), some (vI x3), some (vI x4), o5, o6, o7, o8] [] S Q) (kf : y0 = 0 → Ev d mX11_layFrames 41 [some (vR 11 0), some (vI x1), some (vI x2), some (vI x3), some (vI x4), o5, o6, o7, o8] [] S Q) : Ev d mX11_layFrames 38 [some (vR 11 0), some (vI x1), some (vI x2), some (vI x3), some (vI x4), o5, o6, o7, o8] [vI y0] S Q := by
  exact Ev.if_ne (tgt := 45) dX11_layFrames_38 (by decide) kt kf
theorem bkX11_layFrames_41 {d : Nat} {S : hs_T} {Q : Option av_T → hs_T → Prop} {x1 x2 x3 x4 : Int32} {o5 o6 o7 o8 : Option av_T} (kn : Ev d mX11_layFrames 56 [some (vR 11 0), some (vI x1), some (vI x2), some (vI x3), some (vI x4), o5, o6, o7, o8] [vI 1] S Q) : Ev d mX11_layFrames 41 [some (vR 11 0), some (vI x1), some (vI x2), some (vI x3), some (vI x4), o5, o6, o7, o8] [] S Q := by
  refine Ev.iconst (v := 1) dX11_layFrames_41 (by decide) ?_
  refine Ev.goto (tgt := 56) dX11_layFrames_42 (by decide) ?_
  exact kn
theorem bkX11_layFrames_45 {d : Nat} {S : hs_T} {Q : Option av_T → hs_T → Prop} {x1 x2 x3 x4 : Int32} {o5 o6 o7 o8 : Option av_T} (kn : Ev d mX11_layFrames 56 [some (vR 11 0), some (vI x1), some (vI x2), some (vI x3), some (vI x4), o5, o6, o7, o8] [vI 0] S Q) : Ev d mX11_layFrames 45 [some (vR 11 0), some (vI x1), some (vI x2), some (vI x3), some (vI x4), o5, o6, o7, o8] [] S Q := by
  refine Ev.iconst (v := 0) dX11_layFrames_45 (by decide) ?_
  refine Ev.goto (tgt := 56) dX11_layFrames_46 (by decide) ?_
  exact kn
theorem bkX11_layFrames_49 {d : Nat} {S : hs_T} {Q : Option av_T → hs_T → Prop} {P : Int32 → hs_T → Prop} {x1 x2 x3 x4 : Int32} {o5 o6 o7 o8 : Option av_T} (hC : Ci d mX11_falls [vR 11 0, vI x1, vI x4] S P) (kk : ∀ v S', P v S' → Ev (d + 1) mX11_layFrames 56 [some (vR 11 0), some (vI x1), some (vI x2), some (vI x3), some (vI x4), o5, o6, o7, o8] [vI v] S' Q) : Ev (d + 1) mX11_layFrames 49 [some (vR 11 0), some (vI x1), some (vI x2), some (vI x3), some (vI x4), o5, o6, o7, o8] [] S Q := by
  refine Ev.aload_n dX11_layFrames_49 rfl rfl ?_
  refine Ev.iload_n dX11_layFrames_50 rfl rfl ?_
  refine Ev.iload dX11_layFrames_51 rfl ?_
  exact Ev.callV (as := [vI x1, vI x4]) (rest := []) okX11_falls in_X11_falls ml_X11_162 rfl (Nat.le_of_ble_eq_true rfl) pz_11_0 (by decide) rfl rfl dX11_layFrames_53 hC (fun r S' h => by obtain ⟨v, rfl, h⟩ := h; exact kk v S' h)
theorem bkX11_layFrames_56 {d : Nat} {S : hs_T} {Q : Option av_T → hs_T → Prop} {x1 x2 x3 x4 y0 : Int32} {o5 o6 o7 o8 : Option av_T} (kt : y0 = 0 → Ev d mX11_layFrames 86 [some (vR 11 0), some (vI x1), some (vI x2), some (vI x3), some (vI x4), some (vI y0), some (vI ((x4 + (9 * x2)) + (x2 / 2))), o7, o8] [] S Q) (kf : ¬ y0 = 0 → Ev d mX11_layFrames 76 [some (vR 11 0), some (vI x1), some (vI x2), some (vI x3), some (vI x4), some (vI y0), some (vI ((x4 + (9 * x2)) + (x2 / 2))), o7, o8] [] S Q) : Ev d mX11_layFrames 56 [some (vR 11 0), some (vI x1), some (vI x2), some (vI x3), some (vI x4), o5, o6, o7, o8] [vI y0] S Q := by
  refine Ev.istore (ls' := [some (vR 11 0), some (vI x1), some (vI x2), some (vI x3), some (vI x4), some (vI y0), o6, o7, o8]) dX11_layFrames_56 (by decide) rfl ?_
  refine Ev.iload dX11_layFrames_58 rfl ?_
  refine Ev.bipush (v := 9) dX11_layFrames_60 (by decide) ?_
  refine Ev.iload_n dX11_layFrames_62 rfl rfl ?_
  refine Ev.imul dX11_layFrames_63 ?_
  refine Ev.iadd dX11_layFrames_64 ?_
  refine Ev.iload_n dX11_layFrames_65 rfl rfl ?_
  refine Ev.iconst (v := 2) dX11_layFrames_66 (by decide) ?_
  refine Ev.idiv dX11_layFrames_67 (by decide) ?_
  refine Ev.iadd dX11_layFrames_68 ?_
  refine Ev.istore (ls' := [some (vR 11 0), some (vI x1), some (vI x2), some (vI x3), some (vI x4), some (vI y0), some (vI ((x4 + (9 * x2)) + (x2 / 2))), o7, o8]) dX11_layFrames_69 (by decide) rfl ?_
  refine Ev.iload dX11_layFrames_71 rfl ?_
  exact Ev.if_eq (tgt := 86) dX11_layFrames_73 (by decide) kt kf
theorem bkX11_layFrames_76 {d : Nat} {S : hs_T} {Q : Option av_T → hs_T → Prop} {x1 x2 x3 x4 x5 x6 : Int32} {o7 o8 : Option av_T} (kt : x6 < (S.1 11 0 3) → Ev d mX11_layFrames 86 [some (vR 11 0), some (vI x1), some (vI x2), some (vI x3), some (vI x4), some (vI x5), some (vI x6), o7, o8] [] S Q) (kf : ¬ x6 < (S.1 11 0 3) → Ev d mX11_layFrames 85 [some (vR 11 0), some (vI x1), some (vI x2), some (vI x3), some (vI x4), some (vI x5), some (vI x6), o7, o8] [] S Q) : Ev d mX11_layFrames 76 [some (vR 11 0), some (vI x1), some (vI x2), some (vI x3), some (vI x4), some (vI x5), some (vI x6), o7, o8] [] S Q := by
  refine Ev.iload dX11_layFrames_76 rfl ?_
  refine Ev.aload_n dX11_layFrames_78 rfl rfl ?_
  refine Ev.get (v := vI (S.1 11 0 3)) okX11 (by decide) fl_X11_144 pz_11_0 (ff_11_3 _ _) dX11_layFrames_79 ?_
  exact Ev.icmp_lt (tgt := 86) dX11_layFrames_82 (by decide) kt kf
theorem bkX11_layFrames_85 {d : Nat} {S : hs_T} {Q : Option av_T → hs_T → Prop} {x1 x2 x3 x4 x5 x6 : Int32} {o7 o8 : Option av_T} (hq : Q none S) : Ev d mX11_layFrames 85 [some (vR 11 0), some (vI x1), some (vI x2), some (vI x3), some (vI x4), some (vI x5), some (vI x6), o7, o8] [] S Q := by
  exact Ev.vret dX11_layFrames_85 rfl hq
theorem bkX11_layFrames_86 {d : Nat} {S : hs_T} {Q : Option av_T → hs_T → Prop} {x1 x2 x3 x4 x5 x6 : Int32} {o7 o8 : Option av_T} (kt : x5 = 0 → Ev d mX11_layFrames 224 [some (vR 11 0), some (vI x1), some (vI x2), some (vI x3), some (vI x4), some (vI x5), some (vI x6), o7, o8] [] S Q) (kf : ¬ x5 = 0 → Ev d mX11_layFrames 91 [some (vR 11 0), some (vI x1), some (vI x2), some (vI x3), some (vI x4), some (vI x5), some (vI x6), o7, o8] [] S Q) : Ev d mX11_layFrames 86 [some (vR 11 0), some (vI x1), some (vI x2), some (vI x3), some (vI x4), some (vI x5), some (vI x6), o7, o8] [] S Q := by
  refine Ev.iload dX11_layFrames_86 rfl ?_
  exact Ev.if_eq (tgt := 224) dX11_layFrames_88 (by decide) kt kf
theorem bkX11_layFrames_91 {d : Nat} {S : hs_T} {Q : Option av_T → hs_T → Prop} {x1 x2 x3 x4 x5 x6 : Int32} {o7 o8 : Option av_T} (kn : Ev d mX11_layFrames 97 [some (vR 11 0), some (vI x1), some (vI x2), some (vI x3), some (vI x4), some (vI x5), some (vI x6), some (vI 0), some (vI 0)] [] S Q) : Ev d mX11_layFrames 91 [some (vR 11 0), some (vI x1), some (vI x2), some (vI x3), some (vI x4), some (vI x5), some (vI x6), o7, o8] [] S Q := by
  refine Ev.iconst (v := 0) dX11_layFrames_91 (by decide) ?_
  refine Ev.istore (ls' := [some (vR 11 0), some (vI x1), some (vI x2), some (vI x3), some (vI x4), some (vI x5), some (vI x6), some (vI 0), o8]) dX11_layFrames_92 (by decide) rfl ?_
  refine Ev.iconst (v := 0) dX11_layFrames_94 (by decide) ?_
  refine Ev.istore (ls' := [some (vR 11 0), some (vI x1), some (vI x2), some (vI x3), some (vI x4), some (vI x5), some (vI x6), some (vI 0), some (vI 0)]) dX11_layFrames_95 (by decide) rfl ?_
  exact kn
theorem bkX11_layFrames_97 {d : Nat} {S : hs_T} {Q : Option av_T → hs_T → Prop} {x1 x2 x3 x4 x5 x6 x7 x8 : Int32} (kt : 8 ≤ x8 → Ev d mX11_layFrames 139 [some (vR 11 0), some (vI x1), some (vI x2), some (vI x3), some (vI x4), some (vI x5), some (vI x6), some (vI x7), some (vI x8)] [] S Q) (kf : ¬ 8 ≤ x8 → Ev d mX11_layFrames 104 [some (vR 11 0), some (vI x1), some (vI x2), some (vI x3), some (vI x4), some (vI x5), some (vI x6), some (vI x7), some (vI x8)] [] S Q) : Ev d mX11_layFrames 97 [some (vR 11 0), some (vI x1), some (vI x2), some (vI x3), some (vI x4), some (vI x5), some (vI x6), some (vI x7), some (vI x8)] [] S Q := by
  refine Ev.iload dX11_layFrames_97 rfl ?_
  refine Ev.bipush (v := 8) dX11_layFrames_99 (by decide) ?_
  exact Ev.icmp_ge (tgt := 139) dX11_layFrames_101 (by decide) kt kf
theorem bkX11_layFrames_104 {d : Nat} {S : hs_T} {Q : Option av_T → hs_T → Prop} {P : Int32 → hs_T → Prop} {x1 x2 x3 x4 x5 x6 x7 x8 : Int32} (hC : Ci d mX11_isHigh [vR 11 0, vI x1, vI ((x4 + ((x8 + 1) * x2)) + (x2 / 2))] S P) (kk : ∀ v S', P v S' → Ev (d + 1) mX11_layFrames 124 [some (vR 11 0), some (vI x1), some (vI x2), some (vI x3), some (vI x4), some (vI x5), some (vI x6), some (vI x7), some (vI x8)] [vI v, vI x7] S' Q) : Ev (d + 1) mX11_layFrames 104 [some (vR 11 0), some (vI x1), some (vI x2), some (vI x3), some (vI x4), some (vI x5), some (vI x6), some (vI x7), some (vI x8)] [] S Q := by
  refine Ev.iload dX11_layFrames_104 rfl ?_
  refine Ev.aload_n dX11_layFrames_106 rfl rfl ?_
  refine Ev.iload_n dX11_layFrames_107 rfl rfl ?_
  refine Ev.iload dX11_layFrames_108 rfl ?_
  refine Ev.iload dX11_layFrames_110 rfl ?_
  refine Ev.iconst (v := 1) dX11_layFrames_112 (by decide) ?_
  refine Ev.iadd dX11_layFrames_113 ?_
  refine Ev.iload_n dX11_layFrames_114 rfl rfl ?_
  refine Ev.imul dX11_layFrames_115 ?_
  refine Ev.iadd dX11_layFrames_116 ?_
  refine Ev.iload_n dX11_layFrames_117 rfl rfl ?_
  refine Ev.iconst (v := 2) dX11_layFrames_118 (by decide) ?_
  refine Ev.idiv dX11_layFrames_119 (by decide) ?_
  refine Ev.iadd dX11_layFrames_120 ?_
  exact Ev.callV (as := [vI x1, vI ((x4 + ((x8 + 1) * x2)) + (x2 / 2))]) (rest := [vI x7]) okX11_isHigh in_X11_isHigh ml_X11_155 rfl (Nat.le_of_ble_eq_true rfl) pz_11_0 (by decide) rfl rfl dX11_layFrames_121 hC (fun r S' h => by obtain ⟨v, rfl, h⟩ := h; exact kk v S' h)
theorem bkX11_layFrames_124 {d : Nat} {S : hs_T} {Q : Option av_T → hs_T → Prop} {P : Int32 → hs_T → Prop} {x1 x2 x3 x4 x5 x6 x7 x8 y0 y1 : Int32} (hC : Ci d mX11_flag [vI y0] S P) (kk : ∀ v S', P v S' → Ev (d + 1) mX11_layFrames 127 [some (vR 11 0), some (vI x1), some (vI x2), some (vI x3), some (vI x4), some (vI x5), some (vI x6), some (vI x7), some (vI x8)] [vI v, vI y1] S' Q) : Ev (d + 1) mX11_layFrames 124 [some (vR 11 0), some (vI x1), some (vI x2), some (vI x3), some (vI x4), some (vI x5), some (vI x6), some (vI x7), some (vI x8)] [vI y0, vI y1] S Q := by
  exact Ev.callS (as := [vI y0]) (rest := [vI y1]) okX11_flag stX11_flag ml_X11_213 rfl (Nat.le_of_ble_eq_true rfl) rfl dX11_layFrames_124 hC (fun r S' h => by obtain ⟨v, rfl, h⟩ := h; exact kk v S' h)
theorem bkX11_layFrames_127 {d : Nat} {S : hs_T} {Q : Option av_T → hs_T → Prop} {x1 x2 x3 x4 x5 x6 x7 x8 y0 y1 : Int32} (kn : Ev d mX11_layFrames 97 [some (vR 11 0), some (vI x1), some (vI x2), some (vI x3), some (vI x4), some (vI x5), some (vI x6), some (vI (y1 ||| (y0 <<< (x8 &&& 31)))), some (vI (x8 + 1))] [] S Q) : Ev d mX11_layFrames 127 [some (vR 11 0), some (vI x1), some (vI x2), some (vI x3), some (vI x4), some (vI x5), some (vI x6), some (vI x7), some (vI x8)] [vI y0, vI y1] S Q := by
  refine Ev.iload dX11_layFrames_127 rfl ?_
  refine Ev.ishl dX11_layFrames_129 ?_
  refine Ev.ior dX11_layFrames_130 ?_
  refine Ev.istore (ls' := [some (vR 11 0), some (vI x1), some (vI x2), some (vI x3), some (vI x4), some (vI x5), some (vI x6), some (vI (y1 ||| (y0 <<< (x8 &&& 31)))), some (vI x8)]) dX11_layFrames_131 (by decide) rfl ?_
  refine Ev.iinc (v := (x8 + 1)) (ls' := [some (vR 11 0), some (vI x1), some (vI x2), some (vI x3), some (vI x4), some (vI x5), some (vI x6), some (vI (y1 ||| (y0 <<< (x8 &&& 31)))), some (vI (x8 + 1))]) dX11_layFrames_133 rfl rfl (by decide) rfl ?_
  refine Ev.goto (tgt := 97) dX11_layFrames_136 (by decide) ?_
  exact kn
theorem bkX11_layFrames_139 {d : Nat} {S : hs_T} {Q : Option av_T → hs_T → Prop} {P : Int32 → hs_T → Prop} {x1 x2 x3 x4 x5 x6 x7 x8 : Int32} (hC : Ci d mX11_isHigh [vR 11 0, vI x1, vI x6] S P) (kk : ∀ v S', P v S' → Ev (d + 1) mX11_layFrames 146 [some (vR 11 0), some (vI x1), some (vI x2), some (vI x3), some (vI x4), some (vI x5), some (vI x6), some (vI x7), some (vI x8)] [vI v] S' Q) : Ev (d + 1) mX11_layFrames 139 [some (vR 11 0), some (vI x1), some (vI x2), some (vI x3), some (vI x4), some (vI x5), some (vI x6), some (vI x7), some (vI x8)] [] S Q := by
  refine Ev.aload_n dX11_layFrames_139 rfl rfl ?_
  refine Ev.iload_n dX11_layFrames_140 rfl rfl ?_
  refine Ev.iload dX11_layFrames_141 rfl ?_
  exact Ev.callV (as := [vI x1, vI x6]) (rest := []) okX11_isHigh in_X11_isHigh ml_X11_155 rfl (Nat.le_of_ble_eq_true rfl) pz_11_0 (by decide) rfl rfl dX11_layFrames_143 hC (fun r S' h => by obtain ⟨v, rfl, h⟩ := h; exact kk v S' h)
theorem bkX11_layFrames_146 {d : Nat} {S : hs_T} {Q : Option av_T → hs_T → Prop} {x1 x2 x3 x4 x5 x6 x7 x8 y0 : Int32} (kt : ¬ ((S.1 11 0 27) + (S.1 11 0 28)) = x3 → Ev d mX11_layFrames 177 [some (vR 11 0), some (vI x1), some (vI x2), some (vI x3), some (vI x4), some (vI x5), some (vI x6), some (vI x7), some (vI y0)] [vR 11 0] S Q) (kf : ((S.1 11 0 27) + (S.1 11 0 28)) = x3 → Ev d mX11_layFrames 162 [some (vR 11 0), some (vI x1), some (vI x2), some (vI x3), some (vI x4), some (vI x5), some (vI x6), some (vI x7), some (vI y0)] [vR 11 0] S Q) : Ev d mX11_layFrames 146 [some (vR 11 0), some (vI x1), some (vI x2), some (vI x3), some (vI x4), some (vI x5), some (vI x6), some (vI x7), some (vI x8)] [vI y0] S Q := by
  refine Ev.istore (ls' := [some (vR 11 0), some (vI x1), some (vI x2), some (vI x3), some (vI x4), some (vI x5), some (vI x6), some (vI x7), some (vI y0)]) dX11_layFrames_146 (by decide) rfl ?_
  refine Ev.aload_n dX11_layFrames_148 rfl rfl ?_
  refine Ev.aload_n dX11_layFrames_149 rfl rfl ?_
  refine Ev.get (v := vI (S.1 11 0 27)) okX11 (by decide) fl_X11_259 pz_11_0 (ff_11_27 _ _) dX11_layFrames_150 ?_
  refine Ev.aload_n dX11_layFrames_153 rfl rfl ?_
  refine Ev.get (v := vI (S.1 11 0 28)) okX11 (by decide) fl_X11_262 pz_11_0 (ff_11_28 _ _) dX11_layFrames_154 ?_
  refine Ev.iadd dX11_layFrames_157 ?_
  refine Ev.iload_n dX11_layFrames_158 rfl rfl ?_
  exact Ev.icmp_ne (tgt := 177) dX11_layFrames_159 (by decide) kt kf
theorem bkX11_layFrames_162 {d : Nat} {S : hs_T} {Q : Option av_T → hs_T → Prop} {x1 x2 x3 x4 x5 x6 x7 x8 : Int32} (kt : x8 = 0 → Ev d mX11_layFrames 172 [some (vR 11 0), some (vI x1), some (vI x2), some (vI x3), some (vI x4), some (vI x5), some (vI x6), some (vI x7), some (vI x8)] [vR 11 0] S Q) (kf : ¬ x8 = 0 → Ev d mX11_layFrames 167 [some (vR 11 0), some (vI x1), some (vI x2), some (vI x3), some (vI x4), some (vI x5), some (vI x6), some (vI x7), some (vI x8)] [vR 11 0] S Q) : Ev d mX11_layFrames 162 [some (vR 11 0), some (vI x1), some (vI x2), some (vI x3), some (vI x4), some (vI x5), some (vI x6), some (vI x7), some (vI x8)] [vR 11 0] S Q := by
  refine Ev.iload dX11_layFrames_162 rfl ?_
  exact Ev.if_eq (tgt := 172) dX11_layFrames_164 (by decide) kt kf
theorem bkX11_layFrames_167 {d : Nat} {S : hs_T} {Q : Option av_T → hs_T → Prop} {x1 x2 x3 x4 x5 x6 x7 x8 : Int32} (kn : Ev d mX11_layFrames 181 [some (vR 11 0), some (vI x1), some (vI x2), some (vI x3), some (vI x4), some (vI x5), some (vI x6), some (vI x7), some (vI x8)] [vI x7, vR 11 0] S Q) : Ev d mX11_layFrames 167 [some (vR 11 0), some (vI x1), some (vI x2), some (vI x3), some (vI x4), some (vI x5), some (vI x6), some (vI x7), some (vI x8)] [vR 11 0] S Q := by
  refine Ev.iload dX11_layFrames_167 rfl ?_
  refine Ev.goto (tgt := 181) dX11_layFrames_169 (by decide) ?_
  exact kn
theorem bkX11_layFrames_172 {d : Nat} {S : hs_T} {Q : Option av_T → hs_T → Prop} {x1 x2 x3 x4 x5 x6 x7 x8 : Int32} (kn : Ev d mX11_layFrames 181 [some (vR 11 0), some (vI x1), some (vI x2), some (vI x3), some (vI x4), some (vI x5), some (vI x6), some (vI x7), some (vI x8)] [vI (-5), vR 11 0] S Q) : Ev d mX11_layFrames 172 [some (vR 11 0), some (vI x1), some (vI x2), some (vI x3), some (vI x4), some (vI x5), some (vI x6), some (vI x7), some (vI x8)] [vR 11 0] S Q := by
  refine Ev.bipush (v := (-5)) dX11_layFrames_172 (by decide) ?_
  refine Ev.goto (tgt := 181) dX11_layFrames_174 (by decide) ?_
  exact kn
theorem bkX11_layFrames_177 {d : Nat} {S : hs_T} {Q : Option av_T → hs_T → Prop} {x1 x2 x3 x4 x5 x6 x7 x8 : Int32} (kn : Ev d mX11_layFrames 181 [some (vR 11 0), some (vI x1), some (vI x2), some (vI x3), some (vI x4), some (vI x5), some (vI x6), some (vI x7), some (vI x8)] [vI (S.1 11 0 29), vR 11 0] S Q) : Ev d mX11_layFrames 177 [some (vR 11 0), some (vI x1), some (vI x2), some (vI x3), some (vI x4), some (vI x5), some (vI x6), some (vI x7), some (vI x8)] [vR 11 0] S Q := by
  refine Ev.aload_n dX11_layFrames_177 rfl rfl ?_
  refine Ev.get (v := vI (S.1 11 0 29)) okX11 (by decide) fl_X11_265 pz_11_0 (ff_11_29 _ _) dX11_layFrames_178 ?_
  exact kn
theorem bkX11_layFrames_181 {d : Nat} {S : hs_T} {Q : Option av_T → hs_T → Prop} {P : Int32 → hs_T → Prop} {x1 x2 x3 x4 x5 x6 x7 x8 y0 : Int32} (hC : Ci d mX11_flag [vI x8] (sk_ S 11 0 (upd (S.1 11 0) 29 y0)) P) (kk : ∀ v S', P v S' → Ev (d + 1) mX11_layFrames 194 [some (vR 11 0), some (vI x1), some (vI x2), some (vI x3), some (vI x4), some (vI x5), some (vI x6), some (vI x7), some (vI x8)] [vI v, vI ((sk_ S 11 0 (upd (S.1 11 0) 29 y0)).1 11 0 27), vR 11 0] S' Q) : Ev (d + 1) mX11_layFrames 181 [some (vR 11 0), some (vI x1), some (vI x2), some (vI x3), some (vI x4), some (vI x5), some (vI x6), some (vI x7), some (vI x8)] [vI y0, vR 11 0] S Q := by
  refine Ev.put okX11 (by decide) fl_X11_265 pz_11_0 (by decide) rfl rfl rfl rfl dX11_layFrames_181 ?_
  refine Ev.aload_n dX11_layFrames_184 rfl rfl ?_
  refine Ev.dup dX11_layFrames_185 rfl ?_
  refine Ev.get (v := vI ((sk_ S 11 0 (upd (S.1 11 0) 29 y0)).1 11 0 27)) okX11 (by decide) fl_X11_259 pz_11_0 (ff_11_27 _ _) dX11_layFrames_186 ?_
  refine Ev.iload dX11_layFrames_189 rfl ?_
  exact Ev.callS (as := [vI x8]) (rest := [vI ((sk_ S 11 0 (upd (S.1 11 0) 29 y0)).1 11 0 27), vR 11 0]) okX11_flag stX11_flag ml_X11_213 rfl (Nat.le_of_ble_eq_true rfl) rfl dX11_layFrames_191 hC (fun r S' h => by obtain ⟨v, rfl, h⟩ := h; exact kk v S' h)
theorem bkX11_layFrames_194 {d : Nat} {S : hs_T} {Q : Option av_T → hs_T → Prop} {x1 x2 x3 x4 x5 x6 x7 x8 y0 y1 : Int32} (kt : ¬ x8 = 0 → Ev d mX11_layFrames 212 [some (vR 11 0), some (vI x1), some (vI x2), some (vI x3), some (vI x4), some (vI x5), some (vI x6), some (vI x7), some (vI x8)] [vI ((sk_ S 11 0 (upd (S.1 11 0) 27 (y1 + y0))).1 11 0 28), vR 11 0] (sk_ S 11 0 (upd (S.1 11 0) 27 (y1 + y0))) Q) (kf : x8 = 0 → Ev d mX11_layFrames 208 [some (vR 11 0), some (vI x1), some (vI x2), some (vI x3), some (vI x4), some (vI x5), some (vI x6), some (vI x7), some (vI x8)] [vI ((sk_ S 11 0 (upd (S.1 11 0) 27 (y1 + y0))).1 11 0 28), vR 11 0] (sk_ S 11 0 (upd (S.1 11 0) 27 (y1 + y0))) Q) : Ev d mX11_layFrames 194 [some (vR 11 0), some (vI x1), some (vI x2), some (vI x3), some (vI x4), some (vI x5), some (vI x6), some (vI x7), some (vI x8)] [vI y0, vI y1, vR 11 0] S Q := by
  refine Ev.iadd dX11_layFrames_194 ?_
  refine Ev.put okX11 (by decide) fl_X11_259 pz_11_0 (by decide) rfl rfl rfl rfl dX11_layFrames_195 ?_
  refine Ev.aload_n dX11_layFrames_198 rfl rfl ?_
  refine Ev.dup dX11_layFrames_199 rfl ?_
  refine Ev.get (v := vI ((sk_ S 11 0 (upd (S.1 11 0) 27 (y1 + y0))).1 11 0 28)) okX11 (by decide) fl_X11_262 pz_11_0 (ff_11_28 _ _) dX11_layFrames_200 ?_
  refine Ev.iload dX11_layFrames_203 rfl ?_
  exact Ev.if_ne (tgt := 212) dX11_layFrames_205 (by decide) kt kf
theorem bkX11_layFrames_208 {d : Nat} {S : hs_T} {Q : Option av_T → hs_T → Prop} {x1 x2 x3 x4 x5 x6 x7 x8 y0 : Int32} (kn : Ev d mX11_layFrames 213 [some (vR 11 0), some (vI x1), some (vI x2), some (vI x3), some (vI x4), some (vI x5), some (vI x6), some (vI x7), some (vI x8)] [vI 1, vI y0, vR 11 0] S Q) : Ev d mX11_layFrames 208 [some (vR 11 0), some (vI x1), some (vI x2), some (vI x3), some (vI x4), some (vI x5), some (vI x6), some (vI x7), some (vI x8)] [vI y0, vR 11 0] S Q := by
  refine Ev.iconst (v := 1) dX11_layFrames_208 (by decide) ?_
  refine Ev.goto (tgt := 213) dX11_layFrames_209 (by decide) ?_
  exact kn
theorem bkX11_layFrames_212 {d : Nat} {S : hs_T} {Q : Option av_T → hs_T → Prop} {x1 x2 x3 x4 x5 x6 x7 x8 y0 : Int32} (kn : Ev d mX11_layFrames 213 [some (vR 11 0), some (vI x1), some (vI x2), some (vI x3), some (vI x4), some (vI x5), some (vI x6), some (vI x7), some (vI x8)] [vI 0, vI y0, vR 11 0] S Q) : Ev d mX11_layFrames 212 [some (vR 11 0), some (vI x1), some (vI x2), some (vI x3), some (vI x4), some (vI x5), some (vI x6), some (vI x7), some (vI x8)] [vI y0, vR 11 0] S Q := by
  refine Ev.iconst (v := 0) dX11_layFrames_212 (by decide) ?_
  exact kn
theorem bkX11_layFrames_213 {d : Nat} {S : hs_T} {Q : Option av_T → hs_T → Prop} {P : Int32 → hs_T → Prop} {x1 x2 x3 x4 x5 x6 x7 x8 y0 y1 : Int32} (hC : Ci d mX11_flag [vI y0] S P) (kk : ∀ v S', P v S' → Ev (d + 1) mX11_layFrames 216 [some (vR 11 0), some (vI x1), some (vI x2), some (vI x3), some (vI x4), some (vI x5), some (vI x6), some (vI x7), some (vI x8)] [vI v, vI y1, vR 11 0] S' Q) : Ev (d + 1) mX11_layFrames 213 [some (vR 11 0), some (vI x1), some (vI x2), some (vI x3), some (vI x4), some (vI x5), some (vI x6), some (vI x7), some (vI x8)] [vI y0, vI y1, vR 11 0] S Q := by
  exact Ev.callS (as := [vI y0]) (rest := [vI y1, vR 11 0]) okX11_flag stX11_flag ml_X11_213 rfl (Nat.le_of_ble_eq_true rfl) rfl dX11_layFrames_213 hC (fun r S' h => by obtain ⟨v, rfl, h⟩ := h; exact kk v S' h)
theorem bkX11_layFrames_216 {d : Nat} {S : hs_T} {Q : Option av_T → hs_T → Prop} {x1 x2 x3 x4 x5 x6 x7 x8 y0 y1 : Int32} (kn : Ev d mX11_layFrames 224 [some (vR 11 0), some (vI x1), some (vI x2), some (vI x3), some (vI x6), some (vI x5), some (vI x6), some (vI x7), some (vI x8)] [] (sk_ S 11 0 (upd (S.1 11 0) 28 (y1 + y0))) Q) : Ev d mX11_layFrames 216 [some (vR 11 0), some (vI x1), some (vI x2), some (vI x3), some (vI x4), some (vI x5), some (vI x6), some (vI x7), some (vI x8)] [vI y0, vI y1, vR 11 0] S Q := by
  refine Ev.iadd dX11_layFrames_216 ?_
  refine Ev.put okX11 (by decide) fl_X11_262 pz_11_0 (by decide) rfl rfl rfl rfl dX11_layFrames_217 ?_
  refine Ev.iload dX11_layFrames_220 rfl ?_
  refine Ev.istore (ls' := [some (vR 11 0), some (vI x1), some (vI x2), some (vI x3), some (vI x6), some (vI x5), some (vI x6), some (vI x7), some (vI x8)]) dX11_layFrames_222 (by decide) rfl ?_
  exact kn
theorem bkX11_layFrames_224 {d : Nat} {S : hs_T} {Q : Option av_T → hs_T → Prop} {x1 x2 x3 x4 x5 x6 : Int32} {o7 o8 : Option av_T} (kn : Ev d mX11_layFrames 18 [some (vR 11 0), some (vI x1), some (vI x2), some (vI x3), some (vI (x4 + 1)), some (vI x5), some (vI x6), o7, o8] [] S Q) : Ev d mX11_layFrames 224 [some (vR 11 0), some (vI x1), some (vI x2), some (vI x3), some (vI x4), some (vI x5), some (vI x6), o7, o8] [] S Q := by
  refine Ev.iinc (v := (x4 + 1)) (ls' := [some (vR 11 0), some (vI x1), some (vI x2), some (vI x3), some (vI (x4 + 1)), some (vI x5), some (vI x6), o7, o8]) dX11_layFrames_224 rfl rfl (by decide) rfl ?_
  refine Ev.goto (tgt := 18) dX11_layFrames_227 (by decide) ?_
  exact kn
theorem bkX11_layFrames_230 {d : Nat} {S : hs_T} {Q : Option av_T → hs_T → Prop} {x1 x2 x3 x4 : Int32} {o5 o6 o7 o8 : Option av_T} (hq : Q none S) : Ev d mX11_layFrames 230 [some (vR 11 0), some (vI x1), some (vI x2), some (vI x3), some (vI x4), o5, o6, o7, o8] [] S Q := by
  exact Ev.vret dX11_layFrames_230 rfl hq
/-! EightWiresModel.isRate(I)Z -/
theorem bkX11_isRate_0 {d : Nat} {S : hs_T} {Q : Option av_T → hs_T → Prop} {P : Int32 → hs_T → Prop} {x0 : Int32} (hC : Ci d mX11_in [vJ x0.toInt64, vJ 2, vJ 50] S P) (kk : ∀ v S', P v S' → Ev (d + 1) mX11_isRate 11 [some (vI x0)] [vI v] S' Q) : Ev (d + 1) mX11_isRate 0 [some (vI x0)] [] S Q := by
  refine Ev.iload_n dX11_isRate_0 rfl rfl ?_
  refine Ev.i2l dX11_isRate_1 ?_
  refine Ev.ldc2 kl_X11_138 dX11_isRate_2 ?_
  refine Ev.ldc2 kl_X11_268 dX11_isRate_5 ?_
  exact Ev.callS (as := [vJ x0.toInt64, vJ 2, vJ 50]) (rest := []) okX11_in stX11_in ml_X11_58 rfl (Nat.le_of_ble_eq_true rfl) rfl dX11_isRate_8 hC (fun r S' h => by obtain ⟨v, rfl, h⟩ := h; exact kk v S' h)
theorem bkX11_isRate_11 {d : Nat} {S : hs_T} {Q : Option av_T → hs_T → Prop} {x0 y0 : Int32} (hn11 : narrow .boolean (.int y0) = .int y0) (hq : Q (some (vI y0)) S) : Ev d mX11_isRate 11 [some (vI x0)] [vI y0] S Q := by
  exact Ev.iret dX11_isRate_11 rfl hn11 hq
/-! EightWiresModel.serial(III)I -/
theorem bkX11_serial_0 {d : Nat} {S : hs_T} {Q : Option av_T → hs_T → Prop} {P : Int32 → hs_T → Prop} {x1 x2 x3 : Int32} (hC : Ci d mX11_isWire [vI x1] S P) (kk : ∀ v S', P v S' → Ev (d + 1) mX11_serial 4 [some (vR 11 0), some (vI x1), some (vI x2), some (vI x3)] [vI v] S' Q) : Ev (d + 1) mX11_serial 0 [some (vR 11 0), some (vI x1), some (vI x2), some (vI x3)] [] S Q := by
  refine Ev.iload_n dX11_serial_0 rfl rfl ?_
  exact Ev.callS (as := [vI x1]) (rest := []) okX11_isWire stX11_isWire ml_X11_206 rfl (Nat.le_of_ble_eq_true rfl) rfl dX11_serial_1 hC (fun r S' h => by obtain ⟨v, rfl, h⟩ := h; exact kk v S' h)
theorem bkX11_serial_4 {d : Nat} {S : hs_T} {Q : Option av_T → hs_T → Prop} {x1 x2 x3 y0 : Int32} (kt : y0 = 0 → Ev d mX11_serial 30 [some (vR 11 0), some (vI x1), some (vI x2), some (vI x3)] [] S Q) (kf : ¬ y0 = 0 → Ev d mX11_serial 7 [some (vR 11 0), some (vI x1), some (vI x2), some (vI x3)] [] S Q) : Ev d mX11_serial 4 [some (vR 11 0), some (vI x1), some (vI x2), some (vI x3)] [vI y0] S Q := by
  exact Ev.if_eq (tgt := 30) dX11_serial_4 (by decide) kt kf
theorem bkX11_serial_7 {d : Nat} {S : hs_T} {Q : Option av_T → hs_T → Prop} {P : Int32 → hs_T → Prop} {x1 x2 x3 : Int32} (hC : Ci d mX11_isRate [vI x2] S P) (kk : ∀ v S', P v S' → Ev (d + 1) mX11_serial 11 [some (vR 11 0), some (vI x1), some (vI x2), some (vI x3)] [vI v] S' Q) : Ev (d + 1) mX11_serial 7 [some (vR 11 0), some (vI x1), some (vI x2), some (vI x3)] [] S Q := by
  refine Ev.iload_n dX11_serial_7 rfl rfl ?_
  exact Ev.callS (as := [vI x2]) (rest := []) okX11_isRate stX11_isRate ml_X11_270 rfl (Nat.le_of_ble_eq_true rfl) rfl dX11_serial_8 hC (fun r S' h => by obtain ⟨v, rfl, h⟩ := h; exact kk v S' h)
theorem bkX11_serial_11 {d : Nat} {S : hs_T} {Q : Option av_T → hs_T → Prop} {x1 x2 x3 y0 : Int32} (kt : y0 = 0 → Ev d mX11_serial 30 [some (vR 11 0), some (vI x1), some (vI x2), some (vI x3)] [] S Q) (kf : ¬ y0 = 0 → Ev d mX11_serial 14 [some (vR 11 0), some (vI x1), some (vI x2), some (vI x3)] [] S Q) : Ev d mX11_serial 11 [some (vR 11 0), some (vI x1), some (vI x2), some (vI x3)] [vI y0] S Q := by
  exact Ev.if_eq (tgt := 30) dX11_serial_11 (by decide) kt kf
theorem bkX11_serial_14 {d : Nat} {S : hs_T} {Q : Option av_T → hs_T → Prop} {P : Int32 → hs_T → Prop} {x1 x2 x3 : Int32} (hC : Ci d mX11_in [vJ x3.toInt64, vJ 0, vJ 1] S P) (kk : ∀ v S', P v S' → Ev (d + 1) mX11_serial 21 [some (vR 11 0), some (vI x1), some (vI x2), some (vI x3)] [vI v] S' Q) : Ev (d + 1) mX11_serial 14 [some (vR 11 0), some (vI x1), some (vI x2), some (vI x3)] [] S Q := by
  refine Ev.iload_n dX11_serial_14 rfl rfl ?_
  refine Ev.i2l dX11_serial_15 ?_
  refine Ev.lconst (v := 0) dX11_serial_16 (by decide) ?_
  refine Ev.lconst (v := 1) dX11_serial_17 (by decide) ?_
  exact Ev.callS (as := [vJ x3.toInt64, vJ 0, vJ 1]) (rest := []) okX11_in stX11_in ml_X11_58 rfl (Nat.le_of_ble_eq_true rfl) rfl dX11_serial_18 hC (fun r S' h => by obtain ⟨v, rfl, h⟩ := h; exact kk v S' h)
theorem bkX11_serial_21 {d : Nat} {S : hs_T} {Q : Option av_T → hs_T → Prop} {x1 x2 x3 y0 : Int32} (kt : ¬ y0 = 0 → Ev d mX11_serial 32 [some (vR 11 0), some (vI x1), some (vI x2), some (vI x3)] [] S Q) (kf : y0 = 0 → Ev d mX11_serial 24 [some (vR 11 0), some (vI x1), some (vI x2), some (vI x3)] [] S Q) : Ev d mX11_serial 21 [some (vR 11 0), some (vI x1), some (vI x2), some (vI x3)] [vI y0] S Q := by
  exact Ev.if_ne (tgt := 32) dX11_serial_21 (by decide) kt kf
theorem bkX11_serial_24 {d : Nat} {S : hs_T} {Q : Option av_T → hs_T → Prop} {x1 x2 x3 : Int32} (kt : 10 ≤ x3 → Ev d mX11_serial 32 [some (vR 11 0), some (vI x1), some (vI x2), some (vI x3)] [] S Q) (kf : ¬ 10 ≤ x3 → Ev d mX11_serial 30 [some (vR 11 0), some (vI x1), some (vI x2), some (vI x3)] [] S Q) : Ev d mX11_serial 24 [some (vR 11 0), some (vI x1), some (vI x2), some (vI x3)] [] S Q := by
  refine Ev.iload_n dX11_serial_24 rfl rfl ?_
  refine Ev.bipush (v := 10) dX11_serial_25 (by decide) ?_
  exact Ev.icmp_ge (tgt := 32) dX11_serial_27 (by decide) kt kf
theorem bkX11_serial_30 {d : Nat} {S : hs_T} {Q : Option av_T → hs_T → Prop} {x1 x2 x3 : Int32} (hq : Q (some (vI (-1))) S) : Ev d mX11_serial 30 [some (vR 11 0), some (vI x1), some (vI x2), some (vI x3)] [] S Q := by
  refine Ev.iconst (v := (-1)) dX11_serial_30 (by decide) ?_
  exact Ev.iret dX11_serial_31 rfl rfl hq
theorem bkX11_serial_32 {d : Nat} {S : hs_T} {Q : Option av_T → hs_T → Prop} {P : hs_T → Prop} {x1 x2 x3 : Int32} (hC : Cv d mX11_layFrames [vR 11 0, vI x1, vI x2, vI (x3 - 10)] S P) (kk : ∀ S', P S' → Ev (d + 1) mX11_serial 42 [some (vR 11 0), some (vI x1), some (vI x2), some (vI x3)] [] S' Q) : Ev (d + 1) mX11_serial 32 [some (vR 11 0), some (vI x1), some (vI x2), some (vI x3)] [] S Q := by
  refine Ev.aload_n dX11_serial_32 rfl rfl ?_
  refine Ev.iload_n dX11_serial_33 rfl rfl ?_
  refine Ev.iload_n dX11_serial_34 rfl rfl ?_
  refine Ev.iload_n dX11_serial_35 rfl rfl ?_
  refine Ev.bipush (v := 10) dX11_serial_36 (by decide) ?_
  refine Ev.isub dX11_serial_38 ?_
  exact Ev.callV (as := [vI x1, vI x2, vI (x3 - 10)]) (rest := []) okX11_layFrames in_X11_layFrames ml_X11_273 rfl (Nat.le_of_ble_eq_true rfl) pz_11_0 (by decide) rfl rfl dX11_serial_39 hC (fun r S' h => by obtain ⟨rfl, h⟩ := h; exact kk S' h)
theorem bkX11_serial_42 {d : Nat} {S : hs_T} {Q : Option av_T → hs_T → Prop} {x1 x2 x3 : Int32} (kt : ¬ x3 = 0 → Ev d mX11_serial 53 [some (vR 11 0), some (vI x1), some (vI x2), some (vI x3)] [] S Q) (kf : x3 = 0 → Ev d mX11_serial 46 [some (vR 11 0), some (vI x1), some (vI x2), some (vI x3)] [] S Q) : Ev d mX11_serial 42 [some (vR 11 0), some (vI x1), some (vI x2), some (vI x3)] [] S Q := by
  refine Ev.iload_n dX11_serial_42 rfl rfl ?_
  exact Ev.if_ne (tgt := 53) dX11_serial_43 (by decide) kt kf
theorem bkX11_serial_46 {d : Nat} {S : hs_T} {Q : Option av_T → hs_T → Prop} {x1 x2 x3 : Int32} (kn : Ev d mX11_serial 69 [some (vR 11 0), some (vI x1), some (vI x2), some (vI x3)] [vI (S.1 11 0 27)] S Q) : Ev d mX11_serial 46 [some (vR 11 0), some (vI x1), some (vI x2), some (vI x3)] [] S Q := by
  refine Ev.aload_n dX11_serial_46 rfl rfl ?_
  refine Ev.get (v := vI (S.1 11 0 27)) okX11 (by decide) fl_X11_259 pz_11_0 (ff_11_27 _ _) dX11_serial_47 ?_
  refine Ev.goto (tgt := 69) dX11_serial_50 (by decide) ?_
  exact kn
theorem bkX11_serial_53 {d : Nat} {S : hs_T} {Q : Option av_T → hs_T → Prop} {x1 x2 x3 : Int32} (kt : ¬ x3 = 1 → Ev d mX11_serial 65 [some (vR 11 0), some (vI x1), some (vI x2), some (vI x3)] [] S Q) (kf : x3 = 1 → Ev d mX11_serial 58 [some (vR 11 0), some (vI x1), some (vI x2), some (vI x3)] [] S Q) : Ev d mX11_serial 53 [some (vR 11 0), some (vI x1), some (vI x2), some (vI x3)] [] S Q := by
  refine Ev.iload_n dX11_serial_53 rfl rfl ?_
  refine Ev.iconst (v := 1) dX11_serial_54 (by decide) ?_
  exact Ev.icmp_ne (tgt := 65) dX11_serial_55 (by decide) kt kf
theorem bkX11_serial_58 {d : Nat} {S : hs_T} {Q : Option av_T → hs_T → Prop} {x1 x2 x3 : Int32} (kn : Ev d mX11_serial 69 [some (vR 11 0), some (vI x1), some (vI x2), some (vI x3)] [vI (S.1 11 0 28)] S Q) : Ev d mX11_serial 58 [some (vR 11 0), some (vI x1), some (vI x2), some (vI x3)] [] S Q := by
  refine Ev.aload_n dX11_serial_58 rfl rfl ?_
  refine Ev.get (v := vI (S.1 11 0 28)) okX11 (by decide) fl_X11_262 pz_11_0 (ff_11_28 _ _) dX11_serial_59 ?_
  refine Ev.goto (tgt := 69) dX11_serial_62 (by decide) ?_
  exact kn
theorem bkX11_serial_65 {d : Nat} {S : hs_T} {Q : Option av_T → hs_T → Prop} {x1 x2 x3 : Int32} (kn : Ev d mX11_serial 69 [some (vR 11 0), some (vI x1), some (vI x2), some (vI x3)] [vI (S.1 11 0 29)] S Q) : Ev d mX11_serial 65 [some (vR 11 0), some (vI x1), some (vI x2), some (vI x3)] [] S Q := by
  refine Ev.aload_n dX11_serial_65 rfl rfl ?_
  refine Ev.get (v := vI (S.1 11 0 29)) okX11 (by decide) fl_X11_265 pz_11_0 (ff_11_29 _ _) dX11_serial_66 ?_
  exact kn
theorem bkX11_serial_69 {d : Nat} {S : hs_T} {Q : Option av_T → hs_T → Prop} {x1 x2 x3 y0 : Int32} (hq : Q (some (vI y0)) S) : Ev d mX11_serial 69 [some (vR 11 0), some (vI x1), some (vI x2), some (vI x3)] [vI y0] S Q := by
  exact Ev.iret dX11_serial_69 rfl rfl hq
/-! EightWiresModel.rate(II)I -/
theorem bkX11_rate_0 {d : Nat} {S : hs_T} {Q : Option av_T → hs_T → Prop} {P : Int32 → hs_T → Prop} {x1 x2 : Int32} {o3 o4 o5 o6 o7 : Option av_T} (hC : Ci d mX11_isWire [vI x1] S P) (kk : ∀ v S', P v S' → Ev (d + 1) mX11_rate 4 [some (vR 11 0), some (vI x1), some (vI x2), o3, o4, o5, o6, o7] [vI v] S' Q) : Ev (d + 1) mX11_rate 0 [some (vR 11 0), some (vI x1), some (vI x2), o3, o4, o5, o6, o7] [] S Q := by
  refine Ev.iload_n dX11_rate_0 rfl rfl ?_
  exact Ev.callS (as := [vI x1]) (rest := []) okX11_isWire stX11_isWire ml_X11_206 rfl (Nat.le_of_ble_eq_true rfl) rfl dX11_rate_1 hC (fun r S' h => by obtain ⟨v, rfl, h⟩ := h; exact kk v S' h)
theorem bkX11_rate_4 {d : Nat} {S : hs_T} {Q : Option av_T → hs_T → Prop} {x1 x2 y0 : Int32} {o3 o4 o5 o6 o7 : Option av_T} (kt : y0 = 0 → Ev d mX11_rate 19 [some (vR 11 0), some (vI x1), some (vI x2), o3, o4, o5, o6, o7] [] S Q) (kf : ¬ y0 = 0 → Ev d mX11_rate 7 [some (vR 11 0), some (vI x1), some (vI x2), o3, o4, o5, o6, o7] [] S Q) : Ev d mX11_rate 4 [some (vR 11 0), some (vI x1), some (vI x2), o3, o4, o5, o6, o7] [vI y0] S Q := by
  exact Ev.if_eq (tgt := 19) dX11_rate_4 (by decide) kt kf
theorem bkX11_rate_7 {d : Nat} {S : hs_T} {Q : Option av_T → hs_T → Prop} {P : Int32 → hs_T → Prop} {x1 x2 : Int32} {o3 o4 o5 o6 o7 : Option av_T} (hC : Ci d mX11_in [vJ x2.toInt64, vJ 0, vJ 2] S P) (kk : ∀ v S', P v S' → Ev (d + 1) mX11_rate 16 [some (vR 11 0), some (vI x1), some (vI x2), o3, o4, o5, o6, o7] [vI v] S' Q) : Ev (d + 1) mX11_rate 7 [some (vR 11 0), some (vI x1), some (vI x2), o3, o4, o5, o6, o7] [] S Q := by
  refine Ev.iload_n dX11_rate_7 rfl rfl ?_
  refine Ev.i2l dX11_rate_8 ?_
  refine Ev.lconst (v := 0) dX11_rate_9 (by decide) ?_
  refine Ev.ldc2 kl_X11_138 dX11_rate_10 ?_
  exact Ev.callS (as := [vJ x2.toInt64, vJ 0, vJ 2]) (rest := []) okX11_in stX11_in ml_X11_58 rfl (Nat.le_of_ble_eq_true rfl) rfl dX11_rate_13 hC (fun r S' h => by obtain ⟨v, rfl, h⟩ := h; exact kk v S' h)
theorem bkX11_rate_16 {d : Nat} {S : hs_T} {Q : Option av_T → hs_T → Prop} {x1 x2 y0 : Int32} {o3 o4 o5 o6 o7 : Option av_T} (kt : ¬ y0 = 0 → Ev d mX11_rate 21 [some (vR 11 0), some (vI x1), some (vI x2), o3, o4, o5, o6, o7] [] S Q) (kf : y0 = 0 → Ev d mX11_rate 19 [some (vR 11 0), some (vI x1), some (vI x2), o3, o4, o5, o6, o7] [] S Q) : Ev d mX11_rate 16 [some (vR 11 0), some (vI x1), some (vI x2), o3, o4, o5, o6, o7] [vI y0] S Q := by
  exact Ev.if_ne (tgt := 21) dX11_rate_16 (by decide) kt kf
theorem bkX11_rate_19 {d : Nat} {S : hs_T} {Q : Option av_T → hs_T → Prop} {x1 x2 : Int32} {o3 o4 o5 o6 o7 : Option av_T} (hq : Q (some (vI (-1))) S) : Ev d mX11_rate 19 [some (vR 11 0), some (vI x1), some (vI x2), o3, o4, o5, o6, o7] [] S Q := by
  refine Ev.iconst (v := (-1)) dX11_rate_19 (by decide) ?_
  exact Ev.iret dX11_rate_20 rfl rfl hq
theorem bkX11_rate_21 {d : Nat} {S : hs_T} {Q : Option av_T → hs_T → Prop} {x1 x2 : Int32} {o3 o4 o5 o6 o7 : Option av_T} (kn : Ev d mX11_rate 33 [some (vR 11 0), some (vI x1), some (vI x2), some (vI (-4)), some (vI 0), some (vI 0), some (vI 2), o7] [] S Q) : Ev d mX11_rate 21 [some (vR 11 0), some (vI x1), some (vI x2), o3, o4, o5, o6, o7] [] S Q := by
  refine Ev.bipush (v := (-4)) dX11_rate_21 (by decide) ?_
  refine Ev.istore_n (ls' := [some (vR 11 0), some (vI x1), some (vI x2), some (vI (-4)), o4, o5, o6, o7]) dX11_rate_23 rfl (by decide) rfl ?_
  refine Ev.iconst (v := 0) dX11_rate_24 (by decide) ?_
  refine Ev.istore (ls' := [some (vR 11 0), some (vI x1), some (vI x2), some (vI (-4)), some (vI 0), o5, o6, o7]) dX11_rate_25 (by decide) rfl ?_
  refine Ev.iconst (v := 0) dX11_rate_27 (by decide) ?_
  refine Ev.istore (ls' := [some (vR 11 0), some (vI x1), some (vI x2), some (vI (-4)), some (vI 0), some (vI 0), o6, o7]) dX11_rate_28 (by decide) rfl ?_
  refine Ev.iconst (v := 2) dX11_rate_30 (by decide) ?_
  refine Ev.istore (ls' := [some (vR 11 0), some (vI x1), some (vI x2), some (vI (-4)), some (vI 0), some (vI 0), some (vI 2), o7]) dX11_rate_31 (by decide) rfl ?_
  exact kn
theorem bkX11_rate_33 {d : Nat} {S : hs_T} {Q : Option av_T → hs_T → Prop} {x1 x2 x3 x4 x5 x6 : Int32} {o7 : Option av_T} (kt : 50 < x6 → Ev d mX11_rate 139 [some (vR 11 0), some (vI x1), some (vI x2), some (vI x3), some (vI x4), some (vI x5), some (vI x6), o7] [] S Q) (kf : ¬ 50 < x6 → Ev d mX11_rate 40 [some (vR 11 0), some (vI x1), some (vI x2), some (vI x3), some (vI x4), some (vI x5), some (vI x6), o7] [] S Q) : Ev d mX11_rate 33 [some (vR 11 0), some (vI x1), some (vI x2), some (vI x3), some (vI x4), some (vI x5), some (vI x6), o7] [] S Q := by
  refine Ev.iload dX11_rate_33 rfl ?_
  refine Ev.bipush (v := 50) dX11_rate_35 (by decide) ?_
  exact Ev.icmp_gt (tgt := 139) dX11_rate_37 (by decide) kt kf
theorem bkX11_rate_40 {d : Nat} {S : hs_T} {Q : Option av_T → hs_T → Prop} {P : hs_T → Prop} {x1 x2 x3 x4 x5 x6 : Int32} {o7 : Option av_T} (hC : Cv d mX11_layFrames [vR 11 0, vI x1, vI x6, vI (-4)] S P) (kk : ∀ S', P S' → Ev (d + 1) mX11_rate 49 [some (vR 11 0), some (vI x1), some (vI x2), some (vI x3), some (vI x4), some (vI x5), some (vI x6), o7] [] S' Q) : Ev (d + 1) mX11_rate 40 [some (vR 11 0), some (vI x1), some (vI x2), some (vI x3), some (vI x4), some (vI x5), some (vI x6), o7] [] S Q := by
  refine Ev.aload_n dX11_rate_40 rfl rfl ?_
  refine Ev.iload_n dX11_rate_41 rfl rfl ?_
  refine Ev.iload dX11_rate_42 rfl ?_
  refine Ev.bipush (v := (-4)) dX11_rate_44 (by decide) ?_
  exact Ev.callV (as := [vI x1, vI x6, vI (-4)]) (rest := []) okX11_layFrames in_X11_layFrames ml_X11_273 rfl (Nat.le_of_ble_eq_true rfl) pz_11_0 (by decide) rfl rfl dX11_rate_46 hC (fun r S' h => by obtain ⟨rfl, h⟩ := h; exact kk S' h)
theorem bkX11_rate_49 {d : Nat} {S : hs_T} {Q : Option av_T → hs_T → Prop} {x1 x2 x3 x4 x5 x6 : Int32} {o7 : Option av_T} (kt : x3 = (-4) → Ev d mX11_rate 82 [some (vR 11 0), some (vI x1), some (vI x2), some (vI x3), some (vI x4), some (vI x5), some (vI x6), o7] [] S Q) (kf : ¬ x3 = (-4) → Ev d mX11_rate 55 [some (vR 11 0), some (vI x1), some (vI x2), some (vI x3), some (vI x4), some (vI x5), some (vI x6), o7] [] S Q) : Ev d mX11_rate 49 [some (vR 11 0), some (vI x1), some (vI x2), some (vI x3), some (vI x4), some (vI x5), some (vI x6), o7] [] S Q := by
  refine Ev.iload_n dX11_rate_49 rfl rfl ?_
  refine Ev.bipush (v := (-4)) dX11_rate_50 (by decide) ?_
  exact Ev.icmp_eq (tgt := 82) dX11_rate_52 (by decide) kt kf
theorem bkX11_rate_55 {d : Nat} {S : hs_T} {Q : Option av_T → hs_T → Prop} {x1 x2 x3 x4 x5 x6 : Int32} {o7 : Option av_T} (kt : x4 < (S.1 11 0 27) → Ev d mX11_rate 82 [some (vR 11 0), some (vI x1), some (vI x2), some (vI x3), some (vI x4), some (vI x5), some (vI x6), o7] [] S Q) (kf : ¬ x4 < (S.1 11 0 27) → Ev d mX11_rate 64 [some (vR 11 0), some (vI x1), some (vI x2), some (vI x3), some (vI x4), some (vI x5), some (vI x6), o7] [] S Q) : Ev d mX11_rate 55 [some (vR 11 0), some (vI x1), some (vI x2), some (vI x3), some (vI x4), some (vI x5), some (vI x6), o7] [] S Q := by
  refine Ev.aload_n dX11_rate_55 rfl rfl ?_
  refine Ev.get (v := vI (S.1 11 0 27)) okX11 (by decide) fl_X11_259 pz_11_0 (ff_11_27 _ _) dX11_rate_56 ?_
  refine Ev.iload dX11_rate_59 rfl ?_
  exact Ev.icmp_gt (tgt := 82) dX11_rate_61 (by decide) kt kf
theorem bkX11_rate_64 {d : Nat} {S : hs_T} {Q : Option av_T → hs_T → Prop} {x1 x2 x3 x4 x5 x6 : Int32} {o7 : Option av_T} (kt : ¬ (S.1 11 0 27) = x4 → Ev d mX11_rate 86 [some (vR 11 0), some (vI x1), some (vI x2), some (vI x3), some (vI x4), some (vI x5), some (vI x6), o7] [] S Q) (kf : (S.1 11 0 27) = x4 → Ev d mX11_rate 73 [some (vR 11 0), some (vI x1), some (vI x2), some (vI x3), some (vI x4), some (vI x5), some (vI x6), o7] [] S Q) : Ev d mX11_rate 64 [some (vR 11 0), some (vI x1), some (vI x2), some (vI x3), some (vI x4), some (vI x5), some (vI x6), o7] [] S Q := by
  refine Ev.aload_n dX11_rate_64 rfl rfl ?_
  refine Ev.get (v := vI (S.1 11 0 27)) okX11 (by decide) fl_X11_259 pz_11_0 (ff_11_27 _ _) dX11_rate_65 ?_
  refine Ev.iload dX11_rate_68 rfl ?_
  exact Ev.icmp_ne (tgt := 86) dX11_rate_70 (by decide) kt kf
theorem bkX11_rate_73 {d : Nat} {S : hs_T} {Q : Option av_T → hs_T → Prop} {x1 x2 x3 x4 x5 x6 : Int32} {o7 : Option av_T} (kt : x5 ≤ (S.1 11 0 28) → Ev d mX11_rate 86 [some (vR 11 0), some (vI x1), some (vI x2), some (vI x3), some (vI x4), some (vI x5), some (vI x6), o7] [] S Q) (kf : ¬ x5 ≤ (S.1 11 0 28) → Ev d mX11_rate 82 [some (vR 11 0), some (vI x1), some (vI x2), some (vI x3), some (vI x4), some (vI x5), some (vI x6), o7] [] S Q) : Ev d mX11_rate 73 [some (vR 11 0), some (vI x1), some (vI x2), some (vI x3), some (vI x4), some (vI x5), some (vI x6), o7] [] S Q := by
  refine Ev.aload_n dX11_rate_73 rfl rfl ?_
  refine Ev.get (v := vI (S.1 11 0 28)) okX11 (by decide) fl_X11_262 pz_11_0 (ff_11_28 _ _) dX11_rate_74 ?_
  refine Ev.iload dX11_rate_77 rfl ?_
  exact Ev.icmp_ge (tgt := 86) dX11_rate_79 (by decide) kt kf
theorem bkX11_rate_82 {d : Nat} {S : hs_T} {Q : Option av_T → hs_T → Prop} {x1 x2 x3 x4 x5 x6 : Int32} {o7 : Option av_T} (kn : Ev d mX11_rate 87 [some (vR 11 0), some (vI x1), some (vI x2), some (vI x3), some (vI x4), some (vI x5), some (vI x6), o7] [vI 1] S Q) : Ev d mX11_rate 82 [some (vR 11 0), some (vI x1), some (vI x2), some (vI x3), some (vI x4), some (vI x5), some (vI x6), o7] [] S Q := by
  refine Ev.iconst (v := 1) dX11_rate_82 (by decide) ?_
  refine Ev.goto (tgt := 87) dX11_rate_83 (by decide) ?_
  exact kn
theorem bkX11_rate_86 {d : Nat} {S : hs_T} {Q : Option av_T → hs_T → Prop} {x1 x2 x3 x4 x5 x6 : Int32} {o7 : Option av_T} (kn : Ev d mX11_rate 87 [some (vR 11 0), some (vI x1), some (vI x2), some (vI x3), some (vI x4), some (vI x5), some (vI x6), o7] [vI 0] S Q) : Ev d mX11_rate 86 [some (vR 11 0), some (vI x1), some (vI x2), some (vI x3), some (vI x4), some (vI x5), some (vI x6), o7] [] S Q := by
  refine Ev.iconst (v := 0) dX11_rate_86 (by decide) ?_
  exact kn
theorem bkX11_rate_87 {d : Nat} {S : hs_T} {Q : Option av_T → hs_T → Prop} {x1 x2 x3 x4 x5 x6 y0 : Int32} {o7 : Option av_T} (kt : y0 = 0 → Ev d mX11_rate 99 [some (vR 11 0), some (vI x1), some (vI x2), some (vI x3), some (vI x4), some (vI x5), some (vI x6), some (vI y0)] [] S Q) (kf : ¬ y0 = 0 → Ev d mX11_rate 94 [some (vR 11 0), some (vI x1), some (vI x2), some (vI x3), some (vI x4), some (vI x5), some (vI x6), some (vI y0)] [] S Q) : Ev d mX11_rate 87 [some (vR 11 0), some (vI x1), some (vI x2), some (vI x3), some (vI x4), some (vI x5), some (vI x6), o7] [vI y0] S Q := by
  refine Ev.istore (ls' := [some (vR 11 0), some (vI x1), some (vI x2), some (vI x3), some (vI x4), some (vI x5), some (vI x6), some (vI y0)]) dX11_rate_87 (by decide) rfl ?_
  refine Ev.iload dX11_rate_89 rfl ?_
  exact Ev.if_eq (tgt := 99) dX11_rate_91 (by decide) kt kf
theorem bkX11_rate_94 {d : Nat} {S : hs_T} {Q : Option av_T → hs_T → Prop} {x1 x2 x3 x4 x5 x6 x7 : Int32} (kn : Ev d mX11_rate 100 [some (vR 11 0), some (vI x1), some (vI x2), some (vI x3), some (vI x4), some (vI x5), some (vI x6), some (vI x7)] [vI x6] S Q) : Ev d mX11_rate 94 [some (vR 11 0), some (vI x1), some (vI x2), some (vI x3), some (vI x4), some (vI x5), some (vI x6), some (vI x7)] [] S Q := by
  refine Ev.iload dX11_rate_94 rfl ?_
  refine Ev.goto (tgt := 100) dX11_rate_96 (by decide) ?_
  exact kn
theorem bkX11_rate_99 {d : Nat} {S : hs_T} {Q : Option av_T → hs_T → Prop} {x1 x2 x3 x4 x5 x6 x7 : Int32} (kn : Ev d mX11_rate 100 [some (vR 11 0), some (vI x1), some (vI x2), some (vI x3), some (vI x4), some (vI x5), some (vI x6), some (vI x7)] [vI x3] S Q) : Ev d mX11_rate 99 [some (vR 11 0), some (vI x1), some (vI x2), some (vI x3), some (vI x4), some (vI x5), some (vI x6), some (vI x7)] [] S Q := by
  refine Ev.iload_n dX11_rate_99 rfl rfl ?_
  exact kn
theorem bkX11_rate_100 {d : Nat} {S : hs_T} {Q : Option av_T → hs_T → Prop} {x1 x2 x3 x4 x5 x6 x7 y0 : Int32} (kt : x7 = 0 → Ev d mX11_rate 113 [some (vR 11 0), some (vI x1), some (vI x2), some (vI y0), some (vI x4), some (vI x5), some (vI x6), some (vI x7)] [] S Q) (kf : ¬ x7 = 0 → Ev d mX11_rate 106 [some (vR 11 0), some (vI x1), some (vI x2), some (vI y0), some (vI x4), some (vI x5), some (vI x6), some (vI x7)] [] S Q) : Ev d mX11_rate 100 [some (vR 11 0), some (vI x1), some (vI x2), some (vI x3), some (vI x4), some (vI x5), some (vI x6), some (vI x7)] [vI y0] S Q := by
  refine Ev.istore_n (ls' := [some (vR 11 0), some (vI x1), some (vI x2), some (vI y0), some (vI x4), some (vI x5), some (vI x6), some (vI x7)]) dX11_rate_100 rfl (by decide) rfl ?_
  refine Ev.iload dX11_rate_101 rfl ?_
  exact Ev.if_eq (tgt := 113) dX11_rate_103 (by decide) kt kf
theorem bkX11_rate_106 {d : Nat} {S : hs_T} {Q : Option av_T → hs_T → Prop} {x1 x2 x3 x4 x5 x6 x7 : Int32} (kn : Ev d mX11_rate 115 [some (vR 11 0), some (vI x1), some (vI x2), some (vI x3), some (vI x4), some (vI x5), some (vI x6), some (vI x7)] [vI (S.1 11 0 27)] S Q) : Ev d mX11_rate 106 [some (vR 11 0), some (vI x1), some (vI x2), some (vI x3), some (vI x4), some (vI x5), some (vI x6), some (vI x7)] [] S Q := by
  refine Ev.aload_n dX11_rate_106 rfl rfl ?_
  refine Ev.get (v := vI (S.1 11 0 27)) okX11 (by decide) fl_X11_259 pz_11_0 (ff_11_27 _ _) dX11_rate_107 ?_
  refine Ev.goto (tgt := 115) dX11_rate_110 (by decide) ?_
  exact kn
theorem bkX11_rate_113 {d : Nat} {S : hs_T} {Q : Option av_T → hs_T → Prop} {x1 x2 x3 x4 x5 x6 x7 : Int32} (kn : Ev d mX11_rate 115 [some (vR 11 0), some (vI x1), some (vI x2), some (vI x3), some (vI x4), some (vI x5), some (vI x6), some (vI x7)] [vI x4] S Q) : Ev d mX11_rate 113 [some (vR 11 0), some (vI x1), some (vI x2), some (vI x3), some (vI x4), some (vI x5), some (vI x6), some (vI x7)] [] S Q := by
  refine Ev.iload dX11_rate_113 rfl ?_
  exact kn
theorem bkX11_rate_115 {d : Nat} {S : hs_T} {Q : Option av_T → hs_T → Prop} {x1 x2 x3 x4 x5 x6 x7 y0 : Int32} (kt : x7 = 0 → Ev d mX11_rate 129 [some (vR 11 0), some (vI x1), some (vI x2), some (vI x3), some (vI y0), some (vI x5), some (vI x6), some (vI x7)] [] S Q) (kf : ¬ x7 = 0 → Ev d mX11_rate 122 [some (vR 11 0), some (vI x1), some (vI x2), some (vI x3), some (vI y0), some (vI x5), some (vI x6), some (vI x7)] [] S Q) : Ev d mX11_rate 115 [some (vR 11 0), some (vI x1), some (vI x2), some (vI x3), some (vI x4), some (vI x5), some (vI x6), some (vI x7)] [vI y0] S Q := by
  refine Ev.istore (ls' := [some (vR 11 0), some (vI x1), some (vI x2), some (vI x3), some (vI y0), some (vI x5), some (vI x6), some (vI x7)]) dX11_rate_115 (by decide) rfl ?_
  refine Ev.iload dX11_rate_117 rfl ?_
  exact Ev.if_eq (tgt := 129) dX11_rate_119 (by decide) kt kf
theorem bkX11_rate_122 {d : Nat} {S : hs_T} {Q : Option av_T → hs_T → Prop} {x1 x2 x3 x4 x5 x6 x7 : Int32} (kn : Ev d mX11_rate 131 [some (vR 11 0), some (vI x1), some (vI x2), some (vI x3), some (vI x4), some (vI x5), some (vI x6), some (vI x7)] [vI (S.1 11 0 28)] S Q) : Ev d mX11_rate 122 [some (vR 11 0), some (vI x1), some (vI x2), some (vI x3), some (vI x4), some (vI x5), some (vI x6), some (vI x7)] [] S Q := by
  refine Ev.aload_n dX11_rate_122 rfl rfl ?_
  refine Ev.get (v := vI (S.1 11 0 28)) okX11 (by decide) fl_X11_262 pz_11_0 (ff_11_28 _ _) dX11_rate_123 ?_
  refine Ev.goto (tgt := 131) dX11_rate_126 (by decide) ?_
  exact kn
theorem bkX11_rate_129 {d : Nat} {S : hs_T} {Q : Option av_T → hs_T → Prop} {x1 x2 x3 x4 x5 x6 x7 : Int32} (kn : Ev d mX11_rate 131 [some (vR 11 0), some (vI x1), some (vI x2), some (vI x3), some (vI x4), some (vI x5), some (vI x6), some (vI x7)] [vI x5] S Q) : Ev d mX11_rate 129 [some (vR 11 0), some (vI x1), some (vI x2), some (vI x3), some (vI x4), some (vI x5), some (vI x6), some (vI x7)] [] S Q := by
  refine Ev.iload dX11_rate_129 rfl ?_
  exact kn
theorem bkX11_rate_131 {d : Nat} {S : hs_T} {Q : Option av_T → hs_T → Prop} {x1 x2 x3 x4 x5 x6 x7 y0 : Int32} (kn : Ev d mX11_rate 33 [some (vR 11 0), some (vI x1), some (vI x2), some (vI x3), some (vI x4), some (vI y0), some (vI (x6 + 1)), some (vI x7)] [] S Q) : Ev d mX11_rate 131 [some (vR 11 0), some (vI x1), some (vI x2), some (vI x3), some (vI x4), some (vI x5), some (vI x6), some (vI x7)] [vI y0] S Q := by
  refine Ev.istore (ls' := [some (vR 11 0), some (vI x1), some (vI x2), some (vI x3), some (vI x4), some (vI y0), some (vI x6), some (vI x7)]) dX11_rate_131 (by decide) rfl ?_
  refine Ev.iinc (v := (x6 + 1)) (ls' := [some (vR 11 0), some (vI x1), some (vI x2), some (vI x3), some (vI x4), some (vI y0), some (vI (x6 + 1)), some (vI x7)]) dX11_rate_133 rfl rfl (by decide) rfl ?_
  refine Ev.goto (tgt := 33) dX11_rate_136 (by decide) ?_
  exact kn
theorem bkX11_rate_139 {d : Nat} {S : hs_T} {Q : Option av_T → hs_T → Prop} {x1 x2 x3 x4 x5 x6 : Int32} {o7 : Option av_T} (kt : ¬ x2 = 0 → Ev d mX11_rate 147 [some (vR 11 0), some (vI x1), some (vI x2), some (vI x3), some (vI x4), some (vI x5), some (vI x6), o7] [] S Q) (kf : x2 = 0 → Ev d mX11_rate 143 [some (vR 11 0), some (vI x1), some (vI x2), some (vI x3), some (vI x4), some (vI x5), some (vI x6), o7] [] S Q) : Ev d mX11_rate 139 [some (vR 11 0), some (vI x1), some (vI x2), some (vI x3), some (vI x4), some (vI x5), some (vI x6), o7] [] S Q := by
  refine Ev.iload_n dX11_rate_139 rfl rfl ?_
  exact Ev.if_ne (tgt := 147) dX11_rate_140 (by decide) kt kf
theorem bkX11_rate_143 {d : Nat} {S : hs_T} {Q : Option av_T → hs_T → Prop} {x1 x2 x3 x4 x5 x6 : Int32} {o7 : Option av_T} (kn : Ev d mX11_rate 159 [some (vR 11 0), some (vI x1), some (vI x2), some (vI x3), some (vI x4), some (vI x5), some (vI x6), o7] [vI x3] S Q) : Ev d mX11_rate 143 [some (vR 11 0), some (vI x1), some (vI x2), some (vI x3), some (vI x4), some (vI x5), some (vI x6), o7] [] S Q := by
  refine Ev.iload_n dX11_rate_143 rfl rfl ?_
  refine Ev.goto (tgt := 159) dX11_rate_144 (by decide) ?_
  exact kn
theorem bkX11_rate_147 {d : Nat} {S : hs_T} {Q : Option av_T → hs_T → Prop} {x1 x2 x3 x4 x5 x6 : Int32} {o7 : Option av_T} (kt : ¬ x2 = 1 → Ev d mX11_rate 157 [some (vR 11 0), some (vI x1), some (vI x2), some (vI x3), some (vI x4), some (vI x5), some (vI x6), o7] [] S Q) (kf : x2 = 1 → Ev d mX11_rate 152 [some (vR 11 0), some (vI x1), some (vI x2), some (vI x3), some (vI x4), some (vI x5), some (vI x6), o7] [] S Q) : Ev d mX11_rate 147 [some (vR 11 0), some (vI x1), some (vI x2), some (vI x3), some (vI x4), some (vI x5), some (vI x6), o7] [] S Q := by
  refine Ev.iload_n dX11_rate_147 rfl rfl ?_
  refine Ev.iconst (v := 1) dX11_rate_148 (by decide) ?_
  exact Ev.icmp_ne (tgt := 157) dX11_rate_149 (by decide) kt kf
theorem bkX11_rate_152 {d : Nat} {S : hs_T} {Q : Option av_T → hs_T → Prop} {x1 x2 x3 x4 x5 x6 : Int32} {o7 : Option av_T} (kn : Ev d mX11_rate 159 [some (vR 11 0), some (vI x1), some (vI x2), some (vI x3), some (vI x4), some (vI x5), some (vI x6), o7] [vI x4] S Q) : Ev d mX11_rate 152 [some (vR 11 0), some (vI x1), some (vI x2), some (vI x3), some (vI x4), some (vI x5), some (vI x6), o7] [] S Q := by
  refine Ev.iload dX11_rate_152 rfl ?_
  refine Ev.goto (tgt := 159) dX11_rate_154 (by decide) ?_
  exact kn
theorem bkX11_rate_157 {d : Nat} {S : hs_T} {Q : Option av_T → hs_T → Prop} {x1 x2 x3 x4 x5 x6 : Int32} {o7 : Option av_T} (kn : Ev d mX11_rate 159 [some (vR 11 0), some (vI x1), some (vI x2), some (vI x3), some (vI x4), some (vI x5), some (vI x6), o7] [vI x5] S Q) : Ev d mX11_rate 157 [some (vR 11 0), some (vI x1), some (vI x2), some (vI x3), some (vI x4), some (vI x5), some (vI x6), o7] [] S Q := by
  refine Ev.iload dX11_rate_157 rfl ?_
  exact kn
theorem bkX11_rate_159 {d : Nat} {S : hs_T} {Q : Option av_T → hs_T → Prop} {x1 x2 x3 x4 x5 x6 y0 : Int32} {o7 : Option av_T} (hq : Q (some (vI y0)) S) : Ev d mX11_rate 159 [some (vR 11 0), some (vI x1), some (vI x2), some (vI x3), some (vI x4), some (vI x5), some (vI x6), o7] [vI y0] S Q := by
  exact Ev.iret dX11_rate_159 rfl rfl hq
/-! EightWiresModel.unlikeBits(II)I -/
theorem bkX11_unlikeBits_0 {d : Nat} {S : hs_T} {Q : Option av_T → hs_T → Prop} {x1 x2 : Int32} {o3 o4 : Option av_T} (kn : Ev d mX11_unlikeBits 5 [some (vR 11 0), some (vI x1), some (vI x2), some (vI 0), some (vI 0)] [] S Q) : Ev d mX11_unlikeBits 0 [some (vR 11 0), some (vI x1), some (vI x2), o3, o4] [] S Q := by
  refine Ev.iconst (v := 0) dX11_unlikeBits_0 (by decide) ?_
  refine Ev.istore_n (ls' := [some (vR 11 0), some (vI x1), some (vI x2), some (vI 0), o4]) dX11_unlikeBits_1 rfl (by decide) rfl ?_
  refine Ev.iconst (v := 0) dX11_unlikeBits_2 (by decide) ?_
  refine Ev.istore (ls' := [some (vR 11 0), some (vI x1), some (vI x2), some (vI 0), some (vI 0)]) dX11_unlikeBits_3 (by decide) rfl ?_
  exact kn
theorem bkX11_unlikeBits_5 {d : Nat} {S : hs_T} {Q : Option av_T → hs_T → Prop} {x1 x2 x3 x4 : Int32} (kt : 8 ≤ x4 → Ev d mX11_unlikeBits 46 [some (vR 11 0), some (vI x1), some (vI x2), some (vI x3), some (vI x4)] [] S Q) (kf : ¬ 8 ≤ x4 → Ev d mX11_unlikeBits 12 [some (vR 11 0), some (vI x1), some (vI x2), some (vI x3), some (vI x4)] [] S Q) : Ev d mX11_unlikeBits 5 [some (vR 11 0), some (vI x1), some (vI x2), some (vI x3), some (vI x4)] [] S Q := by
  refine Ev.iload dX11_unlikeBits_5 rfl ?_
  refine Ev.bipush (v := 8) dX11_unlikeBits_7 (by decide) ?_
  exact Ev.icmp_ge (tgt := 46) dX11_unlikeBits_9 (by decide) kt kf
theorem bkX11_unlikeBits_12 {d : Nat} {S : hs_T} {Q : Option av_T → hs_T → Prop} {P : Int32 → hs_T → Prop} {x1 x2 x3 x4 : Int32} (hC : Ci d mX11_isHigh [vR 11 0, vI x4, vI x1] S P) (kk : ∀ v S', P v S' → Ev (d + 1) mX11_unlikeBits 20 [some (vR 11 0), some (vI x1), some (vI x2), some (vI x3), some (vI x4)] [vI v, vI x3] S' Q) : Ev (d + 1) mX11_unlikeBits 12 [some (vR 11 0), some (vI x1), some (vI x2), some (vI x3), some (vI x4)] [] S Q := by
  refine Ev.iload_n dX11_unlikeBits_12 rfl rfl ?_
  refine Ev.aload_n dX11_unlikeBits_13 rfl rfl ?_
  refine Ev.iload dX11_unlikeBits_14 rfl ?_
  refine Ev.iload_n dX11_unlikeBits_16 rfl rfl ?_
  exact Ev.callV (as := [vI x4, vI x1]) (rest := [vI x3]) okX11_isHigh in_X11_isHigh ml_X11_155 rfl (Nat.le_of_ble_eq_true rfl) pz_11_0 (by decide) rfl rfl dX11_unlikeBits_17 hC (fun r S' h => by obtain ⟨v, rfl, h⟩ := h; exact kk v S' h)
theorem bkX11_unlikeBits_20 {d : Nat} {S : hs_T} {Q : Option av_T → hs_T → Prop} {P : Int32 → hs_T → Prop} {x1 x2 x3 x4 y0 y1 : Int32} (hC : Ci d mX11_isHigh [vR 11 0, vI x4, vI x2] S P) (kk : ∀ v S', P v S' → Ev (d + 1) mX11_unlikeBits 27 [some (vR 11 0), some (vI x1), some (vI x2), some (vI x3), some (vI x4)] [vI v, vI y0, vI y1] S' Q) : Ev (d + 1) mX11_unlikeBits 20 [some (vR 11 0), some (vI x1), some (vI x2), some (vI x3), some (vI x4)] [vI y0, vI y1] S Q := by
  refine Ev.aload_n dX11_unlikeBits_20 rfl rfl ?_
  refine Ev.iload dX11_unlikeBits_21 rfl ?_
  refine Ev.iload_n dX11_unlikeBits_23 rfl rfl ?_
  exact Ev.callV (as := [vI x4, vI x2]) (rest := [vI y0, vI y1]) okX11_isHigh in_X11_isHigh ml_X11_155 rfl (Nat.le_of_ble_eq_true rfl) pz_11_0 (by decide) rfl rfl dX11_unlikeBits_24 hC (fun r S' h => by obtain ⟨v, rfl, h⟩ := h; exact kk v S' h)
theorem bkX11_unlikeBits_27 {d : Nat} {S : hs_T} {Q : Option av_T → hs_T → Prop} {x1 x2 x3 x4 y0 y1 y2 : Int32} (kt : y1 = y0 → Ev d mX11_unlikeBits 34 [some (vR 11 0), some (vI x1), some (vI x2), some (vI x3), some (vI x4)] [vI y2] S Q) (kf : ¬ y1 = y0 → Ev d mX11_unlikeBits 30 [some (vR 11 0), some (vI x1), some (vI x2), some (vI x3), some (vI x4)] [vI y2] S Q) : Ev d mX11_unlikeBits 27 [some (vR 11 0), some (vI x1), some (vI x2), some (vI x3), some (vI x4)] [vI y0, vI y1, vI y2] S Q := by
  exact Ev.icmp_eq (tgt := 34) dX11_unlikeBits_27 (by decide) kt kf
theorem bkX11_unlikeBits_30 {d : Nat} {S : hs_T} {Q : Option av_T → hs_T → Prop} {x1 x2 x3 x4 y0 : Int32} (kn : Ev d mX11_unlikeBits 35 [some (vR 11 0), some (vI x1), some (vI x2), some (vI x3), some (vI x4)] [vI 1, vI y0] S Q) : Ev d mX11_unlikeBits 30 [some (vR 11 0), some (vI x1), some (vI x2), some (vI x3), some (vI x4)] [vI y0] S Q := by
  refine Ev.iconst (v := 1) dX11_unlikeBits_30 (by decide) ?_
  refine Ev.goto (tgt := 35) dX11_unlikeBits_31 (by decide) ?_
  exact kn
theorem bkX11_unlikeBits_34 {d : Nat} {S : hs_T} {Q : Option av_T → hs_T → Prop} {x1 x2 x3 x4 y0 : Int32} (kn : Ev d mX11_unlikeBits 35 [some (vR 11 0), some (vI x1), some (vI x2), some (vI x3), some (vI x4)] [vI 0, vI y0] S Q) : Ev d mX11_unlikeBits 34 [some (vR 11 0), some (vI x1), some (vI x2), some (vI x3), some (vI x4)] [vI y0] S Q := by
  refine Ev.iconst (v := 0) dX11_unlikeBits_34 (by decide) ?_
  exact kn
theorem bkX11_unlikeBits_35 {d : Nat} {S : hs_T} {Q : Option av_T → hs_T → Prop} {P : Int32 → hs_T → Prop} {x1 x2 x3 x4 y0 y1 : Int32} (hC : Ci d mX11_flag [vI y0] S P) (kk : ∀ v S', P v S' → Ev (d + 1) mX11_unlikeBits 38 [some (vR 11 0), some (vI x1), some (vI x2), some (vI x3), some (vI x4)] [vI v, vI y1] S' Q) : Ev (d + 1) mX11_unlikeBits 35 [some (vR 11 0), some (vI x1), some (vI x2), some (vI x3), some (vI x4)] [vI y0, vI y1] S Q := by
  exact Ev.callS (as := [vI y0]) (rest := [vI y1]) okX11_flag stX11_flag ml_X11_213 rfl (Nat.le_of_ble_eq_true rfl) rfl dX11_unlikeBits_35 hC (fun r S' h => by obtain ⟨v, rfl, h⟩ := h; exact kk v S' h)
theorem bkX11_unlikeBits_38 {d : Nat} {S : hs_T} {Q : Option av_T → hs_T → Prop} {x1 x2 x3 x4 y0 y1 : Int32} (kn : Ev d mX11_unlikeBits 5 [some (vR 11 0), some (vI x1), some (vI x2), some (vI (y1 + y0)), some (vI (x4 + 1))] [] S Q) : Ev d mX11_unlikeBits 38 [some (vR 11 0), some (vI x1), some (vI x2), some (vI x3), some (vI x4)] [vI y0, vI y1] S Q := by
  refine Ev.iadd dX11_unlikeBits_38 ?_
  refine Ev.istore_n (ls' := [some (vR 11 0), some (vI x1), some (vI x2), some (vI (y1 + y0)), some (vI x4)]) dX11_unlikeBits_39 rfl (by decide) rfl ?_
  refine Ev.iinc (v := (x4 + 1)) (ls' := [some (vR 11 0), some (vI x1), some (vI x2), some (vI (y1 + y0)), some (vI (x4 + 1))]) dX11_unlikeBits_40 rfl rfl (by decide) rfl ?_
  refine Ev.goto (tgt := 5) dX11_unlikeBits_43 (by decide) ?_
  exact kn
theorem bkX11_unlikeBits_46 {d : Nat} {S : hs_T} {Q : Option av_T → hs_T → Prop} {x1 x2 x3 x4 : Int32} (hq : Q (some (vI x3)) S) : Ev d mX11_unlikeBits 46 [some (vR 11 0), some (vI x1), some (vI x2), some (vI x3), some (vI x4)] [] S Q := by
  refine Ev.iload_n dX11_unlikeBits_46 rfl rfl ?_
  exact Ev.iret dX11_unlikeBits_47 rfl rfl hq
/-! EightWiresModel.edgesBy(II)I -/
theorem bkX11_edgesBy_0 {d : Nat} {S : hs_T} {Q : Option av_T → hs_T → Prop} {x1 x2 : Int32} {o3 o4 : Option av_T} (kn : Ev d mX11_edgesBy 5 [some (vR 11 0), some (vI x1), some (vI x2), some (vI 0), some (vI x2)] [] S Q) : Ev d mX11_edgesBy 0 [some (vR 11 0), some (vI x1), some (vI x2), o3, o4] [] S Q := by
  refine Ev.iconst (v := 0) dX11_edgesBy_0 (by decide) ?_
  refine Ev.istore_n (ls' := [some (vR 11 0), some (vI x1), some (vI x2), some (vI 0), o4]) dX11_edgesBy_1 rfl (by decide) rfl ?_
  refine Ev.iload_n dX11_edgesBy_2 rfl rfl ?_
  refine Ev.istore (ls' := [some (vR 11 0), some (vI x1), some (vI x2), some (vI 0), some (vI x2)]) dX11_edgesBy_3 (by decide) rfl ?_
  exact kn
theorem bkX11_edgesBy_5 {d : Nat} {S : hs_T} {Q : Option av_T → hs_T → Prop} {x1 x2 x3 x4 : Int32} (kt : (S.1 11 0 3) ≤ (x4 + x1) → Ev d mX11_edgesBy 38 [some (vR 11 0), some (vI x1), some (vI x2), some (vI x3), some (vI x4)] [] S Q) (kf : ¬ (S.1 11 0 3) ≤ (x4 + x1) → Ev d mX11_edgesBy 16 [some (vR 11 0), some (vI x1), some (vI x2), some (vI x3), some (vI x4)] [] S Q) : Ev d mX11_edgesBy 5 [some (vR 11 0), some (vI x1), some (vI x2), some (vI x3), some (vI x4)] [] S Q := by
  refine Ev.iload dX11_edgesBy_5 rfl ?_
  refine Ev.iload_n dX11_edgesBy_7 rfl rfl ?_
  refine Ev.iadd dX11_edgesBy_8 ?_
  refine Ev.aload_n dX11_edgesBy_9 rfl rfl ?_
  refine Ev.get (v := vI (S.1 11 0 3)) okX11 (by decide) fl_X11_144 pz_11_0 (ff_11_3 _ _) dX11_edgesBy_10 ?_
  exact Ev.icmp_ge (tgt := 38) dX11_edgesBy_13 (by decide) kt kf
theorem bkX11_edgesBy_16 {d : Nat} {S : hs_T} {Q : Option av_T → hs_T → Prop} {P : Int32 → hs_T → Prop} {x1 x2 x3 x4 : Int32} (hC : Ci d mX11_unlikeBits [vR 11 0, vI x4, vI (x4 + x1)] S P) (kk : ∀ v S', P v S' → Ev (d + 1) mX11_edgesBy 27 [some (vR 11 0), some (vI x1), some (vI x2), some (vI x3), some (vI x4)] [vI v, vI x3] S' Q) : Ev (d + 1) mX11_edgesBy 16 [some (vR 11 0), some (vI x1), some (vI x2), some (vI x3), some (vI x4)] [] S Q := by
  refine Ev.iload_n dX11_edgesBy_16 rfl rfl ?_
  refine Ev.aload_n dX11_edgesBy_17 rfl rfl ?_
  refine Ev.iload dX11_edgesBy_18 rfl ?_
  refine Ev.iload dX11_edgesBy_20 rfl ?_
  refine Ev.iload_n dX11_edgesBy_22 rfl rfl ?_
  refine Ev.iadd dX11_edgesBy_23 ?_
  exact Ev.callV (as := [vI x4, vI (x4 + x1)]) (rest := [vI x3]) okX11_unlikeBits in_X11_unlikeBits ml_X11_277 rfl (Nat.le_of_ble_eq_true rfl) pz_11_0 (by decide) rfl rfl dX11_edgesBy_24 hC (fun r S' h => by obtain ⟨v, rfl, h⟩ := h; exact kk v S' h)
theorem bkX11_edgesBy_27 {d : Nat} {S : hs_T} {Q : Option av_T → hs_T → Prop} {x1 x2 x3 x4 y0 y1 : Int32} (kn : Ev d mX11_edgesBy 5 [some (vR 11 0), some (vI x1), some (vI x2), some (vI (y1 + y0)), some (vI (x4 + x1))] [] S Q) : Ev d mX11_edgesBy 27 [some (vR 11 0), some (vI x1), some (vI x2), some (vI x3), some (vI x4)] [vI y0, vI y1] S Q := by
  refine Ev.iadd dX11_edgesBy_27 ?_
  refine Ev.istore_n (ls' := [some (vR 11 0), some (vI x1), some (vI x2), some (vI (y1 + y0)), some (vI x4)]) dX11_edgesBy_28 rfl (by decide) rfl ?_
  refine Ev.iload dX11_edgesBy_29 rfl ?_
  refine Ev.iload_n dX11_edgesBy_31 rfl rfl ?_
  refine Ev.iadd dX11_edgesBy_32 ?_
  refine Ev.istore (ls' := [some (vR 11 0), some (vI x1), some (vI x2), some (vI (y1 + y0)), some (vI (x4 + x1))]) dX11_edgesBy_33 (by decide) rfl ?_
  refine Ev.goto (tgt := 5) dX11_edgesBy_35 (by decide) ?_
  exact kn
theorem bkX11_edgesBy_38 {d : Nat} {S : hs_T} {Q : Option av_T → hs_T → Prop} {x1 x2 x3 x4 : Int32} (hq : Q (some (vI x3)) S) : Ev d mX11_edgesBy 38 [some (vR 11 0), some (vI x1), some (vI x2), some (vI x3), some (vI x4)] [] S Q := by
  refine Ev.iload_n dX11_edgesBy_38 rfl rfl ?_
  exact Ev.iret dX11_edgesBy_39 rfl rfl hq
/-! EightWiresModel.seen(III)I -/
theorem bkX11_seen_0 {d : Nat} {S : hs_T} {Q : Option av_T → hs_T → Prop} {P : Int32 → hs_T → Prop} {x1 x2 x3 : Int32} {o4 o5 : Option av_T} (hC : Ci d mX11_in [vJ x1.toInt64, vJ 1, vJ 400] S P) (kk : ∀ v S', P v S' → Ev (d + 1) mX11_seen 9 [some (vR 11 0), some (vI x1), some (vI x2), some (vI x3), o4, o5] [vI v] S' Q) : Ev (d + 1) mX11_seen 0 [some (vR 11 0), some (vI x1), some (vI x2), some (vI x3), o4, o5] [] S Q := by
  refine Ev.iload_n dX11_seen_0 rfl rfl ?_
  refine Ev.i2l dX11_seen_1 ?_
  refine Ev.lconst (v := 1) dX11_seen_2 (by decide) ?_
  refine Ev.ldc2 kl_X11_147 dX11_seen_3 ?_
  exact Ev.callS (as := [vJ x1.toInt64, vJ 1, vJ 400]) (rest := []) okX11_in stX11_in ml_X11_58 rfl (Nat.le_of_ble_eq_true rfl) rfl dX11_seen_6 hC (fun r S' h => by obtain ⟨v, rfl, h⟩ := h; exact kk v S' h)
theorem bkX11_seen_9 {d : Nat} {S : hs_T} {Q : Option av_T → hs_T → Prop} {x1 x2 x3 y0 : Int32} {o4 o5 : Option av_T} (kt : y0 = 0 → Ev d mX11_seen 37 [some (vR 11 0), some (vI x1), some (vI x2), some (vI x3), o4, o5] [] S Q) (kf : ¬ y0 = 0 → Ev d mX11_seen 12 [some (vR 11 0), some (vI x1), some (vI x2), some (vI x3), o4, o5] [] S Q) : Ev d mX11_seen 9 [some (vR 11 0), some (vI x1), some (vI x2), some (vI x3), o4, o5] [vI y0] S Q := by
  exact Ev.if_eq (tgt := 37) dX11_seen_9 (by decide) kt kf
theorem bkX11_seen_12 {d : Nat} {S : hs_T} {Q : Option av_T → hs_T → Prop} {P : Int32 → hs_T → Prop} {x1 x2 x3 : Int32} {o4 o5 : Option av_T} (hC : Ci d mX11_in [vJ x2.toInt64, vJ 0, vJ ((x1 - 1).toInt64)] S P) (kk : ∀ v S', P v S' → Ev (d + 1) mX11_seen 22 [some (vR 11 0), some (vI x1), some (vI x2), some (vI x3), o4, o5] [vI v] S' Q) : Ev (d + 1) mX11_seen 12 [some (vR 11 0), some (vI x1), some (vI x2), some (vI x3), o4, o5] [] S Q := by
  refine Ev.iload_n dX11_seen_12 rfl rfl ?_
  refine Ev.i2l dX11_seen_13 ?_
  refine Ev.lconst (v := 0) dX11_seen_14 (by decide) ?_
  refine Ev.iload_n dX11_seen_15 rfl rfl ?_
  refine Ev.iconst (v := 1) dX11_seen_16 (by decide) ?_
  refine Ev.isub dX11_seen_17 ?_
  refine Ev.i2l dX11_seen_18 ?_
  exact Ev.callS (as := [vJ x2.toInt64, vJ 0, vJ ((x1 - 1).toInt64)]) (rest := []) okX11_in stX11_in ml_X11_58 rfl (Nat.le_of_ble_eq_true rfl) rfl dX11_seen_19 hC (fun r S' h => by obtain ⟨v, rfl, h⟩ := h; exact kk v S' h)
theorem bkX11_seen_22 {d : Nat} {S : hs_T} {Q : Option av_T → hs_T → Prop} {x1 x2 x3 y0 : Int32} {o4 o5 : Option av_T} (kt : y0 = 0 → Ev d mX11_seen 37 [some (vR 11 0), some (vI x1), some (vI x2), some (vI x3), o4, o5] [] S Q) (kf : ¬ y0 = 0 → Ev d mX11_seen 25 [some (vR 11 0), some (vI x1), some (vI x2), some (vI x3), o4, o5] [] S Q) : Ev d mX11_seen 22 [some (vR 11 0), some (vI x1), some (vI x2), some (vI x3), o4, o5] [vI y0] S Q := by
  exact Ev.if_eq (tgt := 37) dX11_seen_22 (by decide) kt kf
theorem bkX11_seen_25 {d : Nat} {S : hs_T} {Q : Option av_T → hs_T → Prop} {P : Int32 → hs_T → Prop} {x1 x2 x3 : Int32} {o4 o5 : Option av_T} (hC : Ci d mX11_in [vJ x3.toInt64, vJ 0, vJ 2] S P) (kk : ∀ v S', P v S' → Ev (d + 1) mX11_seen 34 [some (vR 11 0), some (vI x1), some (vI x2), some (vI x3), o4, o5] [vI v] S' Q) : Ev (d + 1) mX11_seen 25 [some (vR 11 0), some (vI x1), some (vI x2), some (vI x3), o4, o5] [] S Q := by
  refine Ev.iload_n dX11_seen_25 rfl rfl ?_
  refine Ev.i2l dX11_seen_26 ?_
  refine Ev.lconst (v := 0) dX11_seen_27 (by decide) ?_
  refine Ev.ldc2 kl_X11_138 dX11_seen_28 ?_
  exact Ev.callS (as := [vJ x3.toInt64, vJ 0, vJ 2]) (rest := []) okX11_in stX11_in ml_X11_58 rfl (Nat.le_of_ble_eq_true rfl) rfl dX11_seen_31 hC (fun r S' h => by obtain ⟨v, rfl, h⟩ := h; exact kk v S' h)
theorem bkX11_seen_34 {d : Nat} {S : hs_T} {Q : Option av_T → hs_T → Prop} {x1 x2 x3 y0 : Int32} {o4 o5 : Option av_T} (kt : ¬ y0 = 0 → Ev d mX11_seen 39 [some (vR 11 0), some (vI x1), some (vI x2), some (vI x3), o4, o5] [] S Q) (kf : y0 = 0 → Ev d mX11_seen 37 [some (vR 11 0), some (vI x1), some (vI x2), some (vI x3), o4, o5] [] S Q) : Ev d mX11_seen 34 [some (vR 11 0), some (vI x1), some (vI x2), some (vI x3), o4, o5] [vI y0] S Q := by
  exact Ev.if_ne (tgt := 39) dX11_seen_34 (by decide) kt kf
theorem bkX11_seen_37 {d : Nat} {S : hs_T} {Q : Option av_T → hs_T → Prop} {x1 x2 x3 : Int32} {o4 o5 : Option av_T} (hq : Q (some (vI (-1))) S) : Ev d mX11_seen 37 [some (vR 11 0), some (vI x1), some (vI x2), some (vI x3), o4, o5] [] S Q := by
  refine Ev.iconst (v := (-1)) dX11_seen_37 (by decide) ?_
  exact Ev.iret dX11_seen_38 rfl rfl hq
theorem bkX11_seen_39 {d : Nat} {S : hs_T} {Q : Option av_T → hs_T → Prop} {x1 x2 x3 : Int32} {o4 o5 : Option av_T} (kn : Ev d mX11_seen 45 [some (vR 11 0), some (vI x1), some (vI x2), some (vI x3), some (vI 0), some (vI x2)] [] S Q) : Ev d mX11_seen 39 [some (vR 11 0), some (vI x1), some (vI x2), some (vI x3), o4, o5] [] S Q := by
  refine Ev.iconst (v := 0) dX11_seen_39 (by decide) ?_
  refine Ev.istore (ls' := [some (vR 11 0), some (vI x1), some (vI x2), some (vI x3), some (vI 0), o5]) dX11_seen_40 (by decide) rfl ?_
  refine Ev.iload_n dX11_seen_42 rfl rfl ?_
  refine Ev.istore (ls' := [some (vR 11 0), some (vI x1), some (vI x2), some (vI x3), some (vI 0), some (vI x2)]) dX11_seen_43 (by decide) rfl ?_
  exact kn
theorem bkX11_seen_45 {d : Nat} {S : hs_T} {Q : Option av_T → hs_T → Prop} {x1 x2 x3 x4 x5 : Int32} (kt : (S.1 11 0 3) ≤ x5 → Ev d mX11_seen 66 [some (vR 11 0), some (vI x1), some (vI x2), some (vI x3), some (vI x4), some (vI x5)] [] S Q) (kf : ¬ (S.1 11 0 3) ≤ x5 → Ev d mX11_seen 54 [some (vR 11 0), some (vI x1), some (vI x2), some (vI x3), some (vI x4), some (vI x5)] [] S Q) : Ev d mX11_seen 45 [some (vR 11 0), some (vI x1), some (vI x2), some (vI x3), some (vI x4), some (vI x5)] [] S Q := by
  refine Ev.iload dX11_seen_45 rfl ?_
  refine Ev.aload_n dX11_seen_47 rfl rfl ?_
  refine Ev.get (v := vI (S.1 11 0 3)) okX11 (by decide) fl_X11_144 pz_11_0 (ff_11_3 _ _) dX11_seen_48 ?_
  exact Ev.icmp_ge (tgt := 66) dX11_seen_51 (by decide) kt kf
theorem bkX11_seen_54 {d : Nat} {S : hs_T} {Q : Option av_T → hs_T → Prop} {x1 x2 x3 x4 x5 : Int32} (kn : Ev d mX11_seen 45 [some (vR 11 0), some (vI x1), some (vI x2), some (vI x3), some (vI (x4 + 1)), some (vI (x5 + x1))] [] S Q) : Ev d mX11_seen 54 [some (vR 11 0), some (vI x1), some (vI x2), some (vI x3), some (vI x4), some (vI x5)] [] S Q := by
  refine Ev.iinc (v := (x4 + 1)) (ls' := [some (vR 11 0), some (vI x1), some (vI x2), some (vI x3), some (vI (x4 + 1)), some (vI x5)]) dX11_seen_54 rfl rfl (by decide) rfl ?_
  refine Ev.iload dX11_seen_57 rfl ?_
  refine Ev.iload_n dX11_seen_59 rfl rfl ?_
  refine Ev.iadd dX11_seen_60 ?_
  refine Ev.istore (ls' := [some (vR 11 0), some (vI x1), some (vI x2), some (vI x3), some (vI (x4 + 1)), some (vI (x5 + x1))]) dX11_seen_61 (by decide) rfl ?_
  refine Ev.goto (tgt := 45) dX11_seen_63 (by decide) ?_
  exact kn
theorem bkX11_seen_66 {d : Nat} {S : hs_T} {Q : Option av_T → hs_T → Prop} {P : Int32 → hs_T → Prop} {x1 x2 x3 x4 x5 : Int32} (hC : Ci d mX11_edgesBy [vR 11 0, vI x1, vI x2] S P) (kk : ∀ v S', P v S' → Ev (d + 1) mX11_seen 72 [some (vR 11 0), some (vI x1), some (vI x2), some (vI x3), some (vI x4), some (vI x5)] [vI v] S' Q) : Ev (d + 1) mX11_seen 66 [some (vR 11 0), some (vI x1), some (vI x2), some (vI x3), some (vI x4), some (vI x5)] [] S Q := by
  refine Ev.aload_n dX11_seen_66 rfl rfl ?_
  refine Ev.iload_n dX11_seen_67 rfl rfl ?_
  refine Ev.iload_n dX11_seen_68 rfl rfl ?_
  exact Ev.callV (as := [vI x1, vI x2]) (rest := []) okX11_edgesBy in_X11_edgesBy ml_X11_280 rfl (Nat.le_of_ble_eq_true rfl) pz_11_0 (by decide) rfl rfl dX11_seen_69 hC (fun r S' h => by obtain ⟨v, rfl, h⟩ := h; exact kk v S' h)
theorem bkX11_seen_72 {d : Nat} {S : hs_T} {Q : Option av_T → hs_T → Prop} {x1 x2 x3 x4 x5 y0 : Int32} (kt : ¬ x3 = 0 → Ev d mX11_seen 83 [some (vR 11 0), some (vI x1), some (vI x2), some (vI x3), some (vI x4), some (vI y0)] [] S Q) (kf : x3 = 0 → Ev d mX11_seen 78 [some (vR 11 0), some (vI x1), some (vI x2), some (vI x3), some (vI x4), some (vI y0)] [] S Q) : Ev d mX11_seen 72 [some (vR 11 0), some (vI x1), some (vI x2), some (vI x3), some (vI x4), some (vI x5)] [vI y0] S Q := by
  refine Ev.istore (ls' := [some (vR 11 0), some (vI x1), some (vI x2), some (vI x3), some (vI x4), some (vI y0)]) dX11_seen_72 (by decide) rfl ?_
  refine Ev.iload_n dX11_seen_74 rfl rfl ?_
  exact Ev.if_ne (tgt := 83) dX11_seen_75 (by decide) kt kf
theorem bkX11_seen_78 {d : Nat} {S : hs_T} {Q : Option av_T → hs_T → Prop} {x1 x2 x3 x4 x5 : Int32} (kn : Ev d mX11_seen 102 [some (vR 11 0), some (vI x1), some (vI x2), some (vI x3), some (vI x4), some (vI x5)] [vI x4] S Q) : Ev d mX11_seen 78 [some (vR 11 0), some (vI x1), some (vI x2), some (vI x3), some (vI x4), some (vI x5)] [] S Q := by
  refine Ev.iload dX11_seen_78 rfl ?_
  refine Ev.goto (tgt := 102) dX11_seen_80 (by decide) ?_
  exact kn
theorem bkX11_seen_83 {d : Nat} {S : hs_T} {Q : Option av_T → hs_T → Prop} {x1 x2 x3 x4 x5 : Int32} (kt : ¬ x3 = 1 → Ev d mX11_seen 93 [some (vR 11 0), some (vI x1), some (vI x2), some (vI x3), some (vI x4), some (vI x5)] [] S Q) (kf : x3 = 1 → Ev d mX11_seen 88 [some (vR 11 0), some (vI x1), some (vI x2), some (vI x3), some (vI x4), some (vI x5)] [] S Q) : Ev d mX11_seen 83 [some (vR 11 0), some (vI x1), some (vI x2), some (vI x3), some (vI x4), some (vI x5)] [] S Q := by
  refine Ev.iload_n dX11_seen_83 rfl rfl ?_
  refine Ev.iconst (v := 1) dX11_seen_84 (by decide) ?_
  exact Ev.icmp_ne (tgt := 93) dX11_seen_85 (by decide) kt kf
theorem bkX11_seen_88 {d : Nat} {S : hs_T} {Q : Option av_T → hs_T → Prop} {x1 x2 x3 x4 x5 : Int32} (kn : Ev d mX11_seen 102 [some (vR 11 0), some (vI x1), some (vI x2), some (vI x3), some (vI x4), some (vI x5)] [vI x5] S Q) : Ev d mX11_seen 88 [some (vR 11 0), some (vI x1), some (vI x2), some (vI x3), some (vI x4), some (vI x5)] [] S Q := by
  refine Ev.iload dX11_seen_88 rfl ?_
  refine Ev.goto (tgt := 102) dX11_seen_90 (by decide) ?_
  exact kn
theorem bkX11_seen_93 {d : Nat} {S : hs_T} {Q : Option av_T → hs_T → Prop} {P : Int32 → hs_T → Prop} {x1 x2 x3 x4 x5 : Int32} (hC : Ci d mX11_edgesBy [vR 11 0, vI 1, vI 0] S P) (kk : ∀ v S', P v S' → Ev (d + 1) mX11_seen 99 [some (vR 11 0), some (vI x1), some (vI x2), some (vI x3), some (vI x4), some (vI x5)] [vI v] S' Q) : Ev (d + 1) mX11_seen 93 [some (vR 11 0), some (vI x1), some (vI x2), some (vI x3), some (vI x4), some (vI x5)] [] S Q := by
  refine Ev.aload_n dX11_seen_93 rfl rfl ?_
  refine Ev.iconst (v := 1) dX11_seen_94 (by decide) ?_
  refine Ev.iconst (v := 0) dX11_seen_95 (by decide) ?_
  exact Ev.callV (as := [vI 1, vI 0]) (rest := []) okX11_edgesBy in_X11_edgesBy ml_X11_280 rfl (Nat.le_of_ble_eq_true rfl) pz_11_0 (by decide) rfl rfl dX11_seen_96 hC (fun r S' h => by obtain ⟨v, rfl, h⟩ := h; exact kk v S' h)
theorem bkX11_seen_99 {d : Nat} {S : hs_T} {Q : Option av_T → hs_T → Prop} {x1 x2 x3 x4 x5 y0 : Int32} (kn : Ev d mX11_seen 102 [some (vR 11 0), some (vI x1), some (vI x2), some (vI x3), some (vI x4), some (vI x5)] [vI (y0 - x5)] S Q) : Ev d mX11_seen 99 [some (vR 11 0), some (vI x1), some (vI x2), some (vI x3), some (vI x4), some (vI x5)] [vI y0] S Q := by
  refine Ev.iload dX11_seen_99 rfl ?_
  refine Ev.isub dX11_seen_101 ?_
  exact kn
theorem bkX11_seen_102 {d : Nat} {S : hs_T} {Q : Option av_T → hs_T → Prop} {x1 x2 x3 x4 x5 y0 : Int32} (hq : Q (some (vI y0)) S) : Ev d mX11_seen 102 [some (vR 11 0), some (vI x1), some (vI x2), some (vI x3), some (vI x4), some (vI x5)] [vI y0] S Q := by
  exact Ev.iret dX11_seen_102 rfl rfl hq
/-! EightWiresModel.widest()I -/
theorem bkX11_widest_0 {d : Nat} {S : hs_T} {Q : Option av_T → hs_T → Prop} {P : hs_T → Prop} {o1 : Option av_T} (hC : Cv d mX11_noPulses [vR 11 0] S P) (kk : ∀ S', P S' → Ev (d + 1) mX11_widest 4 [some (vR 11 0), o1] [] S' Q) : Ev (d + 1) mX11_widest 0 [some (vR 11 0), o1] [] S Q := by
  refine Ev.aload_n dX11_widest_0 rfl rfl ?_
  exact Ev.callV (as := []) (rest := []) okX11_noPulses in_X11_noPulses ml_X11_237 rfl (Nat.le_of_ble_eq_true rfl) pz_11_0 (by decide) rfl rfl dX11_widest_1 hC (fun r S' h => by obtain ⟨rfl, h⟩ := h; exact kk S' h)
theorem bkX11_widest_4 {d : Nat} {S : hs_T} {Q : Option av_T → hs_T → Prop} {o1 : Option av_T} (kn : Ev d mX11_widest 6 [some (vR 11 0), some (vI 0)] [] S Q) : Ev d mX11_widest 4 [some (vR 11 0), o1] [] S Q := by
  refine Ev.iconst (v := 0) dX11_widest_4 (by decide) ?_
  refine Ev.istore_n (ls' := [some (vR 11 0), some (vI 0)]) dX11_widest_5 rfl (by decide) rfl ?_
  exact kn
theorem bkX11_widest_6 {d : Nat} {S : hs_T} {Q : Option av_T → hs_T → Prop} {x1 : Int32} (kt : 8 ≤ x1 → Ev d mX11_widest 24 [some (vR 11 0), some (vI x1)] [] S Q) (kf : ¬ 8 ≤ x1 → Ev d mX11_widest 12 [some (vR 11 0), some (vI x1)] [] S Q) : Ev d mX11_widest 6 [some (vR 11 0), some (vI x1)] [] S Q := by
  refine Ev.iload_n dX11_widest_6 rfl rfl ?_
  refine Ev.bipush (v := 8) dX11_widest_7 (by decide) ?_
  exact Ev.icmp_ge (tgt := 24) dX11_widest_9 (by decide) kt kf
theorem bkX11_widest_12 {d : Nat} {S : hs_T} {Q : Option av_T → hs_T → Prop} {P : hs_T → Prop} {x1 : Int32} (hC : Cv d mX11_findPulses [vR 11 0, vI x1, vI 3] S P) (kk : ∀ S', P S' → Ev (d + 1) mX11_widest 18 [some (vR 11 0), some (vI x1)] [] S' Q) : Ev (d + 1) mX11_widest 12 [some (vR 11 0), some (vI x1)] [] S Q := by
  refine Ev.aload_n dX11_widest_12 rfl rfl ?_
  refine Ev.iload_n dX11_widest_13 rfl rfl ?_
  refine Ev.iconst (v := 3) dX11_widest_14 (by decide) ?_
  exact Ev.callV (as := [vI x1, vI 3]) (rest := []) okX11_findPulses in_X11_findPulses ml_X11_240 rfl (Nat.le_of_ble_eq_true rfl) pz_11_0 (by decide) rfl rfl dX11_widest_15 hC (fun r S' h => by obtain ⟨rfl, h⟩ := h; exact kk S' h)
theorem bkX11_widest_18 {d : Nat} {S : hs_T} {Q : Option av_T → hs_T → Prop} {x1 : Int32} (kn : Ev d mX11_widest 6 [some (vR 11 0), some (vI (x1 + 1))] [] S Q) : Ev d mX11_widest 18 [some (vR 11 0), some (vI x1)] [] S Q := by
  refine Ev.iinc (v := (x1 + 1)) (ls' := [some (vR 11 0), some (vI (x1 + 1))]) dX11_widest_18 rfl rfl (by decide) rfl ?_
  refine Ev.goto (tgt := 6) dX11_widest_21 (by decide) ?_
  exact kn
theorem bkX11_widest_24 {d : Nat} {S : hs_T} {Q : Option av_T → hs_T → Prop} {x1 : Int32} (kt : ¬ (S.1 11 0 22) = (-4) → Ev d mX11_widest 39 [some (vR 11 0), some (vI x1)] [] S Q) (kf : (S.1 11 0 22) = (-4) → Ev d mX11_widest 33 [some (vR 11 0), some (vI x1)] [] S Q) : Ev d mX11_widest 24 [some (vR 11 0), some (vI x1)] [] S Q := by
  refine Ev.aload_n dX11_widest_24 rfl rfl ?_
  refine Ev.get (v := vI (S.1 11 0 22)) okX11 (by decide) fl_X11_220 pz_11_0 (ff_11_22 _ _) dX11_widest_25 ?_
  refine Ev.bipush (v := (-4)) dX11_widest_28 (by decide) ?_
  exact Ev.icmp_ne (tgt := 39) dX11_widest_30 (by decide) kt kf
theorem bkX11_widest_33 {d : Nat} {S : hs_T} {Q : Option av_T → hs_T → Prop} {x1 : Int32} (kn : Ev d mX11_widest 43 [some (vR 11 0), some (vI x1)] [vI 400] S Q) : Ev d mX11_widest 33 [some (vR 11 0), some (vI x1)] [] S Q := by
  refine Ev.sipush (v := 400) dX11_widest_33 (by decide) ?_
  refine Ev.goto (tgt := 43) dX11_widest_36 (by decide) ?_
  exact kn
theorem bkX11_widest_39 {d : Nat} {S : hs_T} {Q : Option av_T → hs_T → Prop} {x1 : Int32} (kn : Ev d mX11_widest 43 [some (vR 11 0), some (vI x1)] [vI (S.1 11 0 22)] S Q) : Ev d mX11_widest 39 [some (vR 11 0), some (vI x1)] [] S Q := by
  refine Ev.aload_n dX11_widest_39 rfl rfl ?_
  refine Ev.get (v := vI (S.1 11 0 22)) okX11 (by decide) fl_X11_220 pz_11_0 (ff_11_22 _ _) dX11_widest_40 ?_
  exact kn
theorem bkX11_widest_43 {d : Nat} {S : hs_T} {Q : Option av_T → hs_T → Prop} {x1 y0 : Int32} (hq : Q (some (vI y0)) S) : Ev d mX11_widest 43 [some (vR 11 0), some (vI x1)] [vI y0] S Q := by
  exact Ev.iret dX11_widest_43 rfl rfl hq
/-! EightWiresModel.begins(I)Z -/
theorem bkX11_begins_0 {d : Nat} {S : hs_T} {Q : Option av_T → hs_T → Prop} {x1 : Int32} (kt : x1 = 0 → Ev d mX11_begins 21 [some (vR 11 0), some (vI x1)] [] S Q) (kf : ¬ x1 = 0 → Ev d mX11_begins 4 [some (vR 11 0), some (vI x1)] [] S Q) : Ev d mX11_begins 0 [some (vR 11 0), some (vI x1)] [] S Q := by
  refine Ev.iload_n dX11_begins_0 rfl rfl ?_
  exact Ev.if_eq (tgt := 21) dX11_begins_1 (by decide) kt kf
theorem bkX11_begins_4 {d : Nat} {S : hs_T} {Q : Option av_T → hs_T → Prop} {x1 : Int32} (hi9 : vp_in x1 400) (hi17 : vp_in (x1 - 1) 400) (kt : (S.1 1202 0 x1.toNatClampNeg) = (S.1 1202 0 (x1 - 1).toNatClampNeg) → Ev d mX11_begins 25 [some (vR 11 0), some (vI x1)] [] S Q) (kf : ¬ (S.1 1202 0 x1.toNatClampNeg) = (S.1 1202 0 (x1 - 1).toNatClampNeg) → Ev d mX11_begins 21 [some (vR 11 0), some (vI x1)] [] S Q) : Ev d mX11_begins 4 [some (vR 11 0), some (vI x1)] [] S Q := by
  refine Ev.aload_n dX11_begins_4 rfl rfl ?_
  refine Ev.get (v := vR 1202 0) okX11 (by decide) fl_X11_16 pz_11_0 (ff_11_2 _ _) dX11_begins_5 ?_
  refine Ev.iload_n dX11_begins_8 rfl rfl ?_
  refine Ev.ialoadA (a := x1.toNatClampNeg) pz_1202_0 (by decide) ak_1202 hi9 rfl dX11_begins_9 ?_
  refine Ev.aload_n dX11_begins_10 rfl rfl ?_
  refine Ev.get (v := vR 1202 0) okX11 (by decide) fl_X11_16 pz_11_0 (ff_11_2 _ _) dX11_begins_11 ?_
  refine Ev.iload_n dX11_begins_14 rfl rfl ?_
  refine Ev.iconst (v := 1) dX11_begins_15 (by decide) ?_
  refine Ev.isub dX11_begins_16 ?_
  refine Ev.ialoadA (a := (x1 - 1).toNatClampNeg) pz_1202_0 (by decide) ak_1202 hi17 rfl dX11_begins_17 ?_
  exact Ev.icmp_eq (tgt := 25) dX11_begins_18 (by decide) kt kf
theorem bkX11_begins_21 {d : Nat} {S : hs_T} {Q : Option av_T → hs_T → Prop} {x1 : Int32} (kn : Ev d mX11_begins 26 [some (vR 11 0), some (vI x1)] [vI 1] S Q) : Ev d mX11_begins 21 [some (vR 11 0), some (vI x1)] [] S Q := by
  refine Ev.iconst (v := 1) dX11_begins_21 (by decide) ?_
  refine Ev.goto (tgt := 26) dX11_begins_22 (by decide) ?_
  exact kn
theorem bkX11_begins_25 {d : Nat} {S : hs_T} {Q : Option av_T → hs_T → Prop} {x1 : Int32} (kn : Ev d mX11_begins 26 [some (vR 11 0), some (vI x1)] [vI 0] S Q) : Ev d mX11_begins 25 [some (vR 11 0), some (vI x1)] [] S Q := by
  refine Ev.iconst (v := 0) dX11_begins_25 (by decide) ?_
  exact kn
theorem bkX11_begins_26 {d : Nat} {S : hs_T} {Q : Option av_T → hs_T → Prop} {x1 y0 : Int32} (hn26 : narrow .boolean (.int y0) = .int y0) (hq : Q (some (vI y0)) S) : Ev d mX11_begins 26 [some (vR 11 0), some (vI x1)] [vI y0] S Q := by
  exact Ev.iret dX11_begins_26 rfl hn26 hq
/-! EightWiresModel.runs()I -/
theorem bkX11_runs_0 {d : Nat} {S : hs_T} {Q : Option av_T → hs_T → Prop} {o1 o2 : Option av_T} (kn : Ev d mX11_runs 4 [some (vR 11 0), some (vI 0), some (vI 0)] [] S Q) : Ev d mX11_runs 0 [some (vR 11 0), o1, o2] [] S Q := by
  refine Ev.iconst (v := 0) dX11_runs_0 (by decide) ?_
  refine Ev.istore_n (ls' := [some (vR 11 0), some (vI 0), o2]) dX11_runs_1 rfl (by decide) rfl ?_
  refine Ev.iconst (v := 0) dX11_runs_2 (by decide) ?_
  refine Ev.istore_n (ls' := [some (vR 11 0), some (vI 0), some (vI 0)]) dX11_runs_3 rfl (by decide) rfl ?_
  exact kn
theorem bkX11_runs_4 {d : Nat} {S : hs_T} {Q : Option av_T → hs_T → Prop} {x1 x2 : Int32} (kt : (S.1 11 0 3) ≤ x2 → Ev d mX11_runs 29 [some (vR 11 0), some (vI x1), some (vI x2)] [] S Q) (kf : ¬ (S.1 11 0 3) ≤ x2 → Ev d mX11_runs 12 [some (vR 11 0), some (vI x1), some (vI x2)] [] S Q) : Ev d mX11_runs 4 [some (vR 11 0), some (vI x1), some (vI x2)] [] S Q := by
  refine Ev.iload_n dX11_runs_4 rfl rfl ?_
  refine Ev.aload_n dX11_runs_5 rfl rfl ?_
  refine Ev.get (v := vI (S.1 11 0 3)) okX11 (by decide) fl_X11_144 pz_11_0 (ff_11_3 _ _) dX11_runs_6 ?_
  exact Ev.icmp_ge (tgt := 29) dX11_runs_9 (by decide) kt kf
theorem bkX11_runs_12 {d : Nat} {S : hs_T} {Q : Option av_T → hs_T → Prop} {P : Int32 → hs_T → Prop} {x1 x2 : Int32} (hC : Ci d mX11_begins [vR 11 0, vI x2] S P) (kk : ∀ v S', P v S' → Ev (d + 1) mX11_runs 18 [some (vR 11 0), some (vI x1), some (vI x2)] [vI v, vI x1] S' Q) : Ev (d + 1) mX11_runs 12 [some (vR 11 0), some (vI x1), some (vI x2)] [] S Q := by
  refine Ev.iload_n dX11_runs_12 rfl rfl ?_
  refine Ev.aload_n dX11_runs_13 rfl rfl ?_
  refine Ev.iload_n dX11_runs_14 rfl rfl ?_
  exact Ev.callV (as := [vI x2]) (rest := [vI x1]) okX11_begins in_X11_begins ml_X11_283 rfl (Nat.le_of_ble_eq_true rfl) pz_11_0 (by decide) rfl rfl dX11_runs_15 hC (fun r S' h => by obtain ⟨v, rfl, h⟩ := h; exact kk v S' h)
theorem bkX11_runs_18 {d : Nat} {S : hs_T} {Q : Option av_T → hs_T → Prop} {P : Int32 → hs_T → Prop} {x1 x2 y0 y1 : Int32} (hC : Ci d mX11_flag [vI y0] S P) (kk : ∀ v S', P v S' → Ev (d + 1) mX11_runs 21 [some (vR 11 0), some (vI x1), some (vI x2)] [vI v, vI y1] S' Q) : Ev (d + 1) mX11_runs 18 [some (vR 11 0), some (vI x1), some (vI x2)] [vI y0, vI y1] S Q := by
  exact Ev.callS (as := [vI y0]) (rest := [vI y1]) okX11_flag stX11_flag ml_X11_213 rfl (Nat.le_of_ble_eq_true rfl) rfl dX11_runs_18 hC (fun r S' h => by obtain ⟨v, rfl, h⟩ := h; exact kk v S' h)
theorem bkX11_runs_21 {d : Nat} {S : hs_T} {Q : Option av_T → hs_T → Prop} {x1 x2 y0 y1 : Int32} (kn : Ev d mX11_runs 4 [some (vR 11 0), some (vI (y1 + y0)), some (vI (x2 + 1))] [] S Q) : Ev d mX11_runs 21 [some (vR 11 0), some (vI x1), some (vI x2)] [vI y0, vI y1] S Q := by
  refine Ev.iadd dX11_runs_21 ?_
  refine Ev.istore_n (ls' := [some (vR 11 0), some (vI (y1 + y0)), some (vI x2)]) dX11_runs_22 rfl (by decide) rfl ?_
  refine Ev.iinc (v := (x2 + 1)) (ls' := [some (vR 11 0), some (vI (y1 + y0)), some (vI (x2 + 1))]) dX11_runs_23 rfl rfl (by decide) rfl ?_
  refine Ev.goto (tgt := 4) dX11_runs_26 (by decide) ?_
  exact kn
theorem bkX11_runs_29 {d : Nat} {S : hs_T} {Q : Option av_T → hs_T → Prop} {x1 x2 : Int32} (hq : Q (some (vI x1)) S) : Ev d mX11_runs 29 [some (vR 11 0), some (vI x1), some (vI x2)] [] S Q := by
  refine Ev.iload_n dX11_runs_29 rfl rfl ?_
  exact Ev.iret dX11_runs_30 rfl rfl hq
/-! EightWiresModel.fills(II)I -/
theorem bkX11_fills_0 {d : Nat} {S : hs_T} {Q : Option av_T → hs_T → Prop} {P : Int32 → hs_T → Prop} {x1 x2 : Int32} {o3 o4 : Option av_T} (hC : Ci d mX11_in [vJ x1.toInt64, vJ 1, vJ 400] S P) (kk : ∀ v S', P v S' → Ev (d + 1) mX11_fills 9 [some (vR 11 0), some (vI x1), some (vI x2), o3, o4] [vI v] S' Q) : Ev (d + 1) mX11_fills 0 [some (vR 11 0), some (vI x1), some (vI x2), o3, o4] [] S Q := by
  refine Ev.iload_n dX11_fills_0 rfl rfl ?_
  refine Ev.i2l dX11_fills_1 ?_
  refine Ev.lconst (v := 1) dX11_fills_2 (by decide) ?_
  refine Ev.ldc2 kl_X11_147 dX11_fills_3 ?_
  exact Ev.callS (as := [vJ x1.toInt64, vJ 1, vJ 400]) (rest := []) okX11_in stX11_in ml_X11_58 rfl (Nat.le_of_ble_eq_true rfl) rfl dX11_fills_6 hC (fun r S' h => by obtain ⟨v, rfl, h⟩ := h; exact kk v S' h)
theorem bkX11_fills_9 {d : Nat} {S : hs_T} {Q : Option av_T → hs_T → Prop} {x1 x2 y0 : Int32} {o3 o4 : Option av_T} (kt : y0 = 0 → Ev d mX11_fills 20 [some (vR 11 0), some (vI x1), some (vI x2), o3, o4] [] S Q) (kf : ¬ y0 = 0 → Ev d mX11_fills 12 [some (vR 11 0), some (vI x1), some (vI x2), o3, o4] [] S Q) : Ev d mX11_fills 9 [some (vR 11 0), some (vI x1), some (vI x2), o3, o4] [vI y0] S Q := by
  exact Ev.if_eq (tgt := 20) dX11_fills_9 (by decide) kt kf
theorem bkX11_fills_12 {d : Nat} {S : hs_T} {Q : Option av_T → hs_T → Prop} {P : Int32 → hs_T → Prop} {x1 x2 : Int32} {o3 o4 : Option av_T} (hC : Ci d mX11_isSample [vR 11 0, vI x2] S P) (kk : ∀ v S', P v S' → Ev (d + 1) mX11_fills 17 [some (vR 11 0), some (vI x1), some (vI x2), o3, o4] [vI v] S' Q) : Ev (d + 1) mX11_fills 12 [some (vR 11 0), some (vI x1), some (vI x2), o3, o4] [] S Q := by
  refine Ev.aload_n dX11_fills_12 rfl rfl ?_
  refine Ev.iload_n dX11_fills_13 rfl rfl ?_
  exact Ev.callV (as := [vI x2]) (rest := []) okX11_isSample in_X11_isSample ml_X11_152 rfl (Nat.le_of_ble_eq_true rfl) pz_11_0 (by decide) rfl rfl dX11_fills_14 hC (fun r S' h => by obtain ⟨v, rfl, h⟩ := h; exact kk v S' h)
theorem bkX11_fills_17 {d : Nat} {S : hs_T} {Q : Option av_T → hs_T → Prop} {x1 x2 y0 : Int32} {o3 o4 : Option av_T} (kt : ¬ y0 = 0 → Ev d mX11_fills 22 [some (vR 11 0), some (vI x1), some (vI x2), o3, o4] [] S Q) (kf : y0 = 0 → Ev d mX11_fills 20 [some (vR 11 0), some (vI x1), some (vI x2), o3, o4] [] S Q) : Ev d mX11_fills 17 [some (vR 11 0), some (vI x1), some (vI x2), o3, o4] [vI y0] S Q := by
  exact Ev.if_ne (tgt := 22) dX11_fills_17 (by decide) kt kf
theorem bkX11_fills_20 {d : Nat} {S : hs_T} {Q : Option av_T → hs_T → Prop} {x1 x2 : Int32} {o3 o4 : Option av_T} (hq : Q (some (vI (-1))) S) : Ev d mX11_fills 20 [some (vR 11 0), some (vI x1), some (vI x2), o3, o4] [] S Q := by
  refine Ev.iconst (v := (-1)) dX11_fills_20 (by decide) ?_
  exact Ev.iret dX11_fills_21 rfl rfl hq
theorem bkX11_fills_22 {d : Nat} {S : hs_T} {Q : Option av_T → hs_T → Prop} {x1 x2 : Int32} {o3 o4 : Option av_T} (kn : Ev d mX11_fills 27 [some (vR 11 0), some (vI x1), some (vI x2), some (vI x1), some (vI x2)] [] S Q) : Ev d mX11_fills 22 [some (vR 11 0), some (vI x1), some (vI x2), o3, o4] [] S Q := by
  refine Ev.iload_n dX11_fills_22 rfl rfl ?_
  refine Ev.istore_n (ls' := [some (vR 11 0), some (vI x1), some (vI x2), some (vI x1), o4]) dX11_fills_23 rfl (by decide) rfl ?_
  refine Ev.iload_n dX11_fills_24 rfl rfl ?_
  refine Ev.istore (ls' := [some (vR 11 0), some (vI x1), some (vI x2), some (vI x1), some (vI x2)]) dX11_fills_25 (by decide) rfl ?_
  exact kn
theorem bkX11_fills_27 {d : Nat} {S : hs_T} {Q : Option av_T → hs_T → Prop} {x1 x2 x3 x4 : Int32} (kt : (S.1 11 0 3) ≤ x4 → Ev d mX11_fills 75 [some (vR 11 0), some (vI x1), some (vI x2), some (vI x3), some (vI x4)] [] S Q) (kf : ¬ (S.1 11 0 3) ≤ x4 → Ev d mX11_fills 36 [some (vR 11 0), some (vI x1), some (vI x2), some (vI x3), some (vI x4)] [] S Q) : Ev d mX11_fills 27 [some (vR 11 0), some (vI x1), some (vI x2), some (vI x3), some (vI x4)] [] S Q := by
  refine Ev.iload dX11_fills_27 rfl ?_
  refine Ev.aload_n dX11_fills_29 rfl rfl ?_
  refine Ev.get (v := vI (S.1 11 0 3)) okX11 (by decide) fl_X11_144 pz_11_0 (ff_11_3 _ _) dX11_fills_30 ?_
  exact Ev.icmp_ge (tgt := 75) dX11_fills_33 (by decide) kt kf
theorem bkX11_fills_36 {d : Nat} {S : hs_T} {Q : Option av_T → hs_T → Prop} {x1 x2 x3 x4 : Int32} (kt : x3 ≤ 0 → Ev d mX11_fills 75 [some (vR 11 0), some (vI x1), some (vI x2), some (vI x3), some (vI x4)] [] S Q) (kf : ¬ x3 ≤ 0 → Ev d mX11_fills 40 [some (vR 11 0), some (vI x1), some (vI x2), some (vI x3), some (vI x4)] [] S Q) : Ev d mX11_fills 36 [some (vR 11 0), some (vI x1), some (vI x2), some (vI x3), some (vI x4)] [] S Q := by
  refine Ev.iload_n dX11_fills_36 rfl rfl ?_
  exact Ev.if_le (tgt := 75) dX11_fills_37 (by decide) kt kf
theorem bkX11_fills_40 {d : Nat} {S : hs_T} {Q : Option av_T → hs_T → Prop} {x1 x2 x3 x4 : Int32} (kt : (S.1 11 0 3) ≤ (x4 + 1) → Ev d mX11_fills 66 [some (vR 11 0), some (vI x1), some (vI x2), some (vI x3), some (vI (x4 + 1))] [vI x3] S Q) (kf : ¬ (S.1 11 0 3) ≤ (x4 + 1) → Ev d mX11_fills 53 [some (vR 11 0), some (vI x1), some (vI x2), some (vI x3), some (vI (x4 + 1))] [vI x3] S Q) : Ev d mX11_fills 40 [some (vR 11 0), some (vI x1), some (vI x2), some (vI x3), some (vI x4)] [] S Q := by
  refine Ev.iinc (v := (x4 + 1)) (ls' := [some (vR 11 0), some (vI x1), some (vI x2), some (vI x3), some (vI (x4 + 1))]) dX11_fills_40 rfl rfl (by decide) rfl ?_
  refine Ev.iload_n dX11_fills_43 rfl rfl ?_
  refine Ev.iload dX11_fills_44 rfl ?_
  refine Ev.aload_n dX11_fills_46 rfl rfl ?_
  refine Ev.get (v := vI (S.1 11 0 3)) okX11 (by decide) fl_X11_144 pz_11_0 (ff_11_3 _ _) dX11_fills_47 ?_
  exact Ev.icmp_ge (tgt := 66) dX11_fills_50 (by decide) kt kf
theorem bkX11_fills_53 {d : Nat} {S : hs_T} {Q : Option av_T → hs_T → Prop} {P : Int32 → hs_T → Prop} {x1 x2 x3 x4 y0 : Int32} (hC : Ci d mX11_begins [vR 11 0, vI x4] S P) (kk : ∀ v S', P v S' → Ev (d + 1) mX11_fills 59 [some (vR 11 0), some (vI x1), some (vI x2), some (vI x3), some (vI x4)] [vI v, vI y0] S' Q) : Ev (d + 1) mX11_fills 53 [some (vR 11 0), some (vI x1), some (vI x2), some (vI x3), some (vI x4)] [vI y0] S Q := by
  refine Ev.aload_n dX11_fills_53 rfl rfl ?_
  refine Ev.iload dX11_fills_54 rfl ?_
  exact Ev.callV (as := [vI x4]) (rest := [vI y0]) okX11_begins in_X11_begins ml_X11_283 rfl (Nat.le_of_ble_eq_true rfl) pz_11_0 (by decide) rfl rfl dX11_fills_56 hC (fun r S' h => by obtain ⟨v, rfl, h⟩ := h; exact kk v S' h)
theorem bkX11_fills_59 {d : Nat} {S : hs_T} {Q : Option av_T → hs_T → Prop} {x1 x2 x3 x4 y0 y1 : Int32} (kt : y0 = 0 → Ev d mX11_fills 66 [some (vR 11 0), some (vI x1), some (vI x2), some (vI x3), some (vI x4)] [vI y1] S Q) (kf : ¬ y0 = 0 → Ev d mX11_fills 62 [some (vR 11 0), some (vI x1), some (vI x2), some (vI x3), some (vI x4)] [vI y1] S Q) : Ev d mX11_fills 59 [some (vR 11 0), some (vI x1), some (vI x2), some (vI x3), some (vI x4)] [vI y0, vI y1] S Q := by
  exact Ev.if_eq (tgt := 66) dX11_fills_59 (by decide) kt kf
theorem bkX11_fills_62 {d : Nat} {S : hs_T} {Q : Option av_T → hs_T → Prop} {x1 x2 x3 x4 y0 : Int32} (kn : Ev d mX11_fills 67 [some (vR 11 0), some (vI x1), some (vI x2), some (vI x3), some (vI x4)] [vI 1, vI y0] S Q) : Ev d mX11_fills 62 [some (vR 11 0), some (vI x1), some (vI x2), some (vI x3), some (vI x4)] [vI y0] S Q := by
  refine Ev.iconst (v := 1) dX11_fills_62 (by decide) ?_
  refine Ev.goto (tgt := 67) dX11_fills_63 (by decide) ?_
  exact kn
theorem bkX11_fills_66 {d : Nat} {S : hs_T} {Q : Option av_T → hs_T → Prop} {x1 x2 x3 x4 y0 : Int32} (kn : Ev d mX11_fills 67 [some (vR 11 0), some (vI x1), some (vI x2), some (vI x3), some (vI x4)] [vI 0, vI y0] S Q) : Ev d mX11_fills 66 [some (vR 11 0), some (vI x1), some (vI x2), some (vI x3), some (vI x4)] [vI y0] S Q := by
  refine Ev.iconst (v := 0) dX11_fills_66 (by decide) ?_
  exact kn
theorem bkX11_fills_67 {d : Nat} {S : hs_T} {Q : Option av_T → hs_T → Prop} {P : Int32 → hs_T → Prop} {x1 x2 x3 x4 y0 y1 : Int32} (hC : Ci d mX11_flag [vI y0] S P) (kk : ∀ v S', P v S' → Ev (d + 1) mX11_fills 70 [some (vR 11 0), some (vI x1), some (vI x2), some (vI x3), some (vI x4)] [vI v, vI y1] S' Q) : Ev (d + 1) mX11_fills 67 [some (vR 11 0), some (vI x1), some (vI x2), some (vI x3), some (vI x4)] [vI y0, vI y1] S Q := by
  exact Ev.callS (as := [vI y0]) (rest := [vI y1]) okX11_flag stX11_flag ml_X11_213 rfl (Nat.le_of_ble_eq_true rfl) rfl dX11_fills_67 hC (fun r S' h => by obtain ⟨v, rfl, h⟩ := h; exact kk v S' h)
theorem bkX11_fills_70 {d : Nat} {S : hs_T} {Q : Option av_T → hs_T → Prop} {x1 x2 x3 x4 y0 y1 : Int32} (kn : Ev d mX11_fills 27 [some (vR 11 0), some (vI x1), some (vI x2), some (vI (y1 - y0)), some (vI x4)] [] S Q) : Ev d mX11_fills 70 [some (vR 11 0), some (vI x1), some (vI x2), some (vI x3), some (vI x4)] [vI y0, vI y1] S Q := by
  refine Ev.isub dX11_fills_70 ?_
  refine Ev.istore_n (ls' := [some (vR 11 0), some (vI x1), some (vI x2), some (vI (y1 - y0)), some (vI x4)]) dX11_fills_71 rfl (by decide) rfl ?_
  refine Ev.goto (tgt := 27) dX11_fills_72 (by decide) ?_
  exact kn
theorem bkX11_fills_75 {d : Nat} {S : hs_T} {Q : Option av_T → hs_T → Prop} {x1 x2 x3 x4 : Int32} (hq : Q (some (vI (x4 - x2))) S) : Ev d mX11_fills 75 [some (vR 11 0), some (vI x1), some (vI x2), some (vI x3), some (vI x4)] [] S Q := by
  refine Ev.iload dX11_fills_75 rfl ?_
  refine Ev.iload_n dX11_fills_77 rfl rfl ?_
  refine Ev.isub dX11_fills_78 ?_
  exact Ev.iret dX11_fills_79 rfl rfl hq
/-! EightWiresModel.timesOf(I)I -/
theorem bkX11_timesOf_0 {d : Nat} {S : hs_T} {Q : Option av_T → hs_T → Prop} {x1 : Int32} {o2 o3 : Option av_T} (kn : Ev d mX11_timesOf 4 [some (vR 11 0), some (vI x1), some (vI 0), some (vI 0)] [] S Q) : Ev d mX11_timesOf 0 [some (vR 11 0), some (vI x1), o2, o3] [] S Q := by
  refine Ev.iconst (v := 0) dX11_timesOf_0 (by decide) ?_
  refine Ev.istore_n (ls' := [some (vR 11 0), some (vI x1), some (vI 0), o3]) dX11_timesOf_1 rfl (by decide) rfl ?_
  refine Ev.iconst (v := 0) dX11_timesOf_2 (by decide) ?_
  refine Ev.istore_n (ls' := [some (vR 11 0), some (vI x1), some (vI 0), some (vI 0)]) dX11_timesOf_3 rfl (by decide) rfl ?_
  exact kn
theorem bkX11_timesOf_4 {d : Nat} {S : hs_T} {Q : Option av_T → hs_T → Prop} {x1 x2 x3 : Int32} (kt : (S.1 11 0 3) ≤ x3 → Ev d mX11_timesOf 39 [some (vR 11 0), some (vI x1), some (vI x2), some (vI x3)] [] S Q) (kf : ¬ (S.1 11 0 3) ≤ x3 → Ev d mX11_timesOf 12 [some (vR 11 0), some (vI x1), some (vI x2), some (vI x3)] [] S Q) : Ev d mX11_timesOf 4 [some (vR 11 0), some (vI x1), some (vI x2), some (vI x3)] [] S Q := by
  refine Ev.iload_n dX11_timesOf_4 rfl rfl ?_
  refine Ev.aload_n dX11_timesOf_5 rfl rfl ?_
  refine Ev.get (v := vI (S.1 11 0 3)) okX11 (by decide) fl_X11_144 pz_11_0 (ff_11_3 _ _) dX11_timesOf_6 ?_
  exact Ev.icmp_ge (tgt := 39) dX11_timesOf_9 (by decide) kt kf
theorem bkX11_timesOf_12 {d : Nat} {S : hs_T} {Q : Option av_T → hs_T → Prop} {x1 x2 x3 : Int32} (hi18 : vp_in x3 400) (kt : ¬ (S.1 1202 0 x3.toNatClampNeg) = x1 → Ev d mX11_timesOf 27 [some (vR 11 0), some (vI x1), some (vI x2), some (vI x3)] [vI x2] S Q) (kf : (S.1 1202 0 x3.toNatClampNeg) = x1 → Ev d mX11_timesOf 23 [some (vR 11 0), some (vI x1), some (vI x2), some (vI x3)] [vI x2] S Q) : Ev d mX11_timesOf 12 [some (vR 11 0), some (vI x1), some (vI x2), some (vI x3)] [] S Q := by
  refine Ev.iload_n dX11_timesOf_12 rfl rfl ?_
  refine Ev.aload_n dX11_timesOf_13 rfl rfl ?_
  refine Ev.get (v := vR 1202 0) okX11 (by decide) fl_X11_16 pz_11_0 (ff_11_2 _ _) dX11_timesOf_14 ?_
  refine Ev.iload_n dX11_timesOf_17 rfl rfl ?_
  refine Ev.ialoadA (a := x3.toNatClampNeg) pz_1202_0 (by decide) ak_1202 hi18 rfl dX11_timesOf_18 ?_
  refine Ev.iload_n dX11_timesOf_19 rfl rfl ?_
  exact Ev.icmp_ne (tgt := 27) dX11_timesOf_20 (by decide) kt kf
theorem bkX11_timesOf_23 {d : Nat} {S : hs_T} {Q : Option av_T → hs_T → Prop} {x1 x2 x3 y0 : Int32} (kn : Ev d mX11_timesOf 28 [some (vR 11 0), some (vI x1), some (vI x2), some (vI x3)] [vI 1, vI y0] S Q) : Ev d mX11_timesOf 23 [some (vR 11 0), some (vI x1), some (vI x2), some (vI x3)] [vI y0] S Q := by
  refine Ev.iconst (v := 1) dX11_timesOf_23 (by decide) ?_
  refine Ev.goto (tgt := 28) dX11_timesOf_24 (by decide) ?_
  exact kn
theorem bkX11_timesOf_27 {d : Nat} {S : hs_T} {Q : Option av_T → hs_T → Prop} {x1 x2 x3 y0 : Int32} (kn : Ev d mX11_timesOf 28 [some (vR 11 0), some (vI x1), some (vI x2), some (vI x3)] [vI 0, vI y0] S Q) : Ev d mX11_timesOf 27 [some (vR 11 0), some (vI x1), some (vI x2), some (vI x3)] [vI y0] S Q := by
  refine Ev.iconst (v := 0) dX11_timesOf_27 (by decide) ?_
  exact kn
theorem bkX11_timesOf_28 {d : Nat} {S : hs_T} {Q : Option av_T → hs_T → Prop} {P : Int32 → hs_T → Prop} {x1 x2 x3 y0 y1 : Int32} (hC : Ci d mX11_flag [vI y0] S P) (kk : ∀ v S', P v S' → Ev (d + 1) mX11_timesOf 31 [some (vR 11 0), some (vI x1), some (vI x2), some (vI x3)] [vI v, vI y1] S' Q) : Ev (d + 1) mX11_timesOf 28 [some (vR 11 0), some (vI x1), some (vI x2), some (vI x3)] [vI y0, vI y1] S Q := by
  exact Ev.callS (as := [vI y0]) (rest := [vI y1]) okX11_flag stX11_flag ml_X11_213 rfl (Nat.le_of_ble_eq_true rfl) rfl dX11_timesOf_28 hC (fun r S' h => by obtain ⟨v, rfl, h⟩ := h; exact kk v S' h)
theorem bkX11_timesOf_31 {d : Nat} {S : hs_T} {Q : Option av_T → hs_T → Prop} {x1 x2 x3 y0 y1 : Int32} (kn : Ev d mX11_timesOf 4 [some (vR 11 0), some (vI x1), some (vI (y1 + y0)), some (vI (x3 + 1))] [] S Q) : Ev d mX11_timesOf 31 [some (vR 11 0), some (vI x1), some (vI x2), some (vI x3)] [vI y0, vI y1] S Q := by
  refine Ev.iadd dX11_timesOf_31 ?_
  refine Ev.istore_n (ls' := [some (vR 11 0), some (vI x1), some (vI (y1 + y0)), some (vI x3)]) dX11_timesOf_32 rfl (by decide) rfl ?_
  refine Ev.iinc (v := (x3 + 1)) (ls' := [some (vR 11 0), some (vI x1), some (vI (y1 + y0)), some (vI (x3 + 1))]) dX11_timesOf_33 rfl rfl (by decide) rfl ?_
  refine Ev.goto (tgt := 4) dX11_timesOf_36 (by decide) ?_
  exact kn
theorem bkX11_timesOf_39 {d : Nat} {S : hs_T} {Q : Option av_T → hs_T → Prop} {x1 x2 x3 : Int32} (hq : Q (some (vI x2)) S) : Ev d mX11_timesOf 39 [some (vR 11 0), some (vI x1), some (vI x2), some (vI x3)] [] S Q := by
  refine Ev.iload_n dX11_timesOf_39 rfl rfl ?_
  exact Ev.iret dX11_timesOf_40 rfl rfl hq
/-! EightWiresModel.isFresh(I)Z -/
theorem bkX11_isFresh_0 {d : Nat} {S : hs_T} {Q : Option av_T → hs_T → Prop} {x1 : Int32} {o2 o3 : Option av_T} (hi5 : vp_in x1 400) (hi13 : vp_in (x1 + 1) 400) (kt : (S.1 1202 0 x1.toNatClampNeg) = (S.1 1202 0 (x1 + 1).toNatClampNeg) → Ev d mX11_isFresh 21 [some (vR 11 0), some (vI x1), o2, o3] [] S Q) (kf : ¬ (S.1 1202 0 x1.toNatClampNeg) = (S.1 1202 0 (x1 + 1).toNatClampNeg) → Ev d mX11_isFresh 17 [some (vR 11 0), some (vI x1), o2, o3] [] S Q) : Ev d mX11_isFresh 0 [some (vR 11 0), some (vI x1), o2, o3] [] S Q := by
  refine Ev.aload_n dX11_isFresh_0 rfl rfl ?_
  refine Ev.get (v := vR 1202 0) okX11 (by decide) fl_X11_16 pz_11_0 (ff_11_2 _ _) dX11_isFresh_1 ?_
  refine Ev.iload_n dX11_isFresh_4 rfl rfl ?_
  refine Ev.ialoadA (a := x1.toNatClampNeg) pz_1202_0 (by decide) ak_1202 hi5 rfl dX11_isFresh_5 ?_
  refine Ev.aload_n dX11_isFresh_6 rfl rfl ?_
  refine Ev.get (v := vR 1202 0) okX11 (by decide) fl_X11_16 pz_11_0 (ff_11_2 _ _) dX11_isFresh_7 ?_
  refine Ev.iload_n dX11_isFresh_10 rfl rfl ?_
  refine Ev.iconst (v := 1) dX11_isFresh_11 (by decide) ?_
  refine Ev.iadd dX11_isFresh_12 ?_
  refine Ev.ialoadA (a := (x1 + 1).toNatClampNeg) pz_1202_0 (by decide) ak_1202 hi13 rfl dX11_isFresh_13 ?_
  exact Ev.icmp_eq (tgt := 21) dX11_isFresh_14 (by decide) kt kf
theorem bkX11_isFresh_17 {d : Nat} {S : hs_T} {Q : Option av_T → hs_T → Prop} {x1 : Int32} {o2 o3 : Option av_T} (kn : Ev d mX11_isFresh 22 [some (vR 11 0), some (vI x1), o2, o3] [vI 1] S Q) : Ev d mX11_isFresh 17 [some (vR 11 0), some (vI x1), o2, o3] [] S Q := by
  refine Ev.iconst (v := 1) dX11_isFresh_17 (by decide) ?_
  refine Ev.goto (tgt := 22) dX11_isFresh_18 (by decide) ?_
  exact kn
theorem bkX11_isFresh_21 {d : Nat} {S : hs_T} {Q : Option av_T → hs_T → Prop} {x1 : Int32} {o2 o3 : Option av_T} (kn : Ev d mX11_isFresh 22 [some (vR 11 0), some (vI x1), o2, o3] [vI 0] S Q) : Ev d mX11_isFresh 21 [some (vR 11 0), some (vI x1), o2, o3] [] S Q := by
  refine Ev.iconst (v := 0) dX11_isFresh_21 (by decide) ?_
  exact kn
theorem bkX11_isFresh_22 {d : Nat} {S : hs_T} {Q : Option av_T → hs_T → Prop} {x1 y0 : Int32} {o2 o3 : Option av_T} (kn : Ev d mX11_isFresh 25 [some (vR 11 0), some (vI x1), some (vI y0), some (vI 0)] [] S Q) : Ev d mX11_isFresh 22 [some (vR 11 0), some (vI x1), o2, o3] [vI y0] S Q := by
  refine Ev.istore_n (ls' := [some (vR 11 0), some (vI x1), some (vI y0), o3]) dX11_isFresh_22 rfl (by decide) rfl ?_
  refine Ev.iconst (v := 0) dX11_isFresh_23 (by decide) ?_
  refine Ev.istore_n (ls' := [some (vR 11 0), some (vI x1), some (vI y0), some (vI 0)]) dX11_isFresh_24 rfl (by decide) rfl ?_
  exact kn
theorem bkX11_isFresh_25 {d : Nat} {S : hs_T} {Q : Option av_T → hs_T → Prop} {x1 x2 x3 : Int32} (kt : x1 ≤ x3 → Ev d mX11_isFresh 80 [some (vR 11 0), some (vI x1), some (vI x2), some (vI x3)] [] S Q) (kf : ¬ x1 ≤ x3 → Ev d mX11_isFresh 30 [some (vR 11 0), some (vI x1), some (vI x2), some (vI x3)] [] S Q) : Ev d mX11_isFresh 25 [some (vR 11 0), some (vI x1), some (vI x2), some (vI x3)] [] S Q := by
  refine Ev.iload_n dX11_isFresh_25 rfl rfl ?_
  refine Ev.iload_n dX11_isFresh_26 rfl rfl ?_
  exact Ev.icmp_ge (tgt := 80) dX11_isFresh_27 (by decide) kt kf
theorem bkX11_isFresh_30 {d : Nat} {S : hs_T} {Q : Option av_T → hs_T → Prop} {x1 x2 x3 : Int32} (kt : x2 = 0 → Ev d mX11_isFresh 72 [some (vR 11 0), some (vI x1), some (vI x2), some (vI x3)] [] S Q) (kf : ¬ x2 = 0 → Ev d mX11_isFresh 34 [some (vR 11 0), some (vI x1), some (vI x2), some (vI x3)] [] S Q) : Ev d mX11_isFresh 30 [some (vR 11 0), some (vI x1), some (vI x2), some (vI x3)] [] S Q := by
  refine Ev.iload_n dX11_isFresh_30 rfl rfl ?_
  exact Ev.if_eq (tgt := 72) dX11_isFresh_31 (by decide) kt kf
theorem bkX11_isFresh_34 {d : Nat} {S : hs_T} {Q : Option av_T → hs_T → Prop} {x1 x2 x3 : Int32} (hi39 : vp_in x3 400) (hi45 : vp_in x1 400) (kt : ¬ (S.1 1202 0 x3.toNatClampNeg) = (S.1 1202 0 x1.toNatClampNeg) → Ev d mX11_isFresh 68 [some (vR 11 0), some (vI x1), some (vI x2), some (vI x3)] [] S Q) (kf : (S.1 1202 0 x3.toNatClampNeg) = (S.1 1202 0 x1.toNatClampNeg) → Ev d mX11_isFresh 49 [some (vR 11 0), some (vI x1), some (vI x2), some (vI x3)] [] S Q) : Ev d mX11_isFresh 34 [some (vR 11 0), some (vI x1), some (vI x2), some (vI x3)] [] S Q := by
  refine Ev.aload_n dX11_isFresh_34 rfl rfl ?_
  refine Ev.get (v := vR 1202 0) okX11 (by decide) fl_X11_16 pz_11_0 (ff_11_2 _ _) dX11_isFresh_35 ?_
  refine Ev.iload_n dX11_isFresh_38 rfl rfl ?_
  refine Ev.ialoadA (a := x3.toNatClampNeg) pz_1202_0 (by decide) ak_1202 hi39 rfl dX11_isFresh_39 ?_
  refine Ev.aload_n dX11_isFresh_40 rfl rfl ?_
  refine Ev.get (v := vR 1202 0) okX11 (by decide) fl_X11_16 pz_11_0 (ff_11_2 _ _) dX11_isFresh_41 ?_
  refine Ev.iload_n dX11_isFresh_44 rfl rfl ?_
  refine Ev.ialoadA (a := x1.toNatClampNeg) pz_1202_0 (by decide) ak_1202 hi45 rfl dX11_isFresh_45 ?_
  exact Ev.icmp_ne (tgt := 68) dX11_isFresh_46 (by decide) kt kf
theorem bkX11_isFresh_49 {d : Nat} {S : hs_T} {Q : Option av_T → hs_T → Prop} {x1 x2 x3 : Int32} (hi56 : vp_in (x3 + 1) 400) (hi64 : vp_in (x1 + 1) 400) (kt : (S.1 1202 0 (x3 + 1).toNatClampNeg) = (S.1 1202 0 (x1 + 1).toNatClampNeg) → Ev d mX11_isFresh 72 [some (vR 11 0), some (vI x1), some (vI x2), some (vI x3)] [] S Q) (kf : ¬ (S.1 1202 0 (x3 + 1).toNatClampNeg) = (S.1 1202 0 (x1 + 1).toNatClampNeg) → Ev d mX11_isFresh 68 [some (vR 11 0), some (vI x1), some (vI x2), some (vI x3)] [] S Q) : Ev d mX11_isFresh 49 [some (vR 11 0), some (vI x1), some (vI x2), some (vI x3)] [] S Q := by
  refine Ev.aload_n dX11_isFresh_49 rfl rfl ?_
  refine Ev.get (v := vR 1202 0) okX11 (by decide) fl_X11_16 pz_11_0 (ff_11_2 _ _) dX11_isFresh_50 ?_
  refine Ev.iload_n dX11_isFresh_53 rfl rfl ?_
  refine Ev.iconst (v := 1) dX11_isFresh_54 (by decide) ?_
  refine Ev.iadd dX11_isFresh_55 ?_
  refine Ev.ialoadA (a := (x3 + 1).toNatClampNeg) pz_1202_0 (by decide) ak_1202 hi56 rfl dX11_isFresh_56 ?_
  refine Ev.aload_n dX11_isFresh_57 rfl rfl ?_
  refine Ev.get (v := vR 1202 0) okX11 (by decide) fl_X11_16 pz_11_0 (ff_11_2 _ _) dX11_isFresh_58 ?_
  refine Ev.iload_n dX11_isFresh_61 rfl rfl ?_
  refine Ev.iconst (v := 1) dX11_isFresh_62 (by decide) ?_
  refine Ev.iadd dX11_isFresh_63 ?_
  refine Ev.ialoadA (a := (x1 + 1).toNatClampNeg) pz_1202_0 (by decide) ak_1202 hi64 rfl dX11_isFresh_64 ?_
  exact Ev.icmp_eq (tgt := 72) dX11_isFresh_65 (by decide) kt kf
theorem bkX11_isFresh_68 {d : Nat} {S : hs_T} {Q : Option av_T → hs_T → Prop} {x1 x2 x3 : Int32} (kn : Ev d mX11_isFresh 73 [some (vR 11 0), some (vI x1), some (vI x2), some (vI x3)] [vI 1] S Q) : Ev d mX11_isFresh 68 [some (vR 11 0), some (vI x1), some (vI x2), some (vI x3)] [] S Q := by
  refine Ev.iconst (v := 1) dX11_isFresh_68 (by decide) ?_
  refine Ev.goto (tgt := 73) dX11_isFresh_69 (by decide) ?_
  exact kn
theorem bkX11_isFresh_72 {d : Nat} {S : hs_T} {Q : Option av_T → hs_T → Prop} {x1 x2 x3 : Int32} (kn : Ev d mX11_isFresh 73 [some (vR 11 0), some (vI x1), some (vI x2), some (vI x3)] [vI 0] S Q) : Ev d mX11_isFresh 72 [some (vR 11 0), some (vI x1), some (vI x2), some (vI x3)] [] S Q := by
  refine Ev.iconst (v := 0) dX11_isFresh_72 (by decide) ?_
  exact kn
theorem bkX11_isFresh_73 {d : Nat} {S : hs_T} {Q : Option av_T → hs_T → Prop} {x1 x2 x3 y0 : Int32} (kn : Ev d mX11_isFresh 25 [some (vR 11 0), some (vI x1), some (vI y0), some (vI (x3 + 1))] [] S Q) : Ev d mX11_isFresh 73 [some (vR 11 0), some (vI x1), some (vI x2), some (vI x3)] [vI y0] S Q := by
  refine Ev.istore_n (ls' := [some (vR 11 0), some (vI x1), some (vI y0), some (vI x3)]) dX11_isFresh_73 rfl (by decide) rfl ?_
  refine Ev.iinc (v := (x3 + 1)) (ls' := [some (vR 11 0), some (vI x1), some (vI y0), some (vI (x3 + 1))]) dX11_isFresh_74 rfl rfl (by decide) rfl ?_
  refine Ev.goto (tgt := 25) dX11_isFresh_77 (by decide) ?_
  exact kn
theorem bkX11_isFresh_80 {d : Nat} {S : hs_T} {Q : Option av_T → hs_T → Prop} {x1 x2 x3 : Int32} (hn81 : narrow .boolean (.int x2) = .int x2) (hq : Q (some (vI x2)) S) : Ev d mX11_isFresh 80 [some (vR 11 0), some (vI x1), some (vI x2), some (vI x3)] [] S Q := by
  refine Ev.iload_n dX11_isFresh_80 rfl rfl ?_
  exact Ev.iret dX11_isFresh_81 rfl hn81 hq
/-! EightWiresModel.values(I)I -/
theorem bkX11_values_0 {d : Nat} {S : hs_T} {Q : Option av_T → hs_T → Prop} {P : Int32 → hs_T → Prop} {x1 : Int32} {o2 o3 o4 o5 o6 : Option av_T} (hC : Ci d mX11_in [vJ x1.toInt64, vJ 0, vJ 3] S P) (kk : ∀ v S', P v S' → Ev (d + 1) mX11_values 9 [some (vR 11 0), some (vI x1), o2, o3, o4, o5, o6] [vI v] S' Q) : Ev (d + 1) mX11_values 0 [some (vR 11 0), some (vI x1), o2, o3, o4, o5, o6] [] S Q := by
  refine Ev.iload_n dX11_values_0 rfl rfl ?_
  refine Ev.i2l dX11_values_1 ?_
  refine Ev.lconst (v := 0) dX11_values_2 (by decide) ?_
  refine Ev.ldc2 kl_X11_191 dX11_values_3 ?_
  exact Ev.callS (as := [vJ x1.toInt64, vJ 0, vJ 3]) (rest := []) okX11_in stX11_in ml_X11_58 rfl (Nat.le_of_ble_eq_true rfl) rfl dX11_values_6 hC (fun r S' h => by obtain ⟨v, rfl, h⟩ := h; exact kk v S' h)
theorem bkX11_values_9 {d : Nat} {S : hs_T} {Q : Option av_T → hs_T → Prop} {x1 y0 : Int32} {o2 o3 o4 o5 o6 : Option av_T} (kt : ¬ y0 = 0 → Ev d mX11_values 14 [some (vR 11 0), some (vI x1), o2, o3, o4, o5, o6] [] S Q) (kf : y0 = 0 → Ev d mX11_values 12 [some (vR 11 0), some (vI x1), o2, o3, o4, o5, o6] [] S Q) : Ev d mX11_values 9 [some (vR 11 0), some (vI x1), o2, o3, o4, o5, o6] [vI y0] S Q := by
  exact Ev.if_ne (tgt := 14) dX11_values_9 (by decide) kt kf
theorem bkX11_values_12 {d : Nat} {S : hs_T} {Q : Option av_T → hs_T → Prop} {x1 : Int32} {o2 o3 o4 o5 o6 : Option av_T} (hq : Q (some (vI (-1))) S) : Ev d mX11_values 12 [some (vR 11 0), some (vI x1), o2, o3, o4, o5, o6] [] S Q := by
  refine Ev.iconst (v := (-1)) dX11_values_12 (by decide) ?_
  exact Ev.iret dX11_values_13 rfl rfl hq
theorem bkX11_values_14 {d : Nat} {S : hs_T} {Q : Option av_T → hs_T → Prop} {x1 : Int32} {o2 o3 o4 o5 o6 : Option av_T} (kn : Ev d mX11_values 25 [some (vR 11 0), some (vI x1), some (vI 0), some (vI (-4)), some (vI 0), some (vI 0), o6] [] S Q) : Ev d mX11_values 14 [some (vR 11 0), some (vI x1), o2, o3, o4, o5, o6] [] S Q := by
  refine Ev.iconst (v := 0) dX11_values_14 (by decide) ?_
  refine Ev.istore_n (ls' := [some (vR 11 0), some (vI x1), some (vI 0), o3, o4, o5, o6]) dX11_values_15 rfl (by decide) rfl ?_
  refine Ev.bipush (v := (-4)) dX11_values_16 (by decide) ?_
  refine Ev.istore_n (ls' := [some (vR 11 0), some (vI x1), some (vI 0), some (vI (-4)), o4, o5, o6]) dX11_values_18 rfl (by decide) rfl ?_
  refine Ev.iconst (v := 0) dX11_values_19 (by decide) ?_
  refine Ev.istore (ls' := [some (vR 11 0), some (vI x1), some (vI 0), some (vI (-4)), some (vI 0), o5, o6]) dX11_values_20 (by decide) rfl ?_
  refine Ev.iconst (v := 0) dX11_values_22 (by decide) ?_
  refine Ev.istore (ls' := [some (vR 11 0), some (vI x1), some (vI 0), some (vI (-4)), some (vI 0), some (vI 0), o6]) dX11_values_23 (by decide) rfl ?_
  exact kn
theorem bkX11_values_25 {d : Nat} {S : hs_T} {Q : Option av_T → hs_T → Prop} {x1 x2 x3 x4 x5 : Int32} {o6 : Option av_T} (kt : 256 ≤ x5 → Ev d mX11_values 93 [some (vR 11 0), some (vI x1), some (vI x2), some (vI x3), some (vI x4), some (vI x5), o6] [] S Q) (kf : ¬ 256 ≤ x5 → Ev d mX11_values 33 [some (vR 11 0), some (vI x1), some (vI x2), some (vI x3), some (vI x4), some (vI x5), o6] [] S Q) : Ev d mX11_values 25 [some (vR 11 0), some (vI x1), some (vI x2), some (vI x3), some (vI x4), some (vI x5), o6] [] S Q := by
  refine Ev.iload dX11_values_25 rfl ?_
  refine Ev.sipush (v := 256) dX11_values_27 (by decide) ?_
  exact Ev.icmp_ge (tgt := 93) dX11_values_30 (by decide) kt kf
theorem bkX11_values_33 {d : Nat} {S : hs_T} {Q : Option av_T → hs_T → Prop} {P : Int32 → hs_T → Prop} {x1 x2 x3 x4 x5 : Int32} {o6 : Option av_T} (hC : Ci d mX11_timesOf [vR 11 0, vI x5] S P) (kk : ∀ v S', P v S' → Ev (d + 1) mX11_values 39 [some (vR 11 0), some (vI x1), some (vI x2), some (vI x3), some (vI x4), some (vI x5), o6] [vI v] S' Q) : Ev (d + 1) mX11_values 33 [some (vR 11 0), some (vI x1), some (vI x2), some (vI x3), some (vI x4), some (vI x5), o6] [] S Q := by
  refine Ev.aload_n dX11_values_33 rfl rfl ?_
  refine Ev.iload dX11_values_34 rfl ?_
  exact Ev.callV (as := [vI x5]) (rest := []) okX11_timesOf in_X11_timesOf ml_X11_286 rfl (Nat.le_of_ble_eq_true rfl) pz_11_0 (by decide) rfl rfl dX11_values_36 hC (fun r S' h => by obtain ⟨v, rfl, h⟩ := h; exact kk v S' h)
theorem bkX11_values_39 {d : Nat} {S : hs_T} {Q : Option av_T → hs_T → Prop} {x1 x2 x3 x4 x5 y0 : Int32} {o6 : Option av_T} (kt : y0 ≤ 0 → Ev d mX11_values 51 [some (vR 11 0), some (vI x1), some (vI x2), some (vI x3), some (vI x4), some (vI x5), some (vI y0)] [vI x2] S Q) (kf : ¬ y0 ≤ 0 → Ev d mX11_values 47 [some (vR 11 0), some (vI x1), some (vI x2), some (vI x3), some (vI x4), some (vI x5), some (vI y0)] [vI x2] S Q) : Ev d mX11_values 39 [some (vR 11 0), some (vI x1), some (vI x2), some (vI x3), some (vI x4), some (vI x5), o6] [vI y0] S Q := by
  refine Ev.istore (ls' := [some (vR 11 0), some (vI x1), some (vI x2), some (vI x3), some (vI x4), some (vI x5), some (vI y0)]) dX11_values_39 (by decide) rfl ?_
  refine Ev.iload_n dX11_values_41 rfl rfl ?_
  refine Ev.iload dX11_values_42 rfl ?_
  exact Ev.if_le (tgt := 51) dX11_values_44 (by decide) kt kf
theorem bkX11_values_47 {d : Nat} {S : hs_T} {Q : Option av_T → hs_T → Prop} {x1 x2 x3 x4 x5 x6 y0 : Int32} (kn : Ev d mX11_values 52 [some (vR 11 0), some (vI x1), some (vI x2), some (vI x3), some (vI x4), some (vI x5), some (vI x6)] [vI 1, vI y0] S Q) : Ev d mX11_values 47 [some (vR 11 0), some (vI x1), some (vI x2), some (vI x3), some (vI x4), some (vI x5), some (vI x6)] [vI y0] S Q := by
  refine Ev.iconst (v := 1) dX11_values_47 (by decide) ?_
  refine Ev.goto (tgt := 52) dX11_values_48 (by decide) ?_
  exact kn
theorem bkX11_values_51 {d : Nat} {S : hs_T} {Q : Option av_T → hs_T → Prop} {x1 x2 x3 x4 x5 x6 y0 : Int32} (kn : Ev d mX11_values 52 [some (vR 11 0), some (vI x1), some (vI x2), some (vI x3), some (vI x4), some (vI x5), some (vI x6)] [vI 0, vI y0] S Q) : Ev d mX11_values 51 [some (vR 11 0), some (vI x1), some (vI x2), some (vI x3), some (vI x4), some (vI x5), some (vI x6)] [vI y0] S Q := by
  refine Ev.iconst (v := 0) dX11_values_51 (by decide) ?_
  exact kn
theorem bkX11_values_52 {d : Nat} {S : hs_T} {Q : Option av_T → hs_T → Prop} {P : Int32 → hs_T → Prop} {x1 x2 x3 x4 x5 x6 y0 y1 : Int32} (hC : Ci d mX11_flag [vI y0] S P) (kk : ∀ v S', P v S' → Ev (d + 1) mX11_values 55 [some (vR 11 0), some (vI x1), some (vI x2), some (vI x3), some (vI x4), some (vI x5), some (vI x6)] [vI v, vI y1] S' Q) : Ev (d + 1) mX11_values 52 [some (vR 11 0), some (vI x1), some (vI x2), some (vI x3), some (vI x4), some (vI x5), some (vI x6)] [vI y0, vI y1] S Q := by
  exact Ev.callS (as := [vI y0]) (rest := [vI y1]) okX11_flag stX11_flag ml_X11_213 rfl (Nat.le_of_ble_eq_true rfl) rfl dX11_values_52 hC (fun r S' h => by obtain ⟨v, rfl, h⟩ := h; exact kk v S' h)
theorem bkX11_values_55 {d : Nat} {S : hs_T} {Q : Option av_T → hs_T → Prop} {x1 x2 x3 x4 x5 x6 y0 y1 : Int32} (kt : x6 ≤ x4 → Ev d mX11_values 69 [some (vR 11 0), some (vI x1), some (vI (y1 + y0)), some (vI x3), some (vI x4), some (vI x5), some (vI x6)] [] S Q) (kf : ¬ x6 ≤ x4 → Ev d mX11_values 64 [some (vR 11 0), some (vI x1), some (vI (y1 + y0)), some (vI x3), some (vI x4), some (vI x5), some (vI x6)] [] S Q) : Ev d mX11_values 55 [some (vR 11 0), some (vI x1), some (vI x2), some (vI x3), some (vI x4), some (vI x5), some (vI x6)] [vI y0, vI y1] S Q := by
  refine Ev.iadd dX11_values_55 ?_
  refine Ev.istore_n (ls' := [some (vR 11 0), some (vI x1), some (vI (y1 + y0)), some (vI x3), some (vI x4), some (vI x5), some (vI x6)]) dX11_values_56 rfl (by decide) rfl ?_
  refine Ev.iload dX11_values_57 rfl ?_
  refine Ev.iload dX11_values_59 rfl ?_
  exact Ev.icmp_le (tgt := 69) dX11_values_61 (by decide) kt kf
theorem bkX11_values_64 {d : Nat} {S : hs_T} {Q : Option av_T → hs_T → Prop} {x1 x2 x3 x4 x5 x6 : Int32} (kn : Ev d mX11_values 70 [some (vR 11 0), some (vI x1), some (vI x2), some (vI x3), some (vI x4), some (vI x5), some (vI x6)] [vI x5] S Q) : Ev d mX11_values 64 [some (vR 11 0), some (vI x1), some (vI x2), some (vI x3), some (vI x4), some (vI x5), some (vI x6)] [] S Q := by
  refine Ev.iload dX11_values_64 rfl ?_
  refine Ev.goto (tgt := 70) dX11_values_66 (by decide) ?_
  exact kn
theorem bkX11_values_69 {d : Nat} {S : hs_T} {Q : Option av_T → hs_T → Prop} {x1 x2 x3 x4 x5 x6 : Int32} (kn : Ev d mX11_values 70 [some (vR 11 0), some (vI x1), some (vI x2), some (vI x3), some (vI x4), some (vI x5), some (vI x6)] [vI x3] S Q) : Ev d mX11_values 69 [some (vR 11 0), some (vI x1), some (vI x2), some (vI x3), some (vI x4), some (vI x5), some (vI x6)] [] S Q := by
  refine Ev.iload_n dX11_values_69 rfl rfl ?_
  exact kn
theorem bkX11_values_70 {d : Nat} {S : hs_T} {Q : Option av_T → hs_T → Prop} {x1 x2 x3 x4 x5 x6 y0 : Int32} (kt : x6 ≤ x4 → Ev d mX11_values 83 [some (vR 11 0), some (vI x1), some (vI x2), some (vI y0), some (vI x4), some (vI x5), some (vI x6)] [] S Q) (kf : ¬ x6 ≤ x4 → Ev d mX11_values 78 [some (vR 11 0), some (vI x1), some (vI x2), some (vI y0), some (vI x4), some (vI x5), some (vI x6)] [] S Q) : Ev d mX11_values 70 [some (vR 11 0), some (vI x1), some (vI x2), some (vI x3), some (vI x4), some (vI x5), some (vI x6)] [vI y0] S Q := by
  refine Ev.istore_n (ls' := [some (vR 11 0), some (vI x1), some (vI x2), some (vI y0), some (vI x4), some (vI x5), some (vI x6)]) dX11_values_70 rfl (by decide) rfl ?_
  refine Ev.iload dX11_values_71 rfl ?_
  refine Ev.iload dX11_values_73 rfl ?_
  exact Ev.icmp_le (tgt := 83) dX11_values_75 (by decide) kt kf
theorem bkX11_values_78 {d : Nat} {S : hs_T} {Q : Option av_T → hs_T → Prop} {x1 x2 x3 x4 x5 x6 : Int32} (kn : Ev d mX11_values 85 [some (vR 11 0), some (vI x1), some (vI x2), some (vI x3), some (vI x4), some (vI x5), some (vI x6)] [vI x6] S Q) : Ev d mX11_values 78 [some (vR 11 0), some (vI x1), some (vI x2), some (vI x3), some (vI x4), some (vI x5), some (vI x6)] [] S Q := by
  refine Ev.iload dX11_values_78 rfl ?_
  refine Ev.goto (tgt := 85) dX11_values_80 (by decide) ?_
  exact kn
theorem bkX11_values_83 {d : Nat} {S : hs_T} {Q : Option av_T → hs_T → Prop} {x1 x2 x3 x4 x5 x6 : Int32} (kn : Ev d mX11_values 85 [some (vR 11 0), some (vI x1), some (vI x2), some (vI x3), some (vI x4), some (vI x5), some (vI x6)] [vI x4] S Q) : Ev d mX11_values 83 [some (vR 11 0), some (vI x1), some (vI x2), some (vI x3), some (vI x4), some (vI x5), some (vI x6)] [] S Q := by
  refine Ev.iload dX11_values_83 rfl ?_
  exact kn
theorem bkX11_values_85 {d : Nat} {S : hs_T} {Q : Option av_T → hs_T → Prop} {x1 x2 x3 x4 x5 x6 y0 : Int32} (kn : Ev d mX11_values 25 [some (vR 11 0), some (vI x1), some (vI x2), some (vI x3), some (vI y0), some (vI (x5 + 1)), some (vI x6)] [] S Q) : Ev d mX11_values 85 [some (vR 11 0), some (vI x1), some (vI x2), some (vI x3), some (vI x4), some (vI x5), some (vI x6)] [vI y0] S Q := by
  refine Ev.istore (ls' := [some (vR 11 0), some (vI x1), some (vI x2), some (vI x3), some (vI y0), some (vI x5), some (vI x6)]) dX11_values_85 (by decide) rfl ?_
  refine Ev.iinc (v := (x5 + 1)) (ls' := [some (vR 11 0), some (vI x1), some (vI x2), some (vI x3), some (vI y0), some (vI (x5 + 1)), some (vI x6)]) dX11_values_87 rfl rfl (by decide) rfl ?_
  refine Ev.goto (tgt := 25) dX11_values_90 (by decide) ?_
  exact kn
theorem bkX11_values_93 {d : Nat} {S : hs_T} {Q : Option av_T → hs_T → Prop} {x1 x2 x3 x4 x5 : Int32} {o6 : Option av_T} (kn : Ev d mX11_values 99 [some (vR 11 0), some (vI x1), some (vI x2), some (vI x3), some (vI x4), some (vI 0), some (vI 0)] [] S Q) : Ev d mX11_values 93 [some (vR 11 0), some (vI x1), some (vI x2), some (vI x3), some (vI x4), some (vI x5), o6] [] S Q := by
  refine Ev.iconst (v := 0) dX11_values_93 (by decide) ?_
  refine Ev.istore (ls' := [some (vR 11 0), some (vI x1), some (vI x2), some (vI x3), some (vI x4), some (vI 0), o6]) dX11_values_94 (by decide) rfl ?_
  refine Ev.iconst (v := 0) dX11_values_96 (by decide) ?_
  refine Ev.istore (ls' := [some (vR 11 0), some (vI x1), some (vI x2), some (vI x3), some (vI x4), some (vI 0), some (vI 0)]) dX11_values_97 (by decide) rfl ?_
  exact kn
theorem bkX11_values_99 {d : Nat} {S : hs_T} {Q : Option av_T → hs_T → Prop} {x1 x2 x3 x4 x5 x6 : Int32} (kt : (S.1 11 0 3) ≤ (x6 + 1) → Ev d mX11_values 130 [some (vR 11 0), some (vI x1), some (vI x2), some (vI x3), some (vI x4), some (vI x5), some (vI x6)] [] S Q) (kf : ¬ (S.1 11 0 3) ≤ (x6 + 1) → Ev d mX11_values 110 [some (vR 11 0), some (vI x1), some (vI x2), some (vI x3), some (vI x4), some (vI x5), some (vI x6)] [] S Q) : Ev d mX11_values 99 [some (vR 11 0), some (vI x1), some (vI x2), some (vI x3), some (vI x4), some (vI x5), some (vI x6)] [] S Q := by
  refine Ev.iload dX11_values_99 rfl ?_
  refine Ev.iconst (v := 1) dX11_values_101 (by decide) ?_
  refine Ev.iadd dX11_values_102 ?_
  refine Ev.aload_n dX11_values_103 rfl rfl ?_
  refine Ev.get (v := vI (S.1 11 0 3)) okX11 (by decide) fl_X11_144 pz_11_0 (ff_11_3 _ _) dX11_values_104 ?_
  exact Ev.icmp_ge (tgt := 130) dX11_values_107 (by decide) kt kf
theorem bkX11_values_110 {d : Nat} {S : hs_T} {Q : Option av_T → hs_T → Prop} {P : Int32 → hs_T → Prop} {x1 x2 x3 x4 x5 x6 : Int32} (hC : Ci d mX11_isFresh [vR 11 0, vI x6] S P) (kk : ∀ v S', P v S' → Ev (d + 1) mX11_values 118 [some (vR 11 0), some (vI x1), some (vI x2), some (vI x3), some (vI x4), some (vI x5), some (vI x6)] [vI v, vI x5] S' Q) : Ev (d + 1) mX11_values 110 [some (vR 11 0), some (vI x1), some (vI x2), some (vI x3), some (vI x4), some (vI x5), some (vI x6)] [] S Q := by
  refine Ev.iload dX11_values_110 rfl ?_
  refine Ev.aload_n dX11_values_112 rfl rfl ?_
  refine Ev.iload dX11_values_113 rfl ?_
  exact Ev.callV (as := [vI x6]) (rest := [vI x5]) okX11_isFresh in_X11_isFresh ml_X11_289 rfl (Nat.le_of_ble_eq_true rfl) pz_11_0 (by decide) rfl rfl dX11_values_115 hC (fun r S' h => by obtain ⟨v, rfl, h⟩ := h; exact kk v S' h)
theorem bkX11_values_118 {d : Nat} {S : hs_T} {Q : Option av_T → hs_T → Prop} {P : Int32 → hs_T → Prop} {x1 x2 x3 x4 x5 x6 y0 y1 : Int32} (hC : Ci d mX11_flag [vI y0] S P) (kk : ∀ v S', P v S' → Ev (d + 1) mX11_values 121 [some (vR 11 0), some (vI x1), some (vI x2), some (vI x3), some (vI x4), some (vI x5), some (vI x6)] [vI v, vI y1] S' Q) : Ev (d + 1) mX11_values 118 [some (vR 11 0), some (vI x1), some (vI x2), some (vI x3), some (vI x4), some (vI x5), some (vI x6)] [vI y0, vI y1] S Q := by
  exact Ev.callS (as := [vI y0]) (rest := [vI y1]) okX11_flag stX11_flag ml_X11_213 rfl (Nat.le_of_ble_eq_true rfl) rfl dX11_values_118 hC (fun r S' h => by obtain ⟨v, rfl, h⟩ := h; exact kk v S' h)
theorem bkX11_values_121 {d : Nat} {S : hs_T} {Q : Option av_T → hs_T → Prop} {x1 x2 x3 x4 x5 x6 y0 y1 : Int32} (kn : Ev d mX11_values 99 [some (vR 11 0), some (vI x1), some (vI x2), some (vI x3), some (vI x4), some (vI (y1 + y0)), some (vI (x6 + 1))] [] S Q) : Ev d mX11_values 121 [some (vR 11 0), some (vI x1), some (vI x2), some (vI x3), some (vI x4), some (vI x5), some (vI x6)] [vI y0, vI y1] S Q := by
  refine Ev.iadd dX11_values_121 ?_
  refine Ev.istore (ls' := [some (vR 11 0), some (vI x1), some (vI x2), some (vI x3), some (vI x4), some (vI (y1 + y0)), some (vI x6)]) dX11_values_122 (by decide) rfl ?_
  refine Ev.iinc (v := (x6 + 1)) (ls' := [some (vR 11 0), some (vI x1), some (vI x2), some (vI x3), some (vI x4), some (vI (y1 + y0)), some (vI (x6 + 1))]) dX11_values_124 rfl rfl (by decide) rfl ?_
  refine Ev.goto (tgt := 99) dX11_values_127 (by decide) ?_
  exact kn
theorem bkX11_values_130 {d : Nat} {S : hs_T} {Q : Option av_T → hs_T → Prop} {x1 x2 x3 x4 x5 x6 : Int32} (kt : ¬ x1 = 0 → Ev d mX11_values 138 [some (vR 11 0), some (vI x1), some (vI x2), some (vI x3), some (vI x4), some (vI x5), some (vI x6)] [] S Q) (kf : x1 = 0 → Ev d mX11_values 134 [some (vR 11 0), some (vI x1), some (vI x2), some (vI x3), some (vI x4), some (vI x5), some (vI x6)] [] S Q) : Ev d mX11_values 130 [some (vR 11 0), some (vI x1), some (vI x2), some (vI x3), some (vI x4), some (vI x5), some (vI x6)] [] S Q := by
  refine Ev.iload_n dX11_values_130 rfl rfl ?_
  exact Ev.if_ne (tgt := 138) dX11_values_131 (by decide) kt kf
theorem bkX11_values_134 {d : Nat} {S : hs_T} {Q : Option av_T → hs_T → Prop} {x1 x2 x3 x4 x5 x6 : Int32} (kn : Ev d mX11_values 159 [some (vR 11 0), some (vI x1), some (vI x2), some (vI x3), some (vI x4), some (vI x5), some (vI x6)] [vI x2] S Q) : Ev d mX11_values 134 [some (vR 11 0), some (vI x1), some (vI x2), some (vI x3), some (vI x4), some (vI x5), some (vI x6)] [] S Q := by
  refine Ev.iload_n dX11_values_134 rfl rfl ?_
  refine Ev.goto (tgt := 159) dX11_values_135 (by decide) ?_
  exact kn
theorem bkX11_values_138 {d : Nat} {S : hs_T} {Q : Option av_T → hs_T → Prop} {x1 x2 x3 x4 x5 x6 : Int32} (kt : ¬ x1 = 1 → Ev d mX11_values 148 [some (vR 11 0), some (vI x1), some (vI x2), some (vI x3), some (vI x4), some (vI x5), some (vI x6)] [] S Q) (kf : x1 = 1 → Ev d mX11_values 143 [some (vR 11 0), some (vI x1), some (vI x2), some (vI x3), some (vI x4), some (vI x5), some (vI x6)] [] S Q) : Ev d mX11_values 138 [some (vR 11 0), some (vI x1), some (vI x2), some (vI x3), some (vI x4), some (vI x5), some (vI x6)] [] S Q := by
  refine Ev.iload_n dX11_values_138 rfl rfl ?_
  refine Ev.iconst (v := 1) dX11_values_139 (by decide) ?_
  exact Ev.icmp_ne (tgt := 148) dX11_values_140 (by decide) kt kf
theorem bkX11_values_143 {d : Nat} {S : hs_T} {Q : Option av_T → hs_T → Prop} {x1 x2 x3 x4 x5 x6 : Int32} (kn : Ev d mX11_values 159 [some (vR 11 0), some (vI x1), some (vI x2), some (vI x3), some (vI x4), some (vI x5), some (vI x6)] [vI x5] S Q) : Ev d mX11_values 143 [some (vR 11 0), some (vI x1), some (vI x2), some (vI x3), some (vI x4), some (vI x5), some (vI x6)] [] S Q := by
  refine Ev.iload dX11_values_143 rfl ?_
  refine Ev.goto (tgt := 159) dX11_values_145 (by decide) ?_
  exact kn
theorem bkX11_values_148 {d : Nat} {S : hs_T} {Q : Option av_T → hs_T → Prop} {x1 x2 x3 x4 x5 x6 : Int32} (kt : ¬ x1 = 2 → Ev d mX11_values 157 [some (vR 11 0), some (vI x1), some (vI x2), some (vI x3), some (vI x4), some (vI x5), some (vI x6)] [] S Q) (kf : x1 = 2 → Ev d mX11_values 153 [some (vR 11 0), some (vI x1), some (vI x2), some (vI x3), some (vI x4), some (vI x5), some (vI x6)] [] S Q) : Ev d mX11_values 148 [some (vR 11 0), some (vI x1), some (vI x2), some (vI x3), some (vI x4), some (vI x5), some (vI x6)] [] S Q := by
  refine Ev.iload_n dX11_values_148 rfl rfl ?_
  refine Ev.iconst (v := 2) dX11_values_149 (by decide) ?_
  exact Ev.icmp_ne (tgt := 157) dX11_values_150 (by decide) kt kf
theorem bkX11_values_153 {d : Nat} {S : hs_T} {Q : Option av_T → hs_T → Prop} {x1 x2 x3 x4 x5 x6 : Int32} (kn : Ev d mX11_values 159 [some (vR 11 0), some (vI x1), some (vI x2), some (vI x3), some (vI x4), some (vI x5), some (vI x6)] [vI x3] S Q) : Ev d mX11_values 153 [some (vR 11 0), some (vI x1), some (vI x2), some (vI x3), some (vI x4), some (vI x5), some (vI x6)] [] S Q := by
  refine Ev.iload_n dX11_values_153 rfl rfl ?_
  refine Ev.goto (tgt := 159) dX11_values_154 (by decide) ?_
  exact kn
theorem bkX11_values_157 {d : Nat} {S : hs_T} {Q : Option av_T → hs_T → Prop} {x1 x2 x3 x4 x5 x6 : Int32} (kn : Ev d mX11_values 159 [some (vR 11 0), some (vI x1), some (vI x2), some (vI x3), some (vI x4), some (vI x5), some (vI x6)] [vI x4] S Q) : Ev d mX11_values 157 [some (vR 11 0), some (vI x1), some (vI x2), some (vI x3), some (vI x4), some (vI x5), some (vI x6)] [] S Q := by
  refine Ev.iload dX11_values_157 rfl ?_
  exact kn
theorem bkX11_values_159 {d : Nat} {S : hs_T} {Q : Option av_T → hs_T → Prop} {x1 x2 x3 x4 x5 x6 y0 : Int32} (hq : Q (some (vI y0)) S) : Ev d mX11_values 159 [some (vR 11 0), some (vI x1), some (vI x2), some (vI x3), some (vI x4), some (vI x5), some (vI x6)] [vI y0] S Q := by
  exact Ev.iret dX11_values_159 rfl rfl hq
/-! EightWiresModel.keep(I)I -/
theorem bkX11_keep_0 {d : Nat} {S : hs_T} {Q : Option av_T → hs_T → Prop} {P : Int32 → hs_T → Prop} {x1 : Int32} {o2 o3 : Option av_T} (hC : Ci d mX11_in [vJ x1.toInt64, vJ 0, vJ 1] S P) (kk : ∀ v S', P v S' → Ev (d + 1) mX11_keep 7 [some (vR 11 0), some (vI x1), o2, o3] [vI v] S' Q) : Ev (d + 1) mX11_keep 0 [some (vR 11 0), some (vI x1), o2, o3] [] S Q := by
  refine Ev.iload_n dX11_keep_0 rfl rfl ?_
  refine Ev.i2l dX11_keep_1 ?_
  refine Ev.lconst (v := 0) dX11_keep_2 (by decide) ?_
  refine Ev.lconst (v := 1) dX11_keep_3 (by decide) ?_
  exact Ev.callS (as := [vJ x1.toInt64, vJ 0, vJ 1]) (rest := []) okX11_in stX11_in ml_X11_58 rfl (Nat.le_of_ble_eq_true rfl) rfl dX11_keep_4 hC (fun r S' h => by obtain ⟨v, rfl, h⟩ := h; exact kk v S' h)
theorem bkX11_keep_7 {d : Nat} {S : hs_T} {Q : Option av_T → hs_T → Prop} {x1 y0 : Int32} {o2 o3 : Option av_T} (kt : ¬ y0 = 0 → Ev d mX11_keep 12 [some (vR 11 0), some (vI x1), o2, o3] [] S Q) (kf : y0 = 0 → Ev d mX11_keep 10 [some (vR 11 0), some (vI x1), o2, o3] [] S Q) : Ev d mX11_keep 7 [some (vR 11 0), some (vI x1), o2, o3] [vI y0] S Q := by
  exact Ev.if_ne (tgt := 12) dX11_keep_7 (by decide) kt kf
theorem bkX11_keep_10 {d : Nat} {S : hs_T} {Q : Option av_T → hs_T → Prop} {x1 : Int32} {o2 o3 : Option av_T} (hq : Q (some (vI (-1))) S) : Ev d mX11_keep 10 [some (vR 11 0), some (vI x1), o2, o3] [] S Q := by
  refine Ev.iconst (v := (-1)) dX11_keep_10 (by decide) ?_
  exact Ev.iret dX11_keep_11 rfl rfl hq
theorem bkX11_keep_12 {d : Nat} {S : hs_T} {Q : Option av_T → hs_T → Prop} {x1 : Int32} {o2 o3 : Option av_T} (hi17 : vp_in x1 2) (kn : Ev d mX11_keep 31 [some (vR 11 0), some (vI x1), some (vI (S.1 1205 0 x1.toNatClampNeg)), some (vI 0)] [] (sk_ S 1205 0 (upd (S.1 1205 0) x1.toNatClampNeg (S.1 11 0 3))) Q) : Ev d mX11_keep 12 [some (vR 11 0), some (vI x1), o2, o3] [] S Q := by
  refine Ev.aload_n dX11_keep_12 rfl rfl ?_
  refine Ev.get (v := vR 1205 0) okX11 (by decide) fl_X11_22 pz_11_0 (ff_11_5 _ _) dX11_keep_13 ?_
  refine Ev.iload_n dX11_keep_16 rfl rfl ?_
  refine Ev.ialoadA (a := x1.toNatClampNeg) pz_1205_0 (by decide) ak_1205 hi17 rfl dX11_keep_17 ?_
  refine Ev.istore_n (ls' := [some (vR 11 0), some (vI x1), some (vI (S.1 1205 0 x1.toNatClampNeg)), o3]) dX11_keep_18 rfl (by decide) rfl ?_
  refine Ev.aload_n dX11_keep_19 rfl rfl ?_
  refine Ev.get (v := vR 1205 0) okX11 (by decide) fl_X11_22 pz_11_0 (ff_11_5 _ _) dX11_keep_20 ?_
  refine Ev.iload_n dX11_keep_23 rfl rfl ?_
  refine Ev.aload_n dX11_keep_24 rfl rfl ?_
  refine Ev.get (v := vI (S.1 11 0 3)) okX11 (by decide) fl_X11_144 pz_11_0 (ff_11_3 _ _) dX11_keep_25 ?_
  refine Ev.iastoreA (a := x1.toNatClampNeg) pz_1205_0 (by decide) ak_1205 hi17 rfl rfl dX11_keep_28 ?_
  refine Ev.iconst (v := 0) dX11_keep_29 (by decide) ?_
  refine Ev.istore_n (ls' := [some (vR 11 0), some (vI x1), some (vI (S.1 1205 0 x1.toNatClampNeg)), some (vI 0)]) dX11_keep_30 rfl (by decide) rfl ?_
  exact kn
theorem bkX11_keep_31 {d : Nat} {S : hs_T} {Q : Option av_T → hs_T → Prop} {x1 x2 x3 : Int32} (kt : (S.1 11 0 3) ≤ x3 → Ev d mX11_keep 63 [some (vR 11 0), some (vI x1), some (vI x2), some (vI x3)] [] S Q) (kf : ¬ (S.1 11 0 3) ≤ x3 → Ev d mX11_keep 39 [some (vR 11 0), some (vI x1), some (vI x2), some (vI x3)] [] S Q) : Ev d mX11_keep 31 [some (vR 11 0), some (vI x1), some (vI x2), some (vI x3)] [] S Q := by
  refine Ev.iload_n dX11_keep_31 rfl rfl ?_
  refine Ev.aload_n dX11_keep_32 rfl rfl ?_
  refine Ev.get (v := vI (S.1 11 0 3)) okX11 (by decide) fl_X11_144 pz_11_0 (ff_11_3 _ _) dX11_keep_33 ?_
  exact Ev.icmp_ge (tgt := 63) dX11_keep_36 (by decide) kt kf
theorem bkX11_keep_39 {d : Nat} {S : hs_T} {Q : Option av_T → hs_T → Prop} {x1 x2 x3 : Int32} (hi55 : vp_in x3 400) (hi56 : vp_in ((400 * x1) + x3) 800) (kn : Ev d mX11_keep 31 [some (vR 11 0), some (vI x1), some (vI x2), some (vI (x3 + 1))] [] (sk_ S 1204 0 (upd (S.1 1204 0) (((400 * x1) + x3).toNatClampNeg) (S.1 1202 0 x3.toNatClampNeg))) Q) : Ev d mX11_keep 39 [some (vR 11 0), some (vI x1), some (vI x2), some (vI x3)] [] S Q := by
  refine Ev.aload_n dX11_keep_39 rfl rfl ?_
  refine Ev.get (v := vR 1204 0) okX11 (by decide) fl_X11_19 pz_11_0 (ff_11_4 _ _) dX11_keep_40 ?_
  refine Ev.sipush (v := 400) dX11_keep_43 (by decide) ?_
  refine Ev.iload_n dX11_keep_46 rfl rfl ?_
  refine Ev.imul dX11_keep_47 ?_
  refine Ev.iload_n dX11_keep_48 rfl rfl ?_
  refine Ev.iadd dX11_keep_49 ?_
  refine Ev.aload_n dX11_keep_50 rfl rfl ?_
  refine Ev.get (v := vR 1202 0) okX11 (by decide) fl_X11_16 pz_11_0 (ff_11_2 _ _) dX11_keep_51 ?_
  refine Ev.iload_n dX11_keep_54 rfl rfl ?_
  refine Ev.ialoadA (a := x3.toNatClampNeg) pz_1202_0 (by decide) ak_1202 hi55 rfl dX11_keep_55 ?_
  refine Ev.iastoreA (a := ((400 * x1) + x3).toNatClampNeg) pz_1204_0 (by decide) ak_1204 hi56 rfl rfl dX11_keep_56 ?_
  refine Ev.iinc (v := (x3 + 1)) (ls' := [some (vR 11 0), some (vI x1), some (vI x2), some (vI (x3 + 1))]) dX11_keep_57 rfl rfl (by decide) rfl ?_
  refine Ev.goto (tgt := 31) dX11_keep_60 (by decide) ?_
  exact kn
theorem bkX11_keep_63 {d : Nat} {S : hs_T} {Q : Option av_T → hs_T → Prop} {x1 x2 x3 : Int32} (hq : Q (some (vI x2)) S) : Ev d mX11_keep 63 [some (vR 11 0), some (vI x1), some (vI x2), some (vI x3)] [] S Q := by
  refine Ev.iload_n dX11_keep_63 rfl rfl ?_
  exact Ev.iret dX11_keep_64 rfl rfl hq
/-! EightWiresModel.back(I)I -/
theorem bkX11_back_0 {d : Nat} {S : hs_T} {Q : Option av_T → hs_T → Prop} {P : Int32 → hs_T → Prop} {x1 : Int32} {o2 : Option av_T} (hC : Ci d mX11_in [vJ x1.toInt64, vJ 0, vJ 1] S P) (kk : ∀ v S', P v S' → Ev (d + 1) mX11_back 7 [some (vR 11 0), some (vI x1), o2] [vI v] S' Q) : Ev (d + 1) mX11_back 0 [some (vR 11 0), some (vI x1), o2] [] S Q := by
  refine Ev.iload_n dX11_back_0 rfl rfl ?_
  refine Ev.i2l dX11_back_1 ?_
  refine Ev.lconst (v := 0) dX11_back_2 (by decide) ?_
  refine Ev.lconst (v := 1) dX11_back_3 (by decide) ?_
  exact Ev.callS (as := [vJ x1.toInt64, vJ 0, vJ 1]) (rest := []) okX11_in stX11_in ml_X11_58 rfl (Nat.le_of_ble_eq_true rfl) rfl dX11_back_4 hC (fun r S' h => by obtain ⟨v, rfl, h⟩ := h; exact kk v S' h)
theorem bkX11_back_7 {d : Nat} {S : hs_T} {Q : Option av_T → hs_T → Prop} {x1 y0 : Int32} {o2 : Option av_T} (kt : ¬ y0 = 0 → Ev d mX11_back 12 [some (vR 11 0), some (vI x1), o2] [] S Q) (kf : y0 = 0 → Ev d mX11_back 10 [some (vR 11 0), some (vI x1), o2] [] S Q) : Ev d mX11_back 7 [some (vR 11 0), some (vI x1), o2] [vI y0] S Q := by
  exact Ev.if_ne (tgt := 12) dX11_back_7 (by decide) kt kf
theorem bkX11_back_10 {d : Nat} {S : hs_T} {Q : Option av_T → hs_T → Prop} {x1 : Int32} {o2 : Option av_T} (hq : Q (some (vI (-1))) S) : Ev d mX11_back 10 [some (vR 11 0), some (vI x1), o2] [] S Q := by
  refine Ev.iconst (v := (-1)) dX11_back_10 (by decide) ?_
  exact Ev.iret dX11_back_11 rfl rfl hq
theorem bkX11_back_12 {d : Nat} {S : hs_T} {Q : Option av_T → hs_T → Prop} {x1 : Int32} {o2 : Option av_T} (hi17 : vp_in x1 2) (kt : ¬ (S.1 1205 0 x1.toNatClampNeg) = (-4) → Ev d mX11_back 26 [some (vR 11 0), some (vI x1), o2] [] S Q) (kf : (S.1 1205 0 x1.toNatClampNeg) = (-4) → Ev d mX11_back 23 [some (vR 11 0), some (vI x1), o2] [] S Q) : Ev d mX11_back 12 [some (vR 11 0), some (vI x1), o2] [] S Q := by
  refine Ev.aload_n dX11_back_12 rfl rfl ?_
  refine Ev.get (v := vR 1205 0) okX11 (by decide) fl_X11_22 pz_11_0 (ff_11_5 _ _) dX11_back_13 ?_
  refine Ev.iload_n dX11_back_16 rfl rfl ?_
  refine Ev.ialoadA (a := x1.toNatClampNeg) pz_1205_0 (by decide) ak_1205 hi17 rfl dX11_back_17 ?_
  refine Ev.bipush (v := (-4)) dX11_back_18 (by decide) ?_
  exact Ev.icmp_ne (tgt := 26) dX11_back_20 (by decide) kt kf
theorem bkX11_back_23 {d : Nat} {S : hs_T} {Q : Option av_T → hs_T → Prop} {x1 : Int32} {o2 : Option av_T} (hq : Q (some (vI (-2))) S) : Ev d mX11_back 23 [some (vR 11 0), some (vI x1), o2] [] S Q := by
  refine Ev.bipush (v := (-2)) dX11_back_23 (by decide) ?_
  exact Ev.iret dX11_back_25 rfl rfl hq
theorem bkX11_back_26 {d : Nat} {S : hs_T} {Q : Option av_T → hs_T → Prop} {x1 : Int32} {o2 : Option av_T} (hi32 : vp_in x1 2) (kn : Ev d mX11_back 38 [some (vR 11 0), some (vI x1), some (vI 0)] [] (sk_ S 11 0 (upd (S.1 11 0) 3 (S.1 1205 0 x1.toNatClampNeg))) Q) : Ev d mX11_back 26 [some (vR 11 0), some (vI x1), o2] [] S Q := by
  refine Ev.aload_n dX11_back_26 rfl rfl ?_
  refine Ev.aload_n dX11_back_27 rfl rfl ?_
  refine Ev.get (v := vR 1205 0) okX11 (by decide) fl_X11_22 pz_11_0 (ff_11_5 _ _) dX11_back_28 ?_
  refine Ev.iload_n dX11_back_31 rfl rfl ?_
  refine Ev.ialoadA (a := x1.toNatClampNeg) pz_1205_0 (by decide) ak_1205 hi32 rfl dX11_back_32 ?_
  refine Ev.put okX11 (by decide) fl_X11_144 pz_11_0 (by decide) rfl rfl rfl rfl dX11_back_33 ?_
  refine Ev.iconst (v := 0) dX11_back_36 (by decide) ?_
  refine Ev.istore_n (ls' := [some (vR 11 0), some (vI x1), some (vI 0)]) dX11_back_37 rfl (by decide) rfl ?_
  exact kn
theorem bkX11_back_38 {d : Nat} {S : hs_T} {Q : Option av_T → hs_T → Prop} {x1 x2 : Int32} (kt : (S.1 11 0 3) ≤ x2 → Ev d mX11_back 70 [some (vR 11 0), some (vI x1), some (vI x2)] [] S Q) (kf : ¬ (S.1 11 0 3) ≤ x2 → Ev d mX11_back 46 [some (vR 11 0), some (vI x1), some (vI x2)] [] S Q) : Ev d mX11_back 38 [some (vR 11 0), some (vI x1), some (vI x2)] [] S Q := by
  refine Ev.iload_n dX11_back_38 rfl rfl ?_
  refine Ev.aload_n dX11_back_39 rfl rfl ?_
  refine Ev.get (v := vI (S.1 11 0 3)) okX11 (by decide) fl_X11_144 pz_11_0 (ff_11_3 _ _) dX11_back_40 ?_
  exact Ev.icmp_ge (tgt := 70) dX11_back_43 (by decide) kt kf
theorem bkX11_back_46 {d : Nat} {S : hs_T} {Q : Option av_T → hs_T → Prop} {x1 x2 : Int32} (hi62 : vp_in ((400 * x1) + x2) 800) (hi63 : vp_in x2 400) (kn : Ev d mX11_back 38 [some (vR 11 0), some (vI x1), some (vI (x2 + 1))] [] (sk_ S 1202 0 (upd (S.1 1202 0) x2.toNatClampNeg (S.1 1204 0 ((400 * x1) + x2).toNatClampNeg))) Q) : Ev d mX11_back 46 [some (vR 11 0), some (vI x1), some (vI x2)] [] S Q := by
  refine Ev.aload_n dX11_back_46 rfl rfl ?_
  refine Ev.get (v := vR 1202 0) okX11 (by decide) fl_X11_16 pz_11_0 (ff_11_2 _ _) dX11_back_47 ?_
  refine Ev.iload_n dX11_back_50 rfl rfl ?_
  refine Ev.aload_n dX11_back_51 rfl rfl ?_
  refine Ev.get (v := vR 1204 0) okX11 (by decide) fl_X11_19 pz_11_0 (ff_11_4 _ _) dX11_back_52 ?_
  refine Ev.sipush (v := 400) dX11_back_55 (by decide) ?_
  refine Ev.iload_n dX11_back_58 rfl rfl ?_
  refine Ev.imul dX11_back_59 ?_
  refine Ev.iload_n dX11_back_60 rfl rfl ?_
  refine Ev.iadd dX11_back_61 ?_
  refine Ev.ialoadA (a := ((400 * x1) + x2).toNatClampNeg) pz_1204_0 (by decide) ak_1204 hi62 rfl dX11_back_62 ?_
  refine Ev.iastoreA (a := x2.toNatClampNeg) pz_1202_0 (by decide) ak_1202 hi63 rfl rfl dX11_back_63 ?_
  refine Ev.iinc (v := (x2 + 1)) (ls' := [some (vR 11 0), some (vI x1), some (vI (x2 + 1))]) dX11_back_64 rfl rfl (by decide) rfl ?_
  refine Ev.goto (tgt := 38) dX11_back_67 (by decide) ?_
  exact kn
theorem bkX11_back_70 {d : Nat} {S : hs_T} {Q : Option av_T → hs_T → Prop} {x1 x2 : Int32} (hq : Q (some (vI (S.1 11 0 3))) S) : Ev d mX11_back 70 [some (vR 11 0), some (vI x1), some (vI x2)] [] S Q := by
  refine Ev.aload_n dX11_back_70 rfl rfl ?_
  refine Ev.get (v := vI (S.1 11 0 3)) okX11 (by decide) fl_X11_144 pz_11_0 (ff_11_3 _ _) dX11_back_71 ?_
  exact Ev.iret dX11_back_74 rfl rfl hq
/-! EightWiresModel.unlikeBy(II)I -/
theorem bkX11_unlikeBy_0 {d : Nat} {S : hs_T} {Q : Option av_T → hs_T → Prop} {x1 x2 : Int32} {o3 o4 o5 o6 o7 : Option av_T} (kn : Ev d mX11_unlikeBy 8 [some (vR 11 0), some (vI x1), some (vI x2), some (vI 0), some (vI 0), some (vI 0), o6, o7] [] S Q) : Ev d mX11_unlikeBy 0 [some (vR 11 0), some (vI x1), some (vI x2), o3, o4, o5, o6, o7] [] S Q := by
  refine Ev.iconst (v := 0) dX11_unlikeBy_0 (by decide) ?_
  refine Ev.istore_n (ls' := [some (vR 11 0), some (vI x1), some (vI x2), some (vI 0), o4, o5, o6, o7]) dX11_unlikeBy_1 rfl (by decide) rfl ?_
  refine Ev.iconst (v := 0) dX11_unlikeBy_2 (by decide) ?_
  refine Ev.istore (ls' := [some (vR 11 0), some (vI x1), some (vI x2), some (vI 0), some (vI 0), o5, o6, o7]) dX11_unlikeBy_3 (by decide) rfl ?_
  refine Ev.iconst (v := 0) dX11_unlikeBy_5 (by decide) ?_
  refine Ev.istore (ls' := [some (vR 11 0), some (vI x1), some (vI x2), some (vI 0), some (vI 0), some (vI 0), o6, o7]) dX11_unlikeBy_6 (by decide) rfl ?_
  exact kn
theorem bkX11_unlikeBy_8 {d : Nat} {S : hs_T} {Q : Option av_T → hs_T → Prop} {x1 x2 x3 x4 x5 : Int32} {o6 o7 : Option av_T} (kt : (S.1 11 0 3) ≤ x5 → Ev d mX11_unlikeBy 105 [some (vR 11 0), some (vI x1), some (vI x2), some (vI x3), some (vI x4), some (vI x5), o6, o7] [] S Q) (kf : ¬ (S.1 11 0 3) ≤ x5 → Ev d mX11_unlikeBy 17 [some (vR 11 0), some (vI x1), some (vI x2), some (vI x3), some (vI x4), some (vI x5), o6, o7] [] S Q) : Ev d mX11_unlikeBy 8 [some (vR 11 0), some (vI x1), some (vI x2), some (vI x3), some (vI x4), some (vI x5), o6, o7] [] S Q := by
  refine Ev.iload dX11_unlikeBy_8 rfl ?_
  refine Ev.aload_n dX11_unlikeBy_10 rfl rfl ?_
  refine Ev.get (v := vI (S.1 11 0 3)) okX11 (by decide) fl_X11_144 pz_11_0 (ff_11_3 _ _) dX11_unlikeBy_11 ?_
  exact Ev.icmp_ge (tgt := 105) dX11_unlikeBy_14 (by decide) kt kf
theorem bkX11_unlikeBy_17 {d : Nat} {S : hs_T} {Q : Option av_T → hs_T → Prop} {P : Int32 → hs_T → Prop} {x1 x2 x3 x4 x5 : Int32} {o6 o7 : Option av_T} (hi32 : vp_in x1 2) (hC : Ci d mX11_in [vJ ((x5 + x2).toInt64), vJ 0, vJ (((S.1 1205 0 x1.toNatClampNeg) - 1).toInt64)] S P) (kk : ∀ v S', P v S' → Ev (d + 1) mX11_unlikeBy 39 [some (vR 11 0), some (vI x1), some (vI x2), some (vI x3), some (vI x4), some (vI x5), some (vI (x5 + x2)), o7] [vI v] S' Q) : Ev (d + 1) mX11_unlikeBy 17 [some (vR 11 0), some (vI x1), some (vI x2), some (vI x3), some (vI x4), some (vI x5), o6, o7] [] S Q := by
  refine Ev.iload dX11_unlikeBy_17 rfl ?_
  refine Ev.iload_n dX11_unlikeBy_19 rfl rfl ?_
  refine Ev.iadd dX11_unlikeBy_20 ?_
  refine Ev.istore (ls' := [some (vR 11 0), some (vI x1), some (vI x2), some (vI x3), some (vI x4), some (vI x5), some (vI (x5 + x2)), o7]) dX11_unlikeBy_21 (by decide) rfl ?_
  refine Ev.iload dX11_unlikeBy_23 rfl ?_
  refine Ev.i2l dX11_unlikeBy_25 ?_
  refine Ev.lconst (v := 0) dX11_unlikeBy_26 (by decide) ?_
  refine Ev.aload_n dX11_unlikeBy_27 rfl rfl ?_
  refine Ev.get (v := vR 1205 0) okX11 (by decide) fl_X11_22 pz_11_0 (ff_11_5 _ _) dX11_unlikeBy_28 ?_
  refine Ev.iload_n dX11_unlikeBy_31 rfl rfl ?_
  refine Ev.ialoadA (a := x1.toNatClampNeg) pz_1205_0 (by decide) ak_1205 hi32 rfl dX11_unlikeBy_32 ?_
  refine Ev.iconst (v := 1) dX11_unlikeBy_33 (by decide) ?_
  refine Ev.isub dX11_unlikeBy_34 ?_
  refine Ev.i2l dX11_unlikeBy_35 ?_
  exact Ev.callS (as := [vJ ((x5 + x2).toInt64), vJ 0, vJ (((S.1 1205 0 x1.toNatClampNeg) - 1).toInt64)]) (rest := []) okX11_in stX11_in ml_X11_58 rfl (Nat.le_of_ble_eq_true rfl) rfl dX11_unlikeBy_36 hC (fun r S' h => by obtain ⟨v, rfl, h⟩ := h; exact kk v S' h)
theorem bkX11_unlikeBy_39 {d : Nat} {S : hs_T} {Q : Option av_T → hs_T → Prop} {P : Int32 → hs_T → Prop} {x1 x2 x3 x4 x5 x6 y0 : Int32} {o7 : Option av_T} (hC : Ci d mX11_flag [vI y0] S P) (kk : ∀ v S', P v S' → Ev (d + 1) mX11_unlikeBy 48 [some (vR 11 0), some (vI x1), some (vI x2), some (vI x3), some (vI x4), some (vI x5), some (vI x6), some (vI y0)] [vI v, vI x4] S' Q) : Ev (d + 1) mX11_unlikeBy 39 [some (vR 11 0), some (vI x1), some (vI x2), some (vI x3), some (vI x4), some (vI x5), some (vI x6), o7] [vI y0] S Q := by
  refine Ev.istore (ls' := [some (vR 11 0), some (vI x1), some (vI x2), some (vI x3), some (vI x4), some (vI x5), some (vI x6), some (vI y0)]) dX11_unlikeBy_39 (by decide) rfl ?_
  refine Ev.iload dX11_unlikeBy_41 rfl ?_
  refine Ev.iload dX11_unlikeBy_43 rfl ?_
  exact Ev.callS (as := [vI y0]) (rest := [vI x4]) okX11_flag stX11_flag ml_X11_213 rfl (Nat.le_of_ble_eq_true rfl) rfl dX11_unlikeBy_45 hC (fun r S' h => by obtain ⟨v, rfl, h⟩ := h; exact kk v S' h)
theorem bkX11_unlikeBy_48 {d : Nat} {S : hs_T} {Q : Option av_T → hs_T → Prop} {x1 x2 x3 x4 x5 x6 x7 y0 y1 : Int32} (kt : x7 = 0 → Ev d mX11_unlikeBy 93 [some (vR 11 0), some (vI x1), some (vI x2), some (vI x3), some (vI (y1 + y0)), some (vI x5), some (vI x6), some (vI x7)] [vI x3] S Q) (kf : ¬ x7 = 0 → Ev d mX11_unlikeBy 57 [some (vR 11 0), some (vI x1), some (vI x2), some (vI x3), some (vI (y1 + y0)), some (vI x5), some (vI x6), some (vI x7)] [vI x3] S Q) : Ev d mX11_unlikeBy 48 [some (vR 11 0), some (vI x1), some (vI x2), some (vI x3), some (vI x4), some (vI x5), some (vI x6), some (vI x7)] [vI y0, vI y1] S Q := by
  refine Ev.iadd dX11_unlikeBy_48 ?_
  refine Ev.istore (ls' := [some (vR 11 0), some (vI x1), some (vI x2), some (vI x3), some (vI (y1 + y0)), some (vI x5), some (vI x6), some (vI x7)]) dX11_unlikeBy_49 (by decide) rfl ?_
  refine Ev.iload_n dX11_unlikeBy_51 rfl rfl ?_
  refine Ev.iload dX11_unlikeBy_52 rfl ?_
  exact Ev.if_eq (tgt := 93) dX11_unlikeBy_54 (by decide) kt kf
theorem bkX11_unlikeBy_57 {d : Nat} {S : hs_T} {Q : Option av_T → hs_T → Prop} {x1 x2 x3 x4 x5 x6 x7 y0 : Int32} (hi63 : vp_in x5 400) (kt : x7 = 0 → Ev d mX11_unlikeBy 83 [some (vR 11 0), some (vI x1), some (vI x2), some (vI x3), some (vI x4), some (vI x5), some (vI x6), some (vI x7)] [vI (400 * x1), vR 1204 0, vI (S.1 1202 0 x5.toNatClampNeg), vI y0] S Q) (kf : ¬ x7 = 0 → Ev d mX11_unlikeBy 78 [some (vR 11 0), some (vI x1), some (vI x2), some (vI x3), some (vI x4), some (vI x5), some (vI x6), some (vI x7)] [vI (400 * x1), vR 1204 0, vI (S.1 1202 0 x5.toNatClampNeg), vI y0] S Q) : Ev d mX11_unlikeBy 57 [some (vR 11 0), some (vI x1), some (vI x2), some (vI x3), some (vI x4), some (vI x5), some (vI x6), some (vI x7)] [vI y0] S Q := by
  refine Ev.aload_n dX11_unlikeBy_57 rfl rfl ?_
  refine Ev.get (v := vR 1202 0) okX11 (by decide) fl_X11_16 pz_11_0 (ff_11_2 _ _) dX11_unlikeBy_58 ?_
  refine Ev.iload dX11_unlikeBy_61 rfl ?_
  refine Ev.ialoadA (a := x5.toNatClampNeg) pz_1202_0 (by decide) ak_1202 hi63 rfl dX11_unlikeBy_63 ?_
  refine Ev.aload_n dX11_unlikeBy_64 rfl rfl ?_
  refine Ev.get (v := vR 1204 0) okX11 (by decide) fl_X11_19 pz_11_0 (ff_11_4 _ _) dX11_unlikeBy_65 ?_
  refine Ev.sipush (v := 400) dX11_unlikeBy_68 (by decide) ?_
  refine Ev.iload_n dX11_unlikeBy_71 rfl rfl ?_
  refine Ev.imul dX11_unlikeBy_72 ?_
  refine Ev.iload dX11_unlikeBy_73 rfl ?_
  exact Ev.if_eq (tgt := 83) dX11_unlikeBy_75 (by decide) kt kf
theorem bkX11_unlikeBy_78 {d : Nat} {S : hs_T} {Q : Option av_T → hs_T → Prop} {x1 x2 x3 x4 x5 x6 x7 y0 y2 y3 : Int32} (kn : Ev d mX11_unlikeBy 84 [some (vR 11 0), some (vI x1), some (vI x2), some (vI x3), some (vI x4), some (vI x5), some (vI x6), some (vI x7)] [vI x6, vI y0, vR 1204 0, vI y2, vI y3] S Q) : Ev d mX11_unlikeBy 78 [some (vR 11 0), some (vI x1), some (vI x2), some (vI x3), some (vI x4), some (vI x5), some (vI x6), some (vI x7)] [vI y0, vR 1204 0, vI y2, vI y3] S Q := by
  refine Ev.iload dX11_unlikeBy_78 rfl ?_
  refine Ev.goto (tgt := 84) dX11_unlikeBy_80 (by decide) ?_
  exact kn
theorem bkX11_unlikeBy_83 {d : Nat} {S : hs_T} {Q : Option av_T → hs_T → Prop} {x1 x2 x3 x4 x5 x6 x7 y0 y2 y3 : Int32} (kn : Ev d mX11_unlikeBy 84 [some (vR 11 0), some (vI x1), some (vI x2), some (vI x3), some (vI x4), some (vI x5), some (vI x6), some (vI x7)] [vI 0, vI y0, vR 1204 0, vI y2, vI y3] S Q) : Ev d mX11_unlikeBy 83 [some (vR 11 0), some (vI x1), some (vI x2), some (vI x3), some (vI x4), some (vI x5), some (vI x6), some (vI x7)] [vI y0, vR 1204 0, vI y2, vI y3] S Q := by
  refine Ev.iconst (v := 0) dX11_unlikeBy_83 (by decide) ?_
  exact kn
theorem bkX11_unlikeBy_84 {d : Nat} {S : hs_T} {Q : Option av_T → hs_T → Prop} {x1 x2 x3 x4 x5 x6 x7 y0 y1 y3 y4 : Int32} (hi85 : vp_in (y1 + y0) 800) (kt : y3 = (S.1 1204 0 (y1 + y0).toNatClampNeg) → Ev d mX11_unlikeBy 93 [some (vR 11 0), some (vI x1), some (vI x2), some (vI x3), some (vI x4), some (vI x5), some (vI x6), some (vI x7)] [vI y4] S Q) (kf : ¬ y3 = (S.1 1204 0 (y1 + y0).toNatClampNeg) → Ev d mX11_unlikeBy 89 [some (vR 11 0), some (vI x1), some (vI x2), some (vI x3), some (vI x4), some (vI x5), some (vI x6), some (vI x7)] [vI y4] S Q) : Ev d mX11_unlikeBy 84 [some (vR 11 0), some (vI x1), some (vI x2), some (vI x3), some (vI x4), some (vI x5), some (vI x6), some (vI x7)] [vI y0, vI y1, vR 1204 0, vI y3, vI y4] S Q := by
  refine Ev.iadd dX11_unlikeBy_84 ?_
  refine Ev.ialoadA (a := (y1 + y0).toNatClampNeg) pz_1204_0 (by decide) ak_1204 hi85 rfl dX11_unlikeBy_85 ?_
  exact Ev.icmp_eq (tgt := 93) dX11_unlikeBy_86 (by decide) kt kf
theorem bkX11_unlikeBy_89 {d : Nat} {S : hs_T} {Q : Option av_T → hs_T → Prop} {x1 x2 x3 x4 x5 x6 x7 y0 : Int32} (kn : Ev d mX11_unlikeBy 94 [some (vR 11 0), some (vI x1), some (vI x2), some (vI x3), some (vI x4), some (vI x5), some (vI x6), some (vI x7)] [vI 1, vI y0] S Q) : Ev d mX11_unlikeBy 89 [some (vR 11 0), some (vI x1), some (vI x2), some (vI x3), some (vI x4), some (vI x5), some (vI x6), some (vI x7)] [vI y0] S Q := by
  refine Ev.iconst (v := 1) dX11_unlikeBy_89 (by decide) ?_
  refine Ev.goto (tgt := 94) dX11_unlikeBy_90 (by decide) ?_
  exact kn
theorem bkX11_unlikeBy_93 {d : Nat} {S : hs_T} {Q : Option av_T → hs_T → Prop} {x1 x2 x3 x4 x5 x6 x7 y0 : Int32} (kn : Ev d mX11_unlikeBy 94 [some (vR 11 0), some (vI x1), some (vI x2), some (vI x3), some (vI x4), some (vI x5), some (vI x6), some (vI x7)] [vI 0, vI y0] S Q) : Ev d mX11_unlikeBy 93 [some (vR 11 0), some (vI x1), some (vI x2), some (vI x3), some (vI x4), some (vI x5), some (vI x6), some (vI x7)] [vI y0] S Q := by
  refine Ev.iconst (v := 0) dX11_unlikeBy_93 (by decide) ?_
  exact kn
theorem bkX11_unlikeBy_94 {d : Nat} {S : hs_T} {Q : Option av_T → hs_T → Prop} {P : Int32 → hs_T → Prop} {x1 x2 x3 x4 x5 x6 x7 y0 y1 : Int32} (hC : Ci d mX11_flag [vI y0] S P) (kk : ∀ v S', P v S' → Ev (d + 1) mX11_unlikeBy 97 [some (vR 11 0), some (vI x1), some (vI x2), some (vI x3), some (vI x4), some (vI x5), some (vI x6), some (vI x7)] [vI v, vI y1] S' Q) : Ev (d + 1) mX11_unlikeBy 94 [some (vR 11 0), some (vI x1), some (vI x2), some (vI x3), some (vI x4), some (vI x5), some (vI x6), some (vI x7)] [vI y0, vI y1] S Q := by
  exact Ev.callS (as := [vI y0]) (rest := [vI y1]) okX11_flag stX11_flag ml_X11_213 rfl (Nat.le_of_ble_eq_true rfl) rfl dX11_unlikeBy_94 hC (fun r S' h => by obtain ⟨v, rfl, h⟩ := h; exact kk v S' h)
theorem bkX11_unlikeBy_97 {d : Nat} {S : hs_T} {Q : Option av_T → hs_T → Prop} {x1 x2 x3 x4 x5 x6 x7 y0 y1 : Int32} (kn : Ev d mX11_unlikeBy 8 [some (vR 11 0), some (vI x1), some (vI x2), some (vI (y1 + y0)), some (vI x4), some (vI (x5 + 1)), some (vI x6), some (vI x7)] [] S Q) : Ev d mX11_unlikeBy 97 [some (vR 11 0), some (vI x1), some (vI x2), some (vI x3), some (vI x4), some (vI x5), some (vI x6), some (vI x7)] [vI y0, vI y1] S Q := by
  refine Ev.iadd dX11_unlikeBy_97 ?_
  refine Ev.istore_n (ls' := [some (vR 11 0), some (vI x1), some (vI x2), some (vI (y1 + y0)), some (vI x4), some (vI x5), some (vI x6), some (vI x7)]) dX11_unlikeBy_98 rfl (by decide) rfl ?_
  refine Ev.iinc (v := (x5 + 1)) (ls' := [some (vR 11 0), some (vI x1), some (vI x2), some (vI (y1 + y0)), some (vI x4), some (vI (x5 + 1)), some (vI x6), some (vI x7)]) dX11_unlikeBy_99 rfl rfl (by decide) rfl ?_
  refine Ev.goto (tgt := 8) dX11_unlikeBy_102 (by decide) ?_
  exact kn
theorem bkX11_unlikeBy_105 {d : Nat} {S : hs_T} {Q : Option av_T → hs_T → Prop} {x1 x2 x3 x4 x5 : Int32} {o6 o7 : Option av_T} (hi119 : vp_in x1 2) (hq : Q (some (vI ((((x3 + (S.1 11 0 3)) - x4) + (S.1 1205 0 x1.toNatClampNeg)) - x4))) S) : Ev d mX11_unlikeBy 105 [some (vR 11 0), some (vI x1), some (vI x2), some (vI x3), some (vI x4), some (vI x5), o6, o7] [] S Q := by
  refine Ev.iload_n dX11_unlikeBy_105 rfl rfl ?_
  refine Ev.aload_n dX11_unlikeBy_106 rfl rfl ?_
  refine Ev.get (v := vI (S.1 11 0 3)) okX11 (by decide) fl_X11_144 pz_11_0 (ff_11_3 _ _) dX11_unlikeBy_107 ?_
  refine Ev.iadd dX11_unlikeBy_110 ?_
  refine Ev.iload dX11_unlikeBy_111 rfl ?_
  refine Ev.isub dX11_unlikeBy_113 ?_
  refine Ev.aload_n dX11_unlikeBy_114 rfl rfl ?_
  refine Ev.get (v := vR 1205 0) okX11 (by decide) fl_X11_22 pz_11_0 (ff_11_5 _ _) dX11_unlikeBy_115 ?_
  refine Ev.iload_n dX11_unlikeBy_118 rfl rfl ?_
  refine Ev.ialoadA (a := x1.toNatClampNeg) pz_1205_0 (by decide) ak_1205 hi119 rfl dX11_unlikeBy_119 ?_
  refine Ev.iadd dX11_unlikeBy_120 ?_
  refine Ev.iload dX11_unlikeBy_121 rfl ?_
  refine Ev.isub dX11_unlikeBy_123 ?_
  exact Ev.iret dX11_unlikeBy_124 rfl rfl hq
/-! EightWiresModel.unlike(II)I -/
theorem bkX11_unlike_0 {d : Nat} {S : hs_T} {Q : Option av_T → hs_T → Prop} {P : Int32 → hs_T → Prop} {x1 x2 : Int32} (hC : Ci d mX11_in [vJ x1.toInt64, vJ 0, vJ 1] S P) (kk : ∀ v S', P v S' → Ev (d + 1) mX11_unlike 7 [some (vR 11 0), some (vI x1), some (vI x2)] [vI v] S' Q) : Ev (d + 1) mX11_unlike 0 [some (vR 11 0), some (vI x1), some (vI x2)] [] S Q := by
  refine Ev.iload_n dX11_unlike_0 rfl rfl ?_
  refine Ev.i2l dX11_unlike_1 ?_
  refine Ev.lconst (v := 0) dX11_unlike_2 (by decide) ?_
  refine Ev.lconst (v := 1) dX11_unlike_3 (by decide) ?_
  exact Ev.callS (as := [vJ x1.toInt64, vJ 0, vJ 1]) (rest := []) okX11_in stX11_in ml_X11_58 rfl (Nat.le_of_ble_eq_true rfl) rfl dX11_unlike_4 hC (fun r S' h => by obtain ⟨v, rfl, h⟩ := h; exact kk v S' h)
theorem bkX11_unlike_7 {d : Nat} {S : hs_T} {Q : Option av_T → hs_T → Prop} {x1 x2 y0 : Int32} (kt : y0 = 0 → Ev d mX11_unlike 24 [some (vR 11 0), some (vI x1), some (vI x2)] [] S Q) (kf : ¬ y0 = 0 → Ev d mX11_unlike 10 [some (vR 11 0), some (vI x1), some (vI x2)] [] S Q) : Ev d mX11_unlike 7 [some (vR 11 0), some (vI x1), some (vI x2)] [vI y0] S Q := by
  exact Ev.if_eq (tgt := 24) dX11_unlike_7 (by decide) kt kf
theorem bkX11_unlike_10 {d : Nat} {S : hs_T} {Q : Option av_T → hs_T → Prop} {P : Int32 → hs_T → Prop} {x1 x2 : Int32} (hC : Ci d mX11_in [vJ x2.toInt64, vJ (-400), vJ 400] S P) (kk : ∀ v S', P v S' → Ev (d + 1) mX11_unlike 21 [some (vR 11 0), some (vI x1), some (vI x2)] [vI v] S' Q) : Ev (d + 1) mX11_unlike 10 [some (vR 11 0), some (vI x1), some (vI x2)] [] S Q := by
  refine Ev.iload_n dX11_unlike_10 rfl rfl ?_
  refine Ev.i2l dX11_unlike_11 ?_
  refine Ev.ldc2 kl_X11_292 dX11_unlike_12 ?_
  refine Ev.ldc2 kl_X11_147 dX11_unlike_15 ?_
  exact Ev.callS (as := [vJ x2.toInt64, vJ (-400), vJ 400]) (rest := []) okX11_in stX11_in ml_X11_58 rfl (Nat.le_of_ble_eq_true rfl) rfl dX11_unlike_18 hC (fun r S' h => by obtain ⟨v, rfl, h⟩ := h; exact kk v S' h)
theorem bkX11_unlike_21 {d : Nat} {S : hs_T} {Q : Option av_T → hs_T → Prop} {x1 x2 y0 : Int32} (kt : ¬ y0 = 0 → Ev d mX11_unlike 26 [some (vR 11 0), some (vI x1), some (vI x2)] [] S Q) (kf : y0 = 0 → Ev d mX11_unlike 24 [some (vR 11 0), some (vI x1), some (vI x2)] [] S Q) : Ev d mX11_unlike 21 [some (vR 11 0), some (vI x1), some (vI x2)] [vI y0] S Q := by
  exact Ev.if_ne (tgt := 26) dX11_unlike_21 (by decide) kt kf
theorem bkX11_unlike_24 {d : Nat} {S : hs_T} {Q : Option av_T → hs_T → Prop} {x1 x2 : Int32} (hq : Q (some (vI (-1))) S) : Ev d mX11_unlike 24 [some (vR 11 0), some (vI x1), some (vI x2)] [] S Q := by
  refine Ev.iconst (v := (-1)) dX11_unlike_24 (by decide) ?_
  exact Ev.iret dX11_unlike_25 rfl rfl hq
theorem bkX11_unlike_26 {d : Nat} {S : hs_T} {Q : Option av_T → hs_T → Prop} {x1 x2 : Int32} (hi31 : vp_in x1 2) (kt : ¬ (S.1 1205 0 x1.toNatClampNeg) = (-4) → Ev d mX11_unlike 42 [some (vR 11 0), some (vI x1), some (vI x2)] [] S Q) (kf : (S.1 1205 0 x1.toNatClampNeg) = (-4) → Ev d mX11_unlike 37 [some (vR 11 0), some (vI x1), some (vI x2)] [] S Q) : Ev d mX11_unlike 26 [some (vR 11 0), some (vI x1), some (vI x2)] [] S Q := by
  refine Ev.aload_n dX11_unlike_26 rfl rfl ?_
  refine Ev.get (v := vR 1205 0) okX11 (by decide) fl_X11_22 pz_11_0 (ff_11_5 _ _) dX11_unlike_27 ?_
  refine Ev.iload_n dX11_unlike_30 rfl rfl ?_
  refine Ev.ialoadA (a := x1.toNatClampNeg) pz_1205_0 (by decide) ak_1205 hi31 rfl dX11_unlike_31 ?_
  refine Ev.bipush (v := (-4)) dX11_unlike_32 (by decide) ?_
  exact Ev.icmp_ne (tgt := 42) dX11_unlike_34 (by decide) kt kf
theorem bkX11_unlike_37 {d : Nat} {S : hs_T} {Q : Option av_T → hs_T → Prop} {x1 x2 : Int32} (kn : Ev d mX11_unlike 48 [some (vR 11 0), some (vI x1), some (vI x2)] [vI (-2)] S Q) : Ev d mX11_unlike 37 [some (vR 11 0), some (vI x1), some (vI x2)] [] S Q := by
  refine Ev.bipush (v := (-2)) dX11_unlike_37 (by decide) ?_
  refine Ev.goto (tgt := 48) dX11_unlike_39 (by decide) ?_
  exact kn
theorem bkX11_unlike_42 {d : Nat} {S : hs_T} {Q : Option av_T → hs_T → Prop} {P : Int32 → hs_T → Prop} {x1 x2 : Int32} (hC : Ci d mX11_unlikeBy [vR 11 0, vI x1, vI x2] S P) (kk : ∀ v S', P v S' → Ev (d + 1) mX11_unlike 48 [some (vR 11 0), some (vI x1), some (vI x2)] [vI v] S' Q) : Ev (d + 1) mX11_unlike 42 [some (vR 11 0), some (vI x1), some (vI x2)] [] S Q := by
  refine Ev.aload_n dX11_unlike_42 rfl rfl ?_
  refine Ev.iload_n dX11_unlike_43 rfl rfl ?_
  refine Ev.iload_n dX11_unlike_44 rfl rfl ?_
  exact Ev.callV (as := [vI x1, vI x2]) (rest := []) okX11_unlikeBy in_X11_unlikeBy ml_X11_294 rfl (Nat.le_of_ble_eq_true rfl) pz_11_0 (by decide) rfl rfl dX11_unlike_45 hC (fun r S' h => by obtain ⟨v, rfl, h⟩ := h; exact kk v S' h)
theorem bkX11_unlike_48 {d : Nat} {S : hs_T} {Q : Option av_T → hs_T → Prop} {x1 x2 y0 : Int32} (hq : Q (some (vI y0)) S) : Ev d mX11_unlike 48 [some (vR 11 0), some (vI x1), some (vI x2)] [vI y0] S Q := by
  exact Ev.iret dX11_unlike_48 rfl rfl hq
/-! EightWiresModel.shift(II)I -/
theorem bkX11_shift_0 {d : Nat} {S : hs_T} {Q : Option av_T → hs_T → Prop} {P : Int32 → hs_T → Prop} {x1 x2 : Int32} {o3 o4 o5 o6 o7 : Option av_T} (hC : Ci d mX11_in [vJ x1.toInt64, vJ 0, vJ 1] S P) (kk : ∀ v S', P v S' → Ev (d + 1) mX11_shift 7 [some (vR 11 0), some (vI x1), some (vI x2), o3, o4, o5, o6, o7] [vI v] S' Q) : Ev (d + 1) mX11_shift 0 [some (vR 11 0), some (vI x1), some (vI x2), o3, o4, o5, o6, o7] [] S Q := by
  refine Ev.iload_n dX11_shift_0 rfl rfl ?_
  refine Ev.i2l dX11_shift_1 ?_
  refine Ev.lconst (v := 0) dX11_shift_2 (by decide) ?_
  refine Ev.lconst (v := 1) dX11_shift_3 (by decide) ?_
  exact Ev.callS (as := [vJ x1.toInt64, vJ 0, vJ 1]) (rest := []) okX11_in stX11_in ml_X11_58 rfl (Nat.le_of_ble_eq_true rfl) rfl dX11_shift_4 hC (fun r S' h => by obtain ⟨v, rfl, h⟩ := h; exact kk v S' h)
theorem bkX11_shift_7 {d : Nat} {S : hs_T} {Q : Option av_T → hs_T → Prop} {x1 x2 y0 : Int32} {o3 o4 o5 o6 o7 : Option av_T} (kt : y0 = 0 → Ev d mX11_shift 20 [some (vR 11 0), some (vI x1), some (vI x2), o3, o4, o5, o6, o7] [] S Q) (kf : ¬ y0 = 0 → Ev d mX11_shift 10 [some (vR 11 0), some (vI x1), some (vI x2), o3, o4, o5, o6, o7] [] S Q) : Ev d mX11_shift 7 [some (vR 11 0), some (vI x1), some (vI x2), o3, o4, o5, o6, o7] [vI y0] S Q := by
  exact Ev.if_eq (tgt := 20) dX11_shift_7 (by decide) kt kf
theorem bkX11_shift_10 {d : Nat} {S : hs_T} {Q : Option av_T → hs_T → Prop} {P : Int32 → hs_T → Prop} {x1 x2 : Int32} {o3 o4 o5 o6 o7 : Option av_T} (hC : Ci d mX11_in [vJ x2.toInt64, vJ 0, vJ 1] S P) (kk : ∀ v S', P v S' → Ev (d + 1) mX11_shift 17 [some (vR 11 0), some (vI x1), some (vI x2), o3, o4, o5, o6, o7] [vI v] S' Q) : Ev (d + 1) mX11_shift 10 [some (vR 11 0), some (vI x1), some (vI x2), o3, o4, o5, o6, o7] [] S Q := by
  refine Ev.iload_n dX11_shift_10 rfl rfl ?_
  refine Ev.i2l dX11_shift_11 ?_
  refine Ev.lconst (v := 0) dX11_shift_12 (by decide) ?_
  refine Ev.lconst (v := 1) dX11_shift_13 (by decide) ?_
  exact Ev.callS (as := [vJ x2.toInt64, vJ 0, vJ 1]) (rest := []) okX11_in stX11_in ml_X11_58 rfl (Nat.le_of_ble_eq_true rfl) rfl dX11_shift_14 hC (fun r S' h => by obtain ⟨v, rfl, h⟩ := h; exact kk v S' h)
theorem bkX11_shift_17 {d : Nat} {S : hs_T} {Q : Option av_T → hs_T → Prop} {x1 x2 y0 : Int32} {o3 o4 o5 o6 o7 : Option av_T} (kt : ¬ y0 = 0 → Ev d mX11_shift 22 [some (vR 11 0), some (vI x1), some (vI x2), o3, o4, o5, o6, o7] [] S Q) (kf : y0 = 0 → Ev d mX11_shift 20 [some (vR 11 0), some (vI x1), some (vI x2), o3, o4, o5, o6, o7] [] S Q) : Ev d mX11_shift 17 [some (vR 11 0), some (vI x1), some (vI x2), o3, o4, o5, o6, o7] [vI y0] S Q := by
  exact Ev.if_ne (tgt := 22) dX11_shift_17 (by decide) kt kf
theorem bkX11_shift_20 {d : Nat} {S : hs_T} {Q : Option av_T → hs_T → Prop} {x1 x2 : Int32} {o3 o4 o5 o6 o7 : Option av_T} (hq : Q (some (vI (-1))) S) : Ev d mX11_shift 20 [some (vR 11 0), some (vI x1), some (vI x2), o3, o4, o5, o6, o7] [] S Q := by
  refine Ev.iconst (v := (-1)) dX11_shift_20 (by decide) ?_
  exact Ev.iret dX11_shift_21 rfl rfl hq
theorem bkX11_shift_22 {d : Nat} {S : hs_T} {Q : Option av_T → hs_T → Prop} {x1 x2 : Int32} {o3 o4 o5 o6 o7 : Option av_T} (hi27 : vp_in x1 2) (kt : ¬ (S.1 1205 0 x1.toNatClampNeg) = (-4) → Ev d mX11_shift 36 [some (vR 11 0), some (vI x1), some (vI x2), o3, o4, o5, o6, o7] [] S Q) (kf : (S.1 1205 0 x1.toNatClampNeg) = (-4) → Ev d mX11_shift 33 [some (vR 11 0), some (vI x1), some (vI x2), o3, o4, o5, o6, o7] [] S Q) : Ev d mX11_shift 22 [some (vR 11 0), some (vI x1), some (vI x2), o3, o4, o5, o6, o7] [] S Q := by
  refine Ev.aload_n dX11_shift_22 rfl rfl ?_
  refine Ev.get (v := vR 1205 0) okX11 (by decide) fl_X11_22 pz_11_0 (ff_11_5 _ _) dX11_shift_23 ?_
  refine Ev.iload_n dX11_shift_26 rfl rfl ?_
  refine Ev.ialoadA (a := x1.toNatClampNeg) pz_1205_0 (by decide) ak_1205 hi27 rfl dX11_shift_27 ?_
  refine Ev.bipush (v := (-4)) dX11_shift_28 (by decide) ?_
  exact Ev.icmp_ne (tgt := 36) dX11_shift_30 (by decide) kt kf
theorem bkX11_shift_33 {d : Nat} {S : hs_T} {Q : Option av_T → hs_T → Prop} {x1 x2 : Int32} {o3 o4 o5 o6 o7 : Option av_T} (hq : Q (some (vI (-2))) S) : Ev d mX11_shift 33 [some (vR 11 0), some (vI x1), some (vI x2), o3, o4, o5, o6, o7] [] S Q := by
  refine Ev.bipush (v := (-2)) dX11_shift_33 (by decide) ?_
  exact Ev.iret dX11_shift_35 rfl rfl hq
theorem bkX11_shift_36 {d : Nat} {S : hs_T} {Q : Option av_T → hs_T → Prop} {P : Int32 → hs_T → Prop} {x1 x2 : Int32} {o3 o4 o5 o6 o7 : Option av_T} (hC : Ci d mX11_unlikeBy [vR 11 0, vI x1, vI 0] S P) (kk : ∀ v S', P v S' → Ev (d + 1) mX11_shift 44 [some (vR 11 0), some (vI x1), some (vI x2), some (vI 0), o4, o5, o6, o7] [vI v] S' Q) : Ev (d + 1) mX11_shift 36 [some (vR 11 0), some (vI x1), some (vI x2), o3, o4, o5, o6, o7] [] S Q := by
  refine Ev.iconst (v := 0) dX11_shift_36 (by decide) ?_
  refine Ev.istore_n (ls' := [some (vR 11 0), some (vI x1), some (vI x2), some (vI 0), o4, o5, o6, o7]) dX11_shift_37 rfl (by decide) rfl ?_
  refine Ev.aload_n dX11_shift_38 rfl rfl ?_
  refine Ev.iload_n dX11_shift_39 rfl rfl ?_
  refine Ev.iconst (v := 0) dX11_shift_40 (by decide) ?_
  exact Ev.callV (as := [vI x1, vI 0]) (rest := []) okX11_unlikeBy in_X11_unlikeBy ml_X11_294 rfl (Nat.le_of_ble_eq_true rfl) pz_11_0 (by decide) rfl rfl dX11_shift_41 hC (fun r S' h => by obtain ⟨v, rfl, h⟩ := h; exact kk v S' h)
theorem bkX11_shift_44 {d : Nat} {S : hs_T} {Q : Option av_T → hs_T → Prop} {x1 x2 x3 y0 : Int32} {o4 o5 o6 o7 : Option av_T} (kn : Ev d mX11_shift 49 [some (vR 11 0), some (vI x1), some (vI x2), some (vI x3), some (vI y0), some (vI 1), o6, o7] [] S Q) : Ev d mX11_shift 44 [some (vR 11 0), some (vI x1), some (vI x2), some (vI x3), o4, o5, o6, o7] [vI y0] S Q := by
  refine Ev.istore (ls' := [some (vR 11 0), some (vI x1), some (vI x2), some (vI x3), some (vI y0), o5, o6, o7]) dX11_shift_44 (by decide) rfl ?_
  refine Ev.iconst (v := 1) dX11_shift_46 (by decide) ?_
  refine Ev.istore (ls' := [some (vR 11 0), some (vI x1), some (vI x2), some (vI x3), some (vI y0), some (vI 1), o6, o7]) dX11_shift_47 (by decide) rfl ?_
  exact kn
theorem bkX11_shift_49 {d : Nat} {S : hs_T} {Q : Option av_T → hs_T → Prop} {x1 x2 x3 x4 x5 : Int32} {o6 o7 : Option av_T} (kt : 40 < x5 → Ev d mX11_shift 128 [some (vR 11 0), some (vI x1), some (vI x2), some (vI x3), some (vI x4), some (vI x5), o6, o7] [] S Q) (kf : ¬ 40 < x5 → Ev d mX11_shift 56 [some (vR 11 0), some (vI x1), some (vI x2), some (vI x3), some (vI x4), some (vI x5), o6, o7] [] S Q) : Ev d mX11_shift 49 [some (vR 11 0), some (vI x1), some (vI x2), some (vI x3), some (vI x4), some (vI x5), o6, o7] [] S Q := by
  refine Ev.iload dX11_shift_49 rfl ?_
  refine Ev.bipush (v := 40) dX11_shift_51 (by decide) ?_
  exact Ev.icmp_gt (tgt := 128) dX11_shift_53 (by decide) kt kf
theorem bkX11_shift_56 {d : Nat} {S : hs_T} {Q : Option av_T → hs_T → Prop} {P : Int32 → hs_T → Prop} {x1 x2 x3 x4 x5 : Int32} {o6 o7 : Option av_T} (hC : Ci d mX11_unlikeBy [vR 11 0, vI x1, vI (-x5)] S P) (kk : ∀ v S', P v S' → Ev (d + 1) mX11_shift 64 [some (vR 11 0), some (vI x1), some (vI x2), some (vI x3), some (vI x4), some (vI x5), o6, o7] [vI v] S' Q) : Ev (d + 1) mX11_shift 56 [some (vR 11 0), some (vI x1), some (vI x2), some (vI x3), some (vI x4), some (vI x5), o6, o7] [] S Q := by
  refine Ev.aload_n dX11_shift_56 rfl rfl ?_
  refine Ev.iload_n dX11_shift_57 rfl rfl ?_
  refine Ev.iload dX11_shift_58 rfl ?_
  refine Ev.ineg dX11_shift_60 ?_
  exact Ev.callV (as := [vI x1, vI (-x5)]) (rest := []) okX11_unlikeBy in_X11_unlikeBy ml_X11_294 rfl (Nat.le_of_ble_eq_true rfl) pz_11_0 (by decide) rfl rfl dX11_shift_61 hC (fun r S' h => by obtain ⟨v, rfl, h⟩ := h; exact kk v S' h)
theorem bkX11_shift_64 {d : Nat} {S : hs_T} {Q : Option av_T → hs_T → Prop} {x1 x2 x3 x4 x5 y0 : Int32} {o6 o7 : Option av_T} (kt : x4 ≤ y0 → Ev d mX11_shift 79 [some (vR 11 0), some (vI x1), some (vI x2), some (vI x3), some (vI x4), some (vI x5), some (vI y0), o7] [] S Q) (kf : ¬ x4 ≤ y0 → Ev d mX11_shift 73 [some (vR 11 0), some (vI x1), some (vI x2), some (vI x3), some (vI x4), some (vI x5), some (vI y0), o7] [] S Q) : Ev d mX11_shift 64 [some (vR 11 0), some (vI x1), some (vI x2), some (vI x3), some (vI x4), some (vI x5), o6, o7] [vI y0] S Q := by
  refine Ev.istore (ls' := [some (vR 11 0), some (vI x1), some (vI x2), some (vI x3), some (vI x4), some (vI x5), some (vI y0), o7]) dX11_shift_64 (by decide) rfl ?_
  refine Ev.iload dX11_shift_66 rfl ?_
  refine Ev.iload dX11_shift_68 rfl ?_
  exact Ev.icmp_ge (tgt := 79) dX11_shift_70 (by decide) kt kf
theorem bkX11_shift_73 {d : Nat} {S : hs_T} {Q : Option av_T → hs_T → Prop} {x1 x2 x3 x4 x5 x6 : Int32} {o7 : Option av_T} (kn : Ev d mX11_shift 80 [some (vR 11 0), some (vI x1), some (vI x2), some (vI x3), some (vI x4), some (vI x5), some (vI x6), o7] [vI (-x5)] S Q) : Ev d mX11_shift 73 [some (vR 11 0), some (vI x1), some (vI x2), some (vI x3), some (vI x4), some (vI x5), some (vI x6), o7] [] S Q := by
  refine Ev.iload dX11_shift_73 rfl ?_
  refine Ev.ineg dX11_shift_75 ?_
  refine Ev.goto (tgt := 80) dX11_shift_76 (by decide) ?_
  exact kn
theorem bkX11_shift_79 {d : Nat} {S : hs_T} {Q : Option av_T → hs_T → Prop} {x1 x2 x3 x4 x5 x6 : Int32} {o7 : Option av_T} (kn : Ev d mX11_shift 80 [some (vR 11 0), some (vI x1), some (vI x2), some (vI x3), some (vI x4), some (vI x5), some (vI x6), o7] [vI x3] S Q) : Ev d mX11_shift 79 [some (vR 11 0), some (vI x1), some (vI x2), some (vI x3), some (vI x4), some (vI x5), some (vI x6), o7] [] S Q := by
  refine Ev.iload_n dX11_shift_79 rfl rfl ?_
  exact kn
theorem bkX11_shift_80 {d : Nat} {S : hs_T} {Q : Option av_T → hs_T → Prop} {P : Int32 → hs_T → Prop} {x1 x2 x3 x4 x5 x6 y0 : Int32} {o7 : Option av_T} (hC : Ci d mX11_less [vI x6, vI x4] S P) (kk : ∀ v S', P v S' → Ev (d + 1) mX11_shift 88 [some (vR 11 0), some (vI x1), some (vI x2), some (vI y0), some (vI x4), some (vI x5), some (vI x6), o7] [vI v] S' Q) : Ev (d + 1) mX11_shift 80 [some (vR 11 0), some (vI x1), some (vI x2), some (vI x3), some (vI x4), some (vI x5), some (vI x6), o7] [vI y0] S Q := by
  refine Ev.istore_n (ls' := [some (vR 11 0), some (vI x1), some (vI x2), some (vI y0), some (vI x4), some (vI x5), some (vI x6), o7]) dX11_shift_80 rfl (by decide) rfl ?_
  refine Ev.iload dX11_shift_81 rfl ?_
  refine Ev.iload dX11_shift_83 rfl ?_
  exact Ev.callS (as := [vI x6, vI x4]) (rest := []) okX11_less stX11_less ml_X11_198 rfl (Nat.le_of_ble_eq_true rfl) rfl dX11_shift_85 hC (fun r S' h => by obtain ⟨v, rfl, h⟩ := h; exact kk v S' h)
theorem bkX11_shift_88 {d : Nat} {S : hs_T} {Q : Option av_T → hs_T → Prop} {P : Int32 → hs_T → Prop} {x1 x2 x3 x4 x5 x6 y0 : Int32} {o7 : Option av_T} (hC : Ci d mX11_unlikeBy [vR 11 0, vI x1, vI x5] S P) (kk : ∀ v S', P v S' → Ev (d + 1) mX11_shift 97 [some (vR 11 0), some (vI x1), some (vI x2), some (vI x3), some (vI y0), some (vI x5), some (vI x6), o7] [vI v] S' Q) : Ev (d + 1) mX11_shift 88 [some (vR 11 0), some (vI x1), some (vI x2), some (vI x3), some (vI x4), some (vI x5), some (vI x6), o7] [vI y0] S Q := by
  refine Ev.istore (ls' := [some (vR 11 0), some (vI x1), some (vI x2), some (vI x3), some (vI y0), some (vI x5), some (vI x6), o7]) dX11_shift_88 (by decide) rfl ?_
  refine Ev.aload_n dX11_shift_90 rfl rfl ?_
  refine Ev.iload_n dX11_shift_91 rfl rfl ?_
  refine Ev.iload dX11_shift_92 rfl ?_
  exact Ev.callV (as := [vI x1, vI x5]) (rest := []) okX11_unlikeBy in_X11_unlikeBy ml_X11_294 rfl (Nat.le_of_ble_eq_true rfl) pz_11_0 (by decide) rfl rfl dX11_shift_94 hC (fun r S' h => by obtain ⟨v, rfl, h⟩ := h; exact kk v S' h)
theorem bkX11_shift_97 {d : Nat} {S : hs_T} {Q : Option av_T → hs_T → Prop} {x1 x2 x3 x4 x5 x6 y0 : Int32} {o7 : Option av_T} (kt : x4 ≤ y0 → Ev d mX11_shift 111 [some (vR 11 0), some (vI x1), some (vI x2), some (vI x3), some (vI x4), some (vI x5), some (vI x6), some (vI y0)] [] S Q) (kf : ¬ x4 ≤ y0 → Ev d mX11_shift 106 [some (vR 11 0), some (vI x1), some (vI x2), some (vI x3), some (vI x4), some (vI x5), some (vI x6), some (vI y0)] [] S Q) : Ev d mX11_shift 97 [some (vR 11 0), some (vI x1), some (vI x2), some (vI x3), some (vI x4), some (vI x5), some (vI x6), o7] [vI y0] S Q := by
  refine Ev.istore (ls' := [some (vR 11 0), some (vI x1), some (vI x2), some (vI x3), some (vI x4), some (vI x5), some (vI x6), some (vI y0)]) dX11_shift_97 (by decide) rfl ?_
  refine Ev.iload dX11_shift_99 rfl ?_
  refine Ev.iload dX11_shift_101 rfl ?_
  exact Ev.icmp_ge (tgt := 111) dX11_shift_103 (by decide) kt kf
theorem bkX11_shift_106 {d : Nat} {S : hs_T} {Q : Option av_T → hs_T → Prop} {x1 x2 x3 x4 x5 x6 x7 : Int32} (kn : Ev d mX11_shift 112 [some (vR 11 0), some (vI x1), some (vI x2), some (vI x3), some (vI x4), some (vI x5), some (vI x6), some (vI x7)] [vI x5] S Q) : Ev d mX11_shift 106 [some (vR 11 0), some (vI x1), some (vI x2), some (vI x3), some (vI x4), some (vI x5), some (vI x6), some (vI x7)] [] S Q := by
  refine Ev.iload dX11_shift_106 rfl ?_
  refine Ev.goto (tgt := 112) dX11_shift_108 (by decide) ?_
  exact kn
theorem bkX11_shift_111 {d : Nat} {S : hs_T} {Q : Option av_T → hs_T → Prop} {x1 x2 x3 x4 x5 x6 x7 : Int32} (kn : Ev d mX11_shift 112 [some (vR 11 0), some (vI x1), some (vI x2), some (vI x3), some (vI x4), some (vI x5), some (vI x6), some (vI x7)] [vI x3] S Q) : Ev d mX11_shift 111 [some (vR 11 0), some (vI x1), some (vI x2), some (vI x3), some (vI x4), some (vI x5), some (vI x6), some (vI x7)] [] S Q := by
  refine Ev.iload_n dX11_shift_111 rfl rfl ?_
  exact kn
theorem bkX11_shift_112 {d : Nat} {S : hs_T} {Q : Option av_T → hs_T → Prop} {P : Int32 → hs_T → Prop} {x1 x2 x3 x4 x5 x6 x7 y0 : Int32} (hC : Ci d mX11_less [vI x7, vI x4] S P) (kk : ∀ v S', P v S' → Ev (d + 1) mX11_shift 120 [some (vR 11 0), some (vI x1), some (vI x2), some (vI y0), some (vI x4), some (vI x5), some (vI x6), some (vI x7)] [vI v] S' Q) : Ev (d + 1) mX11_shift 112 [some (vR 11 0), some (vI x1), some (vI x2), some (vI x3), some (vI x4), some (vI x5), some (vI x6), some (vI x7)] [vI y0] S Q := by
  refine Ev.istore_n (ls' := [some (vR 11 0), some (vI x1), some (vI x2), some (vI y0), some (vI x4), some (vI x5), some (vI x6), some (vI x7)]) dX11_shift_112 rfl (by decide) rfl ?_
  refine Ev.iload dX11_shift_113 rfl ?_
  refine Ev.iload dX11_shift_115 rfl ?_
  exact Ev.callS (as := [vI x7, vI x4]) (rest := []) okX11_less stX11_less ml_X11_198 rfl (Nat.le_of_ble_eq_true rfl) rfl dX11_shift_117 hC (fun r S' h => by obtain ⟨v, rfl, h⟩ := h; exact kk v S' h)
theorem bkX11_shift_120 {d : Nat} {S : hs_T} {Q : Option av_T → hs_T → Prop} {x1 x2 x3 x4 x5 x6 x7 y0 : Int32} (kn : Ev d mX11_shift 49 [some (vR 11 0), some (vI x1), some (vI x2), some (vI x3), some (vI y0), some (vI (x5 + 1)), some (vI x6), some (vI x7)] [] S Q) : Ev d mX11_shift 120 [some (vR 11 0), some (vI x1), some (vI x2), some (vI x3), some (vI x4), some (vI x5), some (vI x6), some (vI x7)] [vI y0] S Q := by
  refine Ev.istore (ls' := [some (vR 11 0), some (vI x1), some (vI x2), some (vI x3), some (vI y0), some (vI x5), some (vI x6), some (vI x7)]) dX11_shift_120 (by decide) rfl ?_
  refine Ev.iinc (v := (x5 + 1)) (ls' := [some (vR 11 0), some (vI x1), some (vI x2), some (vI x3), some (vI y0), some (vI (x5 + 1)), some (vI x6), some (vI x7)]) dX11_shift_122 rfl rfl (by decide) rfl ?_
  refine Ev.goto (tgt := 49) dX11_shift_125 (by decide) ?_
  exact kn
theorem bkX11_shift_128 {d : Nat} {S : hs_T} {Q : Option av_T → hs_T → Prop} {x1 x2 x3 x4 x5 : Int32} {o6 o7 : Option av_T} (kt : ¬ x2 = 0 → Ev d mX11_shift 136 [some (vR 11 0), some (vI x1), some (vI x2), some (vI x3), some (vI x4), some (vI x5), o6, o7] [] S Q) (kf : x2 = 0 → Ev d mX11_shift 132 [some (vR 11 0), some (vI x1), some (vI x2), some (vI x3), some (vI x4), some (vI x5), o6, o7] [] S Q) : Ev d mX11_shift 128 [some (vR 11 0), some (vI x1), some (vI x2), some (vI x3), some (vI x4), some (vI x5), o6, o7] [] S Q := by
  refine Ev.iload_n dX11_shift_128 rfl rfl ?_
  exact Ev.if_ne (tgt := 136) dX11_shift_129 (by decide) kt kf
theorem bkX11_shift_132 {d : Nat} {S : hs_T} {Q : Option av_T → hs_T → Prop} {x1 x2 x3 x4 x5 : Int32} {o6 o7 : Option av_T} (kn : Ev d mX11_shift 138 [some (vR 11 0), some (vI x1), some (vI x2), some (vI x3), some (vI x4), some (vI x5), o6, o7] [vI x3] S Q) : Ev d mX11_shift 132 [some (vR 11 0), some (vI x1), some (vI x2), some (vI x3), some (vI x4), some (vI x5), o6, o7] [] S Q := by
  refine Ev.iload_n dX11_shift_132 rfl rfl ?_
  refine Ev.goto (tgt := 138) dX11_shift_133 (by decide) ?_
  exact kn
theorem bkX11_shift_136 {d : Nat} {S : hs_T} {Q : Option av_T → hs_T → Prop} {x1 x2 x3 x4 x5 : Int32} {o6 o7 : Option av_T} (kn : Ev d mX11_shift 138 [some (vR 11 0), some (vI x1), some (vI x2), some (vI x3), some (vI x4), some (vI x5), o6, o7] [vI x4] S Q) : Ev d mX11_shift 136 [some (vR 11 0), some (vI x1), some (vI x2), some (vI x3), some (vI x4), some (vI x5), o6, o7] [] S Q := by
  refine Ev.iload dX11_shift_136 rfl ?_
  exact kn
theorem bkX11_shift_138 {d : Nat} {S : hs_T} {Q : Option av_T → hs_T → Prop} {x1 x2 x3 x4 x5 y0 : Int32} {o6 o7 : Option av_T} (hq : Q (some (vI y0)) S) : Ev d mX11_shift 138 [some (vR 11 0), some (vI x1), some (vI x2), some (vI x3), some (vI x4), some (vI x5), o6, o7] [vI y0] S Q := by
  exact Ev.iret dX11_shift_138 rfl rfl hq
/-! EightWiresModel.isSheet(II)Z -/
theorem bkX11_isSheet_0 {d : Nat} {S : hs_T} {Q : Option av_T → hs_T → Prop} {P : Int32 → hs_T → Prop} {x0 x1 : Int32} (hC : Ci d mX11_in [vJ x0.toInt64, vJ 0, vJ 3] S P) (kk : ∀ v S', P v S' → Ev (d + 1) mX11_isSheet 9 [some (vI x0), some (vI x1)] [vI v] S' Q) : Ev (d + 1) mX11_isSheet 0 [some (vI x0), some (vI x1)] [] S Q := by
  refine Ev.iload_n dX11_isSheet_0 rfl rfl ?_
  refine Ev.i2l dX11_isSheet_1 ?_
  refine Ev.lconst (v := 0) dX11_isSheet_2 (by decide) ?_
  refine Ev.ldc2 kl_X11_191 dX11_isSheet_3 ?_
  exact Ev.callS (as := [vJ x0.toInt64, vJ 0, vJ 3]) (rest := []) okX11_in stX11_in ml_X11_58 rfl (Nat.le_of_ble_eq_true rfl) rfl dX11_isSheet_6 hC (fun r S' h => by obtain ⟨v, rfl, h⟩ := h; exact kk v S' h)
theorem bkX11_isSheet_9 {d : Nat} {S : hs_T} {Q : Option av_T → hs_T → Prop} {x0 x1 y0 : Int32} (kt : y0 = 0 → Ev d mX11_isSheet 28 [some (vI x0), some (vI x1)] [] S Q) (kf : ¬ y0 = 0 → Ev d mX11_isSheet 12 [some (vI x0), some (vI x1)] [] S Q) : Ev d mX11_isSheet 9 [some (vI x0), some (vI x1)] [vI y0] S Q := by
  exact Ev.if_eq (tgt := 28) dX11_isSheet_9 (by decide) kt kf
theorem bkX11_isSheet_12 {d : Nat} {S : hs_T} {Q : Option av_T → hs_T → Prop} {P : Int32 → hs_T → Prop} {x0 x1 : Int32} (hC : Ci d mX11_in [vJ x1.toInt64, vJ 0, vJ 2] S P) (kk : ∀ v S', P v S' → Ev (d + 1) mX11_isSheet 21 [some (vI x0), some (vI x1)] [vI v] S' Q) : Ev (d + 1) mX11_isSheet 12 [some (vI x0), some (vI x1)] [] S Q := by
  refine Ev.iload_n dX11_isSheet_12 rfl rfl ?_
  refine Ev.i2l dX11_isSheet_13 ?_
  refine Ev.lconst (v := 0) dX11_isSheet_14 (by decide) ?_
  refine Ev.ldc2 kl_X11_138 dX11_isSheet_15 ?_
  exact Ev.callS (as := [vJ x1.toInt64, vJ 0, vJ 2]) (rest := []) okX11_in stX11_in ml_X11_58 rfl (Nat.le_of_ble_eq_true rfl) rfl dX11_isSheet_18 hC (fun r S' h => by obtain ⟨v, rfl, h⟩ := h; exact kk v S' h)
theorem bkX11_isSheet_21 {d : Nat} {S : hs_T} {Q : Option av_T → hs_T → Prop} {x0 x1 y0 : Int32} (kt : y0 = 0 → Ev d mX11_isSheet 28 [some (vI x0), some (vI x1)] [] S Q) (kf : ¬ y0 = 0 → Ev d mX11_isSheet 24 [some (vI x0), some (vI x1)] [] S Q) : Ev d mX11_isSheet 21 [some (vI x0), some (vI x1)] [vI y0] S Q := by
  exact Ev.if_eq (tgt := 28) dX11_isSheet_21 (by decide) kt kf
theorem bkX11_isSheet_24 {d : Nat} {S : hs_T} {Q : Option av_T → hs_T → Prop} {x0 x1 : Int32} (kn : Ev d mX11_isSheet 29 [some (vI x0), some (vI x1)] [vI 1] S Q) : Ev d mX11_isSheet 24 [some (vI x0), some (vI x1)] [] S Q := by
  refine Ev.iconst (v := 1) dX11_isSheet_24 (by decide) ?_
  refine Ev.goto (tgt := 29) dX11_isSheet_25 (by decide) ?_
  exact kn
theorem bkX11_isSheet_28 {d : Nat} {S : hs_T} {Q : Option av_T → hs_T → Prop} {x0 x1 : Int32} (kn : Ev d mX11_isSheet 29 [some (vI x0), some (vI x1)] [vI 0] S Q) : Ev d mX11_isSheet 28 [some (vI x0), some (vI x1)] [] S Q := by
  refine Ev.iconst (v := 0) dX11_isSheet_28 (by decide) ?_
  exact kn
theorem bkX11_isSheet_29 {d : Nat} {S : hs_T} {Q : Option av_T → hs_T → Prop} {x0 x1 y0 : Int32} (hn29 : narrow .boolean (.int y0) = .int y0) (hq : Q (some (vI y0)) S) : Ev d mX11_isSheet 29 [some (vI x0), some (vI x1)] [vI y0] S Q := by
  exact Ev.iret dX11_isSheet_29 rfl hn29 hq
/-! EightWiresModel.sheet(III)I -/
theorem bkX11_sheet_0 {d : Nat} {S : hs_T} {Q : Option av_T → hs_T → Prop} {P : Int32 → hs_T → Prop} {x1 x2 x3 : Int32} {o4 : Option av_T} (hC : Ci d mX11_isSheet [vI x1, vI x2] S P) (kk : ∀ v S', P v S' → Ev (d + 1) mX11_sheet 5 [some (vR 11 0), some (vI x1), some (vI x2), some (vI x3), o4] [vI v] S' Q) : Ev (d + 1) mX11_sheet 0 [some (vR 11 0), some (vI x1), some (vI x2), some (vI x3), o4] [] S Q := by
  refine Ev.iload_n dX11_sheet_0 rfl rfl ?_
  refine Ev.iload_n dX11_sheet_1 rfl rfl ?_
  exact Ev.callS (as := [vI x1, vI x2]) (rest := []) okX11_isSheet stX11_isSheet ml_X11_297 rfl (Nat.le_of_ble_eq_true rfl) rfl dX11_sheet_2 hC (fun r S' h => by obtain ⟨v, rfl, h⟩ := h; exact kk v S' h)
theorem bkX11_sheet_5 {d : Nat} {S : hs_T} {Q : Option av_T → hs_T → Prop} {x1 x2 x3 y0 : Int32} {o4 : Option av_T} (kt : y0 = 0 → Ev d mX11_sheet 14 [some (vR 11 0), some (vI x1), some (vI x2), some (vI x3), o4] [] S Q) (kf : ¬ y0 = 0 → Ev d mX11_sheet 8 [some (vR 11 0), some (vI x1), some (vI x2), some (vI x3), o4] [] S Q) : Ev d mX11_sheet 5 [some (vR 11 0), some (vI x1), some (vI x2), some (vI x3), o4] [vI y0] S Q := by
  exact Ev.if_eq (tgt := 14) dX11_sheet_5 (by decide) kt kf
theorem bkX11_sheet_8 {d : Nat} {S : hs_T} {Q : Option av_T → hs_T → Prop} {x1 x2 x3 : Int32} {o4 : Option av_T} (kt : x3 ≤ 40 → Ev d mX11_sheet 16 [some (vR 11 0), some (vI x1), some (vI x2), some (vI x3), o4] [] S Q) (kf : ¬ x3 ≤ 40 → Ev d mX11_sheet 14 [some (vR 11 0), some (vI x1), some (vI x2), some (vI x3), o4] [] S Q) : Ev d mX11_sheet 8 [some (vR 11 0), some (vI x1), some (vI x2), some (vI x3), o4] [] S Q := by
  refine Ev.iload_n dX11_sheet_8 rfl rfl ?_
  refine Ev.bipush (v := 40) dX11_sheet_9 (by decide) ?_
  exact Ev.icmp_le (tgt := 16) dX11_sheet_11 (by decide) kt kf
theorem bkX11_sheet_14 {d : Nat} {S : hs_T} {Q : Option av_T → hs_T → Prop} {x1 x2 x3 : Int32} {o4 : Option av_T} (hq : Q (some (vI (-1))) S) : Ev d mX11_sheet 14 [some (vR 11 0), some (vI x1), some (vI x2), some (vI x3), o4] [] S Q := by
  refine Ev.iconst (v := (-1)) dX11_sheet_14 (by decide) ?_
  exact Ev.iret dX11_sheet_15 rfl rfl hq
theorem bkX11_sheet_16 {d : Nat} {S : hs_T} {Q : Option av_T → hs_T → Prop} {x1 x2 x3 : Int32} {o4 : Option av_T} (kt : 0 ≤ x3 → Ev d mX11_sheet 23 [some (vR 11 0), some (vI x1), some (vI x2), some (vI x3), o4] [] S Q) (kf : ¬ 0 ≤ x3 → Ev d mX11_sheet 20 [some (vR 11 0), some (vI x1), some (vI x2), some (vI x3), o4] [] S Q) : Ev d mX11_sheet 16 [some (vR 11 0), some (vI x1), some (vI x2), some (vI x3), o4] [] S Q := by
  refine Ev.iload_n dX11_sheet_16 rfl rfl ?_
  exact Ev.if_ge (tgt := 23) dX11_sheet_17 (by decide) kt kf
theorem bkX11_sheet_20 {d : Nat} {S : hs_T} {Q : Option av_T → hs_T → Prop} {x1 x2 x3 : Int32} {o4 : Option av_T} (hq : Q (some (vI (-14))) S) : Ev d mX11_sheet 20 [some (vR 11 0), some (vI x1), some (vI x2), some (vI x3), o4] [] S Q := by
  refine Ev.bipush (v := (-14)) dX11_sheet_20 (by decide) ?_
  exact Ev.iret dX11_sheet_22 rfl rfl hq
theorem bkX11_sheet_23 {d : Nat} {S : hs_T} {Q : Option av_T → hs_T → Prop} {x1 x2 x3 : Int32} {o4 : Option av_T} (hi29 : vp_in x1 4) (kn : Ev d mX11_sheet 40 [some (vR 11 0), some (vI x1), some (vI x2), some (vI x3), some (vI 0)] [] (sk_ (sk_ S 1230 0 (upd (S.1 1230 0) x1.toNatClampNeg x2)) 1231 0 (upd ((sk_ S 1230 0 (upd (S.1 1230 0) x1.toNatClampNeg x2)).1 1231 0) x1.toNatClampNeg x3)) Q) : Ev d mX11_sheet 23 [some (vR 11 0), some (vI x1), some (vI x2), some (vI x3), o4] [] S Q := by
  refine Ev.aload_n dX11_sheet_23 rfl rfl ?_
  refine Ev.get (v := vR 1230 0) okX11 (by decide) fl_X11_34 pz_11_0 (ff_11_30 _ _) dX11_sheet_24 ?_
  refine Ev.iload_n dX11_sheet_27 rfl rfl ?_
  refine Ev.iload_n dX11_sheet_28 rfl rfl ?_
  refine Ev.iastoreA (a := x1.toNatClampNeg) pz_1230_0 (by decide) ak_1230 hi29 rfl rfl dX11_sheet_29 ?_
  refine Ev.aload_n dX11_sheet_30 rfl rfl ?_
  refine Ev.get (v := vR 1231 0) okX11 (by decide) fl_X11_37 pz_11_0 (ff_11_31 _ _) dX11_sheet_31 ?_
  refine Ev.iload_n dX11_sheet_34 rfl rfl ?_
  refine Ev.iload_n dX11_sheet_35 rfl rfl ?_
  refine Ev.iastoreA (a := x1.toNatClampNeg) pz_1231_0 (by decide) ak_1231 hi29 rfl rfl dX11_sheet_36 ?_
  refine Ev.iconst (v := 0) dX11_sheet_37 (by decide) ?_
  refine Ev.istore (ls' := [some (vR 11 0), some (vI x1), some (vI x2), some (vI x3), some (vI 0)]) dX11_sheet_38 (by decide) rfl ?_
  exact kn
theorem bkX11_sheet_40 {d : Nat} {S : hs_T} {Q : Option av_T → hs_T → Prop} {x1 x2 x3 x4 : Int32} (kt : 40 ≤ x4 → Ev d mX11_sheet 66 [some (vR 11 0), some (vI x1), some (vI x2), some (vI x3), some (vI x4)] [] S Q) (kf : ¬ 40 ≤ x4 → Ev d mX11_sheet 47 [some (vR 11 0), some (vI x1), some (vI x2), some (vI x3), some (vI x4)] [] S Q) : Ev d mX11_sheet 40 [some (vR 11 0), some (vI x1), some (vI x2), some (vI x3), some (vI x4)] [] S Q := by
  refine Ev.iload dX11_sheet_40 rfl ?_
  refine Ev.bipush (v := 40) dX11_sheet_42 (by decide) ?_
  exact Ev.icmp_ge (tgt := 66) dX11_sheet_44 (by decide) kt kf
theorem bkX11_sheet_47 {d : Nat} {S : hs_T} {Q : Option av_T → hs_T → Prop} {x1 x2 x3 x4 : Int32} (hi59 : vp_in ((40 * x1) + x4) 160) (kn : Ev d mX11_sheet 40 [some (vR 11 0), some (vI x1), some (vI x2), some (vI x3), some (vI (x4 + 1))] [] (sk_ S 1232 0 (upd (S.1 1232 0) (((40 * x1) + x4).toNatClampNeg) 0)) Q) : Ev d mX11_sheet 47 [some (vR 11 0), some (vI x1), some (vI x2), some (vI x3), some (vI x4)] [] S Q := by
  refine Ev.aload_n dX11_sheet_47 rfl rfl ?_
  refine Ev.get (v := vR 1232 0) okX11 (by decide) fl_X11_40 pz_11_0 (ff_11_32 _ _) dX11_sheet_48 ?_
  refine Ev.bipush (v := 40) dX11_sheet_51 (by decide) ?_
  refine Ev.iload_n dX11_sheet_53 rfl rfl ?_
  refine Ev.imul dX11_sheet_54 ?_
  refine Ev.iload dX11_sheet_55 rfl ?_
  refine Ev.iadd dX11_sheet_57 ?_
  refine Ev.iconst (v := 0) dX11_sheet_58 (by decide) ?_
  refine Ev.iastoreA (a := ((40 * x1) + x4).toNatClampNeg) pz_1232_0 (by decide) ak_1232 hi59 rfl rfl dX11_sheet_59 ?_
  refine Ev.iinc (v := (x4 + 1)) (ls' := [some (vR 11 0), some (vI x1), some (vI x2), some (vI x3), some (vI (x4 + 1))]) dX11_sheet_60 rfl rfl (by decide) rfl ?_
  refine Ev.goto (tgt := 40) dX11_sheet_63 (by decide) ?_
  exact kn
theorem bkX11_sheet_66 {d : Nat} {S : hs_T} {Q : Option av_T → hs_T → Prop} {x1 x2 x3 x4 : Int32} (hq : Q (some (vI 1)) S) : Ev d mX11_sheet 66 [some (vR 11 0), some (vI x1), some (vI x2), some (vI x3), some (vI x4)] [] S Q := by
  refine Ev.iconst (v := 1) dX11_sheet_66 (by decide) ?_
  exact Ev.iret dX11_sheet_67 rfl rfl hq
/-! EightWiresModel.lay(III)I -/
theorem bkX11_lay_0 {d : Nat} {S : hs_T} {Q : Option av_T → hs_T → Prop} {P : Int32 → hs_T → Prop} {x1 x2 x3 : Int32} (hC : Ci d mX11_isSheet [vI x1, vI 0] S P) (kk : ∀ v S', P v S' → Ev (d + 1) mX11_lay 5 [some (vR 11 0), some (vI x1), some (vI x2), some (vI x3)] [vI v] S' Q) : Ev (d + 1) mX11_lay 0 [some (vR 11 0), some (vI x1), some (vI x2), some (vI x3)] [] S Q := by
  refine Ev.iload_n dX11_lay_0 rfl rfl ?_
  refine Ev.iconst (v := 0) dX11_lay_1 (by decide) ?_
  exact Ev.callS (as := [vI x1, vI 0]) (rest := []) okX11_isSheet stX11_isSheet ml_X11_297 rfl (Nat.le_of_ble_eq_true rfl) rfl dX11_lay_2 hC (fun r S' h => by obtain ⟨v, rfl, h⟩ := h; exact kk v S' h)
theorem bkX11_lay_5 {d : Nat} {S : hs_T} {Q : Option av_T → hs_T → Prop} {x1 x2 x3 y0 : Int32} (kt : ¬ y0 = 0 → Ev d mX11_lay 10 [some (vR 11 0), some (vI x1), some (vI x2), some (vI x3)] [] S Q) (kf : y0 = 0 → Ev d mX11_lay 8 [some (vR 11 0), some (vI x1), some (vI x2), some (vI x3)] [] S Q) : Ev d mX11_lay 5 [some (vR 11 0), some (vI x1), some (vI x2), some (vI x3)] [vI y0] S Q := by
  exact Ev.if_ne (tgt := 10) dX11_lay_5 (by decide) kt kf
theorem bkX11_lay_8 {d : Nat} {S : hs_T} {Q : Option av_T → hs_T → Prop} {x1 x2 x3 : Int32} (hq : Q (some (vI (-1))) S) : Ev d mX11_lay 8 [some (vR 11 0), some (vI x1), some (vI x2), some (vI x3)] [] S Q := by
  refine Ev.iconst (v := (-1)) dX11_lay_8 (by decide) ?_
  exact Ev.iret dX11_lay_9 rfl rfl hq
theorem bkX11_lay_10 {d : Nat} {S : hs_T} {Q : Option av_T → hs_T → Prop} {x1 x2 x3 : Int32} (hi15 : vp_in x1 4) (kt : ¬ (S.1 1230 0 x1.toNatClampNeg) = (-4) → Ev d mX11_lay 24 [some (vR 11 0), some (vI x1), some (vI x2), some (vI x3)] [] S Q) (kf : (S.1 1230 0 x1.toNatClampNeg) = (-4) → Ev d mX11_lay 21 [some (vR 11 0), some (vI x1), some (vI x2), some (vI x3)] [] S Q) : Ev d mX11_lay 10 [some (vR 11 0), some (vI x1), some (vI x2), some (vI x3)] [] S Q := by
  refine Ev.aload_n dX11_lay_10 rfl rfl ?_
  refine Ev.get (v := vR 1230 0) okX11 (by decide) fl_X11_34 pz_11_0 (ff_11_30 _ _) dX11_lay_11 ?_
  refine Ev.iload_n dX11_lay_14 rfl rfl ?_
  refine Ev.ialoadA (a := x1.toNatClampNeg) pz_1230_0 (by decide) ak_1230 hi15 rfl dX11_lay_15 ?_
  refine Ev.bipush (v := (-4)) dX11_lay_16 (by decide) ?_
  exact Ev.icmp_ne (tgt := 24) dX11_lay_18 (by decide) kt kf
theorem bkX11_lay_21 {d : Nat} {S : hs_T} {Q : Option av_T → hs_T → Prop} {x1 x2 x3 : Int32} (hq : Q (some (vI (-11))) S) : Ev d mX11_lay 21 [some (vR 11 0), some (vI x1), some (vI x2), some (vI x3)] [] S Q := by
  refine Ev.bipush (v := (-11)) dX11_lay_21 (by decide) ?_
  exact Ev.iret dX11_lay_23 rfl rfl hq
theorem bkX11_lay_24 {d : Nat} {S : hs_T} {Q : Option av_T → hs_T → Prop} {P : Int32 → hs_T → Prop} {x1 x2 x3 : Int32} (hi32 : vp_in x1 4) (hC : Ci d mX11_in [vJ x2.toInt64, vJ 0, vJ (((S.1 1231 0 x1.toNatClampNeg) - 1).toInt64)] S P) (kk : ∀ v S', P v S' → Ev (d + 1) mX11_lay 39 [some (vR 11 0), some (vI x1), some (vI x2), some (vI x3)] [vI v] S' Q) : Ev (d + 1) mX11_lay 24 [some (vR 11 0), some (vI x1), some (vI x2), some (vI x3)] [] S Q := by
  refine Ev.iload_n dX11_lay_24 rfl rfl ?_
  refine Ev.i2l dX11_lay_25 ?_
  refine Ev.lconst (v := 0) dX11_lay_26 (by decide) ?_
  refine Ev.aload_n dX11_lay_27 rfl rfl ?_
  refine Ev.get (v := vR 1231 0) okX11 (by decide) fl_X11_37 pz_11_0 (ff_11_31 _ _) dX11_lay_28 ?_
  refine Ev.iload_n dX11_lay_31 rfl rfl ?_
  refine Ev.ialoadA (a := x1.toNatClampNeg) pz_1231_0 (by decide) ak_1231 hi32 rfl dX11_lay_32 ?_
  refine Ev.iconst (v := 1) dX11_lay_33 (by decide) ?_
  refine Ev.isub dX11_lay_34 ?_
  refine Ev.i2l dX11_lay_35 ?_
  exact Ev.callS (as := [vJ x2.toInt64, vJ 0, vJ (((S.1 1231 0 x1.toNatClampNeg) - 1).toInt64)]) (rest := []) okX11_in stX11_in ml_X11_58 rfl (Nat.le_of_ble_eq_true rfl) rfl dX11_lay_36 hC (fun r S' h => by obtain ⟨v, rfl, h⟩ := h; exact kk v S' h)
theorem bkX11_lay_39 {d : Nat} {S : hs_T} {Q : Option av_T → hs_T → Prop} {x1 x2 x3 y0 : Int32} (kt : ¬ y0 = 0 → Ev d mX11_lay 45 [some (vR 11 0), some (vI x1), some (vI x2), some (vI x3)] [] S Q) (kf : y0 = 0 → Ev d mX11_lay 42 [some (vR 11 0), some (vI x1), some (vI x2), some (vI x3)] [] S Q) : Ev d mX11_lay 39 [some (vR 11 0), some (vI x1), some (vI x2), some (vI x3)] [vI y0] S Q := by
  exact Ev.if_ne (tgt := 45) dX11_lay_39 (by decide) kt kf
theorem bkX11_lay_42 {d : Nat} {S : hs_T} {Q : Option av_T → hs_T → Prop} {x1 x2 x3 : Int32} (hq : Q (some (vI (-12))) S) : Ev d mX11_lay 42 [some (vR 11 0), some (vI x1), some (vI x2), some (vI x3)] [] S Q := by
  refine Ev.bipush (v := (-12)) dX11_lay_42 (by decide) ?_
  exact Ev.iret dX11_lay_44 rfl rfl hq
theorem bkX11_lay_45 {d : Nat} {S : hs_T} {Q : Option av_T → hs_T → Prop} {x1 x2 x3 : Int32} (hi60 : vp_in x1 4) (kt : ¬ (S.1 1230 0 x1.toNatClampNeg) = 0 → Ev d mX11_lay 69 [some (vR 11 0), some (vI x1), some (vI x2), some (vI x3)] [vI ((40 * x1) + x2), vR 1232 0] S Q) (kf : (S.1 1230 0 x1.toNatClampNeg) = 0 → Ev d mX11_lay 64 [some (vR 11 0), some (vI x1), some (vI x2), some (vI x3)] [vI ((40 * x1) + x2), vR 1232 0] S Q) : Ev d mX11_lay 45 [some (vR 11 0), some (vI x1), some (vI x2), some (vI x3)] [] S Q := by
  refine Ev.aload_n dX11_lay_45 rfl rfl ?_
  refine Ev.get (v := vR 1232 0) okX11 (by decide) fl_X11_40 pz_11_0 (ff_11_32 _ _) dX11_lay_46 ?_
  refine Ev.bipush (v := 40) dX11_lay_49 (by decide) ?_
  refine Ev.iload_n dX11_lay_51 rfl rfl ?_
  refine Ev.imul dX11_lay_52 ?_
  refine Ev.iload_n dX11_lay_53 rfl rfl ?_
  refine Ev.iadd dX11_lay_54 ?_
  refine Ev.aload_n dX11_lay_55 rfl rfl ?_
  refine Ev.get (v := vR 1230 0) okX11 (by decide) fl_X11_34 pz_11_0 (ff_11_30 _ _) dX11_lay_56 ?_
  refine Ev.iload_n dX11_lay_59 rfl rfl ?_
  refine Ev.ialoadA (a := x1.toNatClampNeg) pz_1230_0 (by decide) ak_1230 hi60 rfl dX11_lay_60 ?_
  exact Ev.if_ne (tgt := 69) dX11_lay_61 (by decide) kt kf
theorem bkX11_lay_64 {d : Nat} {S : hs_T} {Q : Option av_T → hs_T → Prop} {x1 x2 x3 y0 : Int32} (kn : Ev d mX11_lay 85 [some (vR 11 0), some (vI x1), some (vI x2), some (vI x3)] [vI x3.toInt8.toInt32, vI y0, vR 1232 0] S Q) : Ev d mX11_lay 64 [some (vR 11 0), some (vI x1), some (vI x2), some (vI x3)] [vI y0, vR 1232 0] S Q := by
  refine Ev.iload_n dX11_lay_64 rfl rfl ?_
  refine Ev.i2b dX11_lay_65 ?_
  refine Ev.goto (tgt := 85) dX11_lay_66 (by decide) ?_
  exact kn
theorem bkX11_lay_69 {d : Nat} {S : hs_T} {Q : Option av_T → hs_T → Prop} {x1 x2 x3 y0 : Int32} (hi74 : vp_in x1 4) (kt : ¬ (S.1 1230 0 x1.toNatClampNeg) = 1 → Ev d mX11_lay 84 [some (vR 11 0), some (vI x1), some (vI x2), some (vI x3)] [vI y0, vR 1232 0] S Q) (kf : (S.1 1230 0 x1.toNatClampNeg) = 1 → Ev d mX11_lay 79 [some (vR 11 0), some (vI x1), some (vI x2), some (vI x3)] [vI y0, vR 1232 0] S Q) : Ev d mX11_lay 69 [some (vR 11 0), some (vI x1), some (vI x2), some (vI x3)] [vI y0, vR 1232 0] S Q := by
  refine Ev.aload_n dX11_lay_69 rfl rfl ?_
  refine Ev.get (v := vR 1230 0) okX11 (by decide) fl_X11_34 pz_11_0 (ff_11_30 _ _) dX11_lay_70 ?_
  refine Ev.iload_n dX11_lay_73 rfl rfl ?_
  refine Ev.ialoadA (a := x1.toNatClampNeg) pz_1230_0 (by decide) ak_1230 hi74 rfl dX11_lay_74 ?_
  refine Ev.iconst (v := 1) dX11_lay_75 (by decide) ?_
  exact Ev.icmp_ne (tgt := 84) dX11_lay_76 (by decide) kt kf
theorem bkX11_lay_79 {d : Nat} {S : hs_T} {Q : Option av_T → hs_T → Prop} {x1 x2 x3 y0 : Int32} (kn : Ev d mX11_lay 85 [some (vR 11 0), some (vI x1), some (vI x2), some (vI x3)] [vI x3.toInt16.toInt32, vI y0, vR 1232 0] S Q) : Ev d mX11_lay 79 [some (vR 11 0), some (vI x1), some (vI x2), some (vI x3)] [vI y0, vR 1232 0] S Q := by
  refine Ev.iload_n dX11_lay_79 rfl rfl ?_
  refine Ev.i2s dX11_lay_80 ?_
  refine Ev.goto (tgt := 85) dX11_lay_81 (by decide) ?_
  exact kn
theorem bkX11_lay_84 {d : Nat} {S : hs_T} {Q : Option av_T → hs_T → Prop} {x1 x2 x3 y0 : Int32} (kn : Ev d mX11_lay 85 [some (vR 11 0), some (vI x1), some (vI x2), some (vI x3)] [vI x3, vI y0, vR 1232 0] S Q) : Ev d mX11_lay 84 [some (vR 11 0), some (vI x1), some (vI x2), some (vI x3)] [vI y0, vR 1232 0] S Q := by
  refine Ev.iload_n dX11_lay_84 rfl rfl ?_
  exact kn
theorem bkX11_lay_85 {d : Nat} {S : hs_T} {Q : Option av_T → hs_T → Prop} {x1 x2 x3 y0 y1 : Int32} (hi85 : vp_in y1 160) (hq : Q (some (vI 1)) (sk_ S 1232 0 (upd (S.1 1232 0) y1.toNatClampNeg y0))) : Ev d mX11_lay 85 [some (vR 11 0), some (vI x1), some (vI x2), some (vI x3)] [vI y0, vI y1, vR 1232 0] S Q := by
  refine Ev.iastoreA (a := y1.toNatClampNeg) pz_1232_0 (by decide) ak_1232 hi85 rfl rfl dX11_lay_85 ?_
  refine Ev.iconst (v := 1) dX11_lay_86 (by decide) ?_
  exact Ev.iret dX11_lay_87 rfl rfl hq
/-! EightWiresModel.read(IIII)I -/
theorem bkX11_read_0 {d : Nat} {S : hs_T} {Q : Option av_T → hs_T → Prop} {P : Int32 → hs_T → Prop} {x1 x2 x3 x4 : Int32} {o5 o6 o7 o8 o9 o10 o11 : Option av_T} (hC : Ci d mX11_isSheet [vI x1, vI x2] S P) (kk : ∀ v S', P v S' → Ev (d + 1) mX11_read 5 [some (vR 11 0), some (vI x1), some (vI x2), some (vI x3), some (vI x4), o5, o6, o7, o8, o9, o10, o11] [vI v] S' Q) : Ev (d + 1) mX11_read 0 [some (vR 11 0), some (vI x1), some (vI x2), some (vI x3), some (vI x4), o5, o6, o7, o8, o9, o10, o11] [] S Q := by
  refine Ev.iload_n dX11_read_0 rfl rfl ?_
  refine Ev.iload_n dX11_read_1 rfl rfl ?_
  exact Ev.callS (as := [vI x1, vI x2]) (rest := []) okX11_isSheet stX11_isSheet ml_X11_297 rfl (Nat.le_of_ble_eq_true rfl) rfl dX11_read_2 hC (fun r S' h => by obtain ⟨v, rfl, h⟩ := h; exact kk v S' h)
theorem bkX11_read_5 {d : Nat} {S : hs_T} {Q : Option av_T → hs_T → Prop} {x1 x2 x3 x4 y0 : Int32} {o5 o6 o7 o8 o9 o10 o11 : Option av_T} (kt : y0 = 0 → Ev d mX11_read 21 [some (vR 11 0), some (vI x1), some (vI x2), some (vI x3), some (vI x4), o5, o6, o7, o8, o9, o10, o11] [] S Q) (kf : ¬ y0 = 0 → Ev d mX11_read 8 [some (vR 11 0), some (vI x1), some (vI x2), some (vI x3), some (vI x4), o5, o6, o7, o8, o9, o10, o11] [] S Q) : Ev d mX11_read 5 [some (vR 11 0), some (vI x1), some (vI x2), some (vI x3), some (vI x4), o5, o6, o7, o8, o9, o10, o11] [vI y0] S Q := by
  exact Ev.if_eq (tgt := 21) dX11_read_5 (by decide) kt kf
theorem bkX11_read_8 {d : Nat} {S : hs_T} {Q : Option av_T → hs_T → Prop} {P : Int32 → hs_T → Prop} {x1 x2 x3 x4 : Int32} {o5 o6 o7 o8 o9 o10 o11 : Option av_T} (hC : Ci d mX11_in [vJ x4.toInt64, vJ 0, vJ 20] S P) (kk : ∀ v S', P v S' → Ev (d + 1) mX11_read 18 [some (vR 11 0), some (vI x1), some (vI x2), some (vI x3), some (vI x4), o5, o6, o7, o8, o9, o10, o11] [vI v] S' Q) : Ev (d + 1) mX11_read 8 [some (vR 11 0), some (vI x1), some (vI x2), some (vI x3), some (vI x4), o5, o6, o7, o8, o9, o10, o11] [] S Q := by
  refine Ev.iload dX11_read_8 rfl ?_
  refine Ev.i2l dX11_read_10 ?_
  refine Ev.lconst (v := 0) dX11_read_11 (by decide) ?_
  refine Ev.ldc2 kl_X11_142 dX11_read_12 ?_
  exact Ev.callS (as := [vJ x4.toInt64, vJ 0, vJ 20]) (rest := []) okX11_in stX11_in ml_X11_58 rfl (Nat.le_of_ble_eq_true rfl) rfl dX11_read_15 hC (fun r S' h => by obtain ⟨v, rfl, h⟩ := h; exact kk v S' h)
theorem bkX11_read_18 {d : Nat} {S : hs_T} {Q : Option av_T → hs_T → Prop} {x1 x2 x3 x4 y0 : Int32} {o5 o6 o7 o8 o9 o10 o11 : Option av_T} (kt : ¬ y0 = 0 → Ev d mX11_read 23 [some (vR 11 0), some (vI x1), some (vI x2), some (vI x3), some (vI x4), o5, o6, o7, o8, o9, o10, o11] [] S Q) (kf : y0 = 0 → Ev d mX11_read 21 [some (vR 11 0), some (vI x1), some (vI x2), some (vI x3), some (vI x4), o5, o6, o7, o8, o9, o10, o11] [] S Q) : Ev d mX11_read 18 [some (vR 11 0), some (vI x1), some (vI x2), some (vI x3), some (vI x4), o5, o6, o7, o8, o9, o10, o11] [vI y0] S Q := by
  exact Ev.if_ne (tgt := 23) dX11_read_18 (by decide) kt kf
theorem bkX11_read_21 {d : Nat} {S : hs_T} {Q : Option av_T → hs_T → Prop} {x1 x2 x3 x4 : Int32} {o5 o6 o7 o8 o9 o10 o11 : Option av_T} (hq : Q (some (vI (-1))) S) : Ev d mX11_read 21 [some (vR 11 0), some (vI x1), some (vI x2), some (vI x3), some (vI x4), o5, o6, o7, o8, o9, o10, o11] [] S Q := by
  refine Ev.iconst (v := (-1)) dX11_read_21 (by decide) ?_
  exact Ev.iret dX11_read_22 rfl rfl hq
theorem bkX11_read_23 {d : Nat} {S : hs_T} {Q : Option av_T → hs_T → Prop} {x1 x2 x3 x4 : Int32} {o5 o6 o7 o8 o9 o10 o11 : Option av_T} (kn : Ev d mX11_read 38 [some (vR 11 0), some (vI x1), some (vI x2), some (vI x3), some (vI x4), some (vI (S.1 11 0 3)), some (vI 0), some (vI 0), some (vI 0), o9, o10, o11] [] S Q) : Ev d mX11_read 23 [some (vR 11 0), some (vI x1), some (vI x2), some (vI x3), some (vI x4), o5, o6, o7, o8, o9, o10, o11] [] S Q := by
  refine Ev.aload_n dX11_read_23 rfl rfl ?_
  refine Ev.get (v := vI (S.1 11 0 3)) okX11 (by decide) fl_X11_144 pz_11_0 (ff_11_3 _ _) dX11_read_24 ?_
  refine Ev.istore (ls' := [some (vR 11 0), some (vI x1), some (vI x2), some (vI x3), some (vI x4), some (vI (S.1 11 0 3)), o6, o7, o8, o9, o10, o11]) dX11_read_27 (by decide) rfl ?_
  refine Ev.iconst (v := 0) dX11_read_29 (by decide) ?_
  refine Ev.istore (ls' := [some (vR 11 0), some (vI x1), some (vI x2), some (vI x3), some (vI x4), some (vI (S.1 11 0 3)), some (vI 0), o7, o8, o9, o10, o11]) dX11_read_30 (by decide) rfl ?_
  refine Ev.iconst (v := 0) dX11_read_32 (by decide) ?_
  refine Ev.istore (ls' := [some (vR 11 0), some (vI x1), some (vI x2), some (vI x3), some (vI x4), some (vI (S.1 11 0 3)), some (vI 0), some (vI 0), o8, o9, o10, o11]) dX11_read_33 (by decide) rfl ?_
  refine Ev.iconst (v := 0) dX11_read_35 (by decide) ?_
  refine Ev.istore (ls' := [some (vR 11 0), some (vI x1), some (vI x2), some (vI x3), some (vI x4), some (vI (S.1 11 0 3)), some (vI 0), some (vI 0), some (vI 0), o9, o10, o11]) dX11_read_36 (by decide) rfl ?_
  exact kn
theorem bkX11_read_38 {d : Nat} {S : hs_T} {Q : Option av_T → hs_T → Prop} {x1 x2 x3 x4 x5 x6 x7 x8 : Int32} {o9 o10 o11 : Option av_T} (kt : x4 ≤ x8 → Ev d mX11_read 217 [some (vR 11 0), some (vI x1), some (vI x2), some (vI x3), some (vI x4), some (vI x5), some (vI x6), some (vI x7), some (vI x8), o9, o10, o11] [] S Q) (kf : ¬ x4 ≤ x8 → Ev d mX11_read 45 [some (vR 11 0), some (vI x1), some (vI x2), some (vI x3), some (vI x4), some (vI x5), some (vI x6), some (vI x7), some (vI x8), o9, o10, o11] [] S Q) : Ev d mX11_read 38 [some (vR 11 0), some (vI x1), some (vI x2), some (vI x3), some (vI x4), some (vI x5), some (vI x6), some (vI x7), some (vI x8), o9, o10, o11] [] S Q := by
  refine Ev.iload dX11_read_38 rfl ?_
  refine Ev.iload dX11_read_40 rfl ?_
  exact Ev.icmp_ge (tgt := 217) dX11_read_42 (by decide) kt kf
theorem bkX11_read_45 {d : Nat} {S : hs_T} {Q : Option av_T → hs_T → Prop} {x1 x2 x3 x4 x5 x6 x7 x8 : Int32} {o9 o10 o11 : Option av_T} (kt : ¬ x6 = 0 → Ev d mX11_read 217 [some (vR 11 0), some (vI x1), some (vI x2), some (vI x3), some (vI x4), some (vI x5), some (vI x6), some (vI x7), some (vI x8), o9, o10, o11] [] S Q) (kf : x6 = 0 → Ev d mX11_read 50 [some (vR 11 0), some (vI x1), some (vI x2), some (vI x3), some (vI x4), some (vI x5), some (vI x6), some (vI x7), some (vI x8), o9, o10, o11] [] S Q) : Ev d mX11_read 45 [some (vR 11 0), some (vI x1), some (vI x2), some (vI x3), some (vI x4), some (vI x5), some (vI x6), some (vI x7), some (vI x8), o9, o10, o11] [] S Q := by
  refine Ev.iload dX11_read_45 rfl ?_
  exact Ev.if_ne (tgt := 217) dX11_read_47 (by decide) kt kf
theorem bkX11_read_50 {d : Nat} {S : hs_T} {Q : Option av_T → hs_T → Prop} {x1 x2 x3 x4 x5 x6 x7 x8 : Int32} {o9 o10 o11 : Option av_T} (kn : Ev d mX11_read 53 [some (vR 11 0), some (vI x1), some (vI x2), some (vI x3), some (vI x4), some (vI x5), some (vI x6), some (vI x7), some (vI x8), some (vI 0), o10, o11] [] S Q) : Ev d mX11_read 50 [some (vR 11 0), some (vI x1), some (vI x2), some (vI x3), some (vI x4), some (vI x5), some (vI x6), some (vI x7), some (vI x8), o9, o10, o11] [] S Q := by
  refine Ev.iconst (v := 0) dX11_read_50 (by decide) ?_
  refine Ev.istore (ls' := [some (vR 11 0), some (vI x1), some (vI x2), some (vI x3), some (vI x4), some (vI x5), some (vI x6), some (vI x7), some (vI x8), some (vI 0), o10, o11]) dX11_read_51 (by decide) rfl ?_
  exact kn
theorem bkX11_read_53 {d : Nat} {S : hs_T} {Q : Option av_T → hs_T → Prop} {x1 x2 x3 x4 x5 x6 x7 x8 x9 : Int32} {o10 o11 : Option av_T} (kt : 2 ≤ x9 → Ev d mX11_read 140 [some (vR 11 0), some (vI x1), some (vI x2), some (vI x3), some (vI x4), some (vI x5), some (vI x6), some (vI x7), some (vI x8), some (vI x9), o10, o11] [] S Q) (kf : ¬ 2 ≤ x9 → Ev d mX11_read 59 [some (vR 11 0), some (vI x1), some (vI x2), some (vI x3), some (vI x4), some (vI x5), some (vI x6), some (vI x7), some (vI x8), some (vI x9), o10, o11] [] S Q) : Ev d mX11_read 53 [some (vR 11 0), some (vI x1), some (vI x2), some (vI x3), some (vI x4), some (vI x5), some (vI x6), some (vI x7), some (vI x8), some (vI x9), o10, o11] [] S Q := by
  refine Ev.iload dX11_read_53 rfl ?_
  refine Ev.iconst (v := 2) dX11_read_55 (by decide) ?_
  exact Ev.icmp_ge (tgt := 140) dX11_read_56 (by decide) kt kf
theorem bkX11_read_59 {d : Nat} {S : hs_T} {Q : Option av_T → hs_T → Prop} {x1 x2 x3 x4 x5 x6 x7 x8 x9 : Int32} {o10 o11 : Option av_T} (kt : ¬ x6 = 0 → Ev d mX11_read 140 [some (vR 11 0), some (vI x1), some (vI x2), some (vI x3), some (vI x4), some (vI x5), some (vI x6), some (vI x7), some (vI x8), some (vI x9), o10, o11] [] S Q) (kf : x6 = 0 → Ev d mX11_read 64 [some (vR 11 0), some (vI x1), some (vI x2), some (vI x3), some (vI x4), some (vI x5), some (vI x6), some (vI x7), some (vI x8), some (vI x9), o10, o11] [] S Q) : Ev d mX11_read 59 [some (vR 11 0), some (vI x1), some (vI x2), some (vI x3), some (vI x4), some (vI x5), some (vI x6), some (vI x7), some (vI x8), some (vI x9), o10, o11] [] S Q := by
  refine Ev.iload dX11_read_59 rfl ?_
  exact Ev.if_ne (tgt := 140) dX11_read_61 (by decide) kt kf
theorem bkX11_read_64 {d : Nat} {S : hs_T} {Q : Option av_T → hs_T → Prop} {x1 x2 x3 x4 x5 x6 x7 x8 x9 : Int32} {o10 o11 : Option av_T} (hi83 : vp_in x1 4) (kt : ¬ (S.1 1230 0 x1.toNatClampNeg) = (-4) → Ev d mX11_read 93 [some (vR 11 0), some (vI x1), some (vI x2), some (vI x3), some (vI x4), some (vI x5), some (vI x6), some (vI x7), some (vI x8), some (vI x9), some (vJ ((x3.toInt64 + ((2 * x8).toInt64)) + x9.toInt64)), none] [] S Q) (kf : (S.1 1230 0 x1.toNatClampNeg) = (-4) → Ev d mX11_read 89 [some (vR 11 0), some (vI x1), some (vI x2), some (vI x3), some (vI x4), some (vI x5), some (vI x6), some (vI x7), some (vI x8), some (vI x9), some (vJ ((x3.toInt64 + ((2 * x8).toInt64)) + x9.toInt64)), none] [] S Q) : Ev d mX11_read 64 [some (vR 11 0), some (vI x1), some (vI x2), some (vI x3), some (vI x4), some (vI x5), some (vI x6), some (vI x7), some (vI x8), some (vI x9), o10, o11] [] S Q := by
  refine Ev.iload_n dX11_read_64 rfl rfl ?_
  refine Ev.i2l dX11_read_65 ?_
  refine Ev.iconst (v := 2) dX11_read_66 (by decide) ?_
  refine Ev.iload dX11_read_67 rfl ?_
  refine Ev.imul dX11_read_69 ?_
  refine Ev.i2l dX11_read_70 ?_
  refine Ev.ladd dX11_read_71 ?_
  refine Ev.iload dX11_read_72 rfl ?_
  refine Ev.i2l dX11_read_74 ?_
  refine Ev.ladd dX11_read_75 ?_
  refine Ev.lstore (ls' := [some (vR 11 0), some (vI x1), some (vI x2), some (vI x3), some (vI x4), some (vI x5), some (vI x6), some (vI x7), some (vI x8), some (vI x9), some (vJ ((x3.toInt64 + ((2 * x8).toInt64)) + x9.toInt64)), none]) dX11_read_76 (by decide) rfl ?_
  refine Ev.aload_n dX11_read_78 rfl rfl ?_
  refine Ev.get (v := vR 1230 0) okX11 (by decide) fl_X11_34 pz_11_0 (ff_11_30 _ _) dX11_read_79 ?_
  refine Ev.iload_n dX11_read_82 rfl rfl ?_
  refine Ev.ialoadA (a := x1.toNatClampNeg) pz_1230_0 (by decide) ak_1230 hi83 rfl dX11_read_83 ?_
  refine Ev.bipush (v := (-4)) dX11_read_84 (by decide) ?_
  exact Ev.icmp_ne (tgt := 93) dX11_read_86 (by decide) kt kf
theorem bkX11_read_89 {d : Nat} {S : hs_T} {Q : Option av_T → hs_T → Prop} {x1 x2 x3 x4 x5 x6 x7 x8 x9 : Int32} {x10 : Int64} (kn : Ev d mX11_read 132 [some (vR 11 0), some (vI x1), some (vI x2), some (vI x3), some (vI x4), some (vI x5), some (vI x6), some (vI x7), some (vI x8), some (vI x9), some (vJ x10), none] [vI 1] S Q) : Ev d mX11_read 89 [some (vR 11 0), some (vI x1), some (vI x2), some (vI x3), some (vI x4), some (vI x5), some (vI x6), some (vI x7), some (vI x8), some (vI x9), some (vJ x10), none] [] S Q := by
  refine Ev.iconst (v := 1) dX11_read_89 (by decide) ?_
  refine Ev.goto (tgt := 132) dX11_read_90 (by decide) ?_
  exact kn
theorem bkX11_read_93 {d : Nat} {S : hs_T} {Q : Option av_T → hs_T → Prop} {x1 x2 x3 x4 x5 x6 x7 x8 x9 : Int32} {x10 : Int64} (hi98 : vp_in x1 4) (kt : (S.1 1230 0 x1.toNatClampNeg) = x2 → Ev d mX11_read 107 [some (vR 11 0), some (vI x1), some (vI x2), some (vI x3), some (vI x4), some (vI x5), some (vI x6), some (vI x7), some (vI x8), some (vI x9), some (vJ x10), none] [] S Q) (kf : ¬ (S.1 1230 0 x1.toNatClampNeg) = x2 → Ev d mX11_read 103 [some (vR 11 0), some (vI x1), some (vI x2), some (vI x3), some (vI x4), some (vI x5), some (vI x6), some (vI x7), some (vI x8), some (vI x9), some (vJ x10), none] [] S Q) : Ev d mX11_read 93 [some (vR 11 0), some (vI x1), some (vI x2), some (vI x3), some (vI x4), some (vI x5), some (vI x6), some (vI x7), some (vI x8), some (vI x9), some (vJ x10), none] [] S Q := by
  refine Ev.aload_n dX11_read_93 rfl rfl ?_
  refine Ev.get (v := vR 1230 0) okX11 (by decide) fl_X11_34 pz_11_0 (ff_11_30 _ _) dX11_read_94 ?_
  refine Ev.iload_n dX11_read_97 rfl rfl ?_
  refine Ev.ialoadA (a := x1.toNatClampNeg) pz_1230_0 (by decide) ak_1230 hi98 rfl dX11_read_98 ?_
  refine Ev.iload_n dX11_read_99 rfl rfl ?_
  exact Ev.icmp_eq (tgt := 107) dX11_read_100 (by decide) kt kf
theorem bkX11_read_103 {d : Nat} {S : hs_T} {Q : Option av_T → hs_T → Prop} {x1 x2 x3 x4 x5 x6 x7 x8 x9 : Int32} {x10 : Int64} (kn : Ev d mX11_read 132 [some (vR 11 0), some (vI x1), some (vI x2), some (vI x3), some (vI x4), some (vI x5), some (vI x6), some (vI x7), some (vI x8), some (vI x9), some (vJ x10), none] [vI 3] S Q) : Ev d mX11_read 103 [some (vR 11 0), some (vI x1), some (vI x2), some (vI x3), some (vI x4), some (vI x5), some (vI x6), some (vI x7), some (vI x8), some (vI x9), some (vJ x10), none] [] S Q := by
  refine Ev.iconst (v := 3) dX11_read_103 (by decide) ?_
  refine Ev.goto (tgt := 132) dX11_read_104 (by decide) ?_
  exact kn
theorem bkX11_read_107 {d : Nat} {S : hs_T} {Q : Option av_T → hs_T → Prop} {x1 x2 x3 x4 x5 x6 x7 x8 x9 : Int32} {x10 : Int64} (kt : (lg_cmp x10 0) < 0 → Ev d mX11_read 127 [some (vR 11 0), some (vI x1), some (vI x2), some (vI x3), some (vI x4), some (vI x5), some (vI x6), some (vI x7), some (vI x8), some (vI x9), some (vJ x10), none] [] S Q) (kf : ¬ (lg_cmp x10 0) < 0 → Ev d mX11_read 114 [some (vR 11 0), some (vI x1), some (vI x2), some (vI x3), some (vI x4), some (vI x5), some (vI x6), some (vI x7), some (vI x8), some (vI x9), some (vJ x10), none] [] S Q) : Ev d mX11_read 107 [some (vR 11 0), some (vI x1), some (vI x2), some (vI x3), some (vI x4), some (vI x5), some (vI x6), some (vI x7), some (vI x8), some (vI x9), some (vJ x10), none] [] S Q := by
  refine Ev.lload dX11_read_107 rfl ?_
  refine Ev.lconst (v := 0) dX11_read_109 (by decide) ?_
  refine Ev.lcmp dX11_read_110 ?_
  exact Ev.if_lt (tgt := 127) dX11_read_111 (by decide) kt kf
theorem bkX11_read_114 {d : Nat} {S : hs_T} {Q : Option av_T → hs_T → Prop} {x1 x2 x3 x4 x5 x6 x7 x8 x9 : Int32} {x10 : Int64} (hi121 : vp_in x1 4) (kt : (lg_cmp x10 ((S.1 1231 0 x1.toNatClampNeg).toInt64)) < 0 → Ev d mX11_read 131 [some (vR 11 0), some (vI x1), some (vI x2), some (vI x3), some (vI x4), some (vI x5), some (vI x6), some (vI x7), some (vI x8), some (vI x9), some (vJ x10), none] [] S Q) (kf : ¬ (lg_cmp x10 ((S.1 1231 0 x1.toNatClampNeg).toInt64)) < 0 → Ev d mX11_read 127 [some (vR 11 0), some (vI x1), some (vI x2), some (vI x3), some (vI x4), some (vI x5), some (vI x6), some (vI x7), some (vI x8), some (vI x9), some (vJ x10), none] [] S Q) : Ev d mX11_read 114 [some (vR 11 0), some (vI x1), some (vI x2), some (vI x3), some (vI x4), some (vI x5), some (vI x6), some (vI x7), some (vI x8), some (vI x9), some (vJ x10), none] [] S Q := by
  refine Ev.lload dX11_read_114 rfl ?_
  refine Ev.aload_n dX11_read_116 rfl rfl ?_
  refine Ev.get (v := vR 1231 0) okX11 (by decide) fl_X11_37 pz_11_0 (ff_11_31 _ _) dX11_read_117 ?_
  refine Ev.iload_n dX11_read_120 rfl rfl ?_
  refine Ev.ialoadA (a := x1.toNatClampNeg) pz_1231_0 (by decide) ak_1231 hi121 rfl dX11_read_121 ?_
  refine Ev.i2l dX11_read_122 ?_
  refine Ev.lcmp dX11_read_123 ?_
  exact Ev.if_lt (tgt := 131) dX11_read_124 (by decide) kt kf
theorem bkX11_read_127 {d : Nat} {S : hs_T} {Q : Option av_T → hs_T → Prop} {x1 x2 x3 x4 x5 x6 x7 x8 x9 : Int32} {x10 : Int64} (kn : Ev d mX11_read 132 [some (vR 11 0), some (vI x1), some (vI x2), some (vI x3), some (vI x4), some (vI x5), some (vI x6), some (vI x7), some (vI x8), some (vI x9), some (vJ x10), none] [vI 2] S Q) : Ev d mX11_read 127 [some (vR 11 0), some (vI x1), some (vI x2), some (vI x3), some (vI x4), some (vI x5), some (vI x6), some (vI x7), some (vI x8), some (vI x9), some (vJ x10), none] [] S Q := by
  refine Ev.iconst (v := 2) dX11_read_127 (by decide) ?_
  refine Ev.goto (tgt := 132) dX11_read_128 (by decide) ?_
  exact kn
theorem bkX11_read_131 {d : Nat} {S : hs_T} {Q : Option av_T → hs_T → Prop} {x1 x2 x3 x4 x5 x6 x7 x8 x9 : Int32} {x10 : Int64} (kn : Ev d mX11_read 132 [some (vR 11 0), some (vI x1), some (vI x2), some (vI x3), some (vI x4), some (vI x5), some (vI x6), some (vI x7), some (vI x8), some (vI x9), some (vJ x10), none] [vI 0] S Q) : Ev d mX11_read 131 [some (vR 11 0), some (vI x1), some (vI x2), some (vI x3), some (vI x4), some (vI x5), some (vI x6), some (vI x7), some (vI x8), some (vI x9), some (vJ x10), none] [] S Q := by
  refine Ev.iconst (v := 0) dX11_read_131 (by decide) ?_
  exact kn
theorem bkX11_read_132 {d : Nat} {S : hs_T} {Q : Option av_T → hs_T → Prop} {x1 x2 x3 x4 x5 x6 x7 x8 x9 y0 : Int32} {x10 : Int64} (kn : Ev d mX11_read 53 [some (vR 11 0), some (vI x1), some (vI x2), some (vI x3), some (vI x4), some (vI x5), some (vI y0), some (vI x7), some (vI x8), some (vI (x9 + 1)), some (vJ x10), none] [] S Q) : Ev d mX11_read 132 [some (vR 11 0), some (vI x1), some (vI x2), some (vI x3), some (vI x4), some (vI x5), some (vI x6), some (vI x7), some (vI x8), some (vI x9), some (vJ x10), none] [vI y0] S Q := by
  refine Ev.istore (ls' := [some (vR 11 0), some (vI x1), some (vI x2), some (vI x3), some (vI x4), some (vI x5), some (vI y0), some (vI x7), some (vI x8), some (vI x9), some (vJ x10), none]) dX11_read_132 (by decide) rfl ?_
  refine Ev.iinc (v := (x9 + 1)) (ls' := [some (vR 11 0), some (vI x1), some (vI x2), some (vI x3), some (vI x4), some (vI x5), some (vI y0), some (vI x7), some (vI x8), some (vI (x9 + 1)), some (vJ x10), none]) dX11_read_134 rfl rfl (by decide) rfl ?_
  refine Ev.goto (tgt := 53) dX11_read_137 (by decide) ?_
  exact kn
theorem bkX11_read_140 {d : Nat} {S : hs_T} {Q : Option av_T → hs_T → Prop} {x1 x2 x3 x4 x5 x6 x7 x8 x9 : Int32} {o10 o11 : Option av_T} (kt : ¬ x6 = 0 → Ev d mX11_read 211 [some (vR 11 0), some (vI x1), some (vI x2), some (vI x3), some (vI x4), some (vI x5), some (vI x6), some (vI x7), some (vI x8), some (vI x9), o10, o11] [] S Q) (kf : x6 = 0 → Ev d mX11_read 145 [some (vR 11 0), some (vI x1), some (vI x2), some (vI x3), some (vI x4), some (vI x5), some (vI x6), some (vI x7), some (vI x8), some (vI x9), o10, o11] [] S Q) : Ev d mX11_read 140 [some (vR 11 0), some (vI x1), some (vI x2), some (vI x3), some (vI x4), some (vI x5), some (vI x6), some (vI x7), some (vI x8), some (vI x9), o10, o11] [] S Q := by
  refine Ev.iload dX11_read_140 rfl ?_
  exact Ev.if_ne (tgt := 211) dX11_read_142 (by decide) kt kf
theorem bkX11_read_145 {d : Nat} {S : hs_T} {Q : Option av_T → hs_T → Prop} {P : Int32 → hs_T → Prop} {x1 x2 x3 x4 x5 x6 x7 x8 x9 : Int32} {o10 o11 : Option av_T} (hi165 : vp_in (((40 * x1) + x3) + (2 * x8)) 160) (hi174 : vp_in ((((40 * x1) + x3) + (2 * x8)) + 1) 160) (hC : Ci d mX11_see [vR 11 0, vI (S.1 1232 0 (((40 * x1) + x3) + (2 * x8)).toNatClampNeg), vI (S.1 1232 0 ((((40 * x1) + x3) + (2 * x8)) + 1).toNatClampNeg)] S P) (kk : ∀ v S', P v S' → Ev (d + 1) mX11_read 178 [some (vR 11 0), some (vI x1), some (vI x2), some (vI x3), some (vI x4), some (vI x5), some (vI x6), some (vI x7), some (vI x8), some (vI (((40 * x1) + x3) + (2 * x8))), o10, o11] [vI v] S' Q) : Ev (d + 1) mX11_read 145 [some (vR 11 0), some (vI x1), some (vI x2), some (vI x3), some (vI x4), some (vI x5), some (vI x6), some (vI x7), some (vI x8), some (vI x9), o10, o11] [] S Q := by
  refine Ev.bipush (v := 40) dX11_read_145 (by decide) ?_
  refine Ev.iload_n dX11_read_147 rfl rfl ?_
  refine Ev.imul dX11_read_148 ?_
  refine Ev.iload_n dX11_read_149 rfl rfl ?_
  refine Ev.iadd dX11_read_150 ?_
  refine Ev.iconst (v := 2) dX11_read_151 (by decide) ?_
  refine Ev.iload dX11_read_152 rfl ?_
  refine Ev.imul dX11_read_154 ?_
  refine Ev.iadd dX11_read_155 ?_
  refine Ev.istore (ls' := [some (vR 11 0), some (vI x1), some (vI x2), some (vI x3), some (vI x4), some (vI x5), some (vI x6), some (vI x7), some (vI x8), some (vI (((40 * x1) + x3) + (2 * x8))), o10, o11]) dX11_read_156 (by decide) rfl ?_
  refine Ev.aload_n dX11_read_158 rfl rfl ?_
  refine Ev.aload_n dX11_read_159 rfl rfl ?_
  refine Ev.get (v := vR 1232 0) okX11 (by decide) fl_X11_40 pz_11_0 (ff_11_32 _ _) dX11_read_160 ?_
  refine Ev.iload dX11_read_163 rfl ?_
  refine Ev.ialoadA (a := (((40 * x1) + x3) + (2 * x8)).toNatClampNeg) pz_1232_0 (by decide) ak_1232 hi165 rfl dX11_read_165 ?_
  refine Ev.aload_n dX11_read_166 rfl rfl ?_
  refine Ev.get (v := vR 1232 0) okX11 (by decide) fl_X11_40 pz_11_0 (ff_11_32 _ _) dX11_read_167 ?_
  refine Ev.iload dX11_read_170 rfl ?_
  refine Ev.iconst (v := 1) dX11_read_172 (by decide) ?_
  refine Ev.iadd dX11_read_173 ?_
  refine Ev.ialoadA (a := ((((40 * x1) + x3) + (2 * x8)) + 1).toNatClampNeg) pz_1232_0 (by decide) ak_1232 hi174 rfl dX11_read_174 ?_
  exact Ev.callV (as := [vI (S.1 1232 0 (((40 * x1) + x3) + (2 * x8)).toNatClampNeg), vI (S.1 1232 0 ((((40 * x1) + x3) + (2 * x8)) + 1).toNatClampNeg)]) (rest := []) okX11_see in_X11_see ml_X11_300 rfl (Nat.le_of_ble_eq_true rfl) pz_11_0 (by decide) rfl rfl dX11_read_175 hC (fun r S' h => by obtain ⟨v, rfl, h⟩ := h; exact kk v S' h)
theorem bkX11_read_178 {d : Nat} {S : hs_T} {Q : Option av_T → hs_T → Prop} {x1 x2 x3 x4 x5 x6 x7 x8 x9 y0 : Int32} {o10 o11 : Option av_T} (kt : 0 ≤ y0 → Ev d mX11_read 208 [some (vR 11 0), some (vI x1), some (vI x2), some (vI x3), some (vI x4), some (vI x5), some (vI x6), some (vI x7), some (vI x8), some (vI x9), some (vI y0), o11] [] S Q) (kf : ¬ 0 ≤ y0 → Ev d mX11_read 185 [some (vR 11 0), some (vI x1), some (vI x2), some (vI x3), some (vI x4), some (vI x5), some (vI x6), some (vI x7), some (vI x8), some (vI x9), some (vI y0), o11] [] S Q) : Ev d mX11_read 178 [some (vR 11 0), some (vI x1), some (vI x2), some (vI x3), some (vI x4), some (vI x5), some (vI x6), some (vI x7), some (vI x8), some (vI x9), o10, o11] [vI y0] S Q := by
  refine Ev.istore (ls' := [some (vR 11 0), some (vI x1), some (vI x2), some (vI x3), some (vI x4), some (vI x5), some (vI x6), some (vI x7), some (vI x8), some (vI x9), some (vI y0), o11]) dX11_read_178 (by decide) rfl ?_
  refine Ev.iload dX11_read_180 rfl ?_
  exact Ev.if_ge (tgt := 208) dX11_read_182 (by decide) kt kf
theorem bkX11_read_185 {d : Nat} {S : hs_T} {Q : Option av_T → hs_T → Prop} {x1 x2 x3 x4 x5 x6 x7 x8 x9 x10 : Int32} {o11 : Option av_T} (kt : ¬ x10 = (-1) → Ev d mX11_read 205 [some (vR 11 0), some (vI x1), some (vI x2), some (vI x3), some (vI x4), some (vI x5), some (vI x6), some (vI x7), some (vI x8), some (vI x9), some (vI x10), o11] [] (sk_ S 11 0 (upd (S.1 11 0) 3 x5)) Q) (kf : x10 = (-1) → Ev d mX11_read 197 [some (vR 11 0), some (vI x1), some (vI x2), some (vI x3), some (vI x4), some (vI x5), some (vI x6), some (vI x7), some (vI x8), some (vI x9), some (vI x10), o11] [] (sk_ S 11 0 (upd (S.1 11 0) 3 x5)) Q) : Ev d mX11_read 185 [some (vR 11 0), some (vI x1), some (vI x2), some (vI x3), some (vI x4), some (vI x5), some (vI x6), some (vI x7), some (vI x8), some (vI x9), some (vI x10), o11] [] S Q := by
  refine Ev.aload_n dX11_read_185 rfl rfl ?_
  refine Ev.iload dX11_read_186 rfl ?_
  refine Ev.put okX11 (by decide) fl_X11_144 pz_11_0 (by decide) rfl rfl rfl rfl dX11_read_188 ?_
  refine Ev.iload dX11_read_191 rfl ?_
  refine Ev.iconst (v := (-1)) dX11_read_193 (by decide) ?_
  exact Ev.icmp_ne (tgt := 205) dX11_read_194 (by decide) kt kf
theorem bkX11_read_197 {d : Nat} {S : hs_T} {Q : Option av_T → hs_T → Prop} {x1 x2 x3 x4 x5 x6 x7 x8 x9 x10 : Int32} {o11 : Option av_T} (kn : Ev d mX11_read 207 [some (vR 11 0), some (vI x1), some (vI x2), some (vI x3), some (vI x4), some (vI x5), some (vI x6), some (vI x7), some (vI x8), some (vI x9), some (vI x10), o11] [vI ((-20) - x8)] S Q) : Ev d mX11_read 197 [some (vR 11 0), some (vI x1), some (vI x2), some (vI x3), some (vI x4), some (vI x5), some (vI x6), some (vI x7), some (vI x8), some (vI x9), some (vI x10), o11] [] S Q := by
  refine Ev.bipush (v := (-20)) dX11_read_197 (by decide) ?_
  refine Ev.iload dX11_read_199 rfl ?_
  refine Ev.isub dX11_read_201 ?_
  refine Ev.goto (tgt := 207) dX11_read_202 (by decide) ?_
  exact kn
theorem bkX11_read_205 {d : Nat} {S : hs_T} {Q : Option av_T → hs_T → Prop} {x1 x2 x3 x4 x5 x6 x7 x8 x9 x10 : Int32} {o11 : Option av_T} (kn : Ev d mX11_read 207 [some (vR 11 0), some (vI x1), some (vI x2), some (vI x3), some (vI x4), some (vI x5), some (vI x6), some (vI x7), some (vI x8), some (vI x9), some (vI x10), o11] [vI (-3)] S Q) : Ev d mX11_read 205 [some (vR 11 0), some (vI x1), some (vI x2), some (vI x3), some (vI x4), some (vI x5), some (vI x6), some (vI x7), some (vI x8), some (vI x9), some (vI x10), o11] [] S Q := by
  refine Ev.bipush (v := (-3)) dX11_read_205 (by decide) ?_
  exact kn
theorem bkX11_read_207 {d : Nat} {S : hs_T} {Q : Option av_T → hs_T → Prop} {x1 x2 x3 x4 x5 x6 x7 x8 x9 x10 y0 : Int32} {o11 : Option av_T} (hq : Q (some (vI y0)) S) : Ev d mX11_read 207 [some (vR 11 0), some (vI x1), some (vI x2), some (vI x3), some (vI x4), some (vI x5), some (vI x6), some (vI x7), some (vI x8), some (vI x9), some (vI x10), o11] [vI y0] S Q := by
  exact Ev.iret dX11_read_207 rfl rfl hq
theorem bkX11_read_208 {d : Nat} {S : hs_T} {Q : Option av_T → hs_T → Prop} {x1 x2 x3 x4 x5 x6 x7 x8 x9 x10 : Int32} {o11 : Option av_T} (kn : Ev d mX11_read 211 [some (vR 11 0), some (vI x1), some (vI x2), some (vI x3), some (vI x4), some (vI x5), some (vI x6), some (vI (x7 + 1)), some (vI x8), some (vI x9), some (vI x10), o11] [] S Q) : Ev d mX11_read 208 [some (vR 11 0), some (vI x1), some (vI x2), some (vI x3), some (vI x4), some (vI x5), some (vI x6), some (vI x7), some (vI x8), some (vI x9), some (vI x10), o11] [] S Q := by
  refine Ev.iinc (v := (x7 + 1)) (ls' := [some (vR 11 0), some (vI x1), some (vI x2), some (vI x3), some (vI x4), some (vI x5), some (vI x6), some (vI (x7 + 1)), some (vI x8), some (vI x9), some (vI x10), o11]) dX11_read_208 rfl rfl (by decide) rfl ?_
  exact kn
theorem bkX11_read_211 {d : Nat} {S : hs_T} {Q : Option av_T → hs_T → Prop} {x1 x2 x3 x4 x5 x6 x7 x8 x9 : Int32} {o10 o11 : Option av_T} (kn : Ev d mX11_read 38 [some (vR 11 0), some (vI x1), some (vI x2), some (vI x3), some (vI x4), some (vI x5), some (vI x6), some (vI x7), some (vI (x8 + 1)), some (vI x9), o10, o11] [] S Q) : Ev d mX11_read 211 [some (vR 11 0), some (vI x1), some (vI x2), some (vI x3), some (vI x4), some (vI x5), some (vI x6), some (vI x7), some (vI x8), some (vI x9), o10, o11] [] S Q := by
  refine Ev.iinc (v := (x8 + 1)) (ls' := [some (vR 11 0), some (vI x1), some (vI x2), some (vI x3), some (vI x4), some (vI x5), some (vI x6), some (vI x7), some (vI (x8 + 1)), some (vI x9), o10, o11]) dX11_read_211 rfl rfl (by decide) rfl ?_
  refine Ev.goto (tgt := 38) dX11_read_214 (by decide) ?_
  exact kn
theorem bkX11_read_217 {d : Nat} {S : hs_T} {Q : Option av_T → hs_T → Prop} {x1 x2 x3 x4 x5 x6 x7 x8 : Int32} {o9 o10 o11 : Option av_T} (hq : Q (some (vI x7)) (sk_ S 11 0 (upd (S.1 11 0) 33 x6))) : Ev d mX11_read 217 [some (vR 11 0), some (vI x1), some (vI x2), some (vI x3), some (vI x4), some (vI x5), some (vI x6), some (vI x7), some (vI x8), o9, o10, o11] [] S Q := by
  refine Ev.aload_n dX11_read_217 rfl rfl ?_
  refine Ev.iload dX11_read_218 rfl ?_
  refine Ev.put okX11 (by decide) fl_X11_303 pz_11_0 (by decide) rfl rfl rfl rfl dX11_read_220 ?_
  refine Ev.iload dX11_read_223 rfl ?_
  exact Ev.iret dX11_read_225 rfl rfl hq
/-! EightWiresModel.torn()I -/
theorem bkX11_torn_0 {d : Nat} {S : hs_T} {Q : Option av_T → hs_T → Prop} (hq : Q (some (vI (S.1 11 0 33))) S) : Ev d mX11_torn 0 [some (vR 11 0)] [] S Q := by
  refine Ev.aload_n dX11_torn_0 rfl rfl ?_
  refine Ev.get (v := vI (S.1 11 0 33)) okX11 (by decide) fl_X11_303 pz_11_0 (ff_11_33 _ _) dX11_torn_1 ?_
  exact Ev.iret dX11_torn_4 rfl rfl hq
/-! EightWiresModel.count(I)I -/
theorem bkX11_count_0 {d : Nat} {S : hs_T} {Q : Option av_T → hs_T → Prop} {x1 : Int32} (k0 : x1 = 0 → Ev d mX11_count 32 [some (vR 11 0), some (vI x1)] [] S Q) (k1 : x1 = 1 → Ev d mX11_count 37 [some (vR 11 0), some (vI x1)] [] S Q) (k2 : x1 = 2 → Ev d mX11_count 77 [some (vR 11 0), some (vI x1)] [] S Q) (k3 : x1 = 3 → Ev d mX11_count 82 [some (vR 11 0), some (vI x1)] [] S Q) (kd : ¬ x1 = 0 → ¬ x1 = 1 → ¬ x1 = 2 → ¬ x1 = 3 → Ev d mX11_count 105 [some (vR 11 0), some (vI x1)] [] S Q) : Ev d mX11_count 0 [some (vR 11 0), some (vI x1)] [] S Q := by
  refine Ev.iload_n dX11_count_0 rfl rfl ?_
  by_cases hc0 : x1 = 0
  · exact Ev.tableIn (off := 31) (tgt := 32) dX11_count_1 (by rw [hc0]; decide) (by rw [hc0]; decide) (by rw [hc0]; rfl) (by decide) (k0 hc0)
  by_cases hc1 : x1 = 1
  · exact Ev.tableIn (off := 36) (tgt := 37) dX11_count_1 (by rw [hc1]; decide) (by rw [hc1]; decide) (by rw [hc1]; rfl) (by decide) (k1 hc1)
  by_cases hc2 : x1 = 2
  · exact Ev.tableIn (off := 76) (tgt := 77) dX11_count_1 (by rw [hc2]; decide) (by rw [hc2]; decide) (by rw [hc2]; rfl) (by decide) (k2 hc2)
  by_cases hc3 : x1 = 3
  · exact Ev.tableIn (off := 81) (tgt := 82) dX11_count_1 (by rw [hc3]; decide) (by rw [hc3]; decide) (by rw [hc3]; rfl) (by decide) (k3 hc3)
  refine Ev.tableOut (tgt := 105) dX11_count_1 (tw_out (fun c h1 h2 => ?_)) (by decide) (kd hc0 hc1 hc2 hc3)
  have hcs : c = 0 ∨ c = 1 ∨ c = 2 ∨ c = 3 := by omega
  rcases hcs with rfl | rfl | rfl | rfl
  · exact fun z => hc0 (Int32.toInt_inj.mp (z.trans (by decide)))
  · exact fun z => hc1 (Int32.toInt_inj.mp (z.trans (by decide)))
  · exact fun z => hc2 (Int32.toInt_inj.mp (z.trans (by decide)))
  · exact fun z => hc3 (Int32.toInt_inj.mp (z.trans (by decide)))
theorem bkX11_count_32 {d : Nat} {S : hs_T} {Q : Option av_T → hs_T → Prop} {x1 : Int32} (hq : Q (some (vI (S.1 11 0 3))) S) : Ev d mX11_count 32 [some (vR 11 0), some (vI x1)] [] S Q := by
  refine Ev.aload_n dX11_count_32 rfl rfl ?_
  refine Ev.get (v := vI (S.1 11 0 3)) okX11 (by decide) fl_X11_144 pz_11_0 (ff_11_3 _ _) dX11_count_33 ?_
  exact Ev.iret dX11_count_36 rfl rfl hq
theorem bkX11_count_37 {d : Nat} {S : hs_T} {Q : Option av_T → hs_T → Prop} {x1 : Int32} (kt : (S.1 1205 0 0) = (-4) → Ev d mX11_count 52 [some (vR 11 0), some (vI x1)] [] S Q) (kf : ¬ (S.1 1205 0 0) = (-4) → Ev d mX11_count 48 [some (vR 11 0), some (vI x1)] [] S Q) : Ev d mX11_count 37 [some (vR 11 0), some (vI x1)] [] S Q := by
  refine Ev.aload_n dX11_count_37 rfl rfl ?_
  refine Ev.get (v := vR 1205 0) okX11 (by decide) fl_X11_22 pz_11_0 (ff_11_5 _ _) dX11_count_38 ?_
  refine Ev.iconst (v := 0) dX11_count_41 (by decide) ?_
  refine Ev.ialoadA (a := 0) pz_1205_0 (by decide) ak_1205 (by unfold vp_in; decide) (by decide) dX11_count_42 ?_
  refine Ev.bipush (v := (-4)) dX11_count_43 (by decide) ?_
  exact Ev.icmp_eq (tgt := 52) dX11_count_45 (by decide) kt kf
theorem bkX11_count_48 {d : Nat} {S : hs_T} {Q : Option av_T → hs_T → Prop} {x1 : Int32} (kn : Ev d mX11_count 53 [some (vR 11 0), some (vI x1)] [vI 1] S Q) : Ev d mX11_count 48 [some (vR 11 0), some (vI x1)] [] S Q := by
  refine Ev.iconst (v := 1) dX11_count_48 (by decide) ?_
  refine Ev.goto (tgt := 53) dX11_count_49 (by decide) ?_
  exact kn
theorem bkX11_count_52 {d : Nat} {S : hs_T} {Q : Option av_T → hs_T → Prop} {x1 : Int32} (kn : Ev d mX11_count 53 [some (vR 11 0), some (vI x1)] [vI 0] S Q) : Ev d mX11_count 52 [some (vR 11 0), some (vI x1)] [] S Q := by
  refine Ev.iconst (v := 0) dX11_count_52 (by decide) ?_
  exact kn
theorem bkX11_count_53 {d : Nat} {S : hs_T} {Q : Option av_T → hs_T → Prop} {P : Int32 → hs_T → Prop} {x1 y0 : Int32} (hC : Ci d mX11_flag [vI y0] S P) (kk : ∀ v S', P v S' → Ev (d + 1) mX11_count 56 [some (vR 11 0), some (vI x1)] [vI v] S' Q) : Ev (d + 1) mX11_count 53 [some (vR 11 0), some (vI x1)] [vI y0] S Q := by
  exact Ev.callS (as := [vI y0]) (rest := []) okX11_flag stX11_flag ml_X11_213 rfl (Nat.le_of_ble_eq_true rfl) rfl dX11_count_53 hC (fun r S' h => by obtain ⟨v, rfl, h⟩ := h; exact kk v S' h)
theorem bkX11_count_56 {d : Nat} {S : hs_T} {Q : Option av_T → hs_T → Prop} {x1 y0 : Int32} (kt : (S.1 1205 0 1) = (-4) → Ev d mX11_count 71 [some (vR 11 0), some (vI x1)] [vI y0] S Q) (kf : ¬ (S.1 1205 0 1) = (-4) → Ev d mX11_count 67 [some (vR 11 0), some (vI x1)] [vI y0] S Q) : Ev d mX11_count 56 [some (vR 11 0), some (vI x1)] [vI y0] S Q := by
  refine Ev.aload_n dX11_count_56 rfl rfl ?_
  refine Ev.get (v := vR 1205 0) okX11 (by decide) fl_X11_22 pz_11_0 (ff_11_5 _ _) dX11_count_57 ?_
  refine Ev.iconst (v := 1) dX11_count_60 (by decide) ?_
  refine Ev.ialoadA (a := 1) pz_1205_0 (by decide) ak_1205 (by unfold vp_in; decide) (by decide) dX11_count_61 ?_
  refine Ev.bipush (v := (-4)) dX11_count_62 (by decide) ?_
  exact Ev.icmp_eq (tgt := 71) dX11_count_64 (by decide) kt kf
theorem bkX11_count_67 {d : Nat} {S : hs_T} {Q : Option av_T → hs_T → Prop} {x1 y0 : Int32} (kn : Ev d mX11_count 72 [some (vR 11 0), some (vI x1)] [vI 1, vI y0] S Q) : Ev d mX11_count 67 [some (vR 11 0), some (vI x1)] [vI y0] S Q := by
  refine Ev.iconst (v := 1) dX11_count_67 (by decide) ?_
  refine Ev.goto (tgt := 72) dX11_count_68 (by decide) ?_
  exact kn
theorem bkX11_count_71 {d : Nat} {S : hs_T} {Q : Option av_T → hs_T → Prop} {x1 y0 : Int32} (kn : Ev d mX11_count 72 [some (vR 11 0), some (vI x1)] [vI 0, vI y0] S Q) : Ev d mX11_count 71 [some (vR 11 0), some (vI x1)] [vI y0] S Q := by
  refine Ev.iconst (v := 0) dX11_count_71 (by decide) ?_
  exact kn
theorem bkX11_count_72 {d : Nat} {S : hs_T} {Q : Option av_T → hs_T → Prop} {P : Int32 → hs_T → Prop} {x1 y0 y1 : Int32} (hC : Ci d mX11_flag [vI y0] S P) (kk : ∀ v S', P v S' → Ev (d + 1) mX11_count 75 [some (vR 11 0), some (vI x1)] [vI v, vI y1] S' Q) : Ev (d + 1) mX11_count 72 [some (vR 11 0), some (vI x1)] [vI y0, vI y1] S Q := by
  exact Ev.callS (as := [vI y0]) (rest := [vI y1]) okX11_flag stX11_flag ml_X11_213 rfl (Nat.le_of_ble_eq_true rfl) rfl dX11_count_72 hC (fun r S' h => by obtain ⟨v, rfl, h⟩ := h; exact kk v S' h)
theorem bkX11_count_75 {d : Nat} {S : hs_T} {Q : Option av_T → hs_T → Prop} {x1 y0 y1 : Int32} (hq : Q (some (vI (y1 + y0))) S) : Ev d mX11_count 75 [some (vR 11 0), some (vI x1)] [vI y0, vI y1] S Q := by
  refine Ev.iadd dX11_count_75 ?_
  exact Ev.iret dX11_count_76 rfl rfl hq
theorem bkX11_count_77 {d : Nat} {S : hs_T} {Q : Option av_T → hs_T → Prop} {x1 : Int32} (hq : Q (some (vI (S.1 11 0 8))) S) : Ev d mX11_count 77 [some (vR 11 0), some (vI x1)] [] S Q := by
  refine Ev.aload_n dX11_count_77 rfl rfl ?_
  refine Ev.get (v := vI (S.1 11 0 8)) okX11 (by decide) fl_X11_53 pz_11_0 (ff_11_8 _ _) dX11_count_78 ?_
  exact Ev.iret dX11_count_81 rfl rfl hq
theorem bkX11_count_82 {d : Nat} {S : hs_T} {Q : Option av_T → hs_T → Prop} {x1 : Int32} (kt : ¬ (S.1 1230 0 0) = (-4) → Ev d mX11_count 98 [some (vR 11 0), some (vI x1)] [] S Q) (kf : (S.1 1230 0 0) = (-4) → Ev d mX11_count 93 [some (vR 11 0), some (vI x1)] [] S Q) : Ev d mX11_count 82 [some (vR 11 0), some (vI x1)] [] S Q := by
  refine Ev.aload_n dX11_count_82 rfl rfl ?_
  refine Ev.get (v := vR 1230 0) okX11 (by decide) fl_X11_34 pz_11_0 (ff_11_30 _ _) dX11_count_83 ?_
  refine Ev.iconst (v := 0) dX11_count_86 (by decide) ?_
  refine Ev.ialoadA (a := 0) pz_1230_0 (by decide) ak_1230 (by unfold vp_in; decide) (by decide) dX11_count_87 ?_
  refine Ev.bipush (v := (-4)) dX11_count_88 (by decide) ?_
  exact Ev.icmp_ne (tgt := 98) dX11_count_90 (by decide) kt kf
theorem bkX11_count_93 {d : Nat} {S : hs_T} {Q : Option av_T → hs_T → Prop} {x1 : Int32} (kn : Ev d mX11_count 104 [some (vR 11 0), some (vI x1)] [vI (-4)] S Q) : Ev d mX11_count 93 [some (vR 11 0), some (vI x1)] [] S Q := by
  refine Ev.bipush (v := (-4)) dX11_count_93 (by decide) ?_
  refine Ev.goto (tgt := 104) dX11_count_95 (by decide) ?_
  exact kn
theorem bkX11_count_98 {d : Nat} {S : hs_T} {Q : Option av_T → hs_T → Prop} {x1 : Int32} (kn : Ev d mX11_count 104 [some (vR 11 0), some (vI x1)] [vI (S.1 1231 0 0)] S Q) : Ev d mX11_count 98 [some (vR 11 0), some (vI x1)] [] S Q := by
  refine Ev.aload_n dX11_count_98 rfl rfl ?_
  refine Ev.get (v := vR 1231 0) okX11 (by decide) fl_X11_37 pz_11_0 (ff_11_31 _ _) dX11_count_99 ?_
  refine Ev.iconst (v := 0) dX11_count_102 (by decide) ?_
  refine Ev.ialoadA (a := 0) pz_1231_0 (by decide) ak_1231 (by unfold vp_in; decide) (by decide) dX11_count_103 ?_
  exact kn
theorem bkX11_count_104 {d : Nat} {S : hs_T} {Q : Option av_T → hs_T → Prop} {x1 y0 : Int32} (hq : Q (some (vI y0)) S) : Ev d mX11_count 104 [some (vR 11 0), some (vI x1)] [vI y0] S Q := by
  exact Ev.iret dX11_count_104 rfl rfl hq
theorem bkX11_count_105 {d : Nat} {S : hs_T} {Q : Option av_T → hs_T → Prop} {x1 : Int32} (hq : Q (some (vI (-1))) S) : Ev d mX11_count 105 [some (vR 11 0), some (vI x1)] [] S Q := by
  refine Ev.iconst (v := (-1)) dX11_count_105 (by decide) ?_
  exact Ev.iret dX11_count_106 rfl rfl hq
