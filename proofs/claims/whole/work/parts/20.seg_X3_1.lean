set_option maxRecDepth 10000 in
set_option maxHeartbeats 1000000 in
theorem sn_X3_clear_28 {l : Launch} {d : Nat} {Q : Option Value → mx_H → Prop} {c : Nat} {I : mx_I}
    (q1 : Q none (sk0 c, (mx_set (mx_set (mx_set I 28 4 0) 28 5 0) 30 0 0))) :
    mx_Spec l mX3_clear (d + 1) 0 0 [.ref 28] (sk0 c, I) Q := by
  refine mx_enter rfl (by simp [Value.category]) (Nat.le_of_ble_eq_true rfl) ?_
  change mx_Go l (mx_rm (d + 1) 0 0) mX3_clear (mx_Z Q 0 0) 0 0 0 [.ref 28] [] (sk0 c, I)
  refine g_aload_n dX3_clear_0 rfl rfl ?_
  refine g_iconst (v := 0) dX3_clear_1 (by decide) ?_
  refine rp_X3_4 dX3_clear_2 lf_X3_24 (sk_28 _) ?_
  refine g_aload_n dX3_clear_5 rfl rfl ?_
  refine g_iconst (v := 0) dX3_clear_6 (by decide) ?_
  refine rp_X3_5 dX3_clear_7 lf_X3_28 (sk_28 _) ?_
  refine g_aload_n dX3_clear_10 rfl rfl ?_
  refine rg_X3_1 (r := 30) dX3_clear_11 lf_X3_15 (sk_28 _) rfl ?_
  refine g_iconst (v := 0) dX3_clear_14 (by decide) ?_
  refine g_iconst (v := 0) dX3_clear_15 (by decide) ?_
  refine s_iast (j := 0) dX3_clear_16 (sk_30 _) (by unfold vp_in; decide) (by decide) ?_
  exact g_vret rfl dX3_clear_17 rfl (Nat.le_refl _) (q1)
set_option maxRecDepth 10000 in
set_option maxHeartbeats 1000000 in
theorem sn_X3_clear_49 {l : Launch} {d : Nat} {Q : Option Value → mx_H → Prop} {c : Nat} {I : mx_I}
    (q1 : Q none (sk0 c, (mx_set (mx_set (mx_set I 49 4 0) 49 5 0) 51 0 0))) :
    mx_Spec l mX3_clear (d + 1) 0 0 [.ref 49] (sk0 c, I) Q := by
  refine mx_enter rfl (by simp [Value.category]) (Nat.le_of_ble_eq_true rfl) ?_
  change mx_Go l (mx_rm (d + 1) 0 0) mX3_clear (mx_Z Q 0 0) 0 0 0 [.ref 49] [] (sk0 c, I)
  refine g_aload_n dX3_clear_0 rfl rfl ?_
  refine g_iconst (v := 0) dX3_clear_1 (by decide) ?_
  refine rp_X3_4 dX3_clear_2 lf_X3_24 (sk_49 _) ?_
  refine g_aload_n dX3_clear_5 rfl rfl ?_
  refine g_iconst (v := 0) dX3_clear_6 (by decide) ?_
  refine rp_X3_5 dX3_clear_7 lf_X3_28 (sk_49 _) ?_
  refine g_aload_n dX3_clear_10 rfl rfl ?_
  refine rg_X3_1 (r := 51) dX3_clear_11 lf_X3_15 (sk_49 _) rfl ?_
  refine g_iconst (v := 0) dX3_clear_14 (by decide) ?_
  refine g_iconst (v := 0) dX3_clear_15 (by decide) ?_
  refine s_iast (j := 0) dX3_clear_16 (sk_51 _) (by unfold vp_in; decide) (by decide) ?_
  exact g_vret rfl dX3_clear_17 rfl (Nat.le_refl _) (q1)
set_option maxRecDepth 10000 in
set_option maxHeartbeats 1000000 in
theorem sn_X3_beginLine {l : Launch} {d : Nat} {Q : Option Value → mx_H → Prop} {c : Nat} {I : mx_I} (a1 : Int32)
    (b1 : ((I 49 4) < 16) → (a1 = 0) → vp_in (I 49 4) 16)
    (q2 : ((I 49 4) < 16) → (a1 = 0) → Q (some (.int 1)) (sk0 c, (mx_set I 52 (I 49 4).toNatClampNeg 0)))
    (b3 : ((I 49 4) < 16) → (¬ a1 = 0) → vp_in (I 49 4) 16)
    (q4 : ((I 49 4) < 16) → (¬ a1 = 0) → Q (some (.int 1)) (sk0 c, (mx_set I 52 (I 49 4).toNatClampNeg 1)))
    (q5 : (¬ (I 49 4) < 16) → Q (some (.int 0)) (sk0 c, I)) :
    mx_Spec l mX3_beginLine (d + 1) 0 0 [.ref 49, .int a1] (sk0 c, I) Q := by
  refine mx_enter rfl (by simp [Value.category]) (Nat.le_of_ble_eq_true rfl) ?_
  change mx_Go l (mx_rm (d + 1) 0 0) mX3_beginLine (mx_Z Q 0 0) 0 0 0 [.ref 49, .int a1] [] (sk0 c, I)
  refine g_aload_n dX3_beginLine_0 rfl rfl ?_
  refine rg_X3_4 (v := (I 49 4)) dX3_beginLine_1 lf_X3_24 (sk_49 _) rfl ?_
  refine g_bipush (v := 16) dX3_beginLine_4 (by decide) ?_
  refine g_icmp_lt (tgt := 11) dX3_beginLine_6 (by decide) (fun c1 => ?_) (fun c2 => ?_)
  · skip
    refine g_aload_n dX3_beginLine_11 rfl rfl ?_
    refine rg_X3_2 (r := 52) dX3_beginLine_12 lf_X3_18 (sk_49 _) rfl ?_
    refine g_aload_n dX3_beginLine_15 rfl rfl ?_
    refine rg_X3_4 (v := (I 49 4)) dX3_beginLine_16 lf_X3_24 (sk_49 _) rfl ?_
    refine g_iload_n dX3_beginLine_19 rfl rfl ?_
    refine g_if_eq (tgt := 27) dX3_beginLine_20 (by decide) (fun c3 => ?_) (fun c4 => ?_)
    · skip
      refine g_iconst (v := 0) dX3_beginLine_27 (by decide) ?_
      refine s_iast (j := (I 49 4).toNatClampNeg) dX3_beginLine_28 (sk_52 _) (b1 c1 c3) rfl ?_
      refine g_iconst (v := 1) dX3_beginLine_29 (by decide) ?_
      exact g_zret (ty := .boolean) rfl rfl dX3_beginLine_30 rfl (Nat.le_refl _) (q2 c1 c3)
    · skip
      refine g_iconst (v := 1) dX3_beginLine_23 (by decide) ?_
      refine g_goto (tgt := 28) dX3_beginLine_24 (by decide) ?_
      refine s_iast (j := (I 49 4).toNatClampNeg) dX3_beginLine_28 (sk_52 _) (b3 c1 c4) rfl ?_
      refine g_iconst (v := 1) dX3_beginLine_29 (by decide) ?_
      exact g_zret (ty := .boolean) rfl rfl dX3_beginLine_30 rfl (Nat.le_refl _) (q4 c1 c4)
  · skip
    refine g_iconst (v := 0) dX3_beginLine_9 (by decide) ?_
    exact g_zret (ty := .boolean) rfl rfl dX3_beginLine_10 rfl (Nat.le_refl _) (q5 c2)
set_option maxRecDepth 10000 in
set_option maxHeartbeats 1000000 in
theorem sn_X3_closeLine {l : Launch} {d : Nat} {Q : Option Value → mx_H → Prop} {c : Nat} {I : mx_I}
    (q1 : (16 ≤ (I 49 4)) → Q none (sk0 c, I))
    (b2 : (¬ 16 ≤ (I 49 4)) → vp_in ((I 49 4) + 1) 17)
    (q3 : (¬ 16 ≤ (I 49 4)) → Q none (sk0 c, (mx_set (mx_set I 49 4 ((I 49 4) + 1)) 51 ((I 49 4) + 1).toNatClampNeg (I 49 5)))) :
    mx_Spec l mX3_closeLine (d + 1) 0 0 [.ref 49] (sk0 c, I) Q := by
  refine mx_enter rfl (by simp [Value.category]) (Nat.le_of_ble_eq_true rfl) ?_
  change mx_Go l (mx_rm (d + 1) 0 0) mX3_closeLine (mx_Z Q 0 0) 0 0 0 [.ref 49] [] (sk0 c, I)
  refine g_aload_n dX3_closeLine_0 rfl rfl ?_
  refine rg_X3_4 (v := (I 49 4)) dX3_closeLine_1 lf_X3_24 (sk_49 _) rfl ?_
  refine g_bipush (v := 16) dX3_closeLine_4 (by decide) ?_
  refine g_icmp_ge (tgt := 32) dX3_closeLine_6 (by decide) (fun c1 => ?_) (fun c2 => ?_)
  · skip
    exact g_vret rfl dX3_closeLine_32 rfl (Nat.le_refl _) (q1 c1)
  · skip
    refine g_aload_n dX3_closeLine_9 rfl rfl ?_
    refine g_dup dX3_closeLine_10 rfl ?_
    refine rg_X3_4 (v := (I 49 4)) dX3_closeLine_11 lf_X3_24 (sk_49 _) rfl ?_
    refine g_iconst (v := 1) dX3_closeLine_14 (by decide) ?_
    refine g_iadd dX3_closeLine_15 ?_
    refine rp_X3_4 dX3_closeLine_16 lf_X3_24 (sk_49 _) ?_
    refine g_aload_n dX3_closeLine_19 rfl rfl ?_
    refine rg_X3_1 (r := 51) dX3_closeLine_20 lf_X3_15 (sk_49 _) rfl ?_
    refine g_aload_n dX3_closeLine_23 rfl rfl ?_
    refine rg_X3_4 (v := ((I 49 4) + 1)) dX3_closeLine_24 lf_X3_24 (sk_49 _) rd_eq ?_
    refine g_aload_n dX3_closeLine_27 rfl rfl ?_
    refine rg_X3_5 (v := (I 49 5)) dX3_closeLine_28 lf_X3_28 (sk_49 _) (rd_sl (by decide) rfl) ?_
    refine s_iast (j := ((I 49 4) + 1).toNatClampNeg) dX3_closeLine_31 (sk_51 _) (b2 c2) rfl ?_
    exact g_vret rfl dX3_closeLine_32 rfl (Nat.le_refl _) (q3 c2)
set_option maxRecDepth 10000 in
set_option maxHeartbeats 1000000 in
theorem sn_X3_put {l : Launch} {d : Nat} {Q : Option Value → mx_H → Prop} {c : Nat} {I : mx_I} (a1 : Int32)
    (q1 : (400 ≤ (I 49 5)) → Q none (sk0 c, I))
    (b2 : (¬ 400 ≤ (I 49 5)) → vp_in (I 49 5) 400)
    (q3 : (¬ 400 ≤ (I 49 5)) → Q none (sk0 c, (mx_set (mx_set I 50 (I 49 5).toNatClampNeg a1) 49 5 ((I 49 5) + 1)))) :
    mx_Spec l mX3_put (d + 1) 0 0 [.ref 49, .int a1] (sk0 c, I) Q := by
  refine mx_enter rfl (by simp [Value.category]) (Nat.le_of_ble_eq_true rfl) ?_
  change mx_Go l (mx_rm (d + 1) 0 0) mX3_put (mx_Z Q 0 0) 0 0 0 [.ref 49, .int a1] [] (sk0 c, I)
  refine g_aload_n dX3_put_0 rfl rfl ?_
  refine rg_X3_5 (v := (I 49 5)) dX3_put_1 lf_X3_28 (sk_49 _) rfl ?_
  refine g_sipush (v := 400) dX3_put_4 (by decide) ?_
  refine g_icmp_ge (tgt := 30) dX3_put_7 (by decide) (fun c1 => ?_) (fun c2 => ?_)
  · skip
    exact g_vret rfl dX3_put_30 rfl (Nat.le_refl _) (q1 c1)
  · skip
    refine g_aload_n dX3_put_10 rfl rfl ?_
    refine rg_X3_0 (r := 50) dX3_put_11 lf_X3_9 (sk_49 _) rfl ?_
    refine g_aload_n dX3_put_14 rfl rfl ?_
    refine rg_X3_5 (v := (I 49 5)) dX3_put_15 lf_X3_28 (sk_49 _) rfl ?_
    refine g_iload_n dX3_put_18 rfl rfl ?_
    refine s_iast (j := (I 49 5).toNatClampNeg) dX3_put_19 (sk_50 _) (b2 c2) rfl ?_
    refine g_aload_n dX3_put_20 rfl rfl ?_
    refine g_dup dX3_put_21 rfl ?_
    refine rg_X3_5 (v := (I 49 5)) dX3_put_22 lf_X3_28 (sk_49 _) (rd_ne (by decide) rfl) ?_
    refine g_iconst (v := 1) dX3_put_25 (by decide) ?_
    refine g_iadd dX3_put_26 ?_
    refine rp_X3_5 dX3_put_27 lf_X3_28 (sk_49 _) ?_
    exact g_vret rfl dX3_put_30 rfl (Nat.le_refl _) (q3 c2)
set_option maxRecDepth 10000 in
set_option maxHeartbeats 1000000 in
theorem sn_X3_lets {l : Launch} {d : Nat} {Q : Option Value → mx_H → Prop} {c : Nat} {I : mx_I}
    (e1 : mx_Go l (mx_rm (d + 1) 0 0) mX3_lets (mx_Z Q 0 0) 0 0 2 [.ref 28, .ref 73, .int 0] [] (sk0 c, I)) :
    mx_Spec l mX3_lets (d + 1) 0 0 [.ref 28, .ref 73] (sk0 c, I) Q := by
  refine mx_enter rfl (by simp [Value.category]) (Nat.le_of_ble_eq_true rfl) ?_
  change mx_Go l (mx_rm (d + 1) 0 0) mX3_lets (mx_Z Q 0 0) 0 0 0 [.ref 28, .ref 73, .retAddr 0] [] (sk0 c, I)
  refine g_iconst (v := 0) dX3_lets_0 (by decide) ?_
  refine s_istore_n (L' := [.ref 28, .ref 73, .int 0]) dX3_lets_1 rfl (by decide) rfl rfl ?_
  exact e1
set_option maxRecDepth 10000 in
set_option maxHeartbeats 1000000 in
theorem sg_X3_lets_2 {l : Launch} {d : Nat} {Q : Option Value → mx_H → Prop} {c : Nat} {I : mx_I} (x1 : Int32)
    (q1 : ((I 28 4) ≤ x1) → Q (some (.int 1)) (sk0 c, I))
    (k2 : (¬ (I 28 4) ≤ x1) → mx_K1 l mX3_holds d [.ref 28, .int x1, .ref 73] (sk0 c, I) (fun r h' => mx_Go l (mx_rm (d + 1) 0 0) mX3_lets (mx_Z Q 0 0) 0 0 16 [.ref 28, .ref 73, .int x1] (r.toList ++ []) h')) :
    mx_Go l (mx_rm (d + 1) 0 0) mX3_lets (mx_Z Q 0 0) 0 0 2 [.ref 28, .ref 73, .int x1] [] (sk0 c, I) := by
  refine g_iload_n dX3_lets_2 rfl rfl ?_
  refine g_aload_n dX3_lets_3 rfl rfl ?_
  refine rg_X3_4 (v := (I 28 4)) dX3_lets_4 lf_X3_24 (sk_28 _) rfl ?_
  refine g_icmp_ge (tgt := 41) dX3_lets_7 (by decide) (fun c1 => ?_) (fun c2 => ?_)
  · skip
    refine g_iconst (v := 1) dX3_lets_41 (by decide) ?_
    exact g_zret (ty := .boolean) rfl rfl dX3_lets_42 rfl (Nat.le_refl _) (q1 c1)
  · skip
    refine g_aload_n dX3_lets_10 rfl rfl ?_
    refine g_iload_n dX3_lets_11 rfl rfl ?_
    refine g_aload_n dX3_lets_12 rfl rfl ?_
    exact s_callV (M' := mX3_holds) (As := [.int x1, .ref 73]) (st := []) dX3_lets_13 lm_X3_31 ovX3_holds (h := (sk0 c, I)) (sk_28 _) (show vwCl[3]? = some _ from rfl) rfl (by simp [Value.category]) (by decide) rfl (k2 c2)
set_option maxRecDepth 10000 in
set_option maxHeartbeats 1000000 in
theorem sg_X3_lets_16 {l : Launch} {d : Nat} {Q : Option Value → mx_H → Prop} {c : Nat} {I : mx_I} (x1 : Int32) (x2 : Int32)
    (e1 : (x2 = 0) → mx_Go l (mx_rm (d + 1) 0 0) mX3_lets (mx_Z Q 0 0) 0 0 2 [.ref 28, .ref 73, .int (x1 + 1)] [] (sk0 c, I))
    (b2 : (¬ x2 = 0) → vp_in x1 16)
    (q3 : (¬ x2 = 0) → (¬ (I 31 x1.toNatClampNeg) = 1) → Q (some (.int 0)) (sk0 c, I))
    (q4 : (¬ x2 = 0) → ((I 31 x1.toNatClampNeg) = 1) → Q (some (.int 1)) (sk0 c, I)) :
    mx_Go l (mx_rm (d + 1) 0 0) mX3_lets (mx_Z Q 0 0) 0 0 16 [.ref 28, .ref 73, .int x1] [.int x2] (sk0 c, I) := by
  refine g_if_eq (tgt := 35) dX3_lets_16 (by decide) (fun c1 => ?_) (fun c2 => ?_)
  · skip
    refine s_iinc (v := (x1 + 1)) (L' := [.ref 28, .ref 73, .int (x1 + 1)]) dX3_lets_35 rfl (by decide) rfl rfl rfl ?_
    refine g_goto (tgt := 2) dX3_lets_38 (by decide) ?_
    exact e1 c1
  · skip
    refine g_aload_n dX3_lets_19 rfl rfl ?_
    refine rg_X3_2 (r := 31) dX3_lets_20 lf_X3_18 (sk_28 _) rfl ?_
    refine g_iload_n dX3_lets_23 rfl rfl ?_
    refine s_iald (j := x1.toNatClampNeg) (v := (I 31 x1.toNatClampNeg)) dX3_lets_24 (sk_31 _) (b2 c2) rfl rfl ?_
    refine g_iconst (v := 1) dX3_lets_25 (by decide) ?_
    refine g_icmp_ne (tgt := 33) dX3_lets_26 (by decide) (fun c3 => ?_) (fun c4 => ?_)
    · skip
      refine g_iconst (v := 0) dX3_lets_33 (by decide) ?_
      exact g_zret (ty := .boolean) rfl rfl dX3_lets_34 rfl (Nat.le_refl _) (q3 c2 c3)
    · skip
      refine g_iconst (v := 1) dX3_lets_29 (by decide) ?_
      refine g_goto (tgt := 34) dX3_lets_30 (by decide) ?_
      exact g_zret (ty := .boolean) rfl rfl dX3_lets_34 rfl (Nat.le_refl _) (q4 c2 c4)
set_option maxRecDepth 10000 in
set_option maxHeartbeats 1000000 in
theorem sn_X3_holds {l : Launch} {d : Nat} {Q : Option Value → mx_H → Prop} {c : Nat} {I : mx_I} (a1 : Int32)
    (b1 : vp_in a1 17)
    (e2 : mx_Go l (mx_rm (d + 1) 0 0) mX3_holds (mx_Z Q 0 0) 0 0 10 [.ref 28, .int a1, .ref 73, .int 0, .int (I 30 a1.toNatClampNeg), .retAddr 0, .retAddr 0, .retAddr 0, .retAddr 0] [] (sk0 c, I)) :
    mx_Spec l mX3_holds (d + 1) 0 0 [.ref 28, .int a1, .ref 73] (sk0 c, I) Q := by
  refine mx_enter rfl (by simp [Value.category]) (Nat.le_of_ble_eq_true rfl) ?_
  change mx_Go l (mx_rm (d + 1) 0 0) mX3_holds (mx_Z Q 0 0) 0 0 0 [.ref 28, .int a1, .ref 73, .retAddr 0, .retAddr 0, .retAddr 0, .retAddr 0, .retAddr 0, .retAddr 0] [] (sk0 c, I)
  refine g_iconst (v := 0) dX3_holds_0 (by decide) ?_
  refine s_istore_n (L' := [.ref 28, .int a1, .ref 73, .int 0, .retAddr 0, .retAddr 0, .retAddr 0, .retAddr 0, .retAddr 0]) dX3_holds_1 rfl (by decide) rfl rfl ?_
  refine g_aload_n dX3_holds_2 rfl rfl ?_
  refine rg_X3_1 (r := 30) dX3_holds_3 lf_X3_15 (sk_28 _) rfl ?_
  refine g_iload_n dX3_holds_6 rfl rfl ?_
  refine s_iald (j := a1.toNatClampNeg) (v := (I 30 a1.toNatClampNeg)) dX3_holds_7 (sk_30 _) (b1) rfl rfl ?_
  refine s_istore (L' := [.ref 28, .int a1, .ref 73, .int 0, .int (I 30 a1.toNatClampNeg), .retAddr 0, .retAddr 0, .retAddr 0, .retAddr 0]) dX3_holds_8 (by decide) rfl rfl ?_
  exact e2
set_option maxRecDepth 10000 in
set_option maxHeartbeats 1000000 in
theorem sg_X3_holds_10 {l : Launch} {d : Nat} {Q : Option Value → mx_H → Prop} {c : Nat} {I : mx_I} (x1 : Int32) (x2 : Int32) (x3 : Int32)
    (b1 : vp_in (x1 + 1) 17)
    (q2 : ((I 30 (x1 + 1).toNatClampNeg) ≤ x3) → (x2 = 0) → Q (some (.int 1)) (sk0 c, I))
    (q3 : ((I 30 (x1 + 1).toNatClampNeg) ≤ x3) → (¬ x2 = 0) → ((I 32 0) = 0) → Q (some (.int 0)) (sk0 c, I))
    (q4 : ((I 30 (x1 + 1).toNatClampNeg) ≤ x3) → (¬ x2 = 0) → (¬ (I 32 0) = 0) → Q (some (.int 1)) (sk0 c, I))
    (b5 : (¬ (I 30 (x1 + 1).toNatClampNeg) ≤ x3) → vp_in x3 400)
    (e6 : (¬ (I 30 (x1 + 1).toNatClampNeg) ≤ x3) → (0 ≤ (I 29 x3.toNatClampNeg)) → (64 ≤ x2) → mx_Go l (mx_rm (d + 1) 0 0) mX3_holds (mx_Z Q 0 0) 0 0 10 [.ref 28, .int x1, .ref 73, .int x2, .int (x3 + 1), .int (I 29 x3.toNatClampNeg), .int ((-(I 29 x3.toNatClampNeg)) - 8), .retAddr 0, .retAddr 0] [] (sk0 c, I))
    (b7 : (¬ (I 30 (x1 + 1).toNatClampNeg) ≤ x3) → (0 ≤ (I 29 x3.toNatClampNeg)) → (¬ 64 ≤ x2) → ((I 29 x3.toNatClampNeg) < 0) → vp_in ((-(I 29 x3.toNatClampNeg)) - 8) 7)
    (b8 : (¬ (I 30 (x1 + 1).toNatClampNeg) ≤ x3) → (0 ≤ (I 29 x3.toNatClampNeg)) → (¬ 64 ≤ x2) → ((I 29 x3.toNatClampNeg) < 0) → vp_in x2 64)
    (e9 : (¬ (I 30 (x1 + 1).toNatClampNeg) ≤ x3) → (0 ≤ (I 29 x3.toNatClampNeg)) → (¬ 64 ≤ x2) → ((I 29 x3.toNatClampNeg) < 0) → mx_Go l (mx_rm (d + 1) 0 0) mX3_holds (mx_Z Q 0 0) 0 0 10 [.ref 28, .int x1, .ref 73, .int (x2 + 1), .int (x3 + 1), .int (I 29 x3.toNatClampNeg), .int ((-(I 29 x3.toNatClampNeg)) - 8), .retAddr 0, .retAddr 0] [] (sk0 c, (mx_set I 32 x2.toNatClampNeg (I 73 ((-(I 29 x3.toNatClampNeg)) - 8).toNatClampNeg))))
    (b10 : (¬ (I 30 (x1 + 1).toNatClampNeg) ≤ x3) → (0 ≤ (I 29 x3.toNatClampNeg)) → (¬ 64 ≤ x2) → (¬ (I 29 x3.toNatClampNeg) < 0) → vp_in x2 64)
    (e11 : (¬ (I 30 (x1 + 1).toNatClampNeg) ≤ x3) → (0 ≤ (I 29 x3.toNatClampNeg)) → (¬ 64 ≤ x2) → (¬ (I 29 x3.toNatClampNeg) < 0) → mx_Go l (mx_rm (d + 1) 0 0) mX3_holds (mx_Z Q 0 0) 0 0 10 [.ref 28, .int x1, .ref 73, .int (x2 + 1), .int (x3 + 1), .int (I 29 x3.toNatClampNeg), .int ((-(I 29 x3.toNatClampNeg)) - 8), .retAddr 0, .retAddr 0] [] (sk0 c, (mx_set I 32 x2.toNatClampNeg (I 29 x3.toNatClampNeg))))
    (e12 : (¬ (I 30 (x1 + 1).toNatClampNeg) ≤ x3) → (¬ 0 ≤ (I 29 x3.toNatClampNeg)) → (((-(I 29 x3.toNatClampNeg)) - 8) < 0) → (¬ (I 29 x3.toNatClampNeg) = (-7)) → (x2 ≤ 1) → mx_Go l (mx_rm (d + 1) 0 0) mX3_holds (mx_Z Q 0 0) 0 0 10 [.ref 28, .int x1, .ref 73, .int x2, .int (x3 + 1), .int (I 29 x3.toNatClampNeg), .int ((-(I 29 x3.toNatClampNeg)) - 8), .retAddr 0, .retAddr 0] [] (sk0 c, I))
    (b13 : (¬ (I 30 (x1 + 1).toNatClampNeg) ≤ x3) → (¬ 0 ≤ (I 29 x3.toNatClampNeg)) → (((-(I 29 x3.toNatClampNeg)) - 8) < 0) → (¬ (I 29 x3.toNatClampNeg) = (-7)) → (¬ x2 ≤ 1) → vp_in (x2 + (-1)) 64)
    (b14 : (¬ (I 30 (x1 + 1).toNatClampNeg) ≤ x3) → (¬ 0 ≤ (I 29 x3.toNatClampNeg)) → (((-(I 29 x3.toNatClampNeg)) - 8) < 0) → (¬ (I 29 x3.toNatClampNeg) = (-7)) → (¬ x2 ≤ 1) → vp_in ((x2 + (-1)) - 1) 64)
    (b15 : (¬ (I 30 (x1 + 1).toNatClampNeg) ≤ x3) → (¬ 0 ≤ (I 29 x3.toNatClampNeg)) → (((-(I 29 x3.toNatClampNeg)) - 8) < 0) → (¬ (I 29 x3.toNatClampNeg) = (-7)) → (¬ x2 ≤ 1) → ((-(I 29 x3.toNatClampNeg)) = 6) → vp_in ((x2 + (-1)) - 1) 64)
    (e16 : (¬ (I 30 (x1 + 1).toNatClampNeg) ≤ x3) → (¬ 0 ≤ (I 29 x3.toNatClampNeg)) → (((-(I 29 x3.toNatClampNeg)) - 8) < 0) → (¬ (I 29 x3.toNatClampNeg) = (-7)) → (¬ x2 ≤ 1) → ((-(I 29 x3.toNatClampNeg)) = 6) → mx_Go l (mx_rm (d + 1) 0 0) mX3_holds (mx_Z Q 0 0) 0 0 10 [.ref 28, .int x1, .ref 73, .int (x2 + (-1)), .int (x3 + 1), .int (I 29 x3.toNatClampNeg), .int ((-(I 29 x3.toNatClampNeg)) - 8), .int (I 32 (x2 + (-1)).toNatClampNeg), .int ((I 32 ((x2 + (-1)) - 1).toNatClampNeg) &&& (I 32 (x2 + (-1)).toNatClampNeg))] [] (sk0 c, (mx_set I 32 ((x2 + (-1)) - 1).toNatClampNeg ((I 32 ((x2 + (-1)) - 1).toNatClampNeg) &&& (I 32 (x2 + (-1)).toNatClampNeg)))))
    (b17 : (¬ (I 30 (x1 + 1).toNatClampNeg) ≤ x3) → (¬ 0 ≤ (I 29 x3.toNatClampNeg)) → (((-(I 29 x3.toNatClampNeg)) - 8) < 0) → (¬ (I 29 x3.toNatClampNeg) = (-7)) → (¬ x2 ≤ 1) → ((-(I 29 x3.toNatClampNeg)) = 7) → vp_in ((x2 + (-1)) - 1) 64)
    (e18 : (¬ (I 30 (x1 + 1).toNatClampNeg) ≤ x3) → (¬ 0 ≤ (I 29 x3.toNatClampNeg)) → (((-(I 29 x3.toNatClampNeg)) - 8) < 0) → (¬ (I 29 x3.toNatClampNeg) = (-7)) → (¬ x2 ≤ 1) → ((-(I 29 x3.toNatClampNeg)) = 7) → mx_Go l (mx_rm (d + 1) 0 0) mX3_holds (mx_Z Q 0 0) 0 0 10 [.ref 28, .int x1, .ref 73, .int (x2 + (-1)), .int (x3 + 1), .int (I 29 x3.toNatClampNeg), .int ((-(I 29 x3.toNatClampNeg)) - 8), .int (I 32 (x2 + (-1)).toNatClampNeg), .int ((I 32 ((x2 + (-1)) - 1).toNatClampNeg) ||| (I 32 (x2 + (-1)).toNatClampNeg))] [] (sk0 c, (mx_set I 32 ((x2 + (-1)) - 1).toNatClampNeg ((I 32 ((x2 + (-1)) - 1).toNatClampNeg) ||| (I 32 (x2 + (-1)).toNatClampNeg)))))
    (b19 : (¬ (I 30 (x1 + 1).toNatClampNeg) ≤ x3) → (¬ 0 ≤ (I 29 x3.toNatClampNeg)) → (((-(I 29 x3.toNatClampNeg)) - 8) < 0) → (¬ (I 29 x3.toNatClampNeg) = (-7)) → (¬ x2 ≤ 1) → ((-(I 29 x3.toNatClampNeg)) = 8) → vp_in ((x2 + (-1)) - 1) 64)
    (e20 : (¬ (I 30 (x1 + 1).toNatClampNeg) ≤ x3) → (¬ 0 ≤ (I 29 x3.toNatClampNeg)) → (((-(I 29 x3.toNatClampNeg)) - 8) < 0) → (¬ (I 29 x3.toNatClampNeg) = (-7)) → (¬ x2 ≤ 1) → ((-(I 29 x3.toNatClampNeg)) = 8) → mx_Go l (mx_rm (d + 1) 0 0) mX3_holds (mx_Z Q 0 0) 0 0 10 [.ref 28, .int x1, .ref 73, .int (x2 + (-1)), .int (x3 + 1), .int (I 29 x3.toNatClampNeg), .int ((-(I 29 x3.toNatClampNeg)) - 8), .int (I 32 (x2 + (-1)).toNatClampNeg), .int ((I 32 ((x2 + (-1)) - 1).toNatClampNeg) ||| (I 32 (x2 + (-1)).toNatClampNeg))] [] (sk0 c, (mx_set I 32 ((x2 + (-1)) - 1).toNatClampNeg ((I 32 ((x2 + (-1)) - 1).toNatClampNeg) ||| (I 32 (x2 + (-1)).toNatClampNeg)))))
    (b21 : (¬ (I 30 (x1 + 1).toNatClampNeg) ≤ x3) → (¬ 0 ≤ (I 29 x3.toNatClampNeg)) → (((-(I 29 x3.toNatClampNeg)) - 8) < 0) → (¬ (I 29 x3.toNatClampNeg) = (-7)) → (¬ x2 ≤ 1) → ((-(I 29 x3.toNatClampNeg)) = 9) → vp_in ((x2 + (-1)) - 1) 64)
    (e22 : (¬ (I 30 (x1 + 1).toNatClampNeg) ≤ x3) → (¬ 0 ≤ (I 29 x3.toNatClampNeg)) → (((-(I 29 x3.toNatClampNeg)) - 8) < 0) → (¬ (I 29 x3.toNatClampNeg) = (-7)) → (¬ x2 ≤ 1) → ((-(I 29 x3.toNatClampNeg)) = 9) → mx_Go l (mx_rm (d + 1) 0 0) mX3_holds (mx_Z Q 0 0) 0 0 10 [.ref 28, .int x1, .ref 73, .int (x2 + (-1)), .int (x3 + 1), .int (I 29 x3.toNatClampNeg), .int ((-(I 29 x3.toNatClampNeg)) - 8), .int (I 32 (x2 + (-1)).toNatClampNeg), .int ((I 32 ((x2 + (-1)) - 1).toNatClampNeg) ||| (I 32 (x2 + (-1)).toNatClampNeg))] [] (sk0 c, (mx_set I 32 ((x2 + (-1)) - 1).toNatClampNeg ((I 32 ((x2 + (-1)) - 1).toNatClampNeg) ||| (I 32 (x2 + (-1)).toNatClampNeg)))))
    (b23 : (¬ (I 30 (x1 + 1).toNatClampNeg) ≤ x3) → (¬ 0 ≤ (I 29 x3.toNatClampNeg)) → (((-(I 29 x3.toNatClampNeg)) - 8) < 0) → (¬ (I 29 x3.toNatClampNeg) = (-7)) → (¬ x2 ≤ 1) → ((-(I 29 x3.toNatClampNeg)) = 10) → vp_in ((x2 + (-1)) - 1) 64)
    (e24 : (¬ (I 30 (x1 + 1).toNatClampNeg) ≤ x3) → (¬ 0 ≤ (I 29 x3.toNatClampNeg)) → (((-(I 29 x3.toNatClampNeg)) - 8) < 0) → (¬ (I 29 x3.toNatClampNeg) = (-7)) → (¬ x2 ≤ 1) → ((-(I 29 x3.toNatClampNeg)) = 10) → mx_Go l (mx_rm (d + 1) 0 0) mX3_holds (mx_Z Q 0 0) 0 0 10 [.ref 28, .int x1, .ref 73, .int (x2 + (-1)), .int (x3 + 1), .int (I 29 x3.toNatClampNeg), .int ((-(I 29 x3.toNatClampNeg)) - 8), .int (I 32 (x2 + (-1)).toNatClampNeg), .int ((I 32 ((x2 + (-1)) - 1).toNatClampNeg) ||| (I 32 (x2 + (-1)).toNatClampNeg))] [] (sk0 c, (mx_set I 32 ((x2 + (-1)) - 1).toNatClampNeg ((I 32 ((x2 + (-1)) - 1).toNatClampNeg) ||| (I 32 (x2 + (-1)).toNatClampNeg)))))
    (b25 : (¬ (I 30 (x1 + 1).toNatClampNeg) ≤ x3) → (¬ 0 ≤ (I 29 x3.toNatClampNeg)) → (((-(I 29 x3.toNatClampNeg)) - 8) < 0) → (¬ (I 29 x3.toNatClampNeg) = (-7)) → (¬ x2 ≤ 1) → ((-(I 29 x3.toNatClampNeg)) = 11) → vp_in ((x2 + (-1)) - 1) 64)
    (e26 : (¬ (I 30 (x1 + 1).toNatClampNeg) ≤ x3) → (¬ 0 ≤ (I 29 x3.toNatClampNeg)) → (((-(I 29 x3.toNatClampNeg)) - 8) < 0) → (¬ (I 29 x3.toNatClampNeg) = (-7)) → (¬ x2 ≤ 1) → ((-(I 29 x3.toNatClampNeg)) = 11) → mx_Go l (mx_rm (d + 1) 0 0) mX3_holds (mx_Z Q 0 0) 0 0 10 [.ref 28, .int x1, .ref 73, .int (x2 + (-1)), .int (x3 + 1), .int (I 29 x3.toNatClampNeg), .int ((-(I 29 x3.toNatClampNeg)) - 8), .int (I 32 (x2 + (-1)).toNatClampNeg), .int ((I 32 ((x2 + (-1)) - 1).toNatClampNeg) ||| (I 32 (x2 + (-1)).toNatClampNeg))] [] (sk0 c, (mx_set I 32 ((x2 + (-1)) - 1).toNatClampNeg ((I 32 ((x2 + (-1)) - 1).toNatClampNeg) ||| (I 32 (x2 + (-1)).toNatClampNeg)))))
    (b27 : (¬ (I 30 (x1 + 1).toNatClampNeg) ≤ x3) → (¬ 0 ≤ (I 29 x3.toNatClampNeg)) → (((-(I 29 x3.toNatClampNeg)) - 8) < 0) → (¬ (I 29 x3.toNatClampNeg) = (-7)) → (¬ x2 ≤ 1) → ((-(I 29 x3.toNatClampNeg)) = 12) → vp_in ((x2 + (-1)) - 1) 64)
    (e28 : (¬ (I 30 (x1 + 1).toNatClampNeg) ≤ x3) → (¬ 0 ≤ (I 29 x3.toNatClampNeg)) → (((-(I 29 x3.toNatClampNeg)) - 8) < 0) → (¬ (I 29 x3.toNatClampNeg) = (-7)) → (¬ x2 ≤ 1) → ((-(I 29 x3.toNatClampNeg)) = 12) → mx_Go l (mx_rm (d + 1) 0 0) mX3_holds (mx_Z Q 0 0) 0 0 10 [.ref 28, .int x1, .ref 73, .int (x2 + (-1)), .int (x3 + 1), .int (I 29 x3.toNatClampNeg), .int ((-(I 29 x3.toNatClampNeg)) - 8), .int (I 32 (x2 + (-1)).toNatClampNeg), .int ((I 32 ((x2 + (-1)) - 1).toNatClampNeg) ||| (I 32 (x2 + (-1)).toNatClampNeg))] [] (sk0 c, (mx_set I 32 ((x2 + (-1)) - 1).toNatClampNeg ((I 32 ((x2 + (-1)) - 1).toNatClampNeg) ||| (I 32 (x2 + (-1)).toNatClampNeg)))))
    (b29 : (¬ (I 30 (x1 + 1).toNatClampNeg) ≤ x3) → (¬ 0 ≤ (I 29 x3.toNatClampNeg)) → (((-(I 29 x3.toNatClampNeg)) - 8) < 0) → (¬ (I 29 x3.toNatClampNeg) = (-7)) → (¬ x2 ≤ 1) → ((-(I 29 x3.toNatClampNeg)) = 13) → vp_in ((x2 + (-1)) - 1) 64)
    (e30 : (¬ (I 30 (x1 + 1).toNatClampNeg) ≤ x3) → (¬ 0 ≤ (I 29 x3.toNatClampNeg)) → (((-(I 29 x3.toNatClampNeg)) - 8) < 0) → (¬ (I 29 x3.toNatClampNeg) = (-7)) → (¬ x2 ≤ 1) → ((-(I 29 x3.toNatClampNeg)) = 13) → mx_Go l (mx_rm (d + 1) 0 0) mX3_holds (mx_Z Q 0 0) 0 0 10 [.ref 28, .int x1, .ref 73, .int (x2 + (-1)), .int (x3 + 1), .int (I 29 x3.toNatClampNeg), .int ((-(I 29 x3.toNatClampNeg)) - 8), .int (I 32 (x2 + (-1)).toNatClampNeg), .int ((I 32 ((x2 + (-1)) - 1).toNatClampNeg) ||| (I 32 (x2 + (-1)).toNatClampNeg))] [] (sk0 c, (mx_set I 32 ((x2 + (-1)) - 1).toNatClampNeg ((I 32 ((x2 + (-1)) - 1).toNatClampNeg) ||| (I 32 (x2 + (-1)).toNatClampNeg)))))
    (b31 : (¬ (I 30 (x1 + 1).toNatClampNeg) ≤ x3) → (¬ 0 ≤ (I 29 x3.toNatClampNeg)) → (((-(I 29 x3.toNatClampNeg)) - 8) < 0) → (¬ (I 29 x3.toNatClampNeg) = (-7)) → (¬ x2 ≤ 1) → ((-(I 29 x3.toNatClampNeg)) = 14) → vp_in ((x2 + (-1)) - 1) 64)
    (e32 : (¬ (I 30 (x1 + 1).toNatClampNeg) ≤ x3) → (¬ 0 ≤ (I 29 x3.toNatClampNeg)) → (((-(I 29 x3.toNatClampNeg)) - 8) < 0) → (¬ (I 29 x3.toNatClampNeg) = (-7)) → (¬ x2 ≤ 1) → ((-(I 29 x3.toNatClampNeg)) = 14) → mx_Go l (mx_rm (d + 1) 0 0) mX3_holds (mx_Z Q 0 0) 0 0 10 [.ref 28, .int x1, .ref 73, .int (x2 + (-1)), .int (x3 + 1), .int (I 29 x3.toNatClampNeg), .int ((-(I 29 x3.toNatClampNeg)) - 8), .int (I 32 (x2 + (-1)).toNatClampNeg), .int ((I 32 ((x2 + (-1)) - 1).toNatClampNeg) ||| (I 32 (x2 + (-1)).toNatClampNeg))] [] (sk0 c, (mx_set I 32 ((x2 + (-1)) - 1).toNatClampNeg ((I 32 ((x2 + (-1)) - 1).toNatClampNeg) ||| (I 32 (x2 + (-1)).toNatClampNeg)))))
    (b33 : (¬ (I 30 (x1 + 1).toNatClampNeg) ≤ x3) → (¬ 0 ≤ (I 29 x3.toNatClampNeg)) → (((-(I 29 x3.toNatClampNeg)) - 8) < 0) → (¬ (I 29 x3.toNatClampNeg) = (-7)) → (¬ x2 ≤ 1) → ((-(I 29 x3.toNatClampNeg)) = 15) → vp_in ((x2 + (-1)) - 1) 64)
    (e34 : (¬ (I 30 (x1 + 1).toNatClampNeg) ≤ x3) → (¬ 0 ≤ (I 29 x3.toNatClampNeg)) → (((-(I 29 x3.toNatClampNeg)) - 8) < 0) → (¬ (I 29 x3.toNatClampNeg) = (-7)) → (¬ x2 ≤ 1) → ((-(I 29 x3.toNatClampNeg)) = 15) → mx_Go l (mx_rm (d + 1) 0 0) mX3_holds (mx_Z Q 0 0) 0 0 10 [.ref 28, .int x1, .ref 73, .int (x2 + (-1)), .int (x3 + 1), .int (I 29 x3.toNatClampNeg), .int ((-(I 29 x3.toNatClampNeg)) - 8), .int (I 32 (x2 + (-1)).toNatClampNeg), .int ((I 32 ((x2 + (-1)) - 1).toNatClampNeg) ||| (I 32 (x2 + (-1)).toNatClampNeg))] [] (sk0 c, (mx_set I 32 ((x2 + (-1)) - 1).toNatClampNeg ((I 32 ((x2 + (-1)) - 1).toNatClampNeg) ||| (I 32 (x2 + (-1)).toNatClampNeg)))))
    (b35 : (¬ (I 30 (x1 + 1).toNatClampNeg) ≤ x3) → (¬ 0 ≤ (I 29 x3.toNatClampNeg)) → (((-(I 29 x3.toNatClampNeg)) - 8) < 0) → (¬ (I 29 x3.toNatClampNeg) = (-7)) → (¬ x2 ≤ 1) → ((-(I 29 x3.toNatClampNeg)) = 16) → vp_in ((x2 + (-1)) - 1) 64)
    (e36 : (¬ (I 30 (x1 + 1).toNatClampNeg) ≤ x3) → (¬ 0 ≤ (I 29 x3.toNatClampNeg)) → (((-(I 29 x3.toNatClampNeg)) - 8) < 0) → (¬ (I 29 x3.toNatClampNeg) = (-7)) → (¬ x2 ≤ 1) → ((-(I 29 x3.toNatClampNeg)) = 16) → mx_Go l (mx_rm (d + 1) 0 0) mX3_holds (mx_Z Q 0 0) 0 0 10 [.ref 28, .int x1, .ref 73, .int (x2 + (-1)), .int (x3 + 1), .int (I 29 x3.toNatClampNeg), .int ((-(I 29 x3.toNatClampNeg)) - 8), .int (I 32 (x2 + (-1)).toNatClampNeg), .int ((I 32 ((x2 + (-1)) - 1).toNatClampNeg) + (I 32 (x2 + (-1)).toNatClampNeg))] [] (sk0 c, (mx_set I 32 ((x2 + (-1)) - 1).toNatClampNeg ((I 32 ((x2 + (-1)) - 1).toNatClampNeg) + (I 32 (x2 + (-1)).toNatClampNeg)))))
    (b37 : (¬ (I 30 (x1 + 1).toNatClampNeg) ≤ x3) → (¬ 0 ≤ (I 29 x3.toNatClampNeg)) → (((-(I 29 x3.toNatClampNeg)) - 8) < 0) → (¬ (I 29 x3.toNatClampNeg) = (-7)) → (¬ x2 ≤ 1) → ((-(I 29 x3.toNatClampNeg)) = 17) → vp_in ((x2 + (-1)) - 1) 64)
    (e38 : (¬ (I 30 (x1 + 1).toNatClampNeg) ≤ x3) → (¬ 0 ≤ (I 29 x3.toNatClampNeg)) → (((-(I 29 x3.toNatClampNeg)) - 8) < 0) → (¬ (I 29 x3.toNatClampNeg) = (-7)) → (¬ x2 ≤ 1) → ((-(I 29 x3.toNatClampNeg)) = 17) → mx_Go l (mx_rm (d + 1) 0 0) mX3_holds (mx_Z Q 0 0) 0 0 10 [.ref 28, .int x1, .ref 73, .int (x2 + (-1)), .int (x3 + 1), .int (I 29 x3.toNatClampNeg), .int ((-(I 29 x3.toNatClampNeg)) - 8), .int (I 32 (x2 + (-1)).toNatClampNeg), .int ((I 32 ((x2 + (-1)) - 1).toNatClampNeg) - (I 32 (x2 + (-1)).toNatClampNeg))] [] (sk0 c, (mx_set I 32 ((x2 + (-1)) - 1).toNatClampNeg ((I 32 ((x2 + (-1)) - 1).toNatClampNeg) - (I 32 (x2 + (-1)).toNatClampNeg)))))
    (b39 : (¬ (I 30 (x1 + 1).toNatClampNeg) ≤ x3) → (¬ 0 ≤ (I 29 x3.toNatClampNeg)) → (((-(I 29 x3.toNatClampNeg)) - 8) < 0) → (¬ (I 29 x3.toNatClampNeg) = (-7)) → (¬ x2 ≤ 1) → ((-(I 29 x3.toNatClampNeg)) = 18) → vp_in ((x2 + (-1)) - 1) 64)
    (e40 : (¬ (I 30 (x1 + 1).toNatClampNeg) ≤ x3) → (¬ 0 ≤ (I 29 x3.toNatClampNeg)) → (((-(I 29 x3.toNatClampNeg)) - 8) < 0) → (¬ (I 29 x3.toNatClampNeg) = (-7)) → (¬ x2 ≤ 1) → ((-(I 29 x3.toNatClampNeg)) = 18) → mx_Go l (mx_rm (d + 1) 0 0) mX3_holds (mx_Z Q 0 0) 0 0 10 [.ref 28, .int x1, .ref 73, .int (x2 + (-1)), .int (x3 + 1), .int (I 29 x3.toNatClampNeg), .int ((-(I 29 x3.toNatClampNeg)) - 8), .int (I 32 (x2 + (-1)).toNatClampNeg), .int ((I 32 ((x2 + (-1)) - 1).toNatClampNeg) * (I 32 (x2 + (-1)).toNatClampNeg))] [] (sk0 c, (mx_set I 32 ((x2 + (-1)) - 1).toNatClampNeg ((I 32 ((x2 + (-1)) - 1).toNatClampNeg) * (I 32 (x2 + (-1)).toNatClampNeg)))))
    (z41 : (¬ (I 30 (x1 + 1).toNatClampNeg) ≤ x3) → (¬ 0 ≤ (I 29 x3.toNatClampNeg)) → (((-(I 29 x3.toNatClampNeg)) - 8) < 0) → (¬ (I 29 x3.toNatClampNeg) = (-7)) → (¬ x2 ≤ 1) → ((-(I 29 x3.toNatClampNeg)) = 19) → (¬ (I 32 (x2 + (-1)).toNatClampNeg) = 0) → ¬ (I 32 (x2 + (-1)).toNatClampNeg) = 0)
    (b42 : (¬ (I 30 (x1 + 1).toNatClampNeg) ≤ x3) → (¬ 0 ≤ (I 29 x3.toNatClampNeg)) → (((-(I 29 x3.toNatClampNeg)) - 8) < 0) → (¬ (I 29 x3.toNatClampNeg) = (-7)) → (¬ x2 ≤ 1) → ((-(I 29 x3.toNatClampNeg)) = 19) → (¬ (I 32 (x2 + (-1)).toNatClampNeg) = 0) → vp_in ((x2 + (-1)) - 1) 64)
    (e43 : (¬ (I 30 (x1 + 1).toNatClampNeg) ≤ x3) → (¬ 0 ≤ (I 29 x3.toNatClampNeg)) → (((-(I 29 x3.toNatClampNeg)) - 8) < 0) → (¬ (I 29 x3.toNatClampNeg) = (-7)) → (¬ x2 ≤ 1) → ((-(I 29 x3.toNatClampNeg)) = 19) → (¬ (I 32 (x2 + (-1)).toNatClampNeg) = 0) → mx_Go l (mx_rm (d + 1) 0 0) mX3_holds (mx_Z Q 0 0) 0 0 10 [.ref 28, .int x1, .ref 73, .int (x2 + (-1)), .int (x3 + 1), .int (I 29 x3.toNatClampNeg), .int ((-(I 29 x3.toNatClampNeg)) - 8), .int (I 32 (x2 + (-1)).toNatClampNeg), .int ((I 32 ((x2 + (-1)) - 1).toNatClampNeg) / (I 32 (x2 + (-1)).toNatClampNeg))] [] (sk0 c, (mx_set I 32 ((x2 + (-1)) - 1).toNatClampNeg ((I 32 ((x2 + (-1)) - 1).toNatClampNeg) / (I 32 (x2 + (-1)).toNatClampNeg)))))
    (b44 : (¬ (I 30 (x1 + 1).toNatClampNeg) ≤ x3) → (¬ 0 ≤ (I 29 x3.toNatClampNeg)) → (((-(I 29 x3.toNatClampNeg)) - 8) < 0) → (¬ (I 29 x3.toNatClampNeg) = (-7)) → (¬ x2 ≤ 1) → ((-(I 29 x3.toNatClampNeg)) = 19) → ((I 32 (x2 + (-1)).toNatClampNeg) = 0) → vp_in ((x2 + (-1)) - 1) 64)
    (e45 : (¬ (I 30 (x1 + 1).toNatClampNeg) ≤ x3) → (¬ 0 ≤ (I 29 x3.toNatClampNeg)) → (((-(I 29 x3.toNatClampNeg)) - 8) < 0) → (¬ (I 29 x3.toNatClampNeg) = (-7)) → (¬ x2 ≤ 1) → ((-(I 29 x3.toNatClampNeg)) = 19) → ((I 32 (x2 + (-1)).toNatClampNeg) = 0) → mx_Go l (mx_rm (d + 1) 0 0) mX3_holds (mx_Z Q 0 0) 0 0 10 [.ref 28, .int x1, .ref 73, .int (x2 + (-1)), .int (x3 + 1), .int (I 29 x3.toNatClampNeg), .int ((-(I 29 x3.toNatClampNeg)) - 8), .int (I 32 (x2 + (-1)).toNatClampNeg), .int 0] [] (sk0 c, (mx_set I 32 ((x2 + (-1)) - 1).toNatClampNeg 0)))
    (b46 : (¬ (I 30 (x1 + 1).toNatClampNeg) ≤ x3) → (¬ 0 ≤ (I 29 x3.toNatClampNeg)) → (((-(I 29 x3.toNatClampNeg)) - 8) < 0) → (¬ (I 29 x3.toNatClampNeg) = (-7)) → (¬ x2 ≤ 1) → ((-(I 29 x3.toNatClampNeg)) = 20) → vp_in ((x2 + (-1)) - 1) 64)
    (e47 : (¬ (I 30 (x1 + 1).toNatClampNeg) ≤ x3) → (¬ 0 ≤ (I 29 x3.toNatClampNeg)) → (((-(I 29 x3.toNatClampNeg)) - 8) < 0) → (¬ (I 29 x3.toNatClampNeg) = (-7)) → (¬ x2 ≤ 1) → ((-(I 29 x3.toNatClampNeg)) = 20) → mx_Go l (mx_rm (d + 1) 0 0) mX3_holds (mx_Z Q 0 0) 0 0 10 [.ref 28, .int x1, .ref 73, .int (x2 + (-1)), .int (x3 + 1), .int (I 29 x3.toNatClampNeg), .int ((-(I 29 x3.toNatClampNeg)) - 8), .int (I 32 (x2 + (-1)).toNatClampNeg), .int ((I 32 ((x2 + (-1)) - 1).toNatClampNeg) ||| (I 32 (x2 + (-1)).toNatClampNeg))] [] (sk0 c, (mx_set I 32 ((x2 + (-1)) - 1).toNatClampNeg ((I 32 ((x2 + (-1)) - 1).toNatClampNeg) ||| (I 32 (x2 + (-1)).toNatClampNeg)))))
    (b48 : (¬ (I 30 (x1 + 1).toNatClampNeg) ≤ x3) → (¬ 0 ≤ (I 29 x3.toNatClampNeg)) → (((-(I 29 x3.toNatClampNeg)) - 8) < 0) → (¬ (I 29 x3.toNatClampNeg) = (-7)) → (¬ x2 ≤ 1) → ((-(I 29 x3.toNatClampNeg)) = 21) → vp_in ((x2 + (-1)) - 1) 64)
    (e49 : (¬ (I 30 (x1 + 1).toNatClampNeg) ≤ x3) → (¬ 0 ≤ (I 29 x3.toNatClampNeg)) → (((-(I 29 x3.toNatClampNeg)) - 8) < 0) → (¬ (I 29 x3.toNatClampNeg) = (-7)) → (¬ x2 ≤ 1) → ((-(I 29 x3.toNatClampNeg)) = 21) → mx_Go l (mx_rm (d + 1) 0 0) mX3_holds (mx_Z Q 0 0) 0 0 10 [.ref 28, .int x1, .ref 73, .int (x2 + (-1)), .int (x3 + 1), .int (I 29 x3.toNatClampNeg), .int ((-(I 29 x3.toNatClampNeg)) - 8), .int (I 32 (x2 + (-1)).toNatClampNeg), .int ((I 32 ((x2 + (-1)) - 1).toNatClampNeg) ||| (I 32 (x2 + (-1)).toNatClampNeg))] [] (sk0 c, (mx_set I 32 ((x2 + (-1)) - 1).toNatClampNeg ((I 32 ((x2 + (-1)) - 1).toNatClampNeg) ||| (I 32 (x2 + (-1)).toNatClampNeg)))))
    (b50 : (¬ (I 30 (x1 + 1).toNatClampNeg) ≤ x3) → (¬ 0 ≤ (I 29 x3.toNatClampNeg)) → (((-(I 29 x3.toNatClampNeg)) - 8) < 0) → (¬ (I 29 x3.toNatClampNeg) = (-7)) → (¬ x2 ≤ 1) → ((-(I 29 x3.toNatClampNeg)) = 22) → ((I 32 (x2 + (-1)).toNatClampNeg) ≤ (I 32 ((x2 + (-1)) - 1).toNatClampNeg)) → vp_in ((x2 + (-1)) - 1) 64)
    (e51 : (¬ (I 30 (x1 + 1).toNatClampNeg) ≤ x3) → (¬ 0 ≤ (I 29 x3.toNatClampNeg)) → (((-(I 29 x3.toNatClampNeg)) - 8) < 0) → (¬ (I 29 x3.toNatClampNeg) = (-7)) → (¬ x2 ≤ 1) → ((-(I 29 x3.toNatClampNeg)) = 22) → ((I 32 (x2 + (-1)).toNatClampNeg) ≤ (I 32 ((x2 + (-1)) - 1).toNatClampNeg)) → mx_Go l (mx_rm (d + 1) 0 0) mX3_holds (mx_Z Q 0 0) 0 0 10 [.ref 28, .int x1, .ref 73, .int (x2 + (-1)), .int (x3 + 1), .int (I 29 x3.toNatClampNeg), .int ((-(I 29 x3.toNatClampNeg)) - 8), .int (I 32 (x2 + (-1)).toNatClampNeg), .int 0] [] (sk0 c, (mx_set I 32 ((x2 + (-1)) - 1).toNatClampNeg 0)))
    (b52 : (¬ (I 30 (x1 + 1).toNatClampNeg) ≤ x3) → (¬ 0 ≤ (I 29 x3.toNatClampNeg)) → (((-(I 29 x3.toNatClampNeg)) - 8) < 0) → (¬ (I 29 x3.toNatClampNeg) = (-7)) → (¬ x2 ≤ 1) → ((-(I 29 x3.toNatClampNeg)) = 22) → (¬ (I 32 (x2 + (-1)).toNatClampNeg) ≤ (I 32 ((x2 + (-1)) - 1).toNatClampNeg)) → vp_in ((x2 + (-1)) - 1) 64)
    (e53 : (¬ (I 30 (x1 + 1).toNatClampNeg) ≤ x3) → (¬ 0 ≤ (I 29 x3.toNatClampNeg)) → (((-(I 29 x3.toNatClampNeg)) - 8) < 0) → (¬ (I 29 x3.toNatClampNeg) = (-7)) → (¬ x2 ≤ 1) → ((-(I 29 x3.toNatClampNeg)) = 22) → (¬ (I 32 (x2 + (-1)).toNatClampNeg) ≤ (I 32 ((x2 + (-1)) - 1).toNatClampNeg)) → mx_Go l (mx_rm (d + 1) 0 0) mX3_holds (mx_Z Q 0 0) 0 0 10 [.ref 28, .int x1, .ref 73, .int (x2 + (-1)), .int (x3 + 1), .int (I 29 x3.toNatClampNeg), .int ((-(I 29 x3.toNatClampNeg)) - 8), .int (I 32 (x2 + (-1)).toNatClampNeg), .int 1] [] (sk0 c, (mx_set I 32 ((x2 + (-1)) - 1).toNatClampNeg 1)))
    (b54 : (¬ (I 30 (x1 + 1).toNatClampNeg) ≤ x3) → (¬ 0 ≤ (I 29 x3.toNatClampNeg)) → (((-(I 29 x3.toNatClampNeg)) - 8) < 0) → (¬ (I 29 x3.toNatClampNeg) = (-7)) → (¬ x2 ≤ 1) → ((-(I 29 x3.toNatClampNeg)) = 23) → (¬ (I 32 ((x2 + (-1)) - 1).toNatClampNeg) = (I 32 (x2 + (-1)).toNatClampNeg)) → vp_in ((x2 + (-1)) - 1) 64)
    (e55 : (¬ (I 30 (x1 + 1).toNatClampNeg) ≤ x3) → (¬ 0 ≤ (I 29 x3.toNatClampNeg)) → (((-(I 29 x3.toNatClampNeg)) - 8) < 0) → (¬ (I 29 x3.toNatClampNeg) = (-7)) → (¬ x2 ≤ 1) → ((-(I 29 x3.toNatClampNeg)) = 23) → (¬ (I 32 ((x2 + (-1)) - 1).toNatClampNeg) = (I 32 (x2 + (-1)).toNatClampNeg)) → mx_Go l (mx_rm (d + 1) 0 0) mX3_holds (mx_Z Q 0 0) 0 0 10 [.ref 28, .int x1, .ref 73, .int (x2 + (-1)), .int (x3 + 1), .int (I 29 x3.toNatClampNeg), .int ((-(I 29 x3.toNatClampNeg)) - 8), .int (I 32 (x2 + (-1)).toNatClampNeg), .int 0] [] (sk0 c, (mx_set I 32 ((x2 + (-1)) - 1).toNatClampNeg 0)))
    (b56 : (¬ (I 30 (x1 + 1).toNatClampNeg) ≤ x3) → (¬ 0 ≤ (I 29 x3.toNatClampNeg)) → (((-(I 29 x3.toNatClampNeg)) - 8) < 0) → (¬ (I 29 x3.toNatClampNeg) = (-7)) → (¬ x2 ≤ 1) → ((-(I 29 x3.toNatClampNeg)) = 23) → ((I 32 ((x2 + (-1)) - 1).toNatClampNeg) = (I 32 (x2 + (-1)).toNatClampNeg)) → vp_in ((x2 + (-1)) - 1) 64)
    (e57 : (¬ (I 30 (x1 + 1).toNatClampNeg) ≤ x3) → (¬ 0 ≤ (I 29 x3.toNatClampNeg)) → (((-(I 29 x3.toNatClampNeg)) - 8) < 0) → (¬ (I 29 x3.toNatClampNeg) = (-7)) → (¬ x2 ≤ 1) → ((-(I 29 x3.toNatClampNeg)) = 23) → ((I 32 ((x2 + (-1)) - 1).toNatClampNeg) = (I 32 (x2 + (-1)).toNatClampNeg)) → mx_Go l (mx_rm (d + 1) 0 0) mX3_holds (mx_Z Q 0 0) 0 0 10 [.ref 28, .int x1, .ref 73, .int (x2 + (-1)), .int (x3 + 1), .int (I 29 x3.toNatClampNeg), .int ((-(I 29 x3.toNatClampNeg)) - 8), .int (I 32 (x2 + (-1)).toNatClampNeg), .int 1] [] (sk0 c, (mx_set I 32 ((x2 + (-1)) - 1).toNatClampNeg 1)))
    (b58 : (¬ (I 30 (x1 + 1).toNatClampNeg) ≤ x3) → (¬ 0 ≤ (I 29 x3.toNatClampNeg)) → (((-(I 29 x3.toNatClampNeg)) - 8) < 0) → (¬ (I 29 x3.toNatClampNeg) = (-7)) → (¬ x2 ≤ 1) → ((-(I 29 x3.toNatClampNeg)) = 24) → ((I 32 ((x2 + (-1)) - 1).toNatClampNeg) ≤ (I 32 (x2 + (-1)).toNatClampNeg)) → vp_in ((x2 + (-1)) - 1) 64)
    (e59 : (¬ (I 30 (x1 + 1).toNatClampNeg) ≤ x3) → (¬ 0 ≤ (I 29 x3.toNatClampNeg)) → (((-(I 29 x3.toNatClampNeg)) - 8) < 0) → (¬ (I 29 x3.toNatClampNeg) = (-7)) → (¬ x2 ≤ 1) → ((-(I 29 x3.toNatClampNeg)) = 24) → ((I 32 ((x2 + (-1)) - 1).toNatClampNeg) ≤ (I 32 (x2 + (-1)).toNatClampNeg)) → mx_Go l (mx_rm (d + 1) 0 0) mX3_holds (mx_Z Q 0 0) 0 0 10 [.ref 28, .int x1, .ref 73, .int (x2 + (-1)), .int (x3 + 1), .int (I 29 x3.toNatClampNeg), .int ((-(I 29 x3.toNatClampNeg)) - 8), .int (I 32 (x2 + (-1)).toNatClampNeg), .int 0] [] (sk0 c, (mx_set I 32 ((x2 + (-1)) - 1).toNatClampNeg 0)))
    (b60 : (¬ (I 30 (x1 + 1).toNatClampNeg) ≤ x3) → (¬ 0 ≤ (I 29 x3.toNatClampNeg)) → (((-(I 29 x3.toNatClampNeg)) - 8) < 0) → (¬ (I 29 x3.toNatClampNeg) = (-7)) → (¬ x2 ≤ 1) → ((-(I 29 x3.toNatClampNeg)) = 24) → (¬ (I 32 ((x2 + (-1)) - 1).toNatClampNeg) ≤ (I 32 (x2 + (-1)).toNatClampNeg)) → vp_in ((x2 + (-1)) - 1) 64)
    (e61 : (¬ (I 30 (x1 + 1).toNatClampNeg) ≤ x3) → (¬ 0 ≤ (I 29 x3.toNatClampNeg)) → (((-(I 29 x3.toNatClampNeg)) - 8) < 0) → (¬ (I 29 x3.toNatClampNeg) = (-7)) → (¬ x2 ≤ 1) → ((-(I 29 x3.toNatClampNeg)) = 24) → (¬ (I 32 ((x2 + (-1)) - 1).toNatClampNeg) ≤ (I 32 (x2 + (-1)).toNatClampNeg)) → mx_Go l (mx_rm (d + 1) 0 0) mX3_holds (mx_Z Q 0 0) 0 0 10 [.ref 28, .int x1, .ref 73, .int (x2 + (-1)), .int (x3 + 1), .int (I 29 x3.toNatClampNeg), .int ((-(I 29 x3.toNatClampNeg)) - 8), .int (I 32 (x2 + (-1)).toNatClampNeg), .int 1] [] (sk0 c, (mx_set I 32 ((x2 + (-1)) - 1).toNatClampNeg 1)))
    (b62 : (¬ (I 30 (x1 + 1).toNatClampNeg) ≤ x3) → (¬ 0 ≤ (I 29 x3.toNatClampNeg)) → (((-(I 29 x3.toNatClampNeg)) - 8) < 0) → (¬ (I 29 x3.toNatClampNeg) = (-7)) → (¬ x2 ≤ 1) → (¬ (-(I 29 x3.toNatClampNeg)) = 6) → (¬ (-(I 29 x3.toNatClampNeg)) = 7) → (¬ (-(I 29 x3.toNatClampNeg)) = 8) → (¬ (-(I 29 x3.toNatClampNeg)) = 9) → (¬ (-(I 29 x3.toNatClampNeg)) = 10) → (¬ (-(I 29 x3.toNatClampNeg)) = 11) → (¬ (-(I 29 x3.toNatClampNeg)) = 12) → (¬ (-(I 29 x3.toNatClampNeg)) = 13) → (¬ (-(I 29 x3.toNatClampNeg)) = 14) → (¬ (-(I 29 x3.toNatClampNeg)) = 15) → (¬ (-(I 29 x3.toNatClampNeg)) = 16) → (¬ (-(I 29 x3.toNatClampNeg)) = 17) → (¬ (-(I 29 x3.toNatClampNeg)) = 18) → (¬ (-(I 29 x3.toNatClampNeg)) = 19) → (¬ (-(I 29 x3.toNatClampNeg)) = 20) → (¬ (-(I 29 x3.toNatClampNeg)) = 21) → (¬ (-(I 29 x3.toNatClampNeg)) = 22) → (¬ (-(I 29 x3.toNatClampNeg)) = 23) → (¬ (-(I 29 x3.toNatClampNeg)) = 24) → vp_in ((x2 + (-1)) - 1) 64)
    (e63 : (¬ (I 30 (x1 + 1).toNatClampNeg) ≤ x3) → (¬ 0 ≤ (I 29 x3.toNatClampNeg)) → (((-(I 29 x3.toNatClampNeg)) - 8) < 0) → (¬ (I 29 x3.toNatClampNeg) = (-7)) → (¬ x2 ≤ 1) → (¬ (-(I 29 x3.toNatClampNeg)) = 6) → (¬ (-(I 29 x3.toNatClampNeg)) = 7) → (¬ (-(I 29 x3.toNatClampNeg)) = 8) → (¬ (-(I 29 x3.toNatClampNeg)) = 9) → (¬ (-(I 29 x3.toNatClampNeg)) = 10) → (¬ (-(I 29 x3.toNatClampNeg)) = 11) → (¬ (-(I 29 x3.toNatClampNeg)) = 12) → (¬ (-(I 29 x3.toNatClampNeg)) = 13) → (¬ (-(I 29 x3.toNatClampNeg)) = 14) → (¬ (-(I 29 x3.toNatClampNeg)) = 15) → (¬ (-(I 29 x3.toNatClampNeg)) = 16) → (¬ (-(I 29 x3.toNatClampNeg)) = 17) → (¬ (-(I 29 x3.toNatClampNeg)) = 18) → (¬ (-(I 29 x3.toNatClampNeg)) = 19) → (¬ (-(I 29 x3.toNatClampNeg)) = 20) → (¬ (-(I 29 x3.toNatClampNeg)) = 21) → (¬ (-(I 29 x3.toNatClampNeg)) = 22) → (¬ (-(I 29 x3.toNatClampNeg)) = 23) → (¬ (-(I 29 x3.toNatClampNeg)) = 24) → mx_Go l (mx_rm (d + 1) 0 0) mX3_holds (mx_Z Q 0 0) 0 0 10 [.ref 28, .int x1, .ref 73, .int (x2 + (-1)), .int (x3 + 1), .int (I 29 x3.toNatClampNeg), .int ((-(I 29 x3.toNatClampNeg)) - 8), .int (I 32 (x2 + (-1)).toNatClampNeg), .int ((I 32 ((x2 + (-1)) - 1).toNatClampNeg) ||| (I 32 (x2 + (-1)).toNatClampNeg))] [] (sk0 c, (mx_set I 32 ((x2 + (-1)) - 1).toNatClampNeg ((I 32 ((x2 + (-1)) - 1).toNatClampNeg) ||| (I 32 (x2 + (-1)).toNatClampNeg)))))
    (e64 : (¬ (I 30 (x1 + 1).toNatClampNeg) ≤ x3) → (¬ 0 ≤ (I 29 x3.toNatClampNeg)) → (((-(I 29 x3.toNatClampNeg)) - 8) < 0) → ((I 29 x3.toNatClampNeg) = (-7)) → (x2 ≤ 0) → mx_Go l (mx_rm (d + 1) 0 0) mX3_holds (mx_Z Q 0 0) 0 0 10 [.ref 28, .int x1, .ref 73, .int x2, .int (x3 + 1), .int (I 29 x3.toNatClampNeg), .int ((-(I 29 x3.toNatClampNeg)) - 8), .retAddr 0, .retAddr 0] [] (sk0 c, I))
    (b65 : (¬ (I 30 (x1 + 1).toNatClampNeg) ≤ x3) → (¬ 0 ≤ (I 29 x3.toNatClampNeg)) → (((-(I 29 x3.toNatClampNeg)) - 8) < 0) → ((I 29 x3.toNatClampNeg) = (-7)) → (¬ x2 ≤ 0) → vp_in (x2 - 1) 64)
    (b66 : (¬ (I 30 (x1 + 1).toNatClampNeg) ≤ x3) → (¬ 0 ≤ (I 29 x3.toNatClampNeg)) → (((-(I 29 x3.toNatClampNeg)) - 8) < 0) → ((I 29 x3.toNatClampNeg) = (-7)) → (¬ x2 ≤ 0) → vp_in (x2 - 1) 64)
    (e67 : (¬ (I 30 (x1 + 1).toNatClampNeg) ≤ x3) → (¬ 0 ≤ (I 29 x3.toNatClampNeg)) → (((-(I 29 x3.toNatClampNeg)) - 8) < 0) → ((I 29 x3.toNatClampNeg) = (-7)) → (¬ x2 ≤ 0) → mx_Go l (mx_rm (d + 1) 0 0) mX3_holds (mx_Z Q 0 0) 0 0 10 [.ref 28, .int x1, .ref 73, .int x2, .int (x3 + 1), .int (I 29 x3.toNatClampNeg), .int ((-(I 29 x3.toNatClampNeg)) - 8), .retAddr 0, .retAddr 0] [] (sk0 c, (mx_set I 32 (x2 - 1).toNatClampNeg (1 - (I 32 (x2 - 1).toNatClampNeg)))))
    (e68 : (¬ (I 30 (x1 + 1).toNatClampNeg) ≤ x3) → (¬ 0 ≤ (I 29 x3.toNatClampNeg)) → (¬ ((-(I 29 x3.toNatClampNeg)) - 8) < 0) → (7 ≤ ((-(I 29 x3.toNatClampNeg)) - 8)) → (¬ (I 29 x3.toNatClampNeg) = (-7)) → (x2 ≤ 1) → mx_Go l (mx_rm (d + 1) 0 0) mX3_holds (mx_Z Q 0 0) 0 0 10 [.ref 28, .int x1, .ref 73, .int x2, .int (x3 + 1), .int (I 29 x3.toNatClampNeg), .int ((-(I 29 x3.toNatClampNeg)) - 8), .retAddr 0, .retAddr 0] [] (sk0 c, I))
    (b69 : (¬ (I 30 (x1 + 1).toNatClampNeg) ≤ x3) → (¬ 0 ≤ (I 29 x3.toNatClampNeg)) → (¬ ((-(I 29 x3.toNatClampNeg)) - 8) < 0) → (7 ≤ ((-(I 29 x3.toNatClampNeg)) - 8)) → (¬ (I 29 x3.toNatClampNeg) = (-7)) → (¬ x2 ≤ 1) → vp_in (x2 + (-1)) 64)
    (b70 : (¬ (I 30 (x1 + 1).toNatClampNeg) ≤ x3) → (¬ 0 ≤ (I 29 x3.toNatClampNeg)) → (¬ ((-(I 29 x3.toNatClampNeg)) - 8) < 0) → (7 ≤ ((-(I 29 x3.toNatClampNeg)) - 8)) → (¬ (I 29 x3.toNatClampNeg) = (-7)) → (¬ x2 ≤ 1) → vp_in ((x2 + (-1)) - 1) 64)
    (b71 : (¬ (I 30 (x1 + 1).toNatClampNeg) ≤ x3) → (¬ 0 ≤ (I 29 x3.toNatClampNeg)) → (¬ ((-(I 29 x3.toNatClampNeg)) - 8) < 0) → (7 ≤ ((-(I 29 x3.toNatClampNeg)) - 8)) → (¬ (I 29 x3.toNatClampNeg) = (-7)) → (¬ x2 ≤ 1) → ((-(I 29 x3.toNatClampNeg)) = 6) → vp_in ((x2 + (-1)) - 1) 64)
    (e72 : (¬ (I 30 (x1 + 1).toNatClampNeg) ≤ x3) → (¬ 0 ≤ (I 29 x3.toNatClampNeg)) → (¬ ((-(I 29 x3.toNatClampNeg)) - 8) < 0) → (7 ≤ ((-(I 29 x3.toNatClampNeg)) - 8)) → (¬ (I 29 x3.toNatClampNeg) = (-7)) → (¬ x2 ≤ 1) → ((-(I 29 x3.toNatClampNeg)) = 6) → mx_Go l (mx_rm (d + 1) 0 0) mX3_holds (mx_Z Q 0 0) 0 0 10 [.ref 28, .int x1, .ref 73, .int (x2 + (-1)), .int (x3 + 1), .int (I 29 x3.toNatClampNeg), .int ((-(I 29 x3.toNatClampNeg)) - 8), .int (I 32 (x2 + (-1)).toNatClampNeg), .int ((I 32 ((x2 + (-1)) - 1).toNatClampNeg) &&& (I 32 (x2 + (-1)).toNatClampNeg))] [] (sk0 c, (mx_set I 32 ((x2 + (-1)) - 1).toNatClampNeg ((I 32 ((x2 + (-1)) - 1).toNatClampNeg) &&& (I 32 (x2 + (-1)).toNatClampNeg)))))
    (b73 : (¬ (I 30 (x1 + 1).toNatClampNeg) ≤ x3) → (¬ 0 ≤ (I 29 x3.toNatClampNeg)) → (¬ ((-(I 29 x3.toNatClampNeg)) - 8) < 0) → (7 ≤ ((-(I 29 x3.toNatClampNeg)) - 8)) → (¬ (I 29 x3.toNatClampNeg) = (-7)) → (¬ x2 ≤ 1) → ((-(I 29 x3.toNatClampNeg)) = 7) → vp_in ((x2 + (-1)) - 1) 64)
    (e74 : (¬ (I 30 (x1 + 1).toNatClampNeg) ≤ x3) → (¬ 0 ≤ (I 29 x3.toNatClampNeg)) → (¬ ((-(I 29 x3.toNatClampNeg)) - 8) < 0) → (7 ≤ ((-(I 29 x3.toNatClampNeg)) - 8)) → (¬ (I 29 x3.toNatClampNeg) = (-7)) → (¬ x2 ≤ 1) → ((-(I 29 x3.toNatClampNeg)) = 7) → mx_Go l (mx_rm (d + 1) 0 0) mX3_holds (mx_Z Q 0 0) 0 0 10 [.ref 28, .int x1, .ref 73, .int (x2 + (-1)), .int (x3 + 1), .int (I 29 x3.toNatClampNeg), .int ((-(I 29 x3.toNatClampNeg)) - 8), .int (I 32 (x2 + (-1)).toNatClampNeg), .int ((I 32 ((x2 + (-1)) - 1).toNatClampNeg) ||| (I 32 (x2 + (-1)).toNatClampNeg))] [] (sk0 c, (mx_set I 32 ((x2 + (-1)) - 1).toNatClampNeg ((I 32 ((x2 + (-1)) - 1).toNatClampNeg) ||| (I 32 (x2 + (-1)).toNatClampNeg)))))
    (b75 : (¬ (I 30 (x1 + 1).toNatClampNeg) ≤ x3) → (¬ 0 ≤ (I 29 x3.toNatClampNeg)) → (¬ ((-(I 29 x3.toNatClampNeg)) - 8) < 0) → (7 ≤ ((-(I 29 x3.toNatClampNeg)) - 8)) → (¬ (I 29 x3.toNatClampNeg) = (-7)) → (¬ x2 ≤ 1) → ((-(I 29 x3.toNatClampNeg)) = 8) → vp_in ((x2 + (-1)) - 1) 64)
    (e76 : (¬ (I 30 (x1 + 1).toNatClampNeg) ≤ x3) → (¬ 0 ≤ (I 29 x3.toNatClampNeg)) → (¬ ((-(I 29 x3.toNatClampNeg)) - 8) < 0) → (7 ≤ ((-(I 29 x3.toNatClampNeg)) - 8)) → (¬ (I 29 x3.toNatClampNeg) = (-7)) → (¬ x2 ≤ 1) → ((-(I 29 x3.toNatClampNeg)) = 8) → mx_Go l (mx_rm (d + 1) 0 0) mX3_holds (mx_Z Q 0 0) 0 0 10 [.ref 28, .int x1, .ref 73, .int (x2 + (-1)), .int (x3 + 1), .int (I 29 x3.toNatClampNeg), .int ((-(I 29 x3.toNatClampNeg)) - 8), .int (I 32 (x2 + (-1)).toNatClampNeg), .int ((I 32 ((x2 + (-1)) - 1).toNatClampNeg) ||| (I 32 (x2 + (-1)).toNatClampNeg))] [] (sk0 c, (mx_set I 32 ((x2 + (-1)) - 1).toNatClampNeg ((I 32 ((x2 + (-1)) - 1).toNatClampNeg) ||| (I 32 (x2 + (-1)).toNatClampNeg)))))
    (b77 : (¬ (I 30 (x1 + 1).toNatClampNeg) ≤ x3) → (¬ 0 ≤ (I 29 x3.toNatClampNeg)) → (¬ ((-(I 29 x3.toNatClampNeg)) - 8) < 0) → (7 ≤ ((-(I 29 x3.toNatClampNeg)) - 8)) → (¬ (I 29 x3.toNatClampNeg) = (-7)) → (¬ x2 ≤ 1) → ((-(I 29 x3.toNatClampNeg)) = 9) → vp_in ((x2 + (-1)) - 1) 64)
    (e78 : (¬ (I 30 (x1 + 1).toNatClampNeg) ≤ x3) → (¬ 0 ≤ (I 29 x3.toNatClampNeg)) → (¬ ((-(I 29 x3.toNatClampNeg)) - 8) < 0) → (7 ≤ ((-(I 29 x3.toNatClampNeg)) - 8)) → (¬ (I 29 x3.toNatClampNeg) = (-7)) → (¬ x2 ≤ 1) → ((-(I 29 x3.toNatClampNeg)) = 9) → mx_Go l (mx_rm (d + 1) 0 0) mX3_holds (mx_Z Q 0 0) 0 0 10 [.ref 28, .int x1, .ref 73, .int (x2 + (-1)), .int (x3 + 1), .int (I 29 x3.toNatClampNeg), .int ((-(I 29 x3.toNatClampNeg)) - 8), .int (I 32 (x2 + (-1)).toNatClampNeg), .int ((I 32 ((x2 + (-1)) - 1).toNatClampNeg) ||| (I 32 (x2 + (-1)).toNatClampNeg))] [] (sk0 c, (mx_set I 32 ((x2 + (-1)) - 1).toNatClampNeg ((I 32 ((x2 + (-1)) - 1).toNatClampNeg) ||| (I 32 (x2 + (-1)).toNatClampNeg)))))
    (b79 : (¬ (I 30 (x1 + 1).toNatClampNeg) ≤ x3) → (¬ 0 ≤ (I 29 x3.toNatClampNeg)) → (¬ ((-(I 29 x3.toNatClampNeg)) - 8) < 0) → (7 ≤ ((-(I 29 x3.toNatClampNeg)) - 8)) → (¬ (I 29 x3.toNatClampNeg) = (-7)) → (¬ x2 ≤ 1) → ((-(I 29 x3.toNatClampNeg)) = 10) → vp_in ((x2 + (-1)) - 1) 64)
    (e80 : (¬ (I 30 (x1 + 1).toNatClampNeg) ≤ x3) → (¬ 0 ≤ (I 29 x3.toNatClampNeg)) → (¬ ((-(I 29 x3.toNatClampNeg)) - 8) < 0) → (7 ≤ ((-(I 29 x3.toNatClampNeg)) - 8)) → (¬ (I 29 x3.toNatClampNeg) = (-7)) → (¬ x2 ≤ 1) → ((-(I 29 x3.toNatClampNeg)) = 10) → mx_Go l (mx_rm (d + 1) 0 0) mX3_holds (mx_Z Q 0 0) 0 0 10 [.ref 28, .int x1, .ref 73, .int (x2 + (-1)), .int (x3 + 1), .int (I 29 x3.toNatClampNeg), .int ((-(I 29 x3.toNatClampNeg)) - 8), .int (I 32 (x2 + (-1)).toNatClampNeg), .int ((I 32 ((x2 + (-1)) - 1).toNatClampNeg) ||| (I 32 (x2 + (-1)).toNatClampNeg))] [] (sk0 c, (mx_set I 32 ((x2 + (-1)) - 1).toNatClampNeg ((I 32 ((x2 + (-1)) - 1).toNatClampNeg) ||| (I 32 (x2 + (-1)).toNatClampNeg)))))
    (b81 : (¬ (I 30 (x1 + 1).toNatClampNeg) ≤ x3) → (¬ 0 ≤ (I 29 x3.toNatClampNeg)) → (¬ ((-(I 29 x3.toNatClampNeg)) - 8) < 0) → (7 ≤ ((-(I 29 x3.toNatClampNeg)) - 8)) → (¬ (I 29 x3.toNatClampNeg) = (-7)) → (¬ x2 ≤ 1) → ((-(I 29 x3.toNatClampNeg)) = 11) → vp_in ((x2 + (-1)) - 1) 64)
    (e82 : (¬ (I 30 (x1 + 1).toNatClampNeg) ≤ x3) → (¬ 0 ≤ (I 29 x3.toNatClampNeg)) → (¬ ((-(I 29 x3.toNatClampNeg)) - 8) < 0) → (7 ≤ ((-(I 29 x3.toNatClampNeg)) - 8)) → (¬ (I 29 x3.toNatClampNeg) = (-7)) → (¬ x2 ≤ 1) → ((-(I 29 x3.toNatClampNeg)) = 11) → mx_Go l (mx_rm (d + 1) 0 0) mX3_holds (mx_Z Q 0 0) 0 0 10 [.ref 28, .int x1, .ref 73, .int (x2 + (-1)), .int (x3 + 1), .int (I 29 x3.toNatClampNeg), .int ((-(I 29 x3.toNatClampNeg)) - 8), .int (I 32 (x2 + (-1)).toNatClampNeg), .int ((I 32 ((x2 + (-1)) - 1).toNatClampNeg) ||| (I 32 (x2 + (-1)).toNatClampNeg))] [] (sk0 c, (mx_set I 32 ((x2 + (-1)) - 1).toNatClampNeg ((I 32 ((x2 + (-1)) - 1).toNatClampNeg) ||| (I 32 (x2 + (-1)).toNatClampNeg)))))
    (b83 : (¬ (I 30 (x1 + 1).toNatClampNeg) ≤ x3) → (¬ 0 ≤ (I 29 x3.toNatClampNeg)) → (¬ ((-(I 29 x3.toNatClampNeg)) - 8) < 0) → (7 ≤ ((-(I 29 x3.toNatClampNeg)) - 8)) → (¬ (I 29 x3.toNatClampNeg) = (-7)) → (¬ x2 ≤ 1) → ((-(I 29 x3.toNatClampNeg)) = 12) → vp_in ((x2 + (-1)) - 1) 64)
    (e84 : (¬ (I 30 (x1 + 1).toNatClampNeg) ≤ x3) → (¬ 0 ≤ (I 29 x3.toNatClampNeg)) → (¬ ((-(I 29 x3.toNatClampNeg)) - 8) < 0) → (7 ≤ ((-(I 29 x3.toNatClampNeg)) - 8)) → (¬ (I 29 x3.toNatClampNeg) = (-7)) → (¬ x2 ≤ 1) → ((-(I 29 x3.toNatClampNeg)) = 12) → mx_Go l (mx_rm (d + 1) 0 0) mX3_holds (mx_Z Q 0 0) 0 0 10 [.ref 28, .int x1, .ref 73, .int (x2 + (-1)), .int (x3 + 1), .int (I 29 x3.toNatClampNeg), .int ((-(I 29 x3.toNatClampNeg)) - 8), .int (I 32 (x2 + (-1)).toNatClampNeg), .int ((I 32 ((x2 + (-1)) - 1).toNatClampNeg) ||| (I 32 (x2 + (-1)).toNatClampNeg))] [] (sk0 c, (mx_set I 32 ((x2 + (-1)) - 1).toNatClampNeg ((I 32 ((x2 + (-1)) - 1).toNatClampNeg) ||| (I 32 (x2 + (-1)).toNatClampNeg)))))
    (b85 : (¬ (I 30 (x1 + 1).toNatClampNeg) ≤ x3) → (¬ 0 ≤ (I 29 x3.toNatClampNeg)) → (¬ ((-(I 29 x3.toNatClampNeg)) - 8) < 0) → (7 ≤ ((-(I 29 x3.toNatClampNeg)) - 8)) → (¬ (I 29 x3.toNatClampNeg) = (-7)) → (¬ x2 ≤ 1) → ((-(I 29 x3.toNatClampNeg)) = 13) → vp_in ((x2 + (-1)) - 1) 64)
    (e86 : (¬ (I 30 (x1 + 1).toNatClampNeg) ≤ x3) → (¬ 0 ≤ (I 29 x3.toNatClampNeg)) → (¬ ((-(I 29 x3.toNatClampNeg)) - 8) < 0) → (7 ≤ ((-(I 29 x3.toNatClampNeg)) - 8)) → (¬ (I 29 x3.toNatClampNeg) = (-7)) → (¬ x2 ≤ 1) → ((-(I 29 x3.toNatClampNeg)) = 13) → mx_Go l (mx_rm (d + 1) 0 0) mX3_holds (mx_Z Q 0 0) 0 0 10 [.ref 28, .int x1, .ref 73, .int (x2 + (-1)), .int (x3 + 1), .int (I 29 x3.toNatClampNeg), .int ((-(I 29 x3.toNatClampNeg)) - 8), .int (I 32 (x2 + (-1)).toNatClampNeg), .int ((I 32 ((x2 + (-1)) - 1).toNatClampNeg) ||| (I 32 (x2 + (-1)).toNatClampNeg))] [] (sk0 c, (mx_set I 32 ((x2 + (-1)) - 1).toNatClampNeg ((I 32 ((x2 + (-1)) - 1).toNatClampNeg) ||| (I 32 (x2 + (-1)).toNatClampNeg)))))
    (b87 : (¬ (I 30 (x1 + 1).toNatClampNeg) ≤ x3) → (¬ 0 ≤ (I 29 x3.toNatClampNeg)) → (¬ ((-(I 29 x3.toNatClampNeg)) - 8) < 0) → (7 ≤ ((-(I 29 x3.toNatClampNeg)) - 8)) → (¬ (I 29 x3.toNatClampNeg) = (-7)) → (¬ x2 ≤ 1) → ((-(I 29 x3.toNatClampNeg)) = 14) → vp_in ((x2 + (-1)) - 1) 64)
    (e88 : (¬ (I 30 (x1 + 1).toNatClampNeg) ≤ x3) → (¬ 0 ≤ (I 29 x3.toNatClampNeg)) → (¬ ((-(I 29 x3.toNatClampNeg)) - 8) < 0) → (7 ≤ ((-(I 29 x3.toNatClampNeg)) - 8)) → (¬ (I 29 x3.toNatClampNeg) = (-7)) → (¬ x2 ≤ 1) → ((-(I 29 x3.toNatClampNeg)) = 14) → mx_Go l (mx_rm (d + 1) 0 0) mX3_holds (mx_Z Q 0 0) 0 0 10 [.ref 28, .int x1, .ref 73, .int (x2 + (-1)), .int (x3 + 1), .int (I 29 x3.toNatClampNeg), .int ((-(I 29 x3.toNatClampNeg)) - 8), .int (I 32 (x2 + (-1)).toNatClampNeg), .int ((I 32 ((x2 + (-1)) - 1).toNatClampNeg) ||| (I 32 (x2 + (-1)).toNatClampNeg))] [] (sk0 c, (mx_set I 32 ((x2 + (-1)) - 1).toNatClampNeg ((I 32 ((x2 + (-1)) - 1).toNatClampNeg) ||| (I 32 (x2 + (-1)).toNatClampNeg)))))
    (b89 : (¬ (I 30 (x1 + 1).toNatClampNeg) ≤ x3) → (¬ 0 ≤ (I 29 x3.toNatClampNeg)) → (¬ ((-(I 29 x3.toNatClampNeg)) - 8) < 0) → (7 ≤ ((-(I 29 x3.toNatClampNeg)) - 8)) → (¬ (I 29 x3.toNatClampNeg) = (-7)) → (¬ x2 ≤ 1) → ((-(I 29 x3.toNatClampNeg)) = 15) → vp_in ((x2 + (-1)) - 1) 64)
    (e90 : (¬ (I 30 (x1 + 1).toNatClampNeg) ≤ x3) → (¬ 0 ≤ (I 29 x3.toNatClampNeg)) → (¬ ((-(I 29 x3.toNatClampNeg)) - 8) < 0) → (7 ≤ ((-(I 29 x3.toNatClampNeg)) - 8)) → (¬ (I 29 x3.toNatClampNeg) = (-7)) → (¬ x2 ≤ 1) → ((-(I 29 x3.toNatClampNeg)) = 15) → mx_Go l (mx_rm (d + 1) 0 0) mX3_holds (mx_Z Q 0 0) 0 0 10 [.ref 28, .int x1, .ref 73, .int (x2 + (-1)), .int (x3 + 1), .int (I 29 x3.toNatClampNeg), .int ((-(I 29 x3.toNatClampNeg)) - 8), .int (I 32 (x2 + (-1)).toNatClampNeg), .int ((I 32 ((x2 + (-1)) - 1).toNatClampNeg) ||| (I 32 (x2 + (-1)).toNatClampNeg))] [] (sk0 c, (mx_set I 32 ((x2 + (-1)) - 1).toNatClampNeg ((I 32 ((x2 + (-1)) - 1).toNatClampNeg) ||| (I 32 (x2 + (-1)).toNatClampNeg)))))
    (b91 : (¬ (I 30 (x1 + 1).toNatClampNeg) ≤ x3) → (¬ 0 ≤ (I 29 x3.toNatClampNeg)) → (¬ ((-(I 29 x3.toNatClampNeg)) - 8) < 0) → (7 ≤ ((-(I 29 x3.toNatClampNeg)) - 8)) → (¬ (I 29 x3.toNatClampNeg) = (-7)) → (¬ x2 ≤ 1) → ((-(I 29 x3.toNatClampNeg)) = 16) → vp_in ((x2 + (-1)) - 1) 64)
    (e92 : (¬ (I 30 (x1 + 1).toNatClampNeg) ≤ x3) → (¬ 0 ≤ (I 29 x3.toNatClampNeg)) → (¬ ((-(I 29 x3.toNatClampNeg)) - 8) < 0) → (7 ≤ ((-(I 29 x3.toNatClampNeg)) - 8)) → (¬ (I 29 x3.toNatClampNeg) = (-7)) → (¬ x2 ≤ 1) → ((-(I 29 x3.toNatClampNeg)) = 16) → mx_Go l (mx_rm (d + 1) 0 0) mX3_holds (mx_Z Q 0 0) 0 0 10 [.ref 28, .int x1, .ref 73, .int (x2 + (-1)), .int (x3 + 1), .int (I 29 x3.toNatClampNeg), .int ((-(I 29 x3.toNatClampNeg)) - 8), .int (I 32 (x2 + (-1)).toNatClampNeg), .int ((I 32 ((x2 + (-1)) - 1).toNatClampNeg) + (I 32 (x2 + (-1)).toNatClampNeg))] [] (sk0 c, (mx_set I 32 ((x2 + (-1)) - 1).toNatClampNeg ((I 32 ((x2 + (-1)) - 1).toNatClampNeg) + (I 32 (x2 + (-1)).toNatClampNeg)))))
    (b93 : (¬ (I 30 (x1 + 1).toNatClampNeg) ≤ x3) → (¬ 0 ≤ (I 29 x3.toNatClampNeg)) → (¬ ((-(I 29 x3.toNatClampNeg)) - 8) < 0) → (7 ≤ ((-(I 29 x3.toNatClampNeg)) - 8)) → (¬ (I 29 x3.toNatClampNeg) = (-7)) → (¬ x2 ≤ 1) → ((-(I 29 x3.toNatClampNeg)) = 17) → vp_in ((x2 + (-1)) - 1) 64)
    (e94 : (¬ (I 30 (x1 + 1).toNatClampNeg) ≤ x3) → (¬ 0 ≤ (I 29 x3.toNatClampNeg)) → (¬ ((-(I 29 x3.toNatClampNeg)) - 8) < 0) → (7 ≤ ((-(I 29 x3.toNatClampNeg)) - 8)) → (¬ (I 29 x3.toNatClampNeg) = (-7)) → (¬ x2 ≤ 1) → ((-(I 29 x3.toNatClampNeg)) = 17) → mx_Go l (mx_rm (d + 1) 0 0) mX3_holds (mx_Z Q 0 0) 0 0 10 [.ref 28, .int x1, .ref 73, .int (x2 + (-1)), .int (x3 + 1), .int (I 29 x3.toNatClampNeg), .int ((-(I 29 x3.toNatClampNeg)) - 8), .int (I 32 (x2 + (-1)).toNatClampNeg), .int ((I 32 ((x2 + (-1)) - 1).toNatClampNeg) - (I 32 (x2 + (-1)).toNatClampNeg))] [] (sk0 c, (mx_set I 32 ((x2 + (-1)) - 1).toNatClampNeg ((I 32 ((x2 + (-1)) - 1).toNatClampNeg) - (I 32 (x2 + (-1)).toNatClampNeg)))))
    (b95 : (¬ (I 30 (x1 + 1).toNatClampNeg) ≤ x3) → (¬ 0 ≤ (I 29 x3.toNatClampNeg)) → (¬ ((-(I 29 x3.toNatClampNeg)) - 8) < 0) → (7 ≤ ((-(I 29 x3.toNatClampNeg)) - 8)) → (¬ (I 29 x3.toNatClampNeg) = (-7)) → (¬ x2 ≤ 1) → ((-(I 29 x3.toNatClampNeg)) = 18) → vp_in ((x2 + (-1)) - 1) 64)
    (e96 : (¬ (I 30 (x1 + 1).toNatClampNeg) ≤ x3) → (¬ 0 ≤ (I 29 x3.toNatClampNeg)) → (¬ ((-(I 29 x3.toNatClampNeg)) - 8) < 0) → (7 ≤ ((-(I 29 x3.toNatClampNeg)) - 8)) → (¬ (I 29 x3.toNatClampNeg) = (-7)) → (¬ x2 ≤ 1) → ((-(I 29 x3.toNatClampNeg)) = 18) → mx_Go l (mx_rm (d + 1) 0 0) mX3_holds (mx_Z Q 0 0) 0 0 10 [.ref 28, .int x1, .ref 73, .int (x2 + (-1)), .int (x3 + 1), .int (I 29 x3.toNatClampNeg), .int ((-(I 29 x3.toNatClampNeg)) - 8), .int (I 32 (x2 + (-1)).toNatClampNeg), .int ((I 32 ((x2 + (-1)) - 1).toNatClampNeg) * (I 32 (x2 + (-1)).toNatClampNeg))] [] (sk0 c, (mx_set I 32 ((x2 + (-1)) - 1).toNatClampNeg ((I 32 ((x2 + (-1)) - 1).toNatClampNeg) * (I 32 (x2 + (-1)).toNatClampNeg)))))
    (z97 : (¬ (I 30 (x1 + 1).toNatClampNeg) ≤ x3) → (¬ 0 ≤ (I 29 x3.toNatClampNeg)) → (¬ ((-(I 29 x3.toNatClampNeg)) - 8) < 0) → (7 ≤ ((-(I 29 x3.toNatClampNeg)) - 8)) → (¬ (I 29 x3.toNatClampNeg) = (-7)) → (¬ x2 ≤ 1) → ((-(I 29 x3.toNatClampNeg)) = 19) → (¬ (I 32 (x2 + (-1)).toNatClampNeg) = 0) → ¬ (I 32 (x2 + (-1)).toNatClampNeg) = 0)
    (b98 : (¬ (I 30 (x1 + 1).toNatClampNeg) ≤ x3) → (¬ 0 ≤ (I 29 x3.toNatClampNeg)) → (¬ ((-(I 29 x3.toNatClampNeg)) - 8) < 0) → (7 ≤ ((-(I 29 x3.toNatClampNeg)) - 8)) → (¬ (I 29 x3.toNatClampNeg) = (-7)) → (¬ x2 ≤ 1) → ((-(I 29 x3.toNatClampNeg)) = 19) → (¬ (I 32 (x2 + (-1)).toNatClampNeg) = 0) → vp_in ((x2 + (-1)) - 1) 64)
    (e99 : (¬ (I 30 (x1 + 1).toNatClampNeg) ≤ x3) → (¬ 0 ≤ (I 29 x3.toNatClampNeg)) → (¬ ((-(I 29 x3.toNatClampNeg)) - 8) < 0) → (7 ≤ ((-(I 29 x3.toNatClampNeg)) - 8)) → (¬ (I 29 x3.toNatClampNeg) = (-7)) → (¬ x2 ≤ 1) → ((-(I 29 x3.toNatClampNeg)) = 19) → (¬ (I 32 (x2 + (-1)).toNatClampNeg) = 0) → mx_Go l (mx_rm (d + 1) 0 0) mX3_holds (mx_Z Q 0 0) 0 0 10 [.ref 28, .int x1, .ref 73, .int (x2 + (-1)), .int (x3 + 1), .int (I 29 x3.toNatClampNeg), .int ((-(I 29 x3.toNatClampNeg)) - 8), .int (I 32 (x2 + (-1)).toNatClampNeg), .int ((I 32 ((x2 + (-1)) - 1).toNatClampNeg) / (I 32 (x2 + (-1)).toNatClampNeg))] [] (sk0 c, (mx_set I 32 ((x2 + (-1)) - 1).toNatClampNeg ((I 32 ((x2 + (-1)) - 1).toNatClampNeg) / (I 32 (x2 + (-1)).toNatClampNeg)))))
    (b100 : (¬ (I 30 (x1 + 1).toNatClampNeg) ≤ x3) → (¬ 0 ≤ (I 29 x3.toNatClampNeg)) → (¬ ((-(I 29 x3.toNatClampNeg)) - 8) < 0) → (7 ≤ ((-(I 29 x3.toNatClampNeg)) - 8)) → (¬ (I 29 x3.toNatClampNeg) = (-7)) → (¬ x2 ≤ 1) → ((-(I 29 x3.toNatClampNeg)) = 19) → ((I 32 (x2 + (-1)).toNatClampNeg) = 0) → vp_in ((x2 + (-1)) - 1) 64)
    (e101 : (¬ (I 30 (x1 + 1).toNatClampNeg) ≤ x3) → (¬ 0 ≤ (I 29 x3.toNatClampNeg)) → (¬ ((-(I 29 x3.toNatClampNeg)) - 8) < 0) → (7 ≤ ((-(I 29 x3.toNatClampNeg)) - 8)) → (¬ (I 29 x3.toNatClampNeg) = (-7)) → (¬ x2 ≤ 1) → ((-(I 29 x3.toNatClampNeg)) = 19) → ((I 32 (x2 + (-1)).toNatClampNeg) = 0) → mx_Go l (mx_rm (d + 1) 0 0) mX3_holds (mx_Z Q 0 0) 0 0 10 [.ref 28, .int x1, .ref 73, .int (x2 + (-1)), .int (x3 + 1), .int (I 29 x3.toNatClampNeg), .int ((-(I 29 x3.toNatClampNeg)) - 8), .int (I 32 (x2 + (-1)).toNatClampNeg), .int 0] [] (sk0 c, (mx_set I 32 ((x2 + (-1)) - 1).toNatClampNeg 0)))
    (b102 : (¬ (I 30 (x1 + 1).toNatClampNeg) ≤ x3) → (¬ 0 ≤ (I 29 x3.toNatClampNeg)) → (¬ ((-(I 29 x3.toNatClampNeg)) - 8) < 0) → (7 ≤ ((-(I 29 x3.toNatClampNeg)) - 8)) → (¬ (I 29 x3.toNatClampNeg) = (-7)) → (¬ x2 ≤ 1) → ((-(I 29 x3.toNatClampNeg)) = 20) → vp_in ((x2 + (-1)) - 1) 64)
    (e103 : (¬ (I 30 (x1 + 1).toNatClampNeg) ≤ x3) → (¬ 0 ≤ (I 29 x3.toNatClampNeg)) → (¬ ((-(I 29 x3.toNatClampNeg)) - 8) < 0) → (7 ≤ ((-(I 29 x3.toNatClampNeg)) - 8)) → (¬ (I 29 x3.toNatClampNeg) = (-7)) → (¬ x2 ≤ 1) → ((-(I 29 x3.toNatClampNeg)) = 20) → mx_Go l (mx_rm (d + 1) 0 0) mX3_holds (mx_Z Q 0 0) 0 0 10 [.ref 28, .int x1, .ref 73, .int (x2 + (-1)), .int (x3 + 1), .int (I 29 x3.toNatClampNeg), .int ((-(I 29 x3.toNatClampNeg)) - 8), .int (I 32 (x2 + (-1)).toNatClampNeg), .int ((I 32 ((x2 + (-1)) - 1).toNatClampNeg) ||| (I 32 (x2 + (-1)).toNatClampNeg))] [] (sk0 c, (mx_set I 32 ((x2 + (-1)) - 1).toNatClampNeg ((I 32 ((x2 + (-1)) - 1).toNatClampNeg) ||| (I 32 (x2 + (-1)).toNatClampNeg)))))
    (b104 : (¬ (I 30 (x1 + 1).toNatClampNeg) ≤ x3) → (¬ 0 ≤ (I 29 x3.toNatClampNeg)) → (¬ ((-(I 29 x3.toNatClampNeg)) - 8) < 0) → (7 ≤ ((-(I 29 x3.toNatClampNeg)) - 8)) → (¬ (I 29 x3.toNatClampNeg) = (-7)) → (¬ x2 ≤ 1) → ((-(I 29 x3.toNatClampNeg)) = 21) → vp_in ((x2 + (-1)) - 1) 64)
    (e105 : (¬ (I 30 (x1 + 1).toNatClampNeg) ≤ x3) → (¬ 0 ≤ (I 29 x3.toNatClampNeg)) → (¬ ((-(I 29 x3.toNatClampNeg)) - 8) < 0) → (7 ≤ ((-(I 29 x3.toNatClampNeg)) - 8)) → (¬ (I 29 x3.toNatClampNeg) = (-7)) → (¬ x2 ≤ 1) → ((-(I 29 x3.toNatClampNeg)) = 21) → mx_Go l (mx_rm (d + 1) 0 0) mX3_holds (mx_Z Q 0 0) 0 0 10 [.ref 28, .int x1, .ref 73, .int (x2 + (-1)), .int (x3 + 1), .int (I 29 x3.toNatClampNeg), .int ((-(I 29 x3.toNatClampNeg)) - 8), .int (I 32 (x2 + (-1)).toNatClampNeg), .int ((I 32 ((x2 + (-1)) - 1).toNatClampNeg) ||| (I 32 (x2 + (-1)).toNatClampNeg))] [] (sk0 c, (mx_set I 32 ((x2 + (-1)) - 1).toNatClampNeg ((I 32 ((x2 + (-1)) - 1).toNatClampNeg) ||| (I 32 (x2 + (-1)).toNatClampNeg)))))
    (b106 : (¬ (I 30 (x1 + 1).toNatClampNeg) ≤ x3) → (¬ 0 ≤ (I 29 x3.toNatClampNeg)) → (¬ ((-(I 29 x3.toNatClampNeg)) - 8) < 0) → (7 ≤ ((-(I 29 x3.toNatClampNeg)) - 8)) → (¬ (I 29 x3.toNatClampNeg) = (-7)) → (¬ x2 ≤ 1) → ((-(I 29 x3.toNatClampNeg)) = 22) → ((I 32 (x2 + (-1)).toNatClampNeg) ≤ (I 32 ((x2 + (-1)) - 1).toNatClampNeg)) → vp_in ((x2 + (-1)) - 1) 64)
    (e107 : (¬ (I 30 (x1 + 1).toNatClampNeg) ≤ x3) → (¬ 0 ≤ (I 29 x3.toNatClampNeg)) → (¬ ((-(I 29 x3.toNatClampNeg)) - 8) < 0) → (7 ≤ ((-(I 29 x3.toNatClampNeg)) - 8)) → (¬ (I 29 x3.toNatClampNeg) = (-7)) → (¬ x2 ≤ 1) → ((-(I 29 x3.toNatClampNeg)) = 22) → ((I 32 (x2 + (-1)).toNatClampNeg) ≤ (I 32 ((x2 + (-1)) - 1).toNatClampNeg)) → mx_Go l (mx_rm (d + 1) 0 0) mX3_holds (mx_Z Q 0 0) 0 0 10 [.ref 28, .int x1, .ref 73, .int (x2 + (-1)), .int (x3 + 1), .int (I 29 x3.toNatClampNeg), .int ((-(I 29 x3.toNatClampNeg)) - 8), .int (I 32 (x2 + (-1)).toNatClampNeg), .int 0] [] (sk0 c, (mx_set I 32 ((x2 + (-1)) - 1).toNatClampNeg 0)))
    (b108 : (¬ (I 30 (x1 + 1).toNatClampNeg) ≤ x3) → (¬ 0 ≤ (I 29 x3.toNatClampNeg)) → (¬ ((-(I 29 x3.toNatClampNeg)) - 8) < 0) → (7 ≤ ((-(I 29 x3.toNatClampNeg)) - 8)) → (¬ (I 29 x3.toNatClampNeg) = (-7)) → (¬ x2 ≤ 1) → ((-(I 29 x3.toNatClampNeg)) = 22) → (¬ (I 32 (x2 + (-1)).toNatClampNeg) ≤ (I 32 ((x2 + (-1)) - 1).toNatClampNeg)) → vp_in ((x2 + (-1)) - 1) 64)
    (e109 : (¬ (I 30 (x1 + 1).toNatClampNeg) ≤ x3) → (¬ 0 ≤ (I 29 x3.toNatClampNeg)) → (¬ ((-(I 29 x3.toNatClampNeg)) - 8) < 0) → (7 ≤ ((-(I 29 x3.toNatClampNeg)) - 8)) → (¬ (I 29 x3.toNatClampNeg) = (-7)) → (¬ x2 ≤ 1) → ((-(I 29 x3.toNatClampNeg)) = 22) → (¬ (I 32 (x2 + (-1)).toNatClampNeg) ≤ (I 32 ((x2 + (-1)) - 1).toNatClampNeg)) → mx_Go l (mx_rm (d + 1) 0 0) mX3_holds (mx_Z Q 0 0) 0 0 10 [.ref 28, .int x1, .ref 73, .int (x2 + (-1)), .int (x3 + 1), .int (I 29 x3.toNatClampNeg), .int ((-(I 29 x3.toNatClampNeg)) - 8), .int (I 32 (x2 + (-1)).toNatClampNeg), .int 1] [] (sk0 c, (mx_set I 32 ((x2 + (-1)) - 1).toNatClampNeg 1)))
    (b110 : (¬ (I 30 (x1 + 1).toNatClampNeg) ≤ x3) → (¬ 0 ≤ (I 29 x3.toNatClampNeg)) → (¬ ((-(I 29 x3.toNatClampNeg)) - 8) < 0) → (7 ≤ ((-(I 29 x3.toNatClampNeg)) - 8)) → (¬ (I 29 x3.toNatClampNeg) = (-7)) → (¬ x2 ≤ 1) → ((-(I 29 x3.toNatClampNeg)) = 23) → (¬ (I 32 ((x2 + (-1)) - 1).toNatClampNeg) = (I 32 (x2 + (-1)).toNatClampNeg)) → vp_in ((x2 + (-1)) - 1) 64)
    (e111 : (¬ (I 30 (x1 + 1).toNatClampNeg) ≤ x3) → (¬ 0 ≤ (I 29 x3.toNatClampNeg)) → (¬ ((-(I 29 x3.toNatClampNeg)) - 8) < 0) → (7 ≤ ((-(I 29 x3.toNatClampNeg)) - 8)) → (¬ (I 29 x3.toNatClampNeg) = (-7)) → (¬ x2 ≤ 1) → ((-(I 29 x3.toNatClampNeg)) = 23) → (¬ (I 32 ((x2 + (-1)) - 1).toNatClampNeg) = (I 32 (x2 + (-1)).toNatClampNeg)) → mx_Go l (mx_rm (d + 1) 0 0) mX3_holds (mx_Z Q 0 0) 0 0 10 [.ref 28, .int x1, .ref 73, .int (x2 + (-1)), .int (x3 + 1), .int (I 29 x3.toNatClampNeg), .int ((-(I 29 x3.toNatClampNeg)) - 8), .int (I 32 (x2 + (-1)).toNatClampNeg), .int 0] [] (sk0 c, (mx_set I 32 ((x2 + (-1)) - 1).toNatClampNeg 0)))
    (b112 : (¬ (I 30 (x1 + 1).toNatClampNeg) ≤ x3) → (¬ 0 ≤ (I 29 x3.toNatClampNeg)) → (¬ ((-(I 29 x3.toNatClampNeg)) - 8) < 0) → (7 ≤ ((-(I 29 x3.toNatClampNeg)) - 8)) → (¬ (I 29 x3.toNatClampNeg) = (-7)) → (¬ x2 ≤ 1) → ((-(I 29 x3.toNatClampNeg)) = 23) → ((I 32 ((x2 + (-1)) - 1).toNatClampNeg) = (I 32 (x2 + (-1)).toNatClampNeg)) → vp_in ((x2 + (-1)) - 1) 64)
    (e113 : (¬ (I 30 (x1 + 1).toNatClampNeg) ≤ x3) → (¬ 0 ≤ (I 29 x3.toNatClampNeg)) → (¬ ((-(I 29 x3.toNatClampNeg)) - 8) < 0) → (7 ≤ ((-(I 29 x3.toNatClampNeg)) - 8)) → (¬ (I 29 x3.toNatClampNeg) = (-7)) → (¬ x2 ≤ 1) → ((-(I 29 x3.toNatClampNeg)) = 23) → ((I 32 ((x2 + (-1)) - 1).toNatClampNeg) = (I 32 (x2 + (-1)).toNatClampNeg)) → mx_Go l (mx_rm (d + 1) 0 0) mX3_holds (mx_Z Q 0 0) 0 0 10 [.ref 28, .int x1, .ref 73, .int (x2 + (-1)), .int (x3 + 1), .int (I 29 x3.toNatClampNeg), .int ((-(I 29 x3.toNatClampNeg)) - 8), .int (I 32 (x2 + (-1)).toNatClampNeg), .int 1] [] (sk0 c, (mx_set I 32 ((x2 + (-1)) - 1).toNatClampNeg 1)))
    (b114 : (¬ (I 30 (x1 + 1).toNatClampNeg) ≤ x3) → (¬ 0 ≤ (I 29 x3.toNatClampNeg)) → (¬ ((-(I 29 x3.toNatClampNeg)) - 8) < 0) → (7 ≤ ((-(I 29 x3.toNatClampNeg)) - 8)) → (¬ (I 29 x3.toNatClampNeg) = (-7)) → (¬ x2 ≤ 1) → ((-(I 29 x3.toNatClampNeg)) = 24) → ((I 32 ((x2 + (-1)) - 1).toNatClampNeg) ≤ (I 32 (x2 + (-1)).toNatClampNeg)) → vp_in ((x2 + (-1)) - 1) 64)
    (e115 : (¬ (I 30 (x1 + 1).toNatClampNeg) ≤ x3) → (¬ 0 ≤ (I 29 x3.toNatClampNeg)) → (¬ ((-(I 29 x3.toNatClampNeg)) - 8) < 0) → (7 ≤ ((-(I 29 x3.toNatClampNeg)) - 8)) → (¬ (I 29 x3.toNatClampNeg) = (-7)) → (¬ x2 ≤ 1) → ((-(I 29 x3.toNatClampNeg)) = 24) → ((I 32 ((x2 + (-1)) - 1).toNatClampNeg) ≤ (I 32 (x2 + (-1)).toNatClampNeg)) → mx_Go l (mx_rm (d + 1) 0 0) mX3_holds (mx_Z Q 0 0) 0 0 10 [.ref 28, .int x1, .ref 73, .int (x2 + (-1)), .int (x3 + 1), .int (I 29 x3.toNatClampNeg), .int ((-(I 29 x3.toNatClampNeg)) - 8), .int (I 32 (x2 + (-1)).toNatClampNeg), .int 0] [] (sk0 c, (mx_set I 32 ((x2 + (-1)) - 1).toNatClampNeg 0)))
    (b116 : (¬ (I 30 (x1 + 1).toNatClampNeg) ≤ x3) → (¬ 0 ≤ (I 29 x3.toNatClampNeg)) → (¬ ((-(I 29 x3.toNatClampNeg)) - 8) < 0) → (7 ≤ ((-(I 29 x3.toNatClampNeg)) - 8)) → (¬ (I 29 x3.toNatClampNeg) = (-7)) → (¬ x2 ≤ 1) → ((-(I 29 x3.toNatClampNeg)) = 24) → (¬ (I 32 ((x2 + (-1)) - 1).toNatClampNeg) ≤ (I 32 (x2 + (-1)).toNatClampNeg)) → vp_in ((x2 + (-1)) - 1) 64)
    (e117 : (¬ (I 30 (x1 + 1).toNatClampNeg) ≤ x3) → (¬ 0 ≤ (I 29 x3.toNatClampNeg)) → (¬ ((-(I 29 x3.toNatClampNeg)) - 8) < 0) → (7 ≤ ((-(I 29 x3.toNatClampNeg)) - 8)) → (¬ (I 29 x3.toNatClampNeg) = (-7)) → (¬ x2 ≤ 1) → ((-(I 29 x3.toNatClampNeg)) = 24) → (¬ (I 32 ((x2 + (-1)) - 1).toNatClampNeg) ≤ (I 32 (x2 + (-1)).toNatClampNeg)) → mx_Go l (mx_rm (d + 1) 0 0) mX3_holds (mx_Z Q 0 0) 0 0 10 [.ref 28, .int x1, .ref 73, .int (x2 + (-1)), .int (x3 + 1), .int (I 29 x3.toNatClampNeg), .int ((-(I 29 x3.toNatClampNeg)) - 8), .int (I 32 (x2 + (-1)).toNatClampNeg), .int 1] [] (sk0 c, (mx_set I 32 ((x2 + (-1)) - 1).toNatClampNeg 1)))
    (b118 : (¬ (I 30 (x1 + 1).toNatClampNeg) ≤ x3) → (¬ 0 ≤ (I 29 x3.toNatClampNeg)) → (¬ ((-(I 29 x3.toNatClampNeg)) - 8) < 0) → (7 ≤ ((-(I 29 x3.toNatClampNeg)) - 8)) → (¬ (I 29 x3.toNatClampNeg) = (-7)) → (¬ x2 ≤ 1) → (¬ (-(I 29 x3.toNatClampNeg)) = 6) → (¬ (-(I 29 x3.toNatClampNeg)) = 7) → (¬ (-(I 29 x3.toNatClampNeg)) = 8) → (¬ (-(I 29 x3.toNatClampNeg)) = 9) → (¬ (-(I 29 x3.toNatClampNeg)) = 10) → (¬ (-(I 29 x3.toNatClampNeg)) = 11) → (¬ (-(I 29 x3.toNatClampNeg)) = 12) → (¬ (-(I 29 x3.toNatClampNeg)) = 13) → (¬ (-(I 29 x3.toNatClampNeg)) = 14) → (¬ (-(I 29 x3.toNatClampNeg)) = 15) → (¬ (-(I 29 x3.toNatClampNeg)) = 16) → (¬ (-(I 29 x3.toNatClampNeg)) = 17) → (¬ (-(I 29 x3.toNatClampNeg)) = 18) → (¬ (-(I 29 x3.toNatClampNeg)) = 19) → (¬ (-(I 29 x3.toNatClampNeg)) = 20) → (¬ (-(I 29 x3.toNatClampNeg)) = 21) → (¬ (-(I 29 x3.toNatClampNeg)) = 22) → (¬ (-(I 29 x3.toNatClampNeg)) = 23) → (¬ (-(I 29 x3.toNatClampNeg)) = 24) → vp_in ((x2 + (-1)) - 1) 64)
    (e119 : (¬ (I 30 (x1 + 1).toNatClampNeg) ≤ x3) → (¬ 0 ≤ (I 29 x3.toNatClampNeg)) → (¬ ((-(I 29 x3.toNatClampNeg)) - 8) < 0) → (7 ≤ ((-(I 29 x3.toNatClampNeg)) - 8)) → (¬ (I 29 x3.toNatClampNeg) = (-7)) → (¬ x2 ≤ 1) → (¬ (-(I 29 x3.toNatClampNeg)) = 6) → (¬ (-(I 29 x3.toNatClampNeg)) = 7) → (¬ (-(I 29 x3.toNatClampNeg)) = 8) → (¬ (-(I 29 x3.toNatClampNeg)) = 9) → (¬ (-(I 29 x3.toNatClampNeg)) = 10) → (¬ (-(I 29 x3.toNatClampNeg)) = 11) → (¬ (-(I 29 x3.toNatClampNeg)) = 12) → (¬ (-(I 29 x3.toNatClampNeg)) = 13) → (¬ (-(I 29 x3.toNatClampNeg)) = 14) → (¬ (-(I 29 x3.toNatClampNeg)) = 15) → (¬ (-(I 29 x3.toNatClampNeg)) = 16) → (¬ (-(I 29 x3.toNatClampNeg)) = 17) → (¬ (-(I 29 x3.toNatClampNeg)) = 18) → (¬ (-(I 29 x3.toNatClampNeg)) = 19) → (¬ (-(I 29 x3.toNatClampNeg)) = 20) → (¬ (-(I 29 x3.toNatClampNeg)) = 21) → (¬ (-(I 29 x3.toNatClampNeg)) = 22) → (¬ (-(I 29 x3.toNatClampNeg)) = 23) → (¬ (-(I 29 x3.toNatClampNeg)) = 24) → mx_Go l (mx_rm (d + 1) 0 0) mX3_holds (mx_Z Q 0 0) 0 0 10 [.ref 28, .int x1, .ref 73, .int (x2 + (-1)), .int (x3 + 1), .int (I 29 x3.toNatClampNeg), .int ((-(I 29 x3.toNatClampNeg)) - 8), .int (I 32 (x2 + (-1)).toNatClampNeg), .int ((I 32 ((x2 + (-1)) - 1).toNatClampNeg) ||| (I 32 (x2 + (-1)).toNatClampNeg))] [] (sk0 c, (mx_set I 32 ((x2 + (-1)) - 1).toNatClampNeg ((I 32 ((x2 + (-1)) - 1).toNatClampNeg) ||| (I 32 (x2 + (-1)).toNatClampNeg)))))
    (e120 : (¬ (I 30 (x1 + 1).toNatClampNeg) ≤ x3) → (¬ 0 ≤ (I 29 x3.toNatClampNeg)) → (¬ ((-(I 29 x3.toNatClampNeg)) - 8) < 0) → (7 ≤ ((-(I 29 x3.toNatClampNeg)) - 8)) → ((I 29 x3.toNatClampNeg) = (-7)) → (x2 ≤ 0) → mx_Go l (mx_rm (d + 1) 0 0) mX3_holds (mx_Z Q 0 0) 0 0 10 [.ref 28, .int x1, .ref 73, .int x2, .int (x3 + 1), .int (I 29 x3.toNatClampNeg), .int ((-(I 29 x3.toNatClampNeg)) - 8), .retAddr 0, .retAddr 0] [] (sk0 c, I))
    (b121 : (¬ (I 30 (x1 + 1).toNatClampNeg) ≤ x3) → (¬ 0 ≤ (I 29 x3.toNatClampNeg)) → (¬ ((-(I 29 x3.toNatClampNeg)) - 8) < 0) → (7 ≤ ((-(I 29 x3.toNatClampNeg)) - 8)) → ((I 29 x3.toNatClampNeg) = (-7)) → (¬ x2 ≤ 0) → vp_in (x2 - 1) 64)
    (b122 : (¬ (I 30 (x1 + 1).toNatClampNeg) ≤ x3) → (¬ 0 ≤ (I 29 x3.toNatClampNeg)) → (¬ ((-(I 29 x3.toNatClampNeg)) - 8) < 0) → (7 ≤ ((-(I 29 x3.toNatClampNeg)) - 8)) → ((I 29 x3.toNatClampNeg) = (-7)) → (¬ x2 ≤ 0) → vp_in (x2 - 1) 64)
    (e123 : (¬ (I 30 (x1 + 1).toNatClampNeg) ≤ x3) → (¬ 0 ≤ (I 29 x3.toNatClampNeg)) → (¬ ((-(I 29 x3.toNatClampNeg)) - 8) < 0) → (7 ≤ ((-(I 29 x3.toNatClampNeg)) - 8)) → ((I 29 x3.toNatClampNeg) = (-7)) → (¬ x2 ≤ 0) → mx_Go l (mx_rm (d + 1) 0 0) mX3_holds (mx_Z Q 0 0) 0 0 10 [.ref 28, .int x1, .ref 73, .int x2, .int (x3 + 1), .int (I 29 x3.toNatClampNeg), .int ((-(I 29 x3.toNatClampNeg)) - 8), .retAddr 0, .retAddr 0] [] (sk0 c, (mx_set I 32 (x2 - 1).toNatClampNeg (1 - (I 32 (x2 - 1).toNatClampNeg)))))
    (e124 : (¬ (I 30 (x1 + 1).toNatClampNeg) ≤ x3) → (¬ 0 ≤ (I 29 x3.toNatClampNeg)) → (¬ ((-(I 29 x3.toNatClampNeg)) - 8) < 0) → (¬ 7 ≤ ((-(I 29 x3.toNatClampNeg)) - 8)) → (64 ≤ x2) → mx_Go l (mx_rm (d + 1) 0 0) mX3_holds (mx_Z Q 0 0) 0 0 10 [.ref 28, .int x1, .ref 73, .int x2, .int (x3 + 1), .int (I 29 x3.toNatClampNeg), .int ((-(I 29 x3.toNatClampNeg)) - 8), .retAddr 0, .retAddr 0] [] (sk0 c, I))
    (b125 : (¬ (I 30 (x1 + 1).toNatClampNeg) ≤ x3) → (¬ 0 ≤ (I 29 x3.toNatClampNeg)) → (¬ ((-(I 29 x3.toNatClampNeg)) - 8) < 0) → (¬ 7 ≤ ((-(I 29 x3.toNatClampNeg)) - 8)) → (¬ 64 ≤ x2) → ((I 29 x3.toNatClampNeg) < 0) → vp_in ((-(I 29 x3.toNatClampNeg)) - 8) 7)
    (b126 : (¬ (I 30 (x1 + 1).toNatClampNeg) ≤ x3) → (¬ 0 ≤ (I 29 x3.toNatClampNeg)) → (¬ ((-(I 29 x3.toNatClampNeg)) - 8) < 0) → (¬ 7 ≤ ((-(I 29 x3.toNatClampNeg)) - 8)) → (¬ 64 ≤ x2) → ((I 29 x3.toNatClampNeg) < 0) → vp_in x2 64)
    (e127 : (¬ (I 30 (x1 + 1).toNatClampNeg) ≤ x3) → (¬ 0 ≤ (I 29 x3.toNatClampNeg)) → (¬ ((-(I 29 x3.toNatClampNeg)) - 8) < 0) → (¬ 7 ≤ ((-(I 29 x3.toNatClampNeg)) - 8)) → (¬ 64 ≤ x2) → ((I 29 x3.toNatClampNeg) < 0) → mx_Go l (mx_rm (d + 1) 0 0) mX3_holds (mx_Z Q 0 0) 0 0 10 [.ref 28, .int x1, .ref 73, .int (x2 + 1), .int (x3 + 1), .int (I 29 x3.toNatClampNeg), .int ((-(I 29 x3.toNatClampNeg)) - 8), .retAddr 0, .retAddr 0] [] (sk0 c, (mx_set I 32 x2.toNatClampNeg (I 73 ((-(I 29 x3.toNatClampNeg)) - 8).toNatClampNeg))))
    (b128 : (¬ (I 30 (x1 + 1).toNatClampNeg) ≤ x3) → (¬ 0 ≤ (I 29 x3.toNatClampNeg)) → (¬ ((-(I 29 x3.toNatClampNeg)) - 8) < 0) → (¬ 7 ≤ ((-(I 29 x3.toNatClampNeg)) - 8)) → (¬ 64 ≤ x2) → (¬ (I 29 x3.toNatClampNeg) < 0) → vp_in x2 64)
    (e129 : (¬ (I 30 (x1 + 1).toNatClampNeg) ≤ x3) → (¬ 0 ≤ (I 29 x3.toNatClampNeg)) → (¬ ((-(I 29 x3.toNatClampNeg)) - 8) < 0) → (¬ 7 ≤ ((-(I 29 x3.toNatClampNeg)) - 8)) → (¬ 64 ≤ x2) → (¬ (I 29 x3.toNatClampNeg) < 0) → mx_Go l (mx_rm (d + 1) 0 0) mX3_holds (mx_Z Q 0 0) 0 0 10 [.ref 28, .int x1, .ref 73, .int (x2 + 1), .int (x3 + 1), .int (I 29 x3.toNatClampNeg), .int ((-(I 29 x3.toNatClampNeg)) - 8), .retAddr 0, .retAddr 0] [] (sk0 c, (mx_set I 32 x2.toNatClampNeg (I 29 x3.toNatClampNeg)))) :
    mx_Go l (mx_rm (d + 1) 0 0) mX3_holds (mx_Z Q 0 0) 0 0 10 [.ref 28, .int x1, .ref 73, .int x2, .int x3, .retAddr 0, .retAddr 0, .retAddr 0, .retAddr 0] [] (sk0 c, I) := by
  refine g_iload dX3_holds_10 rfl ?_
  refine g_aload_n dX3_holds_12 rfl rfl ?_
  refine rg_X3_1 (r := 30) dX3_holds_13 lf_X3_15 (sk_28 _) rfl ?_
  refine g_iload_n dX3_holds_16 rfl rfl ?_
  refine g_iconst (v := 1) dX3_holds_17 (by decide) ?_
  refine g_iadd dX3_holds_18 ?_
  refine s_iald (j := (x1 + 1).toNatClampNeg) (v := (I 30 (x1 + 1).toNatClampNeg)) dX3_holds_19 (sk_30 _) (b1) rfl rfl ?_
  refine g_icmp_ge (tgt := 373) dX3_holds_20 (by decide) (fun c1 => ?_) (fun c2 => ?_)
  · skip
    refine g_iload_n dX3_holds_373 rfl rfl ?_
    refine g_if_eq (tgt := 386) dX3_holds_374 (by decide) (fun c3 => ?_) (fun c4 => ?_)
    · skip
      refine g_iconst (v := 1) dX3_holds_386 (by decide) ?_
      refine g_goto (tgt := 391) dX3_holds_387 (by decide) ?_
      exact g_zret (ty := .boolean) rfl rfl dX3_holds_391 rfl (Nat.le_refl _) (q2 c1 c3)
    · skip
      refine g_aload_n dX3_holds_377 rfl rfl ?_
      refine rg_X3_3 (r := 32) dX3_holds_378 lf_X3_21 (sk_28 _) rfl ?_
      refine g_iconst (v := 0) dX3_holds_381 (by decide) ?_
      refine s_iald (j := 0) (v := (I 32 0)) dX3_holds_382 (sk_32 _) (by unfold vp_in; decide) (by decide) rfl ?_
      refine g_if_eq (tgt := 390) dX3_holds_383 (by decide) (fun c5 => ?_) (fun c6 => ?_)
      · skip
        refine g_iconst (v := 0) dX3_holds_390 (by decide) ?_
        exact g_zret (ty := .boolean) rfl rfl dX3_holds_391 rfl (Nat.le_refl _) (q3 c1 c4 c5)
      · skip
        refine g_iconst (v := 1) dX3_holds_386 (by decide) ?_
        refine g_goto (tgt := 391) dX3_holds_387 (by decide) ?_
        exact g_zret (ty := .boolean) rfl rfl dX3_holds_391 rfl (Nat.le_refl _) (q4 c1 c4 c6)
  · skip
    refine g_aload_n dX3_holds_23 rfl rfl ?_
    refine rg_X3_0 (r := 29) dX3_holds_24 lf_X3_9 (sk_28 _) rfl ?_
    refine g_iload dX3_holds_27 rfl ?_
    refine s_iald (j := x3.toNatClampNeg) (v := (I 29 x3.toNatClampNeg)) dX3_holds_29 (sk_29 _) (b5 c2) rfl rfl ?_
    refine s_istore (L' := [.ref 28, .int x1, .ref 73, .int x2, .int x3, .int (I 29 x3.toNatClampNeg), .retAddr 0, .retAddr 0, .retAddr 0]) dX3_holds_30 (by decide) rfl rfl ?_
    refine g_iload dX3_holds_32 rfl ?_
    refine g_ineg dX3_holds_34 ?_
    refine g_bipush (v := 8) dX3_holds_35 (by decide) ?_
    refine g_isub dX3_holds_37 ?_
    refine s_istore (L' := [.ref 28, .int x1, .ref 73, .int x2, .int x3, .int (I 29 x3.toNatClampNeg), .int ((-(I 29 x3.toNatClampNeg)) - 8), .retAddr 0, .retAddr 0]) dX3_holds_38 (by decide) rfl rfl ?_
    refine g_iload dX3_holds_40 rfl ?_
    refine g_if_ge (tgt := 57) dX3_holds_42 (by decide) (fun c7 => ?_) (fun c8 => ?_)
    · skip
      refine g_iload_n dX3_holds_57 rfl rfl ?_
      refine g_bipush (v := 64) dX3_holds_58 (by decide) ?_
      refine g_icmp_ge (tgt := 367) dX3_holds_60 (by decide) (fun c9 => ?_) (fun c10 => ?_)
      · skip
        refine s_iinc (v := (x3 + 1)) (L' := [.ref 28, .int x1, .ref 73, .int x2, .int (x3 + 1), .int (I 29 x3.toNatClampNeg), .int ((-(I 29 x3.toNatClampNeg)) - 8), .retAddr 0, .retAddr 0]) dX3_holds_367 rfl (by decide) rfl rfl rfl ?_
        refine g_goto (tgt := 10) dX3_holds_370 (by decide) ?_
        exact e6 c2 c7 c9
      · skip
        refine g_aload_n dX3_holds_63 rfl rfl ?_
        refine rg_X3_3 (r := 32) dX3_holds_64 lf_X3_21 (sk_28 _) rfl ?_
        refine g_iload_n dX3_holds_67 rfl rfl ?_
        refine g_iload dX3_holds_68 rfl ?_
        refine g_if_lt (tgt := 78) dX3_holds_70 (by decide) (fun c11 => ?_) (fun c12 => ?_)
        · skip
          refine g_aload_n dX3_holds_78 rfl rfl ?_
          refine g_iload dX3_holds_79 rfl ?_
          refine s_iald (j := ((-(I 29 x3.toNatClampNeg)) - 8).toNatClampNeg) (v := (I 73 ((-(I 29 x3.toNatClampNeg)) - 8).toNatClampNeg)) dX3_holds_81 (sk_73 _) (b7 c2 c7 c10 c11) rfl rfl ?_
          refine s_iast (j := x2.toNatClampNeg) dX3_holds_82 (sk_32 _) (b8 c2 c7 c10 c11) rfl ?_
          refine s_iinc (v := (x2 + 1)) (L' := [.ref 28, .int x1, .ref 73, .int (x2 + 1), .int x3, .int (I 29 x3.toNatClampNeg), .int ((-(I 29 x3.toNatClampNeg)) - 8), .retAddr 0, .retAddr 0]) dX3_holds_83 rfl (by decide) rfl rfl rfl ?_
          refine g_goto (tgt := 367) dX3_holds_86 (by decide) ?_
          refine s_iinc (v := (x3 + 1)) (L' := [.ref 28, .int x1, .ref 73, .int (x2 + 1), .int (x3 + 1), .int (I 29 x3.toNatClampNeg), .int ((-(I 29 x3.toNatClampNeg)) - 8), .retAddr 0, .retAddr 0]) dX3_holds_367 rfl (by decide) rfl rfl rfl ?_
          refine g_goto (tgt := 10) dX3_holds_370 (by decide) ?_
          exact e9 c2 c7 c10 c11
        · skip
          refine g_iload dX3_holds_73 rfl ?_
          refine g_goto (tgt := 82) dX3_holds_75 (by decide) ?_
          refine s_iast (j := x2.toNatClampNeg) dX3_holds_82 (sk_32 _) (b10 c2 c7 c10 c12) rfl ?_
          refine s_iinc (v := (x2 + 1)) (L' := [.ref 28, .int x1, .ref 73, .int (x2 + 1), .int x3, .int (I 29 x3.toNatClampNeg), .int ((-(I 29 x3.toNatClampNeg)) - 8), .retAddr 0, .retAddr 0]) dX3_holds_83 rfl (by decide) rfl rfl rfl ?_
          refine g_goto (tgt := 367) dX3_holds_86 (by decide) ?_
          refine s_iinc (v := (x3 + 1)) (L' := [.ref 28, .int x1, .ref 73, .int (x2 + 1), .int (x3 + 1), .int (I 29 x3.toNatClampNeg), .int ((-(I 29 x3.toNatClampNeg)) - 8), .retAddr 0, .retAddr 0]) dX3_holds_367 rfl (by decide) rfl rfl rfl ?_
          refine g_goto (tgt := 10) dX3_holds_370 (by decide) ?_
          exact e11 c2 c7 c10 c12
    · skip
      refine g_iload dX3_holds_45 rfl ?_
      refine g_if_lt (tgt := 89) dX3_holds_47 (by decide) (fun c13 => ?_) (fun c14 => ?_)
      · skip
        refine g_iload dX3_holds_89 rfl ?_
        refine g_bipush (v := (-7)) dX3_holds_91 (by decide) ?_
        refine g_icmp_ne (tgt := 121) dX3_holds_93 (by decide) (fun c15 => ?_) (fun c16 => ?_)
        · skip
          refine g_iload_n dX3_holds_121 rfl rfl ?_
          refine g_iconst (v := 1) dX3_holds_122 (by decide) ?_
          refine g_icmp_le (tgt := 367) dX3_holds_123 (by decide) (fun c17 => ?_) (fun c18 => ?_)
          · skip
            refine s_iinc (v := (x3 + 1)) (L' := [.ref 28, .int x1, .ref 73, .int x2, .int (x3 + 1), .int (I 29 x3.toNatClampNeg), .int ((-(I 29 x3.toNatClampNeg)) - 8), .retAddr 0, .retAddr 0]) dX3_holds_367 rfl (by decide) rfl rfl rfl ?_
            refine g_goto (tgt := 10) dX3_holds_370 (by decide) ?_
            exact e12 c2 c8 c13 c15 c17
          · skip
            refine s_iinc (v := (x2 + (-1))) (L' := [.ref 28, .int x1, .ref 73, .int (x2 + (-1)), .int x3, .int (I 29 x3.toNatClampNeg), .int ((-(I 29 x3.toNatClampNeg)) - 8), .retAddr 0, .retAddr 0]) dX3_holds_126 rfl (by decide) rfl rfl rfl ?_
            refine g_aload_n dX3_holds_129 rfl rfl ?_
            refine rg_X3_3 (r := 32) dX3_holds_130 lf_X3_21 (sk_28 _) rfl ?_
            refine g_iload_n dX3_holds_133 rfl rfl ?_
            refine s_iald (j := (x2 + (-1)).toNatClampNeg) (v := (I 32 (x2 + (-1)).toNatClampNeg)) dX3_holds_134 (sk_32 _) (b13 c2 c8 c13 c15 c18) rfl rfl ?_
            refine s_istore (L' := [.ref 28, .int x1, .ref 73, .int (x2 + (-1)), .int x3, .int (I 29 x3.toNatClampNeg), .int ((-(I 29 x3.toNatClampNeg)) - 8), .int (I 32 (x2 + (-1)).toNatClampNeg), .retAddr 0]) dX3_holds_135 (by decide) rfl rfl ?_
            refine g_aload_n dX3_holds_137 rfl rfl ?_
            refine rg_X3_3 (r := 32) dX3_holds_138 lf_X3_21 (sk_28 _) rfl ?_
            refine g_iload_n dX3_holds_141 rfl rfl ?_
            refine g_iconst (v := 1) dX3_holds_142 (by decide) ?_
            refine g_isub dX3_holds_143 ?_
            refine s_iald (j := ((x2 + (-1)) - 1).toNatClampNeg) (v := (I 32 ((x2 + (-1)) - 1).toNatClampNeg)) dX3_holds_144 (sk_32 _) (b14 c2 c8 c13 c15 c18) rfl rfl ?_
            refine s_istore (L' := [.ref 28, .int x1, .ref 73, .int (x2 + (-1)), .int x3, .int (I 29 x3.toNatClampNeg), .int ((-(I 29 x3.toNatClampNeg)) - 8), .int (I 32 (x2 + (-1)).toNatClampNeg), .int (I 32 ((x2 + (-1)) - 1).toNatClampNeg)]) dX3_holds_145 (by decide) rfl rfl ?_
            refine g_iload dX3_holds_147 rfl ?_
            refine g_ineg dX3_holds_149 ?_
            rcases Decidable.em ((-(I 29 x3.toNatClampNeg)) = 6) with c19 | c20
            · skip
              refine g_tableIn (off := 190) (tgt := 340) dX3_holds_150 (by rw [c19]; decide) (by rw [c19]; decide) (by rw [c19]; rfl) (by decide) ?_
              refine g_iload dX3_holds_340 rfl ?_
              refine g_iload dX3_holds_342 rfl ?_
              refine g_iand dX3_holds_344 ?_
              refine s_istore (L' := [.ref 28, .int x1, .ref 73, .int (x2 + (-1)), .int x3, .int (I 29 x3.toNatClampNeg), .int ((-(I 29 x3.toNatClampNeg)) - 8), .int (I 32 (x2 + (-1)).toNatClampNeg), .int ((I 32 ((x2 + (-1)) - 1).toNatClampNeg) &&& (I 32 (x2 + (-1)).toNatClampNeg))]) dX3_holds_345 (by decide) rfl rfl ?_
              refine g_goto (tgt := 357) dX3_holds_347 (by decide) ?_
              refine g_aload_n dX3_holds_357 rfl rfl ?_
              refine rg_X3_3 (r := 32) dX3_holds_358 lf_X3_21 (sk_28 _) rfl ?_
              refine g_iload_n dX3_holds_361 rfl rfl ?_
              refine g_iconst (v := 1) dX3_holds_362 (by decide) ?_
              refine g_isub dX3_holds_363 ?_
              refine g_iload dX3_holds_364 rfl ?_
              refine s_iast (j := ((x2 + (-1)) - 1).toNatClampNeg) dX3_holds_366 (sk_32 _) (b15 c2 c8 c13 c15 c18 c19) rfl ?_
              refine s_iinc (v := (x3 + 1)) (L' := [.ref 28, .int x1, .ref 73, .int (x2 + (-1)), .int (x3 + 1), .int (I 29 x3.toNatClampNeg), .int ((-(I 29 x3.toNatClampNeg)) - 8), .int (I 32 (x2 + (-1)).toNatClampNeg), .int ((I 32 ((x2 + (-1)) - 1).toNatClampNeg) &&& (I 32 (x2 + (-1)).toNatClampNeg))]) dX3_holds_367 rfl (by decide) rfl rfl rfl ?_
              refine g_goto (tgt := 10) dX3_holds_370 (by decide) ?_
              exact e16 c2 c8 c13 c15 c18 c19
            · skip
              rcases Decidable.em ((-(I 29 x3.toNatClampNeg)) = 7) with c21 | c22
              · skip
                refine g_tableIn (off := 200) (tgt := 350) dX3_holds_150 (by rw [c21]; decide) (by rw [c21]; decide) (by rw [c21]; rfl) (by decide) ?_
                refine g_iload dX3_holds_350 rfl ?_
                refine g_iload dX3_holds_352 rfl ?_
                refine g_ior dX3_holds_354 ?_
                refine s_istore (L' := [.ref 28, .int x1, .ref 73, .int (x2 + (-1)), .int x3, .int (I 29 x3.toNatClampNeg), .int ((-(I 29 x3.toNatClampNeg)) - 8), .int (I 32 (x2 + (-1)).toNatClampNeg), .int ((I 32 ((x2 + (-1)) - 1).toNatClampNeg) ||| (I 32 (x2 + (-1)).toNatClampNeg))]) dX3_holds_355 (by decide) rfl rfl ?_
                refine g_aload_n dX3_holds_357 rfl rfl ?_
                refine rg_X3_3 (r := 32) dX3_holds_358 lf_X3_21 (sk_28 _) rfl ?_
                refine g_iload_n dX3_holds_361 rfl rfl ?_
                refine g_iconst (v := 1) dX3_holds_362 (by decide) ?_
                refine g_isub dX3_holds_363 ?_
                refine g_iload dX3_holds_364 rfl ?_
                refine s_iast (j := ((x2 + (-1)) - 1).toNatClampNeg) dX3_holds_366 (sk_32 _) (b17 c2 c8 c13 c15 c18 c21) rfl ?_
                refine s_iinc (v := (x3 + 1)) (L' := [.ref 28, .int x1, .ref 73, .int (x2 + (-1)), .int (x3 + 1), .int (I 29 x3.toNatClampNeg), .int ((-(I 29 x3.toNatClampNeg)) - 8), .int (I 32 (x2 + (-1)).toNatClampNeg), .int ((I 32 ((x2 + (-1)) - 1).toNatClampNeg) ||| (I 32 (x2 + (-1)).toNatClampNeg))]) dX3_holds_367 rfl (by decide) rfl rfl rfl ?_
                refine g_goto (tgt := 10) dX3_holds_370 (by decide) ?_
                exact e18 c2 c8 c13 c15 c18 c21
              · skip
                rcases Decidable.em ((-(I 29 x3.toNatClampNeg)) = 8) with c23 | c24
                · skip
                  refine g_tableIn (off := 200) (tgt := 350) dX3_holds_150 (by rw [c23]; decide) (by rw [c23]; decide) (by rw [c23]; rfl) (by decide) ?_
                  refine g_iload dX3_holds_350 rfl ?_
                  refine g_iload dX3_holds_352 rfl ?_
                  refine g_ior dX3_holds_354 ?_
                  refine s_istore (L' := [.ref 28, .int x1, .ref 73, .int (x2 + (-1)), .int x3, .int (I 29 x3.toNatClampNeg), .int ((-(I 29 x3.toNatClampNeg)) - 8), .int (I 32 (x2 + (-1)).toNatClampNeg), .int ((I 32 ((x2 + (-1)) - 1).toNatClampNeg) ||| (I 32 (x2 + (-1)).toNatClampNeg))]) dX3_holds_355 (by decide) rfl rfl ?_
                  refine g_aload_n dX3_holds_357 rfl rfl ?_
                  refine rg_X3_3 (r := 32) dX3_holds_358 lf_X3_21 (sk_28 _) rfl ?_
                  refine g_iload_n dX3_holds_361 rfl rfl ?_
                  refine g_iconst (v := 1) dX3_holds_362 (by decide) ?_
                  refine g_isub dX3_holds_363 ?_
                  refine g_iload dX3_holds_364 rfl ?_
                  refine s_iast (j := ((x2 + (-1)) - 1).toNatClampNeg) dX3_holds_366 (sk_32 _) (b19 c2 c8 c13 c15 c18 c23) rfl ?_
                  refine s_iinc (v := (x3 + 1)) (L' := [.ref 28, .int x1, .ref 73, .int (x2 + (-1)), .int (x3 + 1), .int (I 29 x3.toNatClampNeg), .int ((-(I 29 x3.toNatClampNeg)) - 8), .int (I 32 (x2 + (-1)).toNatClampNeg), .int ((I 32 ((x2 + (-1)) - 1).toNatClampNeg) ||| (I 32 (x2 + (-1)).toNatClampNeg))]) dX3_holds_367 rfl (by decide) rfl rfl rfl ?_
                  refine g_goto (tgt := 10) dX3_holds_370 (by decide) ?_
                  exact e20 c2 c8 c13 c15 c18 c23
                · skip
                  rcases Decidable.em ((-(I 29 x3.toNatClampNeg)) = 9) with c25 | c26
                  · skip
                    refine g_tableIn (off := 200) (tgt := 350) dX3_holds_150 (by rw [c25]; decide) (by rw [c25]; decide) (by rw [c25]; rfl) (by decide) ?_
                    refine g_iload dX3_holds_350 rfl ?_
                    refine g_iload dX3_holds_352 rfl ?_
                    refine g_ior dX3_holds_354 ?_
                    refine s_istore (L' := [.ref 28, .int x1, .ref 73, .int (x2 + (-1)), .int x3, .int (I 29 x3.toNatClampNeg), .int ((-(I 29 x3.toNatClampNeg)) - 8), .int (I 32 (x2 + (-1)).toNatClampNeg), .int ((I 32 ((x2 + (-1)) - 1).toNatClampNeg) ||| (I 32 (x2 + (-1)).toNatClampNeg))]) dX3_holds_355 (by decide) rfl rfl ?_
                    refine g_aload_n dX3_holds_357 rfl rfl ?_
                    refine rg_X3_3 (r := 32) dX3_holds_358 lf_X3_21 (sk_28 _) rfl ?_
                    refine g_iload_n dX3_holds_361 rfl rfl ?_
                    refine g_iconst (v := 1) dX3_holds_362 (by decide) ?_
                    refine g_isub dX3_holds_363 ?_
                    refine g_iload dX3_holds_364 rfl ?_
                    refine s_iast (j := ((x2 + (-1)) - 1).toNatClampNeg) dX3_holds_366 (sk_32 _) (b21 c2 c8 c13 c15 c18 c25) rfl ?_
                    refine s_iinc (v := (x3 + 1)) (L' := [.ref 28, .int x1, .ref 73, .int (x2 + (-1)), .int (x3 + 1), .int (I 29 x3.toNatClampNeg), .int ((-(I 29 x3.toNatClampNeg)) - 8), .int (I 32 (x2 + (-1)).toNatClampNeg), .int ((I 32 ((x2 + (-1)) - 1).toNatClampNeg) ||| (I 32 (x2 + (-1)).toNatClampNeg))]) dX3_holds_367 rfl (by decide) rfl rfl rfl ?_
                    refine g_goto (tgt := 10) dX3_holds_370 (by decide) ?_
                    exact e22 c2 c8 c13 c15 c18 c25
                  · skip
                    rcases Decidable.em ((-(I 29 x3.toNatClampNeg)) = 10) with c27 | c28
                    · skip
                      refine g_tableIn (off := 200) (tgt := 350) dX3_holds_150 (by rw [c27]; decide) (by rw [c27]; decide) (by rw [c27]; rfl) (by decide) ?_
                      refine g_iload dX3_holds_350 rfl ?_
                      refine g_iload dX3_holds_352 rfl ?_
                      refine g_ior dX3_holds_354 ?_
                      refine s_istore (L' := [.ref 28, .int x1, .ref 73, .int (x2 + (-1)), .int x3, .int (I 29 x3.toNatClampNeg), .int ((-(I 29 x3.toNatClampNeg)) - 8), .int (I 32 (x2 + (-1)).toNatClampNeg), .int ((I 32 ((x2 + (-1)) - 1).toNatClampNeg) ||| (I 32 (x2 + (-1)).toNatClampNeg))]) dX3_holds_355 (by decide) rfl rfl ?_
                      refine g_aload_n dX3_holds_357 rfl rfl ?_
                      refine rg_X3_3 (r := 32) dX3_holds_358 lf_X3_21 (sk_28 _) rfl ?_
                      refine g_iload_n dX3_holds_361 rfl rfl ?_
                      refine g_iconst (v := 1) dX3_holds_362 (by decide) ?_
                      refine g_isub dX3_holds_363 ?_
                      refine g_iload dX3_holds_364 rfl ?_
                      refine s_iast (j := ((x2 + (-1)) - 1).toNatClampNeg) dX3_holds_366 (sk_32 _) (b23 c2 c8 c13 c15 c18 c27) rfl ?_
                      refine s_iinc (v := (x3 + 1)) (L' := [.ref 28, .int x1, .ref 73, .int (x2 + (-1)), .int (x3 + 1), .int (I 29 x3.toNatClampNeg), .int ((-(I 29 x3.toNatClampNeg)) - 8), .int (I 32 (x2 + (-1)).toNatClampNeg), .int ((I 32 ((x2 + (-1)) - 1).toNatClampNeg) ||| (I 32 (x2 + (-1)).toNatClampNeg))]) dX3_holds_367 rfl (by decide) rfl rfl rfl ?_
                      refine g_goto (tgt := 10) dX3_holds_370 (by decide) ?_
                      exact e24 c2 c8 c13 c15 c18 c27
                    · skip
                      rcases Decidable.em ((-(I 29 x3.toNatClampNeg)) = 11) with c29 | c30
                      · skip
                        refine g_tableIn (off := 200) (tgt := 350) dX3_holds_150 (by rw [c29]; decide) (by rw [c29]; decide) (by rw [c29]; rfl) (by decide) ?_
                        refine g_iload dX3_holds_350 rfl ?_
                        refine g_iload dX3_holds_352 rfl ?_
                        refine g_ior dX3_holds_354 ?_
                        refine s_istore (L' := [.ref 28, .int x1, .ref 73, .int (x2 + (-1)), .int x3, .int (I 29 x3.toNatClampNeg), .int ((-(I 29 x3.toNatClampNeg)) - 8), .int (I 32 (x2 + (-1)).toNatClampNeg), .int ((I 32 ((x2 + (-1)) - 1).toNatClampNeg) ||| (I 32 (x2 + (-1)).toNatClampNeg))]) dX3_holds_355 (by decide) rfl rfl ?_
                        refine g_aload_n dX3_holds_357 rfl rfl ?_
                        refine rg_X3_3 (r := 32) dX3_holds_358 lf_X3_21 (sk_28 _) rfl ?_
                        refine g_iload_n dX3_holds_361 rfl rfl ?_
                        refine g_iconst (v := 1) dX3_holds_362 (by decide) ?_
                        refine g_isub dX3_holds_363 ?_
                        refine g_iload dX3_holds_364 rfl ?_
                        refine s_iast (j := ((x2 + (-1)) - 1).toNatClampNeg) dX3_holds_366 (sk_32 _) (b25 c2 c8 c13 c15 c18 c29) rfl ?_
                        refine s_iinc (v := (x3 + 1)) (L' := [.ref 28, .int x1, .ref 73, .int (x2 + (-1)), .int (x3 + 1), .int (I 29 x3.toNatClampNeg), .int ((-(I 29 x3.toNatClampNeg)) - 8), .int (I 32 (x2 + (-1)).toNatClampNeg), .int ((I 32 ((x2 + (-1)) - 1).toNatClampNeg) ||| (I 32 (x2 + (-1)).toNatClampNeg))]) dX3_holds_367 rfl (by decide) rfl rfl rfl ?_
                        refine g_goto (tgt := 10) dX3_holds_370 (by decide) ?_
                        exact e26 c2 c8 c13 c15 c18 c29
                      · skip
                        rcases Decidable.em ((-(I 29 x3.toNatClampNeg)) = 12) with c31 | c32
                        · skip
                          refine g_tableIn (off := 200) (tgt := 350) dX3_holds_150 (by rw [c31]; decide) (by rw [c31]; decide) (by rw [c31]; rfl) (by decide) ?_
                          refine g_iload dX3_holds_350 rfl ?_
                          refine g_iload dX3_holds_352 rfl ?_
                          refine g_ior dX3_holds_354 ?_
                          refine s_istore (L' := [.ref 28, .int x1, .ref 73, .int (x2 + (-1)), .int x3, .int (I 29 x3.toNatClampNeg), .int ((-(I 29 x3.toNatClampNeg)) - 8), .int (I 32 (x2 + (-1)).toNatClampNeg), .int ((I 32 ((x2 + (-1)) - 1).toNatClampNeg) ||| (I 32 (x2 + (-1)).toNatClampNeg))]) dX3_holds_355 (by decide) rfl rfl ?_
                          refine g_aload_n dX3_holds_357 rfl rfl ?_
                          refine rg_X3_3 (r := 32) dX3_holds_358 lf_X3_21 (sk_28 _) rfl ?_
                          refine g_iload_n dX3_holds_361 rfl rfl ?_
                          refine g_iconst (v := 1) dX3_holds_362 (by decide) ?_
                          refine g_isub dX3_holds_363 ?_
                          refine g_iload dX3_holds_364 rfl ?_
                          refine s_iast (j := ((x2 + (-1)) - 1).toNatClampNeg) dX3_holds_366 (sk_32 _) (b27 c2 c8 c13 c15 c18 c31) rfl ?_
                          refine s_iinc (v := (x3 + 1)) (L' := [.ref 28, .int x1, .ref 73, .int (x2 + (-1)), .int (x3 + 1), .int (I 29 x3.toNatClampNeg), .int ((-(I 29 x3.toNatClampNeg)) - 8), .int (I 32 (x2 + (-1)).toNatClampNeg), .int ((I 32 ((x2 + (-1)) - 1).toNatClampNeg) ||| (I 32 (x2 + (-1)).toNatClampNeg))]) dX3_holds_367 rfl (by decide) rfl rfl rfl ?_
                          refine g_goto (tgt := 10) dX3_holds_370 (by decide) ?_
                          exact e28 c2 c8 c13 c15 c18 c31
                        · skip
                          rcases Decidable.em ((-(I 29 x3.toNatClampNeg)) = 13) with c33 | c34
                          · skip
                            refine g_tableIn (off := 200) (tgt := 350) dX3_holds_150 (by rw [c33]; decide) (by rw [c33]; decide) (by rw [c33]; rfl) (by decide) ?_
                            refine g_iload dX3_holds_350 rfl ?_
                            refine g_iload dX3_holds_352 rfl ?_
                            refine g_ior dX3_holds_354 ?_
                            refine s_istore (L' := [.ref 28, .int x1, .ref 73, .int (x2 + (-1)), .int x3, .int (I 29 x3.toNatClampNeg), .int ((-(I 29 x3.toNatClampNeg)) - 8), .int (I 32 (x2 + (-1)).toNatClampNeg), .int ((I 32 ((x2 + (-1)) - 1).toNatClampNeg) ||| (I 32 (x2 + (-1)).toNatClampNeg))]) dX3_holds_355 (by decide) rfl rfl ?_
                            refine g_aload_n dX3_holds_357 rfl rfl ?_
                            refine rg_X3_3 (r := 32) dX3_holds_358 lf_X3_21 (sk_28 _) rfl ?_
                            refine g_iload_n dX3_holds_361 rfl rfl ?_
                            refine g_iconst (v := 1) dX3_holds_362 (by decide) ?_
                            refine g_isub dX3_holds_363 ?_
                            refine g_iload dX3_holds_364 rfl ?_
                            refine s_iast (j := ((x2 + (-1)) - 1).toNatClampNeg) dX3_holds_366 (sk_32 _) (b29 c2 c8 c13 c15 c18 c33) rfl ?_
                            refine s_iinc (v := (x3 + 1)) (L' := [.ref 28, .int x1, .ref 73, .int (x2 + (-1)), .int (x3 + 1), .int (I 29 x3.toNatClampNeg), .int ((-(I 29 x3.toNatClampNeg)) - 8), .int (I 32 (x2 + (-1)).toNatClampNeg), .int ((I 32 ((x2 + (-1)) - 1).toNatClampNeg) ||| (I 32 (x2 + (-1)).toNatClampNeg))]) dX3_holds_367 rfl (by decide) rfl rfl rfl ?_
                            refine g_goto (tgt := 10) dX3_holds_370 (by decide) ?_
                            exact e30 c2 c8 c13 c15 c18 c33
                          · skip
                            rcases Decidable.em ((-(I 29 x3.toNatClampNeg)) = 14) with c35 | c36
                            · skip
                              refine g_tableIn (off := 200) (tgt := 350) dX3_holds_150 (by rw [c35]; decide) (by rw [c35]; decide) (by rw [c35]; rfl) (by decide) ?_
                              refine g_iload dX3_holds_350 rfl ?_
                              refine g_iload dX3_holds_352 rfl ?_
                              refine g_ior dX3_holds_354 ?_
                              refine s_istore (L' := [.ref 28, .int x1, .ref 73, .int (x2 + (-1)), .int x3, .int (I 29 x3.toNatClampNeg), .int ((-(I 29 x3.toNatClampNeg)) - 8), .int (I 32 (x2 + (-1)).toNatClampNeg), .int ((I 32 ((x2 + (-1)) - 1).toNatClampNeg) ||| (I 32 (x2 + (-1)).toNatClampNeg))]) dX3_holds_355 (by decide) rfl rfl ?_
                              refine g_aload_n dX3_holds_357 rfl rfl ?_
                              refine rg_X3_3 (r := 32) dX3_holds_358 lf_X3_21 (sk_28 _) rfl ?_
                              refine g_iload_n dX3_holds_361 rfl rfl ?_
                              refine g_iconst (v := 1) dX3_holds_362 (by decide) ?_
                              refine g_isub dX3_holds_363 ?_
                              refine g_iload dX3_holds_364 rfl ?_
                              refine s_iast (j := ((x2 + (-1)) - 1).toNatClampNeg) dX3_holds_366 (sk_32 _) (b31 c2 c8 c13 c15 c18 c35) rfl ?_
                              refine s_iinc (v := (x3 + 1)) (L' := [.ref 28, .int x1, .ref 73, .int (x2 + (-1)), .int (x3 + 1), .int (I 29 x3.toNatClampNeg), .int ((-(I 29 x3.toNatClampNeg)) - 8), .int (I 32 (x2 + (-1)).toNatClampNeg), .int ((I 32 ((x2 + (-1)) - 1).toNatClampNeg) ||| (I 32 (x2 + (-1)).toNatClampNeg))]) dX3_holds_367 rfl (by decide) rfl rfl rfl ?_
                              refine g_goto (tgt := 10) dX3_holds_370 (by decide) ?_
                              exact e32 c2 c8 c13 c15 c18 c35
                            · skip
                              rcases Decidable.em ((-(I 29 x3.toNatClampNeg)) = 15) with c37 | c38
                              · skip
                                refine g_tableIn (off := 200) (tgt := 350) dX3_holds_150 (by rw [c37]; decide) (by rw [c37]; decide) (by rw [c37]; rfl) (by decide) ?_
                                refine g_iload dX3_holds_350 rfl ?_
                                refine g_iload dX3_holds_352 rfl ?_
                                refine g_ior dX3_holds_354 ?_
                                refine s_istore (L' := [.ref 28, .int x1, .ref 73, .int (x2 + (-1)), .int x3, .int (I 29 x3.toNatClampNeg), .int ((-(I 29 x3.toNatClampNeg)) - 8), .int (I 32 (x2 + (-1)).toNatClampNeg), .int ((I 32 ((x2 + (-1)) - 1).toNatClampNeg) ||| (I 32 (x2 + (-1)).toNatClampNeg))]) dX3_holds_355 (by decide) rfl rfl ?_
                                refine g_aload_n dX3_holds_357 rfl rfl ?_
                                refine rg_X3_3 (r := 32) dX3_holds_358 lf_X3_21 (sk_28 _) rfl ?_
                                refine g_iload_n dX3_holds_361 rfl rfl ?_
                                refine g_iconst (v := 1) dX3_holds_362 (by decide) ?_
                                refine g_isub dX3_holds_363 ?_
                                refine g_iload dX3_holds_364 rfl ?_
                                refine s_iast (j := ((x2 + (-1)) - 1).toNatClampNeg) dX3_holds_366 (sk_32 _) (b33 c2 c8 c13 c15 c18 c37) rfl ?_
                                refine s_iinc (v := (x3 + 1)) (L' := [.ref 28, .int x1, .ref 73, .int (x2 + (-1)), .int (x3 + 1), .int (I 29 x3.toNatClampNeg), .int ((-(I 29 x3.toNatClampNeg)) - 8), .int (I 32 (x2 + (-1)).toNatClampNeg), .int ((I 32 ((x2 + (-1)) - 1).toNatClampNeg) ||| (I 32 (x2 + (-1)).toNatClampNeg))]) dX3_holds_367 rfl (by decide) rfl rfl rfl ?_
                                refine g_goto (tgt := 10) dX3_holds_370 (by decide) ?_
                                exact e34 c2 c8 c13 c15 c18 c37
                              · skip
                                rcases Decidable.em ((-(I 29 x3.toNatClampNeg)) = 16) with c39 | c40
                                · skip
                                  refine g_tableIn (off := 90) (tgt := 240) dX3_holds_150 (by rw [c39]; decide) (by rw [c39]; decide) (by rw [c39]; rfl) (by decide) ?_
                                  refine g_iload dX3_holds_240 rfl ?_
                                  refine g_iload dX3_holds_242 rfl ?_
                                  refine g_iadd dX3_holds_244 ?_
                                  refine s_istore (L' := [.ref 28, .int x1, .ref 73, .int (x2 + (-1)), .int x3, .int (I 29 x3.toNatClampNeg), .int ((-(I 29 x3.toNatClampNeg)) - 8), .int (I 32 (x2 + (-1)).toNatClampNeg), .int ((I 32 ((x2 + (-1)) - 1).toNatClampNeg) + (I 32 (x2 + (-1)).toNatClampNeg))]) dX3_holds_245 (by decide) rfl rfl ?_
                                  refine g_goto (tgt := 357) dX3_holds_247 (by decide) ?_
                                  refine g_aload_n dX3_holds_357 rfl rfl ?_
                                  refine rg_X3_3 (r := 32) dX3_holds_358 lf_X3_21 (sk_28 _) rfl ?_
                                  refine g_iload_n dX3_holds_361 rfl rfl ?_
                                  refine g_iconst (v := 1) dX3_holds_362 (by decide) ?_
                                  refine g_isub dX3_holds_363 ?_
                                  refine g_iload dX3_holds_364 rfl ?_
                                  refine s_iast (j := ((x2 + (-1)) - 1).toNatClampNeg) dX3_holds_366 (sk_32 _) (b35 c2 c8 c13 c15 c18 c39) rfl ?_
                                  refine s_iinc (v := (x3 + 1)) (L' := [.ref 28, .int x1, .ref 73, .int (x2 + (-1)), .int (x3 + 1), .int (I 29 x3.toNatClampNeg), .int ((-(I 29 x3.toNatClampNeg)) - 8), .int (I 32 (x2 + (-1)).toNatClampNeg), .int ((I 32 ((x2 + (-1)) - 1).toNatClampNeg) + (I 32 (x2 + (-1)).toNatClampNeg))]) dX3_holds_367 rfl (by decide) rfl rfl rfl ?_
                                  refine g_goto (tgt := 10) dX3_holds_370 (by decide) ?_
                                  exact e36 c2 c8 c13 c15 c18 c39
                                · skip
                                  rcases Decidable.em ((-(I 29 x3.toNatClampNeg)) = 17) with c41 | c42
                                  · skip
                                    refine g_tableIn (off := 100) (tgt := 250) dX3_holds_150 (by rw [c41]; decide) (by rw [c41]; decide) (by rw [c41]; rfl) (by decide) ?_
                                    refine g_iload dX3_holds_250 rfl ?_
                                    refine g_iload dX3_holds_252 rfl ?_
                                    refine g_isub dX3_holds_254 ?_
                                    refine s_istore (L' := [.ref 28, .int x1, .ref 73, .int (x2 + (-1)), .int x3, .int (I 29 x3.toNatClampNeg), .int ((-(I 29 x3.toNatClampNeg)) - 8), .int (I 32 (x2 + (-1)).toNatClampNeg), .int ((I 32 ((x2 + (-1)) - 1).toNatClampNeg) - (I 32 (x2 + (-1)).toNatClampNeg))]) dX3_holds_255 (by decide) rfl rfl ?_
                                    refine g_goto (tgt := 357) dX3_holds_257 (by decide) ?_
                                    refine g_aload_n dX3_holds_357 rfl rfl ?_
                                    refine rg_X3_3 (r := 32) dX3_holds_358 lf_X3_21 (sk_28 _) rfl ?_
                                    refine g_iload_n dX3_holds_361 rfl rfl ?_
                                    refine g_iconst (v := 1) dX3_holds_362 (by decide) ?_
                                    refine g_isub dX3_holds_363 ?_
                                    refine g_iload dX3_holds_364 rfl ?_
                                    refine s_iast (j := ((x2 + (-1)) - 1).toNatClampNeg) dX3_holds_366 (sk_32 _) (b37 c2 c8 c13 c15 c18 c41) rfl ?_
                                    refine s_iinc (v := (x3 + 1)) (L' := [.ref 28, .int x1, .ref 73, .int (x2 + (-1)), .int (x3 + 1), .int (I 29 x3.toNatClampNeg), .int ((-(I 29 x3.toNatClampNeg)) - 8), .int (I 32 (x2 + (-1)).toNatClampNeg), .int ((I 32 ((x2 + (-1)) - 1).toNatClampNeg) - (I 32 (x2 + (-1)).toNatClampNeg))]) dX3_holds_367 rfl (by decide) rfl rfl rfl ?_
                                    refine g_goto (tgt := 10) dX3_holds_370 (by decide) ?_
                                    exact e38 c2 c8 c13 c15 c18 c41
                                  · skip
                                    rcases Decidable.em ((-(I 29 x3.toNatClampNeg)) = 18) with c43 | c44
                                    · skip
                                      refine g_tableIn (off := 110) (tgt := 260) dX3_holds_150 (by rw [c43]; decide) (by rw [c43]; decide) (by rw [c43]; rfl) (by decide) ?_
                                      refine g_iload dX3_holds_260 rfl ?_
                                      refine g_iload dX3_holds_262 rfl ?_
                                      refine g_imul dX3_holds_264 ?_
                                      refine s_istore (L' := [.ref 28, .int x1, .ref 73, .int (x2 + (-1)), .int x3, .int (I 29 x3.toNatClampNeg), .int ((-(I 29 x3.toNatClampNeg)) - 8), .int (I 32 (x2 + (-1)).toNatClampNeg), .int ((I 32 ((x2 + (-1)) - 1).toNatClampNeg) * (I 32 (x2 + (-1)).toNatClampNeg))]) dX3_holds_265 (by decide) rfl rfl ?_
                                      refine g_goto (tgt := 357) dX3_holds_267 (by decide) ?_
                                      refine g_aload_n dX3_holds_357 rfl rfl ?_
                                      refine rg_X3_3 (r := 32) dX3_holds_358 lf_X3_21 (sk_28 _) rfl ?_
                                      refine g_iload_n dX3_holds_361 rfl rfl ?_
                                      refine g_iconst (v := 1) dX3_holds_362 (by decide) ?_
                                      refine g_isub dX3_holds_363 ?_
                                      refine g_iload dX3_holds_364 rfl ?_
                                      refine s_iast (j := ((x2 + (-1)) - 1).toNatClampNeg) dX3_holds_366 (sk_32 _) (b39 c2 c8 c13 c15 c18 c43) rfl ?_
                                      refine s_iinc (v := (x3 + 1)) (L' := [.ref 28, .int x1, .ref 73, .int (x2 + (-1)), .int (x3 + 1), .int (I 29 x3.toNatClampNeg), .int ((-(I 29 x3.toNatClampNeg)) - 8), .int (I 32 (x2 + (-1)).toNatClampNeg), .int ((I 32 ((x2 + (-1)) - 1).toNatClampNeg) * (I 32 (x2 + (-1)).toNatClampNeg))]) dX3_holds_367 rfl (by decide) rfl rfl rfl ?_
                                      refine g_goto (tgt := 10) dX3_holds_370 (by decide) ?_
                                      exact e40 c2 c8 c13 c15 c18 c43
                                    · skip
                                      rcases Decidable.em ((-(I 29 x3.toNatClampNeg)) = 19) with c45 | c46
                                      · skip
                                        refine g_tableIn (off := 120) (tgt := 270) dX3_holds_150 (by rw [c45]; decide) (by rw [c45]; decide) (by rw [c45]; rfl) (by decide) ?_
                                        refine g_iload dX3_holds_270 rfl ?_
                                        refine g_if_ne (tgt := 279) dX3_holds_272 (by decide) (fun c47 => ?_) (fun c48 => ?_)
                                        · skip
                                          refine g_iload dX3_holds_279 rfl ?_
                                          refine g_iload dX3_holds_281 rfl ?_
                                          refine g_idiv dX3_holds_283 (z41 c2 c8 c13 c15 c18 c45 c47) ?_
                                          refine s_istore (L' := [.ref 28, .int x1, .ref 73, .int (x2 + (-1)), .int x3, .int (I 29 x3.toNatClampNeg), .int ((-(I 29 x3.toNatClampNeg)) - 8), .int (I 32 (x2 + (-1)).toNatClampNeg), .int ((I 32 ((x2 + (-1)) - 1).toNatClampNeg) / (I 32 (x2 + (-1)).toNatClampNeg))]) dX3_holds_284 (by decide) rfl rfl ?_
                                          refine g_goto (tgt := 357) dX3_holds_286 (by decide) ?_
                                          refine g_aload_n dX3_holds_357 rfl rfl ?_
                                          refine rg_X3_3 (r := 32) dX3_holds_358 lf_X3_21 (sk_28 _) rfl ?_
                                          refine g_iload_n dX3_holds_361 rfl rfl ?_
                                          refine g_iconst (v := 1) dX3_holds_362 (by decide) ?_
                                          refine g_isub dX3_holds_363 ?_
                                          refine g_iload dX3_holds_364 rfl ?_
                                          refine s_iast (j := ((x2 + (-1)) - 1).toNatClampNeg) dX3_holds_366 (sk_32 _) (b42 c2 c8 c13 c15 c18 c45 c47) rfl ?_
                                          refine s_iinc (v := (x3 + 1)) (L' := [.ref 28, .int x1, .ref 73, .int (x2 + (-1)), .int (x3 + 1), .int (I 29 x3.toNatClampNeg), .int ((-(I 29 x3.toNatClampNeg)) - 8), .int (I 32 (x2 + (-1)).toNatClampNeg), .int ((I 32 ((x2 + (-1)) - 1).toNatClampNeg) / (I 32 (x2 + (-1)).toNatClampNeg))]) dX3_holds_367 rfl (by decide) rfl rfl rfl ?_
                                          refine g_goto (tgt := 10) dX3_holds_370 (by decide) ?_
                                          exact e43 c2 c8 c13 c15 c18 c45 c47
                                        · skip
                                          refine g_iconst (v := 0) dX3_holds_275 (by decide) ?_
                                          refine g_goto (tgt := 284) dX3_holds_276 (by decide) ?_
                                          refine s_istore (L' := [.ref 28, .int x1, .ref 73, .int (x2 + (-1)), .int x3, .int (I 29 x3.toNatClampNeg), .int ((-(I 29 x3.toNatClampNeg)) - 8), .int (I 32 (x2 + (-1)).toNatClampNeg), .int 0]) dX3_holds_284 (by decide) rfl rfl ?_
                                          refine g_goto (tgt := 357) dX3_holds_286 (by decide) ?_
                                          refine g_aload_n dX3_holds_357 rfl rfl ?_
                                          refine rg_X3_3 (r := 32) dX3_holds_358 lf_X3_21 (sk_28 _) rfl ?_
                                          refine g_iload_n dX3_holds_361 rfl rfl ?_
                                          refine g_iconst (v := 1) dX3_holds_362 (by decide) ?_
                                          refine g_isub dX3_holds_363 ?_
                                          refine g_iload dX3_holds_364 rfl ?_
                                          refine s_iast (j := ((x2 + (-1)) - 1).toNatClampNeg) dX3_holds_366 (sk_32 _) (b44 c2 c8 c13 c15 c18 c45 c48) rfl ?_
                                          refine s_iinc (v := (x3 + 1)) (L' := [.ref 28, .int x1, .ref 73, .int (x2 + (-1)), .int (x3 + 1), .int (I 29 x3.toNatClampNeg), .int ((-(I 29 x3.toNatClampNeg)) - 8), .int (I 32 (x2 + (-1)).toNatClampNeg), .int 0]) dX3_holds_367 rfl (by decide) rfl rfl rfl ?_
                                          refine g_goto (tgt := 10) dX3_holds_370 (by decide) ?_
                                          exact e45 c2 c8 c13 c15 c18 c45 c48
                                      · skip
                                        rcases Decidable.em ((-(I 29 x3.toNatClampNeg)) = 20) with c49 | c50
                                        · skip
                                          refine g_tableIn (off := 200) (tgt := 350) dX3_holds_150 (by rw [c49]; decide) (by rw [c49]; decide) (by rw [c49]; rfl) (by decide) ?_
                                          refine g_iload dX3_holds_350 rfl ?_
                                          refine g_iload dX3_holds_352 rfl ?_
                                          refine g_ior dX3_holds_354 ?_
                                          refine s_istore (L' := [.ref 28, .int x1, .ref 73, .int (x2 + (-1)), .int x3, .int (I 29 x3.toNatClampNeg), .int ((-(I 29 x3.toNatClampNeg)) - 8), .int (I 32 (x2 + (-1)).toNatClampNeg), .int ((I 32 ((x2 + (-1)) - 1).toNatClampNeg) ||| (I 32 (x2 + (-1)).toNatClampNeg))]) dX3_holds_355 (by decide) rfl rfl ?_
                                          refine g_aload_n dX3_holds_357 rfl rfl ?_
                                          refine rg_X3_3 (r := 32) dX3_holds_358 lf_X3_21 (sk_28 _) rfl ?_
                                          refine g_iload_n dX3_holds_361 rfl rfl ?_
                                          refine g_iconst (v := 1) dX3_holds_362 (by decide) ?_
                                          refine g_isub dX3_holds_363 ?_
                                          refine g_iload dX3_holds_364 rfl ?_
                                          refine s_iast (j := ((x2 + (-1)) - 1).toNatClampNeg) dX3_holds_366 (sk_32 _) (b46 c2 c8 c13 c15 c18 c49) rfl ?_
                                          refine s_iinc (v := (x3 + 1)) (L' := [.ref 28, .int x1, .ref 73, .int (x2 + (-1)), .int (x3 + 1), .int (I 29 x3.toNatClampNeg), .int ((-(I 29 x3.toNatClampNeg)) - 8), .int (I 32 (x2 + (-1)).toNatClampNeg), .int ((I 32 ((x2 + (-1)) - 1).toNatClampNeg) ||| (I 32 (x2 + (-1)).toNatClampNeg))]) dX3_holds_367 rfl (by decide) rfl rfl rfl ?_
                                          refine g_goto (tgt := 10) dX3_holds_370 (by decide) ?_
                                          exact e47 c2 c8 c13 c15 c18 c49
                                        · skip
                                          rcases Decidable.em ((-(I 29 x3.toNatClampNeg)) = 21) with c51 | c52
                                          · skip
                                            refine g_tableIn (off := 200) (tgt := 350) dX3_holds_150 (by rw [c51]; decide) (by rw [c51]; decide) (by rw [c51]; rfl) (by decide) ?_
                                            refine g_iload dX3_holds_350 rfl ?_
                                            refine g_iload dX3_holds_352 rfl ?_
                                            refine g_ior dX3_holds_354 ?_
                                            refine s_istore (L' := [.ref 28, .int x1, .ref 73, .int (x2 + (-1)), .int x3, .int (I 29 x3.toNatClampNeg), .int ((-(I 29 x3.toNatClampNeg)) - 8), .int (I 32 (x2 + (-1)).toNatClampNeg), .int ((I 32 ((x2 + (-1)) - 1).toNatClampNeg) ||| (I 32 (x2 + (-1)).toNatClampNeg))]) dX3_holds_355 (by decide) rfl rfl ?_
                                            refine g_aload_n dX3_holds_357 rfl rfl ?_
                                            refine rg_X3_3 (r := 32) dX3_holds_358 lf_X3_21 (sk_28 _) rfl ?_
                                            refine g_iload_n dX3_holds_361 rfl rfl ?_
                                            refine g_iconst (v := 1) dX3_holds_362 (by decide) ?_
                                            refine g_isub dX3_holds_363 ?_
                                            refine g_iload dX3_holds_364 rfl ?_
                                            refine s_iast (j := ((x2 + (-1)) - 1).toNatClampNeg) dX3_holds_366 (sk_32 _) (b48 c2 c8 c13 c15 c18 c51) rfl ?_
                                            refine s_iinc (v := (x3 + 1)) (L' := [.ref 28, .int x1, .ref 73, .int (x2 + (-1)), .int (x3 + 1), .int (I 29 x3.toNatClampNeg), .int ((-(I 29 x3.toNatClampNeg)) - 8), .int (I 32 (x2 + (-1)).toNatClampNeg), .int ((I 32 ((x2 + (-1)) - 1).toNatClampNeg) ||| (I 32 (x2 + (-1)).toNatClampNeg))]) dX3_holds_367 rfl (by decide) rfl rfl rfl ?_
                                            refine g_goto (tgt := 10) dX3_holds_370 (by decide) ?_
                                            exact e49 c2 c8 c13 c15 c18 c51
                                          · skip
                                            rcases Decidable.em ((-(I 29 x3.toNatClampNeg)) = 22) with c53 | c54
                                            · skip
                                              refine g_tableIn (off := 139) (tgt := 289) dX3_holds_150 (by rw [c53]; decide) (by rw [c53]; decide) (by rw [c53]; rfl) (by decide) ?_
                                              refine g_iload dX3_holds_289 rfl ?_
                                              refine g_iload dX3_holds_291 rfl ?_
                                              refine g_icmp_ge (tgt := 300) dX3_holds_293 (by decide) (fun c55 => ?_) (fun c56 => ?_)
                                              · skip
                                                refine g_iconst (v := 0) dX3_holds_300 (by decide) ?_
                                                refine s_istore (L' := [.ref 28, .int x1, .ref 73, .int (x2 + (-1)), .int x3, .int (I 29 x3.toNatClampNeg), .int ((-(I 29 x3.toNatClampNeg)) - 8), .int (I 32 (x2 + (-1)).toNatClampNeg), .int 0]) dX3_holds_301 (by decide) rfl rfl ?_
                                                refine g_goto (tgt := 357) dX3_holds_303 (by decide) ?_
                                                refine g_aload_n dX3_holds_357 rfl rfl ?_
                                                refine rg_X3_3 (r := 32) dX3_holds_358 lf_X3_21 (sk_28 _) rfl ?_
                                                refine g_iload_n dX3_holds_361 rfl rfl ?_
                                                refine g_iconst (v := 1) dX3_holds_362 (by decide) ?_
                                                refine g_isub dX3_holds_363 ?_
                                                refine g_iload dX3_holds_364 rfl ?_
                                                refine s_iast (j := ((x2 + (-1)) - 1).toNatClampNeg) dX3_holds_366 (sk_32 _) (b50 c2 c8 c13 c15 c18 c53 c55) rfl ?_
                                                refine s_iinc (v := (x3 + 1)) (L' := [.ref 28, .int x1, .ref 73, .int (x2 + (-1)), .int (x3 + 1), .int (I 29 x3.toNatClampNeg), .int ((-(I 29 x3.toNatClampNeg)) - 8), .int (I 32 (x2 + (-1)).toNatClampNeg), .int 0]) dX3_holds_367 rfl (by decide) rfl rfl rfl ?_
                                                refine g_goto (tgt := 10) dX3_holds_370 (by decide) ?_
                                                exact e51 c2 c8 c13 c15 c18 c53 c55
                                              · skip
                                                refine g_iconst (v := 1) dX3_holds_296 (by decide) ?_
                                                refine g_goto (tgt := 301) dX3_holds_297 (by decide) ?_
                                                refine s_istore (L' := [.ref 28, .int x1, .ref 73, .int (x2 + (-1)), .int x3, .int (I 29 x3.toNatClampNeg), .int ((-(I 29 x3.toNatClampNeg)) - 8), .int (I 32 (x2 + (-1)).toNatClampNeg), .int 1]) dX3_holds_301 (by decide) rfl rfl ?_
                                                refine g_goto (tgt := 357) dX3_holds_303 (by decide) ?_
                                                refine g_aload_n dX3_holds_357 rfl rfl ?_
                                                refine rg_X3_3 (r := 32) dX3_holds_358 lf_X3_21 (sk_28 _) rfl ?_
                                                refine g_iload_n dX3_holds_361 rfl rfl ?_
                                                refine g_iconst (v := 1) dX3_holds_362 (by decide) ?_
                                                refine g_isub dX3_holds_363 ?_
                                                refine g_iload dX3_holds_364 rfl ?_
                                                refine s_iast (j := ((x2 + (-1)) - 1).toNatClampNeg) dX3_holds_366 (sk_32 _) (b52 c2 c8 c13 c15 c18 c53 c56) rfl ?_
                                                refine s_iinc (v := (x3 + 1)) (L' := [.ref 28, .int x1, .ref 73, .int (x2 + (-1)), .int (x3 + 1), .int (I 29 x3.toNatClampNeg), .int ((-(I 29 x3.toNatClampNeg)) - 8), .int (I 32 (x2 + (-1)).toNatClampNeg), .int 1]) dX3_holds_367 rfl (by decide) rfl rfl rfl ?_
                                                refine g_goto (tgt := 10) dX3_holds_370 (by decide) ?_
                                                exact e53 c2 c8 c13 c15 c18 c53 c56
                                            · skip
                                              rcases Decidable.em ((-(I 29 x3.toNatClampNeg)) = 23) with c57 | c58
                                              · skip
                                                refine g_tableIn (off := 156) (tgt := 306) dX3_holds_150 (by rw [c57]; decide) (by rw [c57]; decide) (by rw [c57]; rfl) (by decide) ?_
                                                refine g_iload dX3_holds_306 rfl ?_
                                                refine g_iload dX3_holds_308 rfl ?_
                                                refine g_icmp_ne (tgt := 317) dX3_holds_310 (by decide) (fun c59 => ?_) (fun c60 => ?_)
                                                · skip
                                                  refine g_iconst (v := 0) dX3_holds_317 (by decide) ?_
                                                  refine s_istore (L' := [.ref 28, .int x1, .ref 73, .int (x2 + (-1)), .int x3, .int (I 29 x3.toNatClampNeg), .int ((-(I 29 x3.toNatClampNeg)) - 8), .int (I 32 (x2 + (-1)).toNatClampNeg), .int 0]) dX3_holds_318 (by decide) rfl rfl ?_
                                                  refine g_goto (tgt := 357) dX3_holds_320 (by decide) ?_
                                                  refine g_aload_n dX3_holds_357 rfl rfl ?_
                                                  refine rg_X3_3 (r := 32) dX3_holds_358 lf_X3_21 (sk_28 _) rfl ?_
                                                  refine g_iload_n dX3_holds_361 rfl rfl ?_
                                                  refine g_iconst (v := 1) dX3_holds_362 (by decide) ?_
                                                  refine g_isub dX3_holds_363 ?_
                                                  refine g_iload dX3_holds_364 rfl ?_
                                                  refine s_iast (j := ((x2 + (-1)) - 1).toNatClampNeg) dX3_holds_366 (sk_32 _) (b54 c2 c8 c13 c15 c18 c57 c59) rfl ?_
                                                  refine s_iinc (v := (x3 + 1)) (L' := [.ref 28, .int x1, .ref 73, .int (x2 + (-1)), .int (x3 + 1), .int (I 29 x3.toNatClampNeg), .int ((-(I 29 x3.toNatClampNeg)) - 8), .int (I 32 (x2 + (-1)).toNatClampNeg), .int 0]) dX3_holds_367 rfl (by decide) rfl rfl rfl ?_
                                                  refine g_goto (tgt := 10) dX3_holds_370 (by decide) ?_
                                                  exact e55 c2 c8 c13 c15 c18 c57 c59
                                                · skip
                                                  refine g_iconst (v := 1) dX3_holds_313 (by decide) ?_
                                                  refine g_goto (tgt := 318) dX3_holds_314 (by decide) ?_
                                                  refine s_istore (L' := [.ref 28, .int x1, .ref 73, .int (x2 + (-1)), .int x3, .int (I 29 x3.toNatClampNeg), .int ((-(I 29 x3.toNatClampNeg)) - 8), .int (I 32 (x2 + (-1)).toNatClampNeg), .int 1]) dX3_holds_318 (by decide) rfl rfl ?_
                                                  refine g_goto (tgt := 357) dX3_holds_320 (by decide) ?_
                                                  refine g_aload_n dX3_holds_357 rfl rfl ?_
                                                  refine rg_X3_3 (r := 32) dX3_holds_358 lf_X3_21 (sk_28 _) rfl ?_
                                                  refine g_iload_n dX3_holds_361 rfl rfl ?_
                                                  refine g_iconst (v := 1) dX3_holds_362 (by decide) ?_
                                                  refine g_isub dX3_holds_363 ?_
                                                  refine g_iload dX3_holds_364 rfl ?_
                                                  refine s_iast (j := ((x2 + (-1)) - 1).toNatClampNeg) dX3_holds_366 (sk_32 _) (b56 c2 c8 c13 c15 c18 c57 c60) rfl ?_
                                                  refine s_iinc (v := (x3 + 1)) (L' := [.ref 28, .int x1, .ref 73, .int (x2 + (-1)), .int (x3 + 1), .int (I 29 x3.toNatClampNeg), .int ((-(I 29 x3.toNatClampNeg)) - 8), .int (I 32 (x2 + (-1)).toNatClampNeg), .int 1]) dX3_holds_367 rfl (by decide) rfl rfl rfl ?_
                                                  refine g_goto (tgt := 10) dX3_holds_370 (by decide) ?_
                                                  exact e57 c2 c8 c13 c15 c18 c57 c60
                                              · skip
                                                rcases Decidable.em ((-(I 29 x3.toNatClampNeg)) = 24) with c61 | c62
                                                · skip
                                                  refine g_tableIn (off := 173) (tgt := 323) dX3_holds_150 (by rw [c61]; decide) (by rw [c61]; decide) (by rw [c61]; rfl) (by decide) ?_
                                                  refine g_iload dX3_holds_323 rfl ?_
                                                  refine g_iload dX3_holds_325 rfl ?_
                                                  refine g_icmp_le (tgt := 334) dX3_holds_327 (by decide) (fun c63 => ?_) (fun c64 => ?_)
                                                  · skip
                                                    refine g_iconst (v := 0) dX3_holds_334 (by decide) ?_
                                                    refine s_istore (L' := [.ref 28, .int x1, .ref 73, .int (x2 + (-1)), .int x3, .int (I 29 x3.toNatClampNeg), .int ((-(I 29 x3.toNatClampNeg)) - 8), .int (I 32 (x2 + (-1)).toNatClampNeg), .int 0]) dX3_holds_335 (by decide) rfl rfl ?_
                                                    refine g_goto (tgt := 357) dX3_holds_337 (by decide) ?_
                                                    refine g_aload_n dX3_holds_357 rfl rfl ?_
                                                    refine rg_X3_3 (r := 32) dX3_holds_358 lf_X3_21 (sk_28 _) rfl ?_
                                                    refine g_iload_n dX3_holds_361 rfl rfl ?_
                                                    refine g_iconst (v := 1) dX3_holds_362 (by decide) ?_
                                                    refine g_isub dX3_holds_363 ?_
                                                    refine g_iload dX3_holds_364 rfl ?_
                                                    refine s_iast (j := ((x2 + (-1)) - 1).toNatClampNeg) dX3_holds_366 (sk_32 _) (b58 c2 c8 c13 c15 c18 c61 c63) rfl ?_
                                                    refine s_iinc (v := (x3 + 1)) (L' := [.ref 28, .int x1, .ref 73, .int (x2 + (-1)), .int (x3 + 1), .int (I 29 x3.toNatClampNeg), .int ((-(I 29 x3.toNatClampNeg)) - 8), .int (I 32 (x2 + (-1)).toNatClampNeg), .int 0]) dX3_holds_367 rfl (by decide) rfl rfl rfl ?_
                                                    refine g_goto (tgt := 10) dX3_holds_370 (by decide) ?_
                                                    exact e59 c2 c8 c13 c15 c18 c61 c63
                                                  · skip
                                                    refine g_iconst (v := 1) dX3_holds_330 (by decide) ?_
                                                    refine g_goto (tgt := 335) dX3_holds_331 (by decide) ?_
                                                    refine s_istore (L' := [.ref 28, .int x1, .ref 73, .int (x2 + (-1)), .int x3, .int (I 29 x3.toNatClampNeg), .int ((-(I 29 x3.toNatClampNeg)) - 8), .int (I 32 (x2 + (-1)).toNatClampNeg), .int 1]) dX3_holds_335 (by decide) rfl rfl ?_
                                                    refine g_goto (tgt := 357) dX3_holds_337 (by decide) ?_
                                                    refine g_aload_n dX3_holds_357 rfl rfl ?_
                                                    refine rg_X3_3 (r := 32) dX3_holds_358 lf_X3_21 (sk_28 _) rfl ?_
                                                    refine g_iload_n dX3_holds_361 rfl rfl ?_
                                                    refine g_iconst (v := 1) dX3_holds_362 (by decide) ?_
                                                    refine g_isub dX3_holds_363 ?_
                                                    refine g_iload dX3_holds_364 rfl ?_
                                                    refine s_iast (j := ((x2 + (-1)) - 1).toNatClampNeg) dX3_holds_366 (sk_32 _) (b60 c2 c8 c13 c15 c18 c61 c64) rfl ?_
                                                    refine s_iinc (v := (x3 + 1)) (L' := [.ref 28, .int x1, .ref 73, .int (x2 + (-1)), .int (x3 + 1), .int (I 29 x3.toNatClampNeg), .int ((-(I 29 x3.toNatClampNeg)) - 8), .int (I 32 (x2 + (-1)).toNatClampNeg), .int 1]) dX3_holds_367 rfl (by decide) rfl rfl rfl ?_
                                                    refine g_goto (tgt := 10) dX3_holds_370 (by decide) ?_
                                                    exact e61 c2 c8 c13 c15 c18 c61 c64
                                                · skip
                                                  refine g_tableOut (tgt := 350) dX3_holds_150 (by have q20 := mx_i32 (n := 6) (by decide) c20; have q22 := mx_i32 (n := 7) (by decide) c22; have q24 := mx_i32 (n := 8) (by decide) c24; have q26 := mx_i32 (n := 9) (by decide) c26; have q28 := mx_i32 (n := 10) (by decide) c28; have q30 := mx_i32 (n := 11) (by decide) c30; have q32 := mx_i32 (n := 12) (by decide) c32; have q34 := mx_i32 (n := 13) (by decide) c34; have q36 := mx_i32 (n := 14) (by decide) c36; have q38 := mx_i32 (n := 15) (by decide) c38; have q40 := mx_i32 (n := 16) (by decide) c40; have q42 := mx_i32 (n := 17) (by decide) c42; have q44 := mx_i32 (n := 18) (by decide) c44; have q46 := mx_i32 (n := 19) (by decide) c46; have q50 := mx_i32 (n := 20) (by decide) c50; have q52 := mx_i32 (n := 21) (by decide) c52; have q54 := mx_i32 (n := 22) (by decide) c54; have q58 := mx_i32 (n := 23) (by decide) c58; have q62 := mx_i32 (n := 24) (by decide) c62; omega) (by decide) ?_
                                                  refine g_iload dX3_holds_350 rfl ?_
                                                  refine g_iload dX3_holds_352 rfl ?_
                                                  refine g_ior dX3_holds_354 ?_
                                                  refine s_istore (L' := [.ref 28, .int x1, .ref 73, .int (x2 + (-1)), .int x3, .int (I 29 x3.toNatClampNeg), .int ((-(I 29 x3.toNatClampNeg)) - 8), .int (I 32 (x2 + (-1)).toNatClampNeg), .int ((I 32 ((x2 + (-1)) - 1).toNatClampNeg) ||| (I 32 (x2 + (-1)).toNatClampNeg))]) dX3_holds_355 (by decide) rfl rfl ?_
                                                  refine g_aload_n dX3_holds_357 rfl rfl ?_
                                                  refine rg_X3_3 (r := 32) dX3_holds_358 lf_X3_21 (sk_28 _) rfl ?_
                                                  refine g_iload_n dX3_holds_361 rfl rfl ?_
                                                  refine g_iconst (v := 1) dX3_holds_362 (by decide) ?_
                                                  refine g_isub dX3_holds_363 ?_
                                                  refine g_iload dX3_holds_364 rfl ?_
                                                  refine s_iast (j := ((x2 + (-1)) - 1).toNatClampNeg) dX3_holds_366 (sk_32 _) (b62 c2 c8 c13 c15 c18 c20 c22 c24 c26 c28 c30 c32 c34 c36 c38 c40 c42 c44 c46 c50 c52 c54 c58 c62) rfl ?_
                                                  refine s_iinc (v := (x3 + 1)) (L' := [.ref 28, .int x1, .ref 73, .int (x2 + (-1)), .int (x3 + 1), .int (I 29 x3.toNatClampNeg), .int ((-(I 29 x3.toNatClampNeg)) - 8), .int (I 32 (x2 + (-1)).toNatClampNeg), .int ((I 32 ((x2 + (-1)) - 1).toNatClampNeg) ||| (I 32 (x2 + (-1)).toNatClampNeg))]) dX3_holds_367 rfl (by decide) rfl rfl rfl ?_
                                                  refine g_goto (tgt := 10) dX3_holds_370 (by decide) ?_
                                                  exact e63 c2 c8 c13 c15 c18 c20 c22 c24 c26 c28 c30 c32 c34 c36 c38 c40 c42 c44 c46 c50 c52 c54 c58 c62
        · skip
          refine g_iload_n dX3_holds_96 rfl rfl ?_
          refine g_if_le (tgt := 367) dX3_holds_97 (by decide) (fun c65 => ?_) (fun c66 => ?_)
          · skip
            refine s_iinc (v := (x3 + 1)) (L' := [.ref 28, .int x1, .ref 73, .int x2, .int (x3 + 1), .int (I 29 x3.toNatClampNeg), .int ((-(I 29 x3.toNatClampNeg)) - 8), .retAddr 0, .retAddr 0]) dX3_holds_367 rfl (by decide) rfl rfl rfl ?_
            refine g_goto (tgt := 10) dX3_holds_370 (by decide) ?_
            exact e64 c2 c8 c13 c16 c65
          · skip
            refine g_aload_n dX3_holds_100 rfl rfl ?_
            refine rg_X3_3 (r := 32) dX3_holds_101 lf_X3_21 (sk_28 _) rfl ?_
            refine g_iload_n dX3_holds_104 rfl rfl ?_
            refine g_iconst (v := 1) dX3_holds_105 (by decide) ?_
            refine g_isub dX3_holds_106 ?_
            refine g_iconst (v := 1) dX3_holds_107 (by decide) ?_
            refine g_aload_n dX3_holds_108 rfl rfl ?_
            refine rg_X3_3 (r := 32) dX3_holds_109 lf_X3_21 (sk_28 _) rfl ?_
            refine g_iload_n dX3_holds_112 rfl rfl ?_
            refine g_iconst (v := 1) dX3_holds_113 (by decide) ?_
            refine g_isub dX3_holds_114 ?_
            refine s_iald (j := (x2 - 1).toNatClampNeg) (v := (I 32 (x2 - 1).toNatClampNeg)) dX3_holds_115 (sk_32 _) (b65 c2 c8 c13 c16 c66) rfl rfl ?_
            refine g_isub dX3_holds_116 ?_
            refine s_iast (j := (x2 - 1).toNatClampNeg) dX3_holds_117 (sk_32 _) (b66 c2 c8 c13 c16 c66) rfl ?_
            refine g_goto (tgt := 367) dX3_holds_118 (by decide) ?_
            refine s_iinc (v := (x3 + 1)) (L' := [.ref 28, .int x1, .ref 73, .int x2, .int (x3 + 1), .int (I 29 x3.toNatClampNeg), .int ((-(I 29 x3.toNatClampNeg)) - 8), .retAddr 0, .retAddr 0]) dX3_holds_367 rfl (by decide) rfl rfl rfl ?_
            refine g_goto (tgt := 10) dX3_holds_370 (by decide) ?_
            exact e67 c2 c8 c13 c16 c66
      · skip
        refine g_iload dX3_holds_50 rfl ?_
        refine g_bipush (v := 7) dX3_holds_52 (by decide) ?_
        refine g_icmp_ge (tgt := 89) dX3_holds_54 (by decide) (fun c67 => ?_) (fun c68 => ?_)
        · skip
          refine g_iload dX3_holds_89 rfl ?_
          refine g_bipush (v := (-7)) dX3_holds_91 (by decide) ?_
          refine g_icmp_ne (tgt := 121) dX3_holds_93 (by decide) (fun c69 => ?_) (fun c70 => ?_)
          · skip
            refine g_iload_n dX3_holds_121 rfl rfl ?_
            refine g_iconst (v := 1) dX3_holds_122 (by decide) ?_
            refine g_icmp_le (tgt := 367) dX3_holds_123 (by decide) (fun c71 => ?_) (fun c72 => ?_)
            · skip
              refine s_iinc (v := (x3 + 1)) (L' := [.ref 28, .int x1, .ref 73, .int x2, .int (x3 + 1), .int (I 29 x3.toNatClampNeg), .int ((-(I 29 x3.toNatClampNeg)) - 8), .retAddr 0, .retAddr 0]) dX3_holds_367 rfl (by decide) rfl rfl rfl ?_
              refine g_goto (tgt := 10) dX3_holds_370 (by decide) ?_
              exact e68 c2 c8 c14 c67 c69 c71
            · skip
              refine s_iinc (v := (x2 + (-1))) (L' := [.ref 28, .int x1, .ref 73, .int (x2 + (-1)), .int x3, .int (I 29 x3.toNatClampNeg), .int ((-(I 29 x3.toNatClampNeg)) - 8), .retAddr 0, .retAddr 0]) dX3_holds_126 rfl (by decide) rfl rfl rfl ?_
              refine g_aload_n dX3_holds_129 rfl rfl ?_
              refine rg_X3_3 (r := 32) dX3_holds_130 lf_X3_21 (sk_28 _) rfl ?_
              refine g_iload_n dX3_holds_133 rfl rfl ?_
              refine s_iald (j := (x2 + (-1)).toNatClampNeg) (v := (I 32 (x2 + (-1)).toNatClampNeg)) dX3_holds_134 (sk_32 _) (b69 c2 c8 c14 c67 c69 c72) rfl rfl ?_
              refine s_istore (L' := [.ref 28, .int x1, .ref 73, .int (x2 + (-1)), .int x3, .int (I 29 x3.toNatClampNeg), .int ((-(I 29 x3.toNatClampNeg)) - 8), .int (I 32 (x2 + (-1)).toNatClampNeg), .retAddr 0]) dX3_holds_135 (by decide) rfl rfl ?_
              refine g_aload_n dX3_holds_137 rfl rfl ?_
              refine rg_X3_3 (r := 32) dX3_holds_138 lf_X3_21 (sk_28 _) rfl ?_
              refine g_iload_n dX3_holds_141 rfl rfl ?_
              refine g_iconst (v := 1) dX3_holds_142 (by decide) ?_
              refine g_isub dX3_holds_143 ?_
              refine s_iald (j := ((x2 + (-1)) - 1).toNatClampNeg) (v := (I 32 ((x2 + (-1)) - 1).toNatClampNeg)) dX3_holds_144 (sk_32 _) (b70 c2 c8 c14 c67 c69 c72) rfl rfl ?_
              refine s_istore (L' := [.ref 28, .int x1, .ref 73, .int (x2 + (-1)), .int x3, .int (I 29 x3.toNatClampNeg), .int ((-(I 29 x3.toNatClampNeg)) - 8), .int (I 32 (x2 + (-1)).toNatClampNeg), .int (I 32 ((x2 + (-1)) - 1).toNatClampNeg)]) dX3_holds_145 (by decide) rfl rfl ?_
              refine g_iload dX3_holds_147 rfl ?_
              refine g_ineg dX3_holds_149 ?_
              rcases Decidable.em ((-(I 29 x3.toNatClampNeg)) = 6) with c73 | c74
              · skip
                refine g_tableIn (off := 190) (tgt := 340) dX3_holds_150 (by rw [c73]; decide) (by rw [c73]; decide) (by rw [c73]; rfl) (by decide) ?_
                refine g_iload dX3_holds_340 rfl ?_
                refine g_iload dX3_holds_342 rfl ?_
                refine g_iand dX3_holds_344 ?_
                refine s_istore (L' := [.ref 28, .int x1, .ref 73, .int (x2 + (-1)), .int x3, .int (I 29 x3.toNatClampNeg), .int ((-(I 29 x3.toNatClampNeg)) - 8), .int (I 32 (x2 + (-1)).toNatClampNeg), .int ((I 32 ((x2 + (-1)) - 1).toNatClampNeg) &&& (I 32 (x2 + (-1)).toNatClampNeg))]) dX3_holds_345 (by decide) rfl rfl ?_
                refine g_goto (tgt := 357) dX3_holds_347 (by decide) ?_
                refine g_aload_n dX3_holds_357 rfl rfl ?_
                refine rg_X3_3 (r := 32) dX3_holds_358 lf_X3_21 (sk_28 _) rfl ?_
                refine g_iload_n dX3_holds_361 rfl rfl ?_
                refine g_iconst (v := 1) dX3_holds_362 (by decide) ?_
                refine g_isub dX3_holds_363 ?_
                refine g_iload dX3_holds_364 rfl ?_
                refine s_iast (j := ((x2 + (-1)) - 1).toNatClampNeg) dX3_holds_366 (sk_32 _) (b71 c2 c8 c14 c67 c69 c72 c73) rfl ?_
                refine s_iinc (v := (x3 + 1)) (L' := [.ref 28, .int x1, .ref 73, .int (x2 + (-1)), .int (x3 + 1), .int (I 29 x3.toNatClampNeg), .int ((-(I 29 x3.toNatClampNeg)) - 8), .int (I 32 (x2 + (-1)).toNatClampNeg), .int ((I 32 ((x2 + (-1)) - 1).toNatClampNeg) &&& (I 32 (x2 + (-1)).toNatClampNeg))]) dX3_holds_367 rfl (by decide) rfl rfl rfl ?_
                refine g_goto (tgt := 10) dX3_holds_370 (by decide) ?_
                exact e72 c2 c8 c14 c67 c69 c72 c73
              · skip
                rcases Decidable.em ((-(I 29 x3.toNatClampNeg)) = 7) with c75 | c76
                · skip
                  refine g_tableIn (off := 200) (tgt := 350) dX3_holds_150 (by rw [c75]; decide) (by rw [c75]; decide) (by rw [c75]; rfl) (by decide) ?_
                  refine g_iload dX3_holds_350 rfl ?_
                  refine g_iload dX3_holds_352 rfl ?_
                  refine g_ior dX3_holds_354 ?_
                  refine s_istore (L' := [.ref 28, .int x1, .ref 73, .int (x2 + (-1)), .int x3, .int (I 29 x3.toNatClampNeg), .int ((-(I 29 x3.toNatClampNeg)) - 8), .int (I 32 (x2 + (-1)).toNatClampNeg), .int ((I 32 ((x2 + (-1)) - 1).toNatClampNeg) ||| (I 32 (x2 + (-1)).toNatClampNeg))]) dX3_holds_355 (by decide) rfl rfl ?_
                  refine g_aload_n dX3_holds_357 rfl rfl ?_
                  refine rg_X3_3 (r := 32) dX3_holds_358 lf_X3_21 (sk_28 _) rfl ?_
                  refine g_iload_n dX3_holds_361 rfl rfl ?_
                  refine g_iconst (v := 1) dX3_holds_362 (by decide) ?_
                  refine g_isub dX3_holds_363 ?_
                  refine g_iload dX3_holds_364 rfl ?_
                  refine s_iast (j := ((x2 + (-1)) - 1).toNatClampNeg) dX3_holds_366 (sk_32 _) (b73 c2 c8 c14 c67 c69 c72 c75) rfl ?_
                  refine s_iinc (v := (x3 + 1)) (L' := [.ref 28, .int x1, .ref 73, .int (x2 + (-1)), .int (x3 + 1), .int (I 29 x3.toNatClampNeg), .int ((-(I 29 x3.toNatClampNeg)) - 8), .int (I 32 (x2 + (-1)).toNatClampNeg), .int ((I 32 ((x2 + (-1)) - 1).toNatClampNeg) ||| (I 32 (x2 + (-1)).toNatClampNeg))]) dX3_holds_367 rfl (by decide) rfl rfl rfl ?_
                  refine g_goto (tgt := 10) dX3_holds_370 (by decide) ?_
                  exact e74 c2 c8 c14 c67 c69 c72 c75
                · skip
                  rcases Decidable.em ((-(I 29 x3.toNatClampNeg)) = 8) with c77 | c78
                  · skip
                    refine g_tableIn (off := 200) (tgt := 350) dX3_holds_150 (by rw [c77]; decide) (by rw [c77]; decide) (by rw [c77]; rfl) (by decide) ?_
                    refine g_iload dX3_holds_350 rfl ?_
                    refine g_iload dX3_holds_352 rfl ?_
                    refine g_ior dX3_holds_354 ?_
                    refine s_istore (L' := [.ref 28, .int x1, .ref 73, .int (x2 + (-1)), .int x3, .int (I 29 x3.toNatClampNeg), .int ((-(I 29 x3.toNatClampNeg)) - 8), .int (I 32 (x2 + (-1)).toNatClampNeg), .int ((I 32 ((x2 + (-1)) - 1).toNatClampNeg) ||| (I 32 (x2 + (-1)).toNatClampNeg))]) dX3_holds_355 (by decide) rfl rfl ?_
                    refine g_aload_n dX3_holds_357 rfl rfl ?_
                    refine rg_X3_3 (r := 32) dX3_holds_358 lf_X3_21 (sk_28 _) rfl ?_
                    refine g_iload_n dX3_holds_361 rfl rfl ?_
                    refine g_iconst (v := 1) dX3_holds_362 (by decide) ?_
                    refine g_isub dX3_holds_363 ?_
                    refine g_iload dX3_holds_364 rfl ?_
                    refine s_iast (j := ((x2 + (-1)) - 1).toNatClampNeg) dX3_holds_366 (sk_32 _) (b75 c2 c8 c14 c67 c69 c72 c77) rfl ?_
                    refine s_iinc (v := (x3 + 1)) (L' := [.ref 28, .int x1, .ref 73, .int (x2 + (-1)), .int (x3 + 1), .int (I 29 x3.toNatClampNeg), .int ((-(I 29 x3.toNatClampNeg)) - 8), .int (I 32 (x2 + (-1)).toNatClampNeg), .int ((I 32 ((x2 + (-1)) - 1).toNatClampNeg) ||| (I 32 (x2 + (-1)).toNatClampNeg))]) dX3_holds_367 rfl (by decide) rfl rfl rfl ?_
                    refine g_goto (tgt := 10) dX3_holds_370 (by decide) ?_
                    exact e76 c2 c8 c14 c67 c69 c72 c77
                  · skip
                    rcases Decidable.em ((-(I 29 x3.toNatClampNeg)) = 9) with c79 | c80
                    · skip
                      refine g_tableIn (off := 200) (tgt := 350) dX3_holds_150 (by rw [c79]; decide) (by rw [c79]; decide) (by rw [c79]; rfl) (by decide) ?_
                      refine g_iload dX3_holds_350 rfl ?_
                      refine g_iload dX3_holds_352 rfl ?_
                      refine g_ior dX3_holds_354 ?_
                      refine s_istore (L' := [.ref 28, .int x1, .ref 73, .int (x2 + (-1)), .int x3, .int (I 29 x3.toNatClampNeg), .int ((-(I 29 x3.toNatClampNeg)) - 8), .int (I 32 (x2 + (-1)).toNatClampNeg), .int ((I 32 ((x2 + (-1)) - 1).toNatClampNeg) ||| (I 32 (x2 + (-1)).toNatClampNeg))]) dX3_holds_355 (by decide) rfl rfl ?_
                      refine g_aload_n dX3_holds_357 rfl rfl ?_
                      refine rg_X3_3 (r := 32) dX3_holds_358 lf_X3_21 (sk_28 _) rfl ?_
                      refine g_iload_n dX3_holds_361 rfl rfl ?_
                      refine g_iconst (v := 1) dX3_holds_362 (by decide) ?_
                      refine g_isub dX3_holds_363 ?_
                      refine g_iload dX3_holds_364 rfl ?_
                      refine s_iast (j := ((x2 + (-1)) - 1).toNatClampNeg) dX3_holds_366 (sk_32 _) (b77 c2 c8 c14 c67 c69 c72 c79) rfl ?_
                      refine s_iinc (v := (x3 + 1)) (L' := [.ref 28, .int x1, .ref 73, .int (x2 + (-1)), .int (x3 + 1), .int (I 29 x3.toNatClampNeg), .int ((-(I 29 x3.toNatClampNeg)) - 8), .int (I 32 (x2 + (-1)).toNatClampNeg), .int ((I 32 ((x2 + (-1)) - 1).toNatClampNeg) ||| (I 32 (x2 + (-1)).toNatClampNeg))]) dX3_holds_367 rfl (by decide) rfl rfl rfl ?_
                      refine g_goto (tgt := 10) dX3_holds_370 (by decide) ?_
                      exact e78 c2 c8 c14 c67 c69 c72 c79
                    · skip
                      rcases Decidable.em ((-(I 29 x3.toNatClampNeg)) = 10) with c81 | c82
                      · skip
                        refine g_tableIn (off := 200) (tgt := 350) dX3_holds_150 (by rw [c81]; decide) (by rw [c81]; decide) (by rw [c81]; rfl) (by decide) ?_
                        refine g_iload dX3_holds_350 rfl ?_
                        refine g_iload dX3_holds_352 rfl ?_
                        refine g_ior dX3_holds_354 ?_
                        refine s_istore (L' := [.ref 28, .int x1, .ref 73, .int (x2 + (-1)), .int x3, .int (I 29 x3.toNatClampNeg), .int ((-(I 29 x3.toNatClampNeg)) - 8), .int (I 32 (x2 + (-1)).toNatClampNeg), .int ((I 32 ((x2 + (-1)) - 1).toNatClampNeg) ||| (I 32 (x2 + (-1)).toNatClampNeg))]) dX3_holds_355 (by decide) rfl rfl ?_
                        refine g_aload_n dX3_holds_357 rfl rfl ?_
                        refine rg_X3_3 (r := 32) dX3_holds_358 lf_X3_21 (sk_28 _) rfl ?_
                        refine g_iload_n dX3_holds_361 rfl rfl ?_
                        refine g_iconst (v := 1) dX3_holds_362 (by decide) ?_
                        refine g_isub dX3_holds_363 ?_
                        refine g_iload dX3_holds_364 rfl ?_
                        refine s_iast (j := ((x2 + (-1)) - 1).toNatClampNeg) dX3_holds_366 (sk_32 _) (b79 c2 c8 c14 c67 c69 c72 c81) rfl ?_
                        refine s_iinc (v := (x3 + 1)) (L' := [.ref 28, .int x1, .ref 73, .int (x2 + (-1)), .int (x3 + 1), .int (I 29 x3.toNatClampNeg), .int ((-(I 29 x3.toNatClampNeg)) - 8), .int (I 32 (x2 + (-1)).toNatClampNeg), .int ((I 32 ((x2 + (-1)) - 1).toNatClampNeg) ||| (I 32 (x2 + (-1)).toNatClampNeg))]) dX3_holds_367 rfl (by decide) rfl rfl rfl ?_
                        refine g_goto (tgt := 10) dX3_holds_370 (by decide) ?_
                        exact e80 c2 c8 c14 c67 c69 c72 c81
                      · skip
                        rcases Decidable.em ((-(I 29 x3.toNatClampNeg)) = 11) with c83 | c84
                        · skip
                          refine g_tableIn (off := 200) (tgt := 350) dX3_holds_150 (by rw [c83]; decide) (by rw [c83]; decide) (by rw [c83]; rfl) (by decide) ?_
                          refine g_iload dX3_holds_350 rfl ?_
                          refine g_iload dX3_holds_352 rfl ?_
                          refine g_ior dX3_holds_354 ?_
                          refine s_istore (L' := [.ref 28, .int x1, .ref 73, .int (x2 + (-1)), .int x3, .int (I 29 x3.toNatClampNeg), .int ((-(I 29 x3.toNatClampNeg)) - 8), .int (I 32 (x2 + (-1)).toNatClampNeg), .int ((I 32 ((x2 + (-1)) - 1).toNatClampNeg) ||| (I 32 (x2 + (-1)).toNatClampNeg))]) dX3_holds_355 (by decide) rfl rfl ?_
                          refine g_aload_n dX3_holds_357 rfl rfl ?_
                          refine rg_X3_3 (r := 32) dX3_holds_358 lf_X3_21 (sk_28 _) rfl ?_
                          refine g_iload_n dX3_holds_361 rfl rfl ?_
                          refine g_iconst (v := 1) dX3_holds_362 (by decide) ?_
                          refine g_isub dX3_holds_363 ?_
                          refine g_iload dX3_holds_364 rfl ?_
                          refine s_iast (j := ((x2 + (-1)) - 1).toNatClampNeg) dX3_holds_366 (sk_32 _) (b81 c2 c8 c14 c67 c69 c72 c83) rfl ?_
                          refine s_iinc (v := (x3 + 1)) (L' := [.ref 28, .int x1, .ref 73, .int (x2 + (-1)), .int (x3 + 1), .int (I 29 x3.toNatClampNeg), .int ((-(I 29 x3.toNatClampNeg)) - 8), .int (I 32 (x2 + (-1)).toNatClampNeg), .int ((I 32 ((x2 + (-1)) - 1).toNatClampNeg) ||| (I 32 (x2 + (-1)).toNatClampNeg))]) dX3_holds_367 rfl (by decide) rfl rfl rfl ?_
                          refine g_goto (tgt := 10) dX3_holds_370 (by decide) ?_
                          exact e82 c2 c8 c14 c67 c69 c72 c83
                        · skip
                          rcases Decidable.em ((-(I 29 x3.toNatClampNeg)) = 12) with c85 | c86
                          · skip
                            refine g_tableIn (off := 200) (tgt := 350) dX3_holds_150 (by rw [c85]; decide) (by rw [c85]; decide) (by rw [c85]; rfl) (by decide) ?_
                            refine g_iload dX3_holds_350 rfl ?_
                            refine g_iload dX3_holds_352 rfl ?_
                            refine g_ior dX3_holds_354 ?_
                            refine s_istore (L' := [.ref 28, .int x1, .ref 73, .int (x2 + (-1)), .int x3, .int (I 29 x3.toNatClampNeg), .int ((-(I 29 x3.toNatClampNeg)) - 8), .int (I 32 (x2 + (-1)).toNatClampNeg), .int ((I 32 ((x2 + (-1)) - 1).toNatClampNeg) ||| (I 32 (x2 + (-1)).toNatClampNeg))]) dX3_holds_355 (by decide) rfl rfl ?_
                            refine g_aload_n dX3_holds_357 rfl rfl ?_
                            refine rg_X3_3 (r := 32) dX3_holds_358 lf_X3_21 (sk_28 _) rfl ?_
                            refine g_iload_n dX3_holds_361 rfl rfl ?_
                            refine g_iconst (v := 1) dX3_holds_362 (by decide) ?_
                            refine g_isub dX3_holds_363 ?_
                            refine g_iload dX3_holds_364 rfl ?_
                            refine s_iast (j := ((x2 + (-1)) - 1).toNatClampNeg) dX3_holds_366 (sk_32 _) (b83 c2 c8 c14 c67 c69 c72 c85) rfl ?_
                            refine s_iinc (v := (x3 + 1)) (L' := [.ref 28, .int x1, .ref 73, .int (x2 + (-1)), .int (x3 + 1), .int (I 29 x3.toNatClampNeg), .int ((-(I 29 x3.toNatClampNeg)) - 8), .int (I 32 (x2 + (-1)).toNatClampNeg), .int ((I 32 ((x2 + (-1)) - 1).toNatClampNeg) ||| (I 32 (x2 + (-1)).toNatClampNeg))]) dX3_holds_367 rfl (by decide) rfl rfl rfl ?_
                            refine g_goto (tgt := 10) dX3_holds_370 (by decide) ?_
                            exact e84 c2 c8 c14 c67 c69 c72 c85
                          · skip
                            rcases Decidable.em ((-(I 29 x3.toNatClampNeg)) = 13) with c87 | c88
                            · skip
                              refine g_tableIn (off := 200) (tgt := 350) dX3_holds_150 (by rw [c87]; decide) (by rw [c87]; decide) (by rw [c87]; rfl) (by decide) ?_
                              refine g_iload dX3_holds_350 rfl ?_
                              refine g_iload dX3_holds_352 rfl ?_
                              refine g_ior dX3_holds_354 ?_
                              refine s_istore (L' := [.ref 28, .int x1, .ref 73, .int (x2 + (-1)), .int x3, .int (I 29 x3.toNatClampNeg), .int ((-(I 29 x3.toNatClampNeg)) - 8), .int (I 32 (x2 + (-1)).toNatClampNeg), .int ((I 32 ((x2 + (-1)) - 1).toNatClampNeg) ||| (I 32 (x2 + (-1)).toNatClampNeg))]) dX3_holds_355 (by decide) rfl rfl ?_
                              refine g_aload_n dX3_holds_357 rfl rfl ?_
                              refine rg_X3_3 (r := 32) dX3_holds_358 lf_X3_21 (sk_28 _) rfl ?_
                              refine g_iload_n dX3_holds_361 rfl rfl ?_
                              refine g_iconst (v := 1) dX3_holds_362 (by decide) ?_
                              refine g_isub dX3_holds_363 ?_
                              refine g_iload dX3_holds_364 rfl ?_
                              refine s_iast (j := ((x2 + (-1)) - 1).toNatClampNeg) dX3_holds_366 (sk_32 _) (b85 c2 c8 c14 c67 c69 c72 c87) rfl ?_
                              refine s_iinc (v := (x3 + 1)) (L' := [.ref 28, .int x1, .ref 73, .int (x2 + (-1)), .int (x3 + 1), .int (I 29 x3.toNatClampNeg), .int ((-(I 29 x3.toNatClampNeg)) - 8), .int (I 32 (x2 + (-1)).toNatClampNeg), .int ((I 32 ((x2 + (-1)) - 1).toNatClampNeg) ||| (I 32 (x2 + (-1)).toNatClampNeg))]) dX3_holds_367 rfl (by decide) rfl rfl rfl ?_
                              refine g_goto (tgt := 10) dX3_holds_370 (by decide) ?_
                              exact e86 c2 c8 c14 c67 c69 c72 c87
                            · skip
                              rcases Decidable.em ((-(I 29 x3.toNatClampNeg)) = 14) with c89 | c90
                              · skip
                                refine g_tableIn (off := 200) (tgt := 350) dX3_holds_150 (by rw [c89]; decide) (by rw [c89]; decide) (by rw [c89]; rfl) (by decide) ?_
                                refine g_iload dX3_holds_350 rfl ?_
                                refine g_iload dX3_holds_352 rfl ?_
                                refine g_ior dX3_holds_354 ?_
                                refine s_istore (L' := [.ref 28, .int x1, .ref 73, .int (x2 + (-1)), .int x3, .int (I 29 x3.toNatClampNeg), .int ((-(I 29 x3.toNatClampNeg)) - 8), .int (I 32 (x2 + (-1)).toNatClampNeg), .int ((I 32 ((x2 + (-1)) - 1).toNatClampNeg) ||| (I 32 (x2 + (-1)).toNatClampNeg))]) dX3_holds_355 (by decide) rfl rfl ?_
                                refine g_aload_n dX3_holds_357 rfl rfl ?_
                                refine rg_X3_3 (r := 32) dX3_holds_358 lf_X3_21 (sk_28 _) rfl ?_
                                refine g_iload_n dX3_holds_361 rfl rfl ?_
                                refine g_iconst (v := 1) dX3_holds_362 (by decide) ?_
                                refine g_isub dX3_holds_363 ?_
                                refine g_iload dX3_holds_364 rfl ?_
                                refine s_iast (j := ((x2 + (-1)) - 1).toNatClampNeg) dX3_holds_366 (sk_32 _) (b87 c2 c8 c14 c67 c69 c72 c89) rfl ?_
                                refine s_iinc (v := (x3 + 1)) (L' := [.ref 28, .int x1, .ref 73, .int (x2 + (-1)), .int (x3 + 1), .int (I 29 x3.toNatClampNeg), .int ((-(I 29 x3.toNatClampNeg)) - 8), .int (I 32 (x2 + (-1)).toNatClampNeg), .int ((I 32 ((x2 + (-1)) - 1).toNatClampNeg) ||| (I 32 (x2 + (-1)).toNatClampNeg))]) dX3_holds_367 rfl (by decide) rfl rfl rfl ?_
                                refine g_goto (tgt := 10) dX3_holds_370 (by decide) ?_
                                exact e88 c2 c8 c14 c67 c69 c72 c89
                              · skip
                                rcases Decidable.em ((-(I 29 x3.toNatClampNeg)) = 15) with c91 | c92
                                · skip
                                  refine g_tableIn (off := 200) (tgt := 350) dX3_holds_150 (by rw [c91]; decide) (by rw [c91]; decide) (by rw [c91]; rfl) (by decide) ?_
                                  refine g_iload dX3_holds_350 rfl ?_
                                  refine g_iload dX3_holds_352 rfl ?_
                                  refine g_ior dX3_holds_354 ?_
                                  refine s_istore (L' := [.ref 28, .int x1, .ref 73, .int (x2 + (-1)), .int x3, .int (I 29 x3.toNatClampNeg), .int ((-(I 29 x3.toNatClampNeg)) - 8), .int (I 32 (x2 + (-1)).toNatClampNeg), .int ((I 32 ((x2 + (-1)) - 1).toNatClampNeg) ||| (I 32 (x2 + (-1)).toNatClampNeg))]) dX3_holds_355 (by decide) rfl rfl ?_
                                  refine g_aload_n dX3_holds_357 rfl rfl ?_
                                  refine rg_X3_3 (r := 32) dX3_holds_358 lf_X3_21 (sk_28 _) rfl ?_
                                  refine g_iload_n dX3_holds_361 rfl rfl ?_
                                  refine g_iconst (v := 1) dX3_holds_362 (by decide) ?_
                                  refine g_isub dX3_holds_363 ?_
                                  refine g_iload dX3_holds_364 rfl ?_
                                  refine s_iast (j := ((x2 + (-1)) - 1).toNatClampNeg) dX3_holds_366 (sk_32 _) (b89 c2 c8 c14 c67 c69 c72 c91) rfl ?_
                                  refine s_iinc (v := (x3 + 1)) (L' := [.ref 28, .int x1, .ref 73, .int (x2 + (-1)), .int (x3 + 1), .int (I 29 x3.toNatClampNeg), .int ((-(I 29 x3.toNatClampNeg)) - 8), .int (I 32 (x2 + (-1)).toNatClampNeg), .int ((I 32 ((x2 + (-1)) - 1).toNatClampNeg) ||| (I 32 (x2 + (-1)).toNatClampNeg))]) dX3_holds_367 rfl (by decide) rfl rfl rfl ?_
                                  refine g_goto (tgt := 10) dX3_holds_370 (by decide) ?_
                                  exact e90 c2 c8 c14 c67 c69 c72 c91
                                · skip
                                  rcases Decidable.em ((-(I 29 x3.toNatClampNeg)) = 16) with c93 | c94
                                  · skip
                                    refine g_tableIn (off := 90) (tgt := 240) dX3_holds_150 (by rw [c93]; decide) (by rw [c93]; decide) (by rw [c93]; rfl) (by decide) ?_
                                    refine g_iload dX3_holds_240 rfl ?_
                                    refine g_iload dX3_holds_242 rfl ?_
                                    refine g_iadd dX3_holds_244 ?_
                                    refine s_istore (L' := [.ref 28, .int x1, .ref 73, .int (x2 + (-1)), .int x3, .int (I 29 x3.toNatClampNeg), .int ((-(I 29 x3.toNatClampNeg)) - 8), .int (I 32 (x2 + (-1)).toNatClampNeg), .int ((I 32 ((x2 + (-1)) - 1).toNatClampNeg) + (I 32 (x2 + (-1)).toNatClampNeg))]) dX3_holds_245 (by decide) rfl rfl ?_
                                    refine g_goto (tgt := 357) dX3_holds_247 (by decide) ?_
                                    refine g_aload_n dX3_holds_357 rfl rfl ?_
                                    refine rg_X3_3 (r := 32) dX3_holds_358 lf_X3_21 (sk_28 _) rfl ?_
                                    refine g_iload_n dX3_holds_361 rfl rfl ?_
                                    refine g_iconst (v := 1) dX3_holds_362 (by decide) ?_
                                    refine g_isub dX3_holds_363 ?_
                                    refine g_iload dX3_holds_364 rfl ?_
                                    refine s_iast (j := ((x2 + (-1)) - 1).toNatClampNeg) dX3_holds_366 (sk_32 _) (b91 c2 c8 c14 c67 c69 c72 c93) rfl ?_
                                    refine s_iinc (v := (x3 + 1)) (L' := [.ref 28, .int x1, .ref 73, .int (x2 + (-1)), .int (x3 + 1), .int (I 29 x3.toNatClampNeg), .int ((-(I 29 x3.toNatClampNeg)) - 8), .int (I 32 (x2 + (-1)).toNatClampNeg), .int ((I 32 ((x2 + (-1)) - 1).toNatClampNeg) + (I 32 (x2 + (-1)).toNatClampNeg))]) dX3_holds_367 rfl (by decide) rfl rfl rfl ?_
                                    refine g_goto (tgt := 10) dX3_holds_370 (by decide) ?_
                                    exact e92 c2 c8 c14 c67 c69 c72 c93
                                  · skip
                                    rcases Decidable.em ((-(I 29 x3.toNatClampNeg)) = 17) with c95 | c96
                                    · skip
                                      refine g_tableIn (off := 100) (tgt := 250) dX3_holds_150 (by rw [c95]; decide) (by rw [c95]; decide) (by rw [c95]; rfl) (by decide) ?_
                                      refine g_iload dX3_holds_250 rfl ?_
                                      refine g_iload dX3_holds_252 rfl ?_
                                      refine g_isub dX3_holds_254 ?_
                                      refine s_istore (L' := [.ref 28, .int x1, .ref 73, .int (x2 + (-1)), .int x3, .int (I 29 x3.toNatClampNeg), .int ((-(I 29 x3.toNatClampNeg)) - 8), .int (I 32 (x2 + (-1)).toNatClampNeg), .int ((I 32 ((x2 + (-1)) - 1).toNatClampNeg) - (I 32 (x2 + (-1)).toNatClampNeg))]) dX3_holds_255 (by decide) rfl rfl ?_
                                      refine g_goto (tgt := 357) dX3_holds_257 (by decide) ?_
                                      refine g_aload_n dX3_holds_357 rfl rfl ?_
                                      refine rg_X3_3 (r := 32) dX3_holds_358 lf_X3_21 (sk_28 _) rfl ?_
                                      refine g_iload_n dX3_holds_361 rfl rfl ?_
                                      refine g_iconst (v := 1) dX3_holds_362 (by decide) ?_
                                      refine g_isub dX3_holds_363 ?_
                                      refine g_iload dX3_holds_364 rfl ?_
                                      refine s_iast (j := ((x2 + (-1)) - 1).toNatClampNeg) dX3_holds_366 (sk_32 _) (b93 c2 c8 c14 c67 c69 c72 c95) rfl ?_
                                      refine s_iinc (v := (x3 + 1)) (L' := [.ref 28, .int x1, .ref 73, .int (x2 + (-1)), .int (x3 + 1), .int (I 29 x3.toNatClampNeg), .int ((-(I 29 x3.toNatClampNeg)) - 8), .int (I 32 (x2 + (-1)).toNatClampNeg), .int ((I 32 ((x2 + (-1)) - 1).toNatClampNeg) - (I 32 (x2 + (-1)).toNatClampNeg))]) dX3_holds_367 rfl (by decide) rfl rfl rfl ?_
                                      refine g_goto (tgt := 10) dX3_holds_370 (by decide) ?_
                                      exact e94 c2 c8 c14 c67 c69 c72 c95
                                    · skip
                                      rcases Decidable.em ((-(I 29 x3.toNatClampNeg)) = 18) with c97 | c98
                                      · skip
                                        refine g_tableIn (off := 110) (tgt := 260) dX3_holds_150 (by rw [c97]; decide) (by rw [c97]; decide) (by rw [c97]; rfl) (by decide) ?_
                                        refine g_iload dX3_holds_260 rfl ?_
                                        refine g_iload dX3_holds_262 rfl ?_
                                        refine g_imul dX3_holds_264 ?_
                                        refine s_istore (L' := [.ref 28, .int x1, .ref 73, .int (x2 + (-1)), .int x3, .int (I 29 x3.toNatClampNeg), .int ((-(I 29 x3.toNatClampNeg)) - 8), .int (I 32 (x2 + (-1)).toNatClampNeg), .int ((I 32 ((x2 + (-1)) - 1).toNatClampNeg) * (I 32 (x2 + (-1)).toNatClampNeg))]) dX3_holds_265 (by decide) rfl rfl ?_
                                        refine g_goto (tgt := 357) dX3_holds_267 (by decide) ?_
                                        refine g_aload_n dX3_holds_357 rfl rfl ?_
                                        refine rg_X3_3 (r := 32) dX3_holds_358 lf_X3_21 (sk_28 _) rfl ?_
                                        refine g_iload_n dX3_holds_361 rfl rfl ?_
                                        refine g_iconst (v := 1) dX3_holds_362 (by decide) ?_
                                        refine g_isub dX3_holds_363 ?_
                                        refine g_iload dX3_holds_364 rfl ?_
                                        refine s_iast (j := ((x2 + (-1)) - 1).toNatClampNeg) dX3_holds_366 (sk_32 _) (b95 c2 c8 c14 c67 c69 c72 c97) rfl ?_
                                        refine s_iinc (v := (x3 + 1)) (L' := [.ref 28, .int x1, .ref 73, .int (x2 + (-1)), .int (x3 + 1), .int (I 29 x3.toNatClampNeg), .int ((-(I 29 x3.toNatClampNeg)) - 8), .int (I 32 (x2 + (-1)).toNatClampNeg), .int ((I 32 ((x2 + (-1)) - 1).toNatClampNeg) * (I 32 (x2 + (-1)).toNatClampNeg))]) dX3_holds_367 rfl (by decide) rfl rfl rfl ?_
                                        refine g_goto (tgt := 10) dX3_holds_370 (by decide) ?_
                                        exact e96 c2 c8 c14 c67 c69 c72 c97
                                      · skip
                                        rcases Decidable.em ((-(I 29 x3.toNatClampNeg)) = 19) with c99 | c100
                                        · skip
                                          refine g_tableIn (off := 120) (tgt := 270) dX3_holds_150 (by rw [c99]; decide) (by rw [c99]; decide) (by rw [c99]; rfl) (by decide) ?_
                                          refine g_iload dX3_holds_270 rfl ?_
                                          refine g_if_ne (tgt := 279) dX3_holds_272 (by decide) (fun c101 => ?_) (fun c102 => ?_)
                                          · skip
                                            refine g_iload dX3_holds_279 rfl ?_
                                            refine g_iload dX3_holds_281 rfl ?_
                                            refine g_idiv dX3_holds_283 (z97 c2 c8 c14 c67 c69 c72 c99 c101) ?_
                                            refine s_istore (L' := [.ref 28, .int x1, .ref 73, .int (x2 + (-1)), .int x3, .int (I 29 x3.toNatClampNeg), .int ((-(I 29 x3.toNatClampNeg)) - 8), .int (I 32 (x2 + (-1)).toNatClampNeg), .int ((I 32 ((x2 + (-1)) - 1).toNatClampNeg) / (I 32 (x2 + (-1)).toNatClampNeg))]) dX3_holds_284 (by decide) rfl rfl ?_
                                            refine g_goto (tgt := 357) dX3_holds_286 (by decide) ?_
                                            refine g_aload_n dX3_holds_357 rfl rfl ?_
                                            refine rg_X3_3 (r := 32) dX3_holds_358 lf_X3_21 (sk_28 _) rfl ?_
                                            refine g_iload_n dX3_holds_361 rfl rfl ?_
                                            refine g_iconst (v := 1) dX3_holds_362 (by decide) ?_
                                            refine g_isub dX3_holds_363 ?_
                                            refine g_iload dX3_holds_364 rfl ?_
                                            refine s_iast (j := ((x2 + (-1)) - 1).toNatClampNeg) dX3_holds_366 (sk_32 _) (b98 c2 c8 c14 c67 c69 c72 c99 c101) rfl ?_
                                            refine s_iinc (v := (x3 + 1)) (L' := [.ref 28, .int x1, .ref 73, .int (x2 + (-1)), .int (x3 + 1), .int (I 29 x3.toNatClampNeg), .int ((-(I 29 x3.toNatClampNeg)) - 8), .int (I 32 (x2 + (-1)).toNatClampNeg), .int ((I 32 ((x2 + (-1)) - 1).toNatClampNeg) / (I 32 (x2 + (-1)).toNatClampNeg))]) dX3_holds_367 rfl (by decide) rfl rfl rfl ?_
                                            refine g_goto (tgt := 10) dX3_holds_370 (by decide) ?_
                                            exact e99 c2 c8 c14 c67 c69 c72 c99 c101
                                          · skip
                                            refine g_iconst (v := 0) dX3_holds_275 (by decide) ?_
                                            refine g_goto (tgt := 284) dX3_holds_276 (by decide) ?_
                                            refine s_istore (L' := [.ref 28, .int x1, .ref 73, .int (x2 + (-1)), .int x3, .int (I 29 x3.toNatClampNeg), .int ((-(I 29 x3.toNatClampNeg)) - 8), .int (I 32 (x2 + (-1)).toNatClampNeg), .int 0]) dX3_holds_284 (by decide) rfl rfl ?_
                                            refine g_goto (tgt := 357) dX3_holds_286 (by decide) ?_
                                            refine g_aload_n dX3_holds_357 rfl rfl ?_
                                            refine rg_X3_3 (r := 32) dX3_holds_358 lf_X3_21 (sk_28 _) rfl ?_
                                            refine g_iload_n dX3_holds_361 rfl rfl ?_
                                            refine g_iconst (v := 1) dX3_holds_362 (by decide) ?_
                                            refine g_isub dX3_holds_363 ?_
                                            refine g_iload dX3_holds_364 rfl ?_
                                            refine s_iast (j := ((x2 + (-1)) - 1).toNatClampNeg) dX3_holds_366 (sk_32 _) (b100 c2 c8 c14 c67 c69 c72 c99 c102) rfl ?_
                                            refine s_iinc (v := (x3 + 1)) (L' := [.ref 28, .int x1, .ref 73, .int (x2 + (-1)), .int (x3 + 1), .int (I 29 x3.toNatClampNeg), .int ((-(I 29 x3.toNatClampNeg)) - 8), .int (I 32 (x2 + (-1)).toNatClampNeg), .int 0]) dX3_holds_367 rfl (by decide) rfl rfl rfl ?_
                                            refine g_goto (tgt := 10) dX3_holds_370 (by decide) ?_
                                            exact e101 c2 c8 c14 c67 c69 c72 c99 c102
                                        · skip
                                          rcases Decidable.em ((-(I 29 x3.toNatClampNeg)) = 20) with c103 | c104
                                          · skip
                                            refine g_tableIn (off := 200) (tgt := 350) dX3_holds_150 (by rw [c103]; decide) (by rw [c103]; decide) (by rw [c103]; rfl) (by decide) ?_
                                            refine g_iload dX3_holds_350 rfl ?_
                                            refine g_iload dX3_holds_352 rfl ?_
                                            refine g_ior dX3_holds_354 ?_
                                            refine s_istore (L' := [.ref 28, .int x1, .ref 73, .int (x2 + (-1)), .int x3, .int (I 29 x3.toNatClampNeg), .int ((-(I 29 x3.toNatClampNeg)) - 8), .int (I 32 (x2 + (-1)).toNatClampNeg), .int ((I 32 ((x2 + (-1)) - 1).toNatClampNeg) ||| (I 32 (x2 + (-1)).toNatClampNeg))]) dX3_holds_355 (by decide) rfl rfl ?_
                                            refine g_aload_n dX3_holds_357 rfl rfl ?_
                                            refine rg_X3_3 (r := 32) dX3_holds_358 lf_X3_21 (sk_28 _) rfl ?_
                                            refine g_iload_n dX3_holds_361 rfl rfl ?_
                                            refine g_iconst (v := 1) dX3_holds_362 (by decide) ?_
                                            refine g_isub dX3_holds_363 ?_
                                            refine g_iload dX3_holds_364 rfl ?_
                                            refine s_iast (j := ((x2 + (-1)) - 1).toNatClampNeg) dX3_holds_366 (sk_32 _) (b102 c2 c8 c14 c67 c69 c72 c103) rfl ?_
                                            refine s_iinc (v := (x3 + 1)) (L' := [.ref 28, .int x1, .ref 73, .int (x2 + (-1)), .int (x3 + 1), .int (I 29 x3.toNatClampNeg), .int ((-(I 29 x3.toNatClampNeg)) - 8), .int (I 32 (x2 + (-1)).toNatClampNeg), .int ((I 32 ((x2 + (-1)) - 1).toNatClampNeg) ||| (I 32 (x2 + (-1)).toNatClampNeg))]) dX3_holds_367 rfl (by decide) rfl rfl rfl ?_
                                            refine g_goto (tgt := 10) dX3_holds_370 (by decide) ?_
                                            exact e103 c2 c8 c14 c67 c69 c72 c103
                                          · skip
                                            rcases Decidable.em ((-(I 29 x3.toNatClampNeg)) = 21) with c105 | c106
                                            · skip
                                              refine g_tableIn (off := 200) (tgt := 350) dX3_holds_150 (by rw [c105]; decide) (by rw [c105]; decide) (by rw [c105]; rfl) (by decide) ?_
                                              refine g_iload dX3_holds_350 rfl ?_
                                              refine g_iload dX3_holds_352 rfl ?_
                                              refine g_ior dX3_holds_354 ?_
                                              refine s_istore (L' := [.ref 28, .int x1, .ref 73, .int (x2 + (-1)), .int x3, .int (I 29 x3.toNatClampNeg), .int ((-(I 29 x3.toNatClampNeg)) - 8), .int (I 32 (x2 + (-1)).toNatClampNeg), .int ((I 32 ((x2 + (-1)) - 1).toNatClampNeg) ||| (I 32 (x2 + (-1)).toNatClampNeg))]) dX3_holds_355 (by decide) rfl rfl ?_
                                              refine g_aload_n dX3_holds_357 rfl rfl ?_
                                              refine rg_X3_3 (r := 32) dX3_holds_358 lf_X3_21 (sk_28 _) rfl ?_
                                              refine g_iload_n dX3_holds_361 rfl rfl ?_
                                              refine g_iconst (v := 1) dX3_holds_362 (by decide) ?_
                                              refine g_isub dX3_holds_363 ?_
                                              refine g_iload dX3_holds_364 rfl ?_
                                              refine s_iast (j := ((x2 + (-1)) - 1).toNatClampNeg) dX3_holds_366 (sk_32 _) (b104 c2 c8 c14 c67 c69 c72 c105) rfl ?_
                                              refine s_iinc (v := (x3 + 1)) (L' := [.ref 28, .int x1, .ref 73, .int (x2 + (-1)), .int (x3 + 1), .int (I 29 x3.toNatClampNeg), .int ((-(I 29 x3.toNatClampNeg)) - 8), .int (I 32 (x2 + (-1)).toNatClampNeg), .int ((I 32 ((x2 + (-1)) - 1).toNatClampNeg) ||| (I 32 (x2 + (-1)).toNatClampNeg))]) dX3_holds_367 rfl (by decide) rfl rfl rfl ?_
                                              refine g_goto (tgt := 10) dX3_holds_370 (by decide) ?_
                                              exact e105 c2 c8 c14 c67 c69 c72 c105
                                            · skip
                                              rcases Decidable.em ((-(I 29 x3.toNatClampNeg)) = 22) with c107 | c108
                                              · skip
                                                refine g_tableIn (off := 139) (tgt := 289) dX3_holds_150 (by rw [c107]; decide) (by rw [c107]; decide) (by rw [c107]; rfl) (by decide) ?_
                                                refine g_iload dX3_holds_289 rfl ?_
                                                refine g_iload dX3_holds_291 rfl ?_
                                                refine g_icmp_ge (tgt := 300) dX3_holds_293 (by decide) (fun c109 => ?_) (fun c110 => ?_)
                                                · skip
                                                  refine g_iconst (v := 0) dX3_holds_300 (by decide) ?_
                                                  refine s_istore (L' := [.ref 28, .int x1, .ref 73, .int (x2 + (-1)), .int x3, .int (I 29 x3.toNatClampNeg), .int ((-(I 29 x3.toNatClampNeg)) - 8), .int (I 32 (x2 + (-1)).toNatClampNeg), .int 0]) dX3_holds_301 (by decide) rfl rfl ?_
                                                  refine g_goto (tgt := 357) dX3_holds_303 (by decide) ?_
                                                  refine g_aload_n dX3_holds_357 rfl rfl ?_
                                                  refine rg_X3_3 (r := 32) dX3_holds_358 lf_X3_21 (sk_28 _) rfl ?_
                                                  refine g_iload_n dX3_holds_361 rfl rfl ?_
                                                  refine g_iconst (v := 1) dX3_holds_362 (by decide) ?_
                                                  refine g_isub dX3_holds_363 ?_
                                                  refine g_iload dX3_holds_364 rfl ?_
                                                  refine s_iast (j := ((x2 + (-1)) - 1).toNatClampNeg) dX3_holds_366 (sk_32 _) (b106 c2 c8 c14 c67 c69 c72 c107 c109) rfl ?_
                                                  refine s_iinc (v := (x3 + 1)) (L' := [.ref 28, .int x1, .ref 73, .int (x2 + (-1)), .int (x3 + 1), .int (I 29 x3.toNatClampNeg), .int ((-(I 29 x3.toNatClampNeg)) - 8), .int (I 32 (x2 + (-1)).toNatClampNeg), .int 0]) dX3_holds_367 rfl (by decide) rfl rfl rfl ?_
                                                  refine g_goto (tgt := 10) dX3_holds_370 (by decide) ?_
                                                  exact e107 c2 c8 c14 c67 c69 c72 c107 c109
                                                · skip
                                                  refine g_iconst (v := 1) dX3_holds_296 (by decide) ?_
                                                  refine g_goto (tgt := 301) dX3_holds_297 (by decide) ?_
                                                  refine s_istore (L' := [.ref 28, .int x1, .ref 73, .int (x2 + (-1)), .int x3, .int (I 29 x3.toNatClampNeg), .int ((-(I 29 x3.toNatClampNeg)) - 8), .int (I 32 (x2 + (-1)).toNatClampNeg), .int 1]) dX3_holds_301 (by decide) rfl rfl ?_
                                                  refine g_goto (tgt := 357) dX3_holds_303 (by decide) ?_
                                                  refine g_aload_n dX3_holds_357 rfl rfl ?_
                                                  refine rg_X3_3 (r := 32) dX3_holds_358 lf_X3_21 (sk_28 _) rfl ?_
                                                  refine g_iload_n dX3_holds_361 rfl rfl ?_
                                                  refine g_iconst (v := 1) dX3_holds_362 (by decide) ?_
                                                  refine g_isub dX3_holds_363 ?_
                                                  refine g_iload dX3_holds_364 rfl ?_
                                                  refine s_iast (j := ((x2 + (-1)) - 1).toNatClampNeg) dX3_holds_366 (sk_32 _) (b108 c2 c8 c14 c67 c69 c72 c107 c110) rfl ?_
                                                  refine s_iinc (v := (x3 + 1)) (L' := [.ref 28, .int x1, .ref 73, .int (x2 + (-1)), .int (x3 + 1), .int (I 29 x3.toNatClampNeg), .int ((-(I 29 x3.toNatClampNeg)) - 8), .int (I 32 (x2 + (-1)).toNatClampNeg), .int 1]) dX3_holds_367 rfl (by decide) rfl rfl rfl ?_
                                                  refine g_goto (tgt := 10) dX3_holds_370 (by decide) ?_
                                                  exact e109 c2 c8 c14 c67 c69 c72 c107 c110
                                              · skip
                                                rcases Decidable.em ((-(I 29 x3.toNatClampNeg)) = 23) with c111 | c112
                                                · skip
                                                  refine g_tableIn (off := 156) (tgt := 306) dX3_holds_150 (by rw [c111]; decide) (by rw [c111]; decide) (by rw [c111]; rfl) (by decide) ?_
                                                  refine g_iload dX3_holds_306 rfl ?_
                                                  refine g_iload dX3_holds_308 rfl ?_
                                                  refine g_icmp_ne (tgt := 317) dX3_holds_310 (by decide) (fun c113 => ?_) (fun c114 => ?_)
                                                  · skip
                                                    refine g_iconst (v := 0) dX3_holds_317 (by decide) ?_
                                                    refine s_istore (L' := [.ref 28, .int x1, .ref 73, .int (x2 + (-1)), .int x3, .int (I 29 x3.toNatClampNeg), .int ((-(I 29 x3.toNatClampNeg)) - 8), .int (I 32 (x2 + (-1)).toNatClampNeg), .int 0]) dX3_holds_318 (by decide) rfl rfl ?_
                                                    refine g_goto (tgt := 357) dX3_holds_320 (by decide) ?_
                                                    refine g_aload_n dX3_holds_357 rfl rfl ?_
                                                    refine rg_X3_3 (r := 32) dX3_holds_358 lf_X3_21 (sk_28 _) rfl ?_
                                                    refine g_iload_n dX3_holds_361 rfl rfl ?_
                                                    refine g_iconst (v := 1) dX3_holds_362 (by decide) ?_
                                                    refine g_isub dX3_holds_363 ?_
                                                    refine g_iload dX3_holds_364 rfl ?_
                                                    refine s_iast (j := ((x2 + (-1)) - 1).toNatClampNeg) dX3_holds_366 (sk_32 _) (b110 c2 c8 c14 c67 c69 c72 c111 c113) rfl ?_
                                                    refine s_iinc (v := (x3 + 1)) (L' := [.ref 28, .int x1, .ref 73, .int (x2 + (-1)), .int (x3 + 1), .int (I 29 x3.toNatClampNeg), .int ((-(I 29 x3.toNatClampNeg)) - 8), .int (I 32 (x2 + (-1)).toNatClampNeg), .int 0]) dX3_holds_367 rfl (by decide) rfl rfl rfl ?_
                                                    refine g_goto (tgt := 10) dX3_holds_370 (by decide) ?_
                                                    exact e111 c2 c8 c14 c67 c69 c72 c111 c113
                                                  · skip
                                                    refine g_iconst (v := 1) dX3_holds_313 (by decide) ?_
                                                    refine g_goto (tgt := 318) dX3_holds_314 (by decide) ?_
                                                    refine s_istore (L' := [.ref 28, .int x1, .ref 73, .int (x2 + (-1)), .int x3, .int (I 29 x3.toNatClampNeg), .int ((-(I 29 x3.toNatClampNeg)) - 8), .int (I 32 (x2 + (-1)).toNatClampNeg), .int 1]) dX3_holds_318 (by decide) rfl rfl ?_
                                                    refine g_goto (tgt := 357) dX3_holds_320 (by decide) ?_
                                                    refine g_aload_n dX3_holds_357 rfl rfl ?_
                                                    refine rg_X3_3 (r := 32) dX3_holds_358 lf_X3_21 (sk_28 _) rfl ?_
                                                    refine g_iload_n dX3_holds_361 rfl rfl ?_
                                                    refine g_iconst (v := 1) dX3_holds_362 (by decide) ?_
                                                    refine g_isub dX3_holds_363 ?_
                                                    refine g_iload dX3_holds_364 rfl ?_
                                                    refine s_iast (j := ((x2 + (-1)) - 1).toNatClampNeg) dX3_holds_366 (sk_32 _) (b112 c2 c8 c14 c67 c69 c72 c111 c114) rfl ?_
                                                    refine s_iinc (v := (x3 + 1)) (L' := [.ref 28, .int x1, .ref 73, .int (x2 + (-1)), .int (x3 + 1), .int (I 29 x3.toNatClampNeg), .int ((-(I 29 x3.toNatClampNeg)) - 8), .int (I 32 (x2 + (-1)).toNatClampNeg), .int 1]) dX3_holds_367 rfl (by decide) rfl rfl rfl ?_
                                                    refine g_goto (tgt := 10) dX3_holds_370 (by decide) ?_
                                                    exact e113 c2 c8 c14 c67 c69 c72 c111 c114
                                                · skip
                                                  rcases Decidable.em ((-(I 29 x3.toNatClampNeg)) = 24) with c115 | c116
                                                  · skip
                                                    refine g_tableIn (off := 173) (tgt := 323) dX3_holds_150 (by rw [c115]; decide) (by rw [c115]; decide) (by rw [c115]; rfl) (by decide) ?_
                                                    refine g_iload dX3_holds_323 rfl ?_
                                                    refine g_iload dX3_holds_325 rfl ?_
                                                    refine g_icmp_le (tgt := 334) dX3_holds_327 (by decide) (fun c117 => ?_) (fun c118 => ?_)
                                                    · skip
                                                      refine g_iconst (v := 0) dX3_holds_334 (by decide) ?_
                                                      refine s_istore (L' := [.ref 28, .int x1, .ref 73, .int (x2 + (-1)), .int x3, .int (I 29 x3.toNatClampNeg), .int ((-(I 29 x3.toNatClampNeg)) - 8), .int (I 32 (x2 + (-1)).toNatClampNeg), .int 0]) dX3_holds_335 (by decide) rfl rfl ?_
                                                      refine g_goto (tgt := 357) dX3_holds_337 (by decide) ?_
                                                      refine g_aload_n dX3_holds_357 rfl rfl ?_
                                                      refine rg_X3_3 (r := 32) dX3_holds_358 lf_X3_21 (sk_28 _) rfl ?_
                                                      refine g_iload_n dX3_holds_361 rfl rfl ?_
                                                      refine g_iconst (v := 1) dX3_holds_362 (by decide) ?_
                                                      refine g_isub dX3_holds_363 ?_
                                                      refine g_iload dX3_holds_364 rfl ?_
                                                      refine s_iast (j := ((x2 + (-1)) - 1).toNatClampNeg) dX3_holds_366 (sk_32 _) (b114 c2 c8 c14 c67 c69 c72 c115 c117) rfl ?_
                                                      refine s_iinc (v := (x3 + 1)) (L' := [.ref 28, .int x1, .ref 73, .int (x2 + (-1)), .int (x3 + 1), .int (I 29 x3.toNatClampNeg), .int ((-(I 29 x3.toNatClampNeg)) - 8), .int (I 32 (x2 + (-1)).toNatClampNeg), .int 0]) dX3_holds_367 rfl (by decide) rfl rfl rfl ?_
                                                      refine g_goto (tgt := 10) dX3_holds_370 (by decide) ?_
                                                      exact e115 c2 c8 c14 c67 c69 c72 c115 c117
                                                    · skip
                                                      refine g_iconst (v := 1) dX3_holds_330 (by decide) ?_
                                                      refine g_goto (tgt := 335) dX3_holds_331 (by decide) ?_
                                                      refine s_istore (L' := [.ref 28, .int x1, .ref 73, .int (x2 + (-1)), .int x3, .int (I 29 x3.toNatClampNeg), .int ((-(I 29 x3.toNatClampNeg)) - 8), .int (I 32 (x2 + (-1)).toNatClampNeg), .int 1]) dX3_holds_335 (by decide) rfl rfl ?_
                                                      refine g_goto (tgt := 357) dX3_holds_337 (by decide) ?_
                                                      refine g_aload_n dX3_holds_357 rfl rfl ?_
                                                      refine rg_X3_3 (r := 32) dX3_holds_358 lf_X3_21 (sk_28 _) rfl ?_
                                                      refine g_iload_n dX3_holds_361 rfl rfl ?_
                                                      refine g_iconst (v := 1) dX3_holds_362 (by decide) ?_
                                                      refine g_isub dX3_holds_363 ?_
                                                      refine g_iload dX3_holds_364 rfl ?_
                                                      refine s_iast (j := ((x2 + (-1)) - 1).toNatClampNeg) dX3_holds_366 (sk_32 _) (b116 c2 c8 c14 c67 c69 c72 c115 c118) rfl ?_
                                                      refine s_iinc (v := (x3 + 1)) (L' := [.ref 28, .int x1, .ref 73, .int (x2 + (-1)), .int (x3 + 1), .int (I 29 x3.toNatClampNeg), .int ((-(I 29 x3.toNatClampNeg)) - 8), .int (I 32 (x2 + (-1)).toNatClampNeg), .int 1]) dX3_holds_367 rfl (by decide) rfl rfl rfl ?_
                                                      refine g_goto (tgt := 10) dX3_holds_370 (by decide) ?_
                                                      exact e117 c2 c8 c14 c67 c69 c72 c115 c118
                                                  · skip
                                                    refine g_tableOut (tgt := 350) dX3_holds_150 (by have q74 := mx_i32 (n := 6) (by decide) c74; have q76 := mx_i32 (n := 7) (by decide) c76; have q78 := mx_i32 (n := 8) (by decide) c78; have q80 := mx_i32 (n := 9) (by decide) c80; have q82 := mx_i32 (n := 10) (by decide) c82; have q84 := mx_i32 (n := 11) (by decide) c84; have q86 := mx_i32 (n := 12) (by decide) c86; have q88 := mx_i32 (n := 13) (by decide) c88; have q90 := mx_i32 (n := 14) (by decide) c90; have q92 := mx_i32 (n := 15) (by decide) c92; have q94 := mx_i32 (n := 16) (by decide) c94; have q96 := mx_i32 (n := 17) (by decide) c96; have q98 := mx_i32 (n := 18) (by decide) c98; have q100 := mx_i32 (n := 19) (by decide) c100; have q104 := mx_i32 (n := 20) (by decide) c104; have q106 := mx_i32 (n := 21) (by decide) c106; have q108 := mx_i32 (n := 22) (by decide) c108; have q112 := mx_i32 (n := 23) (by decide) c112; have q116 := mx_i32 (n := 24) (by decide) c116; omega) (by decide) ?_
                                                    refine g_iload dX3_holds_350 rfl ?_
                                                    refine g_iload dX3_holds_352 rfl ?_
                                                    refine g_ior dX3_holds_354 ?_
                                                    refine s_istore (L' := [.ref 28, .int x1, .ref 73, .int (x2 + (-1)), .int x3, .int (I 29 x3.toNatClampNeg), .int ((-(I 29 x3.toNatClampNeg)) - 8), .int (I 32 (x2 + (-1)).toNatClampNeg), .int ((I 32 ((x2 + (-1)) - 1).toNatClampNeg) ||| (I 32 (x2 + (-1)).toNatClampNeg))]) dX3_holds_355 (by decide) rfl rfl ?_
                                                    refine g_aload_n dX3_holds_357 rfl rfl ?_
                                                    refine rg_X3_3 (r := 32) dX3_holds_358 lf_X3_21 (sk_28 _) rfl ?_
                                                    refine g_iload_n dX3_holds_361 rfl rfl ?_
                                                    refine g_iconst (v := 1) dX3_holds_362 (by decide) ?_
                                                    refine g_isub dX3_holds_363 ?_
                                                    refine g_iload dX3_holds_364 rfl ?_
                                                    refine s_iast (j := ((x2 + (-1)) - 1).toNatClampNeg) dX3_holds_366 (sk_32 _) (b118 c2 c8 c14 c67 c69 c72 c74 c76 c78 c80 c82 c84 c86 c88 c90 c92 c94 c96 c98 c100 c104 c106 c108 c112 c116) rfl ?_
                                                    refine s_iinc (v := (x3 + 1)) (L' := [.ref 28, .int x1, .ref 73, .int (x2 + (-1)), .int (x3 + 1), .int (I 29 x3.toNatClampNeg), .int ((-(I 29 x3.toNatClampNeg)) - 8), .int (I 32 (x2 + (-1)).toNatClampNeg), .int ((I 32 ((x2 + (-1)) - 1).toNatClampNeg) ||| (I 32 (x2 + (-1)).toNatClampNeg))]) dX3_holds_367 rfl (by decide) rfl rfl rfl ?_
                                                    refine g_goto (tgt := 10) dX3_holds_370 (by decide) ?_
                                                    exact e119 c2 c8 c14 c67 c69 c72 c74 c76 c78 c80 c82 c84 c86 c88 c90 c92 c94 c96 c98 c100 c104 c106 c108 c112 c116
          · skip
            refine g_iload_n dX3_holds_96 rfl rfl ?_
            refine g_if_le (tgt := 367) dX3_holds_97 (by decide) (fun c119 => ?_) (fun c120 => ?_)
            · skip
              refine s_iinc (v := (x3 + 1)) (L' := [.ref 28, .int x1, .ref 73, .int x2, .int (x3 + 1), .int (I 29 x3.toNatClampNeg), .int ((-(I 29 x3.toNatClampNeg)) - 8), .retAddr 0, .retAddr 0]) dX3_holds_367 rfl (by decide) rfl rfl rfl ?_
              refine g_goto (tgt := 10) dX3_holds_370 (by decide) ?_
              exact e120 c2 c8 c14 c67 c70 c119
            · skip
              refine g_aload_n dX3_holds_100 rfl rfl ?_
              refine rg_X3_3 (r := 32) dX3_holds_101 lf_X3_21 (sk_28 _) rfl ?_
              refine g_iload_n dX3_holds_104 rfl rfl ?_
              refine g_iconst (v := 1) dX3_holds_105 (by decide) ?_
              refine g_isub dX3_holds_106 ?_
              refine g_iconst (v := 1) dX3_holds_107 (by decide) ?_
              refine g_aload_n dX3_holds_108 rfl rfl ?_
              refine rg_X3_3 (r := 32) dX3_holds_109 lf_X3_21 (sk_28 _) rfl ?_
              refine g_iload_n dX3_holds_112 rfl rfl ?_
              refine g_iconst (v := 1) dX3_holds_113 (by decide) ?_
              refine g_isub dX3_holds_114 ?_
              refine s_iald (j := (x2 - 1).toNatClampNeg) (v := (I 32 (x2 - 1).toNatClampNeg)) dX3_holds_115 (sk_32 _) (b121 c2 c8 c14 c67 c70 c120) rfl rfl ?_
              refine g_isub dX3_holds_116 ?_
              refine s_iast (j := (x2 - 1).toNatClampNeg) dX3_holds_117 (sk_32 _) (b122 c2 c8 c14 c67 c70 c120) rfl ?_
              refine g_goto (tgt := 367) dX3_holds_118 (by decide) ?_
              refine s_iinc (v := (x3 + 1)) (L' := [.ref 28, .int x1, .ref 73, .int x2, .int (x3 + 1), .int (I 29 x3.toNatClampNeg), .int ((-(I 29 x3.toNatClampNeg)) - 8), .retAddr 0, .retAddr 0]) dX3_holds_367 rfl (by decide) rfl rfl rfl ?_
              refine g_goto (tgt := 10) dX3_holds_370 (by decide) ?_
              exact e123 c2 c8 c14 c67 c70 c120
        · skip
          refine g_iload_n dX3_holds_57 rfl rfl ?_
          refine g_bipush (v := 64) dX3_holds_58 (by decide) ?_
          refine g_icmp_ge (tgt := 367) dX3_holds_60 (by decide) (fun c121 => ?_) (fun c122 => ?_)
          · skip
            refine s_iinc (v := (x3 + 1)) (L' := [.ref 28, .int x1, .ref 73, .int x2, .int (x3 + 1), .int (I 29 x3.toNatClampNeg), .int ((-(I 29 x3.toNatClampNeg)) - 8), .retAddr 0, .retAddr 0]) dX3_holds_367 rfl (by decide) rfl rfl rfl ?_
            refine g_goto (tgt := 10) dX3_holds_370 (by decide) ?_
            exact e124 c2 c8 c14 c68 c121
          · skip
            refine g_aload_n dX3_holds_63 rfl rfl ?_
            refine rg_X3_3 (r := 32) dX3_holds_64 lf_X3_21 (sk_28 _) rfl ?_
            refine g_iload_n dX3_holds_67 rfl rfl ?_
            refine g_iload dX3_holds_68 rfl ?_
            refine g_if_lt (tgt := 78) dX3_holds_70 (by decide) (fun c123 => ?_) (fun c124 => ?_)
            · skip
              refine g_aload_n dX3_holds_78 rfl rfl ?_
              refine g_iload dX3_holds_79 rfl ?_
              refine s_iald (j := ((-(I 29 x3.toNatClampNeg)) - 8).toNatClampNeg) (v := (I 73 ((-(I 29 x3.toNatClampNeg)) - 8).toNatClampNeg)) dX3_holds_81 (sk_73 _) (b125 c2 c8 c14 c68 c122 c123) rfl rfl ?_
              refine s_iast (j := x2.toNatClampNeg) dX3_holds_82 (sk_32 _) (b126 c2 c8 c14 c68 c122 c123) rfl ?_
              refine s_iinc (v := (x2 + 1)) (L' := [.ref 28, .int x1, .ref 73, .int (x2 + 1), .int x3, .int (I 29 x3.toNatClampNeg), .int ((-(I 29 x3.toNatClampNeg)) - 8), .retAddr 0, .retAddr 0]) dX3_holds_83 rfl (by decide) rfl rfl rfl ?_
              refine g_goto (tgt := 367) dX3_holds_86 (by decide) ?_
              refine s_iinc (v := (x3 + 1)) (L' := [.ref 28, .int x1, .ref 73, .int (x2 + 1), .int (x3 + 1), .int (I 29 x3.toNatClampNeg), .int ((-(I 29 x3.toNatClampNeg)) - 8), .retAddr 0, .retAddr 0]) dX3_holds_367 rfl (by decide) rfl rfl rfl ?_
              refine g_goto (tgt := 10) dX3_holds_370 (by decide) ?_
              exact e127 c2 c8 c14 c68 c122 c123
            · skip
              refine g_iload dX3_holds_73 rfl ?_
              refine g_goto (tgt := 82) dX3_holds_75 (by decide) ?_
              refine s_iast (j := x2.toNatClampNeg) dX3_holds_82 (sk_32 _) (b128 c2 c8 c14 c68 c122 c124) rfl ?_
              refine s_iinc (v := (x2 + 1)) (L' := [.ref 28, .int x1, .ref 73, .int (x2 + 1), .int x3, .int (I 29 x3.toNatClampNeg), .int ((-(I 29 x3.toNatClampNeg)) - 8), .retAddr 0, .retAddr 0]) dX3_holds_83 rfl (by decide) rfl rfl rfl ?_
              refine g_goto (tgt := 367) dX3_holds_86 (by decide) ?_
              refine s_iinc (v := (x3 + 1)) (L' := [.ref 28, .int x1, .ref 73, .int (x2 + 1), .int (x3 + 1), .int (I 29 x3.toNatClampNeg), .int ((-(I 29 x3.toNatClampNeg)) - 8), .retAddr 0, .retAddr 0]) dX3_holds_367 rfl (by decide) rfl rfl rfl ?_
              refine g_goto (tgt := 10) dX3_holds_370 (by decide) ?_
              exact e129 c2 c8 c14 c68 c122 c124
set_option maxRecDepth 10000 in
set_option maxHeartbeats 1000000 in
theorem sn_X3_copyFrom_28_49 {l : Launch} {d : Nat} {Q : Option Value → mx_H → Prop} {c : Nat} {I : mx_I}
    (q1 : Q none (sk0 c, (mx_set (mx_set (mx_copy (mx_copy (mx_copy I 50 29 400) 51 30 17) 52 31 16) 28 4 (I 49 4)) 28 5 (I 49 5)))) :
    mx_Spec l mX3_copyFrom (d + 1) 0 0 [.ref 28, .ref 49] (sk0 c, I) Q := by
  refine mx_enter rfl (by simp [Value.category]) (Nat.le_of_ble_eq_true rfl) ?_
  change mx_Go l (mx_rm (d + 1) 0 0) mX3_copyFrom (mx_Z Q 0 0) 0 0 0 [.ref 28, .ref 49] [] (sk0 c, I)
  refine g_aload_n dX3_copyFrom_0 rfl rfl ?_
  refine rg_X3_0 (r := 50) dX3_copyFrom_1 lf_X3_9 (sk_49 _) rfl ?_
  refine g_iconst (v := 0) dX3_copyFrom_4 (by decide) ?_
  refine g_aload_n dX3_copyFrom_5 rfl rfl ?_
  refine rg_X3_0 (r := 29) dX3_copyFrom_6 lf_X3_9 (sk_28 _) rfl ?_
  refine g_iconst (v := 0) dX3_copyFrom_9 (by decide) ?_
  refine g_sipush (v := 400) dX3_copyFrom_10 (by decide) ?_
  refine s_copy (N := 400) dX3_copyFrom_13 lm_X3_35 (sk_50 _) (sk_29 _) (by decide) (by decide) (by decide) (by decide) (by decide) ?_
  refine g_aload_n dX3_copyFrom_16 rfl rfl ?_
  refine rg_X3_1 (r := 51) dX3_copyFrom_17 lf_X3_15 (sk_49 _) rfl ?_
  refine g_iconst (v := 0) dX3_copyFrom_20 (by decide) ?_
  refine g_aload_n dX3_copyFrom_21 rfl rfl ?_
  refine rg_X3_1 (r := 30) dX3_copyFrom_22 lf_X3_15 (sk_28 _) rfl ?_
  refine g_iconst (v := 0) dX3_copyFrom_25 (by decide) ?_
  refine g_bipush (v := 17) dX3_copyFrom_26 (by decide) ?_
  refine s_copy (N := 17) dX3_copyFrom_28 lm_X3_35 (sk_51 _) (sk_30 _) (by decide) (by decide) (by decide) (by decide) (by decide) ?_
  refine g_aload_n dX3_copyFrom_31 rfl rfl ?_
  refine rg_X3_2 (r := 52) dX3_copyFrom_32 lf_X3_18 (sk_49 _) rfl ?_
  refine g_iconst (v := 0) dX3_copyFrom_35 (by decide) ?_
  refine g_aload_n dX3_copyFrom_36 rfl rfl ?_
  refine rg_X3_2 (r := 31) dX3_copyFrom_37 lf_X3_18 (sk_28 _) rfl ?_
  refine g_iconst (v := 0) dX3_copyFrom_40 (by decide) ?_
  refine g_bipush (v := 16) dX3_copyFrom_41 (by decide) ?_
  refine s_copy (N := 16) dX3_copyFrom_43 lm_X3_35 (sk_52 _) (sk_31 _) (by decide) (by decide) (by decide) (by decide) (by decide) ?_
  refine g_aload_n dX3_copyFrom_46 rfl rfl ?_
  refine g_aload_n dX3_copyFrom_47 rfl rfl ?_
  refine rg_X3_4 (v := (I 49 4)) dX3_copyFrom_48 lf_X3_24 (sk_49 _) (rd_cp (by decide) (rd_cp (by decide) (rd_cp (by decide) rfl))) ?_
  refine rp_X3_4 dX3_copyFrom_51 lf_X3_24 (sk_28 _) ?_
  refine g_aload_n dX3_copyFrom_54 rfl rfl ?_
  refine g_aload_n dX3_copyFrom_55 rfl rfl ?_
  refine rg_X3_5 (v := (I 49 5)) dX3_copyFrom_56 lf_X3_28 (sk_49 _) (rd_ne (by decide) (rd_cp (by decide) (rd_cp (by decide) (rd_cp (by decide) rfl)))) ?_
  refine rp_X3_5 dX3_copyFrom_59 lf_X3_28 (sk_28 _) ?_
  exact g_vret rfl dX3_copyFrom_62 rfl (Nat.le_refl _) (q1)
set_option maxRecDepth 10000 in
set_option maxHeartbeats 1000000 in
theorem sn_X3_copyFrom_101_28 {l : Launch} {d : Nat} {Q : Option Value → mx_H → Prop} {c : Nat} {I : mx_I}
    (q1 : Q none (sk0 c, (mx_set (mx_set (mx_copy (mx_copy (mx_copy I 29 102 400) 30 103 17) 31 104 16) 101 4 (I 28 4)) 101 5 (I 28 5)))) :
    mx_Spec l mX3_copyFrom (d + 1) 0 0 [.ref 101, .ref 28] (sk0 c, I) Q := by
  refine mx_enter rfl (by simp [Value.category]) (Nat.le_of_ble_eq_true rfl) ?_
  change mx_Go l (mx_rm (d + 1) 0 0) mX3_copyFrom (mx_Z Q 0 0) 0 0 0 [.ref 101, .ref 28] [] (sk0 c, I)
  refine g_aload_n dX3_copyFrom_0 rfl rfl ?_
  refine rg_X3_0 (r := 29) dX3_copyFrom_1 lf_X3_9 (sk_28 _) rfl ?_
  refine g_iconst (v := 0) dX3_copyFrom_4 (by decide) ?_
  refine g_aload_n dX3_copyFrom_5 rfl rfl ?_
  refine rg_X3_0 (r := 102) dX3_copyFrom_6 lf_X3_9 (sk_101 _) rfl ?_
  refine g_iconst (v := 0) dX3_copyFrom_9 (by decide) ?_
  refine g_sipush (v := 400) dX3_copyFrom_10 (by decide) ?_
  refine s_copy (N := 400) dX3_copyFrom_13 lm_X3_35 (sk_29 _) (sk_102 _) (by decide) (by decide) (by decide) (by decide) (by decide) ?_
  refine g_aload_n dX3_copyFrom_16 rfl rfl ?_
  refine rg_X3_1 (r := 30) dX3_copyFrom_17 lf_X3_15 (sk_28 _) rfl ?_
  refine g_iconst (v := 0) dX3_copyFrom_20 (by decide) ?_
  refine g_aload_n dX3_copyFrom_21 rfl rfl ?_
  refine rg_X3_1 (r := 103) dX3_copyFrom_22 lf_X3_15 (sk_101 _) rfl ?_
  refine g_iconst (v := 0) dX3_copyFrom_25 (by decide) ?_
  refine g_bipush (v := 17) dX3_copyFrom_26 (by decide) ?_
  refine s_copy (N := 17) dX3_copyFrom_28 lm_X3_35 (sk_30 _) (sk_103 _) (by decide) (by decide) (by decide) (by decide) (by decide) ?_
  refine g_aload_n dX3_copyFrom_31 rfl rfl ?_
  refine rg_X3_2 (r := 31) dX3_copyFrom_32 lf_X3_18 (sk_28 _) rfl ?_
  refine g_iconst (v := 0) dX3_copyFrom_35 (by decide) ?_
  refine g_aload_n dX3_copyFrom_36 rfl rfl ?_
  refine rg_X3_2 (r := 104) dX3_copyFrom_37 lf_X3_18 (sk_101 _) rfl ?_
  refine g_iconst (v := 0) dX3_copyFrom_40 (by decide) ?_
  refine g_bipush (v := 16) dX3_copyFrom_41 (by decide) ?_
  refine s_copy (N := 16) dX3_copyFrom_43 lm_X3_35 (sk_31 _) (sk_104 _) (by decide) (by decide) (by decide) (by decide) (by decide) ?_
  refine g_aload_n dX3_copyFrom_46 rfl rfl ?_
  refine g_aload_n dX3_copyFrom_47 rfl rfl ?_
  refine rg_X3_4 (v := (I 28 4)) dX3_copyFrom_48 lf_X3_24 (sk_28 _) (rd_cp (by decide) (rd_cp (by decide) (rd_cp (by decide) rfl))) ?_
  refine rp_X3_4 dX3_copyFrom_51 lf_X3_24 (sk_101 _) ?_
  refine g_aload_n dX3_copyFrom_54 rfl rfl ?_
  refine g_aload_n dX3_copyFrom_55 rfl rfl ?_
  refine rg_X3_5 (v := (I 28 5)) dX3_copyFrom_56 lf_X3_28 (sk_28 _) (rd_ne (by decide) (rd_cp (by decide) (rd_cp (by decide) (rd_cp (by decide) rfl)))) ?_
  refine rp_X3_5 dX3_copyFrom_59 lf_X3_28 (sk_101 _) ?_
  exact g_vret rfl dX3_copyFrom_62 rfl (Nat.le_refl _) (q1)
set_option maxRecDepth 10000 in
set_option maxHeartbeats 1000000 in
theorem sn_X3_copyFrom_28_101 {l : Launch} {d : Nat} {Q : Option Value → mx_H → Prop} {c : Nat} {I : mx_I}
    (q1 : Q none (sk0 c, (mx_set (mx_set (mx_copy (mx_copy (mx_copy I 102 29 400) 103 30 17) 104 31 16) 28 4 (I 101 4)) 28 5 (I 101 5)))) :
    mx_Spec l mX3_copyFrom (d + 1) 0 0 [.ref 28, .ref 101] (sk0 c, I) Q := by
  refine mx_enter rfl (by simp [Value.category]) (Nat.le_of_ble_eq_true rfl) ?_
  change mx_Go l (mx_rm (d + 1) 0 0) mX3_copyFrom (mx_Z Q 0 0) 0 0 0 [.ref 28, .ref 101] [] (sk0 c, I)
  refine g_aload_n dX3_copyFrom_0 rfl rfl ?_
  refine rg_X3_0 (r := 102) dX3_copyFrom_1 lf_X3_9 (sk_101 _) rfl ?_
  refine g_iconst (v := 0) dX3_copyFrom_4 (by decide) ?_
  refine g_aload_n dX3_copyFrom_5 rfl rfl ?_
  refine rg_X3_0 (r := 29) dX3_copyFrom_6 lf_X3_9 (sk_28 _) rfl ?_
  refine g_iconst (v := 0) dX3_copyFrom_9 (by decide) ?_
  refine g_sipush (v := 400) dX3_copyFrom_10 (by decide) ?_
  refine s_copy (N := 400) dX3_copyFrom_13 lm_X3_35 (sk_102 _) (sk_29 _) (by decide) (by decide) (by decide) (by decide) (by decide) ?_
  refine g_aload_n dX3_copyFrom_16 rfl rfl ?_
  refine rg_X3_1 (r := 103) dX3_copyFrom_17 lf_X3_15 (sk_101 _) rfl ?_
  refine g_iconst (v := 0) dX3_copyFrom_20 (by decide) ?_
  refine g_aload_n dX3_copyFrom_21 rfl rfl ?_
  refine rg_X3_1 (r := 30) dX3_copyFrom_22 lf_X3_15 (sk_28 _) rfl ?_
  refine g_iconst (v := 0) dX3_copyFrom_25 (by decide) ?_
  refine g_bipush (v := 17) dX3_copyFrom_26 (by decide) ?_
  refine s_copy (N := 17) dX3_copyFrom_28 lm_X3_35 (sk_103 _) (sk_30 _) (by decide) (by decide) (by decide) (by decide) (by decide) ?_
  refine g_aload_n dX3_copyFrom_31 rfl rfl ?_
  refine rg_X3_2 (r := 104) dX3_copyFrom_32 lf_X3_18 (sk_101 _) rfl ?_
  refine g_iconst (v := 0) dX3_copyFrom_35 (by decide) ?_
  refine g_aload_n dX3_copyFrom_36 rfl rfl ?_
  refine rg_X3_2 (r := 31) dX3_copyFrom_37 lf_X3_18 (sk_28 _) rfl ?_
  refine g_iconst (v := 0) dX3_copyFrom_40 (by decide) ?_
  refine g_bipush (v := 16) dX3_copyFrom_41 (by decide) ?_
  refine s_copy (N := 16) dX3_copyFrom_43 lm_X3_35 (sk_104 _) (sk_31 _) (by decide) (by decide) (by decide) (by decide) (by decide) ?_
  refine g_aload_n dX3_copyFrom_46 rfl rfl ?_
  refine g_aload_n dX3_copyFrom_47 rfl rfl ?_
  refine rg_X3_4 (v := (I 101 4)) dX3_copyFrom_48 lf_X3_24 (sk_101 _) (rd_cp (by decide) (rd_cp (by decide) (rd_cp (by decide) rfl))) ?_
  refine rp_X3_4 dX3_copyFrom_51 lf_X3_24 (sk_28 _) ?_
  refine g_aload_n dX3_copyFrom_54 rfl rfl ?_
  refine g_aload_n dX3_copyFrom_55 rfl rfl ?_
  refine rg_X3_5 (v := (I 101 5)) dX3_copyFrom_56 lf_X3_28 (sk_101 _) (rd_ne (by decide) (rd_cp (by decide) (rd_cp (by decide) (rd_cp (by decide) rfl)))) ?_
  refine rp_X3_5 dX3_copyFrom_59 lf_X3_28 (sk_28 _) ?_
  exact g_vret rfl dX3_copyFrom_62 rfl (Nat.le_refl _) (q1)
