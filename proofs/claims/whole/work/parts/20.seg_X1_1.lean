set_option maxRecDepth 10000 in
set_option maxHeartbeats 1000000 in
theorem sn_X1_begin {l : Launch} {d : Nat} {Q : Option Value → mx_H → Prop} {c : Nat} {I : mx_I} (k : Nat) (hc : at9 (sk0 c) c)
    (q1 : Q none (sk0 k, (mx_set (mx_set (mx_set (mx_set (mx_set (mx_set (mx_set (mx_set (mx_set I 65 7 0) 65 8 (I 1 6)) 65 9 0) 65 10 0) 65 11 (-1)) 65 12 (-1)) 65 13 (-1)) 65 14 (-1)) 65 15 0))) :
    mx_Spec l mX1_begin (d + 1) 0 0 [.ref 65, .ref k] (sk0 c, I) Q := by
  refine mx_enter rfl (by simp [Value.category]) (Nat.le_of_ble_eq_true rfl) ?_
  change mx_Go l (mx_rm (d + 1) 0 0) mX1_begin (mx_Z Q 0 0) 0 0 0 [.ref 65, .ref k] [] (sk0 c, I)
  refine g_aload_n dX1_begin_0 rfl rfl ?_
  refine g_aload_n dX1_begin_1 rfl rfl ?_
  refine rp_X1_6 dX1_begin_2 lf_X1_33 (sk_65 _) (Nat.le_of_ble_eq_true rfl) ?_
  change mx_Go l (mx_rm (d + 1) 0 0) mX1_begin (mx_Z Q 0 0) 0 0 5 [.ref 65, .ref k] [] (sk0 k, I)
  refine g_aload_n dX1_begin_5 rfl rfl ?_
  refine g_iconst (v := 0) dX1_begin_6 (by decide) ?_
  refine rp_X1_7 (by decide) dX1_begin_7 lf_X1_37 (sk_65 _) ?_
  refine g_aload_n dX1_begin_10 rfl rfl ?_
  refine g_aload_n dX1_begin_11 rfl rfl ?_
  refine rg_X1_0 (r := 1) dX1_begin_12 lf_X1_25 (sk_65 _) rfl ?_
  refine rg_X10_6 (v := (I 1 6)) dX1_begin_15 lf_X1_41 (sk_1 _) (rd_ne (by decide) rfl) ?_
  refine rp_X1_8 dX1_begin_18 lf_X1_47 (sk_65 _) ?_
  refine g_aload_n dX1_begin_21 rfl rfl ?_
  refine g_iconst (v := 0) dX1_begin_22 (by decide) ?_
  refine rp_X1_9 dX1_begin_23 lf_X1_48 (sk_65 _) ?_
  refine g_aload_n dX1_begin_26 rfl rfl ?_
  refine g_iconst (v := 0) dX1_begin_27 (by decide) ?_
  refine rp_X1_10 dX1_begin_28 lf_X1_51 (sk_65 _) ?_
  refine g_aload_n dX1_begin_31 rfl rfl ?_
  refine g_iconst (v := (-1)) dX1_begin_32 (by decide) ?_
  refine rp_X1_11 dX1_begin_33 lf_X1_54 (sk_65 _) ?_
  refine g_aload_n dX1_begin_36 rfl rfl ?_
  refine g_iconst (v := (-1)) dX1_begin_37 (by decide) ?_
  refine rp_X1_12 dX1_begin_38 lf_X1_57 (sk_65 _) ?_
  refine g_aload_n dX1_begin_41 rfl rfl ?_
  refine g_iconst (v := (-1)) dX1_begin_42 (by decide) ?_
  refine rp_X1_13 dX1_begin_43 lf_X1_60 (sk_65 _) ?_
  refine g_aload_n dX1_begin_46 rfl rfl ?_
  refine g_iconst (v := (-1)) dX1_begin_47 (by decide) ?_
  refine rp_X1_14 dX1_begin_48 lf_X1_63 (sk_65 _) ?_
  refine g_aload_n dX1_begin_51 rfl rfl ?_
  refine g_iconst (v := 0) dX1_begin_52 (by decide) ?_
  refine rp_X1_15 dX1_begin_53 lf_X1_66 (sk_65 _) ?_
  exact g_vret rfl dX1_begin_56 rfl (Nat.le_refl _) (q1)
set_option maxRecDepth 10000 in
set_option maxHeartbeats 1000000 in
theorem sn_X1_watch {l : Launch} {d : Nat} {Q : Option Value → mx_H → Prop} {c : Nat} {I : mx_I} (a1 : Int32) (a2 : Int32) (hc : at9 (sk0 c) c)
    (q1 : Q none (sk0 c, (mx_set (mx_set I 65 11 a1) 65 12 a2))) :
    mx_Spec l mX1_watch (d + 1) 0 0 [.ref 65, .int a1, .int a2] (sk0 c, I) Q := by
  refine mx_enter rfl (by simp [Value.category]) (Nat.le_of_ble_eq_true rfl) ?_
  change mx_Go l (mx_rm (d + 1) 0 0) mX1_watch (mx_Z Q 0 0) 0 0 0 [.ref 65, .int a1, .int a2] [] (sk0 c, I)
  refine g_aload_n dX1_watch_0 rfl rfl ?_
  refine g_iload_n dX1_watch_1 rfl rfl ?_
  refine rp_X1_11 dX1_watch_2 lf_X1_54 (sk_65 _) ?_
  refine g_aload_n dX1_watch_5 rfl rfl ?_
  refine g_iload_n dX1_watch_6 rfl rfl ?_
  refine rp_X1_12 dX1_watch_7 lf_X1_57 (sk_65 _) ?_
  exact g_vret rfl dX1_watch_10 rfl (Nat.le_refl _) (q1)
set_option maxRecDepth 10000 in
set_option maxHeartbeats 1000000 in
theorem sn_X1_goOn {l : Launch} {d : Nat} {Q : Option Value → mx_H → Prop} {c : Nat} {I : mx_I} (a1 : Int32) (hc : at9 (sk0 c) c)
    (e1 : mx_Go l (mx_rm (d + 1) 0 0) mX1_goOn (mx_Z Q 0 0) 0 0 8 [.ref 65, .int a1, .int (I c 9)] [] (sk0 c, I)) :
    mx_Spec l mX1_goOn (d + 1) 0 0 [.ref 65, .int a1] (sk0 c, I) Q := by
  refine mx_enter rfl (by simp [Value.category]) (Nat.le_of_ble_eq_true rfl) ?_
  change mx_Go l (mx_rm (d + 1) 0 0) mX1_goOn (mx_Z Q 0 0) 0 0 0 [.ref 65, .int a1, .retAddr 0] [] (sk0 c, I)
  refine g_aload_n dX1_goOn_0 rfl rfl ?_
  refine rg_X1_6 (r := c) dX1_goOn_1 lf_X1_33 (sk_65 _) rfl ?_
  refine rg_X9_9 (v := (I c 9)) dX1_goOn_4 lf_X1_69 hc.1 rfl ?_
  refine s_istore_n (L' := [.ref 65, .int a1, .int (I c 9)]) dX1_goOn_7 rfl (by decide) rfl rfl ?_
  exact e1
set_option maxRecDepth 10000 in
set_option maxHeartbeats 1000000 in
theorem sg_X1_goOn_8 {l : Launch} {d : Nat} {Q : Option Value → mx_H → Prop} {c : Nat} {I : mx_I} (hc : at9 (sk0 c) c) (x1 : Int32) (x2 : Int32)
    (q1 : (x1 < x2) → Q none (sk0 c, I))
    (q2 : (¬ x1 < x2) → (168 ≤ x2) → Q none (sk0 c, I))
    (q3 : (¬ x1 < x2) → (¬ 168 ≤ x2) → (¬ (I 65 13) = (-1)) → Q none (sk0 c, I))
    (k4 : (¬ x1 < x2) → (¬ 168 ≤ x2) → ((I 65 13) = (-1)) → mx_K1 l mX1_pass d [.ref 65, .int x2] (sk0 c, I) (fun r h' => mx_Go l (mx_rm (d + 1) 0 0) mX1_goOn (mx_Z Q 0 0) 0 0 33 [.ref 65, .int x1, .int x2] (r.toList ++ []) h')) :
    mx_Go l (mx_rm (d + 1) 0 0) mX1_goOn (mx_Z Q 0 0) 0 0 8 [.ref 65, .int x1, .int x2] [] (sk0 c, I) := by
  refine g_iload_n dX1_goOn_8 rfl rfl ?_
  refine g_iload_n dX1_goOn_9 rfl rfl ?_
  refine g_icmp_gt (tgt := 49) dX1_goOn_10 (by decide) (fun c1 => ?_) (fun c2 => ?_)
  · skip
    exact g_vret rfl dX1_goOn_49 rfl (Nat.le_refl _) (q1 c1)
  · skip
    refine g_iload_n dX1_goOn_13 rfl rfl ?_
    refine g_sipush (v := 168) dX1_goOn_14 (by decide) ?_
    refine g_icmp_ge (tgt := 49) dX1_goOn_17 (by decide) (fun c3 => ?_) (fun c4 => ?_)
    · skip
      exact g_vret rfl dX1_goOn_49 rfl (Nat.le_refl _) (q2 c2 c3)
    · skip
      refine g_aload_n dX1_goOn_20 rfl rfl ?_
      refine rg_X1_13 (v := (I 65 13)) dX1_goOn_21 lf_X1_60 (sk_65 _) rfl ?_
      refine g_iconst (v := (-1)) dX1_goOn_24 (by decide) ?_
      refine g_icmp_ne (tgt := 49) dX1_goOn_25 (by decide) (fun c5 => ?_) (fun c6 => ?_)
      · skip
        exact g_vret rfl dX1_goOn_49 rfl (Nat.le_refl _) (q3 c2 c4 c5)
      · skip
        refine g_aload_n dX1_goOn_28 rfl rfl ?_
        refine g_iload_n dX1_goOn_29 rfl rfl ?_
        exact s_callV (M' := mX1_pass) (As := [.int x2]) (st := []) dX1_goOn_30 lm_X1_74 ovX1_pass (h := (sk0 c, I)) (sk_65 _) (show vwCl[1]? = some _ from rfl) rfl (by simp [Value.category]) (by decide) rfl (k4 c2 c4 c6)
set_option maxRecDepth 10000 in
set_option maxHeartbeats 1000000 in
theorem sg_X1_goOn_33 {l : Launch} {d : Nat} {Q : Option Value → mx_H → Prop} {c : Nat} {I : mx_I} (hc : at9 (sk0 c) c) (x1 : Int32) (x2 : Int32)
    (e1 : mx_Go l (mx_rm (d + 1) 0 0) mX1_goOn (mx_Z Q 0 0) 0 0 8 [.ref 65, .int x1, .int (x2 + 1)] [] (sk0 c, (mx_set I c 9 (x2 + 1)))) :
    mx_Go l (mx_rm (d + 1) 0 0) mX1_goOn (mx_Z Q 0 0) 0 0 33 [.ref 65, .int x1, .int x2] [] (sk0 c, I) := by
  refine g_aload_n dX1_goOn_33 rfl rfl ?_
  refine rg_X1_6 (r := c) dX1_goOn_34 lf_X1_33 (sk_65 _) rfl ?_
  refine g_iload_n dX1_goOn_37 rfl rfl ?_
  refine g_iconst (v := 1) dX1_goOn_38 (by decide) ?_
  refine g_iadd dX1_goOn_39 ?_
  refine rp_X9_9 dX1_goOn_40 lf_X1_69 hc.1 ?_
  refine s_iinc (v := (x2 + 1)) (L' := [.ref 65, .int x1, .int (x2 + 1)]) dX1_goOn_43 rfl (by decide) rfl rfl rfl ?_
  refine g_goto (tgt := 8) dX1_goOn_46 (by decide) ?_
  exact e1
set_option maxRecDepth 10000 in
set_option maxHeartbeats 1000000 in
theorem sn_X1_pass {l : Launch} {d : Nat} {Q : Option Value → mx_H → Prop} {c : Nat} {I : mx_I} (a1 : Int32) (hc : at9 (sk0 c) c)
    (b1 : vp_in a1 168)
    (b2 : ((I 67 a1.toNatClampNeg) = 0) → vp_in a1 168)
    (b3 : ((I 67 a1.toNatClampNeg) = 0) → ((I 68 a1.toNatClampNeg) = 0) → vp_in a1 168)
    (e4 : ((I 67 a1.toNatClampNeg) = 0) → ((I 68 a1.toNatClampNeg) = 0) → mx_Go l (mx_rm (d + 1) 0 0) mX1_pass (mx_Z Q 0 0) 0 0 70 [.ref 65, .int a1, .int ((I 69 a1.toNatClampNeg) &&& ((I 65 10) ^^^ (-1))), .int 0, .retAddr 0, .retAddr 0, .retAddr 0] [] (sk0 c, I))
    (b5 : ((I 67 a1.toNatClampNeg) = 0) → (¬ (I 68 a1.toNatClampNeg) = 0) → vp_in a1 168)
    (k6 : ((I 67 a1.toNatClampNeg) = 0) → (¬ (I 68 a1.toNatClampNeg) = 0) → mx_K1 l mX1_fetchOff d [.ref 65, .int (I 68 a1.toNatClampNeg)] (sk0 c, I) (fun r h' => mx_Go l (mx_rm (d + 1) 0 0) mX1_pass (mx_Z Q 0 0) 0 0 51 [.ref 65, .int a1, .retAddr 0, .retAddr 0, .retAddr 0, .retAddr 0, .retAddr 0] (r.toList ++ []) h'))
    (b7 : (¬ (I 67 a1.toNatClampNeg) = 0) → vp_in a1 168)
    (k8 : (¬ (I 67 a1.toNatClampNeg) = 0) → mx_K1 l mX1_bring d [.ref 65, .int (I 67 a1.toNatClampNeg), .int a1] (sk0 c, I) (fun r h' => mx_Go l (mx_rm (d + 1) 0 0) mX1_pass (mx_Z Q 0 0) 0 0 26 [.ref 65, .int a1, .retAddr 0, .retAddr 0, .retAddr 0, .retAddr 0, .retAddr 0] (r.toList ++ []) h')) :
    mx_Spec l mX1_pass (d + 1) 0 0 [.ref 65, .int a1] (sk0 c, I) Q := by
  refine mx_enter rfl (by simp [Value.category]) (Nat.le_of_ble_eq_true rfl) ?_
  change mx_Go l (mx_rm (d + 1) 0 0) mX1_pass (mx_Z Q 0 0) 0 0 0 [.ref 65, .int a1, .retAddr 0, .retAddr 0, .retAddr 0, .retAddr 0, .retAddr 0] [] (sk0 c, I)
  refine g_aload_n dX1_pass_0 rfl rfl ?_
  refine rg_X1_2 (r := 66) dX1_pass_1 lf_X1_12 (sk_65 _) rfl ?_
  refine rg_X7_0 (r := 67) dX1_pass_4 lf_X1_78 (sk_66 _) rfl ?_
  refine g_iload_n dX1_pass_7 rfl rfl ?_
  refine s_iald (j := a1.toNatClampNeg) (v := (I 67 a1.toNatClampNeg)) dX1_pass_8 (sk_67 _) (b1) rfl rfl ?_
  refine g_if_eq (tgt := 26) dX1_pass_9 (by decide) (fun c1 => ?_) (fun c2 => ?_)
  · skip
    refine g_aload_n dX1_pass_26 rfl rfl ?_
    refine rg_X1_2 (r := 66) dX1_pass_27 lf_X1_12 (sk_65 _) rfl ?_
    refine rg_X7_1 (r := 68) dX1_pass_30 lf_X1_85 (sk_66 _) rfl ?_
    refine g_iload_n dX1_pass_33 rfl rfl ?_
    refine s_iald (j := a1.toNatClampNeg) (v := (I 68 a1.toNatClampNeg)) dX1_pass_34 (sk_68 _) (b2 c1) rfl rfl ?_
    refine g_if_eq (tgt := 51) dX1_pass_35 (by decide) (fun c3 => ?_) (fun c4 => ?_)
    · skip
      refine g_aload_n dX1_pass_51 rfl rfl ?_
      refine rg_X1_2 (r := 66) dX1_pass_52 lf_X1_12 (sk_65 _) rfl ?_
      refine rg_X7_2 (r := 69) dX1_pass_55 lf_X1_91 (sk_66 _) rfl ?_
      refine g_iload_n dX1_pass_58 rfl rfl ?_
      refine s_iald (j := a1.toNatClampNeg) (v := (I 69 a1.toNatClampNeg)) dX1_pass_59 (sk_69 _) (b3 c1 c3) rfl rfl ?_
      refine g_aload_n dX1_pass_60 rfl rfl ?_
      refine rg_X1_10 (v := (I 65 10)) dX1_pass_61 lf_X1_51 (sk_65 _) rfl ?_
      refine g_iconst (v := (-1)) dX1_pass_64 (by decide) ?_
      refine g_ixor dX1_pass_65 ?_
      refine g_iand dX1_pass_66 ?_
      refine s_istore_n (L' := [.ref 65, .int a1, .int ((I 69 a1.toNatClampNeg) &&& ((I 65 10) ^^^ (-1))), .retAddr 0, .retAddr 0, .retAddr 0, .retAddr 0]) dX1_pass_67 rfl (by decide) rfl rfl ?_
      refine g_iconst (v := 0) dX1_pass_68 (by decide) ?_
      refine s_istore_n (L' := [.ref 65, .int a1, .int ((I 69 a1.toNatClampNeg) &&& ((I 65 10) ^^^ (-1))), .int 0, .retAddr 0, .retAddr 0, .retAddr 0]) dX1_pass_69 rfl (by decide) rfl rfl ?_
      exact e4 c1 c3
    · skip
      refine g_aload_n dX1_pass_38 rfl rfl ?_
      refine g_aload_n dX1_pass_39 rfl rfl ?_
      refine rg_X1_2 (r := 66) dX1_pass_40 lf_X1_12 (sk_65 _) rfl ?_
      refine rg_X7_1 (r := 68) dX1_pass_43 lf_X1_85 (sk_66 _) rfl ?_
      refine g_iload_n dX1_pass_46 rfl rfl ?_
      refine s_iald (j := a1.toNatClampNeg) (v := (I 68 a1.toNatClampNeg)) dX1_pass_47 (sk_68 _) (b5 c1 c4) rfl rfl ?_
      exact s_callV (M' := mX1_fetchOff) (As := [.int (I 68 a1.toNatClampNeg)]) (st := []) dX1_pass_48 lm_X1_88 ovX1_fetchOff (h := (sk0 c, I)) (sk_65 _) (show vwCl[1]? = some _ from rfl) rfl (by simp [Value.category]) (by decide) rfl (k6 c1 c4)
  · skip
    refine g_aload_n dX1_pass_12 rfl rfl ?_
    refine g_aload_n dX1_pass_13 rfl rfl ?_
    refine rg_X1_2 (r := 66) dX1_pass_14 lf_X1_12 (sk_65 _) rfl ?_
    refine rg_X7_0 (r := 67) dX1_pass_17 lf_X1_78 (sk_66 _) rfl ?_
    refine g_iload_n dX1_pass_20 rfl rfl ?_
    refine s_iald (j := a1.toNatClampNeg) (v := (I 67 a1.toNatClampNeg)) dX1_pass_21 (sk_67 _) (b7 c2) rfl rfl ?_
    refine g_iload_n dX1_pass_22 rfl rfl ?_
    exact s_callV (M' := mX1_bring) (As := [.int (I 67 a1.toNatClampNeg), .int a1]) (st := []) dX1_pass_23 lm_X1_81 ovX1_bring (h := (sk0 c, I)) (sk_65 _) (show vwCl[1]? = some _ from rfl) rfl (by simp [Value.category]) (by decide) rfl (k8 c2)
set_option maxRecDepth 10000 in
set_option maxHeartbeats 1000000 in
theorem sg_X1_pass_70 {l : Launch} {d : Nat} {Q : Option Value → mx_H → Prop} {c : Nat} {I : mx_I} (hc : at9 (sk0 c) c) (x1 : Int32) (x2 : Int32) (x3 : Int32)
    (b1 : (x2 = 0) → vp_in x1 168)
    (e2 : (x2 = 0) → mx_Go l (mx_rm (d + 1) 0 0) mX1_pass (mx_Z Q 0 0) 0 0 137 [.ref 65, .int x1, .int x2, .int ((I 70 x1.toNatClampNeg) &&& (I 65 9)), .int 0, .retAddr 0, .retAddr 0] [] (sk0 c, I))
    (b3 : (¬ x2 = 0) → ((I 8 9) ≤ x3) → vp_in x1 168)
    (e4 : (¬ x2 = 0) → ((I 8 9) ≤ x3) → mx_Go l (mx_rm (d + 1) 0 0) mX1_pass (mx_Z Q 0 0) 0 0 137 [.ref 65, .int x1, .int x2, .int ((I 70 x1.toNatClampNeg) &&& (I 65 9)), .int 0, .retAddr 0, .retAddr 0] [] (sk0 c, I))
    (e5 : (¬ x2 = 0) → (¬ (I 8 9) ≤ x3) → (¬ ((x2 >>> (x3 &&& 31)) &&& 1) = 1) → mx_Go l (mx_rm (d + 1) 0 0) mX1_pass (mx_Z Q 0 0) 0 0 70 [.ref 65, .int x1, .int x2, .int (x3 + 1), .retAddr 0, .retAddr 0, .retAddr 0] [] (sk0 c, I))
    (k6 : (¬ x2 = 0) → (¬ (I 8 9) ≤ x3) → (((x2 >>> (x3 &&& 31)) &&& 1) = 1) → mx_K1 l mX1_isToGo d [.ref 65, .int x3, .int x1] (sk0 c, I) (fun r h' => mx_Go l (mx_rm (d + 1) 0 0) mX1_pass (mx_Z Q 0 0) 0 0 103 [.ref 65, .int x1, .int x2, .int x3, .retAddr 0, .retAddr 0, .retAddr 0] (r.toList ++ []) h')) :
    mx_Go l (mx_rm (d + 1) 0 0) mX1_pass (mx_Z Q 0 0) 0 0 70 [.ref 65, .int x1, .int x2, .int x3, .retAddr 0, .retAddr 0, .retAddr 0] [] (sk0 c, I) := by
  refine g_iload_n dX1_pass_70 rfl rfl ?_
  refine g_if_eq (tgt := 119) dX1_pass_71 (by decide) (fun c1 => ?_) (fun c2 => ?_)
  · skip
    refine g_aload_n dX1_pass_119 rfl rfl ?_
    refine rg_X1_2 (r := 66) dX1_pass_120 lf_X1_12 (sk_65 _) rfl ?_
    refine rg_X7_3 (r := 70) dX1_pass_123 lf_X1_111 (sk_66 _) rfl ?_
    refine g_iload_n dX1_pass_126 rfl rfl ?_
    refine s_iald (j := x1.toNatClampNeg) (v := (I 70 x1.toNatClampNeg)) dX1_pass_127 (sk_70 _) (b1 c1) rfl rfl ?_
    refine g_aload_n dX1_pass_128 rfl rfl ?_
    refine rg_X1_9 (v := (I 65 9)) dX1_pass_129 lf_X1_48 (sk_65 _) rfl ?_
    refine g_iand dX1_pass_132 ?_
    refine s_istore_n (L' := [.ref 65, .int x1, .int x2, .int ((I 70 x1.toNatClampNeg) &&& (I 65 9)), .retAddr 0, .retAddr 0, .retAddr 0]) dX1_pass_133 rfl (by decide) rfl rfl ?_
    refine g_iconst (v := 0) dX1_pass_134 (by decide) ?_
    refine s_istore (L' := [.ref 65, .int x1, .int x2, .int ((I 70 x1.toNatClampNeg) &&& (I 65 9)), .int 0, .retAddr 0, .retAddr 0]) dX1_pass_135 (by decide) rfl rfl ?_
    exact e2 c1
  · skip
    refine g_iload_n dX1_pass_74 rfl rfl ?_
    refine g_aload_n dX1_pass_75 rfl rfl ?_
    refine rg_X1_0 (r := 1) dX1_pass_76 lf_X1_25 (sk_65 _) rfl ?_
    refine rg_X10_1 (r := 8) dX1_pass_79 lf_X1_94 (sk_1 _) rfl ?_
    refine rg_X2_9 (v := (I 8 9)) dX1_pass_82 lf_X1_98 (sk_8 _) rfl ?_
    refine g_icmp_ge (tgt := 119) dX1_pass_85 (by decide) (fun c3 => ?_) (fun c4 => ?_)
    · skip
      refine g_aload_n dX1_pass_119 rfl rfl ?_
      refine rg_X1_2 (r := 66) dX1_pass_120 lf_X1_12 (sk_65 _) rfl ?_
      refine rg_X7_3 (r := 70) dX1_pass_123 lf_X1_111 (sk_66 _) rfl ?_
      refine g_iload_n dX1_pass_126 rfl rfl ?_
      refine s_iald (j := x1.toNatClampNeg) (v := (I 70 x1.toNatClampNeg)) dX1_pass_127 (sk_70 _) (b3 c2 c3) rfl rfl ?_
      refine g_aload_n dX1_pass_128 rfl rfl ?_
      refine rg_X1_9 (v := (I 65 9)) dX1_pass_129 lf_X1_48 (sk_65 _) rfl ?_
      refine g_iand dX1_pass_132 ?_
      refine s_istore_n (L' := [.ref 65, .int x1, .int x2, .int ((I 70 x1.toNatClampNeg) &&& (I 65 9)), .retAddr 0, .retAddr 0, .retAddr 0]) dX1_pass_133 rfl (by decide) rfl rfl ?_
      refine g_iconst (v := 0) dX1_pass_134 (by decide) ?_
      refine s_istore (L' := [.ref 65, .int x1, .int x2, .int ((I 70 x1.toNatClampNeg) &&& (I 65 9)), .int 0, .retAddr 0, .retAddr 0]) dX1_pass_135 (by decide) rfl rfl ?_
      exact e4 c2 c3
    · skip
      refine g_iload_n dX1_pass_88 rfl rfl ?_
      refine g_iload_n dX1_pass_89 rfl rfl ?_
      refine g_ishr dX1_pass_90 ?_
      refine g_iconst (v := 1) dX1_pass_91 (by decide) ?_
      refine g_iand dX1_pass_92 ?_
      refine g_iconst (v := 1) dX1_pass_93 (by decide) ?_
      refine g_icmp_ne (tgt := 113) dX1_pass_94 (by decide) (fun c5 => ?_) (fun c6 => ?_)
      · skip
        refine s_iinc (v := (x3 + 1)) (L' := [.ref 65, .int x1, .int x2, .int (x3 + 1), .retAddr 0, .retAddr 0, .retAddr 0]) dX1_pass_113 rfl (by decide) rfl rfl rfl ?_
        refine g_goto (tgt := 70) dX1_pass_116 (by decide) ?_
        exact e5 c2 c4 c5
      · skip
        refine g_aload_n dX1_pass_97 rfl rfl ?_
        refine g_iload_n dX1_pass_98 rfl rfl ?_
        refine g_iload_n dX1_pass_99 rfl rfl ?_
        exact s_callV (M' := mX1_isToGo) (As := [.int x3, .int x1]) (st := []) dX1_pass_100 lm_X1_103 ovX1_isToGo (h := (sk0 c, I)) (sk_65 _) (show vwCl[1]? = some _ from rfl) rfl (by simp [Value.category]) (by decide) rfl (k6 c2 c4 c6)
set_option maxRecDepth 10000 in
set_option maxHeartbeats 1000000 in
theorem sg_X1_pass_51 {l : Launch} {d : Nat} {Q : Option Value → mx_H → Prop} {c : Nat} {I : mx_I} (hc : at9 (sk0 c) c) (x1 : Int32)
    (b1 : vp_in x1 168)
    (e2 : mx_Go l (mx_rm (d + 1) 0 0) mX1_pass (mx_Z Q 0 0) 0 0 70 [.ref 65, .int x1, .int ((I 69 x1.toNatClampNeg) &&& ((I 65 10) ^^^ (-1))), .int 0, .retAddr 0, .retAddr 0, .retAddr 0] [] (sk0 c, I)) :
    mx_Go l (mx_rm (d + 1) 0 0) mX1_pass (mx_Z Q 0 0) 0 0 51 [.ref 65, .int x1, .retAddr 0, .retAddr 0, .retAddr 0, .retAddr 0, .retAddr 0] [] (sk0 c, I) := by
  refine g_aload_n dX1_pass_51 rfl rfl ?_
  refine rg_X1_2 (r := 66) dX1_pass_52 lf_X1_12 (sk_65 _) rfl ?_
  refine rg_X7_2 (r := 69) dX1_pass_55 lf_X1_91 (sk_66 _) rfl ?_
  refine g_iload_n dX1_pass_58 rfl rfl ?_
  refine s_iald (j := x1.toNatClampNeg) (v := (I 69 x1.toNatClampNeg)) dX1_pass_59 (sk_69 _) (b1) rfl rfl ?_
  refine g_aload_n dX1_pass_60 rfl rfl ?_
  refine rg_X1_10 (v := (I 65 10)) dX1_pass_61 lf_X1_51 (sk_65 _) rfl ?_
  refine g_iconst (v := (-1)) dX1_pass_64 (by decide) ?_
  refine g_ixor dX1_pass_65 ?_
  refine g_iand dX1_pass_66 ?_
  refine s_istore_n (L' := [.ref 65, .int x1, .int ((I 69 x1.toNatClampNeg) &&& ((I 65 10) ^^^ (-1))), .retAddr 0, .retAddr 0, .retAddr 0, .retAddr 0]) dX1_pass_67 rfl (by decide) rfl rfl ?_
  refine g_iconst (v := 0) dX1_pass_68 (by decide) ?_
  refine s_istore_n (L' := [.ref 65, .int x1, .int ((I 69 x1.toNatClampNeg) &&& ((I 65 10) ^^^ (-1))), .int 0, .retAddr 0, .retAddr 0, .retAddr 0]) dX1_pass_69 rfl (by decide) rfl rfl ?_
  exact e2
set_option maxRecDepth 10000 in
set_option maxHeartbeats 1000000 in
theorem sg_X1_pass_26 {l : Launch} {d : Nat} {Q : Option Value → mx_H → Prop} {c : Nat} {I : mx_I} (hc : at9 (sk0 c) c) (x1 : Int32)
    (b1 : vp_in x1 168)
    (b2 : ((I 68 x1.toNatClampNeg) = 0) → vp_in x1 168)
    (e3 : ((I 68 x1.toNatClampNeg) = 0) → mx_Go l (mx_rm (d + 1) 0 0) mX1_pass (mx_Z Q 0 0) 0 0 70 [.ref 65, .int x1, .int ((I 69 x1.toNatClampNeg) &&& ((I 65 10) ^^^ (-1))), .int 0, .retAddr 0, .retAddr 0, .retAddr 0] [] (sk0 c, I))
    (b4 : (¬ (I 68 x1.toNatClampNeg) = 0) → vp_in x1 168)
    (k5 : (¬ (I 68 x1.toNatClampNeg) = 0) → mx_K1 l mX1_fetchOff d [.ref 65, .int (I 68 x1.toNatClampNeg)] (sk0 c, I) (fun r h' => mx_Go l (mx_rm (d + 1) 0 0) mX1_pass (mx_Z Q 0 0) 0 0 51 [.ref 65, .int x1, .retAddr 0, .retAddr 0, .retAddr 0, .retAddr 0, .retAddr 0] (r.toList ++ []) h')) :
    mx_Go l (mx_rm (d + 1) 0 0) mX1_pass (mx_Z Q 0 0) 0 0 26 [.ref 65, .int x1, .retAddr 0, .retAddr 0, .retAddr 0, .retAddr 0, .retAddr 0] [] (sk0 c, I) := by
  refine g_aload_n dX1_pass_26 rfl rfl ?_
  refine rg_X1_2 (r := 66) dX1_pass_27 lf_X1_12 (sk_65 _) rfl ?_
  refine rg_X7_1 (r := 68) dX1_pass_30 lf_X1_85 (sk_66 _) rfl ?_
  refine g_iload_n dX1_pass_33 rfl rfl ?_
  refine s_iald (j := x1.toNatClampNeg) (v := (I 68 x1.toNatClampNeg)) dX1_pass_34 (sk_68 _) (b1) rfl rfl ?_
  refine g_if_eq (tgt := 51) dX1_pass_35 (by decide) (fun c1 => ?_) (fun c2 => ?_)
  · skip
    refine g_aload_n dX1_pass_51 rfl rfl ?_
    refine rg_X1_2 (r := 66) dX1_pass_52 lf_X1_12 (sk_65 _) rfl ?_
    refine rg_X7_2 (r := 69) dX1_pass_55 lf_X1_91 (sk_66 _) rfl ?_
    refine g_iload_n dX1_pass_58 rfl rfl ?_
    refine s_iald (j := x1.toNatClampNeg) (v := (I 69 x1.toNatClampNeg)) dX1_pass_59 (sk_69 _) (b2 c1) rfl rfl ?_
    refine g_aload_n dX1_pass_60 rfl rfl ?_
    refine rg_X1_10 (v := (I 65 10)) dX1_pass_61 lf_X1_51 (sk_65 _) rfl ?_
    refine g_iconst (v := (-1)) dX1_pass_64 (by decide) ?_
    refine g_ixor dX1_pass_65 ?_
    refine g_iand dX1_pass_66 ?_
    refine s_istore_n (L' := [.ref 65, .int x1, .int ((I 69 x1.toNatClampNeg) &&& ((I 65 10) ^^^ (-1))), .retAddr 0, .retAddr 0, .retAddr 0, .retAddr 0]) dX1_pass_67 rfl (by decide) rfl rfl ?_
    refine g_iconst (v := 0) dX1_pass_68 (by decide) ?_
    refine s_istore_n (L' := [.ref 65, .int x1, .int ((I 69 x1.toNatClampNeg) &&& ((I 65 10) ^^^ (-1))), .int 0, .retAddr 0, .retAddr 0, .retAddr 0]) dX1_pass_69 rfl (by decide) rfl rfl ?_
    exact e3 c1
  · skip
    refine g_aload_n dX1_pass_38 rfl rfl ?_
    refine g_aload_n dX1_pass_39 rfl rfl ?_
    refine rg_X1_2 (r := 66) dX1_pass_40 lf_X1_12 (sk_65 _) rfl ?_
    refine rg_X7_1 (r := 68) dX1_pass_43 lf_X1_85 (sk_66 _) rfl ?_
    refine g_iload_n dX1_pass_46 rfl rfl ?_
    refine s_iald (j := x1.toNatClampNeg) (v := (I 68 x1.toNatClampNeg)) dX1_pass_47 (sk_68 _) (b4 c2) rfl rfl ?_
    exact s_callV (M' := mX1_fetchOff) (As := [.int (I 68 x1.toNatClampNeg)]) (st := []) dX1_pass_48 lm_X1_88 ovX1_fetchOff (h := (sk0 c, I)) (sk_65 _) (show vwCl[1]? = some _ from rfl) rfl (by simp [Value.category]) (by decide) rfl (k5 c2)
set_option maxRecDepth 10000 in
set_option maxHeartbeats 1000000 in
theorem sg_X1_pass_137 {l : Launch} {d : Nat} {Q : Option Value → mx_H → Prop} {c : Nat} {I : mx_I} (hc : at9 (sk0 c) c) (x1 : Int32) (x2 : Int32) (x3 : Int32) (x4 : Int32)
    (q1 : (x3 = 0) → Q none (sk0 c, I))
    (q2 : (¬ x3 = 0) → ((I 18 5) ≤ x4) → Q none (sk0 c, I))
    (e3 : (¬ x3 = 0) → (¬ (I 18 5) ≤ x4) → (¬ ((x3 >>> (x4 &&& 31)) &&& 1) = 1) → mx_Go l (mx_rm (d + 1) 0 0) mX1_pass (mx_Z Q 0 0) 0 0 137 [.ref 65, .int x1, .int x2, .int x3, .int (x4 + 1), .retAddr 0, .retAddr 0] [] (sk0 c, I))
    (b4 : (¬ x3 = 0) → (¬ (I 18 5) ≤ x4) → (((x3 >>> (x4 &&& 31)) &&& 1) = 1) → vp_in x4 8)
    (b5 : (¬ x3 = 0) → (¬ (I 18 5) ≤ x4) → (((x3 >>> (x4 &&& 31)) &&& 1) = 1) → vp_in x4 8)
    (b6 : (¬ x3 = 0) → (¬ (I 18 5) ≤ x4) → (((x3 >>> (x4 &&& 31)) &&& 1) = 1) → vp_in x4 8)
    (b7 : (¬ x3 = 0) → (¬ (I 18 5) ≤ x4) → (((x3 >>> (x4 &&& 31)) &&& 1) = 1) → vp_in x4 8)
    (b8 : (¬ x3 = 0) → (¬ (I 18 5) ≤ x4) → (((x3 >>> (x4 &&& 31)) &&& 1) = 1) → vp_in x4 8)
    (k9 : (¬ x3 = 0) → (¬ (I 18 5) ≤ x4) → (((x3 >>> (x4 &&& 31)) &&& 1) = 1) → mx_K1 l mX1_choose d [.ref 65, .int ((I 20 x4.toNatClampNeg) + (I 21 x4.toNatClampNeg)), .int (I 22 x4.toNatClampNeg), .int 0, .int x1] (sk0 c, I) (fun r h' => mx_Go l (mx_rm (d + 1) 0 0) mX1_pass (mx_Z Q 0 0) 0 0 247 [.ref 65, .int x1, .int x2, .int x3, .int x4, .int ((I 20 x4.toNatClampNeg) + (I 21 x4.toNatClampNeg)), .int (((I 20 x4.toNatClampNeg) + 1) - (I 21 x4.toNatClampNeg))] (r.toList ++ []) h')) :
    mx_Go l (mx_rm (d + 1) 0 0) mX1_pass (mx_Z Q 0 0) 0 0 137 [.ref 65, .int x1, .int x2, .int x3, .int x4, .retAddr 0, .retAddr 0] [] (sk0 c, I) := by
  refine g_iload_n dX1_pass_137 rfl rfl ?_
  refine g_if_eq (tgt := 264) dX1_pass_138 (by decide) (fun c1 => ?_) (fun c2 => ?_)
  · skip
    exact g_vret rfl dX1_pass_264 rfl (Nat.le_refl _) (q1 c1)
  · skip
    refine g_iload dX1_pass_141 rfl ?_
    refine g_aload_n dX1_pass_143 rfl rfl ?_
    refine rg_X1_0 (r := 1) dX1_pass_144 lf_X1_25 (sk_65 _) rfl ?_
    refine rg_X10_2 (r := 18) dX1_pass_147 lf_X1_114 (sk_1 _) rfl ?_
    refine rg_X6_5 (v := (I 18 5)) dX1_pass_150 lf_X1_118 (sk_18 _) rfl ?_
    refine g_icmp_ge (tgt := 264) dX1_pass_153 (by decide) (fun c3 => ?_) (fun c4 => ?_)
    · skip
      exact g_vret rfl dX1_pass_264 rfl (Nat.le_refl _) (q2 c2 c3)
    · skip
      refine g_iload_n dX1_pass_156 rfl rfl ?_
      refine g_iload dX1_pass_157 rfl ?_
      refine g_ishr dX1_pass_159 ?_
      refine g_iconst (v := 1) dX1_pass_160 (by decide) ?_
      refine g_iand dX1_pass_161 ?_
      refine g_iconst (v := 1) dX1_pass_162 (by decide) ?_
      refine g_icmp_ne (tgt := 258) dX1_pass_163 (by decide) (fun c5 => ?_) (fun c6 => ?_)
      · skip
        refine s_iinc (v := (x4 + 1)) (L' := [.ref 65, .int x1, .int x2, .int x3, .int (x4 + 1), .retAddr 0, .retAddr 0]) dX1_pass_258 rfl (by decide) rfl rfl rfl ?_
        refine g_goto (tgt := 137) dX1_pass_261 (by decide) ?_
        exact e3 c2 c4 c5
      · skip
        refine g_aload_n dX1_pass_166 rfl rfl ?_
        refine rg_X1_0 (r := 1) dX1_pass_167 lf_X1_25 (sk_65 _) rfl ?_
        refine rg_X10_2 (r := 18) dX1_pass_170 lf_X1_114 (sk_1 _) rfl ?_
        refine rg_X6_1 (r := 20) dX1_pass_173 lf_X1_121 (sk_18 _) rfl ?_
        refine g_iload dX1_pass_176 rfl ?_
        refine s_iald (j := x4.toNatClampNeg) (v := (I 20 x4.toNatClampNeg)) dX1_pass_178 (sk_20 _) (b4 c2 c4 c6) rfl rfl ?_
        refine g_aload_n dX1_pass_179 rfl rfl ?_
        refine rg_X1_0 (r := 1) dX1_pass_180 lf_X1_25 (sk_65 _) rfl ?_
        refine rg_X10_2 (r := 18) dX1_pass_183 lf_X1_114 (sk_1 _) rfl ?_
        refine rg_X6_2 (r := 21) dX1_pass_186 lf_X1_124 (sk_18 _) rfl ?_
        refine g_iload dX1_pass_189 rfl ?_
        refine s_iald (j := x4.toNatClampNeg) (v := (I 21 x4.toNatClampNeg)) dX1_pass_191 (sk_21 _) (b5 c2 c4 c6) rfl rfl ?_
        refine g_iadd dX1_pass_192 ?_
        refine s_istore (L' := [.ref 65, .int x1, .int x2, .int x3, .int x4, .int ((I 20 x4.toNatClampNeg) + (I 21 x4.toNatClampNeg)), .retAddr 0]) dX1_pass_193 (by decide) rfl rfl ?_
        refine g_aload_n dX1_pass_195 rfl rfl ?_
        refine rg_X1_0 (r := 1) dX1_pass_196 lf_X1_25 (sk_65 _) rfl ?_
        refine rg_X10_2 (r := 18) dX1_pass_199 lf_X1_114 (sk_1 _) rfl ?_
        refine rg_X6_1 (r := 20) dX1_pass_202 lf_X1_121 (sk_18 _) rfl ?_
        refine g_iload dX1_pass_205 rfl ?_
        refine s_iald (j := x4.toNatClampNeg) (v := (I 20 x4.toNatClampNeg)) dX1_pass_207 (sk_20 _) (b6 c2 c4 c6) rfl rfl ?_
        refine g_iconst (v := 1) dX1_pass_208 (by decide) ?_
        refine g_iadd dX1_pass_209 ?_
        refine g_aload_n dX1_pass_210 rfl rfl ?_
        refine rg_X1_0 (r := 1) dX1_pass_211 lf_X1_25 (sk_65 _) rfl ?_
        refine rg_X10_2 (r := 18) dX1_pass_214 lf_X1_114 (sk_1 _) rfl ?_
        refine rg_X6_2 (r := 21) dX1_pass_217 lf_X1_124 (sk_18 _) rfl ?_
        refine g_iload dX1_pass_220 rfl ?_
        refine s_iald (j := x4.toNatClampNeg) (v := (I 21 x4.toNatClampNeg)) dX1_pass_222 (sk_21 _) (b7 c2 c4 c6) rfl rfl ?_
        refine g_isub dX1_pass_223 ?_
        refine s_istore (L' := [.ref 65, .int x1, .int x2, .int x3, .int x4, .int ((I 20 x4.toNatClampNeg) + (I 21 x4.toNatClampNeg)), .int (((I 20 x4.toNatClampNeg) + 1) - (I 21 x4.toNatClampNeg))]) dX1_pass_224 (by decide) rfl rfl ?_
        refine g_aload_n dX1_pass_226 rfl rfl ?_
        refine g_iload dX1_pass_227 rfl ?_
        refine g_aload_n dX1_pass_229 rfl rfl ?_
        refine rg_X1_0 (r := 1) dX1_pass_230 lf_X1_25 (sk_65 _) rfl ?_
        refine rg_X10_2 (r := 18) dX1_pass_233 lf_X1_114 (sk_1 _) rfl ?_
        refine rg_X6_3 (r := 22) dX1_pass_236 lf_X1_127 (sk_18 _) rfl ?_
        refine g_iload dX1_pass_239 rfl ?_
        refine s_iald (j := x4.toNatClampNeg) (v := (I 22 x4.toNatClampNeg)) dX1_pass_241 (sk_22 _) (b8 c2 c4 c6) rfl rfl ?_
        refine g_iconst (v := 0) dX1_pass_242 (by decide) ?_
        refine g_iload_n dX1_pass_243 rfl rfl ?_
        exact s_callV (M' := mX1_choose) (As := [.int ((I 20 x4.toNatClampNeg) + (I 21 x4.toNatClampNeg)), .int (I 22 x4.toNatClampNeg), .int 0, .int x1]) (st := []) dX1_pass_244 lm_X1_130 ovX1_choose (h := (sk0 c, I)) (sk_65 _) (show vwCl[1]? = some _ from rfl) rfl (by simp [Value.category]) (by decide) rfl (k9 c2 c4 c6)
set_option maxRecDepth 10000 in
set_option maxHeartbeats 1000000 in
theorem sg_X1_pass_103 {l : Launch} {d : Nat} {Q : Option Value → mx_H → Prop} {c : Nat} {I : mx_I} (hc : at9 (sk0 c) c) (x1 : Int32) (x2 : Int32) (x3 : Int32) (x4 : Int32)
    (e1 : (x4 = 0) → mx_Go l (mx_rm (d + 1) 0 0) mX1_pass (mx_Z Q 0 0) 0 0 70 [.ref 65, .int x1, .int x2, .int (x3 + 1), .retAddr 0, .retAddr 0, .retAddr 0] [] (sk0 c, I))
    (k2 : (¬ x4 = 0) → mx_K1 l mX1_cross d [.ref 65, .int x3, .int x1, .int 0] (sk0 c, I) (fun r h' => mx_Go l (mx_rm (d + 1) 0 0) mX1_pass (mx_Z Q 0 0) 0 0 113 [.ref 65, .int x1, .int x2, .int x3, .retAddr 0, .retAddr 0, .retAddr 0] (r.toList ++ []) h')) :
    mx_Go l (mx_rm (d + 1) 0 0) mX1_pass (mx_Z Q 0 0) 0 0 103 [.ref 65, .int x1, .int x2, .int x3, .retAddr 0, .retAddr 0, .retAddr 0] [.int x4] (sk0 c, I) := by
  refine g_if_eq (tgt := 113) dX1_pass_103 (by decide) (fun c1 => ?_) (fun c2 => ?_)
  · skip
    refine s_iinc (v := (x3 + 1)) (L' := [.ref 65, .int x1, .int x2, .int (x3 + 1), .retAddr 0, .retAddr 0, .retAddr 0]) dX1_pass_113 rfl (by decide) rfl rfl rfl ?_
    refine g_goto (tgt := 70) dX1_pass_116 (by decide) ?_
    exact e1 c1
  · skip
    refine g_aload_n dX1_pass_106 rfl rfl ?_
    refine g_iload_n dX1_pass_107 rfl rfl ?_
    refine g_iload_n dX1_pass_108 rfl rfl ?_
    refine g_iconst (v := 0) dX1_pass_109 (by decide) ?_
    exact s_callV (M' := mX1_cross) (As := [.int x3, .int x1, .int 0]) (st := []) dX1_pass_110 lm_X1_107 ovX1_cross (h := (sk0 c, I)) (sk_65 _) (show vwCl[1]? = some _ from rfl) rfl (by simp [Value.category]) (by decide) rfl (k2 c2)
set_option maxRecDepth 10000 in
set_option maxHeartbeats 1000000 in
theorem sg_X1_pass_247 {l : Launch} {d : Nat} {Q : Option Value → mx_H → Prop} {c : Nat} {I : mx_I} (hc : at9 (sk0 c) c) (x1 : Int32) (x2 : Int32) (x3 : Int32) (x4 : Int32) (x5 : Int32) (x6 : Int32) (x7 : Int32)
    (k1 : mx_K1 l mX1_carry d [.ref 65, .int x5, .int x6, .int x1, .int (-1)] (sk0 c, I) (fun r h' => mx_Go l (mx_rm (d + 1) 0 0) mX1_pass (mx_Z Q 0 0) 0 0 258 [.ref 65, .int x1, .int x2, .int x3, .int x4, .int x5, .int x6] (r.toList ++ []) h')) :
    mx_Go l (mx_rm (d + 1) 0 0) mX1_pass (mx_Z Q 0 0) 0 0 247 [.ref 65, .int x1, .int x2, .int x3, .int x4, .int x5, .int x6] [.int x7] (sk0 c, I) := by
  refine g_pop dX1_pass_247 rfl ?_
  refine g_aload_n dX1_pass_248 rfl rfl ?_
  refine g_iload dX1_pass_249 rfl ?_
  refine g_iload dX1_pass_251 rfl ?_
  refine g_iload_n dX1_pass_253 rfl rfl ?_
  refine g_iconst (v := (-1)) dX1_pass_254 (by decide) ?_
  exact s_callV (M' := mX1_carry) (As := [.int x5, .int x6, .int x1, .int (-1)]) (st := []) dX1_pass_255 lm_X1_134 ovX1_carry (h := (sk0 c, I)) (sk_65 _) (show vwCl[1]? = some _ from rfl) rfl (by simp [Value.category]) (by decide) rfl (k1)
set_option maxRecDepth 10000 in
set_option maxHeartbeats 1000000 in
theorem sg_X1_pass_113 {l : Launch} {d : Nat} {Q : Option Value → mx_H → Prop} {c : Nat} {I : mx_I} (hc : at9 (sk0 c) c) (x1 : Int32) (x2 : Int32) (x3 : Int32)
    (e1 : mx_Go l (mx_rm (d + 1) 0 0) mX1_pass (mx_Z Q 0 0) 0 0 70 [.ref 65, .int x1, .int x2, .int (x3 + 1), .retAddr 0, .retAddr 0, .retAddr 0] [] (sk0 c, I)) :
    mx_Go l (mx_rm (d + 1) 0 0) mX1_pass (mx_Z Q 0 0) 0 0 113 [.ref 65, .int x1, .int x2, .int x3, .retAddr 0, .retAddr 0, .retAddr 0] [] (sk0 c, I) := by
  refine s_iinc (v := (x3 + 1)) (L' := [.ref 65, .int x1, .int x2, .int (x3 + 1), .retAddr 0, .retAddr 0, .retAddr 0]) dX1_pass_113 rfl (by decide) rfl rfl rfl ?_
  refine g_goto (tgt := 70) dX1_pass_116 (by decide) ?_
  exact e1
set_option maxRecDepth 10000 in
set_option maxHeartbeats 1000000 in
theorem sg_X1_pass_258 {l : Launch} {d : Nat} {Q : Option Value → mx_H → Prop} {c : Nat} {I : mx_I} (hc : at9 (sk0 c) c) (x1 : Int32) (x2 : Int32) (x3 : Int32) (x4 : Int32) (x5 : Int32) (x6 : Int32)
    (e1 : mx_Go l (mx_rm (d + 1) 0 0) mX1_pass (mx_Z Q 0 0) 0 0 137 [.ref 65, .int x1, .int x2, .int x3, .int (x4 + 1), .int x5, .int x6] [] (sk0 c, I)) :
    mx_Go l (mx_rm (d + 1) 0 0) mX1_pass (mx_Z Q 0 0) 0 0 258 [.ref 65, .int x1, .int x2, .int x3, .int x4, .int x5, .int x6] [] (sk0 c, I) := by
  refine s_iinc (v := (x4 + 1)) (L' := [.ref 65, .int x1, .int x2, .int x3, .int (x4 + 1), .int x5, .int x6]) dX1_pass_258 rfl (by decide) rfl rfl rfl ?_
  refine g_goto (tgt := 137) dX1_pass_261 (by decide) ?_
  exact e1
set_option maxRecDepth 10000 in
set_option maxHeartbeats 1000000 in
theorem sn_X1_bring {l : Launch} {d : Nat} {Q : Option Value → mx_H → Prop} {c : Nat} {I : mx_I} (a1 : Int32) (a2 : Int32) (hc : at9 (sk0 c) c)
    (e1 : mx_Go l (mx_rm (d + 1) 0 0) mX1_bring (mx_Z Q 0 0) 0 0 2 [.ref 65, .int a1, .int a2, .int 0] [] (sk0 c, I)) :
    mx_Spec l mX1_bring (d + 1) 0 0 [.ref 65, .int a1, .int a2] (sk0 c, I) Q := by
  refine mx_enter rfl (by simp [Value.category]) (Nat.le_of_ble_eq_true rfl) ?_
  change mx_Go l (mx_rm (d + 1) 0 0) mX1_bring (mx_Z Q 0 0) 0 0 0 [.ref 65, .int a1, .int a2, .retAddr 0] [] (sk0 c, I)
  refine g_iconst (v := 0) dX1_bring_0 (by decide) ?_
  refine s_istore_n (L' := [.ref 65, .int a1, .int a2, .int 0]) dX1_bring_1 rfl (by decide) rfl rfl ?_
  exact e1
set_option maxRecDepth 10000 in
set_option maxHeartbeats 1000000 in
theorem sg_X1_bring_2 {l : Launch} {d : Nat} {Q : Option Value → mx_H → Prop} {c : Nat} {I : mx_I} (hc : at9 (sk0 c) c) (x1 : Int32) (x2 : Int32) (x3 : Int32)
    (q1 : ((I 2 5) ≤ x3) → Q none (sk0 c, I))
    (e2 : (¬ (I 2 5) ≤ x3) → (¬ ((x1 >>> (x3 &&& 31)) &&& 1) = 1) → mx_Go l (mx_rm (d + 1) 0 0) mX1_bring (mx_Z Q 0 0) 0 0 2 [.ref 65, .int x1, .int x2, .int (x3 + 1)] [] (sk0 c, I))
    (b3 : (¬ (I 2 5) ≤ x3) → (((x1 >>> (x3 &&& 31)) &&& 1) = 1) → vp_in x3 30)
    (k4 : (¬ (I 2 5) ≤ x3) → (((x1 >>> (x3 &&& 31)) &&& 1) = 1) → mx_K1 l mX1_arrive d [.ref 65, .int x3, .int (I 4 x3.toNatClampNeg), .int x2] (sk0 c, I) (fun r h' => mx_Go l (mx_rm (d + 1) 0 0) mX1_bring (mx_Z Q 0 0) 0 0 43 [.ref 65, .int x1, .int x2, .int x3] (r.toList ++ []) h')) :
    mx_Go l (mx_rm (d + 1) 0 0) mX1_bring (mx_Z Q 0 0) 0 0 2 [.ref 65, .int x1, .int x2, .int x3] [] (sk0 c, I) := by
  refine g_iload_n dX1_bring_2 rfl rfl ?_
  refine g_aload_n dX1_bring_3 rfl rfl ?_
  refine rg_X1_0 (r := 1) dX1_bring_4 lf_X1_25 (sk_65 _) rfl ?_
  refine rg_X10_0 (r := 2) dX1_bring_7 lf_X1_138 (sk_1 _) rfl ?_
  refine rg_X5_5 (v := (I 2 5)) dX1_bring_10 lf_X1_142 (sk_2 _) rfl ?_
  refine g_icmp_ge (tgt := 49) dX1_bring_13 (by decide) (fun c1 => ?_) (fun c2 => ?_)
  · skip
    exact g_vret rfl dX1_bring_49 rfl (Nat.le_refl _) (q1 c1)
  · skip
    refine g_iload_n dX1_bring_16 rfl rfl ?_
    refine g_iload_n dX1_bring_17 rfl rfl ?_
    refine g_ishr dX1_bring_18 ?_
    refine g_iconst (v := 1) dX1_bring_19 (by decide) ?_
    refine g_iand dX1_bring_20 ?_
    refine g_iconst (v := 1) dX1_bring_21 (by decide) ?_
    refine g_icmp_ne (tgt := 43) dX1_bring_22 (by decide) (fun c3 => ?_) (fun c4 => ?_)
    · skip
      refine s_iinc (v := (x3 + 1)) (L' := [.ref 65, .int x1, .int x2, .int (x3 + 1)]) dX1_bring_43 rfl (by decide) rfl rfl rfl ?_
      refine g_goto (tgt := 2) dX1_bring_46 (by decide) ?_
      exact e2 c2 c3
    · skip
      refine g_aload_n dX1_bring_25 rfl rfl ?_
      refine g_iload_n dX1_bring_26 rfl rfl ?_
      refine g_aload_n dX1_bring_27 rfl rfl ?_
      refine rg_X1_0 (r := 1) dX1_bring_28 lf_X1_25 (sk_65 _) rfl ?_
      refine rg_X10_0 (r := 2) dX1_bring_31 lf_X1_138 (sk_1 _) rfl ?_
      refine rg_X5_1 (r := 4) dX1_bring_34 lf_X1_145 (sk_2 _) rfl ?_
      refine g_iload_n dX1_bring_37 rfl rfl ?_
      refine s_iald (j := x3.toNatClampNeg) (v := (I 4 x3.toNatClampNeg)) dX1_bring_38 (sk_4 _) (b3 c2 c4) rfl rfl ?_
      refine g_iload_n dX1_bring_39 rfl rfl ?_
      exact s_callV (M' := mX1_arrive) (As := [.int x3, .int (I 4 x3.toNatClampNeg), .int x2]) (st := []) dX1_bring_40 lm_X1_148 ovX1_arrive (h := (sk0 c, I)) (sk_65 _) (show vwCl[1]? = some _ from rfl) rfl (by simp [Value.category]) (by decide) rfl (k4 c2 c4)
set_option maxRecDepth 10000 in
set_option maxHeartbeats 1000000 in
theorem sg_X1_bring_43 {l : Launch} {d : Nat} {Q : Option Value → mx_H → Prop} {c : Nat} {I : mx_I} (hc : at9 (sk0 c) c) (x1 : Int32) (x2 : Int32) (x3 : Int32)
    (e1 : mx_Go l (mx_rm (d + 1) 0 0) mX1_bring (mx_Z Q 0 0) 0 0 2 [.ref 65, .int x1, .int x2, .int (x3 + 1)] [] (sk0 c, I)) :
    mx_Go l (mx_rm (d + 1) 0 0) mX1_bring (mx_Z Q 0 0) 0 0 43 [.ref 65, .int x1, .int x2, .int x3] [] (sk0 c, I) := by
  refine s_iinc (v := (x3 + 1)) (L' := [.ref 65, .int x1, .int x2, .int (x3 + 1)]) dX1_bring_43 rfl (by decide) rfl rfl rfl ?_
  refine g_goto (tgt := 2) dX1_bring_46 (by decide) ?_
  exact e1
set_option maxRecDepth 10000 in
set_option maxHeartbeats 1000000 in
theorem sn_X1_fetchOff {l : Launch} {d : Nat} {Q : Option Value → mx_H → Prop} {c : Nat} {I : mx_I} (a1 : Int32) (hc : at9 (sk0 c) c)
    (e1 : mx_Go l (mx_rm (d + 1) 0 0) mX1_fetchOff (mx_Z Q 0 0) 0 0 2 [.ref 65, .int a1, .int 0, .retAddr 0] [] (sk0 c, I)) :
    mx_Spec l mX1_fetchOff (d + 1) 0 0 [.ref 65, .int a1] (sk0 c, I) Q := by
  refine mx_enter rfl (by simp [Value.category]) (Nat.le_of_ble_eq_true rfl) ?_
  change mx_Go l (mx_rm (d + 1) 0 0) mX1_fetchOff (mx_Z Q 0 0) 0 0 0 [.ref 65, .int a1, .retAddr 0, .retAddr 0] [] (sk0 c, I)
  refine g_iconst (v := 0) dX1_fetchOff_0 (by decide) ?_
  refine s_istore_n (L' := [.ref 65, .int a1, .int 0, .retAddr 0]) dX1_fetchOff_1 rfl (by decide) rfl rfl ?_
  exact e1
set_option maxRecDepth 10000 in
set_option maxHeartbeats 1000000 in
theorem sg_X1_fetchOff_2 {l : Launch} {d : Nat} {Q : Option Value → mx_H → Prop} {c : Nat} {I : mx_I} (hc : at9 (sk0 c) c) (x1 : Int32) (x2 : Int32)
    (q1 : ((I 2 5) ≤ x2) → Q none (sk0 c, I))
    (b2 : (¬ (I 2 5) ≤ x2) → vp_in x2 30)
    (e3 : (¬ (I 2 5) ≤ x2) → (¬ ((x1 >>> (x2 &&& 31)) &&& 1) = 1) → mx_Go l (mx_rm (d + 1) 0 0) mX1_fetchOff (mx_Z Q 0 0) 0 0 2 [.ref 65, .int x1, .int (x2 + 1), .int (I 6 x2.toNatClampNeg)] [] (sk0 c, I))
    (k4 : (¬ (I 2 5) ≤ x2) → (((x1 >>> (x2 &&& 31)) &&& 1) = 1) → mx_K1 l mX10_hasEnd d [.ref 1, .int (I 6 x2.toNatClampNeg)] (sk0 c, I) (fun r h' => mx_Go l (mx_rm (d + 1) 0 0) mX1_fetchOff (mx_Z Q 0 0) 0 0 46 [.ref 65, .int x1, .int x2, .int (I 6 x2.toNatClampNeg)] (r.toList ++ []) h')) :
    mx_Go l (mx_rm (d + 1) 0 0) mX1_fetchOff (mx_Z Q 0 0) 0 0 2 [.ref 65, .int x1, .int x2, .retAddr 0] [] (sk0 c, I) := by
  refine g_iload_n dX1_fetchOff_2 rfl rfl ?_
  refine g_aload_n dX1_fetchOff_3 rfl rfl ?_
  refine rg_X1_0 (r := 1) dX1_fetchOff_4 lf_X1_25 (sk_65 _) rfl ?_
  refine rg_X10_0 (r := 2) dX1_fetchOff_7 lf_X1_138 (sk_1 _) rfl ?_
  refine rg_X5_5 (v := (I 2 5)) dX1_fetchOff_10 lf_X1_142 (sk_2 _) rfl ?_
  refine g_icmp_ge (tgt := 97) dX1_fetchOff_13 (by decide) (fun c1 => ?_) (fun c2 => ?_)
  · skip
    exact g_vret rfl dX1_fetchOff_97 rfl (Nat.le_refl _) (q1 c1)
  · skip
    refine g_aload_n dX1_fetchOff_16 rfl rfl ?_
    refine rg_X1_0 (r := 1) dX1_fetchOff_17 lf_X1_25 (sk_65 _) rfl ?_
    refine rg_X10_0 (r := 2) dX1_fetchOff_20 lf_X1_138 (sk_1 _) rfl ?_
    refine rg_X5_3 (r := 6) dX1_fetchOff_23 lf_X1_151 (sk_2 _) rfl ?_
    refine g_iload_n dX1_fetchOff_26 rfl rfl ?_
    refine s_iald (j := x2.toNatClampNeg) (v := (I 6 x2.toNatClampNeg)) dX1_fetchOff_27 (sk_6 _) (b2 c2) rfl rfl ?_
    refine s_istore_n (L' := [.ref 65, .int x1, .int x2, .int (I 6 x2.toNatClampNeg)]) dX1_fetchOff_28 rfl (by decide) rfl rfl ?_
    refine g_iload_n dX1_fetchOff_29 rfl rfl ?_
    refine g_iload_n dX1_fetchOff_30 rfl rfl ?_
    refine g_ishr dX1_fetchOff_31 ?_
    refine g_iconst (v := 1) dX1_fetchOff_32 (by decide) ?_
    refine g_iand dX1_fetchOff_33 ?_
    refine g_iconst (v := 1) dX1_fetchOff_34 (by decide) ?_
    refine g_icmp_ne (tgt := 91) dX1_fetchOff_35 (by decide) (fun c3 => ?_) (fun c4 => ?_)
    · skip
      refine s_iinc (v := (x2 + 1)) (L' := [.ref 65, .int x1, .int (x2 + 1), .int (I 6 x2.toNatClampNeg)]) dX1_fetchOff_91 rfl (by decide) rfl rfl rfl ?_
      refine g_goto (tgt := 2) dX1_fetchOff_94 (by decide) ?_
      exact e3 c2 c3
    · skip
      refine g_aload_n dX1_fetchOff_38 rfl rfl ?_
      refine rg_X1_0 (r := 1) dX1_fetchOff_39 lf_X1_25 (sk_65 _) rfl ?_
      refine g_iload_n dX1_fetchOff_42 rfl rfl ?_
      exact s_callV (M' := mX10_hasEnd) (As := [.int (I 6 x2.toNatClampNeg)]) (st := []) dX1_fetchOff_43 lm_X1_154 ovX10_hasEnd (h := (sk0 c, I)) (sk_1 _) (show vwCl[10]? = some _ from rfl) rfl (by simp [Value.category]) (by decide) rfl (k4 c2 c4)
set_option maxRecDepth 10000 in
set_option maxHeartbeats 1000000 in
theorem sg_X1_fetchOff_46 {l : Launch} {d : Nat} {Q : Option Value → mx_H → Prop} {c : Nat} {I : mx_I} (hc : at9 (sk0 c) c) (x1 : Int32) (x2 : Int32) (x3 : Int32) (x4 : Int32)
    (e1 : (x4 = 0) → mx_Go l (mx_rm (d + 1) 0 0) mX1_fetchOff (mx_Z Q 0 0) 0 0 2 [.ref 65, .int x1, .int (x2 + 1), .int x3] [] (sk0 c, I))
    (k2 : (¬ x4 = 0) → mx_K1 l mX9_isAt d [.ref c, .int x2, .int x3] (sk0 c, I) (fun r h' => mx_Go l (mx_rm (d + 1) 0 0) mX1_fetchOff (mx_Z Q 0 0) 0 0 58 [.ref 65, .int x1, .int x2, .int x3] (r.toList ++ []) h')) :
    mx_Go l (mx_rm (d + 1) 0 0) mX1_fetchOff (mx_Z Q 0 0) 0 0 46 [.ref 65, .int x1, .int x2, .int x3] [.int x4] (sk0 c, I) := by
  refine g_if_eq (tgt := 91) dX1_fetchOff_46 (by decide) (fun c1 => ?_) (fun c2 => ?_)
  · skip
    refine s_iinc (v := (x2 + 1)) (L' := [.ref 65, .int x1, .int (x2 + 1), .int x3]) dX1_fetchOff_91 rfl (by decide) rfl rfl rfl ?_
    refine g_goto (tgt := 2) dX1_fetchOff_94 (by decide) ?_
    exact e1 c1
  · skip
    refine g_aload_n dX1_fetchOff_49 rfl rfl ?_
    refine rg_X1_6 (r := c) dX1_fetchOff_50 lf_X1_33 (sk_65 _) rfl ?_
    refine g_iload_n dX1_fetchOff_53 rfl rfl ?_
    refine g_iload_n dX1_fetchOff_54 rfl rfl ?_
    exact s_callV (M' := mX9_isAt) (As := [.int x2, .int x3]) (st := []) dX1_fetchOff_55 lm_X1_158 ovX9_isAt (h := (sk0 c, I)) hc.1 (show vwCl[9]? = some _ from rfl) rfl (by simp [Value.category]) (by decide) rfl (k2 c2)
set_option maxRecDepth 10000 in
set_option maxHeartbeats 1000000 in
theorem sg_X1_fetchOff_58 {l : Launch} {d : Nat} {Q : Option Value → mx_H → Prop} {c : Nat} {I : mx_I} (hc : at9 (sk0 c) c) (x1 : Int32) (x2 : Int32) (x3 : Int32) (x4 : Int32)
    (e1 : (x4 = 0) → mx_Go l (mx_rm (d + 1) 0 0) mX1_fetchOff (mx_Z Q 0 0) 0 0 2 [.ref 65, .int x1, .int (x2 + 1), .int x3] [] (sk0 c, I))
    (k2 : (¬ x4 = 0) → mx_K1 l mX9_drop d [.ref c, .ref 72, .int 1, .int x3] (sk0 c, (mx_set I 72 0 x2)) (fun r h' => mx_Go l (mx_rm (d + 1) 0 0) mX1_fetchOff (mx_Z Q 0 0) 0 0 81 [.ref 65, .int x1, .int x2, .int x3] (r.toList ++ []) h')) :
    mx_Go l (mx_rm (d + 1) 0 0) mX1_fetchOff (mx_Z Q 0 0) 0 0 58 [.ref 65, .int x1, .int x2, .int x3] [.int x4] (sk0 c, I) := by
  refine g_if_eq (tgt := 91) dX1_fetchOff_58 (by decide) (fun c1 => ?_) (fun c2 => ?_)
  · skip
    refine s_iinc (v := (x2 + 1)) (L' := [.ref 65, .int x1, .int (x2 + 1), .int x3]) dX1_fetchOff_91 rfl (by decide) rfl rfl rfl ?_
    refine g_goto (tgt := 2) dX1_fetchOff_94 (by decide) ?_
    exact e1 c1
  · skip
    refine g_aload_n dX1_fetchOff_61 rfl rfl ?_
    refine rg_X1_3 (r := 72) dX1_fetchOff_62 lf_X1_18 (sk_65 _) rfl ?_
    refine g_iconst (v := 0) dX1_fetchOff_65 (by decide) ?_
    refine g_iload_n dX1_fetchOff_66 rfl rfl ?_
    refine s_iast (j := 0) dX1_fetchOff_67 (sk_72 _) (by unfold vp_in; decide) (by decide) ?_
    refine g_aload_n dX1_fetchOff_68 rfl rfl ?_
    refine rg_X1_6 (r := c) dX1_fetchOff_69 lf_X1_33 (sk_65 _) rfl ?_
    refine g_aload_n dX1_fetchOff_72 rfl rfl ?_
    refine rg_X1_3 (r := 72) dX1_fetchOff_73 lf_X1_18 (sk_65 _) rfl ?_
    refine g_iconst (v := 1) dX1_fetchOff_76 (by decide) ?_
    refine g_iload_n dX1_fetchOff_77 rfl rfl ?_
    exact s_callV (M' := mX9_drop) (As := [.ref 72, .int 1, .int x3]) (st := []) dX1_fetchOff_78 lm_X1_161 ovX9_drop (h := (sk0 c, (mx_set I 72 0 x2))) hc.1 (show vwCl[9]? = some _ from rfl) rfl (by simp [Value.category]) (by decide) rfl (k2 c2)
set_option maxRecDepth 10000 in
set_option maxHeartbeats 1000000 in
theorem sg_X1_fetchOff_81 {l : Launch} {d : Nat} {Q : Option Value → mx_H → Prop} {c : Nat} {I : mx_I} (hc : at9 (sk0 c) c) (x1 : Int32) (x2 : Int32) (x3 : Int32)
    (b1 : vp_in x2 30)
    (e2 : mx_Go l (mx_rm (d + 1) 0 0) mX1_fetchOff (mx_Z Q 0 0) 0 0 2 [.ref 65, .int x1, .int (x2 + 1), .int x3] [] (sk0 c, (mx_set I (c + 4) x2.toNatClampNeg 1))) :
    mx_Go l (mx_rm (d + 1) 0 0) mX1_fetchOff (mx_Z Q 0 0) 0 0 81 [.ref 65, .int x1, .int x2, .int x3] [] (sk0 c, I) := by
  refine g_aload_n dX1_fetchOff_81 rfl rfl ?_
  refine rg_X1_6 (r := c) dX1_fetchOff_82 lf_X1_33 (sk_65 _) rfl ?_
  refine rg_X9_3 (r := (c + 4)) dX1_fetchOff_85 lf_X1_165 hc.1 rfl ?_
  refine g_iload_n dX1_fetchOff_88 rfl rfl ?_
  refine g_iconst (v := 1) dX1_fetchOff_89 (by decide) ?_
  refine s_iast (j := x2.toNatClampNeg) dX1_fetchOff_90 hc.2.2.2.2.1 (b1) rfl ?_
  refine s_iinc (v := (x2 + 1)) (L' := [.ref 65, .int x1, .int (x2 + 1), .int x3]) dX1_fetchOff_91 rfl (by decide) rfl rfl rfl ?_
  refine g_goto (tgt := 2) dX1_fetchOff_94 (by decide) ?_
  exact e2
set_option maxRecDepth 10000 in
set_option maxHeartbeats 1000000 in
theorem sn_X1_arrive {l : Launch} {d : Nat} {Q : Option Value → mx_H → Prop} {c : Nat} {I : mx_I} (a1 : Int32) (a2 : Int32) (a3 : Int32) (hc : at9 (sk0 c) c)
    (k1 : mx_K1 l mX9_append d [.ref c, .int a1, .int a2, .int a3] (sk0 c, I) (fun r h' => mx_Go l (mx_rm (d + 1) 0 0) mX1_arrive (mx_Z Q 0 0) 0 0 10 [.ref 65, .int a1, .int a2, .int a3] (r.toList ++ []) h')) :
    mx_Spec l mX1_arrive (d + 1) 0 0 [.ref 65, .int a1, .int a2, .int a3] (sk0 c, I) Q := by
  refine mx_enter rfl (by simp [Value.category]) (Nat.le_of_ble_eq_true rfl) ?_
  change mx_Go l (mx_rm (d + 1) 0 0) mX1_arrive (mx_Z Q 0 0) 0 0 0 [.ref 65, .int a1, .int a2, .int a3] [] (sk0 c, I)
  refine g_aload_n dX1_arrive_0 rfl rfl ?_
  refine rg_X1_6 (r := c) dX1_arrive_1 lf_X1_33 (sk_65 _) rfl ?_
  refine g_iload_n dX1_arrive_4 rfl rfl ?_
  refine g_iload_n dX1_arrive_5 rfl rfl ?_
  refine g_iload_n dX1_arrive_6 rfl rfl ?_
  exact s_callV (M' := mX9_append) (As := [.int a1, .int a2, .int a3]) (st := []) dX1_arrive_7 lm_X1_168 ovX9_append (h := (sk0 c, I)) hc.1 (show vwCl[9]? = some _ from rfl) rfl (by simp [Value.category]) (by decide) rfl (k1)
set_option maxRecDepth 10000 in
set_option maxHeartbeats 1000000 in
theorem sg_X1_arrive_10 {l : Launch} {d : Nat} {Q : Option Value → mx_H → Prop} {c : Nat} {I : mx_I} (hc : at9 (sk0 c) c) (x1 : Int32) (x2 : Int32) (x3 : Int32)
    (q1 : (¬ x1 = (I 65 11)) → Q none (sk0 c, I))
    (q2 : (x1 = (I 65 11)) → (¬ x2 = (I 65 12)) → Q none (sk0 c, I))
    (q3 : (x1 = (I 65 11)) → (x2 = (I 65 12)) → (¬ (I 65 13) = (-1)) → Q none (sk0 c, I))
    (q4 : (x1 = (I 65 11)) → (x2 = (I 65 12)) → ((I 65 13) = (-1)) → Q none (sk0 c, (mx_set I 65 13 x3))) :
    mx_Go l (mx_rm (d + 1) 0 0) mX1_arrive (mx_Z Q 0 0) 0 0 10 [.ref 65, .int x1, .int x2, .int x3] [] (sk0 c, I) := by
  refine g_iload_n dX1_arrive_10 rfl rfl ?_
  refine g_aload_n dX1_arrive_11 rfl rfl ?_
  refine rg_X1_11 (v := (I 65 11)) dX1_arrive_12 lf_X1_54 (sk_65 _) rfl ?_
  refine g_icmp_ne (tgt := 39) dX1_arrive_15 (by decide) (fun c1 => ?_) (fun c2 => ?_)
  · skip
    exact g_vret rfl dX1_arrive_39 rfl (Nat.le_refl _) (q1 c1)
  · skip
    refine g_iload_n dX1_arrive_18 rfl rfl ?_
    refine g_aload_n dX1_arrive_19 rfl rfl ?_
    refine rg_X1_12 (v := (I 65 12)) dX1_arrive_20 lf_X1_57 (sk_65 _) rfl ?_
    refine g_icmp_ne (tgt := 39) dX1_arrive_23 (by decide) (fun c3 => ?_) (fun c4 => ?_)
    · skip
      exact g_vret rfl dX1_arrive_39 rfl (Nat.le_refl _) (q2 c2 c3)
    · skip
      refine g_aload_n dX1_arrive_26 rfl rfl ?_
      refine rg_X1_13 (v := (I 65 13)) dX1_arrive_27 lf_X1_60 (sk_65 _) rfl ?_
      refine g_iconst (v := (-1)) dX1_arrive_30 (by decide) ?_
      refine g_icmp_ne (tgt := 39) dX1_arrive_31 (by decide) (fun c5 => ?_) (fun c6 => ?_)
      · skip
        exact g_vret rfl dX1_arrive_39 rfl (Nat.le_refl _) (q3 c2 c4 c5)
      · skip
        refine g_aload_n dX1_arrive_34 rfl rfl ?_
        refine g_iload_n dX1_arrive_35 rfl rfl ?_
        refine rp_X1_13 dX1_arrive_36 lf_X1_60 (sk_65 _) ?_
        exact g_vret rfl dX1_arrive_39 rfl (Nat.le_refl _) (q4 c2 c4 c6)
set_option maxRecDepth 10000 in
set_option maxHeartbeats 1000000 in
theorem sn_X1_isToGo {l : Launch} {d : Nat} {Q : Option Value → mx_H → Prop} {c : Nat} {I : mx_I} (a1 : Int32) (a2 : Int32) (hc : at9 (sk0 c) c)
    (b1 : vp_in a1 20)
    (b2 : ((I (c + 7) a1.toNatClampNeg) = (-1)) → vp_in a1 20)
    (b3 : ((I (c + 7) a1.toNatClampNeg) = (-1)) → (¬ (I 15 a1.toNatClampNeg) = 0) → vp_in a1 20)
    (b4 : ((I (c + 7) a1.toNatClampNeg) = (-1)) → (¬ (I 15 a1.toNatClampNeg) = 0) → vp_in a1 20)
    (b5 : ((I (c + 7) a1.toNatClampNeg) = (-1)) → (¬ (I 15 a1.toNatClampNeg) = 0) → vp_in ((I 10 a1.toNatClampNeg) + (I 11 a1.toNatClampNeg)) 4)
    (b6 : ((I (c + 7) a1.toNatClampNeg) = (-1)) → (¬ (I 15 a1.toNatClampNeg) = 0) → (¬ (I (c + 6) ((I 10 a1.toNatClampNeg) + (I 11 a1.toNatClampNeg)).toNatClampNeg) = 0) → vp_in a1 20)
    (q7 : ((I (c + 7) a1.toNatClampNeg) = (-1)) → (¬ (I 15 a1.toNatClampNeg) = 0) → (¬ (I (c + 6) ((I 10 a1.toNatClampNeg) + (I 11 a1.toNatClampNeg)).toNatClampNeg) = 0) → (¬ (I 15 a1.toNatClampNeg) = 1) → Q (some (.int 0)) (sk0 c, I))
    (b8 : ((I (c + 7) a1.toNatClampNeg) = (-1)) → (¬ (I 15 a1.toNatClampNeg) = 0) → (¬ (I (c + 6) ((I 10 a1.toNatClampNeg) + (I 11 a1.toNatClampNeg)).toNatClampNeg) = 0) → ((I 15 a1.toNatClampNeg) = 1) → vp_in a1 20)
    (q9 : ((I (c + 7) a1.toNatClampNeg) = (-1)) → (¬ (I 15 a1.toNatClampNeg) = 0) → (¬ (I (c + 6) ((I 10 a1.toNatClampNeg) + (I 11 a1.toNatClampNeg)).toNatClampNeg) = 0) → ((I 15 a1.toNatClampNeg) = 1) → (a2 < (I 9 a1.toNatClampNeg)) → Q (some (.int 0)) (sk0 c, I))
    (b10 : ((I (c + 7) a1.toNatClampNeg) = (-1)) → (¬ (I 15 a1.toNatClampNeg) = 0) → (¬ (I (c + 6) ((I 10 a1.toNatClampNeg) + (I 11 a1.toNatClampNeg)).toNatClampNeg) = 0) → ((I 15 a1.toNatClampNeg) = 1) → (¬ a2 < (I 9 a1.toNatClampNeg)) → vp_in a1 20)
    (b11 : ((I (c + 7) a1.toNatClampNeg) = (-1)) → (¬ (I 15 a1.toNatClampNeg) = 0) → (¬ (I (c + 6) ((I 10 a1.toNatClampNeg) + (I 11 a1.toNatClampNeg)).toNatClampNeg) = 0) → ((I 15 a1.toNatClampNeg) = 1) → (¬ a2 < (I 9 a1.toNatClampNeg)) → vp_in a1 20)
    (q12 : ((I (c + 7) a1.toNatClampNeg) = (-1)) → (¬ (I 15 a1.toNatClampNeg) = 0) → (¬ (I (c + 6) ((I 10 a1.toNatClampNeg) + (I 11 a1.toNatClampNeg)).toNatClampNeg) = 0) → ((I 15 a1.toNatClampNeg) = 1) → (¬ a2 < (I 9 a1.toNatClampNeg)) → (a2 < ((I 9 a1.toNatClampNeg) + (I 16 a1.toNatClampNeg))) → Q (some (.int 0)) (sk0 c, I))
    (q13 : ((I (c + 7) a1.toNatClampNeg) = (-1)) → (¬ (I 15 a1.toNatClampNeg) = 0) → (¬ (I (c + 6) ((I 10 a1.toNatClampNeg) + (I 11 a1.toNatClampNeg)).toNatClampNeg) = 0) → ((I 15 a1.toNatClampNeg) = 1) → (¬ a2 < (I 9 a1.toNatClampNeg)) → (¬ a2 < ((I 9 a1.toNatClampNeg) + (I 16 a1.toNatClampNeg))) → Q (some (.int 1)) (sk0 c, I))
    (b14 : ((I (c + 7) a1.toNatClampNeg) = (-1)) → (¬ (I 15 a1.toNatClampNeg) = 0) → ((I (c + 6) ((I 10 a1.toNatClampNeg) + (I 11 a1.toNatClampNeg)).toNatClampNeg) = 0) → vp_in a1 20)
    (q15 : ((I (c + 7) a1.toNatClampNeg) = (-1)) → (¬ (I 15 a1.toNatClampNeg) = 0) → ((I (c + 6) ((I 10 a1.toNatClampNeg) + (I 11 a1.toNatClampNeg)).toNatClampNeg) = 0) → (¬ (I 15 a1.toNatClampNeg) = 1) → Q (some (.int 0)) (sk0 c, I))
    (b16 : ((I (c + 7) a1.toNatClampNeg) = (-1)) → (¬ (I 15 a1.toNatClampNeg) = 0) → ((I (c + 6) ((I 10 a1.toNatClampNeg) + (I 11 a1.toNatClampNeg)).toNatClampNeg) = 0) → ((I 15 a1.toNatClampNeg) = 1) → vp_in a1 20)
    (q17 : ((I (c + 7) a1.toNatClampNeg) = (-1)) → (¬ (I 15 a1.toNatClampNeg) = 0) → ((I (c + 6) ((I 10 a1.toNatClampNeg) + (I 11 a1.toNatClampNeg)).toNatClampNeg) = 0) → ((I 15 a1.toNatClampNeg) = 1) → (a2 < (I 9 a1.toNatClampNeg)) → Q (some (.int 0)) (sk0 c, I))
    (q18 : ((I (c + 7) a1.toNatClampNeg) = (-1)) → (¬ (I 15 a1.toNatClampNeg) = 0) → ((I (c + 6) ((I 10 a1.toNatClampNeg) + (I 11 a1.toNatClampNeg)).toNatClampNeg) = 0) → ((I 15 a1.toNatClampNeg) = 1) → (¬ a2 < (I 9 a1.toNatClampNeg)) → Q (some (.int 1)) (sk0 c, I))
    (b19 : ((I (c + 7) a1.toNatClampNeg) = (-1)) → ((I 15 a1.toNatClampNeg) = 0) → vp_in a1 20)
    (q20 : ((I (c + 7) a1.toNatClampNeg) = (-1)) → ((I 15 a1.toNatClampNeg) = 0) → (¬ a2 = (I 9 a1.toNatClampNeg)) → Q (some (.int 0)) (sk0 c, I))
    (q21 : ((I (c + 7) a1.toNatClampNeg) = (-1)) → ((I 15 a1.toNatClampNeg) = 0) → (a2 = (I 9 a1.toNatClampNeg)) → Q (some (.int 1)) (sk0 c, I))
    (q22 : (¬ (I (c + 7) a1.toNatClampNeg) = (-1)) → Q (some (.int 0)) (sk0 c, I)) :
    mx_Spec l mX1_isToGo (d + 1) 0 0 [.ref 65, .int a1, .int a2] (sk0 c, I) Q := by
  refine mx_enter rfl (by simp [Value.category]) (Nat.le_of_ble_eq_true rfl) ?_
  change mx_Go l (mx_rm (d + 1) 0 0) mX1_isToGo (mx_Z Q 0 0) 0 0 0 [.ref 65, .int a1, .int a2, .retAddr 0, .retAddr 0] [] (sk0 c, I)
  refine g_aload_n dX1_isToGo_0 rfl rfl ?_
  refine rg_X1_0 (r := 1) dX1_isToGo_1 lf_X1_25 (sk_65 _) rfl ?_
  refine rg_X10_1 (r := 8) dX1_isToGo_4 lf_X1_94 (sk_1 _) rfl ?_
  refine s_astore_n (L' := [.ref 65, .int a1, .int a2, .ref 8, .retAddr 0]) dX1_isToGo_7 rfl (by decide) rfl rfl ?_
  refine g_aload_n dX1_isToGo_8 rfl rfl ?_
  refine rg_X1_6 (r := c) dX1_isToGo_9 lf_X1_33 (sk_65 _) rfl ?_
  refine rg_X9_6 (r := (c + 7)) dX1_isToGo_12 lf_X1_171 hc.1 rfl ?_
  refine g_iload_n dX1_isToGo_15 rfl rfl ?_
  refine s_iald (j := a1.toNatClampNeg) (v := (I (c + 7) a1.toNatClampNeg)) dX1_isToGo_16 hc.2.2.2.2.2.2.2.1 (b1) rfl rfl ?_
  refine g_iconst (v := (-1)) dX1_isToGo_17 (by decide) ?_
  refine g_icmp_eq (tgt := 23) dX1_isToGo_18 (by decide) (fun c1 => ?_) (fun c2 => ?_)
  · skip
    refine g_aload_n dX1_isToGo_23 rfl rfl ?_
    refine rg_X2_6 (r := 15) dX1_isToGo_24 lf_X1_174 (sk_8 _) rfl ?_
    refine g_iload_n dX1_isToGo_27 rfl rfl ?_
    refine s_iald (j := a1.toNatClampNeg) (v := (I 15 a1.toNatClampNeg)) dX1_isToGo_28 (sk_15 _) (b2 c1) rfl rfl ?_
    refine g_if_ne (tgt := 48) dX1_isToGo_29 (by decide) (fun c3 => ?_) (fun c4 => ?_)
    · skip
      refine g_aload_n dX1_isToGo_48 rfl rfl ?_
      refine rg_X1_6 (r := c) dX1_isToGo_49 lf_X1_33 (sk_65 _) rfl ?_
      refine rg_X9_5 (r := (c + 6)) dX1_isToGo_52 lf_X1_180 hc.1 rfl ?_
      refine g_aload_n dX1_isToGo_55 rfl rfl ?_
      refine rg_X2_1 (r := 10) dX1_isToGo_56 lf_X1_183 (sk_8 _) rfl ?_
      refine g_iload_n dX1_isToGo_59 rfl rfl ?_
      refine s_iald (j := a1.toNatClampNeg) (v := (I 10 a1.toNatClampNeg)) dX1_isToGo_60 (sk_10 _) (b3 c1 c3) rfl rfl ?_
      refine g_aload_n dX1_isToGo_61 rfl rfl ?_
      refine rg_X2_2 (r := 11) dX1_isToGo_62 lf_X1_184 (sk_8 _) rfl ?_
      refine g_iload_n dX1_isToGo_65 rfl rfl ?_
      refine s_iald (j := a1.toNatClampNeg) (v := (I 11 a1.toNatClampNeg)) dX1_isToGo_66 (sk_11 _) (b4 c1 c3) rfl rfl ?_
      refine g_iadd dX1_isToGo_67 ?_
      refine s_iald (j := ((I 10 a1.toNatClampNeg) + (I 11 a1.toNatClampNeg)).toNatClampNeg) (v := (I (c + 6) ((I 10 a1.toNatClampNeg) + (I 11 a1.toNatClampNeg)).toNatClampNeg)) dX1_isToGo_68 hc.2.2.2.2.2.2.1 (b5 c1 c3) rfl rfl ?_
      refine g_if_ne (tgt := 76) dX1_isToGo_69 (by decide) (fun c5 => ?_) (fun c6 => ?_)
      · skip
        refine g_iconst (v := 0) dX1_isToGo_76 (by decide) ?_
        refine s_istore (L' := [.ref 65, .int a1, .int a2, .ref 8, .int 0]) dX1_isToGo_77 (by decide) rfl rfl ?_
        refine g_aload_n dX1_isToGo_79 rfl rfl ?_
        refine rg_X2_6 (r := 15) dX1_isToGo_80 lf_X1_174 (sk_8 _) rfl ?_
        refine g_iload_n dX1_isToGo_83 rfl rfl ?_
        refine s_iald (j := a1.toNatClampNeg) (v := (I 15 a1.toNatClampNeg)) dX1_isToGo_84 (sk_15 _) (b6 c1 c3 c5) rfl rfl ?_
        refine g_iconst (v := 1) dX1_isToGo_85 (by decide) ?_
        refine g_icmp_ne (tgt := 125) dX1_isToGo_86 (by decide) (fun c7 => ?_) (fun c8 => ?_)
        · skip
          refine g_iconst (v := 0) dX1_isToGo_125 (by decide) ?_
          exact g_zret (ty := .boolean) rfl rfl dX1_isToGo_126 rfl (Nat.le_refl _) (q7 c1 c3 c5 c7)
        · skip
          refine g_iload_n dX1_isToGo_89 rfl rfl ?_
          refine g_aload_n dX1_isToGo_90 rfl rfl ?_
          refine rg_X2_0 (r := 9) dX1_isToGo_91 lf_X1_177 (sk_8 _) rfl ?_
          refine g_iload_n dX1_isToGo_94 rfl rfl ?_
          refine s_iald (j := a1.toNatClampNeg) (v := (I 9 a1.toNatClampNeg)) dX1_isToGo_95 (sk_9 _) (b8 c1 c3 c5 c8) rfl rfl ?_
          refine g_icmp_lt (tgt := 125) dX1_isToGo_96 (by decide) (fun c9 => ?_) (fun c10 => ?_)
          · skip
            refine g_iconst (v := 0) dX1_isToGo_125 (by decide) ?_
            exact g_zret (ty := .boolean) rfl rfl dX1_isToGo_126 rfl (Nat.le_refl _) (q9 c1 c3 c5 c8 c9)
          · skip
            refine g_iload dX1_isToGo_99 rfl ?_
            refine g_if_ne (tgt := 121) dX1_isToGo_101 (by decide) (fun hh => absurd hh (by decide)) (fun _ => ?_)
            refine g_iload_n dX1_isToGo_104 rfl rfl ?_
            refine g_aload_n dX1_isToGo_105 rfl rfl ?_
            refine rg_X2_0 (r := 9) dX1_isToGo_106 lf_X1_177 (sk_8 _) rfl ?_
            refine g_iload_n dX1_isToGo_109 rfl rfl ?_
            refine s_iald (j := a1.toNatClampNeg) (v := (I 9 a1.toNatClampNeg)) dX1_isToGo_110 (sk_9 _) (b10 c1 c3 c5 c8 c10) rfl rfl ?_
            refine g_aload_n dX1_isToGo_111 rfl rfl ?_
            refine rg_X2_7 (r := 16) dX1_isToGo_112 lf_X1_185 (sk_8 _) rfl ?_
            refine g_iload_n dX1_isToGo_115 rfl rfl ?_
            refine s_iald (j := a1.toNatClampNeg) (v := (I 16 a1.toNatClampNeg)) dX1_isToGo_116 (sk_16 _) (b11 c1 c3 c5 c8 c10) rfl rfl ?_
            refine g_iadd dX1_isToGo_117 ?_
            refine g_icmp_lt (tgt := 125) dX1_isToGo_118 (by decide) (fun c11 => ?_) (fun c12 => ?_)
            · skip
              refine g_iconst (v := 0) dX1_isToGo_125 (by decide) ?_
              exact g_zret (ty := .boolean) rfl rfl dX1_isToGo_126 rfl (Nat.le_refl _) (q12 c1 c3 c5 c8 c10 c11)
            · skip
              refine g_iconst (v := 1) dX1_isToGo_121 (by decide) ?_
              refine g_goto (tgt := 126) dX1_isToGo_122 (by decide) ?_
              exact g_zret (ty := .boolean) rfl rfl dX1_isToGo_126 rfl (Nat.le_refl _) (q13 c1 c3 c5 c8 c10 c12)
      · skip
        refine g_iconst (v := 1) dX1_isToGo_72 (by decide) ?_
        refine g_goto (tgt := 77) dX1_isToGo_73 (by decide) ?_
        refine s_istore (L' := [.ref 65, .int a1, .int a2, .ref 8, .int 1]) dX1_isToGo_77 (by decide) rfl rfl ?_
        refine g_aload_n dX1_isToGo_79 rfl rfl ?_
        refine rg_X2_6 (r := 15) dX1_isToGo_80 lf_X1_174 (sk_8 _) rfl ?_
        refine g_iload_n dX1_isToGo_83 rfl rfl ?_
        refine s_iald (j := a1.toNatClampNeg) (v := (I 15 a1.toNatClampNeg)) dX1_isToGo_84 (sk_15 _) (b14 c1 c3 c6) rfl rfl ?_
        refine g_iconst (v := 1) dX1_isToGo_85 (by decide) ?_
        refine g_icmp_ne (tgt := 125) dX1_isToGo_86 (by decide) (fun c13 => ?_) (fun c14 => ?_)
        · skip
          refine g_iconst (v := 0) dX1_isToGo_125 (by decide) ?_
          exact g_zret (ty := .boolean) rfl rfl dX1_isToGo_126 rfl (Nat.le_refl _) (q15 c1 c3 c6 c13)
        · skip
          refine g_iload_n dX1_isToGo_89 rfl rfl ?_
          refine g_aload_n dX1_isToGo_90 rfl rfl ?_
          refine rg_X2_0 (r := 9) dX1_isToGo_91 lf_X1_177 (sk_8 _) rfl ?_
          refine g_iload_n dX1_isToGo_94 rfl rfl ?_
          refine s_iald (j := a1.toNatClampNeg) (v := (I 9 a1.toNatClampNeg)) dX1_isToGo_95 (sk_9 _) (b16 c1 c3 c6 c14) rfl rfl ?_
          refine g_icmp_lt (tgt := 125) dX1_isToGo_96 (by decide) (fun c15 => ?_) (fun c16 => ?_)
          · skip
            refine g_iconst (v := 0) dX1_isToGo_125 (by decide) ?_
            exact g_zret (ty := .boolean) rfl rfl dX1_isToGo_126 rfl (Nat.le_refl _) (q17 c1 c3 c6 c14 c15)
          · skip
            refine g_iload dX1_isToGo_99 rfl ?_
            refine g_if_ne (tgt := 121) dX1_isToGo_101 (by decide) (fun _ => ?_) (fun hh => absurd hh (by decide))
            refine g_iconst (v := 1) dX1_isToGo_121 (by decide) ?_
            refine g_goto (tgt := 126) dX1_isToGo_122 (by decide) ?_
            exact g_zret (ty := .boolean) rfl rfl dX1_isToGo_126 rfl (Nat.le_refl _) (q18 c1 c3 c6 c14 c16)
    · skip
      refine g_iload_n dX1_isToGo_32 rfl rfl ?_
      refine g_aload_n dX1_isToGo_33 rfl rfl ?_
      refine rg_X2_0 (r := 9) dX1_isToGo_34 lf_X1_177 (sk_8 _) rfl ?_
      refine g_iload_n dX1_isToGo_37 rfl rfl ?_
      refine s_iald (j := a1.toNatClampNeg) (v := (I 9 a1.toNatClampNeg)) dX1_isToGo_38 (sk_9 _) (b19 c1 c4) rfl rfl ?_
      refine g_icmp_ne (tgt := 46) dX1_isToGo_39 (by decide) (fun c17 => ?_) (fun c18 => ?_)
      · skip
        refine g_iconst (v := 0) dX1_isToGo_46 (by decide) ?_
        exact g_zret (ty := .boolean) rfl rfl dX1_isToGo_47 rfl (Nat.le_refl _) (q20 c1 c4 c17)
      · skip
        refine g_iconst (v := 1) dX1_isToGo_42 (by decide) ?_
        refine g_goto (tgt := 47) dX1_isToGo_43 (by decide) ?_
        exact g_zret (ty := .boolean) rfl rfl dX1_isToGo_47 rfl (Nat.le_refl _) (q21 c1 c4 c18)
  · skip
    refine g_iconst (v := 0) dX1_isToGo_21 (by decide) ?_
    exact g_zret (ty := .boolean) rfl rfl dX1_isToGo_22 rfl (Nat.le_refl _) (q22 c2)
set_option maxRecDepth 10000 in
set_option maxHeartbeats 1000000 in
theorem sn_X1_cross {l : Launch} {d : Nat} {Q : Option Value → mx_H → Prop} {c : Nat} {I : mx_I} (a1 : Int32) (a2 : Int32) (a3 : Int32) (hc : at9 (sk0 c) c)
    (b1 : vp_in a1 20)
    (b2 : vp_in a1 20)
    (b3 : vp_in a1 20)
    (b4 : vp_in a1 20)
    (b5 : vp_in a1 20)
    (b6 : vp_in a1 20)
    (b7 : vp_in a1 20)
    (k8 : mx_K1 l mX1_choose d [.ref 65, .int ((I 10 a1.toNatClampNeg) + (I 11 a1.toNatClampNeg)), .int ((I 12 a1.toNatClampNeg) - (I 13 a1.toNatClampNeg)), .int (I 13 a1.toNatClampNeg), .int a2] (sk0 c, I) (fun r h' => mx_Go l (mx_rm (d + 1) 0 0) mX1_cross (mx_Z Q 0 0) 0 0 74 [.ref 65, .int a1, .int a2, .int a3, .ref 8, .int ((I 10 a1.toNatClampNeg) + (I 11 a1.toNatClampNeg)), .int (((I 10 a1.toNatClampNeg) + 1) - (I 11 a1.toNatClampNeg)), .retAddr 0, .retAddr 0, .retAddr 0] (r.toList ++ []) h')) :
    mx_Spec l mX1_cross (d + 1) 0 0 [.ref 65, .int a1, .int a2, .int a3] (sk0 c, I) Q := by
  refine mx_enter rfl (by simp [Value.category]) (Nat.le_of_ble_eq_true rfl) ?_
  change mx_Go l (mx_rm (d + 1) 0 0) mX1_cross (mx_Z Q 0 0) 0 0 0 [.ref 65, .int a1, .int a2, .int a3, .retAddr 0, .retAddr 0, .retAddr 0, .retAddr 0, .retAddr 0, .retAddr 0] [] (sk0 c, I)
  refine g_aload_n dX1_cross_0 rfl rfl ?_
  refine rg_X1_0 (r := 1) dX1_cross_1 lf_X1_25 (sk_65 _) rfl ?_
  refine rg_X10_1 (r := 8) dX1_cross_4 lf_X1_94 (sk_1 _) rfl ?_
  refine s_astore (L' := [.ref 65, .int a1, .int a2, .int a3, .ref 8, .retAddr 0, .retAddr 0, .retAddr 0, .retAddr 0, .retAddr 0]) dX1_cross_7 (by decide) rfl rfl ?_
  refine g_aload dX1_cross_9 rfl ?_
  refine rg_X2_1 (r := 10) dX1_cross_11 lf_X1_183 (sk_8 _) rfl ?_
  refine g_iload_n dX1_cross_14 rfl rfl ?_
  refine s_iald (j := a1.toNatClampNeg) (v := (I 10 a1.toNatClampNeg)) dX1_cross_15 (sk_10 _) (b1) rfl rfl ?_
  refine g_aload dX1_cross_16 rfl ?_
  refine rg_X2_2 (r := 11) dX1_cross_18 lf_X1_184 (sk_8 _) rfl ?_
  refine g_iload_n dX1_cross_21 rfl rfl ?_
  refine s_iald (j := a1.toNatClampNeg) (v := (I 11 a1.toNatClampNeg)) dX1_cross_22 (sk_11 _) (b2) rfl rfl ?_
  refine g_iadd dX1_cross_23 ?_
  refine s_istore (L' := [.ref 65, .int a1, .int a2, .int a3, .ref 8, .int ((I 10 a1.toNatClampNeg) + (I 11 a1.toNatClampNeg)), .retAddr 0, .retAddr 0, .retAddr 0, .retAddr 0]) dX1_cross_24 (by decide) rfl rfl ?_
  refine g_aload dX1_cross_26 rfl ?_
  refine rg_X2_1 (r := 10) dX1_cross_28 lf_X1_183 (sk_8 _) rfl ?_
  refine g_iload_n dX1_cross_31 rfl rfl ?_
  refine s_iald (j := a1.toNatClampNeg) (v := (I 10 a1.toNatClampNeg)) dX1_cross_32 (sk_10 _) (b3) rfl rfl ?_
  refine g_iconst (v := 1) dX1_cross_33 (by decide) ?_
  refine g_iadd dX1_cross_34 ?_
  refine g_aload dX1_cross_35 rfl ?_
  refine rg_X2_2 (r := 11) dX1_cross_37 lf_X1_184 (sk_8 _) rfl ?_
  refine g_iload_n dX1_cross_40 rfl rfl ?_
  refine s_iald (j := a1.toNatClampNeg) (v := (I 11 a1.toNatClampNeg)) dX1_cross_41 (sk_11 _) (b4) rfl rfl ?_
  refine g_isub dX1_cross_42 ?_
  refine s_istore (L' := [.ref 65, .int a1, .int a2, .int a3, .ref 8, .int ((I 10 a1.toNatClampNeg) + (I 11 a1.toNatClampNeg)), .int (((I 10 a1.toNatClampNeg) + 1) - (I 11 a1.toNatClampNeg)), .retAddr 0, .retAddr 0, .retAddr 0]) dX1_cross_43 (by decide) rfl rfl ?_
  refine g_aload_n dX1_cross_45 rfl rfl ?_
  refine g_iload dX1_cross_46 rfl ?_
  refine g_aload dX1_cross_48 rfl ?_
  refine rg_X2_3 (r := 12) dX1_cross_50 lf_X1_188 (sk_8 _) rfl ?_
  refine g_iload_n dX1_cross_53 rfl rfl ?_
  refine s_iald (j := a1.toNatClampNeg) (v := (I 12 a1.toNatClampNeg)) dX1_cross_54 (sk_12 _) (b5) rfl rfl ?_
  refine g_aload dX1_cross_55 rfl ?_
  refine rg_X2_4 (r := 13) dX1_cross_57 lf_X1_189 (sk_8 _) rfl ?_
  refine g_iload_n dX1_cross_60 rfl rfl ?_
  refine s_iald (j := a1.toNatClampNeg) (v := (I 13 a1.toNatClampNeg)) dX1_cross_61 (sk_13 _) (b6) rfl rfl ?_
  refine g_isub dX1_cross_62 ?_
  refine g_aload dX1_cross_63 rfl ?_
  refine rg_X2_4 (r := 13) dX1_cross_65 lf_X1_189 (sk_8 _) rfl ?_
  refine g_iload_n dX1_cross_68 rfl rfl ?_
  refine s_iald (j := a1.toNatClampNeg) (v := (I 13 a1.toNatClampNeg)) dX1_cross_69 (sk_13 _) (b7) rfl rfl ?_
  refine g_iload_n dX1_cross_70 rfl rfl ?_
  exact s_callV (M' := mX1_choose) (As := [.int ((I 10 a1.toNatClampNeg) + (I 11 a1.toNatClampNeg)), .int ((I 12 a1.toNatClampNeg) - (I 13 a1.toNatClampNeg)), .int (I 13 a1.toNatClampNeg), .int a2]) (st := []) dX1_cross_71 lm_X1_130 ovX1_choose (h := (sk0 c, I)) (sk_65 _) (show vwCl[1]? = some _ from rfl) rfl (by simp [Value.category]) (by decide) rfl (k8)
set_option maxRecDepth 10000 in
set_option maxHeartbeats 1000000 in
theorem sg_X1_cross_74 {l : Launch} {d : Nat} {Q : Option Value → mx_H → Prop} {c : Nat} {I : mx_I} (hc : at9 (sk0 c) c) (x1 : Int32) (x2 : Int32) (x3 : Int32) (x4 : Int32) (x5 : Int32) (x6 : Int32)
    (b1 : vp_in x1 20)
    (b2 : vp_in x1 20)
    (b3 : (((mx_set I (c + 7) x1.toNatClampNeg x2) 65 8) = (-1)) → vp_in x1 20)
    (k4 : (((mx_set I (c + 7) x1.toNatClampNeg x2) 65 8) = (-1)) → mx_K1 l mX1_carry d [.ref 65, .int x4, .int x5, .int x2, .int x1] (sk0 c, (mx_set (mx_set I (c + 7) x1.toNatClampNeg x2) (c + 8) x1.toNatClampNeg x6)) (fun r h' => mx_Go l (mx_rm (d + 1) 0 0) mX1_cross (mx_Z Q 0 0) 0 0 194 [.ref 65, .int x1, .int x2, .int x3, .ref 8, .int x4, .int x5, .int x6, .int ((I 14 x1.toNatClampNeg) * x6), .retAddr 0] (r.toList ++ []) h'))
    (b5 : (¬ ((mx_set I (c + 7) x1.toNatClampNeg x2) 65 8) = (-1)) → (((I 14 x1.toNatClampNeg) * x6) ≤ ((mx_set I (c + 7) x1.toNatClampNeg x2) 65 8)) → vp_in x1 20)
    (k6 : (¬ ((mx_set I (c + 7) x1.toNatClampNeg x2) 65 8) = (-1)) → (((I 14 x1.toNatClampNeg) * x6) ≤ ((mx_set I (c + 7) x1.toNatClampNeg x2) 65 8)) → mx_K1 l mX1_carry d [.ref 65, .int x4, .int x5, .int x2, .int x1] (sk0 c, (mx_set (mx_set I (c + 7) x1.toNatClampNeg x2) (c + 8) x1.toNatClampNeg x6)) (fun r h' => mx_Go l (mx_rm (d + 1) 0 0) mX1_cross (mx_Z Q 0 0) 0 0 194 [.ref 65, .int x1, .int x2, .int x3, .ref 8, .int x4, .int x5, .int x6, .int ((I 14 x1.toNatClampNeg) * x6), .retAddr 0] (r.toList ++ []) h'))
    (b7 : (¬ ((mx_set I (c + 7) x1.toNatClampNeg x2) 65 8) = (-1)) → (¬ ((I 14 x1.toNatClampNeg) * x6) ≤ ((mx_set I (c + 7) x1.toNatClampNeg x2) 65 8)) → vp_in x1 20)
    (q8 : (¬ ((mx_set I (c + 7) x1.toNatClampNeg x2) 65 8) = (-1)) → (¬ ((I 14 x1.toNatClampNeg) * x6) ≤ ((mx_set I (c + 7) x1.toNatClampNeg x2) 65 8)) → (¬ ((mx_set (mx_set (mx_set I (c + 7) x1.toNatClampNeg x2) (c + 9) x1.toNatClampNeg ((mx_set I (c + 7) x1.toNatClampNeg x2) 65 8)) c 10 ((I c 10) + ((mx_set (mx_set I (c + 7) x1.toNatClampNeg x2) (c + 9) x1.toNatClampNeg ((mx_set I (c + 7) x1.toNatClampNeg x2) 65 8)) 65 8))) 65 14) = (-1)) → (20 ≤ x3) → Q none (sk0 c, (mx_set (mx_set (mx_set (mx_set I (c + 7) x1.toNatClampNeg x2) (c + 9) x1.toNatClampNeg ((mx_set I (c + 7) x1.toNatClampNeg x2) 65 8)) c 10 ((I c 10) + ((mx_set (mx_set I (c + 7) x1.toNatClampNeg x2) (c + 9) x1.toNatClampNeg ((mx_set I (c + 7) x1.toNatClampNeg x2) 65 8)) 65 8))) 65 14 (if ((I 14 x1.toNatClampNeg) * x6) < ((mx_set (mx_set (mx_set I (c + 7) x1.toNatClampNeg x2) (c + 9) x1.toNatClampNeg ((mx_set I (c + 7) x1.toNatClampNeg x2) 65 8)) c 10 ((I c 10) + ((mx_set (mx_set I (c + 7) x1.toNatClampNeg x2) (c + 9) x1.toNatClampNeg ((mx_set I (c + 7) x1.toNatClampNeg x2) 65 8)) 65 8))) 65 14) then ((I 14 x1.toNatClampNeg) * x6) else ((mx_set (mx_set (mx_set I (c + 7) x1.toNatClampNeg x2) (c + 9) x1.toNatClampNeg ((mx_set I (c + 7) x1.toNatClampNeg x2) 65 8)) c 10 ((I c 10) + ((mx_set (mx_set I (c + 7) x1.toNatClampNeg x2) (c + 9) x1.toNatClampNeg ((mx_set I (c + 7) x1.toNatClampNeg x2) 65 8)) 65 8))) 65 14)))))
    (e9 : (¬ ((mx_set I (c + 7) x1.toNatClampNeg x2) 65 8) = (-1)) → (¬ ((I 14 x1.toNatClampNeg) * x6) ≤ ((mx_set I (c + 7) x1.toNatClampNeg x2) 65 8)) → (¬ ((mx_set (mx_set (mx_set I (c + 7) x1.toNatClampNeg x2) (c + 9) x1.toNatClampNeg ((mx_set I (c + 7) x1.toNatClampNeg x2) 65 8)) c 10 ((I c 10) + ((mx_set (mx_set I (c + 7) x1.toNatClampNeg x2) (c + 9) x1.toNatClampNeg ((mx_set I (c + 7) x1.toNatClampNeg x2) 65 8)) 65 8))) 65 14) = (-1)) → (¬ 20 ≤ x3) → mx_Go l (mx_rm (d + 1) 0 0) mX1_cross (mx_Z Q 0 0) 0 0 203 [.ref 65, .int x1, .int x2, .int x3, .ref 8, .int x4, .int x5, .int x6, .int ((I 14 x1.toNatClampNeg) * x6), .int 0] [] (sk0 c, (mx_set (mx_set (mx_set (mx_set I (c + 7) x1.toNatClampNeg x2) (c + 9) x1.toNatClampNeg ((mx_set I (c + 7) x1.toNatClampNeg x2) 65 8)) c 10 ((I c 10) + ((mx_set (mx_set I (c + 7) x1.toNatClampNeg x2) (c + 9) x1.toNatClampNeg ((mx_set I (c + 7) x1.toNatClampNeg x2) 65 8)) 65 8))) 65 14 (if ((I 14 x1.toNatClampNeg) * x6) < ((mx_set (mx_set (mx_set I (c + 7) x1.toNatClampNeg x2) (c + 9) x1.toNatClampNeg ((mx_set I (c + 7) x1.toNatClampNeg x2) 65 8)) c 10 ((I c 10) + ((mx_set (mx_set I (c + 7) x1.toNatClampNeg x2) (c + 9) x1.toNatClampNeg ((mx_set I (c + 7) x1.toNatClampNeg x2) 65 8)) 65 8))) 65 14) then ((I 14 x1.toNatClampNeg) * x6) else ((mx_set (mx_set (mx_set I (c + 7) x1.toNatClampNeg x2) (c + 9) x1.toNatClampNeg ((mx_set I (c + 7) x1.toNatClampNeg x2) 65 8)) c 10 ((I c 10) + ((mx_set (mx_set I (c + 7) x1.toNatClampNeg x2) (c + 9) x1.toNatClampNeg ((mx_set I (c + 7) x1.toNatClampNeg x2) 65 8)) 65 8))) 65 14)))))
    (q10 : (¬ ((mx_set I (c + 7) x1.toNatClampNeg x2) 65 8) = (-1)) → (¬ ((I 14 x1.toNatClampNeg) * x6) ≤ ((mx_set I (c + 7) x1.toNatClampNeg x2) 65 8)) → (((mx_set (mx_set (mx_set I (c + 7) x1.toNatClampNeg x2) (c + 9) x1.toNatClampNeg ((mx_set I (c + 7) x1.toNatClampNeg x2) 65 8)) c 10 ((I c 10) + ((mx_set (mx_set I (c + 7) x1.toNatClampNeg x2) (c + 9) x1.toNatClampNeg ((mx_set I (c + 7) x1.toNatClampNeg x2) 65 8)) 65 8))) 65 14) = (-1)) → (20 ≤ x3) → Q none (sk0 c, (mx_set (mx_set (mx_set (mx_set I (c + 7) x1.toNatClampNeg x2) (c + 9) x1.toNatClampNeg ((mx_set I (c + 7) x1.toNatClampNeg x2) 65 8)) c 10 ((I c 10) + ((mx_set (mx_set I (c + 7) x1.toNatClampNeg x2) (c + 9) x1.toNatClampNeg ((mx_set I (c + 7) x1.toNatClampNeg x2) 65 8)) 65 8))) 65 14 ((I 14 x1.toNatClampNeg) * x6))))
    (e11 : (¬ ((mx_set I (c + 7) x1.toNatClampNeg x2) 65 8) = (-1)) → (¬ ((I 14 x1.toNatClampNeg) * x6) ≤ ((mx_set I (c + 7) x1.toNatClampNeg x2) 65 8)) → (((mx_set (mx_set (mx_set I (c + 7) x1.toNatClampNeg x2) (c + 9) x1.toNatClampNeg ((mx_set I (c + 7) x1.toNatClampNeg x2) 65 8)) c 10 ((I c 10) + ((mx_set (mx_set I (c + 7) x1.toNatClampNeg x2) (c + 9) x1.toNatClampNeg ((mx_set I (c + 7) x1.toNatClampNeg x2) 65 8)) 65 8))) 65 14) = (-1)) → (¬ 20 ≤ x3) → mx_Go l (mx_rm (d + 1) 0 0) mX1_cross (mx_Z Q 0 0) 0 0 203 [.ref 65, .int x1, .int x2, .int x3, .ref 8, .int x4, .int x5, .int x6, .int ((I 14 x1.toNatClampNeg) * x6), .int 0] [] (sk0 c, (mx_set (mx_set (mx_set (mx_set I (c + 7) x1.toNatClampNeg x2) (c + 9) x1.toNatClampNeg ((mx_set I (c + 7) x1.toNatClampNeg x2) 65 8)) c 10 ((I c 10) + ((mx_set (mx_set I (c + 7) x1.toNatClampNeg x2) (c + 9) x1.toNatClampNeg ((mx_set I (c + 7) x1.toNatClampNeg x2) 65 8)) 65 8))) 65 14 ((I 14 x1.toNatClampNeg) * x6)))) :
    mx_Go l (mx_rm (d + 1) 0 0) mX1_cross (mx_Z Q 0 0) 0 0 74 [.ref 65, .int x1, .int x2, .int x3, .ref 8, .int x4, .int x5, .retAddr 0, .retAddr 0, .retAddr 0] [.int x6] (sk0 c, I) := by
  refine s_istore (L' := [.ref 65, .int x1, .int x2, .int x3, .ref 8, .int x4, .int x5, .int x6, .retAddr 0, .retAddr 0]) dX1_cross_74 (by decide) rfl rfl ?_
  refine g_aload dX1_cross_76 rfl ?_
  refine rg_X2_5 (r := 14) dX1_cross_78 lf_X1_192 (sk_8 _) rfl ?_
  refine g_iload_n dX1_cross_81 rfl rfl ?_
  refine s_iald (j := x1.toNatClampNeg) (v := (I 14 x1.toNatClampNeg)) dX1_cross_82 (sk_14 _) (b1) rfl rfl ?_
  refine g_iload dX1_cross_83 rfl ?_
  refine g_imul dX1_cross_85 ?_
  refine s_istore (L' := [.ref 65, .int x1, .int x2, .int x3, .ref 8, .int x4, .int x5, .int x6, .int ((I 14 x1.toNatClampNeg) * x6), .retAddr 0]) dX1_cross_86 (by decide) rfl rfl ?_
  refine g_aload_n dX1_cross_88 rfl rfl ?_
  refine rg_X1_6 (r := c) dX1_cross_89 lf_X1_33 (sk_65 _) rfl ?_
  refine rg_X9_6 (r := (c + 7)) dX1_cross_92 lf_X1_171 hc.1 rfl ?_
  refine g_iload_n dX1_cross_95 rfl rfl ?_
  refine g_iload_n dX1_cross_96 rfl rfl ?_
  refine s_iast (j := x1.toNatClampNeg) dX1_cross_97 hc.2.2.2.2.2.2.2.1 (b2) rfl ?_
  refine g_aload_n dX1_cross_98 rfl rfl ?_
  refine rg_X1_8 (v := ((mx_set I (c + 7) x1.toNatClampNeg x2) 65 8)) dX1_cross_99 lf_X1_47 (sk_65 _) rfl ?_
  refine g_iconst (v := (-1)) dX1_cross_102 (by decide) ?_
  refine g_icmp_eq (tgt := 173) dX1_cross_103 (by decide) (fun c1 => ?_) (fun c2 => ?_)
  · skip
    refine g_aload_n dX1_cross_173 rfl rfl ?_
    refine rg_X1_6 (r := c) dX1_cross_174 lf_X1_33 (sk_65 _) rfl ?_
    refine rg_X9_7 (r := (c + 8)) dX1_cross_177 lf_X1_207 hc.1 rfl ?_
    refine g_iload_n dX1_cross_180 rfl rfl ?_
    refine g_iload dX1_cross_181 rfl ?_
    refine s_iast (j := x1.toNatClampNeg) dX1_cross_183 hc.2.2.2.2.2.2.2.2.1 (b3 c1) rfl ?_
    refine g_aload_n dX1_cross_184 rfl rfl ?_
    refine g_iload dX1_cross_185 rfl ?_
    refine g_iload dX1_cross_187 rfl ?_
    refine g_iload_n dX1_cross_189 rfl rfl ?_
    refine g_iload_n dX1_cross_190 rfl rfl ?_
    exact s_callV (M' := mX1_carry) (As := [.int x4, .int x5, .int x2, .int x1]) (st := []) dX1_cross_191 lm_X1_134 ovX1_carry (h := (sk0 c, (mx_set (mx_set I (c + 7) x1.toNatClampNeg x2) (c + 8) x1.toNatClampNeg x6))) (sk_65 _) (show vwCl[1]? = some _ from rfl) rfl (by simp [Value.category]) (by decide) rfl (k4 c1)
  · skip
    refine g_iload dX1_cross_106 rfl ?_
    refine g_aload_n dX1_cross_108 rfl rfl ?_
    refine rg_X1_8 (v := ((mx_set I (c + 7) x1.toNatClampNeg x2) 65 8)) dX1_cross_109 lf_X1_47 (sk_65 _) rfl ?_
    refine g_icmp_le (tgt := 173) dX1_cross_112 (by decide) (fun c3 => ?_) (fun c4 => ?_)
    · skip
      refine g_aload_n dX1_cross_173 rfl rfl ?_
      refine rg_X1_6 (r := c) dX1_cross_174 lf_X1_33 (sk_65 _) rfl ?_
      refine rg_X9_7 (r := (c + 8)) dX1_cross_177 lf_X1_207 hc.1 rfl ?_
      refine g_iload_n dX1_cross_180 rfl rfl ?_
      refine g_iload dX1_cross_181 rfl ?_
      refine s_iast (j := x1.toNatClampNeg) dX1_cross_183 hc.2.2.2.2.2.2.2.2.1 (b5 c2 c3) rfl ?_
      refine g_aload_n dX1_cross_184 rfl rfl ?_
      refine g_iload dX1_cross_185 rfl ?_
      refine g_iload dX1_cross_187 rfl ?_
      refine g_iload_n dX1_cross_189 rfl rfl ?_
      refine g_iload_n dX1_cross_190 rfl rfl ?_
      exact s_callV (M' := mX1_carry) (As := [.int x4, .int x5, .int x2, .int x1]) (st := []) dX1_cross_191 lm_X1_134 ovX1_carry (h := (sk0 c, (mx_set (mx_set I (c + 7) x1.toNatClampNeg x2) (c + 8) x1.toNatClampNeg x6))) (sk_65 _) (show vwCl[1]? = some _ from rfl) rfl (by simp [Value.category]) (by decide) rfl (k6 c2 c3)
    · skip
      refine g_aload_n dX1_cross_115 rfl rfl ?_
      refine rg_X1_6 (r := c) dX1_cross_116 lf_X1_33 (sk_65 _) rfl ?_
      refine rg_X9_8 (r := (c + 9)) dX1_cross_119 lf_X1_195 hc.1 rfl ?_
      refine g_iload_n dX1_cross_122 rfl rfl ?_
      refine g_aload_n dX1_cross_123 rfl rfl ?_
      refine rg_X1_8 (v := ((mx_set I (c + 7) x1.toNatClampNeg x2) 65 8)) dX1_cross_124 lf_X1_47 (sk_65 _) rfl ?_
      refine s_iast (j := x1.toNatClampNeg) dX1_cross_127 hc.2.2.2.2.2.2.2.2.2 (b7 c2 c4) rfl ?_
      refine g_aload_n dX1_cross_128 rfl rfl ?_
      refine rg_X1_6 (r := c) dX1_cross_129 lf_X1_33 (sk_65 _) rfl ?_
      refine g_dup dX1_cross_132 rfl ?_
      refine rg_X9_10 (v := (I c 10)) dX1_cross_133 lf_X1_198 hc.1 (rd_ne (by omega) (rd_ne (by omega) rfl)) ?_
      refine g_aload_n dX1_cross_136 rfl rfl ?_
      refine rg_X1_8 (v := ((mx_set (mx_set I (c + 7) x1.toNatClampNeg x2) (c + 9) x1.toNatClampNeg ((mx_set I (c + 7) x1.toNatClampNeg x2) 65 8)) 65 8)) dX1_cross_137 lf_X1_47 (sk_65 _) rfl ?_
      refine g_iadd dX1_cross_140 ?_
      refine rp_X9_10 dX1_cross_141 lf_X1_198 hc.1 ?_
      refine g_aload_n dX1_cross_144 rfl rfl ?_
      refine g_aload_n dX1_cross_145 rfl rfl ?_
      refine rg_X1_14 (v := ((mx_set (mx_set (mx_set I (c + 7) x1.toNatClampNeg x2) (c + 9) x1.toNatClampNeg ((mx_set I (c + 7) x1.toNatClampNeg x2) 65 8)) c 10 ((I c 10) + ((mx_set (mx_set I (c + 7) x1.toNatClampNeg x2) (c + 9) x1.toNatClampNeg ((mx_set I (c + 7) x1.toNatClampNeg x2) 65 8)) 65 8))) 65 14)) dX1_cross_146 lf_X1_63 (sk_65 _) rfl ?_
      refine g_iconst (v := (-1)) dX1_cross_149 (by decide) ?_
      refine g_icmp_ne (tgt := 158) dX1_cross_150 (by decide) (fun c5 => ?_) (fun c6 => ?_)
      · skip
        refine g_aload_n dX1_cross_158 rfl rfl ?_
        refine rg_X1_14 (v := ((mx_set (mx_set (mx_set I (c + 7) x1.toNatClampNeg x2) (c + 9) x1.toNatClampNeg ((mx_set I (c + 7) x1.toNatClampNeg x2) 65 8)) c 10 ((I c 10) + ((mx_set (mx_set I (c + 7) x1.toNatClampNeg x2) (c + 9) x1.toNatClampNeg ((mx_set I (c + 7) x1.toNatClampNeg x2) 65 8)) 65 8))) 65 14)) dX1_cross_159 lf_X1_63 (sk_65 _) rfl ?_
        refine g_iload dX1_cross_162 rfl ?_
        refine s_min (by simp [Value.category]) dX1_cross_164 lm_X1_201 ?_
        refine rp_X1_14 dX1_cross_167 lf_X1_63 (sk_65 _) ?_
        refine g_goto (tgt := 194) dX1_cross_170 (by decide) ?_
        refine g_iload_n dX1_cross_194 rfl rfl ?_
        refine g_bipush (v := 20) dX1_cross_195 (by decide) ?_
        refine g_icmp_ge (tgt := 239) dX1_cross_197 (by decide) (fun c7 => ?_) (fun c8 => ?_)
        · skip
          exact g_vret rfl dX1_cross_239 rfl (Nat.le_refl _) (q8 c2 c4 c5 c7)
        · skip
          refine g_iconst (v := 0) dX1_cross_200 (by decide) ?_
          refine s_istore (L' := [.ref 65, .int x1, .int x2, .int x3, .ref 8, .int x4, .int x5, .int x6, .int ((I 14 x1.toNatClampNeg) * x6), .int 0]) dX1_cross_201 (by decide) rfl rfl ?_
          exact e9 c2 c4 c5 c8
      · skip
        refine g_iload dX1_cross_153 rfl ?_
        refine g_goto (tgt := 167) dX1_cross_155 (by decide) ?_
        refine rp_X1_14 dX1_cross_167 lf_X1_63 (sk_65 _) ?_
        refine g_goto (tgt := 194) dX1_cross_170 (by decide) ?_
        refine g_iload_n dX1_cross_194 rfl rfl ?_
        refine g_bipush (v := 20) dX1_cross_195 (by decide) ?_
        refine g_icmp_ge (tgt := 239) dX1_cross_197 (by decide) (fun c9 => ?_) (fun c10 => ?_)
        · skip
          exact g_vret rfl dX1_cross_239 rfl (Nat.le_refl _) (q10 c2 c4 c6 c9)
        · skip
          refine g_iconst (v := 0) dX1_cross_200 (by decide) ?_
          refine s_istore (L' := [.ref 65, .int x1, .int x2, .int x3, .ref 8, .int x4, .int x5, .int x6, .int ((I 14 x1.toNatClampNeg) * x6), .int 0]) dX1_cross_201 (by decide) rfl rfl ?_
          exact e11 c2 c4 c6 c10
set_option maxRecDepth 10000 in
set_option maxHeartbeats 1000000 in
theorem sg_X1_cross_194 {l : Launch} {d : Nat} {Q : Option Value → mx_H → Prop} {c : Nat} {I : mx_I} (hc : at9 (sk0 c) c) (x1 : Int32) (x2 : Int32) (x3 : Int32) (x4 : Int32) (x5 : Int32) (x6 : Int32) (x7 : Int32)
    (q1 : (20 ≤ x3) → Q none (sk0 c, I))
    (e2 : (¬ 20 ≤ x3) → mx_Go l (mx_rm (d + 1) 0 0) mX1_cross (mx_Z Q 0 0) 0 0 203 [.ref 65, .int x1, .int x2, .int x3, .ref 8, .int x4, .int x5, .int x6, .int x7, .int 0] [] (sk0 c, I)) :
    mx_Go l (mx_rm (d + 1) 0 0) mX1_cross (mx_Z Q 0 0) 0 0 194 [.ref 65, .int x1, .int x2, .int x3, .ref 8, .int x4, .int x5, .int x6, .int x7, .retAddr 0] [] (sk0 c, I) := by
  refine g_iload_n dX1_cross_194 rfl rfl ?_
  refine g_bipush (v := 20) dX1_cross_195 (by decide) ?_
  refine g_icmp_ge (tgt := 239) dX1_cross_197 (by decide) (fun c1 => ?_) (fun c2 => ?_)
  · skip
    exact g_vret rfl dX1_cross_239 rfl (Nat.le_refl _) (q1 c1)
  · skip
    refine g_iconst (v := 0) dX1_cross_200 (by decide) ?_
    refine s_istore (L' := [.ref 65, .int x1, .int x2, .int x3, .ref 8, .int x4, .int x5, .int x6, .int x7, .int 0]) dX1_cross_201 (by decide) rfl rfl ?_
    exact e2 c2
set_option maxRecDepth 10000 in
set_option maxHeartbeats 1000000 in
theorem sg_X1_cross_203 {l : Launch} {d : Nat} {Q : Option Value → mx_H → Prop} {c : Nat} {I : mx_I} (hc : at9 (sk0 c) c) (x1 : Int32) (x2 : Int32) (x3 : Int32) (x4 : Int32) (x5 : Int32) (x6 : Int32) (x7 : Int32) (x8 : Int32)
    (q1 : ((I 8 9) ≤ x8) → Q none (sk0 c, I))
    (k2 : (¬ (I 8 9) ≤ x8) → mx_K1 l mX1_isBehind d [.ref 65, .int x8, .int x1] (sk0 c, I) (fun r h' => mx_Go l (mx_rm (d + 1) 0 0) mX1_cross (mx_Z Q 0 0) 0 0 220 [.ref 65, .int x1, .int x2, .int x3, .ref 8, .int x4, .int x5, .int x6, .int x7, .int x8] (r.toList ++ []) h')) :
    mx_Go l (mx_rm (d + 1) 0 0) mX1_cross (mx_Z Q 0 0) 0 0 203 [.ref 65, .int x1, .int x2, .int x3, .ref 8, .int x4, .int x5, .int x6, .int x7, .int x8] [] (sk0 c, I) := by
  refine g_iload dX1_cross_203 rfl ?_
  refine g_aload dX1_cross_205 rfl ?_
  refine rg_X2_9 (v := (I 8 9)) dX1_cross_207 lf_X1_98 (sk_8 _) rfl ?_
  refine g_icmp_ge (tgt := 239) dX1_cross_210 (by decide) (fun c1 => ?_) (fun c2 => ?_)
  · skip
    exact g_vret rfl dX1_cross_239 rfl (Nat.le_refl _) (q1 c1)
  · skip
    refine g_aload_n dX1_cross_213 rfl rfl ?_
    refine g_iload dX1_cross_214 rfl ?_
    refine g_iload_n dX1_cross_216 rfl rfl ?_
    exact s_callV (M' := mX1_isBehind) (As := [.int x8, .int x1]) (st := []) dX1_cross_217 lm_X1_210 ovX1_isBehind (h := (sk0 c, I)) (sk_65 _) (show vwCl[1]? = some _ from rfl) rfl (by simp [Value.category]) (by decide) rfl (k2 c2)
set_option maxRecDepth 10000 in
set_option maxHeartbeats 1000000 in
theorem sg_X1_cross_220 {l : Launch} {d : Nat} {Q : Option Value → mx_H → Prop} {c : Nat} {I : mx_I} (hc : at9 (sk0 c) c) (x1 : Int32) (x2 : Int32) (x3 : Int32) (x4 : Int32) (x5 : Int32) (x6 : Int32) (x7 : Int32) (x8 : Int32) (x9 : Int32)
    (e1 : (x9 = 0) → mx_Go l (mx_rm (d + 1) 0 0) mX1_cross (mx_Z Q 0 0) 0 0 203 [.ref 65, .int x1, .int x2, .int x3, .ref 8, .int x4, .int x5, .int x6, .int x7, .int (x8 + 1)] [] (sk0 c, I))
    (k2 : (¬ x9 = 0) → mx_K1 l mX1_cross d [.ref 65, .int x8, .int x2, .int (x3 + 1)] (sk0 c, I) (fun r h' => mx_Go l (mx_rm (d + 1) 0 0) mX1_cross (mx_Z Q 0 0) 0 0 233 [.ref 65, .int x1, .int x2, .int x3, .ref 8, .int x4, .int x5, .int x6, .int x7, .int x8] (r.toList ++ []) h')) :
    mx_Go l (mx_rm (d + 1) 0 0) mX1_cross (mx_Z Q 0 0) 0 0 220 [.ref 65, .int x1, .int x2, .int x3, .ref 8, .int x4, .int x5, .int x6, .int x7, .int x8] [.int x9] (sk0 c, I) := by
  refine g_if_eq (tgt := 233) dX1_cross_220 (by decide) (fun c1 => ?_) (fun c2 => ?_)
  · skip
    refine s_iinc (v := (x8 + 1)) (L' := [.ref 65, .int x1, .int x2, .int x3, .ref 8, .int x4, .int x5, .int x6, .int x7, .int (x8 + 1)]) dX1_cross_233 rfl (by decide) rfl rfl rfl ?_
    refine g_goto (tgt := 203) dX1_cross_236 (by decide) ?_
    exact e1 c1
  · skip
    refine g_aload_n dX1_cross_223 rfl rfl ?_
    refine g_iload dX1_cross_224 rfl ?_
    refine g_iload_n dX1_cross_226 rfl rfl ?_
    refine g_iload_n dX1_cross_227 rfl rfl ?_
    refine g_iconst (v := 1) dX1_cross_228 (by decide) ?_
    refine g_iadd dX1_cross_229 ?_
    exact s_callV (M' := mX1_cross) (As := [.int x8, .int x2, .int (x3 + 1)]) (st := []) dX1_cross_230 lm_X1_107 ovX1_cross (h := (sk0 c, I)) (sk_65 _) (show vwCl[1]? = some _ from rfl) rfl (by simp [Value.category]) (by decide) rfl (k2 c2)
set_option maxRecDepth 10000 in
set_option maxHeartbeats 1000000 in
theorem sg_X1_cross_233 {l : Launch} {d : Nat} {Q : Option Value → mx_H → Prop} {c : Nat} {I : mx_I} (hc : at9 (sk0 c) c) (x1 : Int32) (x2 : Int32) (x3 : Int32) (x4 : Int32) (x5 : Int32) (x6 : Int32) (x7 : Int32) (x8 : Int32)
    (e1 : mx_Go l (mx_rm (d + 1) 0 0) mX1_cross (mx_Z Q 0 0) 0 0 203 [.ref 65, .int x1, .int x2, .int x3, .ref 8, .int x4, .int x5, .int x6, .int x7, .int (x8 + 1)] [] (sk0 c, I)) :
    mx_Go l (mx_rm (d + 1) 0 0) mX1_cross (mx_Z Q 0 0) 0 0 233 [.ref 65, .int x1, .int x2, .int x3, .ref 8, .int x4, .int x5, .int x6, .int x7, .int x8] [] (sk0 c, I) := by
  refine s_iinc (v := (x8 + 1)) (L' := [.ref 65, .int x1, .int x2, .int x3, .ref 8, .int x4, .int x5, .int x6, .int x7, .int (x8 + 1)]) dX1_cross_233 rfl (by decide) rfl rfl rfl ?_
  refine g_goto (tgt := 203) dX1_cross_236 (by decide) ?_
  exact e1
set_option maxRecDepth 10000 in
set_option maxHeartbeats 1000000 in
theorem sn_X1_isBehind {l : Launch} {d : Nat} {Q : Option Value → mx_H → Prop} {c : Nat} {I : mx_I} (a1 : Int32) (a2 : Int32) (hc : at9 (sk0 c) c)
    (b1 : vp_in a1 20)
    (q2 : (¬ (I 15 a1.toNatClampNeg) = 2) → Q (some (.int 0)) (sk0 c, I))
    (b3 : ((I 15 a1.toNatClampNeg) = 2) → vp_in a1 20)
    (q4 : ((I 15 a1.toNatClampNeg) = 2) → (¬ (I 16 a1.toNatClampNeg) = a2) → Q (some (.int 0)) (sk0 c, I))
    (b5 : ((I 15 a1.toNatClampNeg) = 2) → ((I 16 a1.toNatClampNeg) = a2) → vp_in a1 20)
    (q6 : ((I 15 a1.toNatClampNeg) = 2) → ((I 16 a1.toNatClampNeg) = a2) → (¬ (I (c + 7) a1.toNatClampNeg) = (-1)) → Q (some (.int 0)) (sk0 c, I))
    (q7 : ((I 15 a1.toNatClampNeg) = 2) → ((I 16 a1.toNatClampNeg) = a2) → ((I (c + 7) a1.toNatClampNeg) = (-1)) → (¬ (((I 65 10) >>> (a1 &&& 31)) &&& 1) = 0) → Q (some (.int 0)) (sk0 c, I))
    (q8 : ((I 15 a1.toNatClampNeg) = 2) → ((I 16 a1.toNatClampNeg) = a2) → ((I (c + 7) a1.toNatClampNeg) = (-1)) → ((((I 65 10) >>> (a1 &&& 31)) &&& 1) = 0) → Q (some (.int 1)) (sk0 c, I)) :
    mx_Spec l mX1_isBehind (d + 1) 0 0 [.ref 65, .int a1, .int a2] (sk0 c, I) Q := by
  refine mx_enter rfl (by simp [Value.category]) (Nat.le_of_ble_eq_true rfl) ?_
  change mx_Go l (mx_rm (d + 1) 0 0) mX1_isBehind (mx_Z Q 0 0) 0 0 0 [.ref 65, .int a1, .int a2] [] (sk0 c, I)
  refine g_aload_n dX1_isBehind_0 rfl rfl ?_
  refine rg_X1_0 (r := 1) dX1_isBehind_1 lf_X1_25 (sk_65 _) rfl ?_
  refine rg_X10_1 (r := 8) dX1_isBehind_4 lf_X1_94 (sk_1 _) rfl ?_
  refine rg_X2_6 (r := 15) dX1_isBehind_7 lf_X1_174 (sk_8 _) rfl ?_
  refine g_iload_n dX1_isBehind_10 rfl rfl ?_
  refine s_iald (j := a1.toNatClampNeg) (v := (I 15 a1.toNatClampNeg)) dX1_isBehind_11 (sk_15 _) (b1) rfl rfl ?_
  refine g_iconst (v := 2) dX1_isBehind_12 (by decide) ?_
  refine g_icmp_ne (tgt := 60) dX1_isBehind_13 (by decide) (fun c1 => ?_) (fun c2 => ?_)
  · skip
    refine g_iconst (v := 0) dX1_isBehind_60 (by decide) ?_
    exact g_zret (ty := .boolean) rfl rfl dX1_isBehind_61 rfl (Nat.le_refl _) (q2 c1)
  · skip
    refine g_aload_n dX1_isBehind_16 rfl rfl ?_
    refine rg_X1_0 (r := 1) dX1_isBehind_17 lf_X1_25 (sk_65 _) rfl ?_
    refine rg_X10_1 (r := 8) dX1_isBehind_20 lf_X1_94 (sk_1 _) rfl ?_
    refine rg_X2_7 (r := 16) dX1_isBehind_23 lf_X1_185 (sk_8 _) rfl ?_
    refine g_iload_n dX1_isBehind_26 rfl rfl ?_
    refine s_iald (j := a1.toNatClampNeg) (v := (I 16 a1.toNatClampNeg)) dX1_isBehind_27 (sk_16 _) (b3 c2) rfl rfl ?_
    refine g_iload_n dX1_isBehind_28 rfl rfl ?_
    refine g_icmp_ne (tgt := 60) dX1_isBehind_29 (by decide) (fun c3 => ?_) (fun c4 => ?_)
    · skip
      refine g_iconst (v := 0) dX1_isBehind_60 (by decide) ?_
      exact g_zret (ty := .boolean) rfl rfl dX1_isBehind_61 rfl (Nat.le_refl _) (q4 c2 c3)
    · skip
      refine g_aload_n dX1_isBehind_32 rfl rfl ?_
      refine rg_X1_6 (r := c) dX1_isBehind_33 lf_X1_33 (sk_65 _) rfl ?_
      refine rg_X9_6 (r := (c + 7)) dX1_isBehind_36 lf_X1_171 hc.1 rfl ?_
      refine g_iload_n dX1_isBehind_39 rfl rfl ?_
      refine s_iald (j := a1.toNatClampNeg) (v := (I (c + 7) a1.toNatClampNeg)) dX1_isBehind_40 hc.2.2.2.2.2.2.2.1 (b5 c2 c4) rfl rfl ?_
      refine g_iconst (v := (-1)) dX1_isBehind_41 (by decide) ?_
      refine g_icmp_ne (tgt := 60) dX1_isBehind_42 (by decide) (fun c5 => ?_) (fun c6 => ?_)
      · skip
        refine g_iconst (v := 0) dX1_isBehind_60 (by decide) ?_
        exact g_zret (ty := .boolean) rfl rfl dX1_isBehind_61 rfl (Nat.le_refl _) (q6 c2 c4 c5)
      · skip
        refine g_aload_n dX1_isBehind_45 rfl rfl ?_
        refine rg_X1_10 (v := (I 65 10)) dX1_isBehind_46 lf_X1_51 (sk_65 _) rfl ?_
        refine g_iload_n dX1_isBehind_49 rfl rfl ?_
        refine g_ishr dX1_isBehind_50 ?_
        refine g_iconst (v := 1) dX1_isBehind_51 (by decide) ?_
        refine g_iand dX1_isBehind_52 ?_
        refine g_if_ne (tgt := 60) dX1_isBehind_53 (by decide) (fun c7 => ?_) (fun c8 => ?_)
        · skip
          refine g_iconst (v := 0) dX1_isBehind_60 (by decide) ?_
          exact g_zret (ty := .boolean) rfl rfl dX1_isBehind_61 rfl (Nat.le_refl _) (q7 c2 c4 c6 c7)
        · skip
          refine g_iconst (v := 1) dX1_isBehind_56 (by decide) ?_
          refine g_goto (tgt := 61) dX1_isBehind_57 (by decide) ?_
          exact g_zret (ty := .boolean) rfl rfl dX1_isBehind_61 rfl (Nat.le_refl _) (q8 c2 c4 c6 c8)
set_option maxRecDepth 10000 in
set_option maxHeartbeats 1000000 in
theorem sn_X1_choose {l : Launch} {d : Nat} {Q : Option Value → mx_H → Prop} {c : Nat} {I : mx_I} (a1 : Int32) (a2 : Int32) (a3 : Int32) (a4 : Int32) (hc : at9 (sk0 c) c)
    (b1 : vp_in a1 4)
    (e2 : mx_Go l (mx_rm (d + 1) 0 0) mX1_choose (mx_Z Q 0 0) 0 0 44 [.ref 65, .int a1, .int a2, .int a3, .int a4, .int a2, .int 0, .int 0, .retAddr 0, .retAddr 0] [] (sk0 c, (mx_set (mx_set (mx_set (mx_set I 65 5 0) 73 3 ((mx_set I 65 5 0) (c + 6) a1.toNatClampNeg)) 73 4 a3) 73 5 a4))) :
    mx_Spec l mX1_choose (d + 1) 0 0 [.ref 65, .int a1, .int a2, .int a3, .int a4] (sk0 c, I) Q := by
  refine mx_enter rfl (by simp [Value.category]) (Nat.le_of_ble_eq_true rfl) ?_
  change mx_Go l (mx_rm (d + 1) 0 0) mX1_choose (mx_Z Q 0 0) 0 0 0 [.ref 65, .int a1, .int a2, .int a3, .int a4, .retAddr 0, .retAddr 0, .retAddr 0, .retAddr 0, .retAddr 0] [] (sk0 c, I)
  refine g_iload_n dX1_choose_0 rfl rfl ?_
  refine s_istore (L' := [.ref 65, .int a1, .int a2, .int a3, .int a4, .int a2, .retAddr 0, .retAddr 0, .retAddr 0, .retAddr 0]) dX1_choose_1 (by decide) rfl rfl ?_
  refine g_iconst (v := 0) dX1_choose_3 (by decide) ?_
  refine s_istore (L' := [.ref 65, .int a1, .int a2, .int a3, .int a4, .int a2, .int 0, .retAddr 0, .retAddr 0, .retAddr 0]) dX1_choose_4 (by decide) rfl rfl ?_
  refine g_aload_n dX1_choose_6 rfl rfl ?_
  refine g_iconst (v := 0) dX1_choose_7 (by decide) ?_
  refine rp_X1_5 dX1_choose_8 lf_X1_213 (sk_65 _) ?_
  refine g_aload_n dX1_choose_11 rfl rfl ?_
  refine rg_X1_4 (r := 73) dX1_choose_12 lf_X1_22 (sk_65 _) rfl ?_
  refine g_iconst (v := 3) dX1_choose_15 (by decide) ?_
  refine g_aload_n dX1_choose_16 rfl rfl ?_
  refine rg_X1_6 (r := c) dX1_choose_17 lf_X1_33 (sk_65 _) rfl ?_
  refine rg_X9_5 (r := (c + 6)) dX1_choose_20 lf_X1_180 hc.1 rfl ?_
  refine g_iload_n dX1_choose_23 rfl rfl ?_
  refine s_iald (j := a1.toNatClampNeg) (v := ((mx_set I 65 5 0) (c + 6) a1.toNatClampNeg)) dX1_choose_24 hc.2.2.2.2.2.2.1 (b1) rfl rfl ?_
  refine s_iast (j := 3) dX1_choose_25 (sk_73 _) (by unfold vp_in; decide) (by decide) ?_
  refine g_aload_n dX1_choose_26 rfl rfl ?_
  refine rg_X1_4 (r := 73) dX1_choose_27 lf_X1_22 (sk_65 _) rfl ?_
  refine g_iconst (v := 4) dX1_choose_30 (by decide) ?_
  refine g_iload_n dX1_choose_31 rfl rfl ?_
  refine s_iast (j := 4) dX1_choose_32 (sk_73 _) (by unfold vp_in; decide) (by decide) ?_
  refine g_aload_n dX1_choose_33 rfl rfl ?_
  refine rg_X1_4 (r := 73) dX1_choose_34 lf_X1_22 (sk_65 _) rfl ?_
  refine g_iconst (v := 5) dX1_choose_37 (by decide) ?_
  refine g_iload dX1_choose_38 rfl ?_
  refine s_iast (j := 5) dX1_choose_40 (sk_73 _) (by unfold vp_in; decide) (by decide) ?_
  refine g_iconst (v := 0) dX1_choose_41 (by decide) ?_
  refine s_istore (L' := [.ref 65, .int a1, .int a2, .int a3, .int a4, .int a2, .int 0, .int 0, .retAddr 0, .retAddr 0]) dX1_choose_42 (by decide) rfl rfl ?_
  exact e2
set_option maxRecDepth 10000 in
set_option maxHeartbeats 1000000 in
theorem sg_X1_choose_44 {l : Launch} {d : Nat} {Q : Option Value → mx_H → Prop} {c : Nat} {I : mx_I} (hc : at9 (sk0 c) c) (x1 : Int32) (x2 : Int32) (x3 : Int32) (x4 : Int32) (x5 : Int32) (x6 : Int32) (x7 : Int32)
    (b1 : vp_in x1 4)
    (q2 : ((I (c + 6) x1.toNatClampNeg) ≤ x7) → Q (some (.int x6)) (sk0 c, I))
    (b3 : (¬ (I (c + 6) x1.toNatClampNeg) ≤ x7) → vp_in ((x1 * 30) + x7) 120)
    (b4 : (¬ (I (c + 6) x1.toNatClampNeg) ≤ x7) → vp_in (I (c + 5) ((x1 * 30) + x7).toNatClampNeg) 30)
    (b5 : (¬ (I (c + 6) x1.toNatClampNeg) ≤ x7) → ((I 3 (I (c + 5) ((x1 * 30) + x7).toNatClampNeg).toNatClampNeg) ≤ x5) → vp_in (I (c + 5) ((x1 * 30) + x7).toNatClampNeg) 30)
    (b6 : (¬ (I (c + 6) x1.toNatClampNeg) ≤ x7) → ((I 3 (I (c + 5) ((x1 * 30) + x7).toNatClampNeg).toNatClampNeg) ≤ x5) → vp_in (I (c + 5) ((x1 * 30) + x7).toNatClampNeg) 30)
    (k7 : (¬ (I (c + 6) x1.toNatClampNeg) ≤ x7) → ((I 3 (I (c + 5) ((x1 * 30) + x7).toNatClampNeg).toNatClampNeg) ≤ x5) → mx_K1 l mX3_lets d [.ref 28, .ref 73] (sk0 c, (mx_set (mx_set (mx_set (mx_set I 73 0 (I 3 (I (c + 5) ((x1 * 30) + x7).toNatClampNeg).toNatClampNeg)) 73 1 x5) 73 2 (x4 - ((mx_set (mx_set I 73 0 (I 3 (I (c + 5) ((x1 * 30) + x7).toNatClampNeg).toNatClampNeg)) 73 1 x5) (c + 2) (I (c + 5) ((x1 * 30) + x7).toNatClampNeg).toNatClampNeg))) 73 6 ((mx_set (mx_set (mx_set I 73 0 (I 3 (I (c + 5) ((x1 * 30) + x7).toNatClampNeg).toNatClampNeg)) 73 1 x5) 73 2 (x4 - ((mx_set (mx_set I 73 0 (I 3 (I (c + 5) ((x1 * 30) + x7).toNatClampNeg).toNatClampNeg)) 73 1 x5) (c + 2) (I (c + 5) ((x1 * 30) + x7).toNatClampNeg).toNatClampNeg))) (c + 3) (I (c + 5) ((x1 * 30) + x7).toNatClampNeg).toNatClampNeg))) (fun r h' => mx_Go l (mx_rm (d + 1) 0 0) mX1_choose (mx_Z Q 0 0) 0 0 177 [.ref 65, .int x1, .int x2, .int x3, .int x4, .int x5, .int x6, .int x7, .int (I (c + 5) ((x1 * 30) + x7).toNatClampNeg), .int (I 3 (I (c + 5) ((x1 * 30) + x7).toNatClampNeg).toNatClampNeg)] (r.toList ++ []) h'))
    (e8 : (¬ (I (c + 6) x1.toNatClampNeg) ≤ x7) → (¬ (I 3 (I (c + 5) ((x1 * 30) + x7).toNatClampNeg).toNatClampNeg) ≤ x5) → (¬ (I 1 7) = 1) → mx_Go l (mx_rm (d + 1) 0 0) mX1_choose (mx_Z Q 0 0) 0 0 44 [.ref 65, .int x1, .int x2, .int x3, .int x4, .int x5, .int x6, .int (x7 + 1), .int (I (c + 5) ((x1 * 30) + x7).toNatClampNeg), .int (I 3 (I (c + 5) ((x1 * 30) + x7).toNatClampNeg).toNatClampNeg)] [] (sk0 c, I))
    (q9 : (¬ (I (c + 6) x1.toNatClampNeg) ≤ x7) → (¬ (I 3 (I (c + 5) ((x1 * 30) + x7).toNatClampNeg).toNatClampNeg) ≤ x5) → ((I 1 7) = 1) → Q (some (.int x6)) (sk0 c, I)) :
    mx_Go l (mx_rm (d + 1) 0 0) mX1_choose (mx_Z Q 0 0) 0 0 44 [.ref 65, .int x1, .int x2, .int x3, .int x4, .int x5, .int x6, .int x7, .retAddr 0, .retAddr 0] [] (sk0 c, I) := by
  refine g_iload dX1_choose_44 rfl ?_
  refine g_aload_n dX1_choose_46 rfl rfl ?_
  refine rg_X1_6 (r := c) dX1_choose_47 lf_X1_33 (sk_65 _) rfl ?_
  refine rg_X9_5 (r := (c + 6)) dX1_choose_50 lf_X1_180 hc.1 rfl ?_
  refine g_iload_n dX1_choose_53 rfl rfl ?_
  refine s_iald (j := x1.toNatClampNeg) (v := (I (c + 6) x1.toNatClampNeg)) dX1_choose_54 hc.2.2.2.2.2.2.1 (b1) rfl rfl ?_
  refine g_icmp_ge (tgt := 221) dX1_choose_55 (by decide) (fun c1 => ?_) (fun c2 => ?_)
  · skip
    refine g_iload dX1_choose_221 rfl ?_
    exact g_iret rfl dX1_choose_223 rfl (Nat.le_refl _) (q2 c1)
  · skip
    refine g_aload_n dX1_choose_58 rfl rfl ?_
    refine rg_X1_6 (r := c) dX1_choose_59 lf_X1_33 (sk_65 _) rfl ?_
    refine rg_X9_4 (r := (c + 5)) dX1_choose_62 lf_X1_216 hc.1 rfl ?_
    refine g_iload_n dX1_choose_65 rfl rfl ?_
    refine g_bipush (v := 30) dX1_choose_66 (by decide) ?_
    refine g_imul dX1_choose_68 ?_
    refine g_iload dX1_choose_69 rfl ?_
    refine g_iadd dX1_choose_71 ?_
    refine s_iald (j := ((x1 * 30) + x7).toNatClampNeg) (v := (I (c + 5) ((x1 * 30) + x7).toNatClampNeg)) dX1_choose_72 hc.2.2.2.2.2.1 (b3 c2) rfl rfl ?_
    refine s_istore (L' := [.ref 65, .int x1, .int x2, .int x3, .int x4, .int x5, .int x6, .int x7, .int (I (c + 5) ((x1 * 30) + x7).toNatClampNeg), .retAddr 0]) dX1_choose_73 (by decide) rfl rfl ?_
    refine g_aload_n dX1_choose_75 rfl rfl ?_
    refine rg_X1_0 (r := 1) dX1_choose_76 lf_X1_25 (sk_65 _) rfl ?_
    refine rg_X10_0 (r := 2) dX1_choose_79 lf_X1_138 (sk_1 _) rfl ?_
    refine rg_X5_0 (r := 3) dX1_choose_82 lf_X1_219 (sk_2 _) rfl ?_
    refine g_iload dX1_choose_85 rfl ?_
    refine s_iald (j := (I (c + 5) ((x1 * 30) + x7).toNatClampNeg).toNatClampNeg) (v := (I 3 (I (c + 5) ((x1 * 30) + x7).toNatClampNeg).toNatClampNeg)) dX1_choose_87 (sk_3 _) (b4 c2) rfl rfl ?_
    refine s_istore (L' := [.ref 65, .int x1, .int x2, .int x3, .int x4, .int x5, .int x6, .int x7, .int (I (c + 5) ((x1 * 30) + x7).toNatClampNeg), .int (I 3 (I (c + 5) ((x1 * 30) + x7).toNatClampNeg).toNatClampNeg)]) dX1_choose_88 (by decide) rfl rfl ?_
    refine g_iload dX1_choose_90 rfl ?_
    refine g_iload dX1_choose_92 rfl ?_
    refine g_icmp_le (tgt := 111) dX1_choose_94 (by decide) (fun c3 => ?_) (fun c4 => ?_)
    · skip
      refine g_aload_n dX1_choose_111 rfl rfl ?_
      refine rg_X1_4 (r := 73) dX1_choose_112 lf_X1_22 (sk_65 _) rfl ?_
      refine g_iconst (v := 0) dX1_choose_115 (by decide) ?_
      refine g_iload dX1_choose_116 rfl ?_
      refine s_iast (j := 0) dX1_choose_118 (sk_73 _) (by unfold vp_in; decide) (by decide) ?_
      refine g_aload_n dX1_choose_119 rfl rfl ?_
      refine rg_X1_4 (r := 73) dX1_choose_120 lf_X1_22 (sk_65 _) rfl ?_
      refine g_iconst (v := 1) dX1_choose_123 (by decide) ?_
      refine g_iload dX1_choose_124 rfl ?_
      refine s_iast (j := 1) dX1_choose_126 (sk_73 _) (by unfold vp_in; decide) (by decide) ?_
      refine g_aload_n dX1_choose_127 rfl rfl ?_
      refine rg_X1_4 (r := 73) dX1_choose_128 lf_X1_22 (sk_65 _) rfl ?_
      refine g_iconst (v := 2) dX1_choose_131 (by decide) ?_
      refine g_iload dX1_choose_132 rfl ?_
      refine g_aload_n dX1_choose_134 rfl rfl ?_
      refine rg_X1_6 (r := c) dX1_choose_135 lf_X1_33 (sk_65 _) rfl ?_
      refine rg_X9_1 (r := (c + 2)) dX1_choose_138 lf_X1_225 hc.1 rfl ?_
      refine g_iload dX1_choose_141 rfl ?_
      refine s_iald (j := (I (c + 5) ((x1 * 30) + x7).toNatClampNeg).toNatClampNeg) (v := ((mx_set (mx_set I 73 0 (I 3 (I (c + 5) ((x1 * 30) + x7).toNatClampNeg).toNatClampNeg)) 73 1 x5) (c + 2) (I (c + 5) ((x1 * 30) + x7).toNatClampNeg).toNatClampNeg)) dX1_choose_143 hc.2.2.1 (b5 c2 c3) rfl rfl ?_
      refine g_isub dX1_choose_144 ?_
      refine s_iast (j := 2) dX1_choose_145 (sk_73 _) (by unfold vp_in; decide) (by decide) ?_
      refine g_aload_n dX1_choose_146 rfl rfl ?_
      refine rg_X1_4 (r := 73) dX1_choose_147 lf_X1_22 (sk_65 _) rfl ?_
      refine g_bipush (v := 6) dX1_choose_150 (by decide) ?_
      refine g_aload_n dX1_choose_152 rfl rfl ?_
      refine rg_X1_6 (r := c) dX1_choose_153 lf_X1_33 (sk_65 _) rfl ?_
      refine rg_X9_2 (r := (c + 3)) dX1_choose_156 lf_X1_228 hc.1 rfl ?_
      refine g_iload dX1_choose_159 rfl ?_
      refine s_iald (j := (I (c + 5) ((x1 * 30) + x7).toNatClampNeg).toNatClampNeg) (v := ((mx_set (mx_set (mx_set I 73 0 (I 3 (I (c + 5) ((x1 * 30) + x7).toNatClampNeg).toNatClampNeg)) 73 1 x5) 73 2 (x4 - ((mx_set (mx_set I 73 0 (I 3 (I (c + 5) ((x1 * 30) + x7).toNatClampNeg).toNatClampNeg)) 73 1 x5) (c + 2) (I (c + 5) ((x1 * 30) + x7).toNatClampNeg).toNatClampNeg))) (c + 3) (I (c + 5) ((x1 * 30) + x7).toNatClampNeg).toNatClampNeg)) dX1_choose_161 hc.2.2.2.1 (b6 c2 c3) rfl rfl ?_
      refine s_iast (j := 6) dX1_choose_162 (sk_73 _) (by unfold vp_in; decide) (by decide) ?_
      refine g_aload_n dX1_choose_163 rfl rfl ?_
      refine rg_X1_0 (r := 1) dX1_choose_164 lf_X1_25 (sk_65 _) rfl ?_
      refine rg_X10_4 (r := 28) dX1_choose_167 lf_X1_231 (sk_1 _) rfl ?_
      refine g_aload_n dX1_choose_170 rfl rfl ?_
      refine rg_X1_4 (r := 73) dX1_choose_171 lf_X1_22 (sk_65 _) rfl ?_
      exact s_callV (M' := mX3_lets) (As := [.ref 73]) (st := []) dX1_choose_174 lm_X1_235 ovX3_lets (h := (sk0 c, (mx_set (mx_set (mx_set (mx_set I 73 0 (I 3 (I (c + 5) ((x1 * 30) + x7).toNatClampNeg).toNatClampNeg)) 73 1 x5) 73 2 (x4 - ((mx_set (mx_set I 73 0 (I 3 (I (c + 5) ((x1 * 30) + x7).toNatClampNeg).toNatClampNeg)) 73 1 x5) (c + 2) (I (c + 5) ((x1 * 30) + x7).toNatClampNeg).toNatClampNeg))) 73 6 ((mx_set (mx_set (mx_set I 73 0 (I 3 (I (c + 5) ((x1 * 30) + x7).toNatClampNeg).toNatClampNeg)) 73 1 x5) 73 2 (x4 - ((mx_set (mx_set I 73 0 (I 3 (I (c + 5) ((x1 * 30) + x7).toNatClampNeg).toNatClampNeg)) 73 1 x5) (c + 2) (I (c + 5) ((x1 * 30) + x7).toNatClampNeg).toNatClampNeg))) (c + 3) (I (c + 5) ((x1 * 30) + x7).toNatClampNeg).toNatClampNeg)))) (sk_28 _) (show vwCl[3]? = some _ from rfl) rfl (by simp [Value.category]) (by decide) rfl (k7 c2 c3)
    · skip
      refine g_aload_n dX1_choose_97 rfl rfl ?_
      refine rg_X1_0 (r := 1) dX1_choose_98 lf_X1_25 (sk_65 _) rfl ?_
      refine rg_X10_7 (v := (I 1 7)) dX1_choose_101 lf_X1_222 (sk_1 _) rfl ?_
      refine g_iconst (v := 1) dX1_choose_104 (by decide) ?_
      refine g_icmp_ne (tgt := 215) dX1_choose_105 (by decide) (fun c5 => ?_) (fun c6 => ?_)
      · skip
        refine s_iinc (v := (x7 + 1)) (L' := [.ref 65, .int x1, .int x2, .int x3, .int x4, .int x5, .int x6, .int (x7 + 1), .int (I (c + 5) ((x1 * 30) + x7).toNatClampNeg), .int (I 3 (I (c + 5) ((x1 * 30) + x7).toNatClampNeg).toNatClampNeg)]) dX1_choose_215 rfl (by decide) rfl rfl rfl ?_
        refine g_goto (tgt := 44) dX1_choose_218 (by decide) ?_
        exact e8 c2 c4 c5
      · skip
        refine g_goto (tgt := 221) dX1_choose_108 (by decide) ?_
        refine g_iload dX1_choose_221 rfl ?_
        exact g_iret rfl dX1_choose_223 rfl (Nat.le_refl _) (q9 c2 c4 c6)
set_option maxRecDepth 10000 in
set_option maxHeartbeats 1000000 in
theorem sg_X1_choose_177 {l : Launch} {d : Nat} {Q : Option Value → mx_H → Prop} {c : Nat} {I : mx_I} (hc : at9 (sk0 c) c) (x1 : Int32) (x2 : Int32) (x3 : Int32) (x4 : Int32) (x5 : Int32) (x6 : Int32) (x7 : Int32) (x8 : Int32) (x9 : Int32) (x10 : Int32)
    (e1 : (x10 = 0) → mx_Go l (mx_rm (d + 1) 0 0) mX1_choose (mx_Z Q 0 0) 0 0 44 [.ref 65, .int x1, .int x2, .int x3, .int x4, .int x5, .int x6, .int (x7 + 1), .int x8, .int x9] [] (sk0 c, I))
    (b2 : (¬ x10 = 0) → vp_in (I 65 5) 30)
    (e3 : (¬ x10 = 0) → mx_Go l (mx_rm (d + 1) 0 0) mX1_choose (mx_Z Q 0 0) 0 0 44 [.ref 65, .int x1, .int x2, .int x3, .int x4, .int (x5 - x9), .int (x6 + x9), .int (x7 + 1), .int x8, .int x9] [] (sk0 c, (mx_set (mx_set I 72 (I 65 5).toNatClampNeg x8) 65 5 ((I 65 5) + 1)))) :
    mx_Go l (mx_rm (d + 1) 0 0) mX1_choose (mx_Z Q 0 0) 0 0 177 [.ref 65, .int x1, .int x2, .int x3, .int x4, .int x5, .int x6, .int x7, .int x8, .int x9] [.int x10] (sk0 c, I) := by
  refine g_if_eq (tgt := 215) dX1_choose_177 (by decide) (fun c1 => ?_) (fun c2 => ?_)
  · skip
    refine s_iinc (v := (x7 + 1)) (L' := [.ref 65, .int x1, .int x2, .int x3, .int x4, .int x5, .int x6, .int (x7 + 1), .int x8, .int x9]) dX1_choose_215 rfl (by decide) rfl rfl rfl ?_
    refine g_goto (tgt := 44) dX1_choose_218 (by decide) ?_
    exact e1 c1
  · skip
    refine g_aload_n dX1_choose_180 rfl rfl ?_
    refine rg_X1_3 (r := 72) dX1_choose_181 lf_X1_18 (sk_65 _) rfl ?_
    refine g_aload_n dX1_choose_184 rfl rfl ?_
    refine rg_X1_5 (v := (I 65 5)) dX1_choose_185 lf_X1_213 (sk_65 _) rfl ?_
    refine g_iload dX1_choose_188 rfl ?_
    refine s_iast (j := (I 65 5).toNatClampNeg) dX1_choose_190 (sk_72 _) (b2 c2) rfl ?_
    refine g_aload_n dX1_choose_191 rfl rfl ?_
    refine g_dup dX1_choose_192 rfl ?_
    refine rg_X1_5 (v := (I 65 5)) dX1_choose_193 lf_X1_213 (sk_65 _) (rd_ne (by decide) rfl) ?_
    refine g_iconst (v := 1) dX1_choose_196 (by decide) ?_
    refine g_iadd dX1_choose_197 ?_
    refine rp_X1_5 dX1_choose_198 lf_X1_213 (sk_65 _) ?_
    refine g_iload dX1_choose_201 rfl ?_
    refine g_iload dX1_choose_203 rfl ?_
    refine g_isub dX1_choose_205 ?_
    refine s_istore (L' := [.ref 65, .int x1, .int x2, .int x3, .int x4, .int (x5 - x9), .int x6, .int x7, .int x8, .int x9]) dX1_choose_206 (by decide) rfl rfl ?_
    refine g_iload dX1_choose_208 rfl ?_
    refine g_iload dX1_choose_210 rfl ?_
    refine g_iadd dX1_choose_212 ?_
    refine s_istore (L' := [.ref 65, .int x1, .int x2, .int x3, .int x4, .int (x5 - x9), .int (x6 + x9), .int x7, .int x8, .int x9]) dX1_choose_213 (by decide) rfl rfl ?_
    refine s_iinc (v := (x7 + 1)) (L' := [.ref 65, .int x1, .int x2, .int x3, .int x4, .int (x5 - x9), .int (x6 + x9), .int (x7 + 1), .int x8, .int x9]) dX1_choose_215 rfl (by decide) rfl rfl rfl ?_
    refine g_goto (tgt := 44) dX1_choose_218 (by decide) ?_
    exact e3 c2
set_option maxRecDepth 10000 in
set_option maxHeartbeats 1000000 in
theorem sn_X1_carry {l : Launch} {d : Nat} {Q : Option Value → mx_H → Prop} {c : Nat} {I : mx_I} (a1 : Int32) (a2 : Int32) (a3 : Int32) (a4 : Int32) (hc : at9 (sk0 c) c)
    (k1 : mx_K1 l mX9_drop d [.ref c, .ref 72, .int (I 65 5), .int a1] (sk0 c, I) (fun r h' => mx_Go l (mx_rm (d + 1) 0 0) mX1_carry (mx_Z Q 0 0) 0 0 16 [.ref 65, .int a1, .int a2, .int a3, .int a4, .retAddr 0, .retAddr 0] (r.toList ++ []) h')) :
    mx_Spec l mX1_carry (d + 1) 0 0 [.ref 65, .int a1, .int a2, .int a3, .int a4] (sk0 c, I) Q := by
  refine mx_enter rfl (by simp [Value.category]) (Nat.le_of_ble_eq_true rfl) ?_
  change mx_Go l (mx_rm (d + 1) 0 0) mX1_carry (mx_Z Q 0 0) 0 0 0 [.ref 65, .int a1, .int a2, .int a3, .int a4, .retAddr 0, .retAddr 0] [] (sk0 c, I)
  refine g_aload_n dX1_carry_0 rfl rfl ?_
  refine rg_X1_6 (r := c) dX1_carry_1 lf_X1_33 (sk_65 _) rfl ?_
  refine g_aload_n dX1_carry_4 rfl rfl ?_
  refine rg_X1_3 (r := 72) dX1_carry_5 lf_X1_18 (sk_65 _) rfl ?_
  refine g_aload_n dX1_carry_8 rfl rfl ?_
  refine rg_X1_5 (v := (I 65 5)) dX1_carry_9 lf_X1_213 (sk_65 _) rfl ?_
  refine g_iload_n dX1_carry_12 rfl rfl ?_
  exact s_callV (M' := mX9_drop) (As := [.ref 72, .int (I 65 5), .int a1]) (st := []) dX1_carry_13 lm_X1_161 ovX9_drop (h := (sk0 c, I)) hc.1 (show vwCl[9]? = some _ from rfl) rfl (by simp [Value.category]) (by decide) rfl (k1)
set_option maxRecDepth 10000 in
set_option maxHeartbeats 1000000 in
theorem sg_X1_carry_16 {l : Launch} {d : Nat} {Q : Option Value → mx_H → Prop} {c : Nat} {I : mx_I} (hc : at9 (sk0 c) c) (x1 : Int32) (x2 : Int32) (x3 : Int32) (x4 : Int32)
    (e1 : mx_Go l (mx_rm (d + 1) 0 0) mX1_carry (mx_Z Q 0 0) 0 0 19 [.ref 65, .int x1, .int x2, .int x3, .int x4, .int 0, .retAddr 0] [] (sk0 c, I)) :
    mx_Go l (mx_rm (d + 1) 0 0) mX1_carry (mx_Z Q 0 0) 0 0 16 [.ref 65, .int x1, .int x2, .int x3, .int x4, .retAddr 0, .retAddr 0] [] (sk0 c, I) := by
  refine g_iconst (v := 0) dX1_carry_16 (by decide) ?_
  refine s_istore (L' := [.ref 65, .int x1, .int x2, .int x3, .int x4, .int 0, .retAddr 0]) dX1_carry_17 (by decide) rfl rfl ?_
  exact e1
set_option maxRecDepth 10000 in
set_option maxHeartbeats 1000000 in
theorem sg_X1_carry_19 {l : Launch} {d : Nat} {Q : Option Value → mx_H → Prop} {c : Nat} {I : mx_I} (hc : at9 (sk0 c) c) (x1 : Int32) (x2 : Int32) (x3 : Int32) (x4 : Int32) (x5 : Int32)
    (q1 : ((I 65 5) ≤ x5) → Q none (sk0 c, (mx_set I 65 15 ((I 65 15) + (I 65 5)))))
    (b2 : (¬ (I 65 5) ≤ x5) → vp_in x5 30)
    (b3 : (¬ (I 65 5) ≤ x5) → vp_in (I 72 x5.toNatClampNeg) 30)
    (b4 : (¬ (I 65 5) ≤ x5) → vp_in (I 72 x5.toNatClampNeg) 30)
    (k5 : (¬ (I 65 5) ≤ x5) → mx_K1 l mX1_arrive d [.ref 65, .int (I 72 x5.toNatClampNeg), .int x2, .int x3] (sk0 c, (mx_set I (c + 3) (I 72 x5.toNatClampNeg).toNatClampNeg ((I (c + 3) (I 72 x5.toNatClampNeg).toNatClampNeg) + 1))) (fun r h' => mx_Go l (mx_rm (d + 1) 0 0) mX1_carry (mx_Z Q 0 0) 0 0 59 [.ref 65, .int x1, .int x2, .int x3, .int x4, .int x5, .int (I 72 x5.toNatClampNeg)] (r.toList ++ []) h')) :
    mx_Go l (mx_rm (d + 1) 0 0) mX1_carry (mx_Z Q 0 0) 0 0 19 [.ref 65, .int x1, .int x2, .int x3, .int x4, .int x5, .retAddr 0] [] (sk0 c, I) := by
  refine g_iload dX1_carry_19 rfl ?_
  refine g_aload_n dX1_carry_21 rfl rfl ?_
  refine rg_X1_5 (v := (I 65 5)) dX1_carry_22 lf_X1_213 (sk_65 _) rfl ?_
  refine g_icmp_ge (tgt := 84) dX1_carry_25 (by decide) (fun c1 => ?_) (fun c2 => ?_)
  · skip
    refine g_aload_n dX1_carry_84 rfl rfl ?_
    refine g_dup dX1_carry_85 rfl ?_
    refine rg_X1_15 (v := (I 65 15)) dX1_carry_86 lf_X1_66 (sk_65 _) rfl ?_
    refine g_aload_n dX1_carry_89 rfl rfl ?_
    refine rg_X1_5 (v := (I 65 5)) dX1_carry_90 lf_X1_213 (sk_65 _) rfl ?_
    refine g_iadd dX1_carry_93 ?_
    refine rp_X1_15 dX1_carry_94 lf_X1_66 (sk_65 _) ?_
    exact g_vret rfl dX1_carry_97 rfl (Nat.le_refl _) (q1 c1)
  · skip
    refine g_aload_n dX1_carry_28 rfl rfl ?_
    refine rg_X1_3 (r := 72) dX1_carry_29 lf_X1_18 (sk_65 _) rfl ?_
    refine g_iload dX1_carry_32 rfl ?_
    refine s_iald (j := x5.toNatClampNeg) (v := (I 72 x5.toNatClampNeg)) dX1_carry_34 (sk_72 _) (b2 c2) rfl rfl ?_
    refine s_istore (L' := [.ref 65, .int x1, .int x2, .int x3, .int x4, .int x5, .int (I 72 x5.toNatClampNeg)]) dX1_carry_35 (by decide) rfl rfl ?_
    refine g_aload_n dX1_carry_37 rfl rfl ?_
    refine rg_X1_6 (r := c) dX1_carry_38 lf_X1_33 (sk_65 _) rfl ?_
    refine rg_X9_2 (r := (c + 3)) dX1_carry_41 lf_X1_228 hc.1 rfl ?_
    refine g_iload dX1_carry_44 rfl ?_
    refine g_dup2 dX1_carry_46 rfl rfl ?_
    refine s_iald (j := (I 72 x5.toNatClampNeg).toNatClampNeg) (v := (I (c + 3) (I 72 x5.toNatClampNeg).toNatClampNeg)) dX1_carry_47 hc.2.2.2.1 (b3 c2) rfl rfl ?_
    refine g_iconst (v := 1) dX1_carry_48 (by decide) ?_
    refine g_iadd dX1_carry_49 ?_
    refine s_iast (j := (I 72 x5.toNatClampNeg).toNatClampNeg) dX1_carry_50 hc.2.2.2.1 (b4 c2) rfl ?_
    refine g_aload_n dX1_carry_51 rfl rfl ?_
    refine g_iload dX1_carry_52 rfl ?_
    refine g_iload_n dX1_carry_54 rfl rfl ?_
    refine g_iload_n dX1_carry_55 rfl rfl ?_
    exact s_callV (M' := mX1_arrive) (As := [.int (I 72 x5.toNatClampNeg), .int x2, .int x3]) (st := []) dX1_carry_56 lm_X1_148 ovX1_arrive (h := (sk0 c, (mx_set I (c + 3) (I 72 x5.toNatClampNeg).toNatClampNeg ((I (c + 3) (I 72 x5.toNatClampNeg).toNatClampNeg) + 1)))) (sk_65 _) (show vwCl[1]? = some _ from rfl) rfl (by simp [Value.category]) (by decide) rfl (k5 c2)
set_option maxRecDepth 10000 in
set_option maxHeartbeats 1000000 in
theorem sg_X1_carry_59 {l : Launch} {d : Nat} {Q : Option Value → mx_H → Prop} {c : Nat} {I : mx_I} (hc : at9 (sk0 c) c) (x1 : Int32) (x2 : Int32) (x3 : Int32) (x4 : Int32) (x5 : Int32) (x6 : Int32)
    (e1 : ((I 65 7) = 0) → mx_Go l (mx_rm (d + 1) 0 0) mX1_carry (mx_Z Q 0 0) 0 0 19 [.ref 65, .int x1, .int x2, .int x3, .int x4, .int (x5 + 1), .int x6] [] (sk0 c, I))
    (k2 : (¬ (I 65 7) = 0) → mx_K1 l mX0_write d [.ref 43, .int x6, .int x4, .int x3] (sk0 c, I) (fun r h' => mx_Go l (mx_rm (d + 1) 0 0) mX1_carry (mx_Z Q 0 0) 0 0 78 [.ref 65, .int x1, .int x2, .int x3, .int x4, .int x5, .int x6] (r.toList ++ []) h')) :
    mx_Go l (mx_rm (d + 1) 0 0) mX1_carry (mx_Z Q 0 0) 0 0 59 [.ref 65, .int x1, .int x2, .int x3, .int x4, .int x5, .int x6] [] (sk0 c, I) := by
  refine g_aload_n dX1_carry_59 rfl rfl ?_
  refine rg_X1_7 (v := (I 65 7)) dX1_carry_60 lf_X1_37 (sk_65 _) rfl ?_
  refine g_if_eq (tgt := 78) dX1_carry_63 (by decide) (fun c1 => ?_) (fun c2 => ?_)
  · skip
    refine s_iinc (v := (x5 + 1)) (L' := [.ref 65, .int x1, .int x2, .int x3, .int x4, .int (x5 + 1), .int x6]) dX1_carry_78 rfl (by decide) rfl rfl rfl ?_
    refine g_goto (tgt := 19) dX1_carry_81 (by decide) ?_
    exact e1 c1
  · skip
    refine g_aload_n dX1_carry_66 rfl rfl ?_
    refine rg_X1_1 (r := 43) dX1_carry_67 lf_X1_29 (sk_65 _) rfl ?_
    refine g_iload dX1_carry_70 rfl ?_
    refine g_iload dX1_carry_72 rfl ?_
    refine g_iload_n dX1_carry_74 rfl rfl ?_
    exact s_callV (M' := mX0_write) (As := [.int x6, .int x4, .int x3]) (st := []) dX1_carry_75 lm_X1_241 ovX0_write (h := (sk0 c, I)) (sk_43 _) (show vwCl[0]? = some _ from rfl) rfl (by simp [Value.category]) (by decide) rfl (k2 c2)
set_option maxRecDepth 10000 in
set_option maxHeartbeats 1000000 in
theorem sg_X1_carry_78 {l : Launch} {d : Nat} {Q : Option Value → mx_H → Prop} {c : Nat} {I : mx_I} (hc : at9 (sk0 c) c) (x1 : Int32) (x2 : Int32) (x3 : Int32) (x4 : Int32) (x5 : Int32) (x6 : Int32)
    (e1 : mx_Go l (mx_rm (d + 1) 0 0) mX1_carry (mx_Z Q 0 0) 0 0 19 [.ref 65, .int x1, .int x2, .int x3, .int x4, .int (x5 + 1), .int x6] [] (sk0 c, I)) :
    mx_Go l (mx_rm (d + 1) 0 0) mX1_carry (mx_Z Q 0 0) 0 0 78 [.ref 65, .int x1, .int x2, .int x3, .int x4, .int x5, .int x6] [] (sk0 c, I) := by
  refine s_iinc (v := (x5 + 1)) (L' := [.ref 65, .int x1, .int x2, .int x3, .int x4, .int (x5 + 1), .int x6]) dX1_carry_78 rfl (by decide) rfl rfl rfl ?_
  refine g_goto (tgt := 19) dX1_carry_81 (by decide) ?_
  exact e1
