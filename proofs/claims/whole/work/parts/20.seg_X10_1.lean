set_option maxRecDepth 10000 in
set_option maxHeartbeats 1000000 in
theorem sn_X10_hasEnd {l : Launch} {d : Nat} {Q : Option Value → mx_H → Prop} {c : Nat} {I : mx_I} (a1 : Int32)
    (q1 : (a1 < 0) → Q (some (.int 0)) (sk0 c, I))
    (q2 : (¬ a1 < 0) → ((I 1 5) < a1) → Q (some (.int 0)) (sk0 c, I))
    (q3 : (¬ a1 < 0) → (¬ (I 1 5) < a1) → Q (some (.int 1)) (sk0 c, I)) :
    mx_Spec l mX10_hasEnd (d + 1) 0 0 [.ref 1, .int a1] (sk0 c, I) Q := by
  refine mx_enter rfl (by simp [Value.category]) (Nat.le_of_ble_eq_true rfl) ?_
  change mx_Go l (mx_rm (d + 1) 0 0) mX10_hasEnd (mx_Z Q 0 0) 0 0 0 [.ref 1, .int a1] [] (sk0 c, I)
  refine g_iload_n dX10_hasEnd_0 rfl rfl ?_
  refine g_if_lt (tgt := 16) dX10_hasEnd_1 (by decide) (fun c1 => ?_) (fun c2 => ?_)
  · skip
    refine g_iconst (v := 0) dX10_hasEnd_16 (by decide) ?_
    exact g_zret (ty := .boolean) rfl rfl dX10_hasEnd_17 rfl (Nat.le_refl _) (q1 c1)
  · skip
    refine g_iload_n dX10_hasEnd_4 rfl rfl ?_
    refine g_aload_n dX10_hasEnd_5 rfl rfl ?_
    refine rg_X10_5 (v := (I 1 5)) dX10_hasEnd_6 lf_X10_46 (sk_1 _) rfl ?_
    refine g_icmp_gt (tgt := 16) dX10_hasEnd_9 (by decide) (fun c3 => ?_) (fun c4 => ?_)
    · skip
      refine g_iconst (v := 0) dX10_hasEnd_16 (by decide) ?_
      exact g_zret (ty := .boolean) rfl rfl dX10_hasEnd_17 rfl (Nat.le_refl _) (q2 c2 c3)
    · skip
      refine g_iconst (v := 1) dX10_hasEnd_12 (by decide) ?_
      refine g_goto (tgt := 17) dX10_hasEnd_13 (by decide) ?_
      exact g_zret (ty := .boolean) rfl rfl dX10_hasEnd_17 rfl (Nat.le_refl _) (q3 c2 c4)
set_option maxRecDepth 10000 in
set_option maxHeartbeats 1000000 in
theorem sn_X10_clear {l : Launch} {d : Nat} {Q : Option Value → mx_H → Prop} {c : Nat} {I : mx_I} (a1 : Int32)
    (k1 : mx_K1 l mX3_clear d [.ref 28] (sk0 c, (mx_set (mx_set (mx_set (mx_set (mx_set (mx_set (mx_set I 1 5 a1) 1 6 (-1)) 1 7 0) 2 5 0) 8 9 0) 18 5 0) 24 3 0)) (fun r h' => mx_Go l (mx_rm (d + 1) 0 0) mX10_clear (mx_Z Q 0 0) 0 0 54 [.ref 1, .int a1] (r.toList ++ []) h')) :
    mx_Spec l mX10_clear (d + 1) 0 0 [.ref 1, .int a1] (sk0 c, I) Q := by
  refine mx_enter rfl (by simp [Value.category]) (Nat.le_of_ble_eq_true rfl) ?_
  change mx_Go l (mx_rm (d + 1) 0 0) mX10_clear (mx_Z Q 0 0) 0 0 0 [.ref 1, .int a1] [] (sk0 c, I)
  refine g_aload_n dX10_clear_0 rfl rfl ?_
  refine g_iload_n dX10_clear_1 rfl rfl ?_
  refine rp_X10_5 dX10_clear_2 lf_X10_46 (sk_1 _) ?_
  refine g_aload_n dX10_clear_5 rfl rfl ?_
  refine g_iconst (v := (-1)) dX10_clear_6 (by decide) ?_
  refine rp_X10_6 dX10_clear_7 lf_X10_50 (sk_1 _) ?_
  refine g_aload_n dX10_clear_10 rfl rfl ?_
  refine g_iconst (v := 0) dX10_clear_11 (by decide) ?_
  refine rp_X10_7 dX10_clear_12 lf_X10_53 (sk_1 _) ?_
  refine g_aload_n dX10_clear_15 rfl rfl ?_
  refine rg_X10_0 (r := 2) dX10_clear_16 lf_X10_12 (sk_1 _) rfl ?_
  refine g_iconst (v := 0) dX10_clear_19 (by decide) ?_
  refine rp_X5_5 dX10_clear_20 lf_X10_56 (sk_2 _) ?_
  refine g_aload_n dX10_clear_23 rfl rfl ?_
  refine rg_X10_1 (r := 8) dX10_clear_24 lf_X10_21 (sk_1 _) rfl ?_
  refine g_iconst (v := 0) dX10_clear_27 (by decide) ?_
  refine rp_X2_9 dX10_clear_28 lf_X10_59 (sk_8 _) ?_
  refine g_aload_n dX10_clear_31 rfl rfl ?_
  refine rg_X10_2 (r := 18) dX10_clear_32 lf_X10_28 (sk_1 _) rfl ?_
  refine g_iconst (v := 0) dX10_clear_35 (by decide) ?_
  refine rp_X6_5 dX10_clear_36 lf_X10_60 (sk_18 _) ?_
  refine g_aload_n dX10_clear_39 rfl rfl ?_
  refine rg_X10_3 (r := 24) dX10_clear_40 lf_X10_35 (sk_1 _) rfl ?_
  refine g_iconst (v := 0) dX10_clear_43 (by decide) ?_
  refine rp_X4_3 dX10_clear_44 lf_X10_61 (sk_24 _) ?_
  refine g_aload_n dX10_clear_47 rfl rfl ?_
  refine rg_X10_4 (r := 28) dX10_clear_48 lf_X10_42 (sk_1 _) rfl ?_
  exact s_callV (M' := mX3_clear) (As := []) (st := []) dX10_clear_51 lm_X10_62 ovX3_clear (h := (sk0 c, (mx_set (mx_set (mx_set (mx_set (mx_set (mx_set (mx_set I 1 5 a1) 1 6 (-1)) 1 7 0) 2 5 0) 8 9 0) 18 5 0) 24 3 0))) (sk_28 _) (show vwCl[3]? = some _ from rfl) rfl (by simp [Value.category]) (by decide) rfl (k1)
set_option maxRecDepth 10000 in
set_option maxHeartbeats 1000000 in
theorem sg_X10_clear_54 {l : Launch} {d : Nat} {Q : Option Value → mx_H → Prop} {c : Nat} {I : mx_I} (x1 : Int32)
    (q1 : Q none (sk0 c, I)) :
    mx_Go l (mx_rm (d + 1) 0 0) mX10_clear (mx_Z Q 0 0) 0 0 54 [.ref 1, .int x1] [] (sk0 c, I) := by
  exact g_vret rfl dX10_clear_54 rfl (Nat.le_refl _) (q1)
set_option maxRecDepth 10000 in
set_option maxHeartbeats 1000000 in
theorem sn_X10_copyFrom_74_1 {l : Launch} {d : Nat} {Q : Option Value → mx_H → Prop} {c : Nat} {I : mx_I}
    (k1 : mx_K1 l mX5_copyFrom d [.ref 75, .ref 2] (sk0 c, (mx_set (mx_set (mx_set I 74 5 (I 1 5)) 74 6 (I 1 6)) 74 7 (I 1 7))) (fun r h' => mx_Go l (mx_rm (d + 1) 0 0) mX10_copyFrom (mx_Z Q 0 0) 0 0 35 [.ref 74, .ref 1] (r.toList ++ []) h')) :
    mx_Spec l mX10_copyFrom (d + 1) 0 0 [.ref 74, .ref 1] (sk0 c, I) Q := by
  refine mx_enter rfl (by simp [Value.category]) (Nat.le_of_ble_eq_true rfl) ?_
  change mx_Go l (mx_rm (d + 1) 0 0) mX10_copyFrom (mx_Z Q 0 0) 0 0 0 [.ref 74, .ref 1] [] (sk0 c, I)
  refine g_aload_n dX10_copyFrom_0 rfl rfl ?_
  refine g_aload_n dX10_copyFrom_1 rfl rfl ?_
  refine rg_X10_5 (v := (I 1 5)) dX10_copyFrom_2 lf_X10_46 (sk_1 _) rfl ?_
  refine rp_X10_5 dX10_copyFrom_5 lf_X10_46 (sk_74 _) ?_
  refine g_aload_n dX10_copyFrom_8 rfl rfl ?_
  refine g_aload_n dX10_copyFrom_9 rfl rfl ?_
  refine rg_X10_6 (v := (I 1 6)) dX10_copyFrom_10 lf_X10_50 (sk_1 _) (rd_ne (by decide) rfl) ?_
  refine rp_X10_6 dX10_copyFrom_13 lf_X10_50 (sk_74 _) ?_
  refine g_aload_n dX10_copyFrom_16 rfl rfl ?_
  refine g_aload_n dX10_copyFrom_17 rfl rfl ?_
  refine rg_X10_7 (v := (I 1 7)) dX10_copyFrom_18 lf_X10_53 (sk_1 _) (rd_ne (by decide) (rd_ne (by decide) rfl)) ?_
  refine rp_X10_7 dX10_copyFrom_21 lf_X10_53 (sk_74 _) ?_
  refine g_aload_n dX10_copyFrom_24 rfl rfl ?_
  refine rg_X10_0 (r := 75) dX10_copyFrom_25 lf_X10_12 (sk_74 _) rfl ?_
  refine g_aload_n dX10_copyFrom_28 rfl rfl ?_
  refine rg_X10_0 (r := 2) dX10_copyFrom_29 lf_X10_12 (sk_1 _) rfl ?_
  exact s_callV (M' := mX5_copyFrom) (As := [.ref 2]) (st := []) dX10_copyFrom_32 lm_X10_65 ovX5_copyFrom (h := (sk0 c, (mx_set (mx_set (mx_set I 74 5 (I 1 5)) 74 6 (I 1 6)) 74 7 (I 1 7)))) (sk_75 _) (show vwCl[5]? = some _ from rfl) rfl (by simp [Value.category]) (by decide) rfl (k1)
set_option maxRecDepth 10000 in
set_option maxHeartbeats 1000000 in
theorem sg_X10_copyFrom_74_1_35 {l : Launch} {d : Nat} {Q : Option Value → mx_H → Prop} {c : Nat} {I : mx_I}
    (k1 : mx_K1 l mX2_copyFrom d [.ref 81, .ref 8] (sk0 c, I) (fun r h' => mx_Go l (mx_rm (d + 1) 0 0) mX10_copyFrom (mx_Z Q 0 0) 0 0 46 [.ref 74, .ref 1] (r.toList ++ []) h')) :
    mx_Go l (mx_rm (d + 1) 0 0) mX10_copyFrom (mx_Z Q 0 0) 0 0 35 [.ref 74, .ref 1] [] (sk0 c, I) := by
  refine g_aload_n dX10_copyFrom_35 rfl rfl ?_
  refine rg_X10_1 (r := 81) dX10_copyFrom_36 lf_X10_21 (sk_74 _) rfl ?_
  refine g_aload_n dX10_copyFrom_39 rfl rfl ?_
  refine rg_X10_1 (r := 8) dX10_copyFrom_40 lf_X10_21 (sk_1 _) rfl ?_
  exact s_callV (M' := mX2_copyFrom) (As := [.ref 8]) (st := []) dX10_copyFrom_43 lm_X10_69 ovX2_copyFrom (h := (sk0 c, I)) (sk_81 _) (show vwCl[2]? = some _ from rfl) rfl (by simp [Value.category]) (by decide) rfl (k1)
set_option maxRecDepth 10000 in
set_option maxHeartbeats 1000000 in
theorem sg_X10_copyFrom_74_1_46 {l : Launch} {d : Nat} {Q : Option Value → mx_H → Prop} {c : Nat} {I : mx_I}
    (k1 : mx_K1 l mX6_copyFrom d [.ref 91, .ref 18] (sk0 c, I) (fun r h' => mx_Go l (mx_rm (d + 1) 0 0) mX10_copyFrom (mx_Z Q 0 0) 0 0 57 [.ref 74, .ref 1] (r.toList ++ []) h')) :
    mx_Go l (mx_rm (d + 1) 0 0) mX10_copyFrom (mx_Z Q 0 0) 0 0 46 [.ref 74, .ref 1] [] (sk0 c, I) := by
  refine g_aload_n dX10_copyFrom_46 rfl rfl ?_
  refine rg_X10_2 (r := 91) dX10_copyFrom_47 lf_X10_28 (sk_74 _) rfl ?_
  refine g_aload_n dX10_copyFrom_50 rfl rfl ?_
  refine rg_X10_2 (r := 18) dX10_copyFrom_51 lf_X10_28 (sk_1 _) rfl ?_
  exact s_callV (M' := mX6_copyFrom) (As := [.ref 18]) (st := []) dX10_copyFrom_54 lm_X10_72 ovX6_copyFrom (h := (sk0 c, I)) (sk_91 _) (show vwCl[6]? = some _ from rfl) rfl (by simp [Value.category]) (by decide) rfl (k1)
set_option maxRecDepth 10000 in
set_option maxHeartbeats 1000000 in
theorem sg_X10_copyFrom_74_1_57 {l : Launch} {d : Nat} {Q : Option Value → mx_H → Prop} {c : Nat} {I : mx_I}
    (k1 : mx_K1 l mX4_copyFrom d [.ref 97, .ref 24] (sk0 c, I) (fun r h' => mx_Go l (mx_rm (d + 1) 0 0) mX10_copyFrom (mx_Z Q 0 0) 0 0 68 [.ref 74, .ref 1] (r.toList ++ []) h')) :
    mx_Go l (mx_rm (d + 1) 0 0) mX10_copyFrom (mx_Z Q 0 0) 0 0 57 [.ref 74, .ref 1] [] (sk0 c, I) := by
  refine g_aload_n dX10_copyFrom_57 rfl rfl ?_
  refine rg_X10_3 (r := 97) dX10_copyFrom_58 lf_X10_35 (sk_74 _) rfl ?_
  refine g_aload_n dX10_copyFrom_61 rfl rfl ?_
  refine rg_X10_3 (r := 24) dX10_copyFrom_62 lf_X10_35 (sk_1 _) rfl ?_
  exact s_callV (M' := mX4_copyFrom) (As := [.ref 24]) (st := []) dX10_copyFrom_65 lm_X10_75 ovX4_copyFrom (h := (sk0 c, I)) (sk_97 _) (show vwCl[4]? = some _ from rfl) rfl (by simp [Value.category]) (by decide) rfl (k1)
set_option maxRecDepth 10000 in
set_option maxHeartbeats 1000000 in
theorem sg_X10_copyFrom_74_1_68 {l : Launch} {d : Nat} {Q : Option Value → mx_H → Prop} {c : Nat} {I : mx_I}
    (k1 : mx_K1 l mX3_copyFrom d [.ref 101, .ref 28] (sk0 c, I) (fun r h' => mx_Go l (mx_rm (d + 1) 0 0) mX10_copyFrom (mx_Z Q 0 0) 0 0 79 [.ref 74, .ref 1] (r.toList ++ []) h')) :
    mx_Go l (mx_rm (d + 1) 0 0) mX10_copyFrom (mx_Z Q 0 0) 0 0 68 [.ref 74, .ref 1] [] (sk0 c, I) := by
  refine g_aload_n dX10_copyFrom_68 rfl rfl ?_
  refine rg_X10_4 (r := 101) dX10_copyFrom_69 lf_X10_42 (sk_74 _) rfl ?_
  refine g_aload_n dX10_copyFrom_72 rfl rfl ?_
  refine rg_X10_4 (r := 28) dX10_copyFrom_73 lf_X10_42 (sk_1 _) rfl ?_
  exact s_callV (M' := mX3_copyFrom) (As := [.ref 28]) (st := []) dX10_copyFrom_76 lm_X10_78 ovX3_copyFrom (h := (sk0 c, I)) (sk_101 _) (show vwCl[3]? = some _ from rfl) rfl (by simp [Value.category]) (by decide) rfl (k1)
set_option maxRecDepth 10000 in
set_option maxHeartbeats 1000000 in
theorem sg_X10_copyFrom_74_1_79 {l : Launch} {d : Nat} {Q : Option Value → mx_H → Prop} {c : Nat} {I : mx_I}
    (q1 : Q none (sk0 c, I)) :
    mx_Go l (mx_rm (d + 1) 0 0) mX10_copyFrom (mx_Z Q 0 0) 0 0 79 [.ref 74, .ref 1] [] (sk0 c, I) := by
  exact g_vret rfl dX10_copyFrom_79 rfl (Nat.le_refl _) (q1)
set_option maxRecDepth 10000 in
set_option maxHeartbeats 1000000 in
theorem sn_X10_copyFrom_1_74 {l : Launch} {d : Nat} {Q : Option Value → mx_H → Prop} {c : Nat} {I : mx_I}
    (k1 : mx_K1 l mX5_copyFrom d [.ref 2, .ref 75] (sk0 c, (mx_set (mx_set (mx_set I 1 5 (I 74 5)) 1 6 (I 74 6)) 1 7 (I 74 7))) (fun r h' => mx_Go l (mx_rm (d + 1) 0 0) mX10_copyFrom (mx_Z Q 0 0) 0 0 35 [.ref 1, .ref 74] (r.toList ++ []) h')) :
    mx_Spec l mX10_copyFrom (d + 1) 0 0 [.ref 1, .ref 74] (sk0 c, I) Q := by
  refine mx_enter rfl (by simp [Value.category]) (Nat.le_of_ble_eq_true rfl) ?_
  change mx_Go l (mx_rm (d + 1) 0 0) mX10_copyFrom (mx_Z Q 0 0) 0 0 0 [.ref 1, .ref 74] [] (sk0 c, I)
  refine g_aload_n dX10_copyFrom_0 rfl rfl ?_
  refine g_aload_n dX10_copyFrom_1 rfl rfl ?_
  refine rg_X10_5 (v := (I 74 5)) dX10_copyFrom_2 lf_X10_46 (sk_74 _) rfl ?_
  refine rp_X10_5 dX10_copyFrom_5 lf_X10_46 (sk_1 _) ?_
  refine g_aload_n dX10_copyFrom_8 rfl rfl ?_
  refine g_aload_n dX10_copyFrom_9 rfl rfl ?_
  refine rg_X10_6 (v := (I 74 6)) dX10_copyFrom_10 lf_X10_50 (sk_74 _) (rd_ne (by decide) rfl) ?_
  refine rp_X10_6 dX10_copyFrom_13 lf_X10_50 (sk_1 _) ?_
  refine g_aload_n dX10_copyFrom_16 rfl rfl ?_
  refine g_aload_n dX10_copyFrom_17 rfl rfl ?_
  refine rg_X10_7 (v := (I 74 7)) dX10_copyFrom_18 lf_X10_53 (sk_74 _) (rd_ne (by decide) (rd_ne (by decide) rfl)) ?_
  refine rp_X10_7 dX10_copyFrom_21 lf_X10_53 (sk_1 _) ?_
  refine g_aload_n dX10_copyFrom_24 rfl rfl ?_
  refine rg_X10_0 (r := 2) dX10_copyFrom_25 lf_X10_12 (sk_1 _) rfl ?_
  refine g_aload_n dX10_copyFrom_28 rfl rfl ?_
  refine rg_X10_0 (r := 75) dX10_copyFrom_29 lf_X10_12 (sk_74 _) rfl ?_
  exact s_callV (M' := mX5_copyFrom) (As := [.ref 75]) (st := []) dX10_copyFrom_32 lm_X10_65 ovX5_copyFrom (h := (sk0 c, (mx_set (mx_set (mx_set I 1 5 (I 74 5)) 1 6 (I 74 6)) 1 7 (I 74 7)))) (sk_2 _) (show vwCl[5]? = some _ from rfl) rfl (by simp [Value.category]) (by decide) rfl (k1)
set_option maxRecDepth 10000 in
set_option maxHeartbeats 1000000 in
theorem sg_X10_copyFrom_1_74_35 {l : Launch} {d : Nat} {Q : Option Value → mx_H → Prop} {c : Nat} {I : mx_I}
    (k1 : mx_K1 l mX2_copyFrom d [.ref 8, .ref 81] (sk0 c, I) (fun r h' => mx_Go l (mx_rm (d + 1) 0 0) mX10_copyFrom (mx_Z Q 0 0) 0 0 46 [.ref 1, .ref 74] (r.toList ++ []) h')) :
    mx_Go l (mx_rm (d + 1) 0 0) mX10_copyFrom (mx_Z Q 0 0) 0 0 35 [.ref 1, .ref 74] [] (sk0 c, I) := by
  refine g_aload_n dX10_copyFrom_35 rfl rfl ?_
  refine rg_X10_1 (r := 8) dX10_copyFrom_36 lf_X10_21 (sk_1 _) rfl ?_
  refine g_aload_n dX10_copyFrom_39 rfl rfl ?_
  refine rg_X10_1 (r := 81) dX10_copyFrom_40 lf_X10_21 (sk_74 _) rfl ?_
  exact s_callV (M' := mX2_copyFrom) (As := [.ref 81]) (st := []) dX10_copyFrom_43 lm_X10_69 ovX2_copyFrom (h := (sk0 c, I)) (sk_8 _) (show vwCl[2]? = some _ from rfl) rfl (by simp [Value.category]) (by decide) rfl (k1)
set_option maxRecDepth 10000 in
set_option maxHeartbeats 1000000 in
theorem sg_X10_copyFrom_1_74_46 {l : Launch} {d : Nat} {Q : Option Value → mx_H → Prop} {c : Nat} {I : mx_I}
    (k1 : mx_K1 l mX6_copyFrom d [.ref 18, .ref 91] (sk0 c, I) (fun r h' => mx_Go l (mx_rm (d + 1) 0 0) mX10_copyFrom (mx_Z Q 0 0) 0 0 57 [.ref 1, .ref 74] (r.toList ++ []) h')) :
    mx_Go l (mx_rm (d + 1) 0 0) mX10_copyFrom (mx_Z Q 0 0) 0 0 46 [.ref 1, .ref 74] [] (sk0 c, I) := by
  refine g_aload_n dX10_copyFrom_46 rfl rfl ?_
  refine rg_X10_2 (r := 18) dX10_copyFrom_47 lf_X10_28 (sk_1 _) rfl ?_
  refine g_aload_n dX10_copyFrom_50 rfl rfl ?_
  refine rg_X10_2 (r := 91) dX10_copyFrom_51 lf_X10_28 (sk_74 _) rfl ?_
  exact s_callV (M' := mX6_copyFrom) (As := [.ref 91]) (st := []) dX10_copyFrom_54 lm_X10_72 ovX6_copyFrom (h := (sk0 c, I)) (sk_18 _) (show vwCl[6]? = some _ from rfl) rfl (by simp [Value.category]) (by decide) rfl (k1)
set_option maxRecDepth 10000 in
set_option maxHeartbeats 1000000 in
theorem sg_X10_copyFrom_1_74_57 {l : Launch} {d : Nat} {Q : Option Value → mx_H → Prop} {c : Nat} {I : mx_I}
    (k1 : mx_K1 l mX4_copyFrom d [.ref 24, .ref 97] (sk0 c, I) (fun r h' => mx_Go l (mx_rm (d + 1) 0 0) mX10_copyFrom (mx_Z Q 0 0) 0 0 68 [.ref 1, .ref 74] (r.toList ++ []) h')) :
    mx_Go l (mx_rm (d + 1) 0 0) mX10_copyFrom (mx_Z Q 0 0) 0 0 57 [.ref 1, .ref 74] [] (sk0 c, I) := by
  refine g_aload_n dX10_copyFrom_57 rfl rfl ?_
  refine rg_X10_3 (r := 24) dX10_copyFrom_58 lf_X10_35 (sk_1 _) rfl ?_
  refine g_aload_n dX10_copyFrom_61 rfl rfl ?_
  refine rg_X10_3 (r := 97) dX10_copyFrom_62 lf_X10_35 (sk_74 _) rfl ?_
  exact s_callV (M' := mX4_copyFrom) (As := [.ref 97]) (st := []) dX10_copyFrom_65 lm_X10_75 ovX4_copyFrom (h := (sk0 c, I)) (sk_24 _) (show vwCl[4]? = some _ from rfl) rfl (by simp [Value.category]) (by decide) rfl (k1)
set_option maxRecDepth 10000 in
set_option maxHeartbeats 1000000 in
theorem sg_X10_copyFrom_1_74_68 {l : Launch} {d : Nat} {Q : Option Value → mx_H → Prop} {c : Nat} {I : mx_I}
    (k1 : mx_K1 l mX3_copyFrom d [.ref 28, .ref 101] (sk0 c, I) (fun r h' => mx_Go l (mx_rm (d + 1) 0 0) mX10_copyFrom (mx_Z Q 0 0) 0 0 79 [.ref 1, .ref 74] (r.toList ++ []) h')) :
    mx_Go l (mx_rm (d + 1) 0 0) mX10_copyFrom (mx_Z Q 0 0) 0 0 68 [.ref 1, .ref 74] [] (sk0 c, I) := by
  refine g_aload_n dX10_copyFrom_68 rfl rfl ?_
  refine rg_X10_4 (r := 28) dX10_copyFrom_69 lf_X10_42 (sk_1 _) rfl ?_
  refine g_aload_n dX10_copyFrom_72 rfl rfl ?_
  refine rg_X10_4 (r := 101) dX10_copyFrom_73 lf_X10_42 (sk_74 _) rfl ?_
  exact s_callV (M' := mX3_copyFrom) (As := [.ref 101]) (st := []) dX10_copyFrom_76 lm_X10_78 ovX3_copyFrom (h := (sk0 c, I)) (sk_28 _) (show vwCl[3]? = some _ from rfl) rfl (by simp [Value.category]) (by decide) rfl (k1)
set_option maxRecDepth 10000 in
set_option maxHeartbeats 1000000 in
theorem sg_X10_copyFrom_1_74_79 {l : Launch} {d : Nat} {Q : Option Value → mx_H → Prop} {c : Nat} {I : mx_I}
    (q1 : Q none (sk0 c, I)) :
    mx_Go l (mx_rm (d + 1) 0 0) mX10_copyFrom (mx_Z Q 0 0) 0 0 79 [.ref 1, .ref 74] [] (sk0 c, I) := by
  exact g_vret rfl dX10_copyFrom_79 rfl (Nat.le_refl _) (q1)
