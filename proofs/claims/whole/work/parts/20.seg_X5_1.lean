set_option maxRecDepth 10000 in
set_option maxHeartbeats 1000000 in
theorem sn_X5_add {l : Launch} {d : Nat} {Q : Option Value → mx_H → Prop} {c : Nat} {I : mx_I} (a1 : Int32) (a2 : Int32) (a3 : Int32)
    (b1 : ((I 2 5) < 30) → vp_in (I 2 5) 30)
    (b2 : ((I 2 5) < 30) → vp_in (I 2 5) 30)
    (b3 : ((I 2 5) < 30) → vp_in (I 2 5) 30)
    (b4 : ((I 2 5) < 30) → vp_in (I 2 5) 30)
    (b5 : ((I 2 5) < 30) → vp_in (I 2 5) 30)
    (q6 : ((I 2 5) < 30) → Q (some (.int (((I 2 5) + 1) - 1))) (sk0 c, (mx_set (mx_set (mx_set (mx_set (mx_set (mx_set I 3 (I 2 5).toNatClampNeg a1) 4 (I 2 5).toNatClampNeg a2) 5 (I 2 5).toNatClampNeg a3) 6 (I 2 5).toNatClampNeg (-1)) 7 (I 2 5).toNatClampNeg 0) 2 5 ((I 2 5) + 1))))
    (q7 : (¬ (I 2 5) < 30) → Q (some (.int (-1))) (sk0 c, I)) :
    mx_Spec l mX5_add (d + 1) 0 0 [.ref 2, .int a1, .int a2, .int a3] (sk0 c, I) Q := by
  refine mx_enter rfl (by simp [Value.category]) (Nat.le_of_ble_eq_true rfl) ?_
  change mx_Go l (mx_rm (d + 1) 0 0) mX5_add (mx_Z Q 0 0) 0 0 0 [.ref 2, .int a1, .int a2, .int a3] [] (sk0 c, I)
  refine g_aload_n dX5_add_0 rfl rfl ?_
  refine rg_X5_5 (v := (I 2 5)) dX5_add_1 lf_X5_27 (sk_2 _) rfl ?_
  refine g_bipush (v := 30) dX5_add_4 (by decide) ?_
  refine g_icmp_lt (tgt := 11) dX5_add_6 (by decide) (fun c1 => ?_) (fun c2 => ?_)
  · skip
    refine g_aload_n dX5_add_11 rfl rfl ?_
    refine rg_X5_0 (r := 3) dX5_add_12 lf_X5_9 (sk_2 _) rfl ?_
    refine g_aload_n dX5_add_15 rfl rfl ?_
    refine rg_X5_5 (v := (I 2 5)) dX5_add_16 lf_X5_27 (sk_2 _) rfl ?_
    refine g_iload_n dX5_add_19 rfl rfl ?_
    refine s_iast (j := (I 2 5).toNatClampNeg) dX5_add_20 (sk_3 _) (b1 c1) rfl ?_
    refine g_aload_n dX5_add_21 rfl rfl ?_
    refine rg_X5_1 (r := 4) dX5_add_22 lf_X5_15 (sk_2 _) rfl ?_
    refine g_aload_n dX5_add_25 rfl rfl ?_
    refine rg_X5_5 (v := (I 2 5)) dX5_add_26 lf_X5_27 (sk_2 _) (rd_ne (by decide) rfl) ?_
    refine g_iload_n dX5_add_29 rfl rfl ?_
    refine s_iast (j := (I 2 5).toNatClampNeg) dX5_add_30 (sk_4 _) (b2 c1) rfl ?_
    refine g_aload_n dX5_add_31 rfl rfl ?_
    refine rg_X5_2 (r := 5) dX5_add_32 lf_X5_18 (sk_2 _) rfl ?_
    refine g_aload_n dX5_add_35 rfl rfl ?_
    refine rg_X5_5 (v := (I 2 5)) dX5_add_36 lf_X5_27 (sk_2 _) (rd_ne (by decide) (rd_ne (by decide) rfl)) ?_
    refine g_iload_n dX5_add_39 rfl rfl ?_
    refine s_iast (j := (I 2 5).toNatClampNeg) dX5_add_40 (sk_5 _) (b3 c1) rfl ?_
    refine g_aload_n dX5_add_41 rfl rfl ?_
    refine rg_X5_3 (r := 6) dX5_add_42 lf_X5_21 (sk_2 _) rfl ?_
    refine g_aload_n dX5_add_45 rfl rfl ?_
    refine rg_X5_5 (v := (I 2 5)) dX5_add_46 lf_X5_27 (sk_2 _) (rd_ne (by decide) (rd_ne (by decide) (rd_ne (by decide) rfl))) ?_
    refine g_iconst (v := (-1)) dX5_add_49 (by decide) ?_
    refine s_iast (j := (I 2 5).toNatClampNeg) dX5_add_50 (sk_6 _) (b4 c1) rfl ?_
    refine g_aload_n dX5_add_51 rfl rfl ?_
    refine rg_X5_4 (r := 7) dX5_add_52 lf_X5_24 (sk_2 _) rfl ?_
    refine g_aload_n dX5_add_55 rfl rfl ?_
    refine rg_X5_5 (v := (I 2 5)) dX5_add_56 lf_X5_27 (sk_2 _) (rd_ne (by decide) (rd_ne (by decide) (rd_ne (by decide) (rd_ne (by decide) rfl)))) ?_
    refine g_iconst (v := 0) dX5_add_59 (by decide) ?_
    refine s_iast (j := (I 2 5).toNatClampNeg) dX5_add_60 (sk_7 _) (b5 c1) rfl ?_
    refine g_aload_n dX5_add_61 rfl rfl ?_
    refine g_dup dX5_add_62 rfl ?_
    refine rg_X5_5 (v := (I 2 5)) dX5_add_63 lf_X5_27 (sk_2 _) (rd_ne (by decide) (rd_ne (by decide) (rd_ne (by decide) (rd_ne (by decide) (rd_ne (by decide) rfl))))) ?_
    refine g_iconst (v := 1) dX5_add_66 (by decide) ?_
    refine g_iadd dX5_add_67 ?_
    refine rp_X5_5 dX5_add_68 lf_X5_27 (sk_2 _) ?_
    refine g_aload_n dX5_add_71 rfl rfl ?_
    refine rg_X5_5 (v := ((I 2 5) + 1)) dX5_add_72 lf_X5_27 (sk_2 _) rd_eq ?_
    refine g_iconst (v := 1) dX5_add_75 (by decide) ?_
    refine g_isub dX5_add_76 ?_
    exact g_iret rfl dX5_add_77 rfl (Nat.le_refl _) (q6 c1)
  · skip
    refine g_iconst (v := (-1)) dX5_add_9 (by decide) ?_
    exact g_iret rfl dX5_add_10 rfl (Nat.le_refl _) (q7 c2)
set_option maxRecDepth 10000 in
set_option maxHeartbeats 1000000 in
theorem sn_X5_dropLast {l : Launch} {d : Nat} {Q : Option Value → mx_H → Prop} {c : Nat} {I : mx_I}
    (q1 : ((I 2 5) ≤ 0) → Q none (sk0 c, I))
    (q2 : (¬ (I 2 5) ≤ 0) → Q none (sk0 c, (mx_set I 2 5 ((I 2 5) - 1)))) :
    mx_Spec l mX5_dropLast (d + 1) 0 0 [.ref 2] (sk0 c, I) Q := by
  refine mx_enter rfl (by simp [Value.category]) (Nat.le_of_ble_eq_true rfl) ?_
  change mx_Go l (mx_rm (d + 1) 0 0) mX5_dropLast (mx_Z Q 0 0) 0 0 0 [.ref 2] [] (sk0 c, I)
  refine g_aload_n dX5_dropLast_0 rfl rfl ?_
  refine rg_X5_5 (v := (I 2 5)) dX5_dropLast_1 lf_X5_27 (sk_2 _) rfl ?_
  refine g_if_le (tgt := 17) dX5_dropLast_4 (by decide) (fun c1 => ?_) (fun c2 => ?_)
  · skip
    exact g_vret rfl dX5_dropLast_17 rfl (Nat.le_refl _) (q1 c1)
  · skip
    refine g_aload_n dX5_dropLast_7 rfl rfl ?_
    refine g_dup dX5_dropLast_8 rfl ?_
    refine rg_X5_5 (v := (I 2 5)) dX5_dropLast_9 lf_X5_27 (sk_2 _) rfl ?_
    refine g_iconst (v := 1) dX5_dropLast_12 (by decide) ?_
    refine g_isub dX5_dropLast_13 ?_
    refine rp_X5_5 dX5_dropLast_14 lf_X5_27 (sk_2 _) ?_
    exact g_vret rfl dX5_dropLast_17 rfl (Nat.le_refl _) (q2 c2)
set_option maxRecDepth 10000 in
set_option maxHeartbeats 1000000 in
theorem sn_X5_has {l : Launch} {d : Nat} {Q : Option Value → mx_H → Prop} {c : Nat} {I : mx_I} (a1 : Int32)
    (q1 : (a1 < 0) → Q (some (.int 0)) (sk0 c, I))
    (q2 : (¬ a1 < 0) → ((I 2 5) ≤ a1) → Q (some (.int 0)) (sk0 c, I))
    (q3 : (¬ a1 < 0) → (¬ (I 2 5) ≤ a1) → Q (some (.int 1)) (sk0 c, I)) :
    mx_Spec l mX5_has (d + 1) 0 0 [.ref 2, .int a1] (sk0 c, I) Q := by
  refine mx_enter rfl (by simp [Value.category]) (Nat.le_of_ble_eq_true rfl) ?_
  change mx_Go l (mx_rm (d + 1) 0 0) mX5_has (mx_Z Q 0 0) 0 0 0 [.ref 2, .int a1] [] (sk0 c, I)
  refine g_iload_n dX5_has_0 rfl rfl ?_
  refine g_if_lt (tgt := 16) dX5_has_1 (by decide) (fun c1 => ?_) (fun c2 => ?_)
  · skip
    refine g_iconst (v := 0) dX5_has_16 (by decide) ?_
    exact g_zret (ty := .boolean) rfl rfl dX5_has_17 rfl (Nat.le_refl _) (q1 c1)
  · skip
    refine g_iload_n dX5_has_4 rfl rfl ?_
    refine g_aload_n dX5_has_5 rfl rfl ?_
    refine rg_X5_5 (v := (I 2 5)) dX5_has_6 lf_X5_27 (sk_2 _) rfl ?_
    refine g_icmp_ge (tgt := 16) dX5_has_9 (by decide) (fun c3 => ?_) (fun c4 => ?_)
    · skip
      refine g_iconst (v := 0) dX5_has_16 (by decide) ?_
      exact g_zret (ty := .boolean) rfl rfl dX5_has_17 rfl (Nat.le_refl _) (q2 c2 c3)
    · skip
      refine g_iconst (v := 1) dX5_has_12 (by decide) ?_
      refine g_goto (tgt := 17) dX5_has_13 (by decide) ?_
      exact g_zret (ty := .boolean) rfl rfl dX5_has_17 rfl (Nat.le_refl _) (q3 c2 c4)
set_option maxRecDepth 10000 in
set_option maxHeartbeats 1000000 in
theorem sn_X5_hasAll {l : Launch} {d : Nat} {Q : Option Value → mx_H → Prop} {c : Nat} {I : mx_I} (a1 : Int32)
    (q1 : (a1 < 0) → Q (some (.int 0)) (sk0 c, I))
    (q2 : (¬ a1 < 0) → (¬ (a1 >>> ((I 2 5) &&& 31)) = 0) → Q (some (.int 0)) (sk0 c, I))
    (q3 : (¬ a1 < 0) → ((a1 >>> ((I 2 5) &&& 31)) = 0) → Q (some (.int 1)) (sk0 c, I)) :
    mx_Spec l mX5_hasAll (d + 1) 0 0 [.ref 2, .int a1] (sk0 c, I) Q := by
  refine mx_enter rfl (by simp [Value.category]) (Nat.le_of_ble_eq_true rfl) ?_
  change mx_Go l (mx_rm (d + 1) 0 0) mX5_hasAll (mx_Z Q 0 0) 0 0 0 [.ref 2, .int a1] [] (sk0 c, I)
  refine g_iload_n dX5_hasAll_0 rfl rfl ?_
  refine g_if_lt (tgt := 17) dX5_hasAll_1 (by decide) (fun c1 => ?_) (fun c2 => ?_)
  · skip
    refine g_iconst (v := 0) dX5_hasAll_17 (by decide) ?_
    exact g_zret (ty := .boolean) rfl rfl dX5_hasAll_18 rfl (Nat.le_refl _) (q1 c1)
  · skip
    refine g_iload_n dX5_hasAll_4 rfl rfl ?_
    refine g_aload_n dX5_hasAll_5 rfl rfl ?_
    refine rg_X5_5 (v := (I 2 5)) dX5_hasAll_6 lf_X5_27 (sk_2 _) rfl ?_
    refine g_ishr dX5_hasAll_9 ?_
    refine g_if_ne (tgt := 17) dX5_hasAll_10 (by decide) (fun c3 => ?_) (fun c4 => ?_)
    · skip
      refine g_iconst (v := 0) dX5_hasAll_17 (by decide) ?_
      exact g_zret (ty := .boolean) rfl rfl dX5_hasAll_18 rfl (Nat.le_refl _) (q2 c2 c3)
    · skip
      refine g_iconst (v := 1) dX5_hasAll_13 (by decide) ?_
      refine g_goto (tgt := 18) dX5_hasAll_14 (by decide) ?_
      exact g_zret (ty := .boolean) rfl rfl dX5_hasAll_18 rfl (Nat.le_refl _) (q3 c2 c4)
set_option maxRecDepth 10000 in
set_option maxHeartbeats 1000000 in
theorem sn_X5_copyFrom_75_2 {l : Launch} {d : Nat} {Q : Option Value → mx_H → Prop} {c : Nat} {I : mx_I}
    (q1 : Q none (sk0 c, (mx_set (mx_copy (mx_copy (mx_copy (mx_copy (mx_copy I 3 76 30) 4 77 30) 5 78 30) 6 79 30) 7 80 30) 75 5 (I 2 5)))) :
    mx_Spec l mX5_copyFrom (d + 1) 0 0 [.ref 75, .ref 2] (sk0 c, I) Q := by
  refine mx_enter rfl (by simp [Value.category]) (Nat.le_of_ble_eq_true rfl) ?_
  change mx_Go l (mx_rm (d + 1) 0 0) mX5_copyFrom (mx_Z Q 0 0) 0 0 0 [.ref 75, .ref 2] [] (sk0 c, I)
  refine g_aload_n dX5_copyFrom_0 rfl rfl ?_
  refine rg_X5_0 (r := 3) dX5_copyFrom_1 lf_X5_9 (sk_2 _) rfl ?_
  refine g_iconst (v := 0) dX5_copyFrom_4 (by decide) ?_
  refine g_aload_n dX5_copyFrom_5 rfl rfl ?_
  refine rg_X5_0 (r := 76) dX5_copyFrom_6 lf_X5_9 (sk_75 _) rfl ?_
  refine g_iconst (v := 0) dX5_copyFrom_9 (by decide) ?_
  refine g_bipush (v := 30) dX5_copyFrom_10 (by decide) ?_
  refine s_copy (N := 30) dX5_copyFrom_12 lm_X5_31 (sk_3 _) (sk_76 _) (by decide) (by decide) (by decide) (by decide) (by decide) ?_
  refine g_aload_n dX5_copyFrom_15 rfl rfl ?_
  refine rg_X5_1 (r := 4) dX5_copyFrom_16 lf_X5_15 (sk_2 _) rfl ?_
  refine g_iconst (v := 0) dX5_copyFrom_19 (by decide) ?_
  refine g_aload_n dX5_copyFrom_20 rfl rfl ?_
  refine rg_X5_1 (r := 77) dX5_copyFrom_21 lf_X5_15 (sk_75 _) rfl ?_
  refine g_iconst (v := 0) dX5_copyFrom_24 (by decide) ?_
  refine g_bipush (v := 30) dX5_copyFrom_25 (by decide) ?_
  refine s_copy (N := 30) dX5_copyFrom_27 lm_X5_31 (sk_4 _) (sk_77 _) (by decide) (by decide) (by decide) (by decide) (by decide) ?_
  refine g_aload_n dX5_copyFrom_30 rfl rfl ?_
  refine rg_X5_2 (r := 5) dX5_copyFrom_31 lf_X5_18 (sk_2 _) rfl ?_
  refine g_iconst (v := 0) dX5_copyFrom_34 (by decide) ?_
  refine g_aload_n dX5_copyFrom_35 rfl rfl ?_
  refine rg_X5_2 (r := 78) dX5_copyFrom_36 lf_X5_18 (sk_75 _) rfl ?_
  refine g_iconst (v := 0) dX5_copyFrom_39 (by decide) ?_
  refine g_bipush (v := 30) dX5_copyFrom_40 (by decide) ?_
  refine s_copy (N := 30) dX5_copyFrom_42 lm_X5_31 (sk_5 _) (sk_78 _) (by decide) (by decide) (by decide) (by decide) (by decide) ?_
  refine g_aload_n dX5_copyFrom_45 rfl rfl ?_
  refine rg_X5_3 (r := 6) dX5_copyFrom_46 lf_X5_21 (sk_2 _) rfl ?_
  refine g_iconst (v := 0) dX5_copyFrom_49 (by decide) ?_
  refine g_aload_n dX5_copyFrom_50 rfl rfl ?_
  refine rg_X5_3 (r := 79) dX5_copyFrom_51 lf_X5_21 (sk_75 _) rfl ?_
  refine g_iconst (v := 0) dX5_copyFrom_54 (by decide) ?_
  refine g_bipush (v := 30) dX5_copyFrom_55 (by decide) ?_
  refine s_copy (N := 30) dX5_copyFrom_57 lm_X5_31 (sk_6 _) (sk_79 _) (by decide) (by decide) (by decide) (by decide) (by decide) ?_
  refine g_aload_n dX5_copyFrom_60 rfl rfl ?_
  refine rg_X5_4 (r := 7) dX5_copyFrom_61 lf_X5_24 (sk_2 _) rfl ?_
  refine g_iconst (v := 0) dX5_copyFrom_64 (by decide) ?_
  refine g_aload_n dX5_copyFrom_65 rfl rfl ?_
  refine rg_X5_4 (r := 80) dX5_copyFrom_66 lf_X5_24 (sk_75 _) rfl ?_
  refine g_iconst (v := 0) dX5_copyFrom_69 (by decide) ?_
  refine g_bipush (v := 30) dX5_copyFrom_70 (by decide) ?_
  refine s_copy (N := 30) dX5_copyFrom_72 lm_X5_31 (sk_7 _) (sk_80 _) (by decide) (by decide) (by decide) (by decide) (by decide) ?_
  refine g_aload_n dX5_copyFrom_75 rfl rfl ?_
  refine g_aload_n dX5_copyFrom_76 rfl rfl ?_
  refine rg_X5_5 (v := (I 2 5)) dX5_copyFrom_77 lf_X5_27 (sk_2 _) (rd_cp (by decide) (rd_cp (by decide) (rd_cp (by decide) (rd_cp (by decide) (rd_cp (by decide) rfl))))) ?_
  refine rp_X5_5 dX5_copyFrom_80 lf_X5_27 (sk_75 _) ?_
  exact g_vret rfl dX5_copyFrom_83 rfl (Nat.le_refl _) (q1)
set_option maxRecDepth 10000 in
set_option maxHeartbeats 1000000 in
theorem sn_X5_copyFrom_2_75 {l : Launch} {d : Nat} {Q : Option Value → mx_H → Prop} {c : Nat} {I : mx_I}
    (q1 : Q none (sk0 c, (mx_set (mx_copy (mx_copy (mx_copy (mx_copy (mx_copy I 76 3 30) 77 4 30) 78 5 30) 79 6 30) 80 7 30) 2 5 (I 75 5)))) :
    mx_Spec l mX5_copyFrom (d + 1) 0 0 [.ref 2, .ref 75] (sk0 c, I) Q := by
  refine mx_enter rfl (by simp [Value.category]) (Nat.le_of_ble_eq_true rfl) ?_
  change mx_Go l (mx_rm (d + 1) 0 0) mX5_copyFrom (mx_Z Q 0 0) 0 0 0 [.ref 2, .ref 75] [] (sk0 c, I)
  refine g_aload_n dX5_copyFrom_0 rfl rfl ?_
  refine rg_X5_0 (r := 76) dX5_copyFrom_1 lf_X5_9 (sk_75 _) rfl ?_
  refine g_iconst (v := 0) dX5_copyFrom_4 (by decide) ?_
  refine g_aload_n dX5_copyFrom_5 rfl rfl ?_
  refine rg_X5_0 (r := 3) dX5_copyFrom_6 lf_X5_9 (sk_2 _) rfl ?_
  refine g_iconst (v := 0) dX5_copyFrom_9 (by decide) ?_
  refine g_bipush (v := 30) dX5_copyFrom_10 (by decide) ?_
  refine s_copy (N := 30) dX5_copyFrom_12 lm_X5_31 (sk_76 _) (sk_3 _) (by decide) (by decide) (by decide) (by decide) (by decide) ?_
  refine g_aload_n dX5_copyFrom_15 rfl rfl ?_
  refine rg_X5_1 (r := 77) dX5_copyFrom_16 lf_X5_15 (sk_75 _) rfl ?_
  refine g_iconst (v := 0) dX5_copyFrom_19 (by decide) ?_
  refine g_aload_n dX5_copyFrom_20 rfl rfl ?_
  refine rg_X5_1 (r := 4) dX5_copyFrom_21 lf_X5_15 (sk_2 _) rfl ?_
  refine g_iconst (v := 0) dX5_copyFrom_24 (by decide) ?_
  refine g_bipush (v := 30) dX5_copyFrom_25 (by decide) ?_
  refine s_copy (N := 30) dX5_copyFrom_27 lm_X5_31 (sk_77 _) (sk_4 _) (by decide) (by decide) (by decide) (by decide) (by decide) ?_
  refine g_aload_n dX5_copyFrom_30 rfl rfl ?_
  refine rg_X5_2 (r := 78) dX5_copyFrom_31 lf_X5_18 (sk_75 _) rfl ?_
  refine g_iconst (v := 0) dX5_copyFrom_34 (by decide) ?_
  refine g_aload_n dX5_copyFrom_35 rfl rfl ?_
  refine rg_X5_2 (r := 5) dX5_copyFrom_36 lf_X5_18 (sk_2 _) rfl ?_
  refine g_iconst (v := 0) dX5_copyFrom_39 (by decide) ?_
  refine g_bipush (v := 30) dX5_copyFrom_40 (by decide) ?_
  refine s_copy (N := 30) dX5_copyFrom_42 lm_X5_31 (sk_78 _) (sk_5 _) (by decide) (by decide) (by decide) (by decide) (by decide) ?_
  refine g_aload_n dX5_copyFrom_45 rfl rfl ?_
  refine rg_X5_3 (r := 79) dX5_copyFrom_46 lf_X5_21 (sk_75 _) rfl ?_
  refine g_iconst (v := 0) dX5_copyFrom_49 (by decide) ?_
  refine g_aload_n dX5_copyFrom_50 rfl rfl ?_
  refine rg_X5_3 (r := 6) dX5_copyFrom_51 lf_X5_21 (sk_2 _) rfl ?_
  refine g_iconst (v := 0) dX5_copyFrom_54 (by decide) ?_
  refine g_bipush (v := 30) dX5_copyFrom_55 (by decide) ?_
  refine s_copy (N := 30) dX5_copyFrom_57 lm_X5_31 (sk_79 _) (sk_6 _) (by decide) (by decide) (by decide) (by decide) (by decide) ?_
  refine g_aload_n dX5_copyFrom_60 rfl rfl ?_
  refine rg_X5_4 (r := 80) dX5_copyFrom_61 lf_X5_24 (sk_75 _) rfl ?_
  refine g_iconst (v := 0) dX5_copyFrom_64 (by decide) ?_
  refine g_aload_n dX5_copyFrom_65 rfl rfl ?_
  refine rg_X5_4 (r := 7) dX5_copyFrom_66 lf_X5_24 (sk_2 _) rfl ?_
  refine g_iconst (v := 0) dX5_copyFrom_69 (by decide) ?_
  refine g_bipush (v := 30) dX5_copyFrom_70 (by decide) ?_
  refine s_copy (N := 30) dX5_copyFrom_72 lm_X5_31 (sk_80 _) (sk_7 _) (by decide) (by decide) (by decide) (by decide) (by decide) ?_
  refine g_aload_n dX5_copyFrom_75 rfl rfl ?_
  refine g_aload_n dX5_copyFrom_76 rfl rfl ?_
  refine rg_X5_5 (v := (I 75 5)) dX5_copyFrom_77 lf_X5_27 (sk_75 _) (rd_cp (by decide) (rd_cp (by decide) (rd_cp (by decide) (rd_cp (by decide) (rd_cp (by decide) rfl))))) ?_
  refine rp_X5_5 dX5_copyFrom_80 lf_X5_27 (sk_2 _) ?_
  exact g_vret rfl dX5_copyFrom_83 rfl (Nat.le_refl _) (q1)
