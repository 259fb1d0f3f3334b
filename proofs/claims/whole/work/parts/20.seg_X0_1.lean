set_option maxRecDepth 10000 in
set_option maxHeartbeats 1000000 in
theorem sn_X0_write {l : Launch} {d : Nat} {Q : Option Value → mx_H → Prop} {c : Nat} {I : mx_I} (a1 : Int32) (a2 : Int32) (a3 : Int32)
    (q1 : (300 ≤ (I 43 3)) → Q none (sk0 c, I))
    (b2 : (¬ 300 ≤ (I 43 3)) → vp_in (I 43 3) 300)
    (b3 : (¬ 300 ≤ (I 43 3)) → vp_in (I 43 3) 300)
    (b4 : (¬ 300 ≤ (I 43 3)) → vp_in (I 43 3) 300)
    (q5 : (¬ 300 ≤ (I 43 3)) → Q none (sk0 c, (mx_set (mx_set (mx_set (mx_set I 44 (I 43 3).toNatClampNeg a1) 45 (I 43 3).toNatClampNeg a2) 46 (I 43 3).toNatClampNeg a3) 43 3 ((I 43 3) + 1)))) :
    mx_Spec l mX0_write (d + 1) 0 0 [.ref 43, .int a1, .int a2, .int a3] (sk0 c, I) Q := by
  refine mx_enter rfl (by simp [Value.category]) (Nat.le_of_ble_eq_true rfl) ?_
  change mx_Go l (mx_rm (d + 1) 0 0) mX0_write (mx_Z Q 0 0) 0 0 0 [.ref 43, .int a1, .int a2, .int a3] [] (sk0 c, I)
  refine g_aload_n dX0_write_0 rfl rfl ?_
  refine rg_X0_3 (v := (I 43 3)) dX0_write_1 lf_X0_21 (sk_43 _) rfl ?_
  refine g_sipush (v := 300) dX0_write_4 (by decide) ?_
  refine g_icmp_ge (tgt := 50) dX0_write_7 (by decide) (fun c1 => ?_) (fun c2 => ?_)
  · skip
    exact g_vret rfl dX0_write_50 rfl (Nat.le_refl _) (q1 c1)
  · skip
    refine g_aload_n dX0_write_10 rfl rfl ?_
    refine rg_X0_0 (r := 44) dX0_write_11 lf_X0_9 (sk_43 _) rfl ?_
    refine g_aload_n dX0_write_14 rfl rfl ?_
    refine rg_X0_3 (v := (I 43 3)) dX0_write_15 lf_X0_21 (sk_43 _) rfl ?_
    refine g_iload_n dX0_write_18 rfl rfl ?_
    refine s_iast (j := (I 43 3).toNatClampNeg) dX0_write_19 (sk_44 _) (b2 c2) rfl ?_
    refine g_aload_n dX0_write_20 rfl rfl ?_
    refine rg_X0_1 (r := 45) dX0_write_21 lf_X0_15 (sk_43 _) rfl ?_
    refine g_aload_n dX0_write_24 rfl rfl ?_
    refine rg_X0_3 (v := (I 43 3)) dX0_write_25 lf_X0_21 (sk_43 _) (rd_ne (by decide) rfl) ?_
    refine g_iload_n dX0_write_28 rfl rfl ?_
    refine s_iast (j := (I 43 3).toNatClampNeg) dX0_write_29 (sk_45 _) (b3 c2) rfl ?_
    refine g_aload_n dX0_write_30 rfl rfl ?_
    refine rg_X0_2 (r := 46) dX0_write_31 lf_X0_18 (sk_43 _) rfl ?_
    refine g_aload_n dX0_write_34 rfl rfl ?_
    refine rg_X0_3 (v := (I 43 3)) dX0_write_35 lf_X0_21 (sk_43 _) (rd_ne (by decide) (rd_ne (by decide) rfl)) ?_
    refine g_iload_n dX0_write_38 rfl rfl ?_
    refine s_iast (j := (I 43 3).toNatClampNeg) dX0_write_39 (sk_46 _) (b4 c2) rfl ?_
    refine g_aload_n dX0_write_40 rfl rfl ?_
    refine g_dup dX0_write_41 rfl ?_
    refine rg_X0_3 (v := (I 43 3)) dX0_write_42 lf_X0_21 (sk_43 _) (rd_ne (by decide) (rd_ne (by decide) (rd_ne (by decide) rfl))) ?_
    refine g_iconst (v := 1) dX0_write_45 (by decide) ?_
    refine g_iadd dX0_write_46 ?_
    refine rp_X0_3 dX0_write_47 lf_X0_21 (sk_43 _) ?_
    exact g_vret rfl dX0_write_50 rfl (Nat.le_refl _) (q5 c2)
set_option maxRecDepth 10000 in
set_option maxHeartbeats 1000000 in
theorem sn_X0_copyFrom_116_43 {l : Launch} {d : Nat} {Q : Option Value → mx_H → Prop} {c : Nat} {I : mx_I}
    (q1 : Q none (sk0 c, (mx_set (mx_copy (mx_copy (mx_copy I 44 117 300) 45 118 300) 46 119 300) 116 3 (I 43 3)))) :
    mx_Spec l mX0_copyFrom (d + 1) 0 0 [.ref 116, .ref 43] (sk0 c, I) Q := by
  refine mx_enter rfl (by simp [Value.category]) (Nat.le_of_ble_eq_true rfl) ?_
  change mx_Go l (mx_rm (d + 1) 0 0) mX0_copyFrom (mx_Z Q 0 0) 0 0 0 [.ref 116, .ref 43] [] (sk0 c, I)
  refine g_aload_n dX0_copyFrom_0 rfl rfl ?_
  refine rg_X0_0 (r := 44) dX0_copyFrom_1 lf_X0_9 (sk_43 _) rfl ?_
  refine g_iconst (v := 0) dX0_copyFrom_4 (by decide) ?_
  refine g_aload_n dX0_copyFrom_5 rfl rfl ?_
  refine rg_X0_0 (r := 117) dX0_copyFrom_6 lf_X0_9 (sk_116 _) rfl ?_
  refine g_iconst (v := 0) dX0_copyFrom_9 (by decide) ?_
  refine g_sipush (v := 300) dX0_copyFrom_10 (by decide) ?_
  refine s_copy (N := 300) dX0_copyFrom_13 lm_X0_25 (sk_44 _) (sk_117 _) (by decide) (by decide) (by decide) (by decide) (by decide) ?_
  refine g_aload_n dX0_copyFrom_16 rfl rfl ?_
  refine rg_X0_1 (r := 45) dX0_copyFrom_17 lf_X0_15 (sk_43 _) rfl ?_
  refine g_iconst (v := 0) dX0_copyFrom_20 (by decide) ?_
  refine g_aload_n dX0_copyFrom_21 rfl rfl ?_
  refine rg_X0_1 (r := 118) dX0_copyFrom_22 lf_X0_15 (sk_116 _) rfl ?_
  refine g_iconst (v := 0) dX0_copyFrom_25 (by decide) ?_
  refine g_sipush (v := 300) dX0_copyFrom_26 (by decide) ?_
  refine s_copy (N := 300) dX0_copyFrom_29 lm_X0_25 (sk_45 _) (sk_118 _) (by decide) (by decide) (by decide) (by decide) (by decide) ?_
  refine g_aload_n dX0_copyFrom_32 rfl rfl ?_
  refine rg_X0_2 (r := 46) dX0_copyFrom_33 lf_X0_18 (sk_43 _) rfl ?_
  refine g_iconst (v := 0) dX0_copyFrom_36 (by decide) ?_
  refine g_aload_n dX0_copyFrom_37 rfl rfl ?_
  refine rg_X0_2 (r := 119) dX0_copyFrom_38 lf_X0_18 (sk_116 _) rfl ?_
  refine g_iconst (v := 0) dX0_copyFrom_41 (by decide) ?_
  refine g_sipush (v := 300) dX0_copyFrom_42 (by decide) ?_
  refine s_copy (N := 300) dX0_copyFrom_45 lm_X0_25 (sk_46 _) (sk_119 _) (by decide) (by decide) (by decide) (by decide) (by decide) ?_
  refine g_aload_n dX0_copyFrom_48 rfl rfl ?_
  refine g_aload_n dX0_copyFrom_49 rfl rfl ?_
  refine rg_X0_3 (v := (I 43 3)) dX0_copyFrom_50 lf_X0_21 (sk_43 _) (rd_cp (by decide) (rd_cp (by decide) (rd_cp (by decide) rfl))) ?_
  refine rp_X0_3 dX0_copyFrom_53 lf_X0_21 (sk_116 _) ?_
  exact g_vret rfl dX0_copyFrom_56 rfl (Nat.le_refl _) (q1)
set_option maxRecDepth 10000 in
set_option maxHeartbeats 1000000 in
theorem sn_X0_copyFrom_43_116 {l : Launch} {d : Nat} {Q : Option Value → mx_H → Prop} {c : Nat} {I : mx_I}
    (q1 : Q none (sk0 c, (mx_set (mx_copy (mx_copy (mx_copy I 117 44 300) 118 45 300) 119 46 300) 43 3 (I 116 3)))) :
    mx_Spec l mX0_copyFrom (d + 1) 0 0 [.ref 43, .ref 116] (sk0 c, I) Q := by
  refine mx_enter rfl (by simp [Value.category]) (Nat.le_of_ble_eq_true rfl) ?_
  change mx_Go l (mx_rm (d + 1) 0 0) mX0_copyFrom (mx_Z Q 0 0) 0 0 0 [.ref 43, .ref 116] [] (sk0 c, I)
  refine g_aload_n dX0_copyFrom_0 rfl rfl ?_
  refine rg_X0_0 (r := 117) dX0_copyFrom_1 lf_X0_9 (sk_116 _) rfl ?_
  refine g_iconst (v := 0) dX0_copyFrom_4 (by decide) ?_
  refine g_aload_n dX0_copyFrom_5 rfl rfl ?_
  refine rg_X0_0 (r := 44) dX0_copyFrom_6 lf_X0_9 (sk_43 _) rfl ?_
  refine g_iconst (v := 0) dX0_copyFrom_9 (by decide) ?_
  refine g_sipush (v := 300) dX0_copyFrom_10 (by decide) ?_
  refine s_copy (N := 300) dX0_copyFrom_13 lm_X0_25 (sk_117 _) (sk_44 _) (by decide) (by decide) (by decide) (by decide) (by decide) ?_
  refine g_aload_n dX0_copyFrom_16 rfl rfl ?_
  refine rg_X0_1 (r := 118) dX0_copyFrom_17 lf_X0_15 (sk_116 _) rfl ?_
  refine g_iconst (v := 0) dX0_copyFrom_20 (by decide) ?_
  refine g_aload_n dX0_copyFrom_21 rfl rfl ?_
  refine rg_X0_1 (r := 45) dX0_copyFrom_22 lf_X0_15 (sk_43 _) rfl ?_
  refine g_iconst (v := 0) dX0_copyFrom_25 (by decide) ?_
  refine g_sipush (v := 300) dX0_copyFrom_26 (by decide) ?_
  refine s_copy (N := 300) dX0_copyFrom_29 lm_X0_25 (sk_118 _) (sk_45 _) (by decide) (by decide) (by decide) (by decide) (by decide) ?_
  refine g_aload_n dX0_copyFrom_32 rfl rfl ?_
  refine rg_X0_2 (r := 119) dX0_copyFrom_33 lf_X0_18 (sk_116 _) rfl ?_
  refine g_iconst (v := 0) dX0_copyFrom_36 (by decide) ?_
  refine g_aload_n dX0_copyFrom_37 rfl rfl ?_
  refine rg_X0_2 (r := 46) dX0_copyFrom_38 lf_X0_18 (sk_43 _) rfl ?_
  refine g_iconst (v := 0) dX0_copyFrom_41 (by decide) ?_
  refine g_sipush (v := 300) dX0_copyFrom_42 (by decide) ?_
  refine s_copy (N := 300) dX0_copyFrom_45 lm_X0_25 (sk_119 _) (sk_46 _) (by decide) (by decide) (by decide) (by decide) (by decide) ?_
  refine g_aload_n dX0_copyFrom_48 rfl rfl ?_
  refine g_aload_n dX0_copyFrom_49 rfl rfl ?_
  refine rg_X0_3 (v := (I 116 3)) dX0_copyFrom_50 lf_X0_21 (sk_116 _) (rd_cp (by decide) (rd_cp (by decide) (rd_cp (by decide) rfl))) ?_
  refine rp_X0_3 dX0_copyFrom_53 lf_X0_21 (sk_43 _) ?_
  exact g_vret rfl dX0_copyFrom_56 rfl (Nat.le_refl _) (q1)
