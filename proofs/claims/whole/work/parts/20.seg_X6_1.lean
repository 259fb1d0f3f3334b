set_option maxRecDepth 10000 in
set_option maxHeartbeats 1000000 in
theorem sn_X6_add {l : Launch} {d : Nat} {Q : Option Value → mx_H → Prop} {c : Nat} {I : mx_I} (a1 : Int32) (a2 : Int32) (a3 : Int32) (a4 : Int32) (a5 : Int32)
    (b1 : ((I 18 5) < 8) → vp_in (I 18 5) 8)
    (b2 : ((I 18 5) < 8) → vp_in (I 18 5) 8)
    (b3 : ((I 18 5) < 8) → vp_in (I 18 5) 8)
    (b4 : ((I 18 5) < 8) → vp_in (I 18 5) 8)
    (b5 : ((I 18 5) < 8) → vp_in (I 18 5) 8)
    (q6 : ((I 18 5) < 8) → Q (some (.int (((I 18 5) + 1) - 1))) (sk0 c, (mx_set (mx_set (mx_set (mx_set (mx_set (mx_set I 19 (I 18 5).toNatClampNeg a1) 20 (I 18 5).toNatClampNeg a2) 21 (I 18 5).toNatClampNeg a3) 22 (I 18 5).toNatClampNeg a4) 23 (I 18 5).toNatClampNeg a5) 18 5 ((I 18 5) + 1))))
    (q7 : (¬ (I 18 5) < 8) → Q (some (.int (-1))) (sk0 c, I)) :
    mx_Spec l mX6_add (d + 1) 0 0 [.ref 18, .int a1, .int a2, .int a3, .int a4, .int a5] (sk0 c, I) Q := by
  refine mx_enter rfl (by simp [Value.category]) (Nat.le_of_ble_eq_true rfl) ?_
  change mx_Go l (mx_rm (d + 1) 0 0) mX6_add (mx_Z Q 0 0) 0 0 0 [.ref 18, .int a1, .int a2, .int a3, .int a4, .int a5] [] (sk0 c, I)
  refine g_aload_n dX6_add_0 rfl rfl ?_
  refine rg_X6_5 (v := (I 18 5)) dX6_add_1 lf_X6_27 (sk_18 _) rfl ?_
  refine g_bipush (v := 8) dX6_add_4 (by decide) ?_
  refine g_icmp_lt (tgt := 11) dX6_add_6 (by decide) (fun c1 => ?_) (fun c2 => ?_)
  · skip
    refine g_aload_n dX6_add_11 rfl rfl ?_
    refine rg_X6_0 (r := 19) dX6_add_12 lf_X6_9 (sk_18 _) rfl ?_
    refine g_aload_n dX6_add_15 rfl rfl ?_
    refine rg_X6_5 (v := (I 18 5)) dX6_add_16 lf_X6_27 (sk_18 _) rfl ?_
    refine g_iload_n dX6_add_19 rfl rfl ?_
    refine s_iast (j := (I 18 5).toNatClampNeg) dX6_add_20 (sk_19 _) (b1 c1) rfl ?_
    refine g_aload_n dX6_add_21 rfl rfl ?_
    refine rg_X6_1 (r := 20) dX6_add_22 lf_X6_15 (sk_18 _) rfl ?_
    refine g_aload_n dX6_add_25 rfl rfl ?_
    refine rg_X6_5 (v := (I 18 5)) dX6_add_26 lf_X6_27 (sk_18 _) (rd_ne (by decide) rfl) ?_
    refine g_iload_n dX6_add_29 rfl rfl ?_
    refine s_iast (j := (I 18 5).toNatClampNeg) dX6_add_30 (sk_20 _) (b2 c1) rfl ?_
    refine g_aload_n dX6_add_31 rfl rfl ?_
    refine rg_X6_2 (r := 21) dX6_add_32 lf_X6_18 (sk_18 _) rfl ?_
    refine g_aload_n dX6_add_35 rfl rfl ?_
    refine rg_X6_5 (v := (I 18 5)) dX6_add_36 lf_X6_27 (sk_18 _) (rd_ne (by decide) (rd_ne (by decide) rfl)) ?_
    refine g_iload_n dX6_add_39 rfl rfl ?_
    refine s_iast (j := (I 18 5).toNatClampNeg) dX6_add_40 (sk_21 _) (b3 c1) rfl ?_
    refine g_aload_n dX6_add_41 rfl rfl ?_
    refine rg_X6_3 (r := 22) dX6_add_42 lf_X6_21 (sk_18 _) rfl ?_
    refine g_aload_n dX6_add_45 rfl rfl ?_
    refine rg_X6_5 (v := (I 18 5)) dX6_add_46 lf_X6_27 (sk_18 _) (rd_ne (by decide) (rd_ne (by decide) (rd_ne (by decide) rfl))) ?_
    refine g_iload dX6_add_49 rfl ?_
    refine s_iast (j := (I 18 5).toNatClampNeg) dX6_add_51 (sk_22 _) (b4 c1) rfl ?_
    refine g_aload_n dX6_add_52 rfl rfl ?_
    refine rg_X6_4 (r := 23) dX6_add_53 lf_X6_24 (sk_18 _) rfl ?_
    refine g_aload_n dX6_add_56 rfl rfl ?_
    refine rg_X6_5 (v := (I 18 5)) dX6_add_57 lf_X6_27 (sk_18 _) (rd_ne (by decide) (rd_ne (by decide) (rd_ne (by decide) (rd_ne (by decide) rfl)))) ?_
    refine g_iload dX6_add_60 rfl ?_
    refine s_iast (j := (I 18 5).toNatClampNeg) dX6_add_62 (sk_23 _) (b5 c1) rfl ?_
    refine g_aload_n dX6_add_63 rfl rfl ?_
    refine g_dup dX6_add_64 rfl ?_
    refine rg_X6_5 (v := (I 18 5)) dX6_add_65 lf_X6_27 (sk_18 _) (rd_ne (by decide) (rd_ne (by decide) (rd_ne (by decide) (rd_ne (by decide) (rd_ne (by decide) rfl))))) ?_
    refine g_iconst (v := 1) dX6_add_68 (by decide) ?_
    refine g_iadd dX6_add_69 ?_
    refine rp_X6_5 dX6_add_70 lf_X6_27 (sk_18 _) ?_
    refine g_aload_n dX6_add_73 rfl rfl ?_
    refine rg_X6_5 (v := ((I 18 5) + 1)) dX6_add_74 lf_X6_27 (sk_18 _) rd_eq ?_
    refine g_iconst (v := 1) dX6_add_77 (by decide) ?_
    refine g_isub dX6_add_78 ?_
    exact g_iret rfl dX6_add_79 rfl (Nat.le_refl _) (q6 c1)
  · skip
    refine g_iconst (v := (-1)) dX6_add_9 (by decide) ?_
    exact g_iret rfl dX6_add_10 rfl (Nat.le_refl _) (q7 c2)
set_option maxRecDepth 10000 in
set_option maxHeartbeats 1000000 in
theorem sn_X6_priceOf {l : Launch} {d : Nat} {Q : Option Value → mx_H → Prop} {c : Nat} {I : mx_I} (a1 : Int32)
    (e1 : mx_Go l (mx_rm (d + 1) 0 0) mX6_priceOf (mx_Z Q 0 0) 0 0 4 [.ref 18, .int a1, .int 0, .int 0] [] (sk0 c, I)) :
    mx_Spec l mX6_priceOf (d + 1) 0 0 [.ref 18, .int a1] (sk0 c, I) Q := by
  refine mx_enter rfl (by simp [Value.category]) (Nat.le_of_ble_eq_true rfl) ?_
  change mx_Go l (mx_rm (d + 1) 0 0) mX6_priceOf (mx_Z Q 0 0) 0 0 0 [.ref 18, .int a1, .retAddr 0, .retAddr 0] [] (sk0 c, I)
  refine g_iconst (v := 0) dX6_priceOf_0 (by decide) ?_
  refine s_istore_n (L' := [.ref 18, .int a1, .int 0, .retAddr 0]) dX6_priceOf_1 rfl (by decide) rfl rfl ?_
  refine g_iconst (v := 0) dX6_priceOf_2 (by decide) ?_
  refine s_istore_n (L' := [.ref 18, .int a1, .int 0, .int 0]) dX6_priceOf_3 rfl (by decide) rfl rfl ?_
  exact e1
set_option maxRecDepth 10000 in
set_option maxHeartbeats 1000000 in
theorem sg_X6_priceOf_4 {l : Launch} {d : Nat} {Q : Option Value → mx_H → Prop} {c : Nat} {I : mx_I} (x1 : Int32) (x2 : Int32) (x3 : Int32)
    (q1 : ((I 18 5) ≤ x3) → Q (some (.int x2)) (sk0 c, I))
    (b2 : (¬ (I 18 5) ≤ x3) → vp_in x3 8)
    (e3 : (¬ (I 18 5) ≤ x3) → mx_Go l (mx_rm (d + 1) 0 0) mX6_priceOf (mx_Z Q 0 0) 0 0 4 [.ref 18, .int x1, .int (x2 + (((x1 >>> (x3 &&& 31)) &&& 1) * (I 23 x3.toNatClampNeg))), .int (x3 + 1)] [] (sk0 c, I)) :
    mx_Go l (mx_rm (d + 1) 0 0) mX6_priceOf (mx_Z Q 0 0) 0 0 4 [.ref 18, .int x1, .int x2, .int x3] [] (sk0 c, I) := by
  refine g_iload_n dX6_priceOf_4 rfl rfl ?_
  refine g_aload_n dX6_priceOf_5 rfl rfl ?_
  refine rg_X6_5 (v := (I 18 5)) dX6_priceOf_6 lf_X6_27 (sk_18 _) rfl ?_
  refine g_icmp_ge (tgt := 33) dX6_priceOf_9 (by decide) (fun c1 => ?_) (fun c2 => ?_)
  · skip
    refine g_iload_n dX6_priceOf_33 rfl rfl ?_
    exact g_iret rfl dX6_priceOf_34 rfl (Nat.le_refl _) (q1 c1)
  · skip
    refine g_iload_n dX6_priceOf_12 rfl rfl ?_
    refine g_iload_n dX6_priceOf_13 rfl rfl ?_
    refine g_iload_n dX6_priceOf_14 rfl rfl ?_
    refine g_ishr dX6_priceOf_15 ?_
    refine g_iconst (v := 1) dX6_priceOf_16 (by decide) ?_
    refine g_iand dX6_priceOf_17 ?_
    refine g_aload_n dX6_priceOf_18 rfl rfl ?_
    refine rg_X6_4 (r := 23) dX6_priceOf_19 lf_X6_24 (sk_18 _) rfl ?_
    refine g_iload_n dX6_priceOf_22 rfl rfl ?_
    refine s_iald (j := x3.toNatClampNeg) (v := (I 23 x3.toNatClampNeg)) dX6_priceOf_23 (sk_23 _) (b2 c2) rfl rfl ?_
    refine g_imul dX6_priceOf_24 ?_
    refine g_iadd dX6_priceOf_25 ?_
    refine s_istore_n (L' := [.ref 18, .int x1, .int (x2 + (((x1 >>> (x3 &&& 31)) &&& 1) * (I 23 x3.toNatClampNeg))), .int x3]) dX6_priceOf_26 rfl (by decide) rfl rfl ?_
    refine s_iinc (v := (x3 + 1)) (L' := [.ref 18, .int x1, .int (x2 + (((x1 >>> (x3 &&& 31)) &&& 1) * (I 23 x3.toNatClampNeg))), .int (x3 + 1)]) dX6_priceOf_27 rfl (by decide) rfl rfl rfl ?_
    refine g_goto (tgt := 4) dX6_priceOf_30 (by decide) ?_
    exact e3 c2
set_option maxRecDepth 10000 in
set_option maxHeartbeats 1000000 in
theorem sn_X6_copyFrom_91_18 {l : Launch} {d : Nat} {Q : Option Value → mx_H → Prop} {c : Nat} {I : mx_I}
    (q1 : Q none (sk0 c, (mx_set (mx_copy (mx_copy (mx_copy (mx_copy (mx_copy I 19 92 8) 20 93 8) 21 94 8) 22 95 8) 23 96 8) 91 5 (I 18 5)))) :
    mx_Spec l mX6_copyFrom (d + 1) 0 0 [.ref 91, .ref 18] (sk0 c, I) Q := by
  refine mx_enter rfl (by simp [Value.category]) (Nat.le_of_ble_eq_true rfl) ?_
  change mx_Go l (mx_rm (d + 1) 0 0) mX6_copyFrom (mx_Z Q 0 0) 0 0 0 [.ref 91, .ref 18] [] (sk0 c, I)
  refine g_aload_n dX6_copyFrom_0 rfl rfl ?_
  refine rg_X6_0 (r := 19) dX6_copyFrom_1 lf_X6_9 (sk_18 _) rfl ?_
  refine g_iconst (v := 0) dX6_copyFrom_4 (by decide) ?_
  refine g_aload_n dX6_copyFrom_5 rfl rfl ?_
  refine rg_X6_0 (r := 92) dX6_copyFrom_6 lf_X6_9 (sk_91 _) rfl ?_
  refine g_iconst (v := 0) dX6_copyFrom_9 (by decide) ?_
  refine g_bipush (v := 8) dX6_copyFrom_10 (by decide) ?_
  refine s_copy (N := 8) dX6_copyFrom_12 lm_X6_31 (sk_19 _) (sk_92 _) (by decide) (by decide) (by decide) (by decide) (by decide) ?_
  refine g_aload_n dX6_copyFrom_15 rfl rfl ?_
  refine rg_X6_1 (r := 20) dX6_copyFrom_16 lf_X6_15 (sk_18 _) rfl ?_
  refine g_iconst (v := 0) dX6_copyFrom_19 (by decide) ?_
  refine g_aload_n dX6_copyFrom_20 rfl rfl ?_
  refine rg_X6_1 (r := 93) dX6_copyFrom_21 lf_X6_15 (sk_91 _) rfl ?_
  refine g_iconst (v := 0) dX6_copyFrom_24 (by decide) ?_
  refine g_bipush (v := 8) dX6_copyFrom_25 (by decide) ?_
  refine s_copy (N := 8) dX6_copyFrom_27 lm_X6_31 (sk_20 _) (sk_93 _) (by decide) (by decide) (by decide) (by decide) (by decide) ?_
  refine g_aload_n dX6_copyFrom_30 rfl rfl ?_
  refine rg_X6_2 (r := 21) dX6_copyFrom_31 lf_X6_18 (sk_18 _) rfl ?_
  refine g_iconst (v := 0) dX6_copyFrom_34 (by decide) ?_
  refine g_aload_n dX6_copyFrom_35 rfl rfl ?_
  refine rg_X6_2 (r := 94) dX6_copyFrom_36 lf_X6_18 (sk_91 _) rfl ?_
  refine g_iconst (v := 0) dX6_copyFrom_39 (by decide) ?_
  refine g_bipush (v := 8) dX6_copyFrom_40 (by decide) ?_
  refine s_copy (N := 8) dX6_copyFrom_42 lm_X6_31 (sk_21 _) (sk_94 _) (by decide) (by decide) (by decide) (by decide) (by decide) ?_
  refine g_aload_n dX6_copyFrom_45 rfl rfl ?_
  refine rg_X6_3 (r := 22) dX6_copyFrom_46 lf_X6_21 (sk_18 _) rfl ?_
  refine g_iconst (v := 0) dX6_copyFrom_49 (by decide) ?_
  refine g_aload_n dX6_copyFrom_50 rfl rfl ?_
  refine rg_X6_3 (r := 95) dX6_copyFrom_51 lf_X6_21 (sk_91 _) rfl ?_
  refine g_iconst (v := 0) dX6_copyFrom_54 (by decide) ?_
  refine g_bipush (v := 8) dX6_copyFrom_55 (by decide) ?_
  refine s_copy (N := 8) dX6_copyFrom_57 lm_X6_31 (sk_22 _) (sk_95 _) (by decide) (by decide) (by decide) (by decide) (by decide) ?_
  refine g_aload_n dX6_copyFrom_60 rfl rfl ?_
  refine rg_X6_4 (r := 23) dX6_copyFrom_61 lf_X6_24 (sk_18 _) rfl ?_
  refine g_iconst (v := 0) dX6_copyFrom_64 (by decide) ?_
  refine g_aload_n dX6_copyFrom_65 rfl rfl ?_
  refine rg_X6_4 (r := 96) dX6_copyFrom_66 lf_X6_24 (sk_91 _) rfl ?_
  refine g_iconst (v := 0) dX6_copyFrom_69 (by decide) ?_
  refine g_bipush (v := 8) dX6_copyFrom_70 (by decide) ?_
  refine s_copy (N := 8) dX6_copyFrom_72 lm_X6_31 (sk_23 _) (sk_96 _) (by decide) (by decide) (by decide) (by decide) (by decide) ?_
  refine g_aload_n dX6_copyFrom_75 rfl rfl ?_
  refine g_aload_n dX6_copyFrom_76 rfl rfl ?_
  refine rg_X6_5 (v := (I 18 5)) dX6_copyFrom_77 lf_X6_27 (sk_18 _) (rd_cp (by decide) (rd_cp (by decide) (rd_cp (by decide) (rd_cp (by decide) (rd_cp (by decide) rfl))))) ?_
  refine rp_X6_5 dX6_copyFrom_80 lf_X6_27 (sk_91 _) ?_
  exact g_vret rfl dX6_copyFrom_83 rfl (Nat.le_refl _) (q1)
set_option maxRecDepth 10000 in
set_option maxHeartbeats 1000000 in
theorem sn_X6_copyFrom_18_91 {l : Launch} {d : Nat} {Q : Option Value → mx_H → Prop} {c : Nat} {I : mx_I}
    (q1 : Q none (sk0 c, (mx_set (mx_copy (mx_copy (mx_copy (mx_copy (mx_copy I 92 19 8) 93 20 8) 94 21 8) 95 22 8) 96 23 8) 18 5 (I 91 5)))) :
    mx_Spec l mX6_copyFrom (d + 1) 0 0 [.ref 18, .ref 91] (sk0 c, I) Q := by
  refine mx_enter rfl (by simp [Value.category]) (Nat.le_of_ble_eq_true rfl) ?_
  change mx_Go l (mx_rm (d + 1) 0 0) mX6_copyFrom (mx_Z Q 0 0) 0 0 0 [.ref 18, .ref 91] [] (sk0 c, I)
  refine g_aload_n dX6_copyFrom_0 rfl rfl ?_
  refine rg_X6_0 (r := 92) dX6_copyFrom_1 lf_X6_9 (sk_91 _) rfl ?_
  refine g_iconst (v := 0) dX6_copyFrom_4 (by decide) ?_
  refine g_aload_n dX6_copyFrom_5 rfl rfl ?_
  refine rg_X6_0 (r := 19) dX6_copyFrom_6 lf_X6_9 (sk_18 _) rfl ?_
  refine g_iconst (v := 0) dX6_copyFrom_9 (by decide) ?_
  refine g_bipush (v := 8) dX6_copyFrom_10 (by decide) ?_
  refine s_copy (N := 8) dX6_copyFrom_12 lm_X6_31 (sk_92 _) (sk_19 _) (by decide) (by decide) (by decide) (by decide) (by decide) ?_
  refine g_aload_n dX6_copyFrom_15 rfl rfl ?_
  refine rg_X6_1 (r := 93) dX6_copyFrom_16 lf_X6_15 (sk_91 _) rfl ?_
  refine g_iconst (v := 0) dX6_copyFrom_19 (by decide) ?_
  refine g_aload_n dX6_copyFrom_20 rfl rfl ?_
  refine rg_X6_1 (r := 20) dX6_copyFrom_21 lf_X6_15 (sk_18 _) rfl ?_
  refine g_iconst (v := 0) dX6_copyFrom_24 (by decide) ?_
  refine g_bipush (v := 8) dX6_copyFrom_25 (by decide) ?_
  refine s_copy (N := 8) dX6_copyFrom_27 lm_X6_31 (sk_93 _) (sk_20 _) (by decide) (by decide) (by decide) (by decide) (by decide) ?_
  refine g_aload_n dX6_copyFrom_30 rfl rfl ?_
  refine rg_X6_2 (r := 94) dX6_copyFrom_31 lf_X6_18 (sk_91 _) rfl ?_
  refine g_iconst (v := 0) dX6_copyFrom_34 (by decide) ?_
  refine g_aload_n dX6_copyFrom_35 rfl rfl ?_
  refine rg_X6_2 (r := 21) dX6_copyFrom_36 lf_X6_18 (sk_18 _) rfl ?_
  refine g_iconst (v := 0) dX6_copyFrom_39 (by decide) ?_
  refine g_bipush (v := 8) dX6_copyFrom_40 (by decide) ?_
  refine s_copy (N := 8) dX6_copyFrom_42 lm_X6_31 (sk_94 _) (sk_21 _) (by decide) (by decide) (by decide) (by decide) (by decide) ?_
  refine g_aload_n dX6_copyFrom_45 rfl rfl ?_
  refine rg_X6_3 (r := 95) dX6_copyFrom_46 lf_X6_21 (sk_91 _) rfl ?_
  refine g_iconst (v := 0) dX6_copyFrom_49 (by decide) ?_
  refine g_aload_n dX6_copyFrom_50 rfl rfl ?_
  refine rg_X6_3 (r := 22) dX6_copyFrom_51 lf_X6_21 (sk_18 _) rfl ?_
  refine g_iconst (v := 0) dX6_copyFrom_54 (by decide) ?_
  refine g_bipush (v := 8) dX6_copyFrom_55 (by decide) ?_
  refine s_copy (N := 8) dX6_copyFrom_57 lm_X6_31 (sk_95 _) (sk_22 _) (by decide) (by decide) (by decide) (by decide) (by decide) ?_
  refine g_aload_n dX6_copyFrom_60 rfl rfl ?_
  refine rg_X6_4 (r := 96) dX6_copyFrom_61 lf_X6_24 (sk_91 _) rfl ?_
  refine g_iconst (v := 0) dX6_copyFrom_64 (by decide) ?_
  refine g_aload_n dX6_copyFrom_65 rfl rfl ?_
  refine rg_X6_4 (r := 23) dX6_copyFrom_66 lf_X6_24 (sk_18 _) rfl ?_
  refine g_iconst (v := 0) dX6_copyFrom_69 (by decide) ?_
  refine g_bipush (v := 8) dX6_copyFrom_70 (by decide) ?_
  refine s_copy (N := 8) dX6_copyFrom_72 lm_X6_31 (sk_96 _) (sk_23 _) (by decide) (by decide) (by decide) (by decide) (by decide) ?_
  refine g_aload_n dX6_copyFrom_75 rfl rfl ?_
  refine g_aload_n dX6_copyFrom_76 rfl rfl ?_
  refine rg_X6_5 (v := (I 91 5)) dX6_copyFrom_77 lf_X6_27 (sk_91 _) (rd_cp (by decide) (rd_cp (by decide) (rd_cp (by decide) (rd_cp (by decide) (rd_cp (by decide) rfl))))) ?_
  refine rp_X6_5 dX6_copyFrom_80 lf_X6_27 (sk_18 _) ?_
  exact g_vret rfl dX6_copyFrom_83 rfl (Nat.le_refl _) (q1)
