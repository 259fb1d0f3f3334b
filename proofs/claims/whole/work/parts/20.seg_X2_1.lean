set_option maxRecDepth 10000 in
set_option maxHeartbeats 1000000 in
theorem sn_X2_add {l : Launch} {d : Nat} {Q : Option Value → mx_H → Prop} {c : Nat} {I : mx_I} (a1 : Int32) (a2 : Int32) (a3 : Int32) (a4 : Int32) (a5 : Int32) (a6 : Int32)
    (b1 : ((I 8 9) < 20) → vp_in (I 8 9) 20)
    (b2 : ((I 8 9) < 20) → vp_in (I 8 9) 20)
    (b3 : ((I 8 9) < 20) → vp_in (I 8 9) 20)
    (b4 : ((I 8 9) < 20) → vp_in (I 8 9) 20)
    (b5 : ((I 8 9) < 20) → vp_in (I 8 9) 20)
    (b6 : ((I 8 9) < 20) → vp_in (I 8 9) 20)
    (b7 : ((I 8 9) < 20) → vp_in (I 8 9) 20)
    (b8 : ((I 8 9) < 20) → vp_in (I 8 9) 20)
    (b9 : ((I 8 9) < 20) → vp_in (I 8 9) 20)
    (q10 : ((I 8 9) < 20) → Q (some (.int (((I 8 9) + 1) - 1))) (sk0 c, (mx_set (mx_set (mx_set (mx_set (mx_set (mx_set (mx_set (mx_set (mx_set (mx_set I 9 (I 8 9).toNatClampNeg a1) 10 (I 8 9).toNatClampNeg a2) 11 (I 8 9).toNatClampNeg a3) 12 (I 8 9).toNatClampNeg a4) 13 (I 8 9).toNatClampNeg a5) 14 (I 8 9).toNatClampNeg a6) 15 (I 8 9).toNatClampNeg 0) 16 (I 8 9).toNatClampNeg 0) 17 (I 8 9).toNatClampNeg 0) 8 9 ((I 8 9) + 1))))
    (q11 : (¬ (I 8 9) < 20) → Q (some (.int (-1))) (sk0 c, I)) :
    mx_Spec l mX2_add (d + 1) 0 0 [.ref 8, .int a1, .int a2, .int a3, .int a4, .int a5, .int a6] (sk0 c, I) Q := by
  refine mx_enter rfl (by simp [Value.category]) (Nat.le_of_ble_eq_true rfl) ?_
  change mx_Go l (mx_rm (d + 1) 0 0) mX2_add (mx_Z Q 0 0) 0 0 0 [.ref 8, .int a1, .int a2, .int a3, .int a4, .int a5, .int a6] [] (sk0 c, I)
  refine g_aload_n dX2_add_0 rfl rfl ?_
  refine rg_X2_9 (v := (I 8 9)) dX2_add_1 lf_X2_39 (sk_8 _) rfl ?_
  refine g_bipush (v := 20) dX2_add_4 (by decide) ?_
  refine g_icmp_lt (tgt := 11) dX2_add_6 (by decide) (fun c1 => ?_) (fun c2 => ?_)
  · skip
    refine g_aload_n dX2_add_11 rfl rfl ?_
    refine rg_X2_0 (r := 9) dX2_add_12 lf_X2_9 (sk_8 _) rfl ?_
    refine g_aload_n dX2_add_15 rfl rfl ?_
    refine rg_X2_9 (v := (I 8 9)) dX2_add_16 lf_X2_39 (sk_8 _) rfl ?_
    refine g_iload_n dX2_add_19 rfl rfl ?_
    refine s_iast (j := (I 8 9).toNatClampNeg) dX2_add_20 (sk_9 _) (b1 c1) rfl ?_
    refine g_aload_n dX2_add_21 rfl rfl ?_
    refine rg_X2_1 (r := 10) dX2_add_22 lf_X2_15 (sk_8 _) rfl ?_
    refine g_aload_n dX2_add_25 rfl rfl ?_
    refine rg_X2_9 (v := (I 8 9)) dX2_add_26 lf_X2_39 (sk_8 _) (rd_ne (by decide) rfl) ?_
    refine g_iload_n dX2_add_29 rfl rfl ?_
    refine s_iast (j := (I 8 9).toNatClampNeg) dX2_add_30 (sk_10 _) (b2 c1) rfl ?_
    refine g_aload_n dX2_add_31 rfl rfl ?_
    refine rg_X2_2 (r := 11) dX2_add_32 lf_X2_18 (sk_8 _) rfl ?_
    refine g_aload_n dX2_add_35 rfl rfl ?_
    refine rg_X2_9 (v := (I 8 9)) dX2_add_36 lf_X2_39 (sk_8 _) (rd_ne (by decide) (rd_ne (by decide) rfl)) ?_
    refine g_iload_n dX2_add_39 rfl rfl ?_
    refine s_iast (j := (I 8 9).toNatClampNeg) dX2_add_40 (sk_11 _) (b3 c1) rfl ?_
    refine g_aload_n dX2_add_41 rfl rfl ?_
    refine rg_X2_3 (r := 12) dX2_add_42 lf_X2_21 (sk_8 _) rfl ?_
    refine g_aload_n dX2_add_45 rfl rfl ?_
    refine rg_X2_9 (v := (I 8 9)) dX2_add_46 lf_X2_39 (sk_8 _) (rd_ne (by decide) (rd_ne (by decide) (rd_ne (by decide) rfl))) ?_
    refine g_iload dX2_add_49 rfl ?_
    refine s_iast (j := (I 8 9).toNatClampNeg) dX2_add_51 (sk_12 _) (b4 c1) rfl ?_
    refine g_aload_n dX2_add_52 rfl rfl ?_
    refine rg_X2_4 (r := 13) dX2_add_53 lf_X2_24 (sk_8 _) rfl ?_
    refine g_aload_n dX2_add_56 rfl rfl ?_
    refine rg_X2_9 (v := (I 8 9)) dX2_add_57 lf_X2_39 (sk_8 _) (rd_ne (by decide) (rd_ne (by decide) (rd_ne (by decide) (rd_ne (by decide) rfl)))) ?_
    refine g_iload dX2_add_60 rfl ?_
    refine s_iast (j := (I 8 9).toNatClampNeg) dX2_add_62 (sk_13 _) (b5 c1) rfl ?_
    refine g_aload_n dX2_add_63 rfl rfl ?_
    refine rg_X2_5 (r := 14) dX2_add_64 lf_X2_27 (sk_8 _) rfl ?_
    refine g_aload_n dX2_add_67 rfl rfl ?_
    refine rg_X2_9 (v := (I 8 9)) dX2_add_68 lf_X2_39 (sk_8 _) (rd_ne (by decide) (rd_ne (by decide) (rd_ne (by decide) (rd_ne (by decide) (rd_ne (by decide) rfl))))) ?_
    refine g_iload dX2_add_71 rfl ?_
    refine s_iast (j := (I 8 9).toNatClampNeg) dX2_add_73 (sk_14 _) (b6 c1) rfl ?_
    refine g_aload_n dX2_add_74 rfl rfl ?_
    refine rg_X2_6 (r := 15) dX2_add_75 lf_X2_30 (sk_8 _) rfl ?_
    refine g_aload_n dX2_add_78 rfl rfl ?_
    refine rg_X2_9 (v := (I 8 9)) dX2_add_79 lf_X2_39 (sk_8 _) (rd_ne (by decide) (rd_ne (by decide) (rd_ne (by decide) (rd_ne (by decide) (rd_ne (by decide) (rd_ne (by decide) rfl)))))) ?_
    refine g_iconst (v := 0) dX2_add_82 (by decide) ?_
    refine s_iast (j := (I 8 9).toNatClampNeg) dX2_add_83 (sk_15 _) (b7 c1) rfl ?_
    refine g_aload_n dX2_add_84 rfl rfl ?_
    refine rg_X2_7 (r := 16) dX2_add_85 lf_X2_33 (sk_8 _) rfl ?_
    refine g_aload_n dX2_add_88 rfl rfl ?_
    refine rg_X2_9 (v := (I 8 9)) dX2_add_89 lf_X2_39 (sk_8 _) (rd_ne (by decide) (rd_ne (by decide) (rd_ne (by decide) (rd_ne (by decide) (rd_ne (by decide) (rd_ne (by decide) (rd_ne (by decide) rfl))))))) ?_
    refine g_iconst (v := 0) dX2_add_92 (by decide) ?_
    refine s_iast (j := (I 8 9).toNatClampNeg) dX2_add_93 (sk_16 _) (b8 c1) rfl ?_
    refine g_aload_n dX2_add_94 rfl rfl ?_
    refine rg_X2_8 (r := 17) dX2_add_95 lf_X2_36 (sk_8 _) rfl ?_
    refine g_aload_n dX2_add_98 rfl rfl ?_
    refine rg_X2_9 (v := (I 8 9)) dX2_add_99 lf_X2_39 (sk_8 _) (rd_ne (by decide) (rd_ne (by decide) (rd_ne (by decide) (rd_ne (by decide) (rd_ne (by decide) (rd_ne (by decide) (rd_ne (by decide) (rd_ne (by decide) rfl)))))))) ?_
    refine g_iconst (v := 0) dX2_add_102 (by decide) ?_
    refine s_iast (j := (I 8 9).toNatClampNeg) dX2_add_103 (sk_17 _) (b9 c1) rfl ?_
    refine g_aload_n dX2_add_104 rfl rfl ?_
    refine g_dup dX2_add_105 rfl ?_
    refine rg_X2_9 (v := (I 8 9)) dX2_add_106 lf_X2_39 (sk_8 _) (rd_ne (by decide) (rd_ne (by decide) (rd_ne (by decide) (rd_ne (by decide) (rd_ne (by decide) (rd_ne (by decide) (rd_ne (by decide) (rd_ne (by decide) (rd_ne (by decide) rfl))))))))) ?_
    refine g_iconst (v := 1) dX2_add_109 (by decide) ?_
    refine g_iadd dX2_add_110 ?_
    refine rp_X2_9 dX2_add_111 lf_X2_39 (sk_8 _) ?_
    refine g_aload_n dX2_add_114 rfl rfl ?_
    refine rg_X2_9 (v := ((I 8 9) + 1)) dX2_add_115 lf_X2_39 (sk_8 _) rd_eq ?_
    refine g_iconst (v := 1) dX2_add_118 (by decide) ?_
    refine g_isub dX2_add_119 ?_
    exact g_iret rfl dX2_add_120 rfl (Nat.le_refl _) (q10 c1)
  · skip
    refine g_iconst (v := (-1)) dX2_add_9 (by decide) ?_
    exact g_iret rfl dX2_add_10 rfl (Nat.le_refl _) (q11 c2)
set_option maxRecDepth 10000 in
set_option maxHeartbeats 1000000 in
theorem sn_X2_has {l : Launch} {d : Nat} {Q : Option Value → mx_H → Prop} {c : Nat} {I : mx_I} (a1 : Int32)
    (q1 : (a1 < 0) → Q (some (.int 0)) (sk0 c, I))
    (q2 : (¬ a1 < 0) → ((I 8 9) ≤ a1) → Q (some (.int 0)) (sk0 c, I))
    (q3 : (¬ a1 < 0) → (¬ (I 8 9) ≤ a1) → Q (some (.int 1)) (sk0 c, I)) :
    mx_Spec l mX2_has (d + 1) 0 0 [.ref 8, .int a1] (sk0 c, I) Q := by
  refine mx_enter rfl (by simp [Value.category]) (Nat.le_of_ble_eq_true rfl) ?_
  change mx_Go l (mx_rm (d + 1) 0 0) mX2_has (mx_Z Q 0 0) 0 0 0 [.ref 8, .int a1] [] (sk0 c, I)
  refine g_iload_n dX2_has_0 rfl rfl ?_
  refine g_if_lt (tgt := 16) dX2_has_1 (by decide) (fun c1 => ?_) (fun c2 => ?_)
  · skip
    refine g_iconst (v := 0) dX2_has_16 (by decide) ?_
    exact g_zret (ty := .boolean) rfl rfl dX2_has_17 rfl (Nat.le_refl _) (q1 c1)
  · skip
    refine g_iload_n dX2_has_4 rfl rfl ?_
    refine g_aload_n dX2_has_5 rfl rfl ?_
    refine rg_X2_9 (v := (I 8 9)) dX2_has_6 lf_X2_39 (sk_8 _) rfl ?_
    refine g_icmp_ge (tgt := 16) dX2_has_9 (by decide) (fun c3 => ?_) (fun c4 => ?_)
    · skip
      refine g_iconst (v := 0) dX2_has_16 (by decide) ?_
      exact g_zret (ty := .boolean) rfl rfl dX2_has_17 rfl (Nat.le_refl _) (q2 c2 c3)
    · skip
      refine g_iconst (v := 1) dX2_has_12 (by decide) ?_
      refine g_goto (tgt := 17) dX2_has_13 (by decide) ?_
      exact g_zret (ty := .boolean) rfl rfl dX2_has_17 rfl (Nat.le_refl _) (q3 c2 c4)
set_option maxRecDepth 10000 in
set_option maxHeartbeats 1000000 in
theorem sn_X2_canFollow {l : Launch} {d : Nat} {Q : Option Value → mx_H → Prop} {c : Nat} {I : mx_I} (a1 : Int32) (a2 : Int32)
    (k1 : mx_K1 l mX2_has d [.ref 8, .int a1] (sk0 c, I) (fun r h' => mx_Go l (mx_rm (d + 1) 0 0) mX2_canFollow (mx_Z Q 0 0) 0 0 5 [.ref 8, .int a1, .int a2] (r.toList ++ []) h')) :
    mx_Spec l mX2_canFollow (d + 1) 0 0 [.ref 8, .int a1, .int a2] (sk0 c, I) Q := by
  refine mx_enter rfl (by simp [Value.category]) (Nat.le_of_ble_eq_true rfl) ?_
  change mx_Go l (mx_rm (d + 1) 0 0) mX2_canFollow (mx_Z Q 0 0) 0 0 0 [.ref 8, .int a1, .int a2] [] (sk0 c, I)
  refine g_aload_n dX2_canFollow_0 rfl rfl ?_
  refine g_iload_n dX2_canFollow_1 rfl rfl ?_
  exact s_callV (M' := mX2_has) (As := [.int a1]) (st := []) dX2_canFollow_2 lm_X2_43 ovX2_has (h := (sk0 c, I)) (sk_8 _) (show vwCl[2]? = some _ from rfl) rfl (by simp [Value.category]) (by decide) rfl (k1)
set_option maxRecDepth 10000 in
set_option maxHeartbeats 1000000 in
theorem sg_X2_canFollow_5 {l : Launch} {d : Nat} {Q : Option Value → mx_H → Prop} {c : Nat} {I : mx_I} (x1 : Int32) (x2 : Int32) (x3 : Int32)
    (q1 : (x3 = 0) → Q (some (.int 0)) (sk0 c, I))
    (k2 : (¬ x3 = 0) → mx_K1 l mX2_has d [.ref 8, .int x2] (sk0 c, I) (fun r h' => mx_Go l (mx_rm (d + 1) 0 0) mX2_canFollow (mx_Z Q 0 0) 0 0 13 [.ref 8, .int x1, .int x2] (r.toList ++ []) h')) :
    mx_Go l (mx_rm (d + 1) 0 0) mX2_canFollow (mx_Z Q 0 0) 0 0 5 [.ref 8, .int x1, .int x2] [.int x3] (sk0 c, I) := by
  refine g_if_eq (tgt := 55) dX2_canFollow_5 (by decide) (fun c1 => ?_) (fun c2 => ?_)
  · skip
    refine g_iconst (v := 0) dX2_canFollow_55 (by decide) ?_
    exact g_zret (ty := .boolean) rfl rfl dX2_canFollow_56 rfl (Nat.le_refl _) (q1 c1)
  · skip
    refine g_aload_n dX2_canFollow_8 rfl rfl ?_
    refine g_iload_n dX2_canFollow_9 rfl rfl ?_
    exact s_callV (M' := mX2_has) (As := [.int x2]) (st := []) dX2_canFollow_10 lm_X2_43 ovX2_has (h := (sk0 c, I)) (sk_8 _) (show vwCl[2]? = some _ from rfl) rfl (by simp [Value.category]) (by decide) rfl (k2 c2)
set_option maxRecDepth 10000 in
set_option maxHeartbeats 1000000 in
theorem sg_X2_canFollow_13 {l : Launch} {d : Nat} {Q : Option Value → mx_H → Prop} {c : Nat} {I : mx_I} (x1 : Int32) (x2 : Int32) (x3 : Int32)
    (q1 : (x3 = 0) → Q (some (.int 0)) (sk0 c, I))
    (q2 : (¬ x3 = 0) → (x1 = x2) → Q (some (.int 0)) (sk0 c, I))
    (b3 : (¬ x3 = 0) → (¬ x1 = x2) → vp_in x1 20)
    (b4 : (¬ x3 = 0) → (¬ x1 = x2) → vp_in x2 20)
    (q5 : (¬ x3 = 0) → (¬ x1 = x2) → (¬ (I 10 x1.toNatClampNeg) = (I 10 x2.toNatClampNeg)) → Q (some (.int 0)) (sk0 c, I))
    (b6 : (¬ x3 = 0) → (¬ x1 = x2) → ((I 10 x1.toNatClampNeg) = (I 10 x2.toNatClampNeg)) → vp_in x1 20)
    (b7 : (¬ x3 = 0) → (¬ x1 = x2) → ((I 10 x1.toNatClampNeg) = (I 10 x2.toNatClampNeg)) → vp_in x2 20)
    (q8 : (¬ x3 = 0) → (¬ x1 = x2) → ((I 10 x1.toNatClampNeg) = (I 10 x2.toNatClampNeg)) → (¬ (I 11 x1.toNatClampNeg) = (I 11 x2.toNatClampNeg)) → Q (some (.int 0)) (sk0 c, I))
    (q9 : (¬ x3 = 0) → (¬ x1 = x2) → ((I 10 x1.toNatClampNeg) = (I 10 x2.toNatClampNeg)) → ((I 11 x1.toNatClampNeg) = (I 11 x2.toNatClampNeg)) → Q (some (.int 1)) (sk0 c, I)) :
    mx_Go l (mx_rm (d + 1) 0 0) mX2_canFollow (mx_Z Q 0 0) 0 0 13 [.ref 8, .int x1, .int x2] [.int x3] (sk0 c, I) := by
  refine g_if_eq (tgt := 55) dX2_canFollow_13 (by decide) (fun c1 => ?_) (fun c2 => ?_)
  · skip
    refine g_iconst (v := 0) dX2_canFollow_55 (by decide) ?_
    exact g_zret (ty := .boolean) rfl rfl dX2_canFollow_56 rfl (Nat.le_refl _) (q1 c1)
  · skip
    refine g_iload_n dX2_canFollow_16 rfl rfl ?_
    refine g_iload_n dX2_canFollow_17 rfl rfl ?_
    refine g_icmp_eq (tgt := 55) dX2_canFollow_18 (by decide) (fun c3 => ?_) (fun c4 => ?_)
    · skip
      refine g_iconst (v := 0) dX2_canFollow_55 (by decide) ?_
      exact g_zret (ty := .boolean) rfl rfl dX2_canFollow_56 rfl (Nat.le_refl _) (q2 c2 c3)
    · skip
      refine g_aload_n dX2_canFollow_21 rfl rfl ?_
      refine rg_X2_1 (r := 10) dX2_canFollow_22 lf_X2_15 (sk_8 _) rfl ?_
      refine g_iload_n dX2_canFollow_25 rfl rfl ?_
      refine s_iald (j := x1.toNatClampNeg) (v := (I 10 x1.toNatClampNeg)) dX2_canFollow_26 (sk_10 _) (b3 c2 c4) rfl rfl ?_
      refine g_aload_n dX2_canFollow_27 rfl rfl ?_
      refine rg_X2_1 (r := 10) dX2_canFollow_28 lf_X2_15 (sk_8 _) rfl ?_
      refine g_iload_n dX2_canFollow_31 rfl rfl ?_
      refine s_iald (j := x2.toNatClampNeg) (v := (I 10 x2.toNatClampNeg)) dX2_canFollow_32 (sk_10 _) (b4 c2 c4) rfl rfl ?_
      refine g_icmp_ne (tgt := 55) dX2_canFollow_33 (by decide) (fun c5 => ?_) (fun c6 => ?_)
      · skip
        refine g_iconst (v := 0) dX2_canFollow_55 (by decide) ?_
        exact g_zret (ty := .boolean) rfl rfl dX2_canFollow_56 rfl (Nat.le_refl _) (q5 c2 c4 c5)
      · skip
        refine g_aload_n dX2_canFollow_36 rfl rfl ?_
        refine rg_X2_2 (r := 11) dX2_canFollow_37 lf_X2_18 (sk_8 _) rfl ?_
        refine g_iload_n dX2_canFollow_40 rfl rfl ?_
        refine s_iald (j := x1.toNatClampNeg) (v := (I 11 x1.toNatClampNeg)) dX2_canFollow_41 (sk_11 _) (b6 c2 c4 c6) rfl rfl ?_
        refine g_aload_n dX2_canFollow_42 rfl rfl ?_
        refine rg_X2_2 (r := 11) dX2_canFollow_43 lf_X2_18 (sk_8 _) rfl ?_
        refine g_iload_n dX2_canFollow_46 rfl rfl ?_
        refine s_iald (j := x2.toNatClampNeg) (v := (I 11 x2.toNatClampNeg)) dX2_canFollow_47 (sk_11 _) (b7 c2 c4 c6) rfl rfl ?_
        refine g_icmp_ne (tgt := 55) dX2_canFollow_48 (by decide) (fun c7 => ?_) (fun c8 => ?_)
        · skip
          refine g_iconst (v := 0) dX2_canFollow_55 (by decide) ?_
          exact g_zret (ty := .boolean) rfl rfl dX2_canFollow_56 rfl (Nat.le_refl _) (q8 c2 c4 c6 c7)
        · skip
          refine g_iconst (v := 1) dX2_canFollow_51 (by decide) ?_
          refine g_goto (tgt := 56) dX2_canFollow_52 (by decide) ?_
          exact g_zret (ty := .boolean) rfl rfl dX2_canFollow_56 rfl (Nat.le_refl _) (q9 c2 c4 c6 c8)
set_option maxRecDepth 10000 in
set_option maxHeartbeats 1000000 in
theorem sn_X2_tellKind {l : Launch} {d : Nat} {Q : Option Value → mx_H → Prop} {c : Nat} {I : mx_I} (a1 : Int32) (a2 : Int32) (a3 : Int32)
    (k1 : mx_K1 l mX2_has d [.ref 8, .int a1] (sk0 c, I) (fun r h' => mx_Go l (mx_rm (d + 1) 0 0) mX2_tellKind (mx_Z Q 0 0) 0 0 5 [.ref 8, .int a1, .int a2, .int a3] (r.toList ++ []) h')) :
    mx_Spec l mX2_tellKind (d + 1) 0 0 [.ref 8, .int a1, .int a2, .int a3] (sk0 c, I) Q := by
  refine mx_enter rfl (by simp [Value.category]) (Nat.le_of_ble_eq_true rfl) ?_
  change mx_Go l (mx_rm (d + 1) 0 0) mX2_tellKind (mx_Z Q 0 0) 0 0 0 [.ref 8, .int a1, .int a2, .int a3] [] (sk0 c, I)
  refine g_aload_n dX2_tellKind_0 rfl rfl ?_
  refine g_iload_n dX2_tellKind_1 rfl rfl ?_
  exact s_callV (M' := mX2_has) (As := [.int a1]) (st := []) dX2_tellKind_2 lm_X2_43 ovX2_has (h := (sk0 c, I)) (sk_8 _) (show vwCl[2]? = some _ from rfl) rfl (by simp [Value.category]) (by decide) rfl (k1)
set_option maxRecDepth 10000 in
set_option maxHeartbeats 1000000 in
theorem sg_X2_tellKind_5 {l : Launch} {d : Nat} {Q : Option Value → mx_H → Prop} {c : Nat} {I : mx_I} (x1 : Int32) (x2 : Int32) (x3 : Int32) (x4 : Int32)
    (q1 : (x4 = 0) → Q none (sk0 c, I))
    (b2 : (¬ x4 = 0) → vp_in x1 20)
    (b3 : (¬ x4 = 0) → vp_in x1 20)
    (q4 : (¬ x4 = 0) → Q none (sk0 c, (mx_set (mx_set I 15 x1.toNatClampNeg x2) 16 x1.toNatClampNeg x3))) :
    mx_Go l (mx_rm (d + 1) 0 0) mX2_tellKind (mx_Z Q 0 0) 0 0 5 [.ref 8, .int x1, .int x2, .int x3] [.int x4] (sk0 c, I) := by
  refine g_if_eq (tgt := 22) dX2_tellKind_5 (by decide) (fun c1 => ?_) (fun c2 => ?_)
  · skip
    exact g_vret rfl dX2_tellKind_22 rfl (Nat.le_refl _) (q1 c1)
  · skip
    refine g_aload_n dX2_tellKind_8 rfl rfl ?_
    refine rg_X2_6 (r := 15) dX2_tellKind_9 lf_X2_30 (sk_8 _) rfl ?_
    refine g_iload_n dX2_tellKind_12 rfl rfl ?_
    refine g_iload_n dX2_tellKind_13 rfl rfl ?_
    refine s_iast (j := x1.toNatClampNeg) dX2_tellKind_14 (sk_15 _) (b2 c2) rfl ?_
    refine g_aload_n dX2_tellKind_15 rfl rfl ?_
    refine rg_X2_7 (r := 16) dX2_tellKind_16 lf_X2_33 (sk_8 _) rfl ?_
    refine g_iload_n dX2_tellKind_19 rfl rfl ?_
    refine g_iload_n dX2_tellKind_20 rfl rfl ?_
    refine s_iast (j := x1.toNatClampNeg) dX2_tellKind_21 (sk_16 _) (b3 c2) rfl ?_
    exact g_vret rfl dX2_tellKind_22 rfl (Nat.le_refl _) (q4 c2)
set_option maxRecDepth 10000 in
set_option maxHeartbeats 1000000 in
theorem sn_X2_maybeSet {l : Launch} {d : Nat} {Q : Option Value → mx_H → Prop} {c : Nat} {I : mx_I}
    (e1 : mx_Go l (mx_rm (d + 1) 0 0) mX2_maybeSet (mx_Z Q 0 0) 0 0 4 [.ref 8, .int 0, .int 0] [] (sk0 c, I)) :
    mx_Spec l mX2_maybeSet (d + 1) 0 0 [.ref 8] (sk0 c, I) Q := by
  refine mx_enter rfl (by simp [Value.category]) (Nat.le_of_ble_eq_true rfl) ?_
  change mx_Go l (mx_rm (d + 1) 0 0) mX2_maybeSet (mx_Z Q 0 0) 0 0 0 [.ref 8, .retAddr 0, .retAddr 0] [] (sk0 c, I)
  refine g_iconst (v := 0) dX2_maybeSet_0 (by decide) ?_
  refine s_istore_n (L' := [.ref 8, .int 0, .retAddr 0]) dX2_maybeSet_1 rfl (by decide) rfl rfl ?_
  refine g_iconst (v := 0) dX2_maybeSet_2 (by decide) ?_
  refine s_istore_n (L' := [.ref 8, .int 0, .int 0]) dX2_maybeSet_3 rfl (by decide) rfl rfl ?_
  exact e1
set_option maxRecDepth 10000 in
set_option maxHeartbeats 1000000 in
theorem sg_X2_maybeSet_4 {l : Launch} {d : Nat} {Q : Option Value → mx_H → Prop} {c : Nat} {I : mx_I} (x1 : Int32) (x2 : Int32)
    (q1 : ((I 8 9) ≤ x2) → Q (some (.int x1)) (sk0 c, I))
    (b2 : (¬ (I 8 9) ≤ x2) → vp_in x2 20)
    (e3 : (¬ (I 8 9) ≤ x2) → mx_Go l (mx_rm (d + 1) 0 0) mX2_maybeSet (mx_Z Q 0 0) 0 0 4 [.ref 8, .int (x1 ||| ((I 17 x2.toNatClampNeg) <<< (x2 &&& 31))), .int (x2 + 1)] [] (sk0 c, I)) :
    mx_Go l (mx_rm (d + 1) 0 0) mX2_maybeSet (mx_Z Q 0 0) 0 0 4 [.ref 8, .int x1, .int x2] [] (sk0 c, I) := by
  refine g_iload_n dX2_maybeSet_4 rfl rfl ?_
  refine g_aload_n dX2_maybeSet_5 rfl rfl ?_
  refine rg_X2_9 (v := (I 8 9)) dX2_maybeSet_6 lf_X2_39 (sk_8 _) rfl ?_
  refine g_icmp_ge (tgt := 29) dX2_maybeSet_9 (by decide) (fun c1 => ?_) (fun c2 => ?_)
  · skip
    refine g_iload_n dX2_maybeSet_29 rfl rfl ?_
    exact g_iret rfl dX2_maybeSet_30 rfl (Nat.le_refl _) (q1 c1)
  · skip
    refine g_iload_n dX2_maybeSet_12 rfl rfl ?_
    refine g_aload_n dX2_maybeSet_13 rfl rfl ?_
    refine rg_X2_8 (r := 17) dX2_maybeSet_14 lf_X2_36 (sk_8 _) rfl ?_
    refine g_iload_n dX2_maybeSet_17 rfl rfl ?_
    refine s_iald (j := x2.toNatClampNeg) (v := (I 17 x2.toNatClampNeg)) dX2_maybeSet_18 (sk_17 _) (b2 c2) rfl rfl ?_
    refine g_iload_n dX2_maybeSet_19 rfl rfl ?_
    refine g_ishl dX2_maybeSet_20 ?_
    refine g_ior dX2_maybeSet_21 ?_
    refine s_istore_n (L' := [.ref 8, .int (x1 ||| ((I 17 x2.toNatClampNeg) <<< (x2 &&& 31))), .int x2]) dX2_maybeSet_22 rfl (by decide) rfl rfl ?_
    refine s_iinc (v := (x2 + 1)) (L' := [.ref 8, .int (x1 ||| ((I 17 x2.toNatClampNeg) <<< (x2 &&& 31))), .int (x2 + 1)]) dX2_maybeSet_23 rfl (by decide) rfl rfl rfl ?_
    refine g_goto (tgt := 4) dX2_maybeSet_26 (by decide) ?_
    exact e3 c2
set_option maxRecDepth 10000 in
set_option maxHeartbeats 1000000 in
theorem sn_X2_tell {l : Launch} {d : Nat} {Q : Option Value → mx_H → Prop} {c : Nat} {I : mx_I} (a1 : Int32) (a2 : Int32)
    (k1 : mx_K1 l mX2_has d [.ref 8, .int a1] (sk0 c, I) (fun r h' => mx_Go l (mx_rm (d + 1) 0 0) mX2_tell (mx_Z Q 0 0) 0 0 5 [.ref 8, .int a1, .int a2] (r.toList ++ []) h')) :
    mx_Spec l mX2_tell (d + 1) 0 0 [.ref 8, .int a1, .int a2] (sk0 c, I) Q := by
  refine mx_enter rfl (by simp [Value.category]) (Nat.le_of_ble_eq_true rfl) ?_
  change mx_Go l (mx_rm (d + 1) 0 0) mX2_tell (mx_Z Q 0 0) 0 0 0 [.ref 8, .int a1, .int a2] [] (sk0 c, I)
  refine g_aload_n dX2_tell_0 rfl rfl ?_
  refine g_iload_n dX2_tell_1 rfl rfl ?_
  exact s_callV (M' := mX2_has) (As := [.int a1]) (st := []) dX2_tell_2 lm_X2_43 ovX2_has (h := (sk0 c, I)) (sk_8 _) (show vwCl[2]? = some _ from rfl) rfl (by simp [Value.category]) (by decide) rfl (k1)
set_option maxRecDepth 10000 in
set_option maxHeartbeats 1000000 in
theorem sg_X2_tell_5 {l : Launch} {d : Nat} {Q : Option Value → mx_H → Prop} {c : Nat} {I : mx_I} (x1 : Int32) (x2 : Int32) (x3 : Int32)
    (b1 : (¬ x3 = 0) → (x2 = 0) → vp_in x1 20)
    (q2 : (¬ x3 = 0) → (x2 = 0) → Q (some (.int (I 9 x1.toNatClampNeg))) (sk0 c, I))
    (b3 : (¬ x3 = 0) → (x2 = 1) → vp_in x1 20)
    (q4 : (¬ x3 = 0) → (x2 = 1) → Q (some (.int (I 10 x1.toNatClampNeg))) (sk0 c, I))
    (b5 : (¬ x3 = 0) → (x2 = 2) → vp_in x1 20)
    (q6 : (¬ x3 = 0) → (x2 = 2) → Q (some (.int (I 11 x1.toNatClampNeg))) (sk0 c, I))
    (b7 : (¬ x3 = 0) → (x2 = 3) → vp_in x1 20)
    (q8 : (¬ x3 = 0) → (x2 = 3) → Q (some (.int (I 12 x1.toNatClampNeg))) (sk0 c, I))
    (b9 : (¬ x3 = 0) → (x2 = 4) → vp_in x1 20)
    (q10 : (¬ x3 = 0) → (x2 = 4) → Q (some (.int (I 13 x1.toNatClampNeg))) (sk0 c, I))
    (b11 : (¬ x3 = 0) → (x2 = 5) → vp_in x1 20)
    (q12 : (¬ x3 = 0) → (x2 = 5) → Q (some (.int (I 14 x1.toNatClampNeg))) (sk0 c, I))
    (b13 : (¬ x3 = 0) → (x2 = 6) → vp_in x1 20)
    (q14 : (¬ x3 = 0) → (x2 = 6) → Q (some (.int (I 15 x1.toNatClampNeg))) (sk0 c, I))
    (b15 : (¬ x3 = 0) → (x2 = 7) → vp_in x1 20)
    (q16 : (¬ x3 = 0) → (x2 = 7) → Q (some (.int (I 16 x1.toNatClampNeg))) (sk0 c, I))
    (q17 : (¬ x3 = 0) → (x2 = 8) → Q (some (.int (-2))) (sk0 c, I))
    (q18 : (¬ x3 = 0) → (x2 = 9) → Q (some (.int (-2))) (sk0 c, I))
    (q19 : (¬ x3 = 0) → (x2 = 10) → Q (some (.int (-2))) (sk0 c, I))
    (b20 : (¬ x3 = 0) → (x2 = 11) → vp_in x1 20)
    (q21 : (¬ x3 = 0) → (x2 = 11) → Q (some (.int (I 17 x1.toNatClampNeg))) (sk0 c, I))
    (q22 : (¬ x3 = 0) → (¬ x2 = 0) → (¬ x2 = 1) → (¬ x2 = 2) → (¬ x2 = 3) → (¬ x2 = 4) → (¬ x2 = 5) → (¬ x2 = 6) → (¬ x2 = 7) → (¬ x2 = 8) → (¬ x2 = 9) → (¬ x2 = 10) → (¬ x2 = 11) → Q (some (.int (-2))) (sk0 c, I))
    (q23 : (x3 = 0) → Q (some (.int (-2))) (sk0 c, I)) :
    mx_Go l (mx_rm (d + 1) 0 0) mX2_tell (mx_Z Q 0 0) 0 0 5 [.ref 8, .int x1, .int x2] [.int x3] (sk0 c, I) := by
  refine g_if_ne (tgt := 11) dX2_tell_5 (by decide) (fun c1 => ?_) (fun c2 => ?_)
  · skip
    refine g_iload_n dX2_tell_11 rfl rfl ?_
    rcases Decidable.em (x2 = 0) with c3 | c4
    · skip
      refine g_tableIn (off := 64) (tgt := 76) dX2_tell_12 (by rw [c3]; decide) (by rw [c3]; decide) (by rw [c3]; rfl) (by decide) ?_
      refine g_aload_n dX2_tell_76 rfl rfl ?_
      refine rg_X2_0 (r := 9) dX2_tell_77 lf_X2_9 (sk_8 _) rfl ?_
      refine g_iload_n dX2_tell_80 rfl rfl ?_
      refine s_iald (j := x1.toNatClampNeg) (v := (I 9 x1.toNatClampNeg)) dX2_tell_81 (sk_9 _) (b1 c1 c3) rfl rfl ?_
      exact g_iret rfl dX2_tell_82 rfl (Nat.le_refl _) (q2 c1 c3)
    · skip
      rcases Decidable.em (x2 = 1) with c5 | c6
      · skip
        refine g_tableIn (off := 71) (tgt := 83) dX2_tell_12 (by rw [c5]; decide) (by rw [c5]; decide) (by rw [c5]; rfl) (by decide) ?_
        refine g_aload_n dX2_tell_83 rfl rfl ?_
        refine rg_X2_1 (r := 10) dX2_tell_84 lf_X2_15 (sk_8 _) rfl ?_
        refine g_iload_n dX2_tell_87 rfl rfl ?_
        refine s_iald (j := x1.toNatClampNeg) (v := (I 10 x1.toNatClampNeg)) dX2_tell_88 (sk_10 _) (b3 c1 c5) rfl rfl ?_
        exact g_iret rfl dX2_tell_89 rfl (Nat.le_refl _) (q4 c1 c5)
      · skip
        rcases Decidable.em (x2 = 2) with c7 | c8
        · skip
          refine g_tableIn (off := 78) (tgt := 90) dX2_tell_12 (by rw [c7]; decide) (by rw [c7]; decide) (by rw [c7]; rfl) (by decide) ?_
          refine g_aload_n dX2_tell_90 rfl rfl ?_
          refine rg_X2_2 (r := 11) dX2_tell_91 lf_X2_18 (sk_8 _) rfl ?_
          refine g_iload_n dX2_tell_94 rfl rfl ?_
          refine s_iald (j := x1.toNatClampNeg) (v := (I 11 x1.toNatClampNeg)) dX2_tell_95 (sk_11 _) (b5 c1 c7) rfl rfl ?_
          exact g_iret rfl dX2_tell_96 rfl (Nat.le_refl _) (q6 c1 c7)
        · skip
          rcases Decidable.em (x2 = 3) with c9 | c10
          · skip
            refine g_tableIn (off := 85) (tgt := 97) dX2_tell_12 (by rw [c9]; decide) (by rw [c9]; decide) (by rw [c9]; rfl) (by decide) ?_
            refine g_aload_n dX2_tell_97 rfl rfl ?_
            refine rg_X2_3 (r := 12) dX2_tell_98 lf_X2_21 (sk_8 _) rfl ?_
            refine g_iload_n dX2_tell_101 rfl rfl ?_
            refine s_iald (j := x1.toNatClampNeg) (v := (I 12 x1.toNatClampNeg)) dX2_tell_102 (sk_12 _) (b7 c1 c9) rfl rfl ?_
            exact g_iret rfl dX2_tell_103 rfl (Nat.le_refl _) (q8 c1 c9)
          · skip
            rcases Decidable.em (x2 = 4) with c11 | c12
            · skip
              refine g_tableIn (off := 92) (tgt := 104) dX2_tell_12 (by rw [c11]; decide) (by rw [c11]; decide) (by rw [c11]; rfl) (by decide) ?_
              refine g_aload_n dX2_tell_104 rfl rfl ?_
              refine rg_X2_4 (r := 13) dX2_tell_105 lf_X2_24 (sk_8 _) rfl ?_
              refine g_iload_n dX2_tell_108 rfl rfl ?_
              refine s_iald (j := x1.toNatClampNeg) (v := (I 13 x1.toNatClampNeg)) dX2_tell_109 (sk_13 _) (b9 c1 c11) rfl rfl ?_
              exact g_iret rfl dX2_tell_110 rfl (Nat.le_refl _) (q10 c1 c11)
            · skip
              rcases Decidable.em (x2 = 5) with c13 | c14
              · skip
                refine g_tableIn (off := 99) (tgt := 111) dX2_tell_12 (by rw [c13]; decide) (by rw [c13]; decide) (by rw [c13]; rfl) (by decide) ?_
                refine g_aload_n dX2_tell_111 rfl rfl ?_
                refine rg_X2_5 (r := 14) dX2_tell_112 lf_X2_27 (sk_8 _) rfl ?_
                refine g_iload_n dX2_tell_115 rfl rfl ?_
                refine s_iald (j := x1.toNatClampNeg) (v := (I 14 x1.toNatClampNeg)) dX2_tell_116 (sk_14 _) (b11 c1 c13) rfl rfl ?_
                exact g_iret rfl dX2_tell_117 rfl (Nat.le_refl _) (q12 c1 c13)
              · skip
                rcases Decidable.em (x2 = 6) with c15 | c16
                · skip
                  refine g_tableIn (off := 106) (tgt := 118) dX2_tell_12 (by rw [c15]; decide) (by rw [c15]; decide) (by rw [c15]; rfl) (by decide) ?_
                  refine g_aload_n dX2_tell_118 rfl rfl ?_
                  refine rg_X2_6 (r := 15) dX2_tell_119 lf_X2_30 (sk_8 _) rfl ?_
                  refine g_iload_n dX2_tell_122 rfl rfl ?_
                  refine s_iald (j := x1.toNatClampNeg) (v := (I 15 x1.toNatClampNeg)) dX2_tell_123 (sk_15 _) (b13 c1 c15) rfl rfl ?_
                  exact g_iret rfl dX2_tell_124 rfl (Nat.le_refl _) (q14 c1 c15)
                · skip
                  rcases Decidable.em (x2 = 7) with c17 | c18
                  · skip
                    refine g_tableIn (off := 113) (tgt := 125) dX2_tell_12 (by rw [c17]; decide) (by rw [c17]; decide) (by rw [c17]; rfl) (by decide) ?_
                    refine g_aload_n dX2_tell_125 rfl rfl ?_
                    refine rg_X2_7 (r := 16) dX2_tell_126 lf_X2_33 (sk_8 _) rfl ?_
                    refine g_iload_n dX2_tell_129 rfl rfl ?_
                    refine s_iald (j := x1.toNatClampNeg) (v := (I 16 x1.toNatClampNeg)) dX2_tell_130 (sk_16 _) (b15 c1 c17) rfl rfl ?_
                    exact g_iret rfl dX2_tell_131 rfl (Nat.le_refl _) (q16 c1 c17)
                  · skip
                    rcases Decidable.em (x2 = 8) with c19 | c20
                    · skip
                      refine g_tableIn (off := 127) (tgt := 139) dX2_tell_12 (by rw [c19]; decide) (by rw [c19]; decide) (by rw [c19]; rfl) (by decide) ?_
                      refine g_bipush (v := (-2)) dX2_tell_139 (by decide) ?_
                      exact g_iret rfl dX2_tell_141 rfl (Nat.le_refl _) (q17 c1 c19)
                    · skip
                      rcases Decidable.em (x2 = 9) with c21 | c22
                      · skip
                        refine g_tableIn (off := 127) (tgt := 139) dX2_tell_12 (by rw [c21]; decide) (by rw [c21]; decide) (by rw [c21]; rfl) (by decide) ?_
                        refine g_bipush (v := (-2)) dX2_tell_139 (by decide) ?_
                        exact g_iret rfl dX2_tell_141 rfl (Nat.le_refl _) (q18 c1 c21)
                      · skip
                        rcases Decidable.em (x2 = 10) with c23 | c24
                        · skip
                          refine g_tableIn (off := 127) (tgt := 139) dX2_tell_12 (by rw [c23]; decide) (by rw [c23]; decide) (by rw [c23]; rfl) (by decide) ?_
                          refine g_bipush (v := (-2)) dX2_tell_139 (by decide) ?_
                          exact g_iret rfl dX2_tell_141 rfl (Nat.le_refl _) (q19 c1 c23)
                        · skip
                          rcases Decidable.em (x2 = 11) with c25 | c26
                          · skip
                            refine g_tableIn (off := 120) (tgt := 132) dX2_tell_12 (by rw [c25]; decide) (by rw [c25]; decide) (by rw [c25]; rfl) (by decide) ?_
                            refine g_aload_n dX2_tell_132 rfl rfl ?_
                            refine rg_X2_8 (r := 17) dX2_tell_133 lf_X2_36 (sk_8 _) rfl ?_
                            refine g_iload_n dX2_tell_136 rfl rfl ?_
                            refine s_iald (j := x1.toNatClampNeg) (v := (I 17 x1.toNatClampNeg)) dX2_tell_137 (sk_17 _) (b20 c1 c25) rfl rfl ?_
                            exact g_iret rfl dX2_tell_138 rfl (Nat.le_refl _) (q21 c1 c25)
                          · skip
                            refine g_tableOut (tgt := 139) dX2_tell_12 (by have q4 := mx_i32 (n := 0) (by decide) c4; have q6 := mx_i32 (n := 1) (by decide) c6; have q8 := mx_i32 (n := 2) (by decide) c8; have q10 := mx_i32 (n := 3) (by decide) c10; have q12 := mx_i32 (n := 4) (by decide) c12; have q14 := mx_i32 (n := 5) (by decide) c14; have q16 := mx_i32 (n := 6) (by decide) c16; have q18 := mx_i32 (n := 7) (by decide) c18; have q20 := mx_i32 (n := 8) (by decide) c20; have q22 := mx_i32 (n := 9) (by decide) c22; have q24 := mx_i32 (n := 10) (by decide) c24; have q26 := mx_i32 (n := 11) (by decide) c26; omega) (by decide) ?_
                            refine g_bipush (v := (-2)) dX2_tell_139 (by decide) ?_
                            exact g_iret rfl dX2_tell_141 rfl (Nat.le_refl _) (q22 c1 c4 c6 c8 c10 c12 c14 c16 c18 c20 c22 c24 c26)
  · skip
    refine g_bipush (v := (-2)) dX2_tell_8 (by decide) ?_
    exact g_iret rfl dX2_tell_10 rfl (Nat.le_refl _) (q23 c2)
set_option maxRecDepth 10000 in
set_option maxHeartbeats 1000000 in
theorem sn_X2_copyFrom_81_8 {l : Launch} {d : Nat} {Q : Option Value → mx_H → Prop} {c : Nat} {I : mx_I}
    (q1 : Q none (sk0 c, (mx_set (mx_copy (mx_copy (mx_copy (mx_copy (mx_copy (mx_copy (mx_copy (mx_copy (mx_copy I 9 82 20) 10 83 20) 11 84 20) 12 85 20) 13 86 20) 14 87 20) 15 88 20) 16 89 20) 17 90 20) 81 9 (I 8 9)))) :
    mx_Spec l mX2_copyFrom (d + 1) 0 0 [.ref 81, .ref 8] (sk0 c, I) Q := by
  refine mx_enter rfl (by simp [Value.category]) (Nat.le_of_ble_eq_true rfl) ?_
  change mx_Go l (mx_rm (d + 1) 0 0) mX2_copyFrom (mx_Z Q 0 0) 0 0 0 [.ref 81, .ref 8] [] (sk0 c, I)
  refine g_aload_n dX2_copyFrom_0 rfl rfl ?_
  refine rg_X2_0 (r := 9) dX2_copyFrom_1 lf_X2_9 (sk_8 _) rfl ?_
  refine g_iconst (v := 0) dX2_copyFrom_4 (by decide) ?_
  refine g_aload_n dX2_copyFrom_5 rfl rfl ?_
  refine rg_X2_0 (r := 82) dX2_copyFrom_6 lf_X2_9 (sk_81 _) rfl ?_
  refine g_iconst (v := 0) dX2_copyFrom_9 (by decide) ?_
  refine g_bipush (v := 20) dX2_copyFrom_10 (by decide) ?_
  refine s_copy (N := 20) dX2_copyFrom_12 lm_X2_47 (sk_9 _) (sk_82 _) (by decide) (by decide) (by decide) (by decide) (by decide) ?_
  refine g_aload_n dX2_copyFrom_15 rfl rfl ?_
  refine rg_X2_1 (r := 10) dX2_copyFrom_16 lf_X2_15 (sk_8 _) rfl ?_
  refine g_iconst (v := 0) dX2_copyFrom_19 (by decide) ?_
  refine g_aload_n dX2_copyFrom_20 rfl rfl ?_
  refine rg_X2_1 (r := 83) dX2_copyFrom_21 lf_X2_15 (sk_81 _) rfl ?_
  refine g_iconst (v := 0) dX2_copyFrom_24 (by decide) ?_
  refine g_bipush (v := 20) dX2_copyFrom_25 (by decide) ?_
  refine s_copy (N := 20) dX2_copyFrom_27 lm_X2_47 (sk_10 _) (sk_83 _) (by decide) (by decide) (by decide) (by decide) (by decide) ?_
  refine g_aload_n dX2_copyFrom_30 rfl rfl ?_
  refine rg_X2_2 (r := 11) dX2_copyFrom_31 lf_X2_18 (sk_8 _) rfl ?_
  refine g_iconst (v := 0) dX2_copyFrom_34 (by decide) ?_
  refine g_aload_n dX2_copyFrom_35 rfl rfl ?_
  refine rg_X2_2 (r := 84) dX2_copyFrom_36 lf_X2_18 (sk_81 _) rfl ?_
  refine g_iconst (v := 0) dX2_copyFrom_39 (by decide) ?_
  refine g_bipush (v := 20) dX2_copyFrom_40 (by decide) ?_
  refine s_copy (N := 20) dX2_copyFrom_42 lm_X2_47 (sk_11 _) (sk_84 _) (by decide) (by decide) (by decide) (by decide) (by decide) ?_
  refine g_aload_n dX2_copyFrom_45 rfl rfl ?_
  refine rg_X2_3 (r := 12) dX2_copyFrom_46 lf_X2_21 (sk_8 _) rfl ?_
  refine g_iconst (v := 0) dX2_copyFrom_49 (by decide) ?_
  refine g_aload_n dX2_copyFrom_50 rfl rfl ?_
  refine rg_X2_3 (r := 85) dX2_copyFrom_51 lf_X2_21 (sk_81 _) rfl ?_
  refine g_iconst (v := 0) dX2_copyFrom_54 (by decide) ?_
  refine g_bipush (v := 20) dX2_copyFrom_55 (by decide) ?_
  refine s_copy (N := 20) dX2_copyFrom_57 lm_X2_47 (sk_12 _) (sk_85 _) (by decide) (by decide) (by decide) (by decide) (by decide) ?_
  refine g_aload_n dX2_copyFrom_60 rfl rfl ?_
  refine rg_X2_4 (r := 13) dX2_copyFrom_61 lf_X2_24 (sk_8 _) rfl ?_
  refine g_iconst (v := 0) dX2_copyFrom_64 (by decide) ?_
  refine g_aload_n dX2_copyFrom_65 rfl rfl ?_
  refine rg_X2_4 (r := 86) dX2_copyFrom_66 lf_X2_24 (sk_81 _) rfl ?_
  refine g_iconst (v := 0) dX2_copyFrom_69 (by decide) ?_
  refine g_bipush (v := 20) dX2_copyFrom_70 (by decide) ?_
  refine s_copy (N := 20) dX2_copyFrom_72 lm_X2_47 (sk_13 _) (sk_86 _) (by decide) (by decide) (by decide) (by decide) (by decide) ?_
  refine g_aload_n dX2_copyFrom_75 rfl rfl ?_
  refine rg_X2_5 (r := 14) dX2_copyFrom_76 lf_X2_27 (sk_8 _) rfl ?_
  refine g_iconst (v := 0) dX2_copyFrom_79 (by decide) ?_
  refine g_aload_n dX2_copyFrom_80 rfl rfl ?_
  refine rg_X2_5 (r := 87) dX2_copyFrom_81 lf_X2_27 (sk_81 _) rfl ?_
  refine g_iconst (v := 0) dX2_copyFrom_84 (by decide) ?_
  refine g_bipush (v := 20) dX2_copyFrom_85 (by decide) ?_
  refine s_copy (N := 20) dX2_copyFrom_87 lm_X2_47 (sk_14 _) (sk_87 _) (by decide) (by decide) (by decide) (by decide) (by decide) ?_
  refine g_aload_n dX2_copyFrom_90 rfl rfl ?_
  refine rg_X2_6 (r := 15) dX2_copyFrom_91 lf_X2_30 (sk_8 _) rfl ?_
  refine g_iconst (v := 0) dX2_copyFrom_94 (by decide) ?_
  refine g_aload_n dX2_copyFrom_95 rfl rfl ?_
  refine rg_X2_6 (r := 88) dX2_copyFrom_96 lf_X2_30 (sk_81 _) rfl ?_
  refine g_iconst (v := 0) dX2_copyFrom_99 (by decide) ?_
  refine g_bipush (v := 20) dX2_copyFrom_100 (by decide) ?_
  refine s_copy (N := 20) dX2_copyFrom_102 lm_X2_47 (sk_15 _) (sk_88 _) (by decide) (by decide) (by decide) (by decide) (by decide) ?_
  refine g_aload_n dX2_copyFrom_105 rfl rfl ?_
  refine rg_X2_7 (r := 16) dX2_copyFrom_106 lf_X2_33 (sk_8 _) rfl ?_
  refine g_iconst (v := 0) dX2_copyFrom_109 (by decide) ?_
  refine g_aload_n dX2_copyFrom_110 rfl rfl ?_
  refine rg_X2_7 (r := 89) dX2_copyFrom_111 lf_X2_33 (sk_81 _) rfl ?_
  refine g_iconst (v := 0) dX2_copyFrom_114 (by decide) ?_
  refine g_bipush (v := 20) dX2_copyFrom_115 (by decide) ?_
  refine s_copy (N := 20) dX2_copyFrom_117 lm_X2_47 (sk_16 _) (sk_89 _) (by decide) (by decide) (by decide) (by decide) (by decide) ?_
  refine g_aload_n dX2_copyFrom_120 rfl rfl ?_
  refine rg_X2_8 (r := 17) dX2_copyFrom_121 lf_X2_36 (sk_8 _) rfl ?_
  refine g_iconst (v := 0) dX2_copyFrom_124 (by decide) ?_
  refine g_aload_n dX2_copyFrom_125 rfl rfl ?_
  refine rg_X2_8 (r := 90) dX2_copyFrom_126 lf_X2_36 (sk_81 _) rfl ?_
  refine g_iconst (v := 0) dX2_copyFrom_129 (by decide) ?_
  refine g_bipush (v := 20) dX2_copyFrom_130 (by decide) ?_
  refine s_copy (N := 20) dX2_copyFrom_132 lm_X2_47 (sk_17 _) (sk_90 _) (by decide) (by decide) (by decide) (by decide) (by decide) ?_
  refine g_aload_n dX2_copyFrom_135 rfl rfl ?_
  refine g_aload_n dX2_copyFrom_136 rfl rfl ?_
  refine rg_X2_9 (v := (I 8 9)) dX2_copyFrom_137 lf_X2_39 (sk_8 _) (rd_cp (by decide) (rd_cp (by decide) (rd_cp (by decide) (rd_cp (by decide) (rd_cp (by decide) (rd_cp (by decide) (rd_cp (by decide) (rd_cp (by decide) (rd_cp (by decide) rfl))))))))) ?_
  refine rp_X2_9 dX2_copyFrom_140 lf_X2_39 (sk_81 _) ?_
  exact g_vret rfl dX2_copyFrom_143 rfl (Nat.le_refl _) (q1)
set_option maxRecDepth 10000 in
set_option maxHeartbeats 1000000 in
theorem sn_X2_copyFrom_8_81 {l : Launch} {d : Nat} {Q : Option Value → mx_H → Prop} {c : Nat} {I : mx_I}
    (q1 : Q none (sk0 c, (mx_set (mx_copy (mx_copy (mx_copy (mx_copy (mx_copy (mx_copy (mx_copy (mx_copy (mx_copy I 82 9 20) 83 10 20) 84 11 20) 85 12 20) 86 13 20) 87 14 20) 88 15 20) 89 16 20) 90 17 20) 8 9 (I 81 9)))) :
    mx_Spec l mX2_copyFrom (d + 1) 0 0 [.ref 8, .ref 81] (sk0 c, I) Q := by
  refine mx_enter rfl (by simp [Value.category]) (Nat.le_of_ble_eq_true rfl) ?_
  change mx_Go l (mx_rm (d + 1) 0 0) mX2_copyFrom (mx_Z Q 0 0) 0 0 0 [.ref 8, .ref 81] [] (sk0 c, I)
  refine g_aload_n dX2_copyFrom_0 rfl rfl ?_
  refine rg_X2_0 (r := 82) dX2_copyFrom_1 lf_X2_9 (sk_81 _) rfl ?_
  refine g_iconst (v := 0) dX2_copyFrom_4 (by decide) ?_
  refine g_aload_n dX2_copyFrom_5 rfl rfl ?_
  refine rg_X2_0 (r := 9) dX2_copyFrom_6 lf_X2_9 (sk_8 _) rfl ?_
  refine g_iconst (v := 0) dX2_copyFrom_9 (by decide) ?_
  refine g_bipush (v := 20) dX2_copyFrom_10 (by decide) ?_
  refine s_copy (N := 20) dX2_copyFrom_12 lm_X2_47 (sk_82 _) (sk_9 _) (by decide) (by decide) (by decide) (by decide) (by decide) ?_
  refine g_aload_n dX2_copyFrom_15 rfl rfl ?_
  refine rg_X2_1 (r := 83) dX2_copyFrom_16 lf_X2_15 (sk_81 _) rfl ?_
  refine g_iconst (v := 0) dX2_copyFrom_19 (by decide) ?_
  refine g_aload_n dX2_copyFrom_20 rfl rfl ?_
  refine rg_X2_1 (r := 10) dX2_copyFrom_21 lf_X2_15 (sk_8 _) rfl ?_
  refine g_iconst (v := 0) dX2_copyFrom_24 (by decide) ?_
  refine g_bipush (v := 20) dX2_copyFrom_25 (by decide) ?_
  refine s_copy (N := 20) dX2_copyFrom_27 lm_X2_47 (sk_83 _) (sk_10 _) (by decide) (by decide) (by decide) (by decide) (by decide) ?_
  refine g_aload_n dX2_copyFrom_30 rfl rfl ?_
  refine rg_X2_2 (r := 84) dX2_copyFrom_31 lf_X2_18 (sk_81 _) rfl ?_
  refine g_iconst (v := 0) dX2_copyFrom_34 (by decide) ?_
  refine g_aload_n dX2_copyFrom_35 rfl rfl ?_
  refine rg_X2_2 (r := 11) dX2_copyFrom_36 lf_X2_18 (sk_8 _) rfl ?_
  refine g_iconst (v := 0) dX2_copyFrom_39 (by decide) ?_
  refine g_bipush (v := 20) dX2_copyFrom_40 (by decide) ?_
  refine s_copy (N := 20) dX2_copyFrom_42 lm_X2_47 (sk_84 _) (sk_11 _) (by decide) (by decide) (by decide) (by decide) (by decide) ?_
  refine g_aload_n dX2_copyFrom_45 rfl rfl ?_
  refine rg_X2_3 (r := 85) dX2_copyFrom_46 lf_X2_21 (sk_81 _) rfl ?_
  refine g_iconst (v := 0) dX2_copyFrom_49 (by decide) ?_
  refine g_aload_n dX2_copyFrom_50 rfl rfl ?_
  refine rg_X2_3 (r := 12) dX2_copyFrom_51 lf_X2_21 (sk_8 _) rfl ?_
  refine g_iconst (v := 0) dX2_copyFrom_54 (by decide) ?_
  refine g_bipush (v := 20) dX2_copyFrom_55 (by decide) ?_
  refine s_copy (N := 20) dX2_copyFrom_57 lm_X2_47 (sk_85 _) (sk_12 _) (by decide) (by decide) (by decide) (by decide) (by decide) ?_
  refine g_aload_n dX2_copyFrom_60 rfl rfl ?_
  refine rg_X2_4 (r := 86) dX2_copyFrom_61 lf_X2_24 (sk_81 _) rfl ?_
  refine g_iconst (v := 0) dX2_copyFrom_64 (by decide) ?_
  refine g_aload_n dX2_copyFrom_65 rfl rfl ?_
  refine rg_X2_4 (r := 13) dX2_copyFrom_66 lf_X2_24 (sk_8 _) rfl ?_
  refine g_iconst (v := 0) dX2_copyFrom_69 (by decide) ?_
  refine g_bipush (v := 20) dX2_copyFrom_70 (by decide) ?_
  refine s_copy (N := 20) dX2_copyFrom_72 lm_X2_47 (sk_86 _) (sk_13 _) (by decide) (by decide) (by decide) (by decide) (by decide) ?_
  refine g_aload_n dX2_copyFrom_75 rfl rfl ?_
  refine rg_X2_5 (r := 87) dX2_copyFrom_76 lf_X2_27 (sk_81 _) rfl ?_
  refine g_iconst (v := 0) dX2_copyFrom_79 (by decide) ?_
  refine g_aload_n dX2_copyFrom_80 rfl rfl ?_
  refine rg_X2_5 (r := 14) dX2_copyFrom_81 lf_X2_27 (sk_8 _) rfl ?_
  refine g_iconst (v := 0) dX2_copyFrom_84 (by decide) ?_
  refine g_bipush (v := 20) dX2_copyFrom_85 (by decide) ?_
  refine s_copy (N := 20) dX2_copyFrom_87 lm_X2_47 (sk_87 _) (sk_14 _) (by decide) (by decide) (by decide) (by decide) (by decide) ?_
  refine g_aload_n dX2_copyFrom_90 rfl rfl ?_
  refine rg_X2_6 (r := 88) dX2_copyFrom_91 lf_X2_30 (sk_81 _) rfl ?_
  refine g_iconst (v := 0) dX2_copyFrom_94 (by decide) ?_
  refine g_aload_n dX2_copyFrom_95 rfl rfl ?_
  refine rg_X2_6 (r := 15) dX2_copyFrom_96 lf_X2_30 (sk_8 _) rfl ?_
  refine g_iconst (v := 0) dX2_copyFrom_99 (by decide) ?_
  refine g_bipush (v := 20) dX2_copyFrom_100 (by decide) ?_
  refine s_copy (N := 20) dX2_copyFrom_102 lm_X2_47 (sk_88 _) (sk_15 _) (by decide) (by decide) (by decide) (by decide) (by decide) ?_
  refine g_aload_n dX2_copyFrom_105 rfl rfl ?_
  refine rg_X2_7 (r := 89) dX2_copyFrom_106 lf_X2_33 (sk_81 _) rfl ?_
  refine g_iconst (v := 0) dX2_copyFrom_109 (by decide) ?_
  refine g_aload_n dX2_copyFrom_110 rfl rfl ?_
  refine rg_X2_7 (r := 16) dX2_copyFrom_111 lf_X2_33 (sk_8 _) rfl ?_
  refine g_iconst (v := 0) dX2_copyFrom_114 (by decide) ?_
  refine g_bipush (v := 20) dX2_copyFrom_115 (by decide) ?_
  refine s_copy (N := 20) dX2_copyFrom_117 lm_X2_47 (sk_89 _) (sk_16 _) (by decide) (by decide) (by decide) (by decide) (by decide) ?_
  refine g_aload_n dX2_copyFrom_120 rfl rfl ?_
  refine rg_X2_8 (r := 90) dX2_copyFrom_121 lf_X2_36 (sk_81 _) rfl ?_
  refine g_iconst (v := 0) dX2_copyFrom_124 (by decide) ?_
  refine g_aload_n dX2_copyFrom_125 rfl rfl ?_
  refine rg_X2_8 (r := 17) dX2_copyFrom_126 lf_X2_36 (sk_8 _) rfl ?_
  refine g_iconst (v := 0) dX2_copyFrom_129 (by decide) ?_
  refine g_bipush (v := 20) dX2_copyFrom_130 (by decide) ?_
  refine s_copy (N := 20) dX2_copyFrom_132 lm_X2_47 (sk_90 _) (sk_17 _) (by decide) (by decide) (by decide) (by decide) (by decide) ?_
  refine g_aload_n dX2_copyFrom_135 rfl rfl ?_
  refine g_aload_n dX2_copyFrom_136 rfl rfl ?_
  refine rg_X2_9 (v := (I 81 9)) dX2_copyFrom_137 lf_X2_39 (sk_81 _) (rd_cp (by decide) (rd_cp (by decide) (rd_cp (by decide) (rd_cp (by decide) (rd_cp (by decide) (rd_cp (by decide) (rd_cp (by decide) (rd_cp (by decide) (rd_cp (by decide) rfl))))))))) ?_
  refine rp_X2_9 dX2_copyFrom_140 lf_X2_39 (sk_8 _) ?_
  exact g_vret rfl dX2_copyFrom_143 rfl (Nat.le_refl _) (q1)
