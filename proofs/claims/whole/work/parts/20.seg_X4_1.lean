set_option maxRecDepth 10000 in
set_option maxHeartbeats 1000000 in
theorem sn_X4_add {l : Launch} {d : Nat} {Q : Option Value → mx_H → Prop} {c : Nat} {I : mx_I} (a1 : Int32) (a2 : Int32) (a3 : Int32)
    (b1 : ((I 24 3) < 20) → vp_in (I 24 3) 20)
    (b2 : ((I 24 3) < 20) → vp_in (I 24 3) 20)
    (b3 : ((I 24 3) < 20) → vp_in (I 24 3) 20)
    (q4 : ((I 24 3) < 20) → Q (some (.int 1)) (sk0 c, (mx_set (mx_set (mx_set (mx_set I 25 (I 24 3).toNatClampNeg a1) 26 (I 24 3).toNatClampNeg a2) 27 (I 24 3).toNatClampNeg a3) 24 3 ((I 24 3) + 1))))
    (q5 : (¬ (I 24 3) < 20) → Q (some (.int 0)) (sk0 c, I)) :
    mx_Spec l mX4_add (d + 1) 0 0 [.ref 24, .int a1, .int a2, .int a3] (sk0 c, I) Q := by
  refine mx_enter rfl (by simp [Value.category]) (Nat.le_of_ble_eq_true rfl) ?_
  change mx_Go l (mx_rm (d + 1) 0 0) mX4_add (mx_Z Q 0 0) 0 0 0 [.ref 24, .int a1, .int a2, .int a3] [] (sk0 c, I)
  refine g_aload_n dX4_add_0 rfl rfl ?_
  refine rg_X4_3 (v := (I 24 3)) dX4_add_1 lf_X4_21 (sk_24 _) rfl ?_
  refine g_bipush (v := 20) dX4_add_4 (by decide) ?_
  refine g_icmp_lt (tgt := 11) dX4_add_6 (by decide) (fun c1 => ?_) (fun c2 => ?_)
  · skip
    refine g_aload_n dX4_add_11 rfl rfl ?_
    refine rg_X4_0 (r := 25) dX4_add_12 lf_X4_9 (sk_24 _) rfl ?_
    refine g_aload_n dX4_add_15 rfl rfl ?_
    refine rg_X4_3 (v := (I 24 3)) dX4_add_16 lf_X4_21 (sk_24 _) rfl ?_
    refine g_iload_n dX4_add_19 rfl rfl ?_
    refine s_iast (j := (I 24 3).toNatClampNeg) dX4_add_20 (sk_25 _) (b1 c1) rfl ?_
    refine g_aload_n dX4_add_21 rfl rfl ?_
    refine rg_X4_1 (r := 26) dX4_add_22 lf_X4_15 (sk_24 _) rfl ?_
    refine g_aload_n dX4_add_25 rfl rfl ?_
    refine rg_X4_3 (v := (I 24 3)) dX4_add_26 lf_X4_21 (sk_24 _) (rd_ne (by decide) rfl) ?_
    refine g_iload_n dX4_add_29 rfl rfl ?_
    refine s_iast (j := (I 24 3).toNatClampNeg) dX4_add_30 (sk_26 _) (b2 c1) rfl ?_
    refine g_aload_n dX4_add_31 rfl rfl ?_
    refine rg_X4_2 (r := 27) dX4_add_32 lf_X4_18 (sk_24 _) rfl ?_
    refine g_aload_n dX4_add_35 rfl rfl ?_
    refine rg_X4_3 (v := (I 24 3)) dX4_add_36 lf_X4_21 (sk_24 _) (rd_ne (by decide) (rd_ne (by decide) rfl)) ?_
    refine g_iload_n dX4_add_39 rfl rfl ?_
    refine s_iast (j := (I 24 3).toNatClampNeg) dX4_add_40 (sk_27 _) (b3 c1) rfl ?_
    refine g_aload_n dX4_add_41 rfl rfl ?_
    refine g_dup dX4_add_42 rfl ?_
    refine rg_X4_3 (v := (I 24 3)) dX4_add_43 lf_X4_21 (sk_24 _) (rd_ne (by decide) (rd_ne (by decide) (rd_ne (by decide) rfl))) ?_
    refine g_iconst (v := 1) dX4_add_46 (by decide) ?_
    refine g_iadd dX4_add_47 ?_
    refine rp_X4_3 dX4_add_48 lf_X4_21 (sk_24 _) ?_
    refine g_iconst (v := 1) dX4_add_51 (by decide) ?_
    exact g_zret (ty := .boolean) rfl rfl dX4_add_52 rfl (Nat.le_refl _) (q4 c1)
  · skip
    refine g_iconst (v := 0) dX4_add_9 (by decide) ?_
    exact g_zret (ty := .boolean) rfl rfl dX4_add_10 rfl (Nat.le_refl _) (q5 c2)
set_option maxRecDepth 10000 in
set_option maxHeartbeats 1000000 in
theorem sn_X4_lastHour {l : Launch} {d : Nat} {Q : Option Value → mx_H → Prop} {c : Nat} {I : mx_I}
    (e1 : mx_Go l (mx_rm (d + 1) 0 0) mX4_lastHour (mx_Z Q 0 0) 0 0 4 [.ref 24, .int (-1), .int 0] [] (sk0 c, I)) :
    mx_Spec l mX4_lastHour (d + 1) 0 0 [.ref 24] (sk0 c, I) Q := by
  refine mx_enter rfl (by simp [Value.category]) (Nat.le_of_ble_eq_true rfl) ?_
  change mx_Go l (mx_rm (d + 1) 0 0) mX4_lastHour (mx_Z Q 0 0) 0 0 0 [.ref 24, .retAddr 0, .retAddr 0] [] (sk0 c, I)
  refine g_iconst (v := (-1)) dX4_lastHour_0 (by decide) ?_
  refine s_istore_n (L' := [.ref 24, .int (-1), .retAddr 0]) dX4_lastHour_1 rfl (by decide) rfl rfl ?_
  refine g_iconst (v := 0) dX4_lastHour_2 (by decide) ?_
  refine s_istore_n (L' := [.ref 24, .int (-1), .int 0]) dX4_lastHour_3 rfl (by decide) rfl rfl ?_
  exact e1
set_option maxRecDepth 10000 in
set_option maxHeartbeats 1000000 in
theorem sg_X4_lastHour_4 {l : Launch} {d : Nat} {Q : Option Value → mx_H → Prop} {c : Nat} {I : mx_I} (x1 : Int32) (x2 : Int32)
    (q1 : ((I 24 3) ≤ x2) → Q (some (.int x1)) (sk0 c, I))
    (b2 : (¬ (I 24 3) ≤ x2) → vp_in x2 20)
    (e3 : (¬ (I 24 3) ≤ x2) → mx_Go l (mx_rm (d + 1) 0 0) mX4_lastHour (mx_Z Q 0 0) 0 0 4 [.ref 24, .int (if x1 < (I 25 x2.toNatClampNeg) then (I 25 x2.toNatClampNeg) else x1), .int (x2 + 1)] [] (sk0 c, I)) :
    mx_Go l (mx_rm (d + 1) 0 0) mX4_lastHour (mx_Z Q 0 0) 0 0 4 [.ref 24, .int x1, .int x2] [] (sk0 c, I) := by
  refine g_iload_n dX4_lastHour_4 rfl rfl ?_
  refine g_aload_n dX4_lastHour_5 rfl rfl ?_
  refine rg_X4_3 (v := (I 24 3)) dX4_lastHour_6 lf_X4_21 (sk_24 _) rfl ?_
  refine g_icmp_ge (tgt := 29) dX4_lastHour_9 (by decide) (fun c1 => ?_) (fun c2 => ?_)
  · skip
    refine g_iload_n dX4_lastHour_29 rfl rfl ?_
    exact g_iret rfl dX4_lastHour_30 rfl (Nat.le_refl _) (q1 c1)
  · skip
    refine g_iload_n dX4_lastHour_12 rfl rfl ?_
    refine g_aload_n dX4_lastHour_13 rfl rfl ?_
    refine rg_X4_0 (r := 25) dX4_lastHour_14 lf_X4_9 (sk_24 _) rfl ?_
    refine g_iload_n dX4_lastHour_17 rfl rfl ?_
    refine s_iald (j := x2.toNatClampNeg) (v := (I 25 x2.toNatClampNeg)) dX4_lastHour_18 (sk_25 _) (b2 c2) rfl rfl ?_
    refine s_max (by simp [Value.category]) dX4_lastHour_19 lm_X4_25 ?_
    refine s_istore_n (L' := [.ref 24, .int (if x1 < (I 25 x2.toNatClampNeg) then (I 25 x2.toNatClampNeg) else x1), .int x2]) dX4_lastHour_22 rfl (by decide) rfl rfl ?_
    refine s_iinc (v := (x2 + 1)) (L' := [.ref 24, .int (if x1 < (I 25 x2.toNatClampNeg) then (I 25 x2.toNatClampNeg) else x1), .int (x2 + 1)]) dX4_lastHour_23 rfl (by decide) rfl rfl rfl ?_
    refine g_goto (tgt := 4) dX4_lastHour_26 (by decide) ?_
    exact e3 c2
set_option maxRecDepth 10000 in
set_option maxHeartbeats 1000000 in
theorem sn_X4_agree {l : Launch} {d : Nat} {Q : Option Value → mx_H → Prop} {c : Nat} {I : mx_I} (a1 : Int32)
    (e1 : mx_Go l (mx_rm (d + 1) 0 0) mX4_agree (mx_Z Q 0 0) 0 0 2 [.ref 24, .int a1, .ref 55, .int 0] [] (sk0 c, I)) :
    mx_Spec l mX4_agree (d + 1) 0 0 [.ref 24, .int a1, .ref 55] (sk0 c, I) Q := by
  refine mx_enter rfl (by simp [Value.category]) (Nat.le_of_ble_eq_true rfl) ?_
  change mx_Go l (mx_rm (d + 1) 0 0) mX4_agree (mx_Z Q 0 0) 0 0 0 [.ref 24, .int a1, .ref 55, .retAddr 0] [] (sk0 c, I)
  refine g_iconst (v := 0) dX4_agree_0 (by decide) ?_
  refine s_istore_n (L' := [.ref 24, .int a1, .ref 55, .int 0]) dX4_agree_1 rfl (by decide) rfl rfl ?_
  exact e1
set_option maxRecDepth 10000 in
set_option maxHeartbeats 1000000 in
theorem sg_X4_agree_2 {l : Launch} {d : Nat} {Q : Option Value → mx_H → Prop} {c : Nat} {I : mx_I} (x1 : Int32) (x2 : Int32)
    (q1 : ((I 24 3) ≤ x2) → Q (some (.int 1)) (sk0 c, I))
    (b2 : (¬ (I 24 3) ≤ x2) → vp_in x2 20)
    (e3 : (¬ (I 24 3) ≤ x2) → (¬ (I 25 x2.toNatClampNeg) = x1) → mx_Go l (mx_rm (d + 1) 0 0) mX4_agree (mx_Z Q 0 0) 0 0 2 [.ref 24, .int x1, .ref 55, .int (x2 + 1)] [] (sk0 c, I))
    (b4 : (¬ (I 24 3) ≤ x2) → ((I 25 x2.toNatClampNeg) = x1) → vp_in x2 20)
    (k5 : (¬ (I 24 3) ≤ x2) → ((I 25 x2.toNatClampNeg) = x1) → mx_K1 l mX9_setAt d [.ref 55, .int (I 26 x2.toNatClampNeg)] (sk0 c, I) (fun r h' => mx_Go l (mx_rm (d + 1) 0 0) mX4_agree (mx_Z Q 0 0) 0 0 30 [.ref 24, .int x1, .ref 55, .int x2] (r.toList ++ []) h')) :
    mx_Go l (mx_rm (d + 1) 0 0) mX4_agree (mx_Z Q 0 0) 0 0 2 [.ref 24, .int x1, .ref 55, .int x2] [] (sk0 c, I) := by
  refine g_iload_n dX4_agree_2 rfl rfl ?_
  refine g_aload_n dX4_agree_3 rfl rfl ?_
  refine rg_X4_3 (v := (I 24 3)) dX4_agree_4 lf_X4_21 (sk_24 _) rfl ?_
  refine g_icmp_ge (tgt := 47) dX4_agree_7 (by decide) (fun c1 => ?_) (fun c2 => ?_)
  · skip
    refine g_iconst (v := 1) dX4_agree_47 (by decide) ?_
    exact g_zret (ty := .boolean) rfl rfl dX4_agree_48 rfl (Nat.le_refl _) (q1 c1)
  · skip
    refine g_aload_n dX4_agree_10 rfl rfl ?_
    refine rg_X4_0 (r := 25) dX4_agree_11 lf_X4_9 (sk_24 _) rfl ?_
    refine g_iload_n dX4_agree_14 rfl rfl ?_
    refine s_iald (j := x2.toNatClampNeg) (v := (I 25 x2.toNatClampNeg)) dX4_agree_15 (sk_25 _) (b2 c2) rfl rfl ?_
    refine g_iload_n dX4_agree_16 rfl rfl ?_
    refine g_icmp_ne (tgt := 41) dX4_agree_17 (by decide) (fun c3 => ?_) (fun c4 => ?_)
    · skip
      refine s_iinc (v := (x2 + 1)) (L' := [.ref 24, .int x1, .ref 55, .int (x2 + 1)]) dX4_agree_41 rfl (by decide) rfl rfl rfl ?_
      refine g_goto (tgt := 2) dX4_agree_44 (by decide) ?_
      exact e3 c2 c3
    · skip
      refine g_aload_n dX4_agree_20 rfl rfl ?_
      refine g_aload_n dX4_agree_21 rfl rfl ?_
      refine rg_X4_1 (r := 26) dX4_agree_22 lf_X4_15 (sk_24 _) rfl ?_
      refine g_iload_n dX4_agree_25 rfl rfl ?_
      refine s_iald (j := x2.toNatClampNeg) (v := (I 26 x2.toNatClampNeg)) dX4_agree_26 (sk_26 _) (b4 c2 c4) rfl rfl ?_
      exact s_callV (M' := mX9_setAt) (As := [.int (I 26 x2.toNatClampNeg)]) (st := []) dX4_agree_27 lm_X4_31 ovX9_setAt (h := (sk0 c, I)) (sk_55 _) (show vwCl[9]? = some _ from rfl) rfl (by simp [Value.category]) (by decide) rfl (k5 c2 c4)
set_option maxRecDepth 10000 in
set_option maxHeartbeats 1000000 in
theorem sg_X4_agree_30 {l : Launch} {d : Nat} {Q : Option Value → mx_H → Prop} {c : Nat} {I : mx_I} (x1 : Int32) (x2 : Int32) (x3 : Int32)
    (b1 : vp_in x2 20)
    (e2 : (x3 = (I 27 x2.toNatClampNeg)) → mx_Go l (mx_rm (d + 1) 0 0) mX4_agree (mx_Z Q 0 0) 0 0 2 [.ref 24, .int x1, .ref 55, .int (x2 + 1)] [] (sk0 c, I))
    (q3 : (¬ x3 = (I 27 x2.toNatClampNeg)) → Q (some (.int 0)) (sk0 c, I)) :
    mx_Go l (mx_rm (d + 1) 0 0) mX4_agree (mx_Z Q 0 0) 0 0 30 [.ref 24, .int x1, .ref 55, .int x2] [.int x3] (sk0 c, I) := by
  refine g_aload_n dX4_agree_30 rfl rfl ?_
  refine rg_X4_2 (r := 27) dX4_agree_31 lf_X4_18 (sk_24 _) rfl ?_
  refine g_iload_n dX4_agree_34 rfl rfl ?_
  refine s_iald (j := x2.toNatClampNeg) (v := (I 27 x2.toNatClampNeg)) dX4_agree_35 (sk_27 _) (b1) rfl rfl ?_
  refine g_icmp_eq (tgt := 41) dX4_agree_36 (by decide) (fun c1 => ?_) (fun c2 => ?_)
  · skip
    refine s_iinc (v := (x2 + 1)) (L' := [.ref 24, .int x1, .ref 55, .int (x2 + 1)]) dX4_agree_41 rfl (by decide) rfl rfl rfl ?_
    refine g_goto (tgt := 2) dX4_agree_44 (by decide) ?_
    exact e2 c1
  · skip
    refine g_iconst (v := 0) dX4_agree_39 (by decide) ?_
    exact g_zret (ty := .boolean) rfl rfl dX4_agree_40 rfl (Nat.le_refl _) (q3 c2)
set_option maxRecDepth 10000 in
set_option maxHeartbeats 1000000 in
theorem sn_X4_copyFrom_97_24 {l : Launch} {d : Nat} {Q : Option Value → mx_H → Prop} {c : Nat} {I : mx_I}
    (q1 : Q none (sk0 c, (mx_set (mx_copy (mx_copy (mx_copy I 25 98 20) 26 99 20) 27 100 20) 97 3 (I 24 3)))) :
    mx_Spec l mX4_copyFrom (d + 1) 0 0 [.ref 97, .ref 24] (sk0 c, I) Q := by
  refine mx_enter rfl (by simp [Value.category]) (Nat.le_of_ble_eq_true rfl) ?_
  change mx_Go l (mx_rm (d + 1) 0 0) mX4_copyFrom (mx_Z Q 0 0) 0 0 0 [.ref 97, .ref 24] [] (sk0 c, I)
  refine g_aload_n dX4_copyFrom_0 rfl rfl ?_
  refine rg_X4_0 (r := 25) dX4_copyFrom_1 lf_X4_9 (sk_24 _) rfl ?_
  refine g_iconst (v := 0) dX4_copyFrom_4 (by decide) ?_
  refine g_aload_n dX4_copyFrom_5 rfl rfl ?_
  refine rg_X4_0 (r := 98) dX4_copyFrom_6 lf_X4_9 (sk_97 _) rfl ?_
  refine g_iconst (v := 0) dX4_copyFrom_9 (by decide) ?_
  refine g_bipush (v := 20) dX4_copyFrom_10 (by decide) ?_
  refine s_copy (N := 20) dX4_copyFrom_12 lm_X4_37 (sk_25 _) (sk_98 _) (by decide) (by decide) (by decide) (by decide) (by decide) ?_
  refine g_aload_n dX4_copyFrom_15 rfl rfl ?_
  refine rg_X4_1 (r := 26) dX4_copyFrom_16 lf_X4_15 (sk_24 _) rfl ?_
  refine g_iconst (v := 0) dX4_copyFrom_19 (by decide) ?_
  refine g_aload_n dX4_copyFrom_20 rfl rfl ?_
  refine rg_X4_1 (r := 99) dX4_copyFrom_21 lf_X4_15 (sk_97 _) rfl ?_
  refine g_iconst (v := 0) dX4_copyFrom_24 (by decide) ?_
  refine g_bipush (v := 20) dX4_copyFrom_25 (by decide) ?_
  refine s_copy (N := 20) dX4_copyFrom_27 lm_X4_37 (sk_26 _) (sk_99 _) (by decide) (by decide) (by decide) (by decide) (by decide) ?_
  refine g_aload_n dX4_copyFrom_30 rfl rfl ?_
  refine rg_X4_2 (r := 27) dX4_copyFrom_31 lf_X4_18 (sk_24 _) rfl ?_
  refine g_iconst (v := 0) dX4_copyFrom_34 (by decide) ?_
  refine g_aload_n dX4_copyFrom_35 rfl rfl ?_
  refine rg_X4_2 (r := 100) dX4_copyFrom_36 lf_X4_18 (sk_97 _) rfl ?_
  refine g_iconst (v := 0) dX4_copyFrom_39 (by decide) ?_
  refine g_bipush (v := 20) dX4_copyFrom_40 (by decide) ?_
  refine s_copy (N := 20) dX4_copyFrom_42 lm_X4_37 (sk_27 _) (sk_100 _) (by decide) (by decide) (by decide) (by decide) (by decide) ?_
  refine g_aload_n dX4_copyFrom_45 rfl rfl ?_
  refine g_aload_n dX4_copyFrom_46 rfl rfl ?_
  refine rg_X4_3 (v := (I 24 3)) dX4_copyFrom_47 lf_X4_21 (sk_24 _) (rd_cp (by decide) (rd_cp (by decide) (rd_cp (by decide) rfl))) ?_
  refine rp_X4_3 dX4_copyFrom_50 lf_X4_21 (sk_97 _) ?_
  exact g_vret rfl dX4_copyFrom_53 rfl (Nat.le_refl _) (q1)
set_option maxRecDepth 10000 in
set_option maxHeartbeats 1000000 in
theorem sn_X4_copyFrom_24_97 {l : Launch} {d : Nat} {Q : Option Value → mx_H → Prop} {c : Nat} {I : mx_I}
    (q1 : Q none (sk0 c, (mx_set (mx_copy (mx_copy (mx_copy I 98 25 20) 99 26 20) 100 27 20) 24 3 (I 97 3)))) :
    mx_Spec l mX4_copyFrom (d + 1) 0 0 [.ref 24, .ref 97] (sk0 c, I) Q := by
  refine mx_enter rfl (by simp [Value.category]) (Nat.le_of_ble_eq_true rfl) ?_
  change mx_Go l (mx_rm (d + 1) 0 0) mX4_copyFrom (mx_Z Q 0 0) 0 0 0 [.ref 24, .ref 97] [] (sk0 c, I)
  refine g_aload_n dX4_copyFrom_0 rfl rfl ?_
  refine rg_X4_0 (r := 98) dX4_copyFrom_1 lf_X4_9 (sk_97 _) rfl ?_
  refine g_iconst (v := 0) dX4_copyFrom_4 (by decide) ?_
  refine g_aload_n dX4_copyFrom_5 rfl rfl ?_
  refine rg_X4_0 (r := 25) dX4_copyFrom_6 lf_X4_9 (sk_24 _) rfl ?_
  refine g_iconst (v := 0) dX4_copyFrom_9 (by decide) ?_
  refine g_bipush (v := 20) dX4_copyFrom_10 (by decide) ?_
  refine s_copy (N := 20) dX4_copyFrom_12 lm_X4_37 (sk_98 _) (sk_25 _) (by decide) (by decide) (by decide) (by decide) (by decide) ?_
  refine g_aload_n dX4_copyFrom_15 rfl rfl ?_
  refine rg_X4_1 (r := 99) dX4_copyFrom_16 lf_X4_15 (sk_97 _) rfl ?_
  refine g_iconst (v := 0) dX4_copyFrom_19 (by decide) ?_
  refine g_aload_n dX4_copyFrom_20 rfl rfl ?_
  refine rg_X4_1 (r := 26) dX4_copyFrom_21 lf_X4_15 (sk_24 _) rfl ?_
  refine g_iconst (v := 0) dX4_copyFrom_24 (by decide) ?_
  refine g_bipush (v := 20) dX4_copyFrom_25 (by decide) ?_
  refine s_copy (N := 20) dX4_copyFrom_27 lm_X4_37 (sk_99 _) (sk_26 _) (by decide) (by decide) (by decide) (by decide) (by decide) ?_
  refine g_aload_n dX4_copyFrom_30 rfl rfl ?_
  refine rg_X4_2 (r := 100) dX4_copyFrom_31 lf_X4_18 (sk_97 _) rfl ?_
  refine g_iconst (v := 0) dX4_copyFrom_34 (by decide) ?_
  refine g_aload_n dX4_copyFrom_35 rfl rfl ?_
  refine rg_X4_2 (r := 27) dX4_copyFrom_36 lf_X4_18 (sk_24 _) rfl ?_
  refine g_iconst (v := 0) dX4_copyFrom_39 (by decide) ?_
  refine g_bipush (v := 20) dX4_copyFrom_40 (by decide) ?_
  refine s_copy (N := 20) dX4_copyFrom_42 lm_X4_37 (sk_100 _) (sk_27 _) (by decide) (by decide) (by decide) (by decide) (by decide) ?_
  refine g_aload_n dX4_copyFrom_45 rfl rfl ?_
  refine g_aload_n dX4_copyFrom_46 rfl rfl ?_
  refine rg_X4_3 (v := (I 97 3)) dX4_copyFrom_47 lf_X4_21 (sk_97 _) (rd_cp (by decide) (rd_cp (by decide) (rd_cp (by decide) rfl))) ?_
  refine rp_X4_3 dX4_copyFrom_50 lf_X4_21 (sk_24 _) ?_
  exact g_vret rfl dX4_copyFrom_53 rfl (Nat.le_refl _) (q1)
