set_option maxRecDepth 10000 in
set_option maxHeartbeats 1000000 in
theorem sn_X8_take {l : Launch} {d : Nat} {Q : Option Value → mx_H → Prop} {c : Nat} {I : mx_I} (a1 : Int32) (a2 : Int32) (a3 : Int32) (a4 : Int32) (a5 : Int32)
    (k1 : (((I 47 3) + 20) ≤ 400) → mx_K1 l mX8_takeFour d [.ref 47, .int a1] (sk0 c, I) (fun r h' => mx_Go l (mx_rm (d + 1) 0 0) mX8_take (mx_Z Q 0 0) 0 0 20 [.ref 47, .int a1, .int a2, .int a3, .int a4, .int a5] (r.toList ++ []) h'))
    (q2 : (¬ ((I 47 3) + 20) ≤ 400) → Q (some (.int (-1))) (sk0 c, I)) :
    mx_Spec l mX8_take (d + 1) 0 0 [.ref 47, .int a1, .int a2, .int a3, .int a4, .int a5] (sk0 c, I) Q := by
  refine mx_enter rfl (by simp [Value.category]) (Nat.le_of_ble_eq_true rfl) ?_
  change mx_Go l (mx_rm (d + 1) 0 0) mX8_take (mx_Z Q 0 0) 0 0 0 [.ref 47, .int a1, .int a2, .int a3, .int a4, .int a5] [] (sk0 c, I)
  refine g_aload_n dX8_take_0 rfl rfl ?_
  refine rg_X8_3 (v := (I 47 3)) dX8_take_1 lf_X8_29 (sk_47 _) rfl ?_
  refine g_bipush (v := 20) dX8_take_4 (by decide) ?_
  refine g_iadd dX8_take_6 ?_
  refine g_sipush (v := 400) dX8_take_7 (by decide) ?_
  refine g_icmp_le (tgt := 15) dX8_take_10 (by decide) (fun c1 => ?_) (fun c2 => ?_)
  · skip
    refine g_aload_n dX8_take_15 rfl rfl ?_
    refine g_iload_n dX8_take_16 rfl rfl ?_
    exact s_callV (M' := mX8_takeFour) (As := [.int a1]) (st := []) dX8_take_17 lm_X8_32 ovX8_takeFour (h := (sk0 c, I)) (sk_47 _) (show vwCl[8]? = some _ from rfl) rfl (by simp [Value.category]) (by decide) rfl (k1 c1)
  · skip
    refine g_iconst (v := (-1)) dX8_take_13 (by decide) ?_
    exact g_iret rfl dX8_take_14 rfl (Nat.le_refl _) (q2 c2)
set_option maxRecDepth 10000 in
set_option maxHeartbeats 1000000 in
theorem sg_X8_take_20 {l : Launch} {d : Nat} {Q : Option Value → mx_H → Prop} {c : Nat} {I : mx_I} (x1 : Int32) (x2 : Int32) (x3 : Int32) (x4 : Int32) (x5 : Int32)
    (k1 : mx_K1 l mX8_takeFour d [.ref 47, .int x2] (sk0 c, I) (fun r h' => mx_Go l (mx_rm (d + 1) 0 0) mX8_take (mx_Z Q 0 0) 0 0 25 [.ref 47, .int x1, .int x2, .int x3, .int x4, .int x5] (r.toList ++ []) h')) :
    mx_Go l (mx_rm (d + 1) 0 0) mX8_take (mx_Z Q 0 0) 0 0 20 [.ref 47, .int x1, .int x2, .int x3, .int x4, .int x5] [] (sk0 c, I) := by
  refine g_aload_n dX8_take_20 rfl rfl ?_
  refine g_iload_n dX8_take_21 rfl rfl ?_
  exact s_callV (M' := mX8_takeFour) (As := [.int x2]) (st := []) dX8_take_22 lm_X8_32 ovX8_takeFour (h := (sk0 c, I)) (sk_47 _) (show vwCl[8]? = some _ from rfl) rfl (by simp [Value.category]) (by decide) rfl (k1)
set_option maxRecDepth 10000 in
set_option maxHeartbeats 1000000 in
theorem sg_X8_take_25 {l : Launch} {d : Nat} {Q : Option Value → mx_H → Prop} {c : Nat} {I : mx_I} (x1 : Int32) (x2 : Int32) (x3 : Int32) (x4 : Int32) (x5 : Int32)
    (k1 : mx_K1 l mX8_takeFour d [.ref 47, .int x3] (sk0 c, I) (fun r h' => mx_Go l (mx_rm (d + 1) 0 0) mX8_take (mx_Z Q 0 0) 0 0 30 [.ref 47, .int x1, .int x2, .int x3, .int x4, .int x5] (r.toList ++ []) h')) :
    mx_Go l (mx_rm (d + 1) 0 0) mX8_take (mx_Z Q 0 0) 0 0 25 [.ref 47, .int x1, .int x2, .int x3, .int x4, .int x5] [] (sk0 c, I) := by
  refine g_aload_n dX8_take_25 rfl rfl ?_
  refine g_iload_n dX8_take_26 rfl rfl ?_
  exact s_callV (M' := mX8_takeFour) (As := [.int x3]) (st := []) dX8_take_27 lm_X8_32 ovX8_takeFour (h := (sk0 c, I)) (sk_47 _) (show vwCl[8]? = some _ from rfl) rfl (by simp [Value.category]) (by decide) rfl (k1)
set_option maxRecDepth 10000 in
set_option maxHeartbeats 1000000 in
theorem sg_X8_take_30 {l : Launch} {d : Nat} {Q : Option Value → mx_H → Prop} {c : Nat} {I : mx_I} (x1 : Int32) (x2 : Int32) (x3 : Int32) (x4 : Int32) (x5 : Int32)
    (k1 : mx_K1 l mX8_takeFour d [.ref 47, .int x4] (sk0 c, I) (fun r h' => mx_Go l (mx_rm (d + 1) 0 0) mX8_take (mx_Z Q 0 0) 0 0 36 [.ref 47, .int x1, .int x2, .int x3, .int x4, .int x5] (r.toList ++ []) h')) :
    mx_Go l (mx_rm (d + 1) 0 0) mX8_take (mx_Z Q 0 0) 0 0 30 [.ref 47, .int x1, .int x2, .int x3, .int x4, .int x5] [] (sk0 c, I) := by
  refine g_aload_n dX8_take_30 rfl rfl ?_
  refine g_iload dX8_take_31 rfl ?_
  exact s_callV (M' := mX8_takeFour) (As := [.int x4]) (st := []) dX8_take_33 lm_X8_32 ovX8_takeFour (h := (sk0 c, I)) (sk_47 _) (show vwCl[8]? = some _ from rfl) rfl (by simp [Value.category]) (by decide) rfl (k1)
set_option maxRecDepth 10000 in
set_option maxHeartbeats 1000000 in
theorem sg_X8_take_36 {l : Launch} {d : Nat} {Q : Option Value → mx_H → Prop} {c : Nat} {I : mx_I} (x1 : Int32) (x2 : Int32) (x3 : Int32) (x4 : Int32) (x5 : Int32)
    (k1 : mx_K1 l mX8_takeFour d [.ref 47, .int x5] (sk0 c, I) (fun r h' => mx_Go l (mx_rm (d + 1) 0 0) mX8_take (mx_Z Q 0 0) 0 0 42 [.ref 47, .int x1, .int x2, .int x3, .int x4, .int x5] (r.toList ++ []) h')) :
    mx_Go l (mx_rm (d + 1) 0 0) mX8_take (mx_Z Q 0 0) 0 0 36 [.ref 47, .int x1, .int x2, .int x3, .int x4, .int x5] [] (sk0 c, I) := by
  refine g_aload_n dX8_take_36 rfl rfl ?_
  refine g_iload dX8_take_37 rfl ?_
  exact s_callV (M' := mX8_takeFour) (As := [.int x5]) (st := []) dX8_take_39 lm_X8_32 ovX8_takeFour (h := (sk0 c, I)) (sk_47 _) (show vwCl[8]? = some _ from rfl) rfl (by simp [Value.category]) (by decide) rfl (k1)
set_option maxRecDepth 10000 in
set_option maxHeartbeats 1000000 in
theorem sg_X8_take_42 {l : Launch} {d : Nat} {Q : Option Value → mx_H → Prop} {c : Nat} {I : mx_I} (x1 : Int32) (x2 : Int32) (x3 : Int32) (x4 : Int32) (x5 : Int32)
    (q1 : Q (some (.int (I 47 3))) (sk0 c, I)) :
    mx_Go l (mx_rm (d + 1) 0 0) mX8_take (mx_Z Q 0 0) 0 0 42 [.ref 47, .int x1, .int x2, .int x3, .int x4, .int x5] [] (sk0 c, I) := by
  refine g_aload_n dX8_take_42 rfl rfl ?_
  refine rg_X8_3 (v := (I 47 3)) dX8_take_43 lf_X8_29 (sk_47 _) rfl ?_
  exact g_iret rfl dX8_take_46 rfl (Nat.le_refl _) (q1)
set_option maxRecDepth 10000 in
set_option maxHeartbeats 1000000 in
theorem sn_X8_takeFour {l : Launch} {d : Nat} {Q : Option Value → mx_H → Prop} {c : Nat} {I : mx_I} (a1 : Int32)
    (e1 : mx_Go l (mx_rm (d + 1) 0 0) mX8_takeFour (mx_Z Q 0 0) 0 0 3 [.ref 47, .int a1, .int 24] [] (sk0 c, I)) :
    mx_Spec l mX8_takeFour (d + 1) 0 0 [.ref 47, .int a1] (sk0 c, I) Q := by
  refine mx_enter rfl (by simp [Value.category]) (Nat.le_of_ble_eq_true rfl) ?_
  change mx_Go l (mx_rm (d + 1) 0 0) mX8_takeFour (mx_Z Q 0 0) 0 0 0 [.ref 47, .int a1, .retAddr 0] [] (sk0 c, I)
  refine g_bipush (v := 24) dX8_takeFour_0 (by decide) ?_
  refine s_istore_n (L' := [.ref 47, .int a1, .int 24]) dX8_takeFour_2 rfl (by decide) rfl rfl ?_
  exact e1
set_option maxRecDepth 10000 in
set_option maxHeartbeats 1000000 in
theorem sg_X8_takeFour_3 {l : Launch} {d : Nat} {Q : Option Value → mx_H → Prop} {c : Nat} {I : mx_I} (x1 : Int32) (x2 : Int32)
    (q1 : (x2 < 0) → Q none (sk0 c, I))
    (e2 : (¬ x2 < 0) → (400 ≤ (I 47 3)) → mx_Go l (mx_rm (d + 1) 0 0) mX8_takeFour (mx_Z Q 0 0) 0 0 3 [.ref 47, .int x1, .int (x2 + (-8))] [] (sk0 c, I))
    (b3 : (¬ x2 < 0) → (¬ 400 ≤ (I 47 3)) → vp_in (I 47 3) 400)
    (e4 : (¬ x2 < 0) → (¬ 400 ≤ (I 47 3)) → mx_Go l (mx_rm (d + 1) 0 0) mX8_takeFour (mx_Z Q 0 0) 0 0 3 [.ref 47, .int x1, .int (x2 + (-8))] [] (sk0 c, (mx_set (mx_set I 48 (I 47 3).toNatClampNeg ((((x1).toUInt32 >>> ((x2).toUInt32 &&& Int32.toUInt32 31)).toInt32) &&& 255)) 47 3 ((I 47 3) + 1)))) :
    mx_Go l (mx_rm (d + 1) 0 0) mX8_takeFour (mx_Z Q 0 0) 0 0 3 [.ref 47, .int x1, .int x2] [] (sk0 c, I) := by
  refine g_iload_n dX8_takeFour_3 rfl rfl ?_
  refine g_if_lt (tgt := 49) dX8_takeFour_4 (by decide) (fun c1 => ?_) (fun c2 => ?_)
  · skip
    exact g_vret rfl dX8_takeFour_49 rfl (Nat.le_refl _) (q1 c1)
  · skip
    refine g_aload_n dX8_takeFour_7 rfl rfl ?_
    refine rg_X8_3 (v := (I 47 3)) dX8_takeFour_8 lf_X8_29 (sk_47 _) rfl ?_
    refine g_sipush (v := 400) dX8_takeFour_11 (by decide) ?_
    refine g_icmp_ge (tgt := 43) dX8_takeFour_14 (by decide) (fun c3 => ?_) (fun c4 => ?_)
    · skip
      refine s_iinc (v := (x2 + (-8))) (L' := [.ref 47, .int x1, .int (x2 + (-8))]) dX8_takeFour_43 rfl (by decide) rfl rfl rfl ?_
      refine g_goto (tgt := 3) dX8_takeFour_46 (by decide) ?_
      exact e2 c2 c3
    · skip
      refine g_aload_n dX8_takeFour_17 rfl rfl ?_
      refine rg_X8_0 (r := 48) dX8_takeFour_18 lf_X8_9 (sk_47 _) rfl ?_
      refine g_aload_n dX8_takeFour_21 rfl rfl ?_
      refine rg_X8_3 (v := (I 47 3)) dX8_takeFour_22 lf_X8_29 (sk_47 _) rfl ?_
      refine g_iload_n dX8_takeFour_25 rfl rfl ?_
      refine g_iload_n dX8_takeFour_26 rfl rfl ?_
      refine g_iushr dX8_takeFour_27 ?_
      refine g_sipush (v := 255) dX8_takeFour_28 (by decide) ?_
      refine g_iand dX8_takeFour_31 ?_
      refine s_iast (j := (I 47 3).toNatClampNeg) dX8_takeFour_32 (sk_48 _) (b3 c2 c4) rfl ?_
      refine g_aload_n dX8_takeFour_33 rfl rfl ?_
      refine g_dup dX8_takeFour_34 rfl ?_
      refine rg_X8_3 (v := (I 47 3)) dX8_takeFour_35 lf_X8_29 (sk_47 _) (rd_ne (by decide) rfl) ?_
      refine g_iconst (v := 1) dX8_takeFour_38 (by decide) ?_
      refine g_iadd dX8_takeFour_39 ?_
      refine rp_X8_3 dX8_takeFour_40 lf_X8_29 (sk_47 _) ?_
      refine s_iinc (v := (x2 + (-8))) (L' := [.ref 47, .int x1, .int (x2 + (-8))]) dX8_takeFour_43 rfl (by decide) rfl rfl rfl ?_
      refine g_goto (tgt := 3) dX8_takeFour_46 (by decide) ?_
      exact e4 c2 c4
set_option maxRecDepth 10000 in
set_option maxHeartbeats 1000000 in
theorem sn_X8_cut {l : Launch} {d : Nat} {Q : Option Value → mx_H → Prop} {c : Nat} {I : mx_I} (a1 : Int32)
    (q1 : (a1 < 0) → Q (some (.int 0)) (sk0 c, I))
    (q2 : (¬ a1 < 0) → (a1 ≤ (I 47 3)) → Q (some (.int 1)) (sk0 c, (mx_set I 47 3 a1)))
    (q3 : (¬ a1 < 0) → (¬ a1 ≤ (I 47 3)) → Q (some (.int 0)) (sk0 c, I)) :
    mx_Spec l mX8_cut (d + 1) 0 0 [.ref 47, .int a1] (sk0 c, I) Q := by
  refine mx_enter rfl (by simp [Value.category]) (Nat.le_of_ble_eq_true rfl) ?_
  change mx_Go l (mx_rm (d + 1) 0 0) mX8_cut (mx_Z Q 0 0) 0 0 0 [.ref 47, .int a1] [] (sk0 c, I)
  refine g_iload_n dX8_cut_0 rfl rfl ?_
  refine g_if_lt (tgt := 12) dX8_cut_1 (by decide) (fun c1 => ?_) (fun c2 => ?_)
  · skip
    refine g_iconst (v := 0) dX8_cut_12 (by decide) ?_
    exact g_zret (ty := .boolean) rfl rfl dX8_cut_13 rfl (Nat.le_refl _) (q1 c1)
  · skip
    refine g_iload_n dX8_cut_4 rfl rfl ?_
    refine g_aload_n dX8_cut_5 rfl rfl ?_
    refine rg_X8_3 (v := (I 47 3)) dX8_cut_6 lf_X8_29 (sk_47 _) rfl ?_
    refine g_icmp_le (tgt := 14) dX8_cut_9 (by decide) (fun c3 => ?_) (fun c4 => ?_)
    · skip
      refine g_aload_n dX8_cut_14 rfl rfl ?_
      refine g_iload_n dX8_cut_15 rfl rfl ?_
      refine rp_X8_3 dX8_cut_16 lf_X8_29 (sk_47 _) ?_
      refine g_iconst (v := 1) dX8_cut_19 (by decide) ?_
      exact g_zret (ty := .boolean) rfl rfl dX8_cut_20 rfl (Nat.le_refl _) (q2 c2 c3)
    · skip
      refine g_iconst (v := 0) dX8_cut_12 (by decide) ?_
      exact g_zret (ty := .boolean) rfl rfl dX8_cut_13 rfl (Nat.le_refl _) (q3 c2 c4)
set_option maxRecDepth 10000 in
set_option maxHeartbeats 1000000 in
theorem sn_X8_readLaw {l : Launch} {d : Nat} {Q : Option Value → mx_H → Prop} {c : Nat} {I : mx_I}
    (k1 : mx_K1 l mX3_clear d [.ref 49] (sk0 c, I) (fun r h' => mx_Go l (mx_rm (d + 1) 0 0) mX8_readLaw (mx_Z Q 0 0) 0 0 7 [.ref 47, .retAddr 0] (r.toList ++ []) h')) :
    mx_Spec l mX8_readLaw (d + 1) 0 0 [.ref 47] (sk0 c, I) Q := by
  refine mx_enter rfl (by simp [Value.category]) (Nat.le_of_ble_eq_true rfl) ?_
  change mx_Go l (mx_rm (d + 1) 0 0) mX8_readLaw (mx_Z Q 0 0) 0 0 0 [.ref 47, .retAddr 0] [] (sk0 c, I)
  refine g_aload_n dX8_readLaw_0 rfl rfl ?_
  refine rg_X8_1 (r := 49) dX8_readLaw_1 lf_X8_18 (sk_47 _) rfl ?_
  exact s_callV (M' := mX3_clear) (As := []) (st := []) dX8_readLaw_4 lm_X8_36 ovX3_clear (h := (sk0 c, I)) (sk_49 _) (show vwCl[3]? = some _ from rfl) rfl (by simp [Value.category]) (by decide) rfl (k1)
set_option maxRecDepth 10000 in
set_option maxHeartbeats 1000000 in
theorem sg_X8_readLaw_7 {l : Launch} {d : Nat} {Q : Option Value → mx_H → Prop} {c : Nat} {I : mx_I}
    (e1 : mx_Go l (mx_rm (d + 1) 0 0) mX8_readLaw (mx_Z Q 0 0) 0 0 29 [.ref 47, .int 0] [] (sk0 c, (mx_set (mx_set (mx_set (mx_set I 47 4 0) 47 5 (-1)) 47 11 0) 47 9 0))) :
    mx_Go l (mx_rm (d + 1) 0 0) mX8_readLaw (mx_Z Q 0 0) 0 0 7 [.ref 47, .retAddr 0] [] (sk0 c, I) := by
  refine g_aload_n dX8_readLaw_7 rfl rfl ?_
  refine g_iconst (v := 0) dX8_readLaw_8 (by decide) ?_
  refine rp_X8_4 dX8_readLaw_9 lf_X8_39 (sk_47 _) ?_
  refine g_aload_n dX8_readLaw_12 rfl rfl ?_
  refine g_iconst (v := (-1)) dX8_readLaw_13 (by decide) ?_
  refine rp_X8_5 dX8_readLaw_14 lf_X8_25 (sk_47 _) ?_
  refine g_aload_n dX8_readLaw_17 rfl rfl ?_
  refine g_iconst (v := 0) dX8_readLaw_18 (by decide) ?_
  refine rp_X8_11 dX8_readLaw_19 lf_X8_42 (sk_47 _) ?_
  refine g_aload_n dX8_readLaw_22 rfl rfl ?_
  refine g_iconst (v := 0) dX8_readLaw_23 (by decide) ?_
  refine rp_X8_9 dX8_readLaw_24 lf_X8_45 (sk_47 _) ?_
  refine g_iconst (v := 0) dX8_readLaw_27 (by decide) ?_
  refine s_istore_n (L' := [.ref 47, .int 0]) dX8_readLaw_28 rfl (by decide) rfl rfl ?_
  exact e1
set_option maxRecDepth 10000 in
set_option maxHeartbeats 1000000 in
theorem sg_X8_readLaw_29 {l : Launch} {d : Nat} {Q : Option Value → mx_H → Prop} {c : Nat} {I : mx_I} (x1 : Int32)
    (q1 : (400 < x1) → Q none (sk0 c, (mx_set I 47 3 0)))
    (q2 : (¬ 400 < x1) → ((I 47 9) = 8) → Q none (sk0 c, (mx_set I 47 3 0)))
    (k3 : (¬ 400 < x1) → (¬ (I 47 9) = 8) → mx_K1 l mX8_nextToken d [.ref 47] (sk0 c, I) (fun r h' => mx_Go l (mx_rm (d + 1) 0 0) mX8_readLaw (mx_Z Q 0 0) 0 0 49 [.ref 47, .int x1] (r.toList ++ []) h')) :
    mx_Go l (mx_rm (d + 1) 0 0) mX8_readLaw (mx_Z Q 0 0) 0 0 29 [.ref 47, .int x1] [] (sk0 c, I) := by
  refine g_iload_n dX8_readLaw_29 rfl rfl ?_
  refine g_sipush (v := 400) dX8_readLaw_30 (by decide) ?_
  refine g_icmp_gt (tgt := 59) dX8_readLaw_33 (by decide) (fun c1 => ?_) (fun c2 => ?_)
  · skip
    refine g_aload_n dX8_readLaw_59 rfl rfl ?_
    refine g_iconst (v := 0) dX8_readLaw_60 (by decide) ?_
    refine rp_X8_3 dX8_readLaw_61 lf_X8_29 (sk_47 _) ?_
    exact g_vret rfl dX8_readLaw_64 rfl (Nat.le_refl _) (q1 c1)
  · skip
    refine g_aload_n dX8_readLaw_36 rfl rfl ?_
    refine rg_X8_9 (v := (I 47 9)) dX8_readLaw_37 lf_X8_45 (sk_47 _) rfl ?_
    refine g_bipush (v := 8) dX8_readLaw_40 (by decide) ?_
    refine g_icmp_eq (tgt := 59) dX8_readLaw_42 (by decide) (fun c3 => ?_) (fun c4 => ?_)
    · skip
      refine g_aload_n dX8_readLaw_59 rfl rfl ?_
      refine g_iconst (v := 0) dX8_readLaw_60 (by decide) ?_
      refine rp_X8_3 dX8_readLaw_61 lf_X8_29 (sk_47 _) ?_
      exact g_vret rfl dX8_readLaw_64 rfl (Nat.le_refl _) (q2 c2 c3)
    · skip
      refine g_aload_n dX8_readLaw_45 rfl rfl ?_
      exact s_callV (M' := mX8_nextToken) (As := []) (st := []) dX8_readLaw_46 lm_X8_48 ovX8_nextToken (h := (sk0 c, I)) (sk_47 _) (show vwCl[8]? = some _ from rfl) rfl (by simp [Value.category]) (by decide) rfl (k3 c2 c4)
set_option maxRecDepth 10000 in
set_option maxHeartbeats 1000000 in
theorem sg_X8_readLaw_49 {l : Launch} {d : Nat} {Q : Option Value → mx_H → Prop} {c : Nat} {I : mx_I} (x1 : Int32)
    (k1 : mx_K1 l mX8_step d [.ref 47] (sk0 c, I) (fun r h' => mx_Go l (mx_rm (d + 1) 0 0) mX8_readLaw (mx_Z Q 0 0) 0 0 53 [.ref 47, .int x1] (r.toList ++ []) h')) :
    mx_Go l (mx_rm (d + 1) 0 0) mX8_readLaw (mx_Z Q 0 0) 0 0 49 [.ref 47, .int x1] [] (sk0 c, I) := by
  refine g_aload_n dX8_readLaw_49 rfl rfl ?_
  exact s_callV (M' := mX8_step) (As := []) (st := []) dX8_readLaw_50 lm_X8_51 ovX8_step (h := (sk0 c, I)) (sk_47 _) (show vwCl[8]? = some _ from rfl) rfl (by simp [Value.category]) (by decide) rfl (k1)
set_option maxRecDepth 10000 in
set_option maxHeartbeats 1000000 in
theorem sg_X8_readLaw_53 {l : Launch} {d : Nat} {Q : Option Value → mx_H → Prop} {c : Nat} {I : mx_I} (x1 : Int32)
    (e1 : mx_Go l (mx_rm (d + 1) 0 0) mX8_readLaw (mx_Z Q 0 0) 0 0 29 [.ref 47, .int (x1 + 1)] [] (sk0 c, I)) :
    mx_Go l (mx_rm (d + 1) 0 0) mX8_readLaw (mx_Z Q 0 0) 0 0 53 [.ref 47, .int x1] [] (sk0 c, I) := by
  refine s_iinc (v := (x1 + 1)) (L' := [.ref 47, .int (x1 + 1)]) dX8_readLaw_53 rfl (by decide) rfl rfl rfl ?_
  refine g_goto (tgt := 29) dX8_readLaw_56 (by decide) ?_
  exact e1
set_option maxRecDepth 10000 in
set_option maxHeartbeats 1000000 in
theorem sn_X8_fail {l : Launch} {d : Nat} {Q : Option Value → mx_H → Prop} {c : Nat} {I : mx_I} (a1 : Int32)
    (q1 : Q none (sk0 c, (mx_set (mx_set (mx_set I 47 4 a1) 47 5 (I 47 13)) 47 9 8))) :
    mx_Spec l mX8_fail (d + 1) 0 0 [.ref 47, .int a1] (sk0 c, I) Q := by
  refine mx_enter rfl (by simp [Value.category]) (Nat.le_of_ble_eq_true rfl) ?_
  change mx_Go l (mx_rm (d + 1) 0 0) mX8_fail (mx_Z Q 0 0) 0 0 0 [.ref 47, .int a1] [] (sk0 c, I)
  refine g_aload_n dX8_fail_0 rfl rfl ?_
  refine g_iload_n dX8_fail_1 rfl rfl ?_
  refine rp_X8_4 dX8_fail_2 lf_X8_39 (sk_47 _) ?_
  refine g_aload_n dX8_fail_5 rfl rfl ?_
  refine g_aload_n dX8_fail_6 rfl rfl ?_
  refine rg_X8_13 (v := (I 47 13)) dX8_fail_7 lf_X8_54 (sk_47 _) (rd_sl (by decide) rfl) ?_
  refine rp_X8_5 dX8_fail_10 lf_X8_25 (sk_47 _) ?_
  refine g_aload_n dX8_fail_13 rfl rfl ?_
  refine g_bipush (v := 8) dX8_fail_14 (by decide) ?_
  refine rp_X8_9 dX8_fail_16 lf_X8_45 (sk_47 _) ?_
  exact g_vret rfl dX8_fail_19 rfl (Nat.le_refl _) (q1)
set_option maxRecDepth 10000 in
set_option maxHeartbeats 1000000 in
theorem sn_X8_step {l : Launch} {d : Nat} {Q : Option Value → mx_H → Prop} {c : Nat} {I : mx_I}
    (k1 : ((I 47 9) = 0) → mx_K1 l mX8_stepLine d [.ref 47] (sk0 c, I) (fun r h' => mx_Go l (mx_rm (d + 1) 0 0) mX8_step (mx_Z Q 0 0) 0 0 52 [.ref 47] (r.toList ++ []) h'))
    (k2 : ((I 47 9) = 1) → mx_K1 l mX8_stepHead d [.ref 47] (sk0 c, I) (fun r h' => mx_Go l (mx_rm (d + 1) 0 0) mX8_step (mx_Z Q 0 0) 0 0 59 [.ref 47] (r.toList ++ []) h'))
    (k3 : ((I 47 9) = 2) → mx_K1 l mX8_stepCondition d [.ref 47] (sk0 c, I) (fun r h' => mx_Go l (mx_rm (d + 1) 0 0) mX8_step (mx_Z Q 0 0) 0 0 66 [.ref 47] (r.toList ++ []) h'))
    (k4 : ((I 47 9) = 3) → mx_K1 l mX8_stepUnit d [.ref 47] (sk0 c, I) (fun r h' => mx_Go l (mx_rm (d + 1) 0 0) mX8_step (mx_Z Q 0 0) 0 0 73 [.ref 47] (r.toList ++ []) h'))
    (k5 : ((I 47 9) = 4) → mx_K1 l mX8_stepDivisor d [.ref 47] (sk0 c, I) (fun r h' => mx_Go l (mx_rm (d + 1) 0 0) mX8_step (mx_Z Q 0 0) 0 0 80 [.ref 47] (r.toList ++ []) h'))
    (k6 : ((I 47 9) = 5) → mx_K1 l mX8_stepLeft d [.ref 47] (sk0 c, I) (fun r h' => mx_Go l (mx_rm (d + 1) 0 0) mX8_step (mx_Z Q 0 0) 0 0 87 [.ref 47] (r.toList ++ []) h'))
    (k7 : ((I 47 9) = 6) → mx_K1 l mX8_stepRight d [.ref 47] (sk0 c, I) (fun r h' => mx_Go l (mx_rm (d + 1) 0 0) mX8_step (mx_Z Q 0 0) 0 0 94 [.ref 47] (r.toList ++ []) h'))
    (k8 : (¬ (I 47 9) = 0) → (¬ (I 47 9) = 1) → (¬ (I 47 9) = 2) → (¬ (I 47 9) = 3) → (¬ (I 47 9) = 4) → (¬ (I 47 9) = 5) → (¬ (I 47 9) = 6) → mx_K1 l mX8_stepClosed d [.ref 47] (sk0 c, I) (fun r h' => mx_Go l (mx_rm (d + 1) 0 0) mX8_step (mx_Z Q 0 0) 0 0 101 [.ref 47] (r.toList ++ []) h')) :
    mx_Spec l mX8_step (d + 1) 0 0 [.ref 47] (sk0 c, I) Q := by
  refine mx_enter rfl (by simp [Value.category]) (Nat.le_of_ble_eq_true rfl) ?_
  change mx_Go l (mx_rm (d + 1) 0 0) mX8_step (mx_Z Q 0 0) 0 0 0 [.ref 47] [] (sk0 c, I)
  refine g_aload_n dX8_step_0 rfl rfl ?_
  refine rg_X8_9 (v := (I 47 9)) dX8_step_1 lf_X8_45 (sk_47 _) rfl ?_
  rcases Decidable.em ((I 47 9) = 0) with c1 | c2
  · skip
    refine g_tableIn (off := 44) (tgt := 48) dX8_step_4 (by rw [c1]; decide) (by rw [c1]; decide) (by rw [c1]; rfl) (by decide) ?_
    refine g_aload_n dX8_step_48 rfl rfl ?_
    exact s_callV (M' := mX8_stepLine) (As := []) (st := []) dX8_step_49 lm_X8_57 ovX8_stepLine (h := (sk0 c, I)) (sk_47 _) (show vwCl[8]? = some _ from rfl) rfl (by simp [Value.category]) (by decide) rfl (k1 c1)
  · skip
    rcases Decidable.em ((I 47 9) = 1) with c3 | c4
    · skip
      refine g_tableIn (off := 51) (tgt := 55) dX8_step_4 (by rw [c3]; decide) (by rw [c3]; decide) (by rw [c3]; rfl) (by decide) ?_
      refine g_aload_n dX8_step_55 rfl rfl ?_
      exact s_callV (M' := mX8_stepHead) (As := []) (st := []) dX8_step_56 lm_X8_60 ovX8_stepHead (h := (sk0 c, I)) (sk_47 _) (show vwCl[8]? = some _ from rfl) rfl (by simp [Value.category]) (by decide) rfl (k2 c3)
    · skip
      rcases Decidable.em ((I 47 9) = 2) with c5 | c6
      · skip
        refine g_tableIn (off := 58) (tgt := 62) dX8_step_4 (by rw [c5]; decide) (by rw [c5]; decide) (by rw [c5]; rfl) (by decide) ?_
        refine g_aload_n dX8_step_62 rfl rfl ?_
        exact s_callV (M' := mX8_stepCondition) (As := []) (st := []) dX8_step_63 lm_X8_63 ovX8_stepCondition (h := (sk0 c, I)) (sk_47 _) (show vwCl[8]? = some _ from rfl) rfl (by simp [Value.category]) (by decide) rfl (k3 c5)
      · skip
        rcases Decidable.em ((I 47 9) = 3) with c7 | c8
        · skip
          refine g_tableIn (off := 65) (tgt := 69) dX8_step_4 (by rw [c7]; decide) (by rw [c7]; decide) (by rw [c7]; rfl) (by decide) ?_
          refine g_aload_n dX8_step_69 rfl rfl ?_
          exact s_callV (M' := mX8_stepUnit) (As := []) (st := []) dX8_step_70 lm_X8_66 ovX8_stepUnit (h := (sk0 c, I)) (sk_47 _) (show vwCl[8]? = some _ from rfl) rfl (by simp [Value.category]) (by decide) rfl (k4 c7)
        · skip
          rcases Decidable.em ((I 47 9) = 4) with c9 | c10
          · skip
            refine g_tableIn (off := 72) (tgt := 76) dX8_step_4 (by rw [c9]; decide) (by rw [c9]; decide) (by rw [c9]; rfl) (by decide) ?_
            refine g_aload_n dX8_step_76 rfl rfl ?_
            exact s_callV (M' := mX8_stepDivisor) (As := []) (st := []) dX8_step_77 lm_X8_69 ovX8_stepDivisor (h := (sk0 c, I)) (sk_47 _) (show vwCl[8]? = some _ from rfl) rfl (by simp [Value.category]) (by decide) rfl (k5 c9)
          · skip
            rcases Decidable.em ((I 47 9) = 5) with c11 | c12
            · skip
              refine g_tableIn (off := 79) (tgt := 83) dX8_step_4 (by rw [c11]; decide) (by rw [c11]; decide) (by rw [c11]; rfl) (by decide) ?_
              refine g_aload_n dX8_step_83 rfl rfl ?_
              exact s_callV (M' := mX8_stepLeft) (As := []) (st := []) dX8_step_84 lm_X8_72 ovX8_stepLeft (h := (sk0 c, I)) (sk_47 _) (show vwCl[8]? = some _ from rfl) rfl (by simp [Value.category]) (by decide) rfl (k6 c11)
            · skip
              rcases Decidable.em ((I 47 9) = 6) with c13 | c14
              · skip
                refine g_tableIn (off := 86) (tgt := 90) dX8_step_4 (by rw [c13]; decide) (by rw [c13]; decide) (by rw [c13]; rfl) (by decide) ?_
                refine g_aload_n dX8_step_90 rfl rfl ?_
                exact s_callV (M' := mX8_stepRight) (As := []) (st := []) dX8_step_91 lm_X8_75 ovX8_stepRight (h := (sk0 c, I)) (sk_47 _) (show vwCl[8]? = some _ from rfl) rfl (by simp [Value.category]) (by decide) rfl (k7 c13)
              · skip
                refine g_tableOut (tgt := 97) dX8_step_4 (by have q2 := mx_i32 (n := 0) (by decide) c2; have q4 := mx_i32 (n := 1) (by decide) c4; have q6 := mx_i32 (n := 2) (by decide) c6; have q8 := mx_i32 (n := 3) (by decide) c8; have q10 := mx_i32 (n := 4) (by decide) c10; have q12 := mx_i32 (n := 5) (by decide) c12; have q14 := mx_i32 (n := 6) (by decide) c14; omega) (by decide) ?_
                refine g_aload_n dX8_step_97 rfl rfl ?_
                exact s_callV (M' := mX8_stepClosed) (As := []) (st := []) dX8_step_98 lm_X8_78 ovX8_stepClosed (h := (sk0 c, I)) (sk_47 _) (show vwCl[8]? = some _ from rfl) rfl (by simp [Value.category]) (by decide) rfl (k8 c2 c4 c6 c8 c10 c12 c14)
set_option maxRecDepth 10000 in
set_option maxHeartbeats 1000000 in
theorem sg_X8_step_52 {l : Launch} {d : Nat} {Q : Option Value → mx_H → Prop} {c : Nat} {I : mx_I}
    (q1 : Q none (sk0 c, I)) :
    mx_Go l (mx_rm (d + 1) 0 0) mX8_step (mx_Z Q 0 0) 0 0 52 [.ref 47] [] (sk0 c, I) := by
  refine g_goto (tgt := 101) dX8_step_52 (by decide) ?_
  exact g_vret rfl dX8_step_101 rfl (Nat.le_refl _) (q1)
set_option maxRecDepth 10000 in
set_option maxHeartbeats 1000000 in
theorem sg_X8_step_59 {l : Launch} {d : Nat} {Q : Option Value → mx_H → Prop} {c : Nat} {I : mx_I}
    (q1 : Q none (sk0 c, I)) :
    mx_Go l (mx_rm (d + 1) 0 0) mX8_step (mx_Z Q 0 0) 0 0 59 [.ref 47] [] (sk0 c, I) := by
  refine g_goto (tgt := 101) dX8_step_59 (by decide) ?_
  exact g_vret rfl dX8_step_101 rfl (Nat.le_refl _) (q1)
set_option maxRecDepth 10000 in
set_option maxHeartbeats 1000000 in
theorem sg_X8_step_66 {l : Launch} {d : Nat} {Q : Option Value → mx_H → Prop} {c : Nat} {I : mx_I}
    (q1 : Q none (sk0 c, I)) :
    mx_Go l (mx_rm (d + 1) 0 0) mX8_step (mx_Z Q 0 0) 0 0 66 [.ref 47] [] (sk0 c, I) := by
  refine g_goto (tgt := 101) dX8_step_66 (by decide) ?_
  exact g_vret rfl dX8_step_101 rfl (Nat.le_refl _) (q1)
set_option maxRecDepth 10000 in
set_option maxHeartbeats 1000000 in
theorem sg_X8_step_73 {l : Launch} {d : Nat} {Q : Option Value → mx_H → Prop} {c : Nat} {I : mx_I}
    (q1 : Q none (sk0 c, I)) :
    mx_Go l (mx_rm (d + 1) 0 0) mX8_step (mx_Z Q 0 0) 0 0 73 [.ref 47] [] (sk0 c, I) := by
  refine g_goto (tgt := 101) dX8_step_73 (by decide) ?_
  exact g_vret rfl dX8_step_101 rfl (Nat.le_refl _) (q1)
set_option maxRecDepth 10000 in
set_option maxHeartbeats 1000000 in
theorem sg_X8_step_80 {l : Launch} {d : Nat} {Q : Option Value → mx_H → Prop} {c : Nat} {I : mx_I}
    (q1 : Q none (sk0 c, I)) :
    mx_Go l (mx_rm (d + 1) 0 0) mX8_step (mx_Z Q 0 0) 0 0 80 [.ref 47] [] (sk0 c, I) := by
  refine g_goto (tgt := 101) dX8_step_80 (by decide) ?_
  exact g_vret rfl dX8_step_101 rfl (Nat.le_refl _) (q1)
set_option maxRecDepth 10000 in
set_option maxHeartbeats 1000000 in
theorem sg_X8_step_87 {l : Launch} {d : Nat} {Q : Option Value → mx_H → Prop} {c : Nat} {I : mx_I}
    (q1 : Q none (sk0 c, I)) :
    mx_Go l (mx_rm (d + 1) 0 0) mX8_step (mx_Z Q 0 0) 0 0 87 [.ref 47] [] (sk0 c, I) := by
  refine g_goto (tgt := 101) dX8_step_87 (by decide) ?_
  exact g_vret rfl dX8_step_101 rfl (Nat.le_refl _) (q1)
set_option maxRecDepth 10000 in
set_option maxHeartbeats 1000000 in
theorem sg_X8_step_94 {l : Launch} {d : Nat} {Q : Option Value → mx_H → Prop} {c : Nat} {I : mx_I}
    (q1 : Q none (sk0 c, I)) :
    mx_Go l (mx_rm (d + 1) 0 0) mX8_step (mx_Z Q 0 0) 0 0 94 [.ref 47] [] (sk0 c, I) := by
  refine g_goto (tgt := 101) dX8_step_94 (by decide) ?_
  exact g_vret rfl dX8_step_101 rfl (Nat.le_refl _) (q1)
set_option maxRecDepth 10000 in
set_option maxHeartbeats 1000000 in
theorem sg_X8_step_101 {l : Launch} {d : Nat} {Q : Option Value → mx_H → Prop} {c : Nat} {I : mx_I}
    (q1 : Q none (sk0 c, I)) :
    mx_Go l (mx_rm (d + 1) 0 0) mX8_step (mx_Z Q 0 0) 0 0 101 [.ref 47] [] (sk0 c, I) := by
  exact g_vret rfl dX8_step_101 rfl (Nat.le_refl _) (q1)
set_option maxRecDepth 10000 in
set_option maxHeartbeats 1000000 in
theorem sn_X8_stepLine {l : Launch} {d : Nat} {Q : Option Value → mx_H → Prop} {c : Nat} {I : mx_I}
    (k1 : (¬ (I 47 12) = 0) → ((I 47 12) = 2) → (¬ (I 47 12) = 2) → mx_K1 l mX3_beginLine d [.ref 49, .int 0] (sk0 c, I) (fun r h' => mx_Go l (mx_rm (d + 1) 0 0) mX8_stepLine (mx_Z Q 0 0) 0 0 60 [.ref 47] (r.toList ++ []) h'))
    (k2 : (¬ (I 47 12) = 0) → ((I 47 12) = 2) → ((I 47 12) = 2) → mx_K1 l mX3_beginLine d [.ref 49, .int 1] (sk0 c, I) (fun r h' => mx_Go l (mx_rm (d + 1) 0 0) mX8_stepLine (mx_Z Q 0 0) 0 0 60 [.ref 47] (r.toList ++ []) h'))
    (k3 : (¬ (I 47 12) = 0) → (¬ (I 47 12) = 2) → ((I 47 12) = 3) → (¬ (I 47 12) = 2) → mx_K1 l mX3_beginLine d [.ref 49, .int 0] (sk0 c, I) (fun r h' => mx_Go l (mx_rm (d + 1) 0 0) mX8_stepLine (mx_Z Q 0 0) 0 0 60 [.ref 47] (r.toList ++ []) h'))
    (k4 : (¬ (I 47 12) = 0) → (¬ (I 47 12) = 2) → ((I 47 12) = 3) → ((I 47 12) = 2) → mx_K1 l mX3_beginLine d [.ref 49, .int 1] (sk0 c, I) (fun r h' => mx_Go l (mx_rm (d + 1) 0 0) mX8_stepLine (mx_Z Q 0 0) 0 0 60 [.ref 47] (r.toList ++ []) h'))
    (k5 : (¬ (I 47 12) = 0) → (¬ (I 47 12) = 2) → (¬ (I 47 12) = 3) → mx_K1 l mX8_fail d [.ref 47, .int 1] (sk0 c, I) (fun r h' => mx_Go l (mx_rm (d + 1) 0 0) mX8_stepLine (mx_Z Q 0 0) 0 0 37 [.ref 47] (r.toList ++ []) h'))
    (q6 : ((I 47 12) = 0) → Q none (sk0 c, (mx_set I 47 9 8))) :
    mx_Spec l mX8_stepLine (d + 1) 0 0 [.ref 47] (sk0 c, I) Q := by
  refine mx_enter rfl (by simp [Value.category]) (Nat.le_of_ble_eq_true rfl) ?_
  change mx_Go l (mx_rm (d + 1) 0 0) mX8_stepLine (mx_Z Q 0 0) 0 0 0 [.ref 47] [] (sk0 c, I)
  refine g_aload_n dX8_stepLine_0 rfl rfl ?_
  refine rg_X8_12 (v := (I 47 12)) dX8_stepLine_1 lf_X8_81 (sk_47 _) rfl ?_
  refine g_if_ne (tgt := 16) dX8_stepLine_4 (by decide) (fun c1 => ?_) (fun c2 => ?_)
  · skip
    refine g_aload_n dX8_stepLine_16 rfl rfl ?_
    refine rg_X8_12 (v := (I 47 12)) dX8_stepLine_17 lf_X8_81 (sk_47 _) rfl ?_
    refine g_iconst (v := 2) dX8_stepLine_20 (by decide) ?_
    refine g_icmp_eq (tgt := 40) dX8_stepLine_21 (by decide) (fun c3 => ?_) (fun c4 => ?_)
    · skip
      refine g_aload_n dX8_stepLine_40 rfl rfl ?_
      refine rg_X8_1 (r := 49) dX8_stepLine_41 lf_X8_18 (sk_47 _) rfl ?_
      refine g_aload_n dX8_stepLine_44 rfl rfl ?_
      refine rg_X8_12 (v := (I 47 12)) dX8_stepLine_45 lf_X8_81 (sk_47 _) rfl ?_
      refine g_iconst (v := 2) dX8_stepLine_48 (by decide) ?_
      refine g_icmp_ne (tgt := 56) dX8_stepLine_49 (by decide) (fun c5 => ?_) (fun c6 => ?_)
      · skip
        refine g_iconst (v := 0) dX8_stepLine_56 (by decide) ?_
        exact s_callV (M' := mX3_beginLine) (As := [.int 0]) (st := []) dX8_stepLine_57 lm_X8_87 ovX3_beginLine (h := (sk0 c, I)) (sk_49 _) (show vwCl[3]? = some _ from rfl) rfl (by simp [Value.category]) (by decide) rfl (k1 c1 c3 c5)
      · skip
        refine g_iconst (v := 1) dX8_stepLine_52 (by decide) ?_
        refine g_goto (tgt := 57) dX8_stepLine_53 (by decide) ?_
        exact s_callV (M' := mX3_beginLine) (As := [.int 1]) (st := []) dX8_stepLine_57 lm_X8_87 ovX3_beginLine (h := (sk0 c, I)) (sk_49 _) (show vwCl[3]? = some _ from rfl) rfl (by simp [Value.category]) (by decide) rfl (k2 c1 c3 c6)
    · skip
      refine g_aload_n dX8_stepLine_24 rfl rfl ?_
      refine rg_X8_12 (v := (I 47 12)) dX8_stepLine_25 lf_X8_81 (sk_47 _) rfl ?_
      refine g_iconst (v := 3) dX8_stepLine_28 (by decide) ?_
      refine g_icmp_eq (tgt := 40) dX8_stepLine_29 (by decide) (fun c7 => ?_) (fun c8 => ?_)
      · skip
        refine g_aload_n dX8_stepLine_40 rfl rfl ?_
        refine rg_X8_1 (r := 49) dX8_stepLine_41 lf_X8_18 (sk_47 _) rfl ?_
        refine g_aload_n dX8_stepLine_44 rfl rfl ?_
        refine rg_X8_12 (v := (I 47 12)) dX8_stepLine_45 lf_X8_81 (sk_47 _) rfl ?_
        refine g_iconst (v := 2) dX8_stepLine_48 (by decide) ?_
        refine g_icmp_ne (tgt := 56) dX8_stepLine_49 (by decide) (fun c9 => ?_) (fun c10 => ?_)
        · skip
          refine g_iconst (v := 0) dX8_stepLine_56 (by decide) ?_
          exact s_callV (M' := mX3_beginLine) (As := [.int 0]) (st := []) dX8_stepLine_57 lm_X8_87 ovX3_beginLine (h := (sk0 c, I)) (sk_49 _) (show vwCl[3]? = some _ from rfl) rfl (by simp [Value.category]) (by decide) rfl (k3 c1 c4 c7 c9)
        · skip
          refine g_iconst (v := 1) dX8_stepLine_52 (by decide) ?_
          refine g_goto (tgt := 57) dX8_stepLine_53 (by decide) ?_
          exact s_callV (M' := mX3_beginLine) (As := [.int 1]) (st := []) dX8_stepLine_57 lm_X8_87 ovX3_beginLine (h := (sk0 c, I)) (sk_49 _) (show vwCl[3]? = some _ from rfl) rfl (by simp [Value.category]) (by decide) rfl (k4 c1 c4 c7 c10)
      · skip
        refine g_aload_n dX8_stepLine_32 rfl rfl ?_
        refine g_iconst (v := 1) dX8_stepLine_33 (by decide) ?_
        exact s_callV (M' := mX8_fail) (As := [.int 1]) (st := []) dX8_stepLine_34 lm_X8_84 ovX8_fail (h := (sk0 c, I)) (sk_47 _) (show vwCl[8]? = some _ from rfl) rfl (by simp [Value.category]) (by decide) rfl (k5 c1 c4 c8)
  · skip
    refine g_aload_n dX8_stepLine_7 rfl rfl ?_
    refine g_bipush (v := 8) dX8_stepLine_8 (by decide) ?_
    refine rp_X8_9 dX8_stepLine_10 lf_X8_45 (sk_47 _) ?_
    refine g_goto (tgt := 91) dX8_stepLine_13 (by decide) ?_
    exact g_vret rfl dX8_stepLine_91 rfl (Nat.le_refl _) (q6 c2)
set_option maxRecDepth 10000 in
set_option maxHeartbeats 1000000 in
theorem sg_X8_stepLine_60 {l : Launch} {d : Nat} {Q : Option Value → mx_H → Prop} {c : Nat} {I : mx_I} (x1 : Int32)
    (q1 : (¬ x1 = 0) → Q none (sk0 c, (mx_set (mx_set (mx_set (mx_set I 47 6 0) 47 7 0) 47 8 0) 47 9 1)))
    (k2 : (x1 = 0) → mx_K1 l mX8_fail d [.ref 47, .int 3] (sk0 c, I) (fun r h' => mx_Go l (mx_rm (d + 1) 0 0) mX8_stepLine (mx_Z Q 0 0) 0 0 68 [.ref 47] (r.toList ++ []) h')) :
    mx_Go l (mx_rm (d + 1) 0 0) mX8_stepLine (mx_Z Q 0 0) 0 0 60 [.ref 47] [.int x1] (sk0 c, I) := by
  refine g_if_ne (tgt := 71) dX8_stepLine_60 (by decide) (fun c1 => ?_) (fun c2 => ?_)
  · skip
    refine g_aload_n dX8_stepLine_71 rfl rfl ?_
    refine g_iconst (v := 0) dX8_stepLine_72 (by decide) ?_
    refine rp_X8_6 dX8_stepLine_73 lf_X8_91 (sk_47 _) ?_
    refine g_aload_n dX8_stepLine_76 rfl rfl ?_
    refine g_iconst (v := 0) dX8_stepLine_77 (by decide) ?_
    refine rp_X8_7 dX8_stepLine_78 lf_X8_94 (sk_47 _) ?_
    refine g_aload_n dX8_stepLine_81 rfl rfl ?_
    refine g_iconst (v := 0) dX8_stepLine_82 (by decide) ?_
    refine rp_X8_8 dX8_stepLine_83 lf_X8_97 (sk_47 _) ?_
    refine g_aload_n dX8_stepLine_86 rfl rfl ?_
    refine g_iconst (v := 1) dX8_stepLine_87 (by decide) ?_
    refine rp_X8_9 dX8_stepLine_88 lf_X8_45 (sk_47 _) ?_
    exact g_vret rfl dX8_stepLine_91 rfl (Nat.le_refl _) (q1 c1)
  · skip
    refine g_aload_n dX8_stepLine_63 rfl rfl ?_
    refine g_iconst (v := 3) dX8_stepLine_64 (by decide) ?_
    exact s_callV (M' := mX8_fail) (As := [.int 3]) (st := []) dX8_stepLine_65 lm_X8_84 ovX8_fail (h := (sk0 c, I)) (sk_47 _) (show vwCl[8]? = some _ from rfl) rfl (by simp [Value.category]) (by decide) rfl (k2 c2)
set_option maxRecDepth 10000 in
set_option maxHeartbeats 1000000 in
theorem sg_X8_stepLine_37 {l : Launch} {d : Nat} {Q : Option Value → mx_H → Prop} {c : Nat} {I : mx_I}
    (q1 : Q none (sk0 c, I)) :
    mx_Go l (mx_rm (d + 1) 0 0) mX8_stepLine (mx_Z Q 0 0) 0 0 37 [.ref 47] [] (sk0 c, I) := by
  refine g_goto (tgt := 91) dX8_stepLine_37 (by decide) ?_
  exact g_vret rfl dX8_stepLine_91 rfl (Nat.le_refl _) (q1)
set_option maxRecDepth 10000 in
set_option maxHeartbeats 1000000 in
theorem sg_X8_stepLine_68 {l : Launch} {d : Nat} {Q : Option Value → mx_H → Prop} {c : Nat} {I : mx_I}
    (q1 : Q none (sk0 c, I)) :
    mx_Go l (mx_rm (d + 1) 0 0) mX8_stepLine (mx_Z Q 0 0) 0 0 68 [.ref 47] [] (sk0 c, I) := by
  refine g_goto (tgt := 91) dX8_stepLine_68 (by decide) ?_
  exact g_vret rfl dX8_stepLine_91 rfl (Nat.le_refl _) (q1)
set_option maxRecDepth 10000 in
set_option maxHeartbeats 1000000 in
theorem sn_X8_stepHead {l : Launch} {d : Nat} {Q : Option Value → mx_H → Prop} {c : Nat} {I : mx_I}
    (k1 : (¬ (I 47 12) = 4) → (¬ (I 47 12) = 15) → mx_K1 l mX8_fail d [.ref 47, .int 1] (sk0 c, I) (fun r h' => mx_Go l (mx_rm (d + 1) 0 0) mX8_stepHead (mx_Z Q 0 0) 0 0 45 [.ref 47] (r.toList ++ []) h'))
    (k2 : (¬ (I 47 12) = 4) → ((I 47 12) = 15) → mx_K1 l mX3_closeLine d [.ref 49] (sk0 c, I) (fun r h' => mx_Go l (mx_rm (d + 1) 0 0) mX8_stepHead (mx_Z Q 0 0) 0 0 32 [.ref 47] (r.toList ++ []) h'))
    (q3 : ((I 47 12) = 4) → Q none (sk0 c, (mx_set I 47 9 2))) :
    mx_Spec l mX8_stepHead (d + 1) 0 0 [.ref 47] (sk0 c, I) Q := by
  refine mx_enter rfl (by simp [Value.category]) (Nat.le_of_ble_eq_true rfl) ?_
  change mx_Go l (mx_rm (d + 1) 0 0) mX8_stepHead (mx_Z Q 0 0) 0 0 0 [.ref 47] [] (sk0 c, I)
  refine g_aload_n dX8_stepHead_0 rfl rfl ?_
  refine rg_X8_12 (v := (I 47 12)) dX8_stepHead_1 lf_X8_81 (sk_47 _) rfl ?_
  refine g_iconst (v := 4) dX8_stepHead_4 (by decide) ?_
  refine g_icmp_ne (tgt := 16) dX8_stepHead_5 (by decide) (fun c1 => ?_) (fun c2 => ?_)
  · skip
    refine g_aload_n dX8_stepHead_16 rfl rfl ?_
    refine rg_X8_12 (v := (I 47 12)) dX8_stepHead_17 lf_X8_81 (sk_47 _) rfl ?_
    refine g_bipush (v := 15) dX8_stepHead_20 (by decide) ?_
    refine g_icmp_ne (tgt := 40) dX8_stepHead_22 (by decide) (fun c3 => ?_) (fun c4 => ?_)
    · skip
      refine g_aload_n dX8_stepHead_40 rfl rfl ?_
      refine g_iconst (v := 1) dX8_stepHead_41 (by decide) ?_
      exact s_callV (M' := mX8_fail) (As := [.int 1]) (st := []) dX8_stepHead_42 lm_X8_84 ovX8_fail (h := (sk0 c, I)) (sk_47 _) (show vwCl[8]? = some _ from rfl) rfl (by simp [Value.category]) (by decide) rfl (k1 c1 c3)
    · skip
      refine g_aload_n dX8_stepHead_25 rfl rfl ?_
      refine rg_X8_1 (r := 49) dX8_stepHead_26 lf_X8_18 (sk_47 _) rfl ?_
      exact s_callV (M' := mX3_closeLine) (As := []) (st := []) dX8_stepHead_29 lm_X8_100 ovX3_closeLine (h := (sk0 c, I)) (sk_49 _) (show vwCl[3]? = some _ from rfl) rfl (by simp [Value.category]) (by decide) rfl (k2 c1 c4)
  · skip
    refine g_aload_n dX8_stepHead_8 rfl rfl ?_
    refine g_iconst (v := 2) dX8_stepHead_9 (by decide) ?_
    refine rp_X8_9 dX8_stepHead_10 lf_X8_45 (sk_47 _) ?_
    refine g_goto (tgt := 45) dX8_stepHead_13 (by decide) ?_
    exact g_vret rfl dX8_stepHead_45 rfl (Nat.le_refl _) (q3 c2)
set_option maxRecDepth 10000 in
set_option maxHeartbeats 1000000 in
theorem sg_X8_stepHead_45 {l : Launch} {d : Nat} {Q : Option Value → mx_H → Prop} {c : Nat} {I : mx_I}
    (q1 : Q none (sk0 c, I)) :
    mx_Go l (mx_rm (d + 1) 0 0) mX8_stepHead (mx_Z Q 0 0) 0 0 45 [.ref 47] [] (sk0 c, I) := by
  exact g_vret rfl dX8_stepHead_45 rfl (Nat.le_refl _) (q1)
set_option maxRecDepth 10000 in
set_option maxHeartbeats 1000000 in
theorem sg_X8_stepHead_32 {l : Launch} {d : Nat} {Q : Option Value → mx_H → Prop} {c : Nat} {I : mx_I}
    (q1 : Q none (sk0 c, (mx_set I 47 9 0))) :
    mx_Go l (mx_rm (d + 1) 0 0) mX8_stepHead (mx_Z Q 0 0) 0 0 32 [.ref 47] [] (sk0 c, I) := by
  refine g_aload_n dX8_stepHead_32 rfl rfl ?_
  refine g_iconst (v := 0) dX8_stepHead_33 (by decide) ?_
  refine rp_X8_9 dX8_stepHead_34 lf_X8_45 (sk_47 _) ?_
  refine g_goto (tgt := 45) dX8_stepHead_37 (by decide) ?_
  exact g_vret rfl dX8_stepHead_45 rfl (Nat.le_refl _) (q1)
set_option maxRecDepth 10000 in
set_option maxHeartbeats 1000000 in
theorem sn_X8_stepCondition {l : Launch} {d : Nat} {Q : Option Value → mx_H → Prop} {c : Nat} {I : mx_I}
    (k1 : ((I 47 12) = 7) → ((I 47 7) < 8) → (¬ (I 47 12) = 20) → mx_K1 l mX8_hold d [.ref 47, .int (I 47 12)] (sk0 c, (mx_set (mx_set I 47 7 ((I 47 7) + 1)) 47 8 ((I 47 8) + 0))) (fun r h' => mx_Go l (mx_rm (d + 1) 0 0) mX8_stepCondition (mx_Z Q 0 0) 0 0 88 [.ref 47] (r.toList ++ []) h'))
    (k2 : ((I 47 12) = 7) → ((I 47 7) < 8) → ((I 47 12) = 20) → mx_K1 l mX8_hold d [.ref 47, .int (I 47 12)] (sk0 c, (mx_set (mx_set I 47 7 ((I 47 7) + 1)) 47 8 ((I 47 8) + 1))) (fun r h' => mx_Go l (mx_rm (d + 1) 0 0) mX8_stepCondition (mx_Z Q 0 0) 0 0 88 [.ref 47] (r.toList ++ []) h'))
    (k3 : ((I 47 12) = 7) → (¬ (I 47 7) < 8) → mx_K1 l mX8_fail d [.ref 47, .int 3] (sk0 c, I) (fun r h' => mx_Go l (mx_rm (d + 1) 0 0) mX8_stepCondition (mx_Z Q 0 0) 0 0 44 [.ref 47] (r.toList ++ []) h'))
    (k4 : (¬ (I 47 12) = 7) → ((I 47 12) = 20) → ((I 47 7) < 8) → (¬ (I 47 12) = 20) → mx_K1 l mX8_hold d [.ref 47, .int (I 47 12)] (sk0 c, (mx_set (mx_set I 47 7 ((I 47 7) + 1)) 47 8 ((I 47 8) + 0))) (fun r h' => mx_Go l (mx_rm (d + 1) 0 0) mX8_stepCondition (mx_Z Q 0 0) 0 0 88 [.ref 47] (r.toList ++ []) h'))
    (k5 : (¬ (I 47 12) = 7) → ((I 47 12) = 20) → ((I 47 7) < 8) → ((I 47 12) = 20) → mx_K1 l mX8_hold d [.ref 47, .int (I 47 12)] (sk0 c, (mx_set (mx_set I 47 7 ((I 47 7) + 1)) 47 8 ((I 47 8) + 1))) (fun r h' => mx_Go l (mx_rm (d + 1) 0 0) mX8_stepCondition (mx_Z Q 0 0) 0 0 88 [.ref 47] (r.toList ++ []) h'))
    (k6 : (¬ (I 47 12) = 7) → ((I 47 12) = 20) → (¬ (I 47 7) < 8) → mx_K1 l mX8_fail d [.ref 47, .int 3] (sk0 c, I) (fun r h' => mx_Go l (mx_rm (d + 1) 0 0) mX8_stepCondition (mx_Z Q 0 0) 0 0 44 [.ref 47] (r.toList ++ []) h'))
    (k7 : (¬ (I 47 12) = 7) → (¬ (I 47 12) = 20) → mx_K1 l mX8_stepUnit d [.ref 47] (sk0 c, (mx_set I 47 10 0)) (fun r h' => mx_Go l (mx_rm (d + 1) 0 0) mX8_stepCondition (mx_Z Q 0 0) 0 0 27 [.ref 47] (r.toList ++ []) h')) :
    mx_Spec l mX8_stepCondition (d + 1) 0 0 [.ref 47] (sk0 c, I) Q := by
  refine mx_enter rfl (by simp [Value.category]) (Nat.le_of_ble_eq_true rfl) ?_
  change mx_Go l (mx_rm (d + 1) 0 0) mX8_stepCondition (mx_Z Q 0 0) 0 0 0 [.ref 47] [] (sk0 c, I)
  refine g_aload_n dX8_stepCondition_0 rfl rfl ?_
  refine rg_X8_12 (v := (I 47 12)) dX8_stepCondition_1 lf_X8_81 (sk_47 _) rfl ?_
  refine g_bipush (v := 7) dX8_stepCondition_4 (by decide) ?_
  refine g_icmp_eq (tgt := 30) dX8_stepCondition_6 (by decide) (fun c1 => ?_) (fun c2 => ?_)
  · skip
    refine g_aload_n dX8_stepCondition_30 rfl rfl ?_
    refine rg_X8_7 (v := (I 47 7)) dX8_stepCondition_31 lf_X8_94 (sk_47 _) rfl ?_
    refine g_bipush (v := 8) dX8_stepCondition_34 (by decide) ?_
    refine g_icmp_lt (tgt := 47) dX8_stepCondition_36 (by decide) (fun c3 => ?_) (fun c4 => ?_)
    · skip
      refine g_aload_n dX8_stepCondition_47 rfl rfl ?_
      refine g_dup dX8_stepCondition_48 rfl ?_
      refine rg_X8_7 (v := (I 47 7)) dX8_stepCondition_49 lf_X8_94 (sk_47 _) rfl ?_
      refine g_iconst (v := 1) dX8_stepCondition_52 (by decide) ?_
      refine g_iadd dX8_stepCondition_53 ?_
      refine rp_X8_7 dX8_stepCondition_54 lf_X8_94 (sk_47 _) ?_
      refine g_aload_n dX8_stepCondition_57 rfl rfl ?_
      refine g_dup dX8_stepCondition_58 rfl ?_
      refine rg_X8_8 (v := (I 47 8)) dX8_stepCondition_59 lf_X8_97 (sk_47 _) (rd_sl (by decide) rfl) ?_
      refine g_aload_n dX8_stepCondition_62 rfl rfl ?_
      refine rg_X8_12 (v := (I 47 12)) dX8_stepCondition_63 lf_X8_81 (sk_47 _) (rd_sl (by decide) rfl) ?_
      refine g_bipush (v := 20) dX8_stepCondition_66 (by decide) ?_
      refine g_icmp_ne (tgt := 75) dX8_stepCondition_68 (by decide) (fun c5 => ?_) (fun c6 => ?_)
      · skip
        refine g_iconst (v := 0) dX8_stepCondition_75 (by decide) ?_
        refine g_iadd dX8_stepCondition_76 ?_
        refine rp_X8_8 dX8_stepCondition_77 lf_X8_97 (sk_47 _) ?_
        refine g_aload_n dX8_stepCondition_80 rfl rfl ?_
        refine g_aload_n dX8_stepCondition_81 rfl rfl ?_
        refine rg_X8_12 (v := (I 47 12)) dX8_stepCondition_82 lf_X8_81 (sk_47 _) (rd_sl (by decide) (rd_sl (by decide) rfl)) ?_
        exact s_callV (M' := mX8_hold) (As := [.int (I 47 12)]) (st := []) dX8_stepCondition_85 lm_X8_107 ovX8_hold (h := (sk0 c, (mx_set (mx_set I 47 7 ((I 47 7) + 1)) 47 8 ((I 47 8) + 0)))) (sk_47 _) (show vwCl[8]? = some _ from rfl) rfl (by simp [Value.category]) (by decide) rfl (k1 c1 c3 c5)
      · skip
        refine g_iconst (v := 1) dX8_stepCondition_71 (by decide) ?_
        refine g_goto (tgt := 76) dX8_stepCondition_72 (by decide) ?_
        refine g_iadd dX8_stepCondition_76 ?_
        refine rp_X8_8 dX8_stepCondition_77 lf_X8_97 (sk_47 _) ?_
        refine g_aload_n dX8_stepCondition_80 rfl rfl ?_
        refine g_aload_n dX8_stepCondition_81 rfl rfl ?_
        refine rg_X8_12 (v := (I 47 12)) dX8_stepCondition_82 lf_X8_81 (sk_47 _) (rd_sl (by decide) (rd_sl (by decide) rfl)) ?_
        exact s_callV (M' := mX8_hold) (As := [.int (I 47 12)]) (st := []) dX8_stepCondition_85 lm_X8_107 ovX8_hold (h := (sk0 c, (mx_set (mx_set I 47 7 ((I 47 7) + 1)) 47 8 ((I 47 8) + 1)))) (sk_47 _) (show vwCl[8]? = some _ from rfl) rfl (by simp [Value.category]) (by decide) rfl (k2 c1 c3 c6)
    · skip
      refine g_aload_n dX8_stepCondition_39 rfl rfl ?_
      refine g_iconst (v := 3) dX8_stepCondition_40 (by decide) ?_
      exact s_callV (M' := mX8_fail) (As := [.int 3]) (st := []) dX8_stepCondition_41 lm_X8_84 ovX8_fail (h := (sk0 c, I)) (sk_47 _) (show vwCl[8]? = some _ from rfl) rfl (by simp [Value.category]) (by decide) rfl (k3 c1 c4)
  · skip
    refine g_aload_n dX8_stepCondition_9 rfl rfl ?_
    refine rg_X8_12 (v := (I 47 12)) dX8_stepCondition_10 lf_X8_81 (sk_47 _) rfl ?_
    refine g_bipush (v := 20) dX8_stepCondition_13 (by decide) ?_
    refine g_icmp_eq (tgt := 30) dX8_stepCondition_15 (by decide) (fun c7 => ?_) (fun c8 => ?_)
    · skip
      refine g_aload_n dX8_stepCondition_30 rfl rfl ?_
      refine rg_X8_7 (v := (I 47 7)) dX8_stepCondition_31 lf_X8_94 (sk_47 _) rfl ?_
      refine g_bipush (v := 8) dX8_stepCondition_34 (by decide) ?_
      refine g_icmp_lt (tgt := 47) dX8_stepCondition_36 (by decide) (fun c9 => ?_) (fun c10 => ?_)
      · skip
        refine g_aload_n dX8_stepCondition_47 rfl rfl ?_
        refine g_dup dX8_stepCondition_48 rfl ?_
        refine rg_X8_7 (v := (I 47 7)) dX8_stepCondition_49 lf_X8_94 (sk_47 _) rfl ?_
        refine g_iconst (v := 1) dX8_stepCondition_52 (by decide) ?_
        refine g_iadd dX8_stepCondition_53 ?_
        refine rp_X8_7 dX8_stepCondition_54 lf_X8_94 (sk_47 _) ?_
        refine g_aload_n dX8_stepCondition_57 rfl rfl ?_
        refine g_dup dX8_stepCondition_58 rfl ?_
        refine rg_X8_8 (v := (I 47 8)) dX8_stepCondition_59 lf_X8_97 (sk_47 _) (rd_sl (by decide) rfl) ?_
        refine g_aload_n dX8_stepCondition_62 rfl rfl ?_
        refine rg_X8_12 (v := (I 47 12)) dX8_stepCondition_63 lf_X8_81 (sk_47 _) (rd_sl (by decide) rfl) ?_
        refine g_bipush (v := 20) dX8_stepCondition_66 (by decide) ?_
        refine g_icmp_ne (tgt := 75) dX8_stepCondition_68 (by decide) (fun c11 => ?_) (fun c12 => ?_)
        · skip
          refine g_iconst (v := 0) dX8_stepCondition_75 (by decide) ?_
          refine g_iadd dX8_stepCondition_76 ?_
          refine rp_X8_8 dX8_stepCondition_77 lf_X8_97 (sk_47 _) ?_
          refine g_aload_n dX8_stepCondition_80 rfl rfl ?_
          refine g_aload_n dX8_stepCondition_81 rfl rfl ?_
          refine rg_X8_12 (v := (I 47 12)) dX8_stepCondition_82 lf_X8_81 (sk_47 _) (rd_sl (by decide) (rd_sl (by decide) rfl)) ?_
          exact s_callV (M' := mX8_hold) (As := [.int (I 47 12)]) (st := []) dX8_stepCondition_85 lm_X8_107 ovX8_hold (h := (sk0 c, (mx_set (mx_set I 47 7 ((I 47 7) + 1)) 47 8 ((I 47 8) + 0)))) (sk_47 _) (show vwCl[8]? = some _ from rfl) rfl (by simp [Value.category]) (by decide) rfl (k4 c2 c7 c9 c11)
        · skip
          refine g_iconst (v := 1) dX8_stepCondition_71 (by decide) ?_
          refine g_goto (tgt := 76) dX8_stepCondition_72 (by decide) ?_
          refine g_iadd dX8_stepCondition_76 ?_
          refine rp_X8_8 dX8_stepCondition_77 lf_X8_97 (sk_47 _) ?_
          refine g_aload_n dX8_stepCondition_80 rfl rfl ?_
          refine g_aload_n dX8_stepCondition_81 rfl rfl ?_
          refine rg_X8_12 (v := (I 47 12)) dX8_stepCondition_82 lf_X8_81 (sk_47 _) (rd_sl (by decide) (rd_sl (by decide) rfl)) ?_
          exact s_callV (M' := mX8_hold) (As := [.int (I 47 12)]) (st := []) dX8_stepCondition_85 lm_X8_107 ovX8_hold (h := (sk0 c, (mx_set (mx_set I 47 7 ((I 47 7) + 1)) 47 8 ((I 47 8) + 1)))) (sk_47 _) (show vwCl[8]? = some _ from rfl) rfl (by simp [Value.category]) (by decide) rfl (k5 c2 c7 c9 c12)
      · skip
        refine g_aload_n dX8_stepCondition_39 rfl rfl ?_
        refine g_iconst (v := 3) dX8_stepCondition_40 (by decide) ?_
        exact s_callV (M' := mX8_fail) (As := [.int 3]) (st := []) dX8_stepCondition_41 lm_X8_84 ovX8_fail (h := (sk0 c, I)) (sk_47 _) (show vwCl[8]? = some _ from rfl) rfl (by simp [Value.category]) (by decide) rfl (k6 c2 c7 c10)
    · skip
      refine g_aload_n dX8_stepCondition_18 rfl rfl ?_
      refine g_iconst (v := 0) dX8_stepCondition_19 (by decide) ?_
      refine rp_X8_10 (by decide) dX8_stepCondition_20 lf_X8_103 (sk_47 _) ?_
      refine g_aload_n dX8_stepCondition_23 rfl rfl ?_
      exact s_callV (M' := mX8_stepUnit) (As := []) (st := []) dX8_stepCondition_24 lm_X8_66 ovX8_stepUnit (h := (sk0 c, (mx_set I 47 10 0))) (sk_47 _) (show vwCl[8]? = some _ from rfl) rfl (by simp [Value.category]) (by decide) rfl (k7 c2 c8)
set_option maxRecDepth 10000 in
set_option maxHeartbeats 1000000 in
theorem sg_X8_stepCondition_88 {l : Launch} {d : Nat} {Q : Option Value → mx_H → Prop} {c : Nat} {I : mx_I}
    (q1 : Q none (sk0 c, I)) :
    mx_Go l (mx_rm (d + 1) 0 0) mX8_stepCondition (mx_Z Q 0 0) 0 0 88 [.ref 47] [] (sk0 c, I) := by
  exact g_vret rfl dX8_stepCondition_88 rfl (Nat.le_refl _) (q1)
set_option maxRecDepth 10000 in
set_option maxHeartbeats 1000000 in
theorem sg_X8_stepCondition_44 {l : Launch} {d : Nat} {Q : Option Value → mx_H → Prop} {c : Nat} {I : mx_I}
    (q1 : Q none (sk0 c, I)) :
    mx_Go l (mx_rm (d + 1) 0 0) mX8_stepCondition (mx_Z Q 0 0) 0 0 44 [.ref 47] [] (sk0 c, I) := by
  refine g_goto (tgt := 88) dX8_stepCondition_44 (by decide) ?_
  exact g_vret rfl dX8_stepCondition_88 rfl (Nat.le_refl _) (q1)
set_option maxRecDepth 10000 in
set_option maxHeartbeats 1000000 in
theorem sg_X8_stepCondition_27 {l : Launch} {d : Nat} {Q : Option Value → mx_H → Prop} {c : Nat} {I : mx_I}
    (q1 : Q none (sk0 c, I)) :
    mx_Go l (mx_rm (d + 1) 0 0) mX8_stepCondition (mx_Z Q 0 0) 0 0 27 [.ref 47] [] (sk0 c, I) := by
  refine g_goto (tgt := 88) dX8_stepCondition_27 (by decide) ?_
  exact g_vret rfl dX8_stepCondition_88 rfl (Nat.le_refl _) (q1)
set_option maxRecDepth 10000 in
set_option maxHeartbeats 1000000 in
theorem sn_X8_stepUnit {l : Launch} {d : Nat} {Q : Option Value → mx_H → Prop} {c : Nat} {I : mx_I}
    (k1 : (¬ (I 47 12) = 1) → ((I 47 12) < 8) → mx_K1 l mX8_fail d [.ref 47, .int 1] (sk0 c, I) (fun r h' => mx_Go l (mx_rm (d + 1) 0 0) mX8_stepUnit (mx_Z Q 0 0) 0 0 60 [.ref 47] (r.toList ++ []) h'))
    (k2 : (¬ (I 47 12) = 1) → (¬ (I 47 12) < 8) → (14 < (I 47 12)) → mx_K1 l mX8_fail d [.ref 47, .int 1] (sk0 c, I) (fun r h' => mx_Go l (mx_rm (d + 1) 0 0) mX8_stepUnit (mx_Z Q 0 0) 0 0 60 [.ref 47] (r.toList ++ []) h'))
    (k3 : (¬ (I 47 12) = 1) → (¬ (I 47 12) < 8) → (¬ 14 < (I 47 12)) → mx_K1 l mX3_put d [.ref 49, .int (-(I 47 12))] (sk0 c, I) (fun r h' => mx_Go l (mx_rm (d + 1) 0 0) mX8_stepUnit (mx_Z Q 0 0) 0 0 52 [.ref 47] (r.toList ++ []) h'))
    (k4 : ((I 47 12) = 1) → mx_K1 l mX3_put d [.ref 49, .int (I 47 14)] (sk0 c, I) (fun r h' => mx_Go l (mx_rm (d + 1) 0 0) mX8_stepUnit (mx_Z Q 0 0) 0 0 19 [.ref 47] (r.toList ++ []) h')) :
    mx_Spec l mX8_stepUnit (d + 1) 0 0 [.ref 47] (sk0 c, I) Q := by
  refine mx_enter rfl (by simp [Value.category]) (Nat.le_of_ble_eq_true rfl) ?_
  change mx_Go l (mx_rm (d + 1) 0 0) mX8_stepUnit (mx_Z Q 0 0) 0 0 0 [.ref 47] [] (sk0 c, I)
  refine g_aload_n dX8_stepUnit_0 rfl rfl ?_
  refine rg_X8_12 (v := (I 47 12)) dX8_stepUnit_1 lf_X8_81 (sk_47 _) rfl ?_
  refine g_iconst (v := 1) dX8_stepUnit_4 (by decide) ?_
  refine g_icmp_ne (tgt := 22) dX8_stepUnit_5 (by decide) (fun c1 => ?_) (fun c2 => ?_)
  · skip
    refine g_aload_n dX8_stepUnit_22 rfl rfl ?_
    refine rg_X8_12 (v := (I 47 12)) dX8_stepUnit_23 lf_X8_81 (sk_47 _) rfl ?_
    refine g_bipush (v := 8) dX8_stepUnit_26 (by decide) ?_
    refine g_icmp_lt (tgt := 55) dX8_stepUnit_28 (by decide) (fun c3 => ?_) (fun c4 => ?_)
    · skip
      refine g_aload_n dX8_stepUnit_55 rfl rfl ?_
      refine g_iconst (v := 1) dX8_stepUnit_56 (by decide) ?_
      exact s_callV (M' := mX8_fail) (As := [.int 1]) (st := []) dX8_stepUnit_57 lm_X8_84 ovX8_fail (h := (sk0 c, I)) (sk_47 _) (show vwCl[8]? = some _ from rfl) rfl (by simp [Value.category]) (by decide) rfl (k1 c1 c3)
    · skip
      refine g_aload_n dX8_stepUnit_31 rfl rfl ?_
      refine rg_X8_12 (v := (I 47 12)) dX8_stepUnit_32 lf_X8_81 (sk_47 _) rfl ?_
      refine g_bipush (v := 14) dX8_stepUnit_35 (by decide) ?_
      refine g_icmp_gt (tgt := 55) dX8_stepUnit_37 (by decide) (fun c5 => ?_) (fun c6 => ?_)
      · skip
        refine g_aload_n dX8_stepUnit_55 rfl rfl ?_
        refine g_iconst (v := 1) dX8_stepUnit_56 (by decide) ?_
        exact s_callV (M' := mX8_fail) (As := [.int 1]) (st := []) dX8_stepUnit_57 lm_X8_84 ovX8_fail (h := (sk0 c, I)) (sk_47 _) (show vwCl[8]? = some _ from rfl) rfl (by simp [Value.category]) (by decide) rfl (k2 c1 c4 c5)
      · skip
        refine g_aload_n dX8_stepUnit_40 rfl rfl ?_
        refine rg_X8_1 (r := 49) dX8_stepUnit_41 lf_X8_18 (sk_47 _) rfl ?_
        refine g_aload_n dX8_stepUnit_44 rfl rfl ?_
        refine rg_X8_12 (v := (I 47 12)) dX8_stepUnit_45 lf_X8_81 (sk_47 _) rfl ?_
        refine g_ineg dX8_stepUnit_48 ?_
        exact s_callV (M' := mX3_put) (As := [.int (-(I 47 12))]) (st := []) dX8_stepUnit_49 lm_X8_113 ovX3_put (h := (sk0 c, I)) (sk_49 _) (show vwCl[3]? = some _ from rfl) rfl (by simp [Value.category]) (by decide) rfl (k3 c1 c4 c6)
  · skip
    refine g_aload_n dX8_stepUnit_8 rfl rfl ?_
    refine rg_X8_1 (r := 49) dX8_stepUnit_9 lf_X8_18 (sk_47 _) rfl ?_
    refine g_aload_n dX8_stepUnit_12 rfl rfl ?_
    refine rg_X8_14 (v := (I 47 14)) dX8_stepUnit_13 lf_X8_110 (sk_47 _) rfl ?_
    exact s_callV (M' := mX3_put) (As := [.int (I 47 14)]) (st := []) dX8_stepUnit_16 lm_X8_113 ovX3_put (h := (sk0 c, I)) (sk_49 _) (show vwCl[3]? = some _ from rfl) rfl (by simp [Value.category]) (by decide) rfl (k4 c2)
set_option maxRecDepth 10000 in
set_option maxHeartbeats 1000000 in
theorem sg_X8_stepUnit_60 {l : Launch} {d : Nat} {Q : Option Value → mx_H → Prop} {c : Nat} {I : mx_I}
    (q1 : Q none (sk0 c, I)) :
    mx_Go l (mx_rm (d + 1) 0 0) mX8_stepUnit (mx_Z Q 0 0) 0 0 60 [.ref 47] [] (sk0 c, I) := by
  exact g_vret rfl dX8_stepUnit_60 rfl (Nat.le_refl _) (q1)
set_option maxRecDepth 10000 in
set_option maxHeartbeats 1000000 in
theorem sg_X8_stepUnit_52 {l : Launch} {d : Nat} {Q : Option Value → mx_H → Prop} {c : Nat} {I : mx_I}
    (q1 : ((I 47 10) = 0) → Q none (sk0 c, (mx_set I 47 9 5)))
    (q2 : (¬ (I 47 10) = 0) → Q none (sk0 c, (mx_set I 47 9 6))) :
    mx_Go l (mx_rm (d + 1) 0 0) mX8_stepUnit (mx_Z Q 0 0) 0 0 52 [.ref 47] [] (sk0 c, I) := by
  refine g_goto (tgt := 61) dX8_stepUnit_52 (by decide) ?_
  refine g_aload_n dX8_stepUnit_61 rfl rfl ?_
  refine g_aload_n dX8_stepUnit_62 rfl rfl ?_
  refine rg_X8_10 (v := (I 47 10)) dX8_stepUnit_63 lf_X8_103 (sk_47 _) rfl ?_
  refine g_if_eq (tgt := 74) dX8_stepUnit_66 (by decide) (fun c1 => ?_) (fun c2 => ?_)
  · skip
    refine g_iconst (v := 5) dX8_stepUnit_74 (by decide) ?_
    refine rp_X8_9 dX8_stepUnit_75 lf_X8_45 (sk_47 _) ?_
    exact g_vret rfl dX8_stepUnit_78 rfl (Nat.le_refl _) (q1 c1)
  · skip
    refine g_bipush (v := 6) dX8_stepUnit_69 (by decide) ?_
    refine g_goto (tgt := 75) dX8_stepUnit_71 (by decide) ?_
    refine rp_X8_9 dX8_stepUnit_75 lf_X8_45 (sk_47 _) ?_
    exact g_vret rfl dX8_stepUnit_78 rfl (Nat.le_refl _) (q2 c2)
set_option maxRecDepth 10000 in
set_option maxHeartbeats 1000000 in
theorem sg_X8_stepUnit_19 {l : Launch} {d : Nat} {Q : Option Value → mx_H → Prop} {c : Nat} {I : mx_I}
    (q1 : ((I 47 10) = 0) → Q none (sk0 c, (mx_set I 47 9 5)))
    (q2 : (¬ (I 47 10) = 0) → Q none (sk0 c, (mx_set I 47 9 6))) :
    mx_Go l (mx_rm (d + 1) 0 0) mX8_stepUnit (mx_Z Q 0 0) 0 0 19 [.ref 47] [] (sk0 c, I) := by
  refine g_goto (tgt := 61) dX8_stepUnit_19 (by decide) ?_
  refine g_aload_n dX8_stepUnit_61 rfl rfl ?_
  refine g_aload_n dX8_stepUnit_62 rfl rfl ?_
  refine rg_X8_10 (v := (I 47 10)) dX8_stepUnit_63 lf_X8_103 (sk_47 _) rfl ?_
  refine g_if_eq (tgt := 74) dX8_stepUnit_66 (by decide) (fun c1 => ?_) (fun c2 => ?_)
  · skip
    refine g_iconst (v := 5) dX8_stepUnit_74 (by decide) ?_
    refine rp_X8_9 dX8_stepUnit_75 lf_X8_45 (sk_47 _) ?_
    exact g_vret rfl dX8_stepUnit_78 rfl (Nat.le_refl _) (q1 c1)
  · skip
    refine g_bipush (v := 6) dX8_stepUnit_69 (by decide) ?_
    refine g_goto (tgt := 75) dX8_stepUnit_71 (by decide) ?_
    refine rp_X8_9 dX8_stepUnit_75 lf_X8_45 (sk_47 _) ?_
    exact g_vret rfl dX8_stepUnit_78 rfl (Nat.le_refl _) (q2 c2)
set_option maxRecDepth 10000 in
set_option maxHeartbeats 1000000 in
theorem sn_X8_stepDivisor {l : Launch} {d : Nat} {Q : Option Value → mx_H → Prop} {c : Nat} {I : mx_I}
    (k1 : (¬ (I 47 12) = 1) → (¬ (I 47 12) = 1) → mx_K1 l mX8_fail d [.ref 47, .int 1] (sk0 c, I) (fun r h' => mx_Go l (mx_rm (d + 1) 0 0) mX8_stepDivisor (mx_Z Q 0 0) 0 0 43 [.ref 47] (r.toList ++ []) h'))
    (k2 : (¬ (I 47 12) = 1) → ((I 47 12) = 1) → mx_K1 l mX8_stepUnit d [.ref 47] (sk0 c, I) (fun r h' => mx_Go l (mx_rm (d + 1) 0 0) mX8_stepDivisor (mx_Z Q 0 0) 0 0 35 [.ref 47] (r.toList ++ []) h'))
    (k3 : ((I 47 12) = 1) → (¬ (I 47 14) = 0) → (¬ (I 47 12) = 1) → mx_K1 l mX8_fail d [.ref 47, .int 1] (sk0 c, I) (fun r h' => mx_Go l (mx_rm (d + 1) 0 0) mX8_stepDivisor (mx_Z Q 0 0) 0 0 43 [.ref 47] (r.toList ++ []) h'))
    (k4 : ((I 47 12) = 1) → (¬ (I 47 14) = 0) → ((I 47 12) = 1) → mx_K1 l mX8_stepUnit d [.ref 47] (sk0 c, I) (fun r h' => mx_Go l (mx_rm (d + 1) 0 0) mX8_stepDivisor (mx_Z Q 0 0) 0 0 35 [.ref 47] (r.toList ++ []) h'))
    (k5 : ((I 47 12) = 1) → ((I 47 14) = 0) → mx_K1 l mX8_fail d [.ref 47, .int 2] (sk0 c, I) (fun r h' => mx_Go l (mx_rm (d + 1) 0 0) mX8_stepDivisor (mx_Z Q 0 0) 0 0 20 [.ref 47] (r.toList ++ []) h')) :
    mx_Spec l mX8_stepDivisor (d + 1) 0 0 [.ref 47] (sk0 c, I) Q := by
  refine mx_enter rfl (by simp [Value.category]) (Nat.le_of_ble_eq_true rfl) ?_
  change mx_Go l (mx_rm (d + 1) 0 0) mX8_stepDivisor (mx_Z Q 0 0) 0 0 0 [.ref 47] [] (sk0 c, I)
  refine g_aload_n dX8_stepDivisor_0 rfl rfl ?_
  refine rg_X8_12 (v := (I 47 12)) dX8_stepDivisor_1 lf_X8_81 (sk_47 _) rfl ?_
  refine g_iconst (v := 1) dX8_stepDivisor_4 (by decide) ?_
  refine g_icmp_ne (tgt := 23) dX8_stepDivisor_5 (by decide) (fun c1 => ?_) (fun c2 => ?_)
  · skip
    refine g_aload_n dX8_stepDivisor_23 rfl rfl ?_
    refine rg_X8_12 (v := (I 47 12)) dX8_stepDivisor_24 lf_X8_81 (sk_47 _) rfl ?_
    refine g_iconst (v := 1) dX8_stepDivisor_27 (by decide) ?_
    refine g_icmp_ne (tgt := 38) dX8_stepDivisor_28 (by decide) (fun c3 => ?_) (fun c4 => ?_)
    · skip
      refine g_aload_n dX8_stepDivisor_38 rfl rfl ?_
      refine g_iconst (v := 1) dX8_stepDivisor_39 (by decide) ?_
      exact s_callV (M' := mX8_fail) (As := [.int 1]) (st := []) dX8_stepDivisor_40 lm_X8_84 ovX8_fail (h := (sk0 c, I)) (sk_47 _) (show vwCl[8]? = some _ from rfl) rfl (by simp [Value.category]) (by decide) rfl (k1 c1 c3)
    · skip
      refine g_aload_n dX8_stepDivisor_31 rfl rfl ?_
      exact s_callV (M' := mX8_stepUnit) (As := []) (st := []) dX8_stepDivisor_32 lm_X8_66 ovX8_stepUnit (h := (sk0 c, I)) (sk_47 _) (show vwCl[8]? = some _ from rfl) rfl (by simp [Value.category]) (by decide) rfl (k2 c1 c4)
  · skip
    refine g_aload_n dX8_stepDivisor_8 rfl rfl ?_
    refine rg_X8_14 (v := (I 47 14)) dX8_stepDivisor_9 lf_X8_110 (sk_47 _) rfl ?_
    refine g_if_ne (tgt := 23) dX8_stepDivisor_12 (by decide) (fun c5 => ?_) (fun c6 => ?_)
    · skip
      refine g_aload_n dX8_stepDivisor_23 rfl rfl ?_
      refine rg_X8_12 (v := (I 47 12)) dX8_stepDivisor_24 lf_X8_81 (sk_47 _) rfl ?_
      refine g_iconst (v := 1) dX8_stepDivisor_27 (by decide) ?_
      refine g_icmp_ne (tgt := 38) dX8_stepDivisor_28 (by decide) (fun c7 => ?_) (fun c8 => ?_)
      · skip
        refine g_aload_n dX8_stepDivisor_38 rfl rfl ?_
        refine g_iconst (v := 1) dX8_stepDivisor_39 (by decide) ?_
        exact s_callV (M' := mX8_fail) (As := [.int 1]) (st := []) dX8_stepDivisor_40 lm_X8_84 ovX8_fail (h := (sk0 c, I)) (sk_47 _) (show vwCl[8]? = some _ from rfl) rfl (by simp [Value.category]) (by decide) rfl (k3 c2 c5 c7)
      · skip
        refine g_aload_n dX8_stepDivisor_31 rfl rfl ?_
        exact s_callV (M' := mX8_stepUnit) (As := []) (st := []) dX8_stepDivisor_32 lm_X8_66 ovX8_stepUnit (h := (sk0 c, I)) (sk_47 _) (show vwCl[8]? = some _ from rfl) rfl (by simp [Value.category]) (by decide) rfl (k4 c2 c5 c8)
    · skip
      refine g_aload_n dX8_stepDivisor_15 rfl rfl ?_
      refine g_iconst (v := 2) dX8_stepDivisor_16 (by decide) ?_
      exact s_callV (M' := mX8_fail) (As := [.int 2]) (st := []) dX8_stepDivisor_17 lm_X8_84 ovX8_fail (h := (sk0 c, I)) (sk_47 _) (show vwCl[8]? = some _ from rfl) rfl (by simp [Value.category]) (by decide) rfl (k5 c2 c6)
set_option maxRecDepth 10000 in
set_option maxHeartbeats 1000000 in
theorem sg_X8_stepDivisor_43 {l : Launch} {d : Nat} {Q : Option Value → mx_H → Prop} {c : Nat} {I : mx_I}
    (q1 : Q none (sk0 c, I)) :
    mx_Go l (mx_rm (d + 1) 0 0) mX8_stepDivisor (mx_Z Q 0 0) 0 0 43 [.ref 47] [] (sk0 c, I) := by
  exact g_vret rfl dX8_stepDivisor_43 rfl (Nat.le_refl _) (q1)
set_option maxRecDepth 10000 in
set_option maxHeartbeats 1000000 in
theorem sg_X8_stepDivisor_35 {l : Launch} {d : Nat} {Q : Option Value → mx_H → Prop} {c : Nat} {I : mx_I}
    (q1 : Q none (sk0 c, I)) :
    mx_Go l (mx_rm (d + 1) 0 0) mX8_stepDivisor (mx_Z Q 0 0) 0 0 35 [.ref 47] [] (sk0 c, I) := by
  refine g_goto (tgt := 43) dX8_stepDivisor_35 (by decide) ?_
  exact g_vret rfl dX8_stepDivisor_43 rfl (Nat.le_refl _) (q1)
set_option maxRecDepth 10000 in
set_option maxHeartbeats 1000000 in
theorem sg_X8_stepDivisor_20 {l : Launch} {d : Nat} {Q : Option Value → mx_H → Prop} {c : Nat} {I : mx_I}
    (q1 : Q none (sk0 c, I)) :
    mx_Go l (mx_rm (d + 1) 0 0) mX8_stepDivisor (mx_Z Q 0 0) 0 0 20 [.ref 47] [] (sk0 c, I) := by
  refine g_goto (tgt := 43) dX8_stepDivisor_20 (by decide) ?_
  exact g_vret rfl dX8_stepDivisor_43 rfl (Nat.le_refl _) (q1)
set_option maxRecDepth 10000 in
set_option maxHeartbeats 1000000 in
theorem sn_X8_stepLeft {l : Launch} {d : Nat} {Q : Option Value → mx_H → Prop} {c : Nat} {I : mx_I}
    (k1 : ((I 47 12) < 22) → ((I 47 12) < 16) → mx_K1 l mX8_fail d [.ref 47, .int 1] (sk0 c, I) (fun r h' => mx_Go l (mx_rm (d + 1) 0 0) mX8_stepLeft (mx_Z Q 0 0) 0 0 65 [.ref 47] (r.toList ++ []) h'))
    (k2 : ((I 47 12) < 22) → (¬ (I 47 12) < 16) → (19 < (I 47 12)) → mx_K1 l mX8_fail d [.ref 47, .int 1] (sk0 c, I) (fun r h' => mx_Go l (mx_rm (d + 1) 0 0) mX8_stepLeft (mx_Z Q 0 0) 0 0 65 [.ref 47] (r.toList ++ []) h'))
    (k3 : ((I 47 12) < 22) → (¬ (I 47 12) < 16) → (¬ 19 < (I 47 12)) → mx_K1 l mX8_stepReckoning d [.ref 47] (sk0 c, I) (fun r h' => mx_Go l (mx_rm (d + 1) 0 0) mX8_stepLeft (mx_Z Q 0 0) 0 0 57 [.ref 47] (r.toList ++ []) h'))
    (k4 : (¬ (I 47 12) < 22) → (24 < (I 47 12)) → ((I 47 12) < 16) → mx_K1 l mX8_fail d [.ref 47, .int 1] (sk0 c, I) (fun r h' => mx_Go l (mx_rm (d + 1) 0 0) mX8_stepLeft (mx_Z Q 0 0) 0 0 65 [.ref 47] (r.toList ++ []) h'))
    (k5 : (¬ (I 47 12) < 22) → (24 < (I 47 12)) → (¬ (I 47 12) < 16) → (19 < (I 47 12)) → mx_K1 l mX8_fail d [.ref 47, .int 1] (sk0 c, I) (fun r h' => mx_Go l (mx_rm (d + 1) 0 0) mX8_stepLeft (mx_Z Q 0 0) 0 0 65 [.ref 47] (r.toList ++ []) h'))
    (k6 : (¬ (I 47 12) < 22) → (24 < (I 47 12)) → (¬ (I 47 12) < 16) → (¬ 19 < (I 47 12)) → mx_K1 l mX8_stepReckoning d [.ref 47] (sk0 c, I) (fun r h' => mx_Go l (mx_rm (d + 1) 0 0) mX8_stepLeft (mx_Z Q 0 0) 0 0 57 [.ref 47] (r.toList ++ []) h'))
    (k7 : (¬ (I 47 12) < 22) → (¬ 24 < (I 47 12)) → mx_K1 l mX8_join d [.ref 47] (sk0 c, I) (fun r h' => mx_Go l (mx_rm (d + 1) 0 0) mX8_stepLeft (mx_Z Q 0 0) 0 0 22 [.ref 47] (r.toList ++ []) h')) :
    mx_Spec l mX8_stepLeft (d + 1) 0 0 [.ref 47] (sk0 c, I) Q := by
  refine mx_enter rfl (by simp [Value.category]) (Nat.le_of_ble_eq_true rfl) ?_
  change mx_Go l (mx_rm (d + 1) 0 0) mX8_stepLeft (mx_Z Q 0 0) 0 0 0 [.ref 47] [] (sk0 c, I)
  refine g_aload_n dX8_stepLeft_0 rfl rfl ?_
  refine rg_X8_12 (v := (I 47 12)) dX8_stepLeft_1 lf_X8_81 (sk_47 _) rfl ?_
  refine g_bipush (v := 22) dX8_stepLeft_4 (by decide) ?_
  refine g_icmp_lt (tgt := 35) dX8_stepLeft_6 (by decide) (fun c1 => ?_) (fun c2 => ?_)
  · skip
    refine g_aload_n dX8_stepLeft_35 rfl rfl ?_
    refine rg_X8_12 (v := (I 47 12)) dX8_stepLeft_36 lf_X8_81 (sk_47 _) rfl ?_
    refine g_bipush (v := 16) dX8_stepLeft_39 (by decide) ?_
    refine g_icmp_lt (tgt := 60) dX8_stepLeft_41 (by decide) (fun c3 => ?_) (fun c4 => ?_)
    · skip
      refine g_aload_n dX8_stepLeft_60 rfl rfl ?_
      refine g_iconst (v := 1) dX8_stepLeft_61 (by decide) ?_
      exact s_callV (M' := mX8_fail) (As := [.int 1]) (st := []) dX8_stepLeft_62 lm_X8_84 ovX8_fail (h := (sk0 c, I)) (sk_47 _) (show vwCl[8]? = some _ from rfl) rfl (by simp [Value.category]) (by decide) rfl (k1 c1 c3)
    · skip
      refine g_aload_n dX8_stepLeft_44 rfl rfl ?_
      refine rg_X8_12 (v := (I 47 12)) dX8_stepLeft_45 lf_X8_81 (sk_47 _) rfl ?_
      refine g_bipush (v := 19) dX8_stepLeft_48 (by decide) ?_
      refine g_icmp_gt (tgt := 60) dX8_stepLeft_50 (by decide) (fun c5 => ?_) (fun c6 => ?_)
      · skip
        refine g_aload_n dX8_stepLeft_60 rfl rfl ?_
        refine g_iconst (v := 1) dX8_stepLeft_61 (by decide) ?_
        exact s_callV (M' := mX8_fail) (As := [.int 1]) (st := []) dX8_stepLeft_62 lm_X8_84 ovX8_fail (h := (sk0 c, I)) (sk_47 _) (show vwCl[8]? = some _ from rfl) rfl (by simp [Value.category]) (by decide) rfl (k2 c1 c4 c5)
      · skip
        refine g_aload_n dX8_stepLeft_53 rfl rfl ?_
        exact s_callV (M' := mX8_stepReckoning) (As := []) (st := []) dX8_stepLeft_54 lm_X8_119 ovX8_stepReckoning (h := (sk0 c, I)) (sk_47 _) (show vwCl[8]? = some _ from rfl) rfl (by simp [Value.category]) (by decide) rfl (k3 c1 c4 c6)
  · skip
    refine g_aload_n dX8_stepLeft_9 rfl rfl ?_
    refine rg_X8_12 (v := (I 47 12)) dX8_stepLeft_10 lf_X8_81 (sk_47 _) rfl ?_
    refine g_bipush (v := 24) dX8_stepLeft_13 (by decide) ?_
    refine g_icmp_gt (tgt := 35) dX8_stepLeft_15 (by decide) (fun c7 => ?_) (fun c8 => ?_)
    · skip
      refine g_aload_n dX8_stepLeft_35 rfl rfl ?_
      refine rg_X8_12 (v := (I 47 12)) dX8_stepLeft_36 lf_X8_81 (sk_47 _) rfl ?_
      refine g_bipush (v := 16) dX8_stepLeft_39 (by decide) ?_
      refine g_icmp_lt (tgt := 60) dX8_stepLeft_41 (by decide) (fun c9 => ?_) (fun c10 => ?_)
      · skip
        refine g_aload_n dX8_stepLeft_60 rfl rfl ?_
        refine g_iconst (v := 1) dX8_stepLeft_61 (by decide) ?_
        exact s_callV (M' := mX8_fail) (As := [.int 1]) (st := []) dX8_stepLeft_62 lm_X8_84 ovX8_fail (h := (sk0 c, I)) (sk_47 _) (show vwCl[8]? = some _ from rfl) rfl (by simp [Value.category]) (by decide) rfl (k4 c2 c7 c9)
      · skip
        refine g_aload_n dX8_stepLeft_44 rfl rfl ?_
        refine rg_X8_12 (v := (I 47 12)) dX8_stepLeft_45 lf_X8_81 (sk_47 _) rfl ?_
        refine g_bipush (v := 19) dX8_stepLeft_48 (by decide) ?_
        refine g_icmp_gt (tgt := 60) dX8_stepLeft_50 (by decide) (fun c11 => ?_) (fun c12 => ?_)
        · skip
          refine g_aload_n dX8_stepLeft_60 rfl rfl ?_
          refine g_iconst (v := 1) dX8_stepLeft_61 (by decide) ?_
          exact s_callV (M' := mX8_fail) (As := [.int 1]) (st := []) dX8_stepLeft_62 lm_X8_84 ovX8_fail (h := (sk0 c, I)) (sk_47 _) (show vwCl[8]? = some _ from rfl) rfl (by simp [Value.category]) (by decide) rfl (k5 c2 c7 c10 c11)
        · skip
          refine g_aload_n dX8_stepLeft_53 rfl rfl ?_
          exact s_callV (M' := mX8_stepReckoning) (As := []) (st := []) dX8_stepLeft_54 lm_X8_119 ovX8_stepReckoning (h := (sk0 c, I)) (sk_47 _) (show vwCl[8]? = some _ from rfl) rfl (by simp [Value.category]) (by decide) rfl (k6 c2 c7 c10 c12)
    · skip
      refine g_aload_n dX8_stepLeft_18 rfl rfl ?_
      exact s_callV (M' := mX8_join) (As := []) (st := []) dX8_stepLeft_19 lm_X8_116 ovX8_join (h := (sk0 c, I)) (sk_47 _) (show vwCl[8]? = some _ from rfl) rfl (by simp [Value.category]) (by decide) rfl (k7 c2 c8)
set_option maxRecDepth 10000 in
set_option maxHeartbeats 1000000 in
theorem sg_X8_stepLeft_65 {l : Launch} {d : Nat} {Q : Option Value → mx_H → Prop} {c : Nat} {I : mx_I}
    (q1 : Q none (sk0 c, I)) :
    mx_Go l (mx_rm (d + 1) 0 0) mX8_stepLeft (mx_Z Q 0 0) 0 0 65 [.ref 47] [] (sk0 c, I) := by
  exact g_vret rfl dX8_stepLeft_65 rfl (Nat.le_refl _) (q1)
set_option maxRecDepth 10000 in
set_option maxHeartbeats 1000000 in
theorem sg_X8_stepLeft_57 {l : Launch} {d : Nat} {Q : Option Value → mx_H → Prop} {c : Nat} {I : mx_I}
    (q1 : Q none (sk0 c, I)) :
    mx_Go l (mx_rm (d + 1) 0 0) mX8_stepLeft (mx_Z Q 0 0) 0 0 57 [.ref 47] [] (sk0 c, I) := by
  refine g_goto (tgt := 65) dX8_stepLeft_57 (by decide) ?_
  exact g_vret rfl dX8_stepLeft_65 rfl (Nat.le_refl _) (q1)
set_option maxRecDepth 10000 in
set_option maxHeartbeats 1000000 in
theorem sg_X8_stepLeft_22 {l : Launch} {d : Nat} {Q : Option Value → mx_H → Prop} {c : Nat} {I : mx_I}
    (q1 : Q none (sk0 c, (mx_set (mx_set I 47 10 1) 47 9 3))) :
    mx_Go l (mx_rm (d + 1) 0 0) mX8_stepLeft (mx_Z Q 0 0) 0 0 22 [.ref 47] [] (sk0 c, I) := by
  refine g_aload_n dX8_stepLeft_22 rfl rfl ?_
  refine g_iconst (v := 1) dX8_stepLeft_23 (by decide) ?_
  refine rp_X8_10 (by decide) dX8_stepLeft_24 lf_X8_103 (sk_47 _) ?_
  refine g_aload_n dX8_stepLeft_27 rfl rfl ?_
  refine g_iconst (v := 3) dX8_stepLeft_28 (by decide) ?_
  refine rp_X8_9 dX8_stepLeft_29 lf_X8_45 (sk_47 _) ?_
  refine g_goto (tgt := 65) dX8_stepLeft_32 (by decide) ?_
  exact g_vret rfl dX8_stepLeft_65 rfl (Nat.le_refl _) (q1)
set_option maxRecDepth 10000 in
set_option maxHeartbeats 1000000 in
theorem sn_X8_stepRight {l : Launch} {d : Nat} {Q : Option Value → mx_H → Prop} {c : Nat} {I : mx_I}
    (k1 : ((I 47 12) < 16) → mx_K1 l mX8_stepClosed d [.ref 47] (sk0 c, I) (fun r h' => mx_Go l (mx_rm (d + 1) 0 0) mX8_stepRight (mx_Z Q 0 0) 0 0 29 [.ref 47] (r.toList ++ []) h'))
    (k2 : (¬ (I 47 12) < 16) → (19 < (I 47 12)) → mx_K1 l mX8_stepClosed d [.ref 47] (sk0 c, I) (fun r h' => mx_Go l (mx_rm (d + 1) 0 0) mX8_stepRight (mx_Z Q 0 0) 0 0 29 [.ref 47] (r.toList ++ []) h'))
    (k3 : (¬ (I 47 12) < 16) → (¬ 19 < (I 47 12)) → mx_K1 l mX8_stepReckoning d [.ref 47] (sk0 c, I) (fun r h' => mx_Go l (mx_rm (d + 1) 0 0) mX8_stepRight (mx_Z Q 0 0) 0 0 22 [.ref 47] (r.toList ++ []) h')) :
    mx_Spec l mX8_stepRight (d + 1) 0 0 [.ref 47] (sk0 c, I) Q := by
  refine mx_enter rfl (by simp [Value.category]) (Nat.le_of_ble_eq_true rfl) ?_
  change mx_Go l (mx_rm (d + 1) 0 0) mX8_stepRight (mx_Z Q 0 0) 0 0 0 [.ref 47] [] (sk0 c, I)
  refine g_aload_n dX8_stepRight_0 rfl rfl ?_
  refine rg_X8_12 (v := (I 47 12)) dX8_stepRight_1 lf_X8_81 (sk_47 _) rfl ?_
  refine g_bipush (v := 16) dX8_stepRight_4 (by decide) ?_
  refine g_icmp_lt (tgt := 25) dX8_stepRight_6 (by decide) (fun c1 => ?_) (fun c2 => ?_)
  · skip
    refine g_aload_n dX8_stepRight_25 rfl rfl ?_
    exact s_callV (M' := mX8_stepClosed) (As := []) (st := []) dX8_stepRight_26 lm_X8_78 ovX8_stepClosed (h := (sk0 c, I)) (sk_47 _) (show vwCl[8]? = some _ from rfl) rfl (by simp [Value.category]) (by decide) rfl (k1 c1)
  · skip
    refine g_aload_n dX8_stepRight_9 rfl rfl ?_
    refine rg_X8_12 (v := (I 47 12)) dX8_stepRight_10 lf_X8_81 (sk_47 _) rfl ?_
    refine g_bipush (v := 19) dX8_stepRight_13 (by decide) ?_
    refine g_icmp_gt (tgt := 25) dX8_stepRight_15 (by decide) (fun c3 => ?_) (fun c4 => ?_)
    · skip
      refine g_aload_n dX8_stepRight_25 rfl rfl ?_
      exact s_callV (M' := mX8_stepClosed) (As := []) (st := []) dX8_stepRight_26 lm_X8_78 ovX8_stepClosed (h := (sk0 c, I)) (sk_47 _) (show vwCl[8]? = some _ from rfl) rfl (by simp [Value.category]) (by decide) rfl (k2 c2 c3)
    · skip
      refine g_aload_n dX8_stepRight_18 rfl rfl ?_
      exact s_callV (M' := mX8_stepReckoning) (As := []) (st := []) dX8_stepRight_19 lm_X8_119 ovX8_stepReckoning (h := (sk0 c, I)) (sk_47 _) (show vwCl[8]? = some _ from rfl) rfl (by simp [Value.category]) (by decide) rfl (k3 c2 c4)
set_option maxRecDepth 10000 in
set_option maxHeartbeats 1000000 in
theorem sg_X8_stepRight_29 {l : Launch} {d : Nat} {Q : Option Value → mx_H → Prop} {c : Nat} {I : mx_I}
    (q1 : Q none (sk0 c, I)) :
    mx_Go l (mx_rm (d + 1) 0 0) mX8_stepRight (mx_Z Q 0 0) 0 0 29 [.ref 47] [] (sk0 c, I) := by
  exact g_vret rfl dX8_stepRight_29 rfl (Nat.le_refl _) (q1)
set_option maxRecDepth 10000 in
set_option maxHeartbeats 1000000 in
theorem sg_X8_stepRight_22 {l : Launch} {d : Nat} {Q : Option Value → mx_H → Prop} {c : Nat} {I : mx_I}
    (q1 : Q none (sk0 c, I)) :
    mx_Go l (mx_rm (d + 1) 0 0) mX8_stepRight (mx_Z Q 0 0) 0 0 22 [.ref 47] [] (sk0 c, I) := by
  refine g_goto (tgt := 29) dX8_stepRight_22 (by decide) ?_
  exact g_vret rfl dX8_stepRight_29 rfl (Nat.le_refl _) (q1)
set_option maxRecDepth 10000 in
set_option maxHeartbeats 1000000 in
theorem sn_X8_stepReckoning {l : Launch} {d : Nat} {Q : Option Value → mx_H → Prop} {c : Nat} {I : mx_I}
    (k1 : mx_K1 l mX8_join d [.ref 47] (sk0 c, I) (fun r h' => mx_Go l (mx_rm (d + 1) 0 0) mX8_stepReckoning (mx_Z Q 0 0) 0 0 4 [.ref 47] (r.toList ++ []) h')) :
    mx_Spec l mX8_stepReckoning (d + 1) 0 0 [.ref 47] (sk0 c, I) Q := by
  refine mx_enter rfl (by simp [Value.category]) (Nat.le_of_ble_eq_true rfl) ?_
  change mx_Go l (mx_rm (d + 1) 0 0) mX8_stepReckoning (mx_Z Q 0 0) 0 0 0 [.ref 47] [] (sk0 c, I)
  refine g_aload_n dX8_stepReckoning_0 rfl rfl ?_
  exact s_callV (M' := mX8_join) (As := []) (st := []) dX8_stepReckoning_1 lm_X8_116 ovX8_join (h := (sk0 c, I)) (sk_47 _) (show vwCl[8]? = some _ from rfl) rfl (by simp [Value.category]) (by decide) rfl (k1)
set_option maxRecDepth 10000 in
set_option maxHeartbeats 1000000 in
theorem sg_X8_stepReckoning_4 {l : Launch} {d : Nat} {Q : Option Value → mx_H → Prop} {c : Nat} {I : mx_I}
    (q1 : (¬ (I 47 12) = 19) → Q none (sk0 c, (mx_set I 47 9 3)))
    (q2 : ((I 47 12) = 19) → Q none (sk0 c, (mx_set I 47 9 4))) :
    mx_Go l (mx_rm (d + 1) 0 0) mX8_stepReckoning (mx_Z Q 0 0) 0 0 4 [.ref 47] [] (sk0 c, I) := by
  refine g_aload_n dX8_stepReckoning_4 rfl rfl ?_
  refine g_aload_n dX8_stepReckoning_5 rfl rfl ?_
  refine rg_X8_12 (v := (I 47 12)) dX8_stepReckoning_6 lf_X8_81 (sk_47 _) rfl ?_
  refine g_bipush (v := 19) dX8_stepReckoning_9 (by decide) ?_
  refine g_icmp_ne (tgt := 18) dX8_stepReckoning_11 (by decide) (fun c1 => ?_) (fun c2 => ?_)
  · skip
    refine g_iconst (v := 3) dX8_stepReckoning_18 (by decide) ?_
    refine rp_X8_9 dX8_stepReckoning_19 lf_X8_45 (sk_47 _) ?_
    exact g_vret rfl dX8_stepReckoning_22 rfl (Nat.le_refl _) (q1 c1)
  · skip
    refine g_iconst (v := 4) dX8_stepReckoning_14 (by decide) ?_
    refine g_goto (tgt := 19) dX8_stepReckoning_15 (by decide) ?_
    refine rp_X8_9 dX8_stepReckoning_19 lf_X8_45 (sk_47 _) ?_
    exact g_vret rfl dX8_stepReckoning_22 rfl (Nat.le_refl _) (q2 c2)
set_option maxRecDepth 10000 in
set_option maxHeartbeats 1000000 in
theorem sn_X8_stepClosed {l : Launch} {d : Nat} {Q : Option Value → mx_H → Prop} {c : Nat} {I : mx_I}
    (k1 : ((I 47 12) = 6) → mx_K1 l mX8_join d [.ref 47] (sk0 c, I) (fun r h' => mx_Go l (mx_rm (d + 1) 0 0) mX8_stepClosed (mx_Z Q 0 0) 0 0 21 [.ref 47] (r.toList ++ []) h'))
    (k2 : (¬ (I 47 12) = 6) → (¬ (I 47 12) = 5) → (¬ (I 47 12) = 21) → (¬ (I 47 12) = 15) → mx_K1 l mX8_fail d [.ref 47, .int 1] (sk0 c, I) (fun r h' => mx_Go l (mx_rm (d + 1) 0 0) mX8_stepClosed (mx_Z Q 0 0) 0 0 147 [.ref 47] (r.toList ++ []) h'))
    (k3 : (¬ (I 47 12) = 6) → (¬ (I 47 12) = 5) → (¬ (I 47 12) = 21) → ((I 47 12) = 15) → (¬ (I 47 8) = 0) → mx_K1 l mX8_fail d [.ref 47, .int 1] (sk0 c, I) (fun r h' => mx_Go l (mx_rm (d + 1) 0 0) mX8_stepClosed (mx_Z Q 0 0) 0 0 147 [.ref 47] (r.toList ++ []) h'))
    (k4 : (¬ (I 47 12) = 6) → (¬ (I 47 12) = 5) → (¬ (I 47 12) = 21) → ((I 47 12) = 15) → ((I 47 8) = 0) → mx_K1 l mX8_rank d [.int 5] (sk0 c, I) (fun r h' => mx_Go l (mx_rm (d + 1) 0 0) mX8_stepClosed (mx_Z Q 0 0) 0 0 124 [.ref 47] (r.toList ++ [.ref 47]) h'))
    (k5 : (¬ (I 47 12) = 6) → (¬ (I 47 12) = 5) → ((I 47 12) = 21) → ((I 47 8) ≤ 0) → (¬ (I 47 12) = 15) → mx_K1 l mX8_fail d [.ref 47, .int 1] (sk0 c, I) (fun r h' => mx_Go l (mx_rm (d + 1) 0 0) mX8_stepClosed (mx_Z Q 0 0) 0 0 147 [.ref 47] (r.toList ++ []) h'))
    (k6 : (¬ (I 47 12) = 6) → (¬ (I 47 12) = 5) → ((I 47 12) = 21) → ((I 47 8) ≤ 0) → ((I 47 12) = 15) → (¬ (I 47 8) = 0) → mx_K1 l mX8_fail d [.ref 47, .int 1] (sk0 c, I) (fun r h' => mx_Go l (mx_rm (d + 1) 0 0) mX8_stepClosed (mx_Z Q 0 0) 0 0 147 [.ref 47] (r.toList ++ []) h'))
    (k7 : (¬ (I 47 12) = 6) → (¬ (I 47 12) = 5) → ((I 47 12) = 21) → ((I 47 8) ≤ 0) → ((I 47 12) = 15) → ((I 47 8) = 0) → mx_K1 l mX8_rank d [.int 5] (sk0 c, I) (fun r h' => mx_Go l (mx_rm (d + 1) 0 0) mX8_stepClosed (mx_Z Q 0 0) 0 0 124 [.ref 47] (r.toList ++ [.ref 47]) h'))
    (k8 : (¬ (I 47 12) = 6) → (¬ (I 47 12) = 5) → ((I 47 12) = 21) → (¬ (I 47 8) ≤ 0) → mx_K1 l mX8_rank d [.int 5] (sk0 c, I) (fun r h' => mx_Go l (mx_rm (d + 1) 0 0) mX8_stepClosed (mx_Z Q 0 0) 0 0 50 [.ref 47] (r.toList ++ [.ref 47]) h'))
    (k9 : (¬ (I 47 12) = 6) → ((I 47 12) = 5) → mx_K1 l mX8_join d [.ref 47] (sk0 c, I) (fun r h' => mx_Go l (mx_rm (d + 1) 0 0) mX8_stepClosed (mx_Z Q 0 0) 0 0 21 [.ref 47] (r.toList ++ []) h')) :
    mx_Spec l mX8_stepClosed (d + 1) 0 0 [.ref 47] (sk0 c, I) Q := by
  refine mx_enter rfl (by simp [Value.category]) (Nat.le_of_ble_eq_true rfl) ?_
  change mx_Go l (mx_rm (d + 1) 0 0) mX8_stepClosed (mx_Z Q 0 0) 0 0 0 [.ref 47] [] (sk0 c, I)
  refine g_aload_n dX8_stepClosed_0 rfl rfl ?_
  refine rg_X8_12 (v := (I 47 12)) dX8_stepClosed_1 lf_X8_81 (sk_47 _) rfl ?_
  refine g_bipush (v := 6) dX8_stepClosed_4 (by decide) ?_
  refine g_icmp_eq (tgt := 17) dX8_stepClosed_6 (by decide) (fun c1 => ?_) (fun c2 => ?_)
  · skip
    refine g_aload_n dX8_stepClosed_17 rfl rfl ?_
    exact s_callV (M' := mX8_join) (As := []) (st := []) dX8_stepClosed_18 lm_X8_116 ovX8_join (h := (sk0 c, I)) (sk_47 _) (show vwCl[8]? = some _ from rfl) rfl (by simp [Value.category]) (by decide) rfl (k1 c1)
  · skip
    refine g_aload_n dX8_stepClosed_9 rfl rfl ?_
    refine rg_X8_12 (v := (I 47 12)) dX8_stepClosed_10 lf_X8_81 (sk_47 _) rfl ?_
    refine g_iconst (v := 5) dX8_stepClosed_13 (by decide) ?_
    refine g_icmp_ne (tgt := 29) dX8_stepClosed_14 (by decide) (fun c3 => ?_) (fun c4 => ?_)
    · skip
      refine g_aload_n dX8_stepClosed_29 rfl rfl ?_
      refine rg_X8_12 (v := (I 47 12)) dX8_stepClosed_30 lf_X8_81 (sk_47 _) rfl ?_
      refine g_bipush (v := 21) dX8_stepClosed_33 (by decide) ?_
      refine g_icmp_ne (tgt := 103) dX8_stepClosed_35 (by decide) (fun c5 => ?_) (fun c6 => ?_)
      · skip
        refine g_aload_n dX8_stepClosed_103 rfl rfl ?_
        refine rg_X8_12 (v := (I 47 12)) dX8_stepClosed_104 lf_X8_81 (sk_47 _) rfl ?_
        refine g_bipush (v := 15) dX8_stepClosed_107 (by decide) ?_
        refine g_icmp_ne (tgt := 142) dX8_stepClosed_109 (by decide) (fun c7 => ?_) (fun c8 => ?_)
        · skip
          refine g_aload_n dX8_stepClosed_142 rfl rfl ?_
          refine g_iconst (v := 1) dX8_stepClosed_143 (by decide) ?_
          exact s_callV (M' := mX8_fail) (As := [.int 1]) (st := []) dX8_stepClosed_144 lm_X8_84 ovX8_fail (h := (sk0 c, I)) (sk_47 _) (show vwCl[8]? = some _ from rfl) rfl (by simp [Value.category]) (by decide) rfl (k2 c2 c3 c5 c7)
        · skip
          refine g_aload_n dX8_stepClosed_112 rfl rfl ?_
          refine rg_X8_8 (v := (I 47 8)) dX8_stepClosed_113 lf_X8_97 (sk_47 _) rfl ?_
          refine g_if_ne (tgt := 142) dX8_stepClosed_116 (by decide) (fun c9 => ?_) (fun c10 => ?_)
          · skip
            refine g_aload_n dX8_stepClosed_142 rfl rfl ?_
            refine g_iconst (v := 1) dX8_stepClosed_143 (by decide) ?_
            exact s_callV (M' := mX8_fail) (As := [.int 1]) (st := []) dX8_stepClosed_144 lm_X8_84 ovX8_fail (h := (sk0 c, I)) (sk_47 _) (show vwCl[8]? = some _ from rfl) rfl (by simp [Value.category]) (by decide) rfl (k3 c2 c3 c5 c8 c9)
          · skip
            refine g_aload_n dX8_stepClosed_119 rfl rfl ?_
            refine g_iconst (v := 5) dX8_stepClosed_120 (by decide) ?_
            exact s_callS (M' := mX8_rank) (As := [.int 5]) (st := [.ref 47]) dX8_stepClosed_121 lm_X8_122 okX8_rank osX8_rank (by simp [Value.category]) (by decide) rfl (k4 c2 c3 c5 c8 c10)
      · skip
        refine g_aload_n dX8_stepClosed_38 rfl rfl ?_
        refine rg_X8_8 (v := (I 47 8)) dX8_stepClosed_39 lf_X8_97 (sk_47 _) rfl ?_
        refine g_if_le (tgt := 103) dX8_stepClosed_42 (by decide) (fun c11 => ?_) (fun c12 => ?_)
        · skip
          refine g_aload_n dX8_stepClosed_103 rfl rfl ?_
          refine rg_X8_12 (v := (I 47 12)) dX8_stepClosed_104 lf_X8_81 (sk_47 _) rfl ?_
          refine g_bipush (v := 15) dX8_stepClosed_107 (by decide) ?_
          refine g_icmp_ne (tgt := 142) dX8_stepClosed_109 (by decide) (fun c13 => ?_) (fun c14 => ?_)
          · skip
            refine g_aload_n dX8_stepClosed_142 rfl rfl ?_
            refine g_iconst (v := 1) dX8_stepClosed_143 (by decide) ?_
            exact s_callV (M' := mX8_fail) (As := [.int 1]) (st := []) dX8_stepClosed_144 lm_X8_84 ovX8_fail (h := (sk0 c, I)) (sk_47 _) (show vwCl[8]? = some _ from rfl) rfl (by simp [Value.category]) (by decide) rfl (k5 c2 c3 c6 c11 c13)
          · skip
            refine g_aload_n dX8_stepClosed_112 rfl rfl ?_
            refine rg_X8_8 (v := (I 47 8)) dX8_stepClosed_113 lf_X8_97 (sk_47 _) rfl ?_
            refine g_if_ne (tgt := 142) dX8_stepClosed_116 (by decide) (fun c15 => ?_) (fun c16 => ?_)
            · skip
              refine g_aload_n dX8_stepClosed_142 rfl rfl ?_
              refine g_iconst (v := 1) dX8_stepClosed_143 (by decide) ?_
              exact s_callV (M' := mX8_fail) (As := [.int 1]) (st := []) dX8_stepClosed_144 lm_X8_84 ovX8_fail (h := (sk0 c, I)) (sk_47 _) (show vwCl[8]? = some _ from rfl) rfl (by simp [Value.category]) (by decide) rfl (k6 c2 c3 c6 c11 c14 c15)
            · skip
              refine g_aload_n dX8_stepClosed_119 rfl rfl ?_
              refine g_iconst (v := 5) dX8_stepClosed_120 (by decide) ?_
              exact s_callS (M' := mX8_rank) (As := [.int 5]) (st := [.ref 47]) dX8_stepClosed_121 lm_X8_122 okX8_rank osX8_rank (by simp [Value.category]) (by decide) rfl (k7 c2 c3 c6 c11 c14 c16)
        · skip
          refine g_aload_n dX8_stepClosed_45 rfl rfl ?_
          refine g_iconst (v := 5) dX8_stepClosed_46 (by decide) ?_
          exact s_callS (M' := mX8_rank) (As := [.int 5]) (st := [.ref 47]) dX8_stepClosed_47 lm_X8_122 okX8_rank osX8_rank (by simp [Value.category]) (by decide) rfl (k8 c2 c3 c6 c12)
    · skip
      refine g_aload_n dX8_stepClosed_17 rfl rfl ?_
      exact s_callV (M' := mX8_join) (As := []) (st := []) dX8_stepClosed_18 lm_X8_116 ovX8_join (h := (sk0 c, I)) (sk_47 _) (show vwCl[8]? = some _ from rfl) rfl (by simp [Value.category]) (by decide) rfl (k9 c2 c4)
set_option maxRecDepth 10000 in
set_option maxHeartbeats 1000000 in
theorem sg_X8_stepClosed_21 {l : Launch} {d : Nat} {Q : Option Value → mx_H → Prop} {c : Nat} {I : mx_I}
    (q1 : Q none (sk0 c, (mx_set I 47 9 2))) :
    mx_Go l (mx_rm (d + 1) 0 0) mX8_stepClosed (mx_Z Q 0 0) 0 0 21 [.ref 47] [] (sk0 c, I) := by
  refine g_aload_n dX8_stepClosed_21 rfl rfl ?_
  refine g_iconst (v := 2) dX8_stepClosed_22 (by decide) ?_
  refine rp_X8_9 dX8_stepClosed_23 lf_X8_45 (sk_47 _) ?_
  refine g_goto (tgt := 147) dX8_stepClosed_26 (by decide) ?_
  exact g_vret rfl dX8_stepClosed_147 rfl (Nat.le_refl _) (q1)
set_option maxRecDepth 10000 in
set_option maxHeartbeats 1000000 in
theorem sg_X8_stepClosed_147 {l : Launch} {d : Nat} {Q : Option Value → mx_H → Prop} {c : Nat} {I : mx_I}
    (q1 : Q none (sk0 c, I)) :
    mx_Go l (mx_rm (d + 1) 0 0) mX8_stepClosed (mx_Z Q 0 0) 0 0 147 [.ref 47] [] (sk0 c, I) := by
  exact g_vret rfl dX8_stepClosed_147 rfl (Nat.le_refl _) (q1)
set_option maxRecDepth 10000 in
set_option maxHeartbeats 1000000 in
theorem sg_X8_stepClosed_124 {l : Launch} {d : Nat} {Q : Option Value → mx_H → Prop} {c : Nat} {I : mx_I} (x1 : Int32)
    (k1 : mx_K1 l mX8_release d [.ref 47, .int x1] (sk0 c, I) (fun r h' => mx_Go l (mx_rm (d + 1) 0 0) mX8_stepClosed (mx_Z Q 0 0) 0 0 127 [.ref 47] (r.toList ++ []) h')) :
    mx_Go l (mx_rm (d + 1) 0 0) mX8_stepClosed (mx_Z Q 0 0) 0 0 124 [.ref 47] [.int x1, .ref 47] (sk0 c, I) := by
  exact s_callV (M' := mX8_release) (As := [.int x1]) (st := []) dX8_stepClosed_124 lm_X8_126 ovX8_release (h := (sk0 c, I)) (sk_47 _) (show vwCl[8]? = some _ from rfl) rfl (by simp [Value.category]) (by decide) rfl (k1)
set_option maxRecDepth 10000 in
set_option maxHeartbeats 1000000 in
theorem sg_X8_stepClosed_50 {l : Launch} {d : Nat} {Q : Option Value → mx_H → Prop} {c : Nat} {I : mx_I} (x1 : Int32)
    (k1 : mx_K1 l mX8_release d [.ref 47, .int x1] (sk0 c, I) (fun r h' => mx_Go l (mx_rm (d + 1) 0 0) mX8_stepClosed (mx_Z Q 0 0) 0 0 53 [.ref 47] (r.toList ++ []) h')) :
    mx_Go l (mx_rm (d + 1) 0 0) mX8_stepClosed (mx_Z Q 0 0) 0 0 50 [.ref 47] [.int x1, .ref 47] (sk0 c, I) := by
  exact s_callV (M' := mX8_release) (As := [.int x1]) (st := []) dX8_stepClosed_50 lm_X8_126 ovX8_release (h := (sk0 c, I)) (sk_47 _) (show vwCl[8]? = some _ from rfl) rfl (by simp [Value.category]) (by decide) rfl (k1)
set_option maxRecDepth 10000 in
set_option maxHeartbeats 1000000 in
theorem sg_X8_stepClosed_127 {l : Launch} {d : Nat} {Q : Option Value → mx_H → Prop} {c : Nat} {I : mx_I}
    (k1 : mx_K1 l mX3_closeLine d [.ref 49] (sk0 c, I) (fun r h' => mx_Go l (mx_rm (d + 1) 0 0) mX8_stepClosed (mx_Z Q 0 0) 0 0 134 [.ref 47] (r.toList ++ []) h')) :
    mx_Go l (mx_rm (d + 1) 0 0) mX8_stepClosed (mx_Z Q 0 0) 0 0 127 [.ref 47] [] (sk0 c, I) := by
  refine g_aload_n dX8_stepClosed_127 rfl rfl ?_
  refine rg_X8_1 (r := 49) dX8_stepClosed_128 lf_X8_18 (sk_47 _) rfl ?_
  exact s_callV (M' := mX3_closeLine) (As := []) (st := []) dX8_stepClosed_131 lm_X8_100 ovX3_closeLine (h := (sk0 c, I)) (sk_49 _) (show vwCl[3]? = some _ from rfl) rfl (by simp [Value.category]) (by decide) rfl (k1)
set_option maxRecDepth 10000 in
set_option maxHeartbeats 1000000 in
theorem sg_X8_stepClosed_53 {l : Launch} {d : Nat} {Q : Option Value → mx_H → Prop} {c : Nat} {I : mx_I}
    (q1 : ((I 47 6) ≤ 0) → Q none (sk0 c, (mx_set (mx_set (mx_set (mx_set I 47 6 ((I 47 6) - 0)) 47 8 ((I 47 8) - 1)) 47 7 ((I 47 7) - 1)) 47 9 7)))
    (q2 : (¬ (I 47 6) ≤ 0) → Q none (sk0 c, (mx_set (mx_set (mx_set (mx_set I 47 6 ((I 47 6) - 1)) 47 8 ((I 47 8) - 1)) 47 7 ((I 47 7) - 1)) 47 9 7))) :
    mx_Go l (mx_rm (d + 1) 0 0) mX8_stepClosed (mx_Z Q 0 0) 0 0 53 [.ref 47] [] (sk0 c, I) := by
  refine g_aload_n dX8_stepClosed_53 rfl rfl ?_
  refine g_dup dX8_stepClosed_54 rfl ?_
  refine rg_X8_6 (v := (I 47 6)) dX8_stepClosed_55 lf_X8_91 (sk_47 _) rfl ?_
  refine g_aload_n dX8_stepClosed_58 rfl rfl ?_
  refine rg_X8_6 (v := (I 47 6)) dX8_stepClosed_59 lf_X8_91 (sk_47 _) rfl ?_
  refine g_if_le (tgt := 69) dX8_stepClosed_62 (by decide) (fun c1 => ?_) (fun c2 => ?_)
  · skip
    refine g_iconst (v := 0) dX8_stepClosed_69 (by decide) ?_
    refine g_isub dX8_stepClosed_70 ?_
    refine rp_X8_6 dX8_stepClosed_71 lf_X8_91 (sk_47 _) ?_
    refine g_aload_n dX8_stepClosed_74 rfl rfl ?_
    refine g_dup dX8_stepClosed_75 rfl ?_
    refine rg_X8_8 (v := (I 47 8)) dX8_stepClosed_76 lf_X8_97 (sk_47 _) (rd_sl (by decide) rfl) ?_
    refine g_iconst (v := 1) dX8_stepClosed_79 (by decide) ?_
    refine g_isub dX8_stepClosed_80 ?_
    refine rp_X8_8 dX8_stepClosed_81 lf_X8_97 (sk_47 _) ?_
    refine g_aload_n dX8_stepClosed_84 rfl rfl ?_
    refine g_dup dX8_stepClosed_85 rfl ?_
    refine rg_X8_7 (v := (I 47 7)) dX8_stepClosed_86 lf_X8_94 (sk_47 _) (rd_sl (by decide) (rd_sl (by decide) rfl)) ?_
    refine g_iconst (v := 1) dX8_stepClosed_89 (by decide) ?_
    refine g_isub dX8_stepClosed_90 ?_
    refine rp_X8_7 dX8_stepClosed_91 lf_X8_94 (sk_47 _) ?_
    refine g_aload_n dX8_stepClosed_94 rfl rfl ?_
    refine g_bipush (v := 7) dX8_stepClosed_95 (by decide) ?_
    refine rp_X8_9 dX8_stepClosed_97 lf_X8_45 (sk_47 _) ?_
    refine g_goto (tgt := 147) dX8_stepClosed_100 (by decide) ?_
    exact g_vret rfl dX8_stepClosed_147 rfl (Nat.le_refl _) (q1 c1)
  · skip
    refine g_iconst (v := 1) dX8_stepClosed_65 (by decide) ?_
    refine g_goto (tgt := 70) dX8_stepClosed_66 (by decide) ?_
    refine g_isub dX8_stepClosed_70 ?_
    refine rp_X8_6 dX8_stepClosed_71 lf_X8_91 (sk_47 _) ?_
    refine g_aload_n dX8_stepClosed_74 rfl rfl ?_
    refine g_dup dX8_stepClosed_75 rfl ?_
    refine rg_X8_8 (v := (I 47 8)) dX8_stepClosed_76 lf_X8_97 (sk_47 _) (rd_sl (by decide) rfl) ?_
    refine g_iconst (v := 1) dX8_stepClosed_79 (by decide) ?_
    refine g_isub dX8_stepClosed_80 ?_
    refine rp_X8_8 dX8_stepClosed_81 lf_X8_97 (sk_47 _) ?_
    refine g_aload_n dX8_stepClosed_84 rfl rfl ?_
    refine g_dup dX8_stepClosed_85 rfl ?_
    refine rg_X8_7 (v := (I 47 7)) dX8_stepClosed_86 lf_X8_94 (sk_47 _) (rd_sl (by decide) (rd_sl (by decide) rfl)) ?_
    refine g_iconst (v := 1) dX8_stepClosed_89 (by decide) ?_
    refine g_isub dX8_stepClosed_90 ?_
    refine rp_X8_7 dX8_stepClosed_91 lf_X8_94 (sk_47 _) ?_
    refine g_aload_n dX8_stepClosed_94 rfl rfl ?_
    refine g_bipush (v := 7) dX8_stepClosed_95 (by decide) ?_
    refine rp_X8_9 dX8_stepClosed_97 lf_X8_45 (sk_47 _) ?_
    refine g_goto (tgt := 147) dX8_stepClosed_100 (by decide) ?_
    exact g_vret rfl dX8_stepClosed_147 rfl (Nat.le_refl _) (q2 c2)
set_option maxRecDepth 10000 in
set_option maxHeartbeats 1000000 in
theorem sg_X8_stepClosed_134 {l : Launch} {d : Nat} {Q : Option Value → mx_H → Prop} {c : Nat} {I : mx_I}
    (q1 : Q none (sk0 c, (mx_set I 47 9 0))) :
    mx_Go l (mx_rm (d + 1) 0 0) mX8_stepClosed (mx_Z Q 0 0) 0 0 134 [.ref 47] [] (sk0 c, I) := by
  refine g_aload_n dX8_stepClosed_134 rfl rfl ?_
  refine g_iconst (v := 0) dX8_stepClosed_135 (by decide) ?_
  refine rp_X8_9 dX8_stepClosed_136 lf_X8_45 (sk_47 _) ?_
  refine g_goto (tgt := 147) dX8_stepClosed_139 (by decide) ?_
  exact g_vret rfl dX8_stepClosed_147 rfl (Nat.le_refl _) (q1)
set_option maxRecDepth 10000 in
set_option maxHeartbeats 1000000 in
theorem sn_X8_join {l : Launch} {d : Nat} {Q : Option Value → mx_H → Prop} {c : Nat} {I : mx_I}
    (k1 : mx_K1 l mX8_rank d [.int (I 47 12)] (sk0 c, I) (fun r h' => mx_Go l (mx_rm (d + 1) 0 0) mX8_join (mx_Z Q 0 0) 0 0 8 [.ref 47] (r.toList ++ [.ref 47]) h')) :
    mx_Spec l mX8_join (d + 1) 0 0 [.ref 47] (sk0 c, I) Q := by
  refine mx_enter rfl (by simp [Value.category]) (Nat.le_of_ble_eq_true rfl) ?_
  change mx_Go l (mx_rm (d + 1) 0 0) mX8_join (mx_Z Q 0 0) 0 0 0 [.ref 47] [] (sk0 c, I)
  refine g_aload_n dX8_join_0 rfl rfl ?_
  refine g_aload_n dX8_join_1 rfl rfl ?_
  refine rg_X8_12 (v := (I 47 12)) dX8_join_2 lf_X8_81 (sk_47 _) rfl ?_
  exact s_callS (M' := mX8_rank) (As := [.int (I 47 12)]) (st := [.ref 47]) dX8_join_5 lm_X8_122 okX8_rank osX8_rank (by simp [Value.category]) (by decide) rfl (k1)
set_option maxRecDepth 10000 in
set_option maxHeartbeats 1000000 in
theorem sg_X8_join_8 {l : Launch} {d : Nat} {Q : Option Value → mx_H → Prop} {c : Nat} {I : mx_I} (x1 : Int32)
    (k1 : mx_K1 l mX8_release d [.ref 47, .int x1] (sk0 c, I) (fun r h' => mx_Go l (mx_rm (d + 1) 0 0) mX8_join (mx_Z Q 0 0) 0 0 11 [.ref 47] (r.toList ++ []) h')) :
    mx_Go l (mx_rm (d + 1) 0 0) mX8_join (mx_Z Q 0 0) 0 0 8 [.ref 47] [.int x1, .ref 47] (sk0 c, I) := by
  exact s_callV (M' := mX8_release) (As := [.int x1]) (st := []) dX8_join_8 lm_X8_126 ovX8_release (h := (sk0 c, I)) (sk_47 _) (show vwCl[8]? = some _ from rfl) rfl (by simp [Value.category]) (by decide) rfl (k1)
set_option maxRecDepth 10000 in
set_option maxHeartbeats 1000000 in
theorem sg_X8_join_11 {l : Launch} {d : Nat} {Q : Option Value → mx_H → Prop} {c : Nat} {I : mx_I}
    (k1 : mx_K1 l mX8_hold d [.ref 47, .int (I 47 12)] (sk0 c, I) (fun r h' => mx_Go l (mx_rm (d + 1) 0 0) mX8_join (mx_Z Q 0 0) 0 0 19 [.ref 47] (r.toList ++ []) h')) :
    mx_Go l (mx_rm (d + 1) 0 0) mX8_join (mx_Z Q 0 0) 0 0 11 [.ref 47] [] (sk0 c, I) := by
  refine g_aload_n dX8_join_11 rfl rfl ?_
  refine g_aload_n dX8_join_12 rfl rfl ?_
  refine rg_X8_12 (v := (I 47 12)) dX8_join_13 lf_X8_81 (sk_47 _) rfl ?_
  exact s_callV (M' := mX8_hold) (As := [.int (I 47 12)]) (st := []) dX8_join_16 lm_X8_107 ovX8_hold (h := (sk0 c, I)) (sk_47 _) (show vwCl[8]? = some _ from rfl) rfl (by simp [Value.category]) (by decide) rfl (k1)
set_option maxRecDepth 10000 in
set_option maxHeartbeats 1000000 in
theorem sg_X8_join_19 {l : Launch} {d : Nat} {Q : Option Value → mx_H → Prop} {c : Nat} {I : mx_I}
    (q1 : Q none (sk0 c, I)) :
    mx_Go l (mx_rm (d + 1) 0 0) mX8_join (mx_Z Q 0 0) 0 0 19 [.ref 47] [] (sk0 c, I) := by
  exact g_vret rfl dX8_join_19 rfl (Nat.le_refl _) (q1)
set_option maxRecDepth 10000 in
set_option maxHeartbeats 1000000 in
theorem sn_X8_hold {l : Launch} {d : Nat} {Q : Option Value → mx_H → Prop} {c : Nat} {I : mx_I} (a1 : Int32)
    (q1 : (64 ≤ (I 47 6)) → Q none (sk0 c, I))
    (b2 : (¬ 64 ≤ (I 47 6)) → vp_in (I 47 6) 64)
    (q3 : (¬ 64 ≤ (I 47 6)) → Q none (sk0 c, (mx_set (mx_set I 54 (I 47 6).toNatClampNeg a1) 47 6 ((I 47 6) + 1)))) :
    mx_Spec l mX8_hold (d + 1) 0 0 [.ref 47, .int a1] (sk0 c, I) Q := by
  refine mx_enter rfl (by simp [Value.category]) (Nat.le_of_ble_eq_true rfl) ?_
  change mx_Go l (mx_rm (d + 1) 0 0) mX8_hold (mx_Z Q 0 0) 0 0 0 [.ref 47, .int a1] [] (sk0 c, I)
  refine g_aload_n dX8_hold_0 rfl rfl ?_
  refine rg_X8_6 (v := (I 47 6)) dX8_hold_1 lf_X8_91 (sk_47 _) rfl ?_
  refine g_bipush (v := 64) dX8_hold_4 (by decide) ?_
  refine g_icmp_ge (tgt := 29) dX8_hold_6 (by decide) (fun c1 => ?_) (fun c2 => ?_)
  · skip
    exact g_vret rfl dX8_hold_29 rfl (Nat.le_refl _) (q1 c1)
  · skip
    refine g_aload_n dX8_hold_9 rfl rfl ?_
    refine rg_X8_2 (r := 54) dX8_hold_10 lf_X8_22 (sk_47 _) rfl ?_
    refine g_aload_n dX8_hold_13 rfl rfl ?_
    refine rg_X8_6 (v := (I 47 6)) dX8_hold_14 lf_X8_91 (sk_47 _) rfl ?_
    refine g_iload_n dX8_hold_17 rfl rfl ?_
    refine s_iast (j := (I 47 6).toNatClampNeg) dX8_hold_18 (sk_54 _) (b2 c2) rfl ?_
    refine g_aload_n dX8_hold_19 rfl rfl ?_
    refine g_dup dX8_hold_20 rfl ?_
    refine rg_X8_6 (v := (I 47 6)) dX8_hold_21 lf_X8_91 (sk_47 _) (rd_ne (by decide) rfl) ?_
    refine g_iconst (v := 1) dX8_hold_24 (by decide) ?_
    refine g_iadd dX8_hold_25 ?_
    refine rp_X8_6 dX8_hold_26 lf_X8_91 (sk_47 _) ?_
    exact g_vret rfl dX8_hold_29 rfl (Nat.le_refl _) (q3 c2)
set_option maxRecDepth 10000 in
set_option maxHeartbeats 1000000 in
theorem sn_X8_release {l : Launch} {d : Nat} {Q : Option Value → mx_H → Prop} {c : Nat} {I : mx_I} (a1 : Int32)
    (e1 : mx_Go l (mx_rm (d + 1) 0 0) mX8_release (mx_Z Q 0 0) 0 0 0 [.ref 47, .int a1] [] (sk0 c, I)) :
    mx_Spec l mX8_release (d + 1) 0 0 [.ref 47, .int a1] (sk0 c, I) Q := by
  refine mx_enter rfl (by simp [Value.category]) (Nat.le_of_ble_eq_true rfl) ?_
  change mx_Go l (mx_rm (d + 1) 0 0) mX8_release (mx_Z Q 0 0) 0 0 0 [.ref 47, .int a1] [] (sk0 c, I)
  exact e1
set_option maxRecDepth 10000 in
set_option maxHeartbeats 1000000 in
theorem sg_X8_release_0 {l : Launch} {d : Nat} {Q : Option Value → mx_H → Prop} {c : Nat} {I : mx_I} (x1 : Int32)
    (q1 : ((I 47 6) ≤ 0) → Q none (sk0 c, I))
    (b2 : (¬ (I 47 6) ≤ 0) → vp_in ((I 47 6) - 1) 64)
    (k3 : (¬ (I 47 6) ≤ 0) → mx_K1 l mX8_rank d [.int (I 54 ((I 47 6) - 1).toNatClampNeg)] (sk0 c, I) (fun r h' => mx_Go l (mx_rm (d + 1) 0 0) mX8_release (mx_Z Q 0 0) 0 0 21 [.ref 47, .int x1] (r.toList ++ []) h')) :
    mx_Go l (mx_rm (d + 1) 0 0) mX8_release (mx_Z Q 0 0) 0 0 0 [.ref 47, .int x1] [] (sk0 c, I) := by
  refine g_aload_n dX8_release_0 rfl rfl ?_
  refine rg_X8_6 (v := (I 47 6)) dX8_release_1 lf_X8_91 (sk_47 _) rfl ?_
  refine g_if_le (tgt := 83) dX8_release_4 (by decide) (fun c1 => ?_) (fun c2 => ?_)
  · skip
    exact g_vret rfl dX8_release_83 rfl (Nat.le_refl _) (q1 c1)
  · skip
    refine g_aload_n dX8_release_7 rfl rfl ?_
    refine rg_X8_2 (r := 54) dX8_release_8 lf_X8_22 (sk_47 _) rfl ?_
    refine g_aload_n dX8_release_11 rfl rfl ?_
    refine rg_X8_6 (v := (I 47 6)) dX8_release_12 lf_X8_91 (sk_47 _) rfl ?_
    refine g_iconst (v := 1) dX8_release_15 (by decide) ?_
    refine g_isub dX8_release_16 ?_
    refine s_iald (j := ((I 47 6) - 1).toNatClampNeg) (v := (I 54 ((I 47 6) - 1).toNatClampNeg)) dX8_release_17 (sk_54 _) (b2 c2) rfl rfl ?_
    exact s_callS (M' := mX8_rank) (As := [.int (I 54 ((I 47 6) - 1).toNatClampNeg)]) (st := []) dX8_release_18 lm_X8_122 okX8_rank osX8_rank (by simp [Value.category]) (by decide) rfl (k3 c2)
set_option maxRecDepth 10000 in
set_option maxHeartbeats 1000000 in
theorem sg_X8_release_21 {l : Launch} {d : Nat} {Q : Option Value → mx_H → Prop} {c : Nat} {I : mx_I} (x1 : Int32) (x2 : Int32)
    (q1 : (x2 < x1) → Q none (sk0 c, I))
    (b2 : (¬ x2 < x1) → vp_in ((I 47 6) - 1) 64)
    (b3 : (¬ x2 < x1) → (¬ (I 54 ((I 47 6) - 1).toNatClampNeg) = 7) → vp_in ((I 47 6) - 1) 64)
    (k4 : (¬ x2 < x1) → (¬ (I 54 ((I 47 6) - 1).toNatClampNeg) = 7) → mx_K1 l mX3_put d [.ref 49, .int (-(I 54 ((I 47 6) - 1).toNatClampNeg))] (sk0 c, (mx_set (mx_set I 47 6 ((I 47 6) - 1)) 47 7 ((I 47 7) - 0))) (fun r h' => mx_Go l (mx_rm (d + 1) 0 0) mX8_release (mx_Z Q 0 0) 0 0 80 [.ref 47, .int x1] (r.toList ++ []) h'))
    (b5 : (¬ x2 < x1) → ((I 54 ((I 47 6) - 1).toNatClampNeg) = 7) → vp_in ((I 47 6) - 1) 64)
    (k6 : (¬ x2 < x1) → ((I 54 ((I 47 6) - 1).toNatClampNeg) = 7) → mx_K1 l mX3_put d [.ref 49, .int (-(I 54 ((I 47 6) - 1).toNatClampNeg))] (sk0 c, (mx_set (mx_set I 47 6 ((I 47 6) - 1)) 47 7 ((I 47 7) - 1))) (fun r h' => mx_Go l (mx_rm (d + 1) 0 0) mX8_release (mx_Z Q 0 0) 0 0 80 [.ref 47, .int x1] (r.toList ++ []) h')) :
    mx_Go l (mx_rm (d + 1) 0 0) mX8_release (mx_Z Q 0 0) 0 0 21 [.ref 47, .int x1] [.int x2] (sk0 c, I) := by
  refine g_iload_n dX8_release_21 rfl rfl ?_
  refine g_icmp_lt (tgt := 83) dX8_release_22 (by decide) (fun c1 => ?_) (fun c2 => ?_)
  · skip
    exact g_vret rfl dX8_release_83 rfl (Nat.le_refl _) (q1 c1)
  · skip
    refine g_aload_n dX8_release_25 rfl rfl ?_
    refine g_dup dX8_release_26 rfl ?_
    refine rg_X8_6 (v := (I 47 6)) dX8_release_27 lf_X8_91 (sk_47 _) rfl ?_
    refine g_iconst (v := 1) dX8_release_30 (by decide) ?_
    refine g_isub dX8_release_31 ?_
    refine rp_X8_6 dX8_release_32 lf_X8_91 (sk_47 _) ?_
    refine g_aload_n dX8_release_35 rfl rfl ?_
    refine g_dup dX8_release_36 rfl ?_
    refine rg_X8_7 (v := (I 47 7)) dX8_release_37 lf_X8_94 (sk_47 _) (rd_sl (by decide) rfl) ?_
    refine g_aload_n dX8_release_40 rfl rfl ?_
    refine rg_X8_2 (r := 54) dX8_release_41 lf_X8_22 (sk_47 _) rfl ?_
    refine g_aload_n dX8_release_44 rfl rfl ?_
    refine rg_X8_6 (v := ((I 47 6) - 1)) dX8_release_45 lf_X8_91 (sk_47 _) rd_eq ?_
    refine s_iald (j := ((I 47 6) - 1).toNatClampNeg) (v := (I 54 ((I 47 6) - 1).toNatClampNeg)) dX8_release_48 (sk_54 _) (b2 c2) rfl (rd_ne (by decide) rfl) ?_
    refine g_bipush (v := 7) dX8_release_49 (by decide) ?_
    refine g_icmp_ne (tgt := 58) dX8_release_51 (by decide) (fun c3 => ?_) (fun c4 => ?_)
    · skip
      refine g_iconst (v := 0) dX8_release_58 (by decide) ?_
      refine g_isub dX8_release_59 ?_
      refine rp_X8_7 dX8_release_60 lf_X8_94 (sk_47 _) ?_
      refine g_aload_n dX8_release_63 rfl rfl ?_
      refine rg_X8_1 (r := 49) dX8_release_64 lf_X8_18 (sk_47 _) rfl ?_
      refine g_aload_n dX8_release_67 rfl rfl ?_
      refine rg_X8_2 (r := 54) dX8_release_68 lf_X8_22 (sk_47 _) rfl ?_
      refine g_aload_n dX8_release_71 rfl rfl ?_
      refine rg_X8_6 (v := ((I 47 6) - 1)) dX8_release_72 lf_X8_91 (sk_47 _) (rd_sl (by decide) rd_eq) ?_
      refine s_iald (j := ((I 47 6) - 1).toNatClampNeg) (v := (I 54 ((I 47 6) - 1).toNatClampNeg)) dX8_release_75 (sk_54 _) (b3 c2 c3) rfl (rd_ne (by decide) (rd_ne (by decide) rfl)) ?_
      refine g_ineg dX8_release_76 ?_
      exact s_callV (M' := mX3_put) (As := [.int (-(I 54 ((I 47 6) - 1).toNatClampNeg))]) (st := []) dX8_release_77 lm_X8_113 ovX3_put (h := (sk0 c, (mx_set (mx_set I 47 6 ((I 47 6) - 1)) 47 7 ((I 47 7) - 0)))) (sk_49 _) (show vwCl[3]? = some _ from rfl) rfl (by simp [Value.category]) (by decide) rfl (k4 c2 c3)
    · skip
      refine g_iconst (v := 1) dX8_release_54 (by decide) ?_
      refine g_goto (tgt := 59) dX8_release_55 (by decide) ?_
      refine g_isub dX8_release_59 ?_
      refine rp_X8_7 dX8_release_60 lf_X8_94 (sk_47 _) ?_
      refine g_aload_n dX8_release_63 rfl rfl ?_
      refine rg_X8_1 (r := 49) dX8_release_64 lf_X8_18 (sk_47 _) rfl ?_
      refine g_aload_n dX8_release_67 rfl rfl ?_
      refine rg_X8_2 (r := 54) dX8_release_68 lf_X8_22 (sk_47 _) rfl ?_
      refine g_aload_n dX8_release_71 rfl rfl ?_
      refine rg_X8_6 (v := ((I 47 6) - 1)) dX8_release_72 lf_X8_91 (sk_47 _) (rd_sl (by decide) rd_eq) ?_
      refine s_iald (j := ((I 47 6) - 1).toNatClampNeg) (v := (I 54 ((I 47 6) - 1).toNatClampNeg)) dX8_release_75 (sk_54 _) (b5 c2 c4) rfl (rd_ne (by decide) (rd_ne (by decide) rfl)) ?_
      refine g_ineg dX8_release_76 ?_
      exact s_callV (M' := mX3_put) (As := [.int (-(I 54 ((I 47 6) - 1).toNatClampNeg))]) (st := []) dX8_release_77 lm_X8_113 ovX3_put (h := (sk0 c, (mx_set (mx_set I 47 6 ((I 47 6) - 1)) 47 7 ((I 47 7) - 1)))) (sk_49 _) (show vwCl[3]? = some _ from rfl) rfl (by simp [Value.category]) (by decide) rfl (k6 c2 c4)
set_option maxRecDepth 10000 in
set_option maxHeartbeats 1000000 in
theorem sg_X8_release_80 {l : Launch} {d : Nat} {Q : Option Value → mx_H → Prop} {c : Nat} {I : mx_I} (x1 : Int32)
    (e1 : mx_Go l (mx_rm (d + 1) 0 0) mX8_release (mx_Z Q 0 0) 0 0 0 [.ref 47, .int x1] [] (sk0 c, I)) :
    mx_Go l (mx_rm (d + 1) 0 0) mX8_release (mx_Z Q 0 0) 0 0 80 [.ref 47, .int x1] [] (sk0 c, I) := by
  refine g_goto (tgt := 0) dX8_release_80 (by decide) ?_
  exact e1
set_option maxRecDepth 10000 in
set_option maxHeartbeats 1000000 in
theorem sn_X8_rank {l : Launch} {d : Nat} {Q : Option Value → mx_H → Prop} {c : Nat} {I : mx_I} (a1 : Int32)
    (q1 : (a1 = 5) → Q (some (.int 1)) (sk0 c, I))
    (q2 : (a1 = 6) → Q (some (.int 2)) (sk0 c, I))
    (q3 : (a1 = 7) → Q (some (.int 3)) (sk0 c, I))
    (q4 : (a1 = 8) → Q (some (.int 0)) (sk0 c, I))
    (q5 : (a1 = 9) → Q (some (.int 0)) (sk0 c, I))
    (q6 : (a1 = 10) → Q (some (.int 0)) (sk0 c, I))
    (q7 : (a1 = 11) → Q (some (.int 0)) (sk0 c, I))
    (q8 : (a1 = 12) → Q (some (.int 0)) (sk0 c, I))
    (q9 : (a1 = 13) → Q (some (.int 0)) (sk0 c, I))
    (q10 : (a1 = 14) → Q (some (.int 0)) (sk0 c, I))
    (q11 : (a1 = 15) → Q (some (.int 0)) (sk0 c, I))
    (q12 : (a1 = 16) → Q (some (.int 5)) (sk0 c, I))
    (q13 : (a1 = 17) → Q (some (.int 5)) (sk0 c, I))
    (q14 : (a1 = 18) → Q (some (.int 6)) (sk0 c, I))
    (q15 : (a1 = 19) → Q (some (.int 6)) (sk0 c, I))
    (q16 : (a1 = 20) → Q (some (.int 0)) (sk0 c, I))
    (q17 : (a1 = 21) → Q (some (.int 0)) (sk0 c, I))
    (q18 : (a1 = 22) → Q (some (.int 4)) (sk0 c, I))
    (q19 : (a1 = 23) → Q (some (.int 4)) (sk0 c, I))
    (q20 : (a1 = 24) → Q (some (.int 4)) (sk0 c, I))
    (q21 : (¬ a1 = 5) → (¬ a1 = 6) → (¬ a1 = 7) → (¬ a1 = 8) → (¬ a1 = 9) → (¬ a1 = 10) → (¬ a1 = 11) → (¬ a1 = 12) → (¬ a1 = 13) → (¬ a1 = 14) → (¬ a1 = 15) → (¬ a1 = 16) → (¬ a1 = 17) → (¬ a1 = 18) → (¬ a1 = 19) → (¬ a1 = 20) → (¬ a1 = 21) → (¬ a1 = 22) → (¬ a1 = 23) → (¬ a1 = 24) → Q (some (.int 0)) (sk0 c, I)) :
    mx_Spec l mX8_rank (d + 1) 0 0 [.int a1] (sk0 c, I) Q := by
  refine mx_enter rfl (by simp [Value.category]) (Nat.le_of_ble_eq_true rfl) ?_
  change mx_Go l (mx_rm (d + 1) 0 0) mX8_rank (mx_Z Q 0 0) 0 0 0 [.int a1] [] (sk0 c, I)
  refine g_iload_n dX8_rank_0 rfl rfl ?_
  rcases Decidable.em (a1 = 5) with c1 | c2
  · skip
    refine g_tableIn (off := 95) (tgt := 96) dX8_rank_1 (by rw [c1]; decide) (by rw [c1]; decide) (by rw [c1]; rfl) (by decide) ?_
    refine g_iconst (v := 1) dX8_rank_96 (by decide) ?_
    exact g_iret rfl dX8_rank_97 rfl (Nat.le_refl _) (q1 c1)
  · skip
    rcases Decidable.em (a1 = 6) with c3 | c4
    · skip
      refine g_tableIn (off := 97) (tgt := 98) dX8_rank_1 (by rw [c3]; decide) (by rw [c3]; decide) (by rw [c3]; rfl) (by decide) ?_
      refine g_iconst (v := 2) dX8_rank_98 (by decide) ?_
      exact g_iret rfl dX8_rank_99 rfl (Nat.le_refl _) (q2 c3)
    · skip
      rcases Decidable.em (a1 = 7) with c5 | c6
      · skip
        refine g_tableIn (off := 99) (tgt := 100) dX8_rank_1 (by rw [c5]; decide) (by rw [c5]; decide) (by rw [c5]; rfl) (by decide) ?_
        refine g_iconst (v := 3) dX8_rank_100 (by decide) ?_
        exact g_iret rfl dX8_rank_101 rfl (Nat.le_refl _) (q3 c5)
      · skip
        rcases Decidable.em (a1 = 8) with c7 | c8
        · skip
          refine g_tableIn (off := 108) (tgt := 109) dX8_rank_1 (by rw [c7]; decide) (by rw [c7]; decide) (by rw [c7]; rfl) (by decide) ?_
          refine g_iconst (v := 0) dX8_rank_109 (by decide) ?_
          exact g_iret rfl dX8_rank_110 rfl (Nat.le_refl _) (q4 c7)
        · skip
          rcases Decidable.em (a1 = 9) with c9 | c10
          · skip
            refine g_tableIn (off := 108) (tgt := 109) dX8_rank_1 (by rw [c9]; decide) (by rw [c9]; decide) (by rw [c9]; rfl) (by decide) ?_
            refine g_iconst (v := 0) dX8_rank_109 (by decide) ?_
            exact g_iret rfl dX8_rank_110 rfl (Nat.le_refl _) (q5 c9)
          · skip
            rcases Decidable.em (a1 = 10) with c11 | c12
            · skip
              refine g_tableIn (off := 108) (tgt := 109) dX8_rank_1 (by rw [c11]; decide) (by rw [c11]; decide) (by rw [c11]; rfl) (by decide) ?_
              refine g_iconst (v := 0) dX8_rank_109 (by decide) ?_
              exact g_iret rfl dX8_rank_110 rfl (Nat.le_refl _) (q6 c11)
            · skip
              rcases Decidable.em (a1 = 11) with c13 | c14
              · skip
                refine g_tableIn (off := 108) (tgt := 109) dX8_rank_1 (by rw [c13]; decide) (by rw [c13]; decide) (by rw [c13]; rfl) (by decide) ?_
                refine g_iconst (v := 0) dX8_rank_109 (by decide) ?_
                exact g_iret rfl dX8_rank_110 rfl (Nat.le_refl _) (q7 c13)
              · skip
                rcases Decidable.em (a1 = 12) with c15 | c16
                · skip
                  refine g_tableIn (off := 108) (tgt := 109) dX8_rank_1 (by rw [c15]; decide) (by rw [c15]; decide) (by rw [c15]; rfl) (by decide) ?_
                  refine g_iconst (v := 0) dX8_rank_109 (by decide) ?_
                  exact g_iret rfl dX8_rank_110 rfl (Nat.le_refl _) (q8 c15)
                · skip
                  rcases Decidable.em (a1 = 13) with c17 | c18
                  · skip
                    refine g_tableIn (off := 108) (tgt := 109) dX8_rank_1 (by rw [c17]; decide) (by rw [c17]; decide) (by rw [c17]; rfl) (by decide) ?_
                    refine g_iconst (v := 0) dX8_rank_109 (by decide) ?_
                    exact g_iret rfl dX8_rank_110 rfl (Nat.le_refl _) (q9 c17)
                  · skip
                    rcases Decidable.em (a1 = 14) with c19 | c20
                    · skip
                      refine g_tableIn (off := 108) (tgt := 109) dX8_rank_1 (by rw [c19]; decide) (by rw [c19]; decide) (by rw [c19]; rfl) (by decide) ?_
                      refine g_iconst (v := 0) dX8_rank_109 (by decide) ?_
                      exact g_iret rfl dX8_rank_110 rfl (Nat.le_refl _) (q10 c19)
                    · skip
                      rcases Decidable.em (a1 = 15) with c21 | c22
                      · skip
                        refine g_tableIn (off := 108) (tgt := 109) dX8_rank_1 (by rw [c21]; decide) (by rw [c21]; decide) (by rw [c21]; rfl) (by decide) ?_
                        refine g_iconst (v := 0) dX8_rank_109 (by decide) ?_
                        exact g_iret rfl dX8_rank_110 rfl (Nat.le_refl _) (q11 c21)
                      · skip
                        rcases Decidable.em (a1 = 16) with c23 | c24
                        · skip
                          refine g_tableIn (off := 103) (tgt := 104) dX8_rank_1 (by rw [c23]; decide) (by rw [c23]; decide) (by rw [c23]; rfl) (by decide) ?_
                          refine g_iconst (v := 5) dX8_rank_104 (by decide) ?_
                          exact g_iret rfl dX8_rank_105 rfl (Nat.le_refl _) (q12 c23)
                        · skip
                          rcases Decidable.em (a1 = 17) with c25 | c26
                          · skip
                            refine g_tableIn (off := 103) (tgt := 104) dX8_rank_1 (by rw [c25]; decide) (by rw [c25]; decide) (by rw [c25]; rfl) (by decide) ?_
                            refine g_iconst (v := 5) dX8_rank_104 (by decide) ?_
                            exact g_iret rfl dX8_rank_105 rfl (Nat.le_refl _) (q13 c25)
                          · skip
                            rcases Decidable.em (a1 = 18) with c27 | c28
                            · skip
                              refine g_tableIn (off := 105) (tgt := 106) dX8_rank_1 (by rw [c27]; decide) (by rw [c27]; decide) (by rw [c27]; rfl) (by decide) ?_
                              refine g_bipush (v := 6) dX8_rank_106 (by decide) ?_
                              exact g_iret rfl dX8_rank_108 rfl (Nat.le_refl _) (q14 c27)
                            · skip
                              rcases Decidable.em (a1 = 19) with c29 | c30
                              · skip
                                refine g_tableIn (off := 105) (tgt := 106) dX8_rank_1 (by rw [c29]; decide) (by rw [c29]; decide) (by rw [c29]; rfl) (by decide) ?_
                                refine g_bipush (v := 6) dX8_rank_106 (by decide) ?_
                                exact g_iret rfl dX8_rank_108 rfl (Nat.le_refl _) (q15 c29)
                              · skip
                                rcases Decidable.em (a1 = 20) with c31 | c32
                                · skip
                                  refine g_tableIn (off := 108) (tgt := 109) dX8_rank_1 (by rw [c31]; decide) (by rw [c31]; decide) (by rw [c31]; rfl) (by decide) ?_
                                  refine g_iconst (v := 0) dX8_rank_109 (by decide) ?_
                                  exact g_iret rfl dX8_rank_110 rfl (Nat.le_refl _) (q16 c31)
                                · skip
                                  rcases Decidable.em (a1 = 21) with c33 | c34
                                  · skip
                                    refine g_tableIn (off := 108) (tgt := 109) dX8_rank_1 (by rw [c33]; decide) (by rw [c33]; decide) (by rw [c33]; rfl) (by decide) ?_
                                    refine g_iconst (v := 0) dX8_rank_109 (by decide) ?_
                                    exact g_iret rfl dX8_rank_110 rfl (Nat.le_refl _) (q17 c33)
                                  · skip
                                    rcases Decidable.em (a1 = 22) with c35 | c36
                                    · skip
                                      refine g_tableIn (off := 101) (tgt := 102) dX8_rank_1 (by rw [c35]; decide) (by rw [c35]; decide) (by rw [c35]; rfl) (by decide) ?_
                                      refine g_iconst (v := 4) dX8_rank_102 (by decide) ?_
                                      exact g_iret rfl dX8_rank_103 rfl (Nat.le_refl _) (q18 c35)
                                    · skip
                                      rcases Decidable.em (a1 = 23) with c37 | c38
                                      · skip
                                        refine g_tableIn (off := 101) (tgt := 102) dX8_rank_1 (by rw [c37]; decide) (by rw [c37]; decide) (by rw [c37]; rfl) (by decide) ?_
                                        refine g_iconst (v := 4) dX8_rank_102 (by decide) ?_
                                        exact g_iret rfl dX8_rank_103 rfl (Nat.le_refl _) (q19 c37)
                                      · skip
                                        rcases Decidable.em (a1 = 24) with c39 | c40
                                        · skip
                                          refine g_tableIn (off := 101) (tgt := 102) dX8_rank_1 (by rw [c39]; decide) (by rw [c39]; decide) (by rw [c39]; rfl) (by decide) ?_
                                          refine g_iconst (v := 4) dX8_rank_102 (by decide) ?_
                                          exact g_iret rfl dX8_rank_103 rfl (Nat.le_refl _) (q20 c39)
                                        · skip
                                          refine g_tableOut (tgt := 109) dX8_rank_1 (by have q2 := mx_i32 (n := 5) (by decide) c2; have q4 := mx_i32 (n := 6) (by decide) c4; have q6 := mx_i32 (n := 7) (by decide) c6; have q8 := mx_i32 (n := 8) (by decide) c8; have q10 := mx_i32 (n := 9) (by decide) c10; have q12 := mx_i32 (n := 10) (by decide) c12; have q14 := mx_i32 (n := 11) (by decide) c14; have q16 := mx_i32 (n := 12) (by decide) c16; have q18 := mx_i32 (n := 13) (by decide) c18; have q20 := mx_i32 (n := 14) (by decide) c20; have q22 := mx_i32 (n := 15) (by decide) c22; have q24 := mx_i32 (n := 16) (by decide) c24; have q26 := mx_i32 (n := 17) (by decide) c26; have q28 := mx_i32 (n := 18) (by decide) c28; have q30 := mx_i32 (n := 19) (by decide) c30; have q32 := mx_i32 (n := 20) (by decide) c32; have q34 := mx_i32 (n := 21) (by decide) c34; have q36 := mx_i32 (n := 22) (by decide) c36; have q38 := mx_i32 (n := 23) (by decide) c38; have q40 := mx_i32 (n := 24) (by decide) c40; omega) (by decide) ?_
                                          refine g_iconst (v := 0) dX8_rank_109 (by decide) ?_
                                          exact g_iret rfl dX8_rank_110 rfl (Nat.le_refl _) (q21 c2 c4 c6 c8 c10 c12 c14 c16 c18 c20 c22 c24 c26 c28 c30 c32 c34 c36 c38 c40)
set_option maxRecDepth 10000 in
set_option maxHeartbeats 1000000 in
theorem sn_X8_nextToken {l : Launch} {d : Nat} {Q : Option Value → mx_H → Prop} {c : Nat} {I : mx_I}
    (e1 : mx_Go l (mx_rm (d + 1) 0 0) mX8_nextToken (mx_Z Q 0 0) 0 0 0 [.ref 47] [] (sk0 c, I)) :
    mx_Spec l mX8_nextToken (d + 1) 0 0 [.ref 47] (sk0 c, I) Q := by
  refine mx_enter rfl (by simp [Value.category]) (Nat.le_of_ble_eq_true rfl) ?_
  change mx_Go l (mx_rm (d + 1) 0 0) mX8_nextToken (mx_Z Q 0 0) 0 0 0 [.ref 47] [] (sk0 c, I)
  exact e1
set_option maxRecDepth 10000 in
set_option maxHeartbeats 1000000 in
theorem sg_X8_nextToken_0 {l : Launch} {d : Nat} {Q : Option Value → mx_H → Prop} {c : Nat} {I : mx_I}
    (b1 : ((I 47 3) ≤ (I 47 11)) → ((I 47 11) < (I 47 3)) → vp_in (I 47 11) 400)
    (k2 : ((I 47 3) ≤ (I 47 11)) → ((I 47 11) < (I 47 3)) → mx_K1 l mX8_isLetter d [.int (I 48 (I 47 11).toNatClampNeg)] (sk0 c, (mx_set I 47 13 (I 47 11))) (fun r h' => mx_Go l (mx_rm (d + 1) 0 0) mX8_nextToken (mx_Z Q 0 0) 0 0 91 [.ref 47] (r.toList ++ []) h'))
    (q3 : ((I 47 3) ≤ (I 47 11)) → (¬ (I 47 11) < (I 47 3)) → Q none (sk0 c, (mx_set (mx_set I 47 13 (I 47 11)) 47 12 0)))
    (b4 : (¬ (I 47 3) ≤ (I 47 11)) → vp_in (I 47 11) 400)
    (e5 : (¬ (I 47 3) ≤ (I 47 11)) → ((I 48 (I 47 11).toNatClampNeg) = 32) → mx_Go l (mx_rm (d + 1) 0 0) mX8_nextToken (mx_Z Q 0 0) 0 0 0 [.ref 47] [] (sk0 c, (mx_set I 47 11 ((I 47 11) + 1))))
    (b6 : (¬ (I 47 3) ≤ (I 47 11)) → (¬ (I 48 (I 47 11).toNatClampNeg) = 32) → vp_in (I 47 11) 400)
    (b7 : (¬ (I 47 3) ≤ (I 47 11)) → (¬ (I 48 (I 47 11).toNatClampNeg) = 32) → (¬ (I 48 (I 47 11).toNatClampNeg) = 10) → ((I 47 11) < (I 47 3)) → vp_in (I 47 11) 400)
    (k8 : (¬ (I 47 3) ≤ (I 47 11)) → (¬ (I 48 (I 47 11).toNatClampNeg) = 32) → (¬ (I 48 (I 47 11).toNatClampNeg) = 10) → ((I 47 11) < (I 47 3)) → mx_K1 l mX8_isLetter d [.int (I 48 (I 47 11).toNatClampNeg)] (sk0 c, (mx_set I 47 13 (I 47 11))) (fun r h' => mx_Go l (mx_rm (d + 1) 0 0) mX8_nextToken (mx_Z Q 0 0) 0 0 91 [.ref 47] (r.toList ++ []) h'))
    (q9 : (¬ (I 47 3) ≤ (I 47 11)) → (¬ (I 48 (I 47 11).toNatClampNeg) = 32) → (¬ (I 48 (I 47 11).toNatClampNeg) = 10) → (¬ (I 47 11) < (I 47 3)) → Q none (sk0 c, (mx_set (mx_set I 47 13 (I 47 11)) 47 12 0)))
    (e10 : (¬ (I 47 3) ≤ (I 47 11)) → (¬ (I 48 (I 47 11).toNatClampNeg) = 32) → ((I 48 (I 47 11).toNatClampNeg) = 10) → mx_Go l (mx_rm (d + 1) 0 0) mX8_nextToken (mx_Z Q 0 0) 0 0 0 [.ref 47] [] (sk0 c, (mx_set I 47 11 ((I 47 11) + 1)))) :
    mx_Go l (mx_rm (d + 1) 0 0) mX8_nextToken (mx_Z Q 0 0) 0 0 0 [.ref 47] [] (sk0 c, I) := by
  refine g_aload_n dX8_nextToken_0 rfl rfl ?_
  refine rg_X8_11 (v := (I 47 11)) dX8_nextToken_1 lf_X8_42 (sk_47 _) rfl ?_
  refine g_aload_n dX8_nextToken_4 rfl rfl ?_
  refine rg_X8_3 (v := (I 47 3)) dX8_nextToken_5 lf_X8_29 (sk_47 _) rfl ?_
  refine g_icmp_ge (tgt := 52) dX8_nextToken_8 (by decide) (fun c1 => ?_) (fun c2 => ?_)
  · skip
    refine g_aload_n dX8_nextToken_52 rfl rfl ?_
    refine g_aload_n dX8_nextToken_53 rfl rfl ?_
    refine rg_X8_11 (v := (I 47 11)) dX8_nextToken_54 lf_X8_42 (sk_47 _) rfl ?_
    refine rp_X8_13 dX8_nextToken_57 lf_X8_54 (sk_47 _) ?_
    refine g_aload_n dX8_nextToken_60 rfl rfl ?_
    refine rg_X8_11 (v := (I 47 11)) dX8_nextToken_61 lf_X8_42 (sk_47 _) (rd_sl (by decide) rfl) ?_
    refine g_aload_n dX8_nextToken_64 rfl rfl ?_
    refine rg_X8_3 (v := (I 47 3)) dX8_nextToken_65 lf_X8_29 (sk_47 _) (rd_sl (by decide) rfl) ?_
    refine g_icmp_lt (tgt := 79) dX8_nextToken_68 (by decide) (fun c3 => ?_) (fun c4 => ?_)
    · skip
      refine g_aload_n dX8_nextToken_79 rfl rfl ?_
      refine rg_X8_0 (r := 48) dX8_nextToken_80 lf_X8_9 (sk_47 _) rfl ?_
      refine g_aload_n dX8_nextToken_83 rfl rfl ?_
      refine rg_X8_11 (v := (I 47 11)) dX8_nextToken_84 lf_X8_42 (sk_47 _) (rd_sl (by decide) rfl) ?_
      refine s_iald (j := (I 47 11).toNatClampNeg) (v := (I 48 (I 47 11).toNatClampNeg)) dX8_nextToken_87 (sk_48 _) (b1 c1 c3) rfl (rd_ne (by decide) rfl) ?_
      exact s_callS (M' := mX8_isLetter) (As := [.int (I 48 (I 47 11).toNatClampNeg)]) (st := []) dX8_nextToken_88 lm_X8_129 okX8_isLetter osX8_isLetter (by simp [Value.category]) (by decide) rfl (k2 c1 c3)
    · skip
      refine g_aload_n dX8_nextToken_71 rfl rfl ?_
      refine g_iconst (v := 0) dX8_nextToken_72 (by decide) ?_
      refine rp_X8_12 dX8_nextToken_73 lf_X8_81 (sk_47 _) ?_
      refine g_goto (tgt := 279) dX8_nextToken_76 (by decide) ?_
      exact g_vret rfl dX8_nextToken_279 rfl (Nat.le_refl _) (q3 c1 c4)
  · skip
    refine g_aload_n dX8_nextToken_11 rfl rfl ?_
    refine rg_X8_0 (r := 48) dX8_nextToken_12 lf_X8_9 (sk_47 _) rfl ?_
    refine g_aload_n dX8_nextToken_15 rfl rfl ?_
    refine rg_X8_11 (v := (I 47 11)) dX8_nextToken_16 lf_X8_42 (sk_47 _) rfl ?_
    refine s_iald (j := (I 47 11).toNatClampNeg) (v := (I 48 (I 47 11).toNatClampNeg)) dX8_nextToken_19 (sk_48 _) (b4 c2) rfl rfl ?_
    refine g_bipush (v := 32) dX8_nextToken_20 (by decide) ?_
    refine g_icmp_eq (tgt := 39) dX8_nextToken_22 (by decide) (fun c5 => ?_) (fun c6 => ?_)
    · skip
      refine g_aload_n dX8_nextToken_39 rfl rfl ?_
      refine g_dup dX8_nextToken_40 rfl ?_
      refine rg_X8_11 (v := (I 47 11)) dX8_nextToken_41 lf_X8_42 (sk_47 _) rfl ?_
      refine g_iconst (v := 1) dX8_nextToken_44 (by decide) ?_
      refine g_iadd dX8_nextToken_45 ?_
      refine rp_X8_11 dX8_nextToken_46 lf_X8_42 (sk_47 _) ?_
      refine g_goto (tgt := 0) dX8_nextToken_49 (by decide) ?_
      exact e5 c2 c5
    · skip
      refine g_aload_n dX8_nextToken_25 rfl rfl ?_
      refine rg_X8_0 (r := 48) dX8_nextToken_26 lf_X8_9 (sk_47 _) rfl ?_
      refine g_aload_n dX8_nextToken_29 rfl rfl ?_
      refine rg_X8_11 (v := (I 47 11)) dX8_nextToken_30 lf_X8_42 (sk_47 _) rfl ?_
      refine s_iald (j := (I 47 11).toNatClampNeg) (v := (I 48 (I 47 11).toNatClampNeg)) dX8_nextToken_33 (sk_48 _) (b6 c2 c6) rfl rfl ?_
      refine g_bipush (v := 10) dX8_nextToken_34 (by decide) ?_
      refine g_icmp_ne (tgt := 52) dX8_nextToken_36 (by decide) (fun c7 => ?_) (fun c8 => ?_)
      · skip
        refine g_aload_n dX8_nextToken_52 rfl rfl ?_
        refine g_aload_n dX8_nextToken_53 rfl rfl ?_
        refine rg_X8_11 (v := (I 47 11)) dX8_nextToken_54 lf_X8_42 (sk_47 _) rfl ?_
        refine rp_X8_13 dX8_nextToken_57 lf_X8_54 (sk_47 _) ?_
        refine g_aload_n dX8_nextToken_60 rfl rfl ?_
        refine rg_X8_11 (v := (I 47 11)) dX8_nextToken_61 lf_X8_42 (sk_47 _) (rd_sl (by decide) rfl) ?_
        refine g_aload_n dX8_nextToken_64 rfl rfl ?_
        refine rg_X8_3 (v := (I 47 3)) dX8_nextToken_65 lf_X8_29 (sk_47 _) (rd_sl (by decide) rfl) ?_
        refine g_icmp_lt (tgt := 79) dX8_nextToken_68 (by decide) (fun c9 => ?_) (fun c10 => ?_)
        · skip
          refine g_aload_n dX8_nextToken_79 rfl rfl ?_
          refine rg_X8_0 (r := 48) dX8_nextToken_80 lf_X8_9 (sk_47 _) rfl ?_
          refine g_aload_n dX8_nextToken_83 rfl rfl ?_
          refine rg_X8_11 (v := (I 47 11)) dX8_nextToken_84 lf_X8_42 (sk_47 _) (rd_sl (by decide) rfl) ?_
          refine s_iald (j := (I 47 11).toNatClampNeg) (v := (I 48 (I 47 11).toNatClampNeg)) dX8_nextToken_87 (sk_48 _) (b7 c2 c6 c7 c9) rfl (rd_ne (by decide) rfl) ?_
          exact s_callS (M' := mX8_isLetter) (As := [.int (I 48 (I 47 11).toNatClampNeg)]) (st := []) dX8_nextToken_88 lm_X8_129 okX8_isLetter osX8_isLetter (by simp [Value.category]) (by decide) rfl (k8 c2 c6 c7 c9)
        · skip
          refine g_aload_n dX8_nextToken_71 rfl rfl ?_
          refine g_iconst (v := 0) dX8_nextToken_72 (by decide) ?_
          refine rp_X8_12 dX8_nextToken_73 lf_X8_81 (sk_47 _) ?_
          refine g_goto (tgt := 279) dX8_nextToken_76 (by decide) ?_
          exact g_vret rfl dX8_nextToken_279 rfl (Nat.le_refl _) (q9 c2 c6 c7 c10)
      · skip
        refine g_aload_n dX8_nextToken_39 rfl rfl ?_
        refine g_dup dX8_nextToken_40 rfl ?_
        refine rg_X8_11 (v := (I 47 11)) dX8_nextToken_41 lf_X8_42 (sk_47 _) rfl ?_
        refine g_iconst (v := 1) dX8_nextToken_44 (by decide) ?_
        refine g_iadd dX8_nextToken_45 ?_
        refine rp_X8_11 dX8_nextToken_46 lf_X8_42 (sk_47 _) ?_
        refine g_goto (tgt := 0) dX8_nextToken_49 (by decide) ?_
        exact e10 c2 c6 c8
set_option maxRecDepth 10000 in
set_option maxHeartbeats 1000000 in
theorem sg_X8_nextToken_91 {l : Launch} {d : Nat} {Q : Option Value → mx_H → Prop} {c : Nat} {I : mx_I} (x1 : Int32)
    (b1 : (x1 = 0) → vp_in (I 47 11) 400)
    (k2 : (x1 = 0) → mx_K1 l mX8_isDigit d [.int (I 48 (I 47 11).toNatClampNeg)] (sk0 c, I) (fun r h' => mx_Go l (mx_rm (d + 1) 0 0) mX8_nextToken (mx_Z Q 0 0) 0 0 156 [.ref 47] (r.toList ++ []) h'))
    (e3 : (¬ x1 = 0) → mx_Go l (mx_rm (d + 1) 0 0) mX8_nextToken (mx_Z Q 0 0) 0 0 94 [.ref 47] [] (sk0 c, I)) :
    mx_Go l (mx_rm (d + 1) 0 0) mX8_nextToken (mx_Z Q 0 0) 0 0 91 [.ref 47] [.int x1] (sk0 c, I) := by
  refine g_if_eq (tgt := 144) dX8_nextToken_91 (by decide) (fun c1 => ?_) (fun c2 => ?_)
  · skip
    refine g_aload_n dX8_nextToken_144 rfl rfl ?_
    refine rg_X8_0 (r := 48) dX8_nextToken_145 lf_X8_9 (sk_47 _) rfl ?_
    refine g_aload_n dX8_nextToken_148 rfl rfl ?_
    refine rg_X8_11 (v := (I 47 11)) dX8_nextToken_149 lf_X8_42 (sk_47 _) rfl ?_
    refine s_iald (j := (I 47 11).toNatClampNeg) (v := (I 48 (I 47 11).toNatClampNeg)) dX8_nextToken_152 (sk_48 _) (b1 c1) rfl rfl ?_
    exact s_callS (M' := mX8_isDigit) (As := [.int (I 48 (I 47 11).toNatClampNeg)]) (st := []) dX8_nextToken_153 lm_X8_137 okX8_isDigit osX8_isDigit (by simp [Value.category]) (by decide) rfl (k2 c1)
  · skip
    exact e3 c2
set_option maxRecDepth 10000 in
set_option maxHeartbeats 1000000 in
theorem sg_X8_nextToken_156 {l : Launch} {d : Nat} {Q : Option Value → mx_H → Prop} {c : Nat} {I : mx_I} (x1 : Int32)
    (b1 : (x1 = 0) → vp_in (I 47 11) 400)
    (k2 : (x1 = 0) → mx_K1 l mX8_sign d [.int (I 48 (I 47 11).toNatClampNeg)] (sk0 c, I) (fun r h' => mx_Go l (mx_rm (d + 1) 0 0) mX8_nextToken (mx_Z Q 0 0) 0 0 266 [.ref 47] (r.toList ++ [.ref 47]) h'))
    (e3 : (¬ x1 = 0) → mx_Go l (mx_rm (d + 1) 0 0) mX8_nextToken (mx_Z Q 0 0) 0 0 164 [.ref 47] [] (sk0 c, (mx_set I 47 14 0))) :
    mx_Go l (mx_rm (d + 1) 0 0) mX8_nextToken (mx_Z Q 0 0) 0 0 156 [.ref 47] [.int x1] (sk0 c, I) := by
  refine g_if_eq (tgt := 253) dX8_nextToken_156 (by decide) (fun c1 => ?_) (fun c2 => ?_)
  · skip
    refine g_aload_n dX8_nextToken_253 rfl rfl ?_
    refine g_aload_n dX8_nextToken_254 rfl rfl ?_
    refine rg_X8_0 (r := 48) dX8_nextToken_255 lf_X8_9 (sk_47 _) rfl ?_
    refine g_aload_n dX8_nextToken_258 rfl rfl ?_
    refine rg_X8_11 (v := (I 47 11)) dX8_nextToken_259 lf_X8_42 (sk_47 _) rfl ?_
    refine s_iald (j := (I 47 11).toNatClampNeg) (v := (I 48 (I 47 11).toNatClampNeg)) dX8_nextToken_262 (sk_48 _) (b1 c1) rfl rfl ?_
    exact s_callS (M' := mX8_sign) (As := [.int (I 48 (I 47 11).toNatClampNeg)]) (st := [.ref 47]) dX8_nextToken_263 lm_X8_140 okX8_sign osX8_sign (by simp [Value.category]) (by decide) rfl (k2 c1)
  · skip
    refine g_aload_n dX8_nextToken_159 rfl rfl ?_
    refine g_iconst (v := 0) dX8_nextToken_160 (by decide) ?_
    refine rp_X8_14 dX8_nextToken_161 lf_X8_110 (sk_47 _) ?_
    exact e3 c2
set_option maxRecDepth 10000 in
set_option maxHeartbeats 1000000 in
theorem sg_X8_nextToken_94 {l : Launch} {d : Nat} {Q : Option Value → mx_H → Prop} {c : Nat} {I : mx_I}
    (k1 : ((I 47 3) ≤ (I 47 11)) → mx_K1 l mX8_keyword d [.ref 47] (sk0 c, I) (fun r h' => mx_Go l (mx_rm (d + 1) 0 0) mX8_nextToken (mx_Z Q 0 0) 0 0 138 [.ref 47] (r.toList ++ [.ref 47]) h'))
    (b2 : (¬ (I 47 3) ≤ (I 47 11)) → vp_in (I 47 11) 400)
    (k3 : (¬ (I 47 3) ≤ (I 47 11)) → mx_K1 l mX8_isLetter d [.int (I 48 (I 47 11).toNatClampNeg)] (sk0 c, I) (fun r h' => mx_Go l (mx_rm (d + 1) 0 0) mX8_nextToken (mx_Z Q 0 0) 0 0 117 [.ref 47] (r.toList ++ []) h')) :
    mx_Go l (mx_rm (d + 1) 0 0) mX8_nextToken (mx_Z Q 0 0) 0 0 94 [.ref 47] [] (sk0 c, I) := by
  refine g_aload_n dX8_nextToken_94 rfl rfl ?_
  refine rg_X8_11 (v := (I 47 11)) dX8_nextToken_95 lf_X8_42 (sk_47 _) rfl ?_
  refine g_aload_n dX8_nextToken_98 rfl rfl ?_
  refine rg_X8_3 (v := (I 47 3)) dX8_nextToken_99 lf_X8_29 (sk_47 _) rfl ?_
  refine g_icmp_ge (tgt := 133) dX8_nextToken_102 (by decide) (fun c1 => ?_) (fun c2 => ?_)
  · skip
    refine g_aload_n dX8_nextToken_133 rfl rfl ?_
    refine g_aload_n dX8_nextToken_134 rfl rfl ?_
    exact s_callV (M' := mX8_keyword) (As := []) (st := [.ref 47]) dX8_nextToken_135 lm_X8_133 ovX8_keyword (h := (sk0 c, I)) (sk_47 _) (show vwCl[8]? = some _ from rfl) rfl (by simp [Value.category]) (by decide) rfl (k1 c1)
  · skip
    refine g_aload_n dX8_nextToken_105 rfl rfl ?_
    refine rg_X8_0 (r := 48) dX8_nextToken_106 lf_X8_9 (sk_47 _) rfl ?_
    refine g_aload_n dX8_nextToken_109 rfl rfl ?_
    refine rg_X8_11 (v := (I 47 11)) dX8_nextToken_110 lf_X8_42 (sk_47 _) rfl ?_
    refine s_iald (j := (I 47 11).toNatClampNeg) (v := (I 48 (I 47 11).toNatClampNeg)) dX8_nextToken_113 (sk_48 _) (b2 c2) rfl rfl ?_
    exact s_callS (M' := mX8_isLetter) (As := [.int (I 48 (I 47 11).toNatClampNeg)]) (st := []) dX8_nextToken_114 lm_X8_129 okX8_isLetter osX8_isLetter (by simp [Value.category]) (by decide) rfl (k3 c2)
set_option maxRecDepth 10000 in
set_option maxHeartbeats 1000000 in
theorem sg_X8_nextToken_266 {l : Launch} {d : Nat} {Q : Option Value → mx_H → Prop} {c : Nat} {I : mx_I} (x1 : Int32)
    (q1 : Q none (sk0 c, (mx_set (mx_set I 47 12 x1) 47 11 ((I 47 11) + 1)))) :
    mx_Go l (mx_rm (d + 1) 0 0) mX8_nextToken (mx_Z Q 0 0) 0 0 266 [.ref 47] [.int x1, .ref 47] (sk0 c, I) := by
  refine rp_X8_12 dX8_nextToken_266 lf_X8_81 (sk_47 _) ?_
  refine g_aload_n dX8_nextToken_269 rfl rfl ?_
  refine g_dup dX8_nextToken_270 rfl ?_
  refine rg_X8_11 (v := (I 47 11)) dX8_nextToken_271 lf_X8_42 (sk_47 _) (rd_sl (by decide) rfl) ?_
  refine g_iconst (v := 1) dX8_nextToken_274 (by decide) ?_
  refine g_iadd dX8_nextToken_275 ?_
  refine rp_X8_11 dX8_nextToken_276 lf_X8_42 (sk_47 _) ?_
  exact g_vret rfl dX8_nextToken_279 rfl (Nat.le_refl _) (q1)
set_option maxRecDepth 10000 in
set_option maxHeartbeats 1000000 in
theorem sg_X8_nextToken_164 {l : Launch} {d : Nat} {Q : Option Value → mx_H → Prop} {c : Nat} {I : mx_I}
    (q1 : ((I 47 3) ≤ (I 47 11)) → (4 < ((I 47 11) - (I 47 13))) → Q none (sk0 c, (mx_set I 47 12 25)))
    (q2 : ((I 47 3) ≤ (I 47 11)) → (¬ 4 < ((I 47 11) - (I 47 13))) → Q none (sk0 c, (mx_set I 47 12 1)))
    (b3 : (¬ (I 47 3) ≤ (I 47 11)) → vp_in (I 47 11) 400)
    (k4 : (¬ (I 47 3) ≤ (I 47 11)) → mx_K1 l mX8_isDigit d [.int (I 48 (I 47 11).toNatClampNeg)] (sk0 c, I) (fun r h' => mx_Go l (mx_rm (d + 1) 0 0) mX8_nextToken (mx_Z Q 0 0) 0 0 187 [.ref 47] (r.toList ++ []) h')) :
    mx_Go l (mx_rm (d + 1) 0 0) mX8_nextToken (mx_Z Q 0 0) 0 0 164 [.ref 47] [] (sk0 c, I) := by
  refine g_aload_n dX8_nextToken_164 rfl rfl ?_
  refine rg_X8_11 (v := (I 47 11)) dX8_nextToken_165 lf_X8_42 (sk_47 _) rfl ?_
  refine g_aload_n dX8_nextToken_168 rfl rfl ?_
  refine rg_X8_3 (v := (I 47 3)) dX8_nextToken_169 lf_X8_29 (sk_47 _) rfl ?_
  refine g_icmp_ge (tgt := 227) dX8_nextToken_172 (by decide) (fun c1 => ?_) (fun c2 => ?_)
  · skip
    refine g_aload_n dX8_nextToken_227 rfl rfl ?_
    refine g_aload_n dX8_nextToken_228 rfl rfl ?_
    refine rg_X8_11 (v := (I 47 11)) dX8_nextToken_229 lf_X8_42 (sk_47 _) rfl ?_
    refine g_aload_n dX8_nextToken_232 rfl rfl ?_
    refine rg_X8_13 (v := (I 47 13)) dX8_nextToken_233 lf_X8_54 (sk_47 _) rfl ?_
    refine g_isub dX8_nextToken_236 ?_
    refine g_iconst (v := 4) dX8_nextToken_237 (by decide) ?_
    refine g_icmp_gt (tgt := 245) dX8_nextToken_238 (by decide) (fun c3 => ?_) (fun c4 => ?_)
    · skip
      refine g_bipush (v := 25) dX8_nextToken_245 (by decide) ?_
      refine rp_X8_12 dX8_nextToken_247 lf_X8_81 (sk_47 _) ?_
      refine g_goto (tgt := 279) dX8_nextToken_250 (by decide) ?_
      exact g_vret rfl dX8_nextToken_279 rfl (Nat.le_refl _) (q1 c1 c3)
    · skip
      refine g_iconst (v := 1) dX8_nextToken_241 (by decide) ?_
      refine g_goto (tgt := 247) dX8_nextToken_242 (by decide) ?_
      refine rp_X8_12 dX8_nextToken_247 lf_X8_81 (sk_47 _) ?_
      refine g_goto (tgt := 279) dX8_nextToken_250 (by decide) ?_
      exact g_vret rfl dX8_nextToken_279 rfl (Nat.le_refl _) (q2 c1 c4)
  · skip
    refine g_aload_n dX8_nextToken_175 rfl rfl ?_
    refine rg_X8_0 (r := 48) dX8_nextToken_176 lf_X8_9 (sk_47 _) rfl ?_
    refine g_aload_n dX8_nextToken_179 rfl rfl ?_
    refine rg_X8_11 (v := (I 47 11)) dX8_nextToken_180 lf_X8_42 (sk_47 _) rfl ?_
    refine s_iald (j := (I 47 11).toNatClampNeg) (v := (I 48 (I 47 11).toNatClampNeg)) dX8_nextToken_183 (sk_48 _) (b3 c2) rfl rfl ?_
    exact s_callS (M' := mX8_isDigit) (As := [.int (I 48 (I 47 11).toNatClampNeg)]) (st := []) dX8_nextToken_184 lm_X8_137 okX8_isDigit osX8_isDigit (by simp [Value.category]) (by decide) rfl (k4 c2)
set_option maxRecDepth 10000 in
set_option maxHeartbeats 1000000 in
theorem sg_X8_nextToken_138 {l : Launch} {d : Nat} {Q : Option Value → mx_H → Prop} {c : Nat} {I : mx_I} (x1 : Int32)
    (q1 : Q none (sk0 c, (mx_set I 47 12 x1))) :
    mx_Go l (mx_rm (d + 1) 0 0) mX8_nextToken (mx_Z Q 0 0) 0 0 138 [.ref 47] [.int x1, .ref 47] (sk0 c, I) := by
  refine rp_X8_12 dX8_nextToken_138 lf_X8_81 (sk_47 _) ?_
  refine g_goto (tgt := 279) dX8_nextToken_141 (by decide) ?_
  exact g_vret rfl dX8_nextToken_279 rfl (Nat.le_refl _) (q1)
set_option maxRecDepth 10000 in
set_option maxHeartbeats 1000000 in
theorem sg_X8_nextToken_117 {l : Launch} {d : Nat} {Q : Option Value → mx_H → Prop} {c : Nat} {I : mx_I} (x1 : Int32)
    (k1 : (x1 = 0) → mx_K1 l mX8_keyword d [.ref 47] (sk0 c, I) (fun r h' => mx_Go l (mx_rm (d + 1) 0 0) mX8_nextToken (mx_Z Q 0 0) 0 0 138 [.ref 47] (r.toList ++ [.ref 47]) h'))
    (e2 : (¬ x1 = 0) → mx_Go l (mx_rm (d + 1) 0 0) mX8_nextToken (mx_Z Q 0 0) 0 0 94 [.ref 47] [] (sk0 c, (mx_set I 47 11 ((I 47 11) + 1)))) :
    mx_Go l (mx_rm (d + 1) 0 0) mX8_nextToken (mx_Z Q 0 0) 0 0 117 [.ref 47] [.int x1] (sk0 c, I) := by
  refine g_if_eq (tgt := 133) dX8_nextToken_117 (by decide) (fun c1 => ?_) (fun c2 => ?_)
  · skip
    refine g_aload_n dX8_nextToken_133 rfl rfl ?_
    refine g_aload_n dX8_nextToken_134 rfl rfl ?_
    exact s_callV (M' := mX8_keyword) (As := []) (st := [.ref 47]) dX8_nextToken_135 lm_X8_133 ovX8_keyword (h := (sk0 c, I)) (sk_47 _) (show vwCl[8]? = some _ from rfl) rfl (by simp [Value.category]) (by decide) rfl (k1 c1)
  · skip
    refine g_aload_n dX8_nextToken_120 rfl rfl ?_
    refine g_dup dX8_nextToken_121 rfl ?_
    refine rg_X8_11 (v := (I 47 11)) dX8_nextToken_122 lf_X8_42 (sk_47 _) rfl ?_
    refine g_iconst (v := 1) dX8_nextToken_125 (by decide) ?_
    refine g_iadd dX8_nextToken_126 ?_
    refine rp_X8_11 dX8_nextToken_127 lf_X8_42 (sk_47 _) ?_
    refine g_goto (tgt := 94) dX8_nextToken_130 (by decide) ?_
    exact e2 c2
set_option maxRecDepth 10000 in
set_option maxHeartbeats 1000000 in
theorem sg_X8_nextToken_187 {l : Launch} {d : Nat} {Q : Option Value → mx_H → Prop} {c : Nat} {I : mx_I} (x1 : Int32)
    (q1 : (x1 = 0) → (4 < ((I 47 11) - (I 47 13))) → Q none (sk0 c, (mx_set I 47 12 25)))
    (q2 : (x1 = 0) → (¬ 4 < ((I 47 11) - (I 47 13))) → Q none (sk0 c, (mx_set I 47 12 1)))
    (b3 : (¬ x1 = 0) → vp_in (I 47 11) 400)
    (e4 : (¬ x1 = 0) → mx_Go l (mx_rm (d + 1) 0 0) mX8_nextToken (mx_Z Q 0 0) 0 0 164 [.ref 47] [] (sk0 c, (mx_set (mx_set I 47 14 ((((I 47 14) * 10) + (I 48 (I 47 11).toNatClampNeg)) - 48)) 47 11 ((I 47 11) + 1)))) :
    mx_Go l (mx_rm (d + 1) 0 0) mX8_nextToken (mx_Z Q 0 0) 0 0 187 [.ref 47] [.int x1] (sk0 c, I) := by
  refine g_if_eq (tgt := 227) dX8_nextToken_187 (by decide) (fun c1 => ?_) (fun c2 => ?_)
  · skip
    refine g_aload_n dX8_nextToken_227 rfl rfl ?_
    refine g_aload_n dX8_nextToken_228 rfl rfl ?_
    refine rg_X8_11 (v := (I 47 11)) dX8_nextToken_229 lf_X8_42 (sk_47 _) rfl ?_
    refine g_aload_n dX8_nextToken_232 rfl rfl ?_
    refine rg_X8_13 (v := (I 47 13)) dX8_nextToken_233 lf_X8_54 (sk_47 _) rfl ?_
    refine g_isub dX8_nextToken_236 ?_
    refine g_iconst (v := 4) dX8_nextToken_237 (by decide) ?_
    refine g_icmp_gt (tgt := 245) dX8_nextToken_238 (by decide) (fun c3 => ?_) (fun c4 => ?_)
    · skip
      refine g_bipush (v := 25) dX8_nextToken_245 (by decide) ?_
      refine rp_X8_12 dX8_nextToken_247 lf_X8_81 (sk_47 _) ?_
      refine g_goto (tgt := 279) dX8_nextToken_250 (by decide) ?_
      exact g_vret rfl dX8_nextToken_279 rfl (Nat.le_refl _) (q1 c1 c3)
    · skip
      refine g_iconst (v := 1) dX8_nextToken_241 (by decide) ?_
      refine g_goto (tgt := 247) dX8_nextToken_242 (by decide) ?_
      refine rp_X8_12 dX8_nextToken_247 lf_X8_81 (sk_47 _) ?_
      refine g_goto (tgt := 279) dX8_nextToken_250 (by decide) ?_
      exact g_vret rfl dX8_nextToken_279 rfl (Nat.le_refl _) (q2 c1 c4)
  · skip
    refine g_aload_n dX8_nextToken_190 rfl rfl ?_
    refine g_aload_n dX8_nextToken_191 rfl rfl ?_
    refine rg_X8_14 (v := (I 47 14)) dX8_nextToken_192 lf_X8_110 (sk_47 _) rfl ?_
    refine g_bipush (v := 10) dX8_nextToken_195 (by decide) ?_
    refine g_imul dX8_nextToken_197 ?_
    refine g_aload_n dX8_nextToken_198 rfl rfl ?_
    refine rg_X8_0 (r := 48) dX8_nextToken_199 lf_X8_9 (sk_47 _) rfl ?_
    refine g_aload_n dX8_nextToken_202 rfl rfl ?_
    refine rg_X8_11 (v := (I 47 11)) dX8_nextToken_203 lf_X8_42 (sk_47 _) rfl ?_
    refine s_iald (j := (I 47 11).toNatClampNeg) (v := (I 48 (I 47 11).toNatClampNeg)) dX8_nextToken_206 (sk_48 _) (b3 c2) rfl rfl ?_
    refine g_iadd dX8_nextToken_207 ?_
    refine g_bipush (v := 48) dX8_nextToken_208 (by decide) ?_
    refine g_isub dX8_nextToken_210 ?_
    refine rp_X8_14 dX8_nextToken_211 lf_X8_110 (sk_47 _) ?_
    refine g_aload_n dX8_nextToken_214 rfl rfl ?_
    refine g_dup dX8_nextToken_215 rfl ?_
    refine rg_X8_11 (v := (I 47 11)) dX8_nextToken_216 lf_X8_42 (sk_47 _) (rd_sl (by decide) rfl) ?_
    refine g_iconst (v := 1) dX8_nextToken_219 (by decide) ?_
    refine g_iadd dX8_nextToken_220 ?_
    refine rp_X8_11 dX8_nextToken_221 lf_X8_42 (sk_47 _) ?_
    refine g_goto (tgt := 164) dX8_nextToken_224 (by decide) ?_
    exact e4 c2
set_option maxRecDepth 10000 in
set_option maxHeartbeats 1000000 in
theorem sn_X8_isLetter {l : Launch} {d : Nat} {Q : Option Value → mx_H → Prop} {c : Nat} {I : mx_I} (a1 : Int32)
    (q1 : (a1 < 97) → (a1 < 65) → Q (some (.int 0)) (sk0 c, I))
    (q2 : (a1 < 97) → (¬ a1 < 65) → (90 < a1) → Q (some (.int 0)) (sk0 c, I))
    (q3 : (a1 < 97) → (¬ a1 < 65) → (¬ 90 < a1) → Q (some (.int 1)) (sk0 c, I))
    (q4 : (¬ a1 < 97) → (a1 ≤ 122) → Q (some (.int 1)) (sk0 c, I))
    (q5 : (¬ a1 < 97) → (¬ a1 ≤ 122) → (a1 < 65) → Q (some (.int 0)) (sk0 c, I))
    (q6 : (¬ a1 < 97) → (¬ a1 ≤ 122) → (¬ a1 < 65) → (90 < a1) → Q (some (.int 0)) (sk0 c, I))
    (q7 : (¬ a1 < 97) → (¬ a1 ≤ 122) → (¬ a1 < 65) → (¬ 90 < a1) → Q (some (.int 1)) (sk0 c, I)) :
    mx_Spec l mX8_isLetter (d + 1) 0 0 [.int a1] (sk0 c, I) Q := by
  refine mx_enter rfl (by simp [Value.category]) (Nat.le_of_ble_eq_true rfl) ?_
  change mx_Go l (mx_rm (d + 1) 0 0) mX8_isLetter (mx_Z Q 0 0) 0 0 0 [.int a1] [] (sk0 c, I)
  refine g_iload_n dX8_isLetter_0 rfl rfl ?_
  refine g_bipush (v := 97) dX8_isLetter_1 (by decide) ?_
  refine g_icmp_lt (tgt := 12) dX8_isLetter_3 (by decide) (fun c1 => ?_) (fun c2 => ?_)
  · skip
    refine g_iload_n dX8_isLetter_12 rfl rfl ?_
    refine g_bipush (v := 65) dX8_isLetter_13 (by decide) ?_
    refine g_icmp_lt (tgt := 28) dX8_isLetter_15 (by decide) (fun c3 => ?_) (fun c4 => ?_)
    · skip
      refine g_iconst (v := 0) dX8_isLetter_28 (by decide) ?_
      exact g_zret (ty := .boolean) rfl rfl dX8_isLetter_29 rfl (Nat.le_refl _) (q1 c1 c3)
    · skip
      refine g_iload_n dX8_isLetter_18 rfl rfl ?_
      refine g_bipush (v := 90) dX8_isLetter_19 (by decide) ?_
      refine g_icmp_gt (tgt := 28) dX8_isLetter_21 (by decide) (fun c5 => ?_) (fun c6 => ?_)
      · skip
        refine g_iconst (v := 0) dX8_isLetter_28 (by decide) ?_
        exact g_zret (ty := .boolean) rfl rfl dX8_isLetter_29 rfl (Nat.le_refl _) (q2 c1 c4 c5)
      · skip
        refine g_iconst (v := 1) dX8_isLetter_24 (by decide) ?_
        refine g_goto (tgt := 29) dX8_isLetter_25 (by decide) ?_
        exact g_zret (ty := .boolean) rfl rfl dX8_isLetter_29 rfl (Nat.le_refl _) (q3 c1 c4 c6)
  · skip
    refine g_iload_n dX8_isLetter_6 rfl rfl ?_
    refine g_bipush (v := 122) dX8_isLetter_7 (by decide) ?_
    refine g_icmp_le (tgt := 24) dX8_isLetter_9 (by decide) (fun c7 => ?_) (fun c8 => ?_)
    · skip
      refine g_iconst (v := 1) dX8_isLetter_24 (by decide) ?_
      refine g_goto (tgt := 29) dX8_isLetter_25 (by decide) ?_
      exact g_zret (ty := .boolean) rfl rfl dX8_isLetter_29 rfl (Nat.le_refl _) (q4 c2 c7)
    · skip
      refine g_iload_n dX8_isLetter_12 rfl rfl ?_
      refine g_bipush (v := 65) dX8_isLetter_13 (by decide) ?_
      refine g_icmp_lt (tgt := 28) dX8_isLetter_15 (by decide) (fun c9 => ?_) (fun c10 => ?_)
      · skip
        refine g_iconst (v := 0) dX8_isLetter_28 (by decide) ?_
        exact g_zret (ty := .boolean) rfl rfl dX8_isLetter_29 rfl (Nat.le_refl _) (q5 c2 c8 c9)
      · skip
        refine g_iload_n dX8_isLetter_18 rfl rfl ?_
        refine g_bipush (v := 90) dX8_isLetter_19 (by decide) ?_
        refine g_icmp_gt (tgt := 28) dX8_isLetter_21 (by decide) (fun c11 => ?_) (fun c12 => ?_)
        · skip
          refine g_iconst (v := 0) dX8_isLetter_28 (by decide) ?_
          exact g_zret (ty := .boolean) rfl rfl dX8_isLetter_29 rfl (Nat.le_refl _) (q6 c2 c8 c10 c11)
        · skip
          refine g_iconst (v := 1) dX8_isLetter_24 (by decide) ?_
          refine g_goto (tgt := 29) dX8_isLetter_25 (by decide) ?_
          exact g_zret (ty := .boolean) rfl rfl dX8_isLetter_29 rfl (Nat.le_refl _) (q7 c2 c8 c10 c12)
set_option maxRecDepth 10000 in
set_option maxHeartbeats 1000000 in
theorem sn_X8_isDigit {l : Launch} {d : Nat} {Q : Option Value → mx_H → Prop} {c : Nat} {I : mx_I} (a1 : Int32)
    (q1 : (a1 < 48) → Q (some (.int 0)) (sk0 c, I))
    (q2 : (¬ a1 < 48) → (57 < a1) → Q (some (.int 0)) (sk0 c, I))
    (q3 : (¬ a1 < 48) → (¬ 57 < a1) → Q (some (.int 1)) (sk0 c, I)) :
    mx_Spec l mX8_isDigit (d + 1) 0 0 [.int a1] (sk0 c, I) Q := by
  refine mx_enter rfl (by simp [Value.category]) (Nat.le_of_ble_eq_true rfl) ?_
  change mx_Go l (mx_rm (d + 1) 0 0) mX8_isDigit (mx_Z Q 0 0) 0 0 0 [.int a1] [] (sk0 c, I)
  refine g_iload_n dX8_isDigit_0 rfl rfl ?_
  refine g_bipush (v := 48) dX8_isDigit_1 (by decide) ?_
  refine g_icmp_lt (tgt := 16) dX8_isDigit_3 (by decide) (fun c1 => ?_) (fun c2 => ?_)
  · skip
    refine g_iconst (v := 0) dX8_isDigit_16 (by decide) ?_
    exact g_zret (ty := .boolean) rfl rfl dX8_isDigit_17 rfl (Nat.le_refl _) (q1 c1)
  · skip
    refine g_iload_n dX8_isDigit_6 rfl rfl ?_
    refine g_bipush (v := 57) dX8_isDigit_7 (by decide) ?_
    refine g_icmp_gt (tgt := 16) dX8_isDigit_9 (by decide) (fun c3 => ?_) (fun c4 => ?_)
    · skip
      refine g_iconst (v := 0) dX8_isDigit_16 (by decide) ?_
      exact g_zret (ty := .boolean) rfl rfl dX8_isDigit_17 rfl (Nat.le_refl _) (q2 c2 c3)
    · skip
      refine g_iconst (v := 1) dX8_isDigit_12 (by decide) ?_
      refine g_goto (tgt := 17) dX8_isDigit_13 (by decide) ?_
      exact g_zret (ty := .boolean) rfl rfl dX8_isDigit_17 rfl (Nat.le_refl _) (q3 c2 c4)
set_option maxRecDepth 10000 in
set_option maxHeartbeats 1000000 in
theorem sn_X8_sign {l : Launch} {d : Nat} {Q : Option Value → mx_H → Prop} {c : Nat} {I : mx_I} (a1 : Int32)
    (q1 : (a1 = 40) → Q (some (.int 20)) (sk0 c, I))
    (q2 : (a1 = 41) → Q (some (.int 21)) (sk0 c, I))
    (q3 : (a1 = 42) → Q (some (.int 18)) (sk0 c, I))
    (q4 : (a1 = 43) → Q (some (.int 16)) (sk0 c, I))
    (q5 : (a1 = 44) → Q (some (.int 25)) (sk0 c, I))
    (q6 : (a1 = 45) → Q (some (.int 17)) (sk0 c, I))
    (q7 : (a1 = 46) → Q (some (.int 25)) (sk0 c, I))
    (q8 : (a1 = 47) → Q (some (.int 19)) (sk0 c, I))
    (q9 : (a1 = 48) → Q (some (.int 25)) (sk0 c, I))
    (q10 : (a1 = 49) → Q (some (.int 25)) (sk0 c, I))
    (q11 : (a1 = 50) → Q (some (.int 25)) (sk0 c, I))
    (q12 : (a1 = 51) → Q (some (.int 25)) (sk0 c, I))
    (q13 : (a1 = 52) → Q (some (.int 25)) (sk0 c, I))
    (q14 : (a1 = 53) → Q (some (.int 25)) (sk0 c, I))
    (q15 : (a1 = 54) → Q (some (.int 25)) (sk0 c, I))
    (q16 : (a1 = 55) → Q (some (.int 25)) (sk0 c, I))
    (q17 : (a1 = 56) → Q (some (.int 25)) (sk0 c, I))
    (q18 : (a1 = 57) → Q (some (.int 25)) (sk0 c, I))
    (q19 : (a1 = 58) → Q (some (.int 25)) (sk0 c, I))
    (q20 : (a1 = 59) → Q (some (.int 15)) (sk0 c, I))
    (q21 : (a1 = 60) → Q (some (.int 22)) (sk0 c, I))
    (q22 : (a1 = 61) → Q (some (.int 23)) (sk0 c, I))
    (q23 : (a1 = 62) → Q (some (.int 24)) (sk0 c, I))
    (q24 : (¬ a1 = 40) → (¬ a1 = 41) → (¬ a1 = 42) → (¬ a1 = 43) → (¬ a1 = 44) → (¬ a1 = 45) → (¬ a1 = 46) → (¬ a1 = 47) → (¬ a1 = 48) → (¬ a1 = 49) → (¬ a1 = 50) → (¬ a1 = 51) → (¬ a1 = 52) → (¬ a1 = 53) → (¬ a1 = 54) → (¬ a1 = 55) → (¬ a1 = 56) → (¬ a1 = 57) → (¬ a1 = 58) → (¬ a1 = 59) → (¬ a1 = 60) → (¬ a1 = 61) → (¬ a1 = 62) → Q (some (.int 25)) (sk0 c, I)) :
    mx_Spec l mX8_sign (d + 1) 0 0 [.int a1] (sk0 c, I) Q := by
  refine mx_enter rfl (by simp [Value.category]) (Nat.le_of_ble_eq_true rfl) ?_
  change mx_Go l (mx_rm (d + 1) 0 0) mX8_sign (mx_Z Q 0 0) 0 0 0 [.int a1] [] (sk0 c, I)
  refine g_iload_n dX8_sign_0 rfl rfl ?_
  rcases Decidable.em (a1 = 40) with c1 | c2
  · skip
    refine g_tableIn (off := 122) (tgt := 123) dX8_sign_1 (by rw [c1]; decide) (by rw [c1]; decide) (by rw [c1]; rfl) (by decide) ?_
    refine g_bipush (v := 20) dX8_sign_123 (by decide) ?_
    exact g_iret rfl dX8_sign_125 rfl (Nat.le_refl _) (q1 c1)
  · skip
    rcases Decidable.em (a1 = 41) with c3 | c4
    · skip
      refine g_tableIn (off := 125) (tgt := 126) dX8_sign_1 (by rw [c3]; decide) (by rw [c3]; decide) (by rw [c3]; rfl) (by decide) ?_
      refine g_bipush (v := 21) dX8_sign_126 (by decide) ?_
      exact g_iret rfl dX8_sign_128 rfl (Nat.le_refl _) (q2 c3)
    · skip
      rcases Decidable.em (a1 = 42) with c5 | c6
      · skip
        refine g_tableIn (off := 116) (tgt := 117) dX8_sign_1 (by rw [c5]; decide) (by rw [c5]; decide) (by rw [c5]; rfl) (by decide) ?_
        refine g_bipush (v := 18) dX8_sign_117 (by decide) ?_
        exact g_iret rfl dX8_sign_119 rfl (Nat.le_refl _) (q3 c5)
      · skip
        rcases Decidable.em (a1 = 43) with c7 | c8
        · skip
          refine g_tableIn (off := 110) (tgt := 111) dX8_sign_1 (by rw [c7]; decide) (by rw [c7]; decide) (by rw [c7]; rfl) (by decide) ?_
          refine g_bipush (v := 16) dX8_sign_111 (by decide) ?_
          exact g_iret rfl dX8_sign_113 rfl (Nat.le_refl _) (q4 c7)
        · skip
          rcases Decidable.em (a1 = 44) with c9 | c10
          · skip
            refine g_tableIn (off := 137) (tgt := 138) dX8_sign_1 (by rw [c9]; decide) (by rw [c9]; decide) (by rw [c9]; rfl) (by decide) ?_
            refine g_bipush (v := 25) dX8_sign_138 (by decide) ?_
            exact g_iret rfl dX8_sign_140 rfl (Nat.le_refl _) (q5 c9)
          · skip
            rcases Decidable.em (a1 = 45) with c11 | c12
            · skip
              refine g_tableIn (off := 113) (tgt := 114) dX8_sign_1 (by rw [c11]; decide) (by rw [c11]; decide) (by rw [c11]; rfl) (by decide) ?_
              refine g_bipush (v := 17) dX8_sign_114 (by decide) ?_
              exact g_iret rfl dX8_sign_116 rfl (Nat.le_refl _) (q6 c11)
            · skip
              rcases Decidable.em (a1 = 46) with c13 | c14
              · skip
                refine g_tableIn (off := 137) (tgt := 138) dX8_sign_1 (by rw [c13]; decide) (by rw [c13]; decide) (by rw [c13]; rfl) (by decide) ?_
                refine g_bipush (v := 25) dX8_sign_138 (by decide) ?_
                exact g_iret rfl dX8_sign_140 rfl (Nat.le_refl _) (q7 c13)
              · skip
                rcases Decidable.em (a1 = 47) with c15 | c16
                · skip
                  refine g_tableIn (off := 119) (tgt := 120) dX8_sign_1 (by rw [c15]; decide) (by rw [c15]; decide) (by rw [c15]; rfl) (by decide) ?_
                  refine g_bipush (v := 19) dX8_sign_120 (by decide) ?_
                  exact g_iret rfl dX8_sign_122 rfl (Nat.le_refl _) (q8 c15)
                · skip
                  rcases Decidable.em (a1 = 48) with c17 | c18
                  · skip
                    refine g_tableIn (off := 137) (tgt := 138) dX8_sign_1 (by rw [c17]; decide) (by rw [c17]; decide) (by rw [c17]; rfl) (by decide) ?_
                    refine g_bipush (v := 25) dX8_sign_138 (by decide) ?_
                    exact g_iret rfl dX8_sign_140 rfl (Nat.le_refl _) (q9 c17)
                  · skip
                    rcases Decidable.em (a1 = 49) with c19 | c20
                    · skip
                      refine g_tableIn (off := 137) (tgt := 138) dX8_sign_1 (by rw [c19]; decide) (by rw [c19]; decide) (by rw [c19]; rfl) (by decide) ?_
                      refine g_bipush (v := 25) dX8_sign_138 (by decide) ?_
                      exact g_iret rfl dX8_sign_140 rfl (Nat.le_refl _) (q10 c19)
                    · skip
                      rcases Decidable.em (a1 = 50) with c21 | c22
                      · skip
                        refine g_tableIn (off := 137) (tgt := 138) dX8_sign_1 (by rw [c21]; decide) (by rw [c21]; decide) (by rw [c21]; rfl) (by decide) ?_
                        refine g_bipush (v := 25) dX8_sign_138 (by decide) ?_
                        exact g_iret rfl dX8_sign_140 rfl (Nat.le_refl _) (q11 c21)
                      · skip
                        rcases Decidable.em (a1 = 51) with c23 | c24
                        · skip
                          refine g_tableIn (off := 137) (tgt := 138) dX8_sign_1 (by rw [c23]; decide) (by rw [c23]; decide) (by rw [c23]; rfl) (by decide) ?_
                          refine g_bipush (v := 25) dX8_sign_138 (by decide) ?_
                          exact g_iret rfl dX8_sign_140 rfl (Nat.le_refl _) (q12 c23)
                        · skip
                          rcases Decidable.em (a1 = 52) with c25 | c26
                          · skip
                            refine g_tableIn (off := 137) (tgt := 138) dX8_sign_1 (by rw [c25]; decide) (by rw [c25]; decide) (by rw [c25]; rfl) (by decide) ?_
                            refine g_bipush (v := 25) dX8_sign_138 (by decide) ?_
                            exact g_iret rfl dX8_sign_140 rfl (Nat.le_refl _) (q13 c25)
                          · skip
                            rcases Decidable.em (a1 = 53) with c27 | c28
                            · skip
                              refine g_tableIn (off := 137) (tgt := 138) dX8_sign_1 (by rw [c27]; decide) (by rw [c27]; decide) (by rw [c27]; rfl) (by decide) ?_
                              refine g_bipush (v := 25) dX8_sign_138 (by decide) ?_
                              exact g_iret rfl dX8_sign_140 rfl (Nat.le_refl _) (q14 c27)
                            · skip
                              rcases Decidable.em (a1 = 54) with c29 | c30
                              · skip
                                refine g_tableIn (off := 137) (tgt := 138) dX8_sign_1 (by rw [c29]; decide) (by rw [c29]; decide) (by rw [c29]; rfl) (by decide) ?_
                                refine g_bipush (v := 25) dX8_sign_138 (by decide) ?_
                                exact g_iret rfl dX8_sign_140 rfl (Nat.le_refl _) (q15 c29)
                              · skip
                                rcases Decidable.em (a1 = 55) with c31 | c32
                                · skip
                                  refine g_tableIn (off := 137) (tgt := 138) dX8_sign_1 (by rw [c31]; decide) (by rw [c31]; decide) (by rw [c31]; rfl) (by decide) ?_
                                  refine g_bipush (v := 25) dX8_sign_138 (by decide) ?_
                                  exact g_iret rfl dX8_sign_140 rfl (Nat.le_refl _) (q16 c31)
                                · skip
                                  rcases Decidable.em (a1 = 56) with c33 | c34
                                  · skip
                                    refine g_tableIn (off := 137) (tgt := 138) dX8_sign_1 (by rw [c33]; decide) (by rw [c33]; decide) (by rw [c33]; rfl) (by decide) ?_
                                    refine g_bipush (v := 25) dX8_sign_138 (by decide) ?_
                                    exact g_iret rfl dX8_sign_140 rfl (Nat.le_refl _) (q17 c33)
                                  · skip
                                    rcases Decidable.em (a1 = 57) with c35 | c36
                                    · skip
                                      refine g_tableIn (off := 137) (tgt := 138) dX8_sign_1 (by rw [c35]; decide) (by rw [c35]; decide) (by rw [c35]; rfl) (by decide) ?_
                                      refine g_bipush (v := 25) dX8_sign_138 (by decide) ?_
                                      exact g_iret rfl dX8_sign_140 rfl (Nat.le_refl _) (q18 c35)
                                    · skip
                                      rcases Decidable.em (a1 = 58) with c37 | c38
                                      · skip
                                        refine g_tableIn (off := 137) (tgt := 138) dX8_sign_1 (by rw [c37]; decide) (by rw [c37]; decide) (by rw [c37]; rfl) (by decide) ?_
                                        refine g_bipush (v := 25) dX8_sign_138 (by decide) ?_
                                        exact g_iret rfl dX8_sign_140 rfl (Nat.le_refl _) (q19 c37)
                                      · skip
                                        rcases Decidable.em (a1 = 59) with c39 | c40
                                        · skip
                                          refine g_tableIn (off := 107) (tgt := 108) dX8_sign_1 (by rw [c39]; decide) (by rw [c39]; decide) (by rw [c39]; rfl) (by decide) ?_
                                          refine g_bipush (v := 15) dX8_sign_108 (by decide) ?_
                                          exact g_iret rfl dX8_sign_110 rfl (Nat.le_refl _) (q20 c39)
                                        · skip
                                          rcases Decidable.em (a1 = 60) with c41 | c42
                                          · skip
                                            refine g_tableIn (off := 128) (tgt := 129) dX8_sign_1 (by rw [c41]; decide) (by rw [c41]; decide) (by rw [c41]; rfl) (by decide) ?_
                                            refine g_bipush (v := 22) dX8_sign_129 (by decide) ?_
                                            exact g_iret rfl dX8_sign_131 rfl (Nat.le_refl _) (q21 c41)
                                          · skip
                                            rcases Decidable.em (a1 = 61) with c43 | c44
                                            · skip
                                              refine g_tableIn (off := 131) (tgt := 132) dX8_sign_1 (by rw [c43]; decide) (by rw [c43]; decide) (by rw [c43]; rfl) (by decide) ?_
                                              refine g_bipush (v := 23) dX8_sign_132 (by decide) ?_
                                              exact g_iret rfl dX8_sign_134 rfl (Nat.le_refl _) (q22 c43)
                                            · skip
                                              rcases Decidable.em (a1 = 62) with c45 | c46
                                              · skip
                                                refine g_tableIn (off := 134) (tgt := 135) dX8_sign_1 (by rw [c45]; decide) (by rw [c45]; decide) (by rw [c45]; rfl) (by decide) ?_
                                                refine g_bipush (v := 24) dX8_sign_135 (by decide) ?_
                                                exact g_iret rfl dX8_sign_137 rfl (Nat.le_refl _) (q23 c45)
                                              · skip
                                                refine g_tableOut (tgt := 138) dX8_sign_1 (by have q2 := mx_i32 (n := 40) (by decide) c2; have q4 := mx_i32 (n := 41) (by decide) c4; have q6 := mx_i32 (n := 42) (by decide) c6; have q8 := mx_i32 (n := 43) (by decide) c8; have q10 := mx_i32 (n := 44) (by decide) c10; have q12 := mx_i32 (n := 45) (by decide) c12; have q14 := mx_i32 (n := 46) (by decide) c14; have q16 := mx_i32 (n := 47) (by decide) c16; have q18 := mx_i32 (n := 48) (by decide) c18; have q20 := mx_i32 (n := 49) (by decide) c20; have q22 := mx_i32 (n := 50) (by decide) c22; have q24 := mx_i32 (n := 51) (by decide) c24; have q26 := mx_i32 (n := 52) (by decide) c26; have q28 := mx_i32 (n := 53) (by decide) c28; have q30 := mx_i32 (n := 54) (by decide) c30; have q32 := mx_i32 (n := 55) (by decide) c32; have q34 := mx_i32 (n := 56) (by decide) c34; have q36 := mx_i32 (n := 57) (by decide) c36; have q38 := mx_i32 (n := 58) (by decide) c38; have q40 := mx_i32 (n := 59) (by decide) c40; have q42 := mx_i32 (n := 60) (by decide) c42; have q44 := mx_i32 (n := 61) (by decide) c44; have q46 := mx_i32 (n := 62) (by decide) c46; omega) (by decide) ?_
                                                refine g_bipush (v := 25) dX8_sign_138 (by decide) ?_
                                                exact g_iret rfl dX8_sign_140 rfl (Nat.le_refl _) (q24 c2 c4 c6 c8 c10 c12 c14 c16 c18 c20 c22 c24 c26 c28 c30 c32 c34 c36 c38 c40 c42 c44 c46)
set_option maxRecDepth 10000 in
set_option maxHeartbeats 1000000 in
theorem sn_X8_keyword {l : Launch} {d : Nat} {Q : Option Value → mx_H → Prop} {c : Nat} {I : mx_I}
    (e1 : mx_Go l (mx_rm (d + 1) 0 0) mX8_keyword (mx_Z Q 0 0) 0 0 2 [.ref 47, .int 2] [] (sk0 c, I)) :
    mx_Spec l mX8_keyword (d + 1) 0 0 [.ref 47] (sk0 c, I) Q := by
  refine mx_enter rfl (by simp [Value.category]) (Nat.le_of_ble_eq_true rfl) ?_
  change mx_Go l (mx_rm (d + 1) 0 0) mX8_keyword (mx_Z Q 0 0) 0 0 0 [.ref 47, .retAddr 0] [] (sk0 c, I)
  refine g_iconst (v := 2) dX8_keyword_0 (by decide) ?_
  refine s_istore_n (L' := [.ref 47, .int 2]) dX8_keyword_1 rfl (by decide) rfl rfl ?_
  exact e1
set_option maxRecDepth 10000 in
set_option maxHeartbeats 1000000 in
theorem sg_X8_keyword_2 {l : Launch} {d : Nat} {Q : Option Value → mx_H → Prop} {c : Nat} {I : mx_I} (x1 : Int32)
    (q1 : (14 < x1) → Q (some (.int 25)) (sk0 c, I))
    (k2 : (¬ 14 < x1) → mx_K1 l mX8_spelling d [.int x1] (sk0 c, I) (fun r h' => mx_Go l (mx_rm (d + 1) 0 0) mX8_keyword (mx_Z Q 0 0) 0 0 13 [.ref 47, .int x1] (r.toList ++ [.ref 47]) h')) :
    mx_Go l (mx_rm (d + 1) 0 0) mX8_keyword (mx_Z Q 0 0) 0 0 2 [.ref 47, .int x1] [] (sk0 c, I) := by
  refine g_iload_n dX8_keyword_2 rfl rfl ?_
  refine g_bipush (v := 14) dX8_keyword_3 (by decide) ?_
  refine g_icmp_gt (tgt := 27) dX8_keyword_5 (by decide) (fun c1 => ?_) (fun c2 => ?_)
  · skip
    refine g_bipush (v := 25) dX8_keyword_27 (by decide) ?_
    exact g_iret rfl dX8_keyword_29 rfl (Nat.le_refl _) (q1 c1)
  · skip
    refine g_aload_n dX8_keyword_8 rfl rfl ?_
    refine g_iload_n dX8_keyword_9 rfl rfl ?_
    exact s_callS (M' := mX8_spelling) (As := [.int x1]) (st := [.ref 47]) dX8_keyword_10 lm_X8_143 okX8_spelling osX8_spelling (by simp [Value.category]) (by decide) rfl (k2 c2)
set_option maxRecDepth 10000 in
set_option maxHeartbeats 1000000 in
theorem sg_X8_keyword_13 {l : Launch} {d : Nat} {Q : Option Value → mx_H → Prop} {c : Nat} {I : mx_I} (x1 : Int32) (x2 : Nat)
    (k1 : mx_K1 l mX8_isSpelt d [.ref 47, .ref x2] (sk0 c, I) (fun r h' => mx_Go l (mx_rm (d + 1) 0 0) mX8_keyword (mx_Z Q 0 0) 0 0 16 [.ref 47, .int x1] (r.toList ++ []) h')) :
    mx_Go l (mx_rm (d + 1) 0 0) mX8_keyword (mx_Z Q 0 0) 0 0 13 [.ref 47, .int x1] [.ref x2, .ref 47] (sk0 c, I) := by
  exact s_callV (M' := mX8_isSpelt) (As := [.ref x2]) (st := []) dX8_keyword_13 lm_X8_147 ovX8_isSpelt (h := (sk0 c, I)) (sk_47 _) (show vwCl[8]? = some _ from rfl) rfl (by simp [Value.category]) (by decide) rfl (k1)
set_option maxRecDepth 10000 in
set_option maxHeartbeats 1000000 in
theorem sg_X8_keyword_16 {l : Launch} {d : Nat} {Q : Option Value → mx_H → Prop} {c : Nat} {I : mx_I} (x1 : Int32) (x2 : Int32)
    (e1 : (x2 = 0) → mx_Go l (mx_rm (d + 1) 0 0) mX8_keyword (mx_Z Q 0 0) 0 0 2 [.ref 47, .int (x1 + 1)] [] (sk0 c, I))
    (q2 : (¬ x2 = 0) → Q (some (.int x1)) (sk0 c, I)) :
    mx_Go l (mx_rm (d + 1) 0 0) mX8_keyword (mx_Z Q 0 0) 0 0 16 [.ref 47, .int x1] [.int x2] (sk0 c, I) := by
  refine g_if_eq (tgt := 21) dX8_keyword_16 (by decide) (fun c1 => ?_) (fun c2 => ?_)
  · skip
    refine s_iinc (v := (x1 + 1)) (L' := [.ref 47, .int (x1 + 1)]) dX8_keyword_21 rfl (by decide) rfl rfl rfl ?_
    refine g_goto (tgt := 2) dX8_keyword_24 (by decide) ?_
    exact e1 c1
  · skip
    refine g_iload_n dX8_keyword_19 rfl rfl ?_
    exact g_iret rfl dX8_keyword_20 rfl (Nat.le_refl _) (q2 c2)
set_option maxRecDepth 10000 in
set_option maxHeartbeats 1000000 in
theorem sn_X8_isSpelt {l : Launch} {d : Nat} {Q : Option Value → mx_H → Prop} {c : Nat} {I : mx_I} (sr : Nat)
    (t1 : mx_Go l (mx_rm (d + 1) 0 0) mX8_isSpelt (mx_Z Q 0 0) 0 0 1 [.ref 47, .ref sr, .retAddr 0] [.ref sr] (sk0 c, I)) :
    mx_Spec l mX8_isSpelt (d + 1) 0 0 [.ref 47, .ref sr] (sk0 c, I) Q := by
  refine mx_enter rfl (by simp [Value.category]) (Nat.le_of_ble_eq_true rfl) ?_
  change mx_Go l (mx_rm (d + 1) 0 0) mX8_isSpelt (mx_Z Q 0 0) 0 0 0 [.ref 47, .ref sr, .retAddr 0] [] (sk0 c, I)
  refine g_aload_n dX8_isSpelt_0 rfl rfl ?_
  exact t1
set_option maxRecDepth 10000 in
set_option maxHeartbeats 1000000 in
theorem sg_X8_isSpelt_4 {l : Launch} {d : Nat} {Q : Option Value → mx_H → Prop} {c : Nat} {I : mx_I} (sr : Nat) (x1 : Nat) (x2 : Int32)
    (e1 : (x2 = ((I 47 11) - (I 47 13))) → mx_Go l (mx_rm (d + 1) 0 0) mX8_isSpelt (mx_Z Q 0 0) 0 0 20 [.ref 47, .ref x1, .int 0] [] (sk0 c, I))
    (q2 : (¬ x2 = ((I 47 11) - (I 47 13))) → Q (some (.int 0)) (sk0 c, I)) :
    mx_Go l (mx_rm (d + 1) 0 0) mX8_isSpelt (mx_Z Q 0 0) 0 0 4 [.ref 47, .ref x1, .retAddr 0] [.int x2] (sk0 c, I) := by
  refine g_aload_n dX8_isSpelt_4 rfl rfl ?_
  refine rg_X8_11 (v := (I 47 11)) dX8_isSpelt_5 lf_X8_42 (sk_47 _) rfl ?_
  refine g_aload_n dX8_isSpelt_8 rfl rfl ?_
  refine rg_X8_13 (v := (I 47 13)) dX8_isSpelt_9 lf_X8_54 (sk_47 _) rfl ?_
  refine g_isub dX8_isSpelt_12 ?_
  refine g_icmp_eq (tgt := 18) dX8_isSpelt_13 (by decide) (fun c1 => ?_) (fun c2 => ?_)
  · skip
    refine g_iconst (v := 0) dX8_isSpelt_18 (by decide) ?_
    refine s_istore_n (L' := [.ref 47, .ref x1, .int 0]) dX8_isSpelt_19 rfl (by decide) rfl rfl ?_
    exact e1 c1
  · skip
    refine g_iconst (v := 0) dX8_isSpelt_16 (by decide) ?_
    exact g_zret (ty := .boolean) rfl rfl dX8_isSpelt_17 rfl (Nat.le_refl _) (q2 c2)
set_option maxRecDepth 10000 in
set_option maxHeartbeats 1000000 in
theorem sg_X8_isSpelt_20 {l : Launch} {d : Nat} {Q : Option Value → mx_H → Prop} {c : Nat} {I : mx_I} (sr : Nat) (x1 : Nat) (x2 : Int32)
    (t1 : mx_Go l (mx_rm (d + 1) 0 0) mX8_isSpelt (mx_Z Q 0 0) 0 0 22 [.ref 47, .ref x1, .int x2] [.ref x1, .int x2] (sk0 c, I)) :
    mx_Go l (mx_rm (d + 1) 0 0) mX8_isSpelt (mx_Z Q 0 0) 0 0 20 [.ref 47, .ref x1, .int x2] [] (sk0 c, I) := by
  refine g_iload_n dX8_isSpelt_20 rfl rfl ?_
  refine g_aload_n dX8_isSpelt_21 rfl rfl ?_
  exact t1
set_option maxRecDepth 10000 in
set_option maxHeartbeats 1000000 in
theorem sg_X8_isSpelt_25 {l : Launch} {d : Nat} {Q : Option Value → mx_H → Prop} {c : Nat} {I : mx_I} (sr : Nat) (x1 : Nat) (x2 : Int32) (x3 : Int32) (x4 : Int32)
    (q1 : (x3 ≤ x4) → Q (some (.int 1)) (sk0 c, I))
    (b2 : (¬ x3 ≤ x4) → vp_in ((I 47 13) + x2) 400)
    (t3 : (¬ x3 ≤ x4) → mx_Go l (mx_rm (d + 1) 0 0) mX8_isSpelt (mx_Z Q 0 0) 0 0 41 [.ref 47, .ref x1, .int x2] [.int x2, .ref x1, .int (I 48 ((I 47 13) + x2).toNatClampNeg)] (sk0 c, I)) :
    mx_Go l (mx_rm (d + 1) 0 0) mX8_isSpelt (mx_Z Q 0 0) 0 0 25 [.ref 47, .ref x1, .int x2] [.int x3, .int x4] (sk0 c, I) := by
  refine g_icmp_ge (tgt := 55) dX8_isSpelt_25 (by decide) (fun c1 => ?_) (fun c2 => ?_)
  · skip
    refine g_iconst (v := 1) dX8_isSpelt_55 (by decide) ?_
    exact g_zret (ty := .boolean) rfl rfl dX8_isSpelt_56 rfl (Nat.le_refl _) (q1 c1)
  · skip
    refine g_aload_n dX8_isSpelt_28 rfl rfl ?_
    refine rg_X8_0 (r := 48) dX8_isSpelt_29 lf_X8_9 (sk_47 _) rfl ?_
    refine g_aload_n dX8_isSpelt_32 rfl rfl ?_
    refine rg_X8_13 (v := (I 47 13)) dX8_isSpelt_33 lf_X8_54 (sk_47 _) rfl ?_
    refine g_iload_n dX8_isSpelt_36 rfl rfl ?_
    refine g_iadd dX8_isSpelt_37 ?_
    refine s_iald (j := ((I 47 13) + x2).toNatClampNeg) (v := (I 48 ((I 47 13) + x2).toNatClampNeg)) dX8_isSpelt_38 (sk_48 _) (b2 c2) rfl rfl ?_
    refine g_aload_n dX8_isSpelt_39 rfl rfl ?_
    refine g_iload_n dX8_isSpelt_40 rfl rfl ?_
    exact t3 c2
set_option maxRecDepth 10000 in
set_option maxHeartbeats 1000000 in
theorem sg_X8_isSpelt_44 {l : Launch} {d : Nat} {Q : Option Value → mx_H → Prop} {c : Nat} {I : mx_I} (sr : Nat) (x1 : Nat) (x2 : Int32) (x3 : Int32) (x4 : Int32)
    (e1 : (x4 = x3) → mx_Go l (mx_rm (d + 1) 0 0) mX8_isSpelt (mx_Z Q 0 0) 0 0 20 [.ref 47, .ref x1, .int (x2 + 1)] [] (sk0 c, I))
    (q2 : (¬ x4 = x3) → Q (some (.int 0)) (sk0 c, I)) :
    mx_Go l (mx_rm (d + 1) 0 0) mX8_isSpelt (mx_Z Q 0 0) 0 0 44 [.ref 47, .ref x1, .int x2] [.int x3, .int x4] (sk0 c, I) := by
  refine g_icmp_eq (tgt := 49) dX8_isSpelt_44 (by decide) (fun c1 => ?_) (fun c2 => ?_)
  · skip
    refine s_iinc (v := (x2 + 1)) (L' := [.ref 47, .ref x1, .int (x2 + 1)]) dX8_isSpelt_49 rfl (by decide) rfl rfl rfl ?_
    refine g_goto (tgt := 20) dX8_isSpelt_52 (by decide) ?_
    exact e1 c1
  · skip
    refine g_iconst (v := 0) dX8_isSpelt_47 (by decide) ?_
    exact g_zret (ty := .boolean) rfl rfl dX8_isSpelt_48 rfl (Nat.le_refl _) (q2 c2)
set_option maxRecDepth 10000 in
set_option maxHeartbeats 1000000 in
theorem sn_X8_spelling {l : Launch} {d : Nat} {Q : Option Value → mx_H → Prop} {c : Nat} {I : mx_I} (a1 : Int32)
    (q1 : (a1 = 2) → Q (some (.ref 1001)) (sk0 c, I))
    (q2 : (a1 = 3) → Q (some (.ref 1002)) (sk0 c, I))
    (q3 : (a1 = 4) → Q (some (.ref 1003)) (sk0 c, I))
    (q4 : (a1 = 5) → Q (some (.ref 1004)) (sk0 c, I))
    (q5 : (a1 = 6) → Q (some (.ref 1005)) (sk0 c, I))
    (q6 : (a1 = 7) → Q (some (.ref 1006)) (sk0 c, I))
    (q7 : (a1 = 8) → Q (some (.ref 1007)) (sk0 c, I))
    (q8 : (a1 = 9) → Q (some (.ref 1008)) (sk0 c, I))
    (q9 : (a1 = 10) → Q (some (.ref 1009)) (sk0 c, I))
    (q10 : (a1 = 11) → Q (some (.ref 1010)) (sk0 c, I))
    (q11 : (a1 = 12) → Q (some (.ref 1011)) (sk0 c, I))
    (q12 : (a1 = 13) → Q (some (.ref 1012)) (sk0 c, I))
    (q13 : (a1 = 14) → Q (some (.ref 1013)) (sk0 c, I))
    (q14 : (¬ a1 = 2) → (¬ a1 = 3) → (¬ a1 = 4) → (¬ a1 = 5) → (¬ a1 = 6) → (¬ a1 = 7) → (¬ a1 = 8) → (¬ a1 = 9) → (¬ a1 = 10) → (¬ a1 = 11) → (¬ a1 = 12) → (¬ a1 = 13) → (¬ a1 = 14) → Q (some (.ref 1014)) (sk0 c, I)) :
    mx_Spec l mX8_spelling (d + 1) 0 0 [.int a1] (sk0 c, I) Q := by
  refine mx_enter rfl (by simp [Value.category]) (Nat.le_of_ble_eq_true rfl) ?_
  change mx_Go l (mx_rm (d + 1) 0 0) mX8_spelling (mx_Z Q 0 0) 0 0 0 [.int a1] [] (sk0 c, I)
  refine g_iload_n dX8_spelling_0 rfl rfl ?_
  rcases Decidable.em (a1 = 2) with c1 | c2
  · skip
    refine g_tableIn (off := 67) (tgt := 68) dX8_spelling_1 (by rw [c1]; decide) (by rw [c1]; decide) (by rw [c1]; rfl) (by decide) ?_
    refine g_ldcS (i := 0) dX8_spelling_68 rfl ?_
    exact g_aret rfl (Or.inl ⟨_, rfl⟩) dX8_spelling_70 rfl (Nat.le_refl _) (q1 c1)
  · skip
    rcases Decidable.em (a1 = 3) with c3 | c4
    · skip
      refine g_tableIn (off := 70) (tgt := 71) dX8_spelling_1 (by rw [c3]; decide) (by rw [c3]; decide) (by rw [c3]; rfl) (by decide) ?_
      refine g_ldcS (i := 1) dX8_spelling_71 rfl ?_
      exact g_aret rfl (Or.inl ⟨_, rfl⟩) dX8_spelling_73 rfl (Nat.le_refl _) (q2 c3)
    · skip
      rcases Decidable.em (a1 = 4) with c5 | c6
      · skip
        refine g_tableIn (off := 73) (tgt := 74) dX8_spelling_1 (by rw [c5]; decide) (by rw [c5]; decide) (by rw [c5]; rfl) (by decide) ?_
        refine g_ldcS (i := 2) dX8_spelling_74 rfl ?_
        exact g_aret rfl (Or.inl ⟨_, rfl⟩) dX8_spelling_76 rfl (Nat.le_refl _) (q3 c5)
      · skip
        rcases Decidable.em (a1 = 5) with c7 | c8
        · skip
          refine g_tableIn (off := 76) (tgt := 77) dX8_spelling_1 (by rw [c7]; decide) (by rw [c7]; decide) (by rw [c7]; rfl) (by decide) ?_
          refine g_ldcS (i := 3) dX8_spelling_77 rfl ?_
          exact g_aret rfl (Or.inl ⟨_, rfl⟩) dX8_spelling_79 rfl (Nat.le_refl _) (q4 c7)
        · skip
          rcases Decidable.em (a1 = 6) with c9 | c10
          · skip
            refine g_tableIn (off := 79) (tgt := 80) dX8_spelling_1 (by rw [c9]; decide) (by rw [c9]; decide) (by rw [c9]; rfl) (by decide) ?_
            refine g_ldcS (i := 4) dX8_spelling_80 rfl ?_
            exact g_aret rfl (Or.inl ⟨_, rfl⟩) dX8_spelling_82 rfl (Nat.le_refl _) (q5 c9)
          · skip
            rcases Decidable.em (a1 = 7) with c11 | c12
            · skip
              refine g_tableIn (off := 82) (tgt := 83) dX8_spelling_1 (by rw [c11]; decide) (by rw [c11]; decide) (by rw [c11]; rfl) (by decide) ?_
              refine g_ldcS (i := 5) dX8_spelling_83 rfl ?_
              exact g_aret rfl (Or.inl ⟨_, rfl⟩) dX8_spelling_85 rfl (Nat.le_refl _) (q6 c11)
            · skip
              rcases Decidable.em (a1 = 8) with c13 | c14
              · skip
                refine g_tableIn (off := 85) (tgt := 86) dX8_spelling_1 (by rw [c13]; decide) (by rw [c13]; decide) (by rw [c13]; rfl) (by decide) ?_
                refine g_ldcS (i := 6) dX8_spelling_86 rfl ?_
                exact g_aret rfl (Or.inl ⟨_, rfl⟩) dX8_spelling_88 rfl (Nat.le_refl _) (q7 c13)
              · skip
                rcases Decidable.em (a1 = 9) with c15 | c16
                · skip
                  refine g_tableIn (off := 88) (tgt := 89) dX8_spelling_1 (by rw [c15]; decide) (by rw [c15]; decide) (by rw [c15]; rfl) (by decide) ?_
                  refine g_ldcS (i := 7) dX8_spelling_89 rfl ?_
                  exact g_aret rfl (Or.inl ⟨_, rfl⟩) dX8_spelling_91 rfl (Nat.le_refl _) (q8 c15)
                · skip
                  rcases Decidable.em (a1 = 10) with c17 | c18
                  · skip
                    refine g_tableIn (off := 91) (tgt := 92) dX8_spelling_1 (by rw [c17]; decide) (by rw [c17]; decide) (by rw [c17]; rfl) (by decide) ?_
                    refine g_ldcS (i := 8) dX8_spelling_92 rfl ?_
                    exact g_aret rfl (Or.inl ⟨_, rfl⟩) dX8_spelling_94 rfl (Nat.le_refl _) (q9 c17)
                  · skip
                    rcases Decidable.em (a1 = 11) with c19 | c20
                    · skip
                      refine g_tableIn (off := 94) (tgt := 95) dX8_spelling_1 (by rw [c19]; decide) (by rw [c19]; decide) (by rw [c19]; rfl) (by decide) ?_
                      refine g_ldcS (i := 9) dX8_spelling_95 rfl ?_
                      exact g_aret rfl (Or.inl ⟨_, rfl⟩) dX8_spelling_97 rfl (Nat.le_refl _) (q10 c19)
                    · skip
                      rcases Decidable.em (a1 = 12) with c21 | c22
                      · skip
                        refine g_tableIn (off := 97) (tgt := 98) dX8_spelling_1 (by rw [c21]; decide) (by rw [c21]; decide) (by rw [c21]; rfl) (by decide) ?_
                        refine g_ldcS (i := 10) dX8_spelling_98 rfl ?_
                        exact g_aret rfl (Or.inl ⟨_, rfl⟩) dX8_spelling_100 rfl (Nat.le_refl _) (q11 c21)
                      · skip
                        rcases Decidable.em (a1 = 13) with c23 | c24
                        · skip
                          refine g_tableIn (off := 100) (tgt := 101) dX8_spelling_1 (by rw [c23]; decide) (by rw [c23]; decide) (by rw [c23]; rfl) (by decide) ?_
                          refine g_ldcS (i := 11) dX8_spelling_101 rfl ?_
                          exact g_aret rfl (Or.inl ⟨_, rfl⟩) dX8_spelling_103 rfl (Nat.le_refl _) (q12 c23)
                        · skip
                          rcases Decidable.em (a1 = 14) with c25 | c26
                          · skip
                            refine g_tableIn (off := 103) (tgt := 104) dX8_spelling_1 (by rw [c25]; decide) (by rw [c25]; decide) (by rw [c25]; rfl) (by decide) ?_
                            refine g_ldcS (i := 12) dX8_spelling_104 rfl ?_
                            exact g_aret rfl (Or.inl ⟨_, rfl⟩) dX8_spelling_106 rfl (Nat.le_refl _) (q13 c25)
                          · skip
                            refine g_tableOut (tgt := 107) dX8_spelling_1 (by have q2 := mx_i32 (n := 2) (by decide) c2; have q4 := mx_i32 (n := 3) (by decide) c4; have q6 := mx_i32 (n := 4) (by decide) c6; have q8 := mx_i32 (n := 5) (by decide) c8; have q10 := mx_i32 (n := 6) (by decide) c10; have q12 := mx_i32 (n := 7) (by decide) c12; have q14 := mx_i32 (n := 8) (by decide) c14; have q16 := mx_i32 (n := 9) (by decide) c16; have q18 := mx_i32 (n := 10) (by decide) c18; have q20 := mx_i32 (n := 11) (by decide) c20; have q22 := mx_i32 (n := 12) (by decide) c22; have q24 := mx_i32 (n := 13) (by decide) c24; have q26 := mx_i32 (n := 14) (by decide) c26; omega) (by decide) ?_
                            refine g_ldcS (i := 13) dX8_spelling_107 rfl ?_
                            exact g_aret rfl (Or.inl ⟨_, rfl⟩) dX8_spelling_109 rfl (Nat.le_refl _) (q14 c2 c4 c6 c8 c10 c12 c14 c16 c18 c20 c22 c24 c26)
