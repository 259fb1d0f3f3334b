set_option maxRecDepth 10000 in
set_option maxHeartbeats 1000000 in
theorem sn_X9_clear {l : Launch} {d : Nat} {Q : Option Value → mx_H → Prop} {c : Nat} {I : mx_I} (k : Nat) (hk : at9 (sk0 c) k)
    (k1 : mx_K1 l mJ7_fill_53178 d [.ref (k + 1), .int (-1)] (sk0 c, I) (fun r h' => mx_Go l (mx_rm (d + 1) 0 0) mX9_clear (mx_Z Q 0 0) 0 0 8 [.ref k] (r.toList ++ []) h')) :
    mx_Spec l mX9_clear (d + 1) 0 0 [.ref k] (sk0 c, I) Q := by
  refine mx_enter rfl (by simp [Value.category]) (Nat.le_of_ble_eq_true rfl) ?_
  change mx_Go l (mx_rm (d + 1) 0 0) mX9_clear (mx_Z Q 0 0) 0 0 0 [.ref k] [] (sk0 c, I)
  refine g_aload_n dX9_clear_0 rfl rfl ?_
  refine rg_X9_0 (r := (k + 1)) dX9_clear_1 lf_X9_9 hk.1 rfl ?_
  refine g_iconst (v := (-1)) dX9_clear_4 (by decide) ?_
  exact s_callS (M' := mJ7_fill_53178) (As := [.ref (k + 1), .int (-1)]) (st := []) dX9_clear_5 lm_X9_42 okJ7_fill_53178 osJ7_fill_53178 (by simp [Value.category]) (by decide) rfl (k1)
set_option maxRecDepth 10000 in
set_option maxHeartbeats 1000000 in
theorem sg_X9_clear_8 {l : Launch} {d : Nat} {Q : Option Value → mx_H → Prop} {c : Nat} {I : mx_I} (k : Nat) (hk : at9 (sk0 c) k)
    (k1 : mx_K1 l mJ7_fill_53178 d [.ref (k + 2), .int (-1)] (sk0 c, I) (fun r h' => mx_Go l (mx_rm (d + 1) 0 0) mX9_clear (mx_Z Q 0 0) 0 0 16 [.ref k] (r.toList ++ []) h')) :
    mx_Go l (mx_rm (d + 1) 0 0) mX9_clear (mx_Z Q 0 0) 0 0 8 [.ref k] [] (sk0 c, I) := by
  refine g_aload_n dX9_clear_8 rfl rfl ?_
  refine rg_X9_1 (r := (k + 2)) dX9_clear_9 lf_X9_15 hk.1 rfl ?_
  refine g_iconst (v := (-1)) dX9_clear_12 (by decide) ?_
  exact s_callS (M' := mJ7_fill_53178) (As := [.ref (k + 2), .int (-1)]) (st := []) dX9_clear_13 lm_X9_42 okJ7_fill_53178 osJ7_fill_53178 (by simp [Value.category]) (by decide) rfl (k1)
set_option maxRecDepth 10000 in
set_option maxHeartbeats 1000000 in
theorem sg_X9_clear_16 {l : Launch} {d : Nat} {Q : Option Value → mx_H → Prop} {c : Nat} {I : mx_I} (k : Nat) (hk : at9 (sk0 c) k)
    (k1 : mx_K1 l mJ7_fill_53178 d [.ref (k + 3), .int 0] (sk0 c, I) (fun r h' => mx_Go l (mx_rm (d + 1) 0 0) mX9_clear (mx_Z Q 0 0) 0 0 24 [.ref k] (r.toList ++ []) h')) :
    mx_Go l (mx_rm (d + 1) 0 0) mX9_clear (mx_Z Q 0 0) 0 0 16 [.ref k] [] (sk0 c, I) := by
  refine g_aload_n dX9_clear_16 rfl rfl ?_
  refine rg_X9_2 (r := (k + 3)) dX9_clear_17 lf_X9_18 hk.1 rfl ?_
  refine g_iconst (v := 0) dX9_clear_20 (by decide) ?_
  exact s_callS (M' := mJ7_fill_53178) (As := [.ref (k + 3), .int 0]) (st := []) dX9_clear_21 lm_X9_42 okJ7_fill_53178 osJ7_fill_53178 (by simp [Value.category]) (by decide) rfl (k1)
set_option maxRecDepth 10000 in
set_option maxHeartbeats 1000000 in
theorem sg_X9_clear_24 {l : Launch} {d : Nat} {Q : Option Value → mx_H → Prop} {c : Nat} {I : mx_I} (k : Nat) (hk : at9 (sk0 c) k)
    (k1 : mx_K1 l mJ7_fill_53178 d [.ref (k + 4), .int 0] (sk0 c, I) (fun r h' => mx_Go l (mx_rm (d + 1) 0 0) mX9_clear (mx_Z Q 0 0) 0 0 32 [.ref k] (r.toList ++ []) h')) :
    mx_Go l (mx_rm (d + 1) 0 0) mX9_clear (mx_Z Q 0 0) 0 0 24 [.ref k] [] (sk0 c, I) := by
  refine g_aload_n dX9_clear_24 rfl rfl ?_
  refine rg_X9_3 (r := (k + 4)) dX9_clear_25 lf_X9_21 hk.1 rfl ?_
  refine g_iconst (v := 0) dX9_clear_28 (by decide) ?_
  exact s_callS (M' := mJ7_fill_53178) (As := [.ref (k + 4), .int 0]) (st := []) dX9_clear_29 lm_X9_42 okJ7_fill_53178 osJ7_fill_53178 (by simp [Value.category]) (by decide) rfl (k1)
set_option maxRecDepth 10000 in
set_option maxHeartbeats 1000000 in
theorem sg_X9_clear_32 {l : Launch} {d : Nat} {Q : Option Value → mx_H → Prop} {c : Nat} {I : mx_I} (k : Nat) (hk : at9 (sk0 c) k)
    (k1 : mx_K1 l mJ7_fill_53178 d [.ref (k + 6), .int 0] (sk0 c, I) (fun r h' => mx_Go l (mx_rm (d + 1) 0 0) mX9_clear (mx_Z Q 0 0) 0 0 40 [.ref k] (r.toList ++ []) h')) :
    mx_Go l (mx_rm (d + 1) 0 0) mX9_clear (mx_Z Q 0 0) 0 0 32 [.ref k] [] (sk0 c, I) := by
  refine g_aload_n dX9_clear_32 rfl rfl ?_
  refine rg_X9_5 (r := (k + 6)) dX9_clear_33 lf_X9_27 hk.1 rfl ?_
  refine g_iconst (v := 0) dX9_clear_36 (by decide) ?_
  exact s_callS (M' := mJ7_fill_53178) (As := [.ref (k + 6), .int 0]) (st := []) dX9_clear_37 lm_X9_42 okJ7_fill_53178 osJ7_fill_53178 (by simp [Value.category]) (by decide) rfl (k1)
set_option maxRecDepth 10000 in
set_option maxHeartbeats 1000000 in
theorem sg_X9_clear_40 {l : Launch} {d : Nat} {Q : Option Value → mx_H → Prop} {c : Nat} {I : mx_I} (k : Nat) (hk : at9 (sk0 c) k)
    (k1 : mx_K1 l mJ7_fill_53178 d [.ref (k + 7), .int (-1)] (sk0 c, I) (fun r h' => mx_Go l (mx_rm (d + 1) 0 0) mX9_clear (mx_Z Q 0 0) 0 0 48 [.ref k] (r.toList ++ []) h')) :
    mx_Go l (mx_rm (d + 1) 0 0) mX9_clear (mx_Z Q 0 0) 0 0 40 [.ref k] [] (sk0 c, I) := by
  refine g_aload_n dX9_clear_40 rfl rfl ?_
  refine rg_X9_6 (r := (k + 7)) dX9_clear_41 lf_X9_30 hk.1 rfl ?_
  refine g_iconst (v := (-1)) dX9_clear_44 (by decide) ?_
  exact s_callS (M' := mJ7_fill_53178) (As := [.ref (k + 7), .int (-1)]) (st := []) dX9_clear_45 lm_X9_42 okJ7_fill_53178 osJ7_fill_53178 (by simp [Value.category]) (by decide) rfl (k1)
set_option maxRecDepth 10000 in
set_option maxHeartbeats 1000000 in
theorem sg_X9_clear_48 {l : Launch} {d : Nat} {Q : Option Value → mx_H → Prop} {c : Nat} {I : mx_I} (k : Nat) (hk : at9 (sk0 c) k)
    (k1 : mx_K1 l mJ7_fill_53178 d [.ref (k + 8), .int 0] (sk0 c, I) (fun r h' => mx_Go l (mx_rm (d + 1) 0 0) mX9_clear (mx_Z Q 0 0) 0 0 56 [.ref k] (r.toList ++ []) h')) :
    mx_Go l (mx_rm (d + 1) 0 0) mX9_clear (mx_Z Q 0 0) 0 0 48 [.ref k] [] (sk0 c, I) := by
  refine g_aload_n dX9_clear_48 rfl rfl ?_
  refine rg_X9_7 (r := (k + 8)) dX9_clear_49 lf_X9_33 hk.1 rfl ?_
  refine g_iconst (v := 0) dX9_clear_52 (by decide) ?_
  exact s_callS (M' := mJ7_fill_53178) (As := [.ref (k + 8), .int 0]) (st := []) dX9_clear_53 lm_X9_42 okJ7_fill_53178 osJ7_fill_53178 (by simp [Value.category]) (by decide) rfl (k1)
set_option maxRecDepth 10000 in
set_option maxHeartbeats 1000000 in
theorem sg_X9_clear_56 {l : Launch} {d : Nat} {Q : Option Value → mx_H → Prop} {c : Nat} {I : mx_I} (k : Nat) (hk : at9 (sk0 c) k)
    (k1 : mx_K1 l mJ7_fill_53178 d [.ref (k + 9), .int 0] (sk0 c, I) (fun r h' => mx_Go l (mx_rm (d + 1) 0 0) mX9_clear (mx_Z Q 0 0) 0 0 64 [.ref k] (r.toList ++ []) h')) :
    mx_Go l (mx_rm (d + 1) 0 0) mX9_clear (mx_Z Q 0 0) 0 0 56 [.ref k] [] (sk0 c, I) := by
  refine g_aload_n dX9_clear_56 rfl rfl ?_
  refine rg_X9_8 (r := (k + 9)) dX9_clear_57 lf_X9_36 hk.1 rfl ?_
  refine g_iconst (v := 0) dX9_clear_60 (by decide) ?_
  exact s_callS (M' := mJ7_fill_53178) (As := [.ref (k + 9), .int 0]) (st := []) dX9_clear_61 lm_X9_42 okJ7_fill_53178 osJ7_fill_53178 (by simp [Value.category]) (by decide) rfl (k1)
set_option maxRecDepth 10000 in
set_option maxHeartbeats 1000000 in
theorem sg_X9_clear_64 {l : Launch} {d : Nat} {Q : Option Value → mx_H → Prop} {c : Nat} {I : mx_I} (k : Nat) (hk : at9 (sk0 c) k)
    (q1 : Q none (sk0 c, (mx_set (mx_set I k 9 0) k 10 0))) :
    mx_Go l (mx_rm (d + 1) 0 0) mX9_clear (mx_Z Q 0 0) 0 0 64 [.ref k] [] (sk0 c, I) := by
  refine g_aload_n dX9_clear_64 rfl rfl ?_
  refine g_iconst (v := 0) dX9_clear_65 (by decide) ?_
  refine rp_X9_9 dX9_clear_66 lf_X9_48 hk.1 ?_
  refine g_aload_n dX9_clear_69 rfl rfl ?_
  refine g_iconst (v := 0) dX9_clear_70 (by decide) ?_
  refine rp_X9_10 dX9_clear_71 lf_X9_52 hk.1 ?_
  exact g_vret rfl dX9_clear_74 rfl (Nat.le_refl _) (q1)
set_option maxRecDepth 10000 in
set_option maxHeartbeats 1000000 in
theorem sn_X9_isAt {l : Launch} {d : Nat} {Q : Option Value → mx_H → Prop} {c : Nat} {I : mx_I} (k : Nat) (a1 : Int32) (a2 : Int32) (hk : at9 (sk0 c) k)
    (b1 : vp_in a1 30)
    (q2 : (¬ (I (k + 1) a1.toNatClampNeg) = a2) → Q (some (.int 0)) (sk0 c, I))
    (b3 : ((I (k + 1) a1.toNatClampNeg) = a2) → vp_in a1 30)
    (q4 : ((I (k + 1) a1.toNatClampNeg) = a2) → (¬ (I (k + 4) a1.toNatClampNeg) = 0) → Q (some (.int 0)) (sk0 c, I))
    (q5 : ((I (k + 1) a1.toNatClampNeg) = a2) → ((I (k + 4) a1.toNatClampNeg) = 0) → Q (some (.int 1)) (sk0 c, I)) :
    mx_Spec l mX9_isAt (d + 1) 0 0 [.ref k, .int a1, .int a2] (sk0 c, I) Q := by
  refine mx_enter rfl (by simp [Value.category]) (Nat.le_of_ble_eq_true rfl) ?_
  change mx_Go l (mx_rm (d + 1) 0 0) mX9_isAt (mx_Z Q 0 0) 0 0 0 [.ref k, .int a1, .int a2] [] (sk0 c, I)
  refine g_aload_n dX9_isAt_0 rfl rfl ?_
  refine rg_X9_0 (r := (k + 1)) dX9_isAt_1 lf_X9_9 hk.1 rfl ?_
  refine g_iload_n dX9_isAt_4 rfl rfl ?_
  refine s_iald (j := a1.toNatClampNeg) (v := (I (k + 1) a1.toNatClampNeg)) dX9_isAt_5 hk.2.1 (b1) rfl rfl ?_
  refine g_iload_n dX9_isAt_6 rfl rfl ?_
  refine g_icmp_ne (tgt := 23) dX9_isAt_7 (by decide) (fun c1 => ?_) (fun c2 => ?_)
  · skip
    refine g_iconst (v := 0) dX9_isAt_23 (by decide) ?_
    exact g_zret (ty := .boolean) rfl rfl dX9_isAt_24 rfl (Nat.le_refl _) (q2 c1)
  · skip
    refine g_aload_n dX9_isAt_10 rfl rfl ?_
    refine rg_X9_3 (r := (k + 4)) dX9_isAt_11 lf_X9_21 hk.1 rfl ?_
    refine g_iload_n dX9_isAt_14 rfl rfl ?_
    refine s_iald (j := a1.toNatClampNeg) (v := (I (k + 4) a1.toNatClampNeg)) dX9_isAt_15 hk.2.2.2.2.1 (b3 c2) rfl rfl ?_
    refine g_if_ne (tgt := 23) dX9_isAt_16 (by decide) (fun c3 => ?_) (fun c4 => ?_)
    · skip
      refine g_iconst (v := 0) dX9_isAt_23 (by decide) ?_
      exact g_zret (ty := .boolean) rfl rfl dX9_isAt_24 rfl (Nat.le_refl _) (q4 c2 c3)
    · skip
      refine g_iconst (v := 1) dX9_isAt_19 (by decide) ?_
      refine g_goto (tgt := 24) dX9_isAt_20 (by decide) ?_
      exact g_zret (ty := .boolean) rfl rfl dX9_isAt_24 rfl (Nat.le_refl _) (q5 c2 c4)
set_option maxRecDepth 10000 in
set_option maxHeartbeats 1000000 in
theorem sn_X9_append {l : Launch} {d : Nat} {Q : Option Value → mx_H → Prop} {c : Nat} {I : mx_I} (k : Nat) (a1 : Int32) (a2 : Int32) (a3 : Int32) (hk : at9 (sk0 c) k)
    (b1 : vp_in a2 4)
    (b2 : (30 ≤ (I (k + 6) a2.toNatClampNeg)) → vp_in a1 30)
    (b3 : (30 ≤ (I (k + 6) a2.toNatClampNeg)) → vp_in a1 30)
    (q4 : (30 ≤ (I (k + 6) a2.toNatClampNeg)) → Q none (sk0 c, (mx_set (mx_set I (k + 1) a1.toNatClampNeg a2) (k + 2) a1.toNatClampNeg a3)))
    (b5 : (¬ 30 ≤ (I (k + 6) a2.toNatClampNeg)) → vp_in a2 4)
    (b6 : (¬ 30 ≤ (I (k + 6) a2.toNatClampNeg)) → vp_in ((a2 * 30) + (I (k + 6) a2.toNatClampNeg)) 120)
    (b7 : (¬ 30 ≤ (I (k + 6) a2.toNatClampNeg)) → vp_in a2 4)
    (b8 : (¬ 30 ≤ (I (k + 6) a2.toNatClampNeg)) → vp_in a2 4)
    (b9 : (¬ 30 ≤ (I (k + 6) a2.toNatClampNeg)) → vp_in a1 30)
    (b10 : (¬ 30 ≤ (I (k + 6) a2.toNatClampNeg)) → vp_in a1 30)
    (q11 : (¬ 30 ≤ (I (k + 6) a2.toNatClampNeg)) → Q none (sk0 c, (mx_set (mx_set (mx_set (mx_set I (k + 5) ((a2 * 30) + (I (k + 6) a2.toNatClampNeg)).toNatClampNeg a1) (k + 6) a2.toNatClampNeg ((I (k + 6) a2.toNatClampNeg) + 1)) (k + 1) a1.toNatClampNeg a2) (k + 2) a1.toNatClampNeg a3))) :
    mx_Spec l mX9_append (d + 1) 0 0 [.ref k, .int a1, .int a2, .int a3] (sk0 c, I) Q := by
  refine mx_enter rfl (by simp [Value.category]) (Nat.le_of_ble_eq_true rfl) ?_
  change mx_Go l (mx_rm (d + 1) 0 0) mX9_append (mx_Z Q 0 0) 0 0 0 [.ref k, .int a1, .int a2, .int a3] [] (sk0 c, I)
  refine g_aload_n dX9_append_0 rfl rfl ?_
  refine rg_X9_5 (r := (k + 6)) dX9_append_1 lf_X9_27 hk.1 rfl ?_
  refine g_iload_n dX9_append_4 rfl rfl ?_
  refine s_iald (j := a2.toNatClampNeg) (v := (I (k + 6) a2.toNatClampNeg)) dX9_append_5 hk.2.2.2.2.2.2.1 (b1) rfl rfl ?_
  refine g_bipush (v := 30) dX9_append_6 (by decide) ?_
  refine g_icmp_ge (tgt := 38) dX9_append_8 (by decide) (fun c1 => ?_) (fun c2 => ?_)
  · skip
    refine g_aload_n dX9_append_38 rfl rfl ?_
    refine rg_X9_0 (r := (k + 1)) dX9_append_39 lf_X9_9 hk.1 rfl ?_
    refine g_iload_n dX9_append_42 rfl rfl ?_
    refine g_iload_n dX9_append_43 rfl rfl ?_
    refine s_iast (j := a1.toNatClampNeg) dX9_append_44 hk.2.1 (b2 c1) rfl ?_
    refine g_aload_n dX9_append_45 rfl rfl ?_
    refine rg_X9_1 (r := (k + 2)) dX9_append_46 lf_X9_15 hk.1 rfl ?_
    refine g_iload_n dX9_append_49 rfl rfl ?_
    refine g_iload_n dX9_append_50 rfl rfl ?_
    refine s_iast (j := a1.toNatClampNeg) dX9_append_51 hk.2.2.1 (b3 c1) rfl ?_
    exact g_vret rfl dX9_append_52 rfl (Nat.le_refl _) (q4 c1)
  · skip
    refine g_aload_n dX9_append_11 rfl rfl ?_
    refine rg_X9_4 (r := (k + 5)) dX9_append_12 lf_X9_24 hk.1 rfl ?_
    refine g_iload_n dX9_append_15 rfl rfl ?_
    refine g_bipush (v := 30) dX9_append_16 (by decide) ?_
    refine g_imul dX9_append_18 ?_
    refine g_aload_n dX9_append_19 rfl rfl ?_
    refine rg_X9_5 (r := (k + 6)) dX9_append_20 lf_X9_27 hk.1 rfl ?_
    refine g_iload_n dX9_append_23 rfl rfl ?_
    refine s_iald (j := a2.toNatClampNeg) (v := (I (k + 6) a2.toNatClampNeg)) dX9_append_24 hk.2.2.2.2.2.2.1 (b5 c2) rfl rfl ?_
    refine g_iadd dX9_append_25 ?_
    refine g_iload_n dX9_append_26 rfl rfl ?_
    refine s_iast (j := ((a2 * 30) + (I (k + 6) a2.toNatClampNeg)).toNatClampNeg) dX9_append_27 hk.2.2.2.2.2.1 (b6 c2) rfl ?_
    refine g_aload_n dX9_append_28 rfl rfl ?_
    refine rg_X9_5 (r := (k + 6)) dX9_append_29 lf_X9_27 hk.1 rfl ?_
    refine g_iload_n dX9_append_32 rfl rfl ?_
    refine g_dup2 dX9_append_33 rfl rfl ?_
    refine s_iald (j := a2.toNatClampNeg) (v := (I (k + 6) a2.toNatClampNeg)) dX9_append_34 hk.2.2.2.2.2.2.1 (b7 c2) rfl (rd_ne (by omega) rfl) ?_
    refine g_iconst (v := 1) dX9_append_35 (by decide) ?_
    refine g_iadd dX9_append_36 ?_
    refine s_iast (j := a2.toNatClampNeg) dX9_append_37 hk.2.2.2.2.2.2.1 (b8 c2) rfl ?_
    refine g_aload_n dX9_append_38 rfl rfl ?_
    refine rg_X9_0 (r := (k + 1)) dX9_append_39 lf_X9_9 hk.1 rfl ?_
    refine g_iload_n dX9_append_42 rfl rfl ?_
    refine g_iload_n dX9_append_43 rfl rfl ?_
    refine s_iast (j := a1.toNatClampNeg) dX9_append_44 hk.2.1 (b9 c2) rfl ?_
    refine g_aload_n dX9_append_45 rfl rfl ?_
    refine rg_X9_1 (r := (k + 2)) dX9_append_46 lf_X9_15 hk.1 rfl ?_
    refine g_iload_n dX9_append_49 rfl rfl ?_
    refine g_iload_n dX9_append_50 rfl rfl ?_
    refine s_iast (j := a1.toNatClampNeg) dX9_append_51 hk.2.2.1 (b10 c2) rfl ?_
    exact g_vret rfl dX9_append_52 rfl (Nat.le_refl _) (q11 c2)
set_option maxRecDepth 10000 in
set_option maxHeartbeats 1000000 in
theorem sn_X9_drop {l : Launch} {d : Nat} {Q : Option Value → mx_H → Prop} {c : Nat} {I : mx_I} (k : Nat) (a1 : Int32) (a2 : Int32) (hk : at9 (sk0 c) k)
    (e1 : mx_Go l (mx_rm (d + 1) 0 0) mX9_drop (mx_Z Q 0 0) 0 0 15 [.ref k, .ref 72, .int a1, .int a2, .int (a2 * 30), .int 0, .int 0, .int 0, .retAddr 0] [] (sk0 c, I)) :
    mx_Spec l mX9_drop (d + 1) 0 0 [.ref k, .ref 72, .int a1, .int a2] (sk0 c, I) Q := by
  refine mx_enter rfl (by simp [Value.category]) (Nat.le_of_ble_eq_true rfl) ?_
  change mx_Go l (mx_rm (d + 1) 0 0) mX9_drop (mx_Z Q 0 0) 0 0 0 [.ref k, .ref 72, .int a1, .int a2, .retAddr 0, .retAddr 0, .retAddr 0, .retAddr 0, .retAddr 0] [] (sk0 c, I)
  refine g_iload_n dX9_drop_0 rfl rfl ?_
  refine g_bipush (v := 30) dX9_drop_1 (by decide) ?_
  refine g_imul dX9_drop_3 ?_
  refine s_istore (L' := [.ref k, .ref 72, .int a1, .int a2, .int (a2 * 30), .retAddr 0, .retAddr 0, .retAddr 0, .retAddr 0]) dX9_drop_4 (by decide) rfl rfl ?_
  refine g_iconst (v := 0) dX9_drop_6 (by decide) ?_
  refine s_istore (L' := [.ref k, .ref 72, .int a1, .int a2, .int (a2 * 30), .int 0, .retAddr 0, .retAddr 0, .retAddr 0]) dX9_drop_7 (by decide) rfl rfl ?_
  refine g_iconst (v := 0) dX9_drop_9 (by decide) ?_
  refine s_istore (L' := [.ref k, .ref 72, .int a1, .int a2, .int (a2 * 30), .int 0, .int 0, .retAddr 0, .retAddr 0]) dX9_drop_10 (by decide) rfl rfl ?_
  refine g_iconst (v := 0) dX9_drop_12 (by decide) ?_
  refine s_istore (L' := [.ref k, .ref 72, .int a1, .int a2, .int (a2 * 30), .int 0, .int 0, .int 0, .retAddr 0]) dX9_drop_13 (by decide) rfl rfl ?_
  exact e1
set_option maxRecDepth 10000 in
set_option maxHeartbeats 1000000 in
theorem sg_X9_drop_15 {l : Launch} {d : Nat} {Q : Option Value → mx_H → Prop} {c : Nat} {I : mx_I} (k : Nat) (hk : at9 (sk0 c) k) (x1 : Int32) (x2 : Int32) (x3 : Int32) (x4 : Int32) (x5 : Int32) (x6 : Int32)
    (b1 : vp_in x2 4)
    (b2 : ((I (k + 6) x2.toNatClampNeg) ≤ x6) → vp_in x2 4)
    (q3 : ((I (k + 6) x2.toNatClampNeg) ≤ x6) → Q none (sk0 c, (mx_set I (k + 6) x2.toNatClampNeg x4)))
    (b4 : (¬ (I (k + 6) x2.toNatClampNeg) ≤ x6) → vp_in (x3 + x6) 120)
    (b5 : (¬ (I (k + 6) x2.toNatClampNeg) ≤ x6) → (x1 ≤ x5) → vp_in (x3 + x4) 120)
    (e6 : (¬ (I (k + 6) x2.toNatClampNeg) ≤ x6) → (x1 ≤ x5) → mx_Go l (mx_rm (d + 1) 0 0) mX9_drop (mx_Z Q 0 0) 0 0 15 [.ref k, .ref 72, .int x1, .int x2, .int x3, .int (x4 + 1), .int x5, .int (x6 + 1), .int (I (k + 5) (x3 + x6).toNatClampNeg)] [] (sk0 c, (mx_set I (k + 5) (x3 + x4).toNatClampNeg (I (k + 5) (x3 + x6).toNatClampNeg))))
    (b7 : (¬ (I (k + 6) x2.toNatClampNeg) ≤ x6) → (¬ x1 ≤ x5) → (30 ≤ x5) → vp_in (x3 + x4) 120)
    (e8 : (¬ (I (k + 6) x2.toNatClampNeg) ≤ x6) → (¬ x1 ≤ x5) → (30 ≤ x5) → mx_Go l (mx_rm (d + 1) 0 0) mX9_drop (mx_Z Q 0 0) 0 0 15 [.ref k, .ref 72, .int x1, .int x2, .int x3, .int (x4 + 1), .int x5, .int (x6 + 1), .int (I (k + 5) (x3 + x6).toNatClampNeg)] [] (sk0 c, (mx_set I (k + 5) (x3 + x4).toNatClampNeg (I (k + 5) (x3 + x6).toNatClampNeg))))
    (b9 : (¬ (I (k + 6) x2.toNatClampNeg) ≤ x6) → (¬ x1 ≤ x5) → (¬ 30 ≤ x5) → vp_in x5 30)
    (b10 : (¬ (I (k + 6) x2.toNatClampNeg) ≤ x6) → (¬ x1 ≤ x5) → (¬ 30 ≤ x5) → (¬ (I (k + 5) (x3 + x6).toNatClampNeg) = (I 72 x5.toNatClampNeg)) → vp_in (x3 + x4) 120)
    (e11 : (¬ (I (k + 6) x2.toNatClampNeg) ≤ x6) → (¬ x1 ≤ x5) → (¬ 30 ≤ x5) → (¬ (I (k + 5) (x3 + x6).toNatClampNeg) = (I 72 x5.toNatClampNeg)) → mx_Go l (mx_rm (d + 1) 0 0) mX9_drop (mx_Z Q 0 0) 0 0 15 [.ref k, .ref 72, .int x1, .int x2, .int x3, .int (x4 + 1), .int x5, .int (x6 + 1), .int (I (k + 5) (x3 + x6).toNatClampNeg)] [] (sk0 c, (mx_set I (k + 5) (x3 + x4).toNatClampNeg (I (k + 5) (x3 + x6).toNatClampNeg))))
    (e12 : (¬ (I (k + 6) x2.toNatClampNeg) ≤ x6) → (¬ x1 ≤ x5) → (¬ 30 ≤ x5) → ((I (k + 5) (x3 + x6).toNatClampNeg) = (I 72 x5.toNatClampNeg)) → mx_Go l (mx_rm (d + 1) 0 0) mX9_drop (mx_Z Q 0 0) 0 0 15 [.ref k, .ref 72, .int x1, .int x2, .int x3, .int x4, .int (x5 + 1), .int (x6 + 1), .int (I (k + 5) (x3 + x6).toNatClampNeg)] [] (sk0 c, I)) :
    mx_Go l (mx_rm (d + 1) 0 0) mX9_drop (mx_Z Q 0 0) 0 0 15 [.ref k, .ref 72, .int x1, .int x2, .int x3, .int x4, .int x5, .int x6, .retAddr 0] [] (sk0 c, I) := by
  refine g_iload dX9_drop_15 rfl ?_
  refine g_aload_n dX9_drop_17 rfl rfl ?_
  refine rg_X9_5 (r := (k + 6)) dX9_drop_18 lf_X9_27 hk.1 rfl ?_
  refine g_iload_n dX9_drop_21 rfl rfl ?_
  refine s_iald (j := x2.toNatClampNeg) (v := (I (k + 6) x2.toNatClampNeg)) dX9_drop_22 hk.2.2.2.2.2.2.1 (b1) rfl rfl ?_
  refine g_icmp_ge (tgt := 87) dX9_drop_23 (by decide) (fun c1 => ?_) (fun c2 => ?_)
  · skip
    refine g_aload_n dX9_drop_87 rfl rfl ?_
    refine rg_X9_5 (r := (k + 6)) dX9_drop_88 lf_X9_27 hk.1 rfl ?_
    refine g_iload_n dX9_drop_91 rfl rfl ?_
    refine g_iload dX9_drop_92 rfl ?_
    refine s_iast (j := x2.toNatClampNeg) dX9_drop_94 hk.2.2.2.2.2.2.1 (b2 c1) rfl ?_
    exact g_vret rfl dX9_drop_95 rfl (Nat.le_refl _) (q3 c1)
  · skip
    refine g_aload_n dX9_drop_26 rfl rfl ?_
    refine rg_X9_4 (r := (k + 5)) dX9_drop_27 lf_X9_24 hk.1 rfl ?_
    refine g_iload dX9_drop_30 rfl ?_
    refine g_iload dX9_drop_32 rfl ?_
    refine g_iadd dX9_drop_34 ?_
    refine s_iald (j := (x3 + x6).toNatClampNeg) (v := (I (k + 5) (x3 + x6).toNatClampNeg)) dX9_drop_35 hk.2.2.2.2.2.1 (b4 c2) rfl rfl ?_
    refine s_istore (L' := [.ref k, .ref 72, .int x1, .int x2, .int x3, .int x4, .int x5, .int x6, .int (I (k + 5) (x3 + x6).toNatClampNeg)]) dX9_drop_36 (by decide) rfl rfl ?_
    refine g_iload dX9_drop_38 rfl ?_
    refine g_iload_n dX9_drop_40 rfl rfl ?_
    refine g_icmp_ge (tgt := 66) dX9_drop_41 (by decide) (fun c3 => ?_) (fun c4 => ?_)
    · skip
      refine g_aload_n dX9_drop_66 rfl rfl ?_
      refine rg_X9_4 (r := (k + 5)) dX9_drop_67 lf_X9_24 hk.1 rfl ?_
      refine g_iload dX9_drop_70 rfl ?_
      refine g_iload dX9_drop_72 rfl ?_
      refine g_iadd dX9_drop_74 ?_
      refine g_iload dX9_drop_75 rfl ?_
      refine s_iast (j := (x3 + x4).toNatClampNeg) dX9_drop_77 hk.2.2.2.2.2.1 (b5 c2 c3) rfl ?_
      refine s_iinc (v := (x4 + 1)) (L' := [.ref k, .ref 72, .int x1, .int x2, .int x3, .int (x4 + 1), .int x5, .int x6, .int (I (k + 5) (x3 + x6).toNatClampNeg)]) dX9_drop_78 rfl (by decide) rfl rfl rfl ?_
      refine s_iinc (v := (x6 + 1)) (L' := [.ref k, .ref 72, .int x1, .int x2, .int x3, .int (x4 + 1), .int x5, .int (x6 + 1), .int (I (k + 5) (x3 + x6).toNatClampNeg)]) dX9_drop_81 rfl (by decide) rfl rfl rfl ?_
      refine g_goto (tgt := 15) dX9_drop_84 (by decide) ?_
      exact e6 c2 c3
    · skip
      refine g_iload dX9_drop_44 rfl ?_
      refine g_aload_n dX9_drop_46 rfl rfl ?_
      refine rg_alen (v := 30) dX9_drop_47 (sk_72 _) rfl ?_
      refine g_icmp_ge (tgt := 66) dX9_drop_48 (by decide) (fun c5 => ?_) (fun c6 => ?_)
      · skip
        refine g_aload_n dX9_drop_66 rfl rfl ?_
        refine rg_X9_4 (r := (k + 5)) dX9_drop_67 lf_X9_24 hk.1 rfl ?_
        refine g_iload dX9_drop_70 rfl ?_
        refine g_iload dX9_drop_72 rfl ?_
        refine g_iadd dX9_drop_74 ?_
        refine g_iload dX9_drop_75 rfl ?_
        refine s_iast (j := (x3 + x4).toNatClampNeg) dX9_drop_77 hk.2.2.2.2.2.1 (b7 c2 c4 c5) rfl ?_
        refine s_iinc (v := (x4 + 1)) (L' := [.ref k, .ref 72, .int x1, .int x2, .int x3, .int (x4 + 1), .int x5, .int x6, .int (I (k + 5) (x3 + x6).toNatClampNeg)]) dX9_drop_78 rfl (by decide) rfl rfl rfl ?_
        refine s_iinc (v := (x6 + 1)) (L' := [.ref k, .ref 72, .int x1, .int x2, .int x3, .int (x4 + 1), .int x5, .int (x6 + 1), .int (I (k + 5) (x3 + x6).toNatClampNeg)]) dX9_drop_81 rfl (by decide) rfl rfl rfl ?_
        refine g_goto (tgt := 15) dX9_drop_84 (by decide) ?_
        exact e8 c2 c4 c5
      · skip
        refine g_iload dX9_drop_51 rfl ?_
        refine g_aload_n dX9_drop_53 rfl rfl ?_
        refine g_iload dX9_drop_54 rfl ?_
        refine s_iald (j := x5.toNatClampNeg) (v := (I 72 x5.toNatClampNeg)) dX9_drop_56 (sk_72 _) (b9 c2 c4 c6) rfl rfl ?_
        refine g_icmp_ne (tgt := 66) dX9_drop_57 (by decide) (fun c7 => ?_) (fun c8 => ?_)
        · skip
          refine g_aload_n dX9_drop_66 rfl rfl ?_
          refine rg_X9_4 (r := (k + 5)) dX9_drop_67 lf_X9_24 hk.1 rfl ?_
          refine g_iload dX9_drop_70 rfl ?_
          refine g_iload dX9_drop_72 rfl ?_
          refine g_iadd dX9_drop_74 ?_
          refine g_iload dX9_drop_75 rfl ?_
          refine s_iast (j := (x3 + x4).toNatClampNeg) dX9_drop_77 hk.2.2.2.2.2.1 (b10 c2 c4 c6 c7) rfl ?_
          refine s_iinc (v := (x4 + 1)) (L' := [.ref k, .ref 72, .int x1, .int x2, .int x3, .int (x4 + 1), .int x5, .int x6, .int (I (k + 5) (x3 + x6).toNatClampNeg)]) dX9_drop_78 rfl (by decide) rfl rfl rfl ?_
          refine s_iinc (v := (x6 + 1)) (L' := [.ref k, .ref 72, .int x1, .int x2, .int x3, .int (x4 + 1), .int x5, .int (x6 + 1), .int (I (k + 5) (x3 + x6).toNatClampNeg)]) dX9_drop_81 rfl (by decide) rfl rfl rfl ?_
          refine g_goto (tgt := 15) dX9_drop_84 (by decide) ?_
          exact e11 c2 c4 c6 c7
        · skip
          refine s_iinc (v := (x5 + 1)) (L' := [.ref k, .ref 72, .int x1, .int x2, .int x3, .int x4, .int (x5 + 1), .int x6, .int (I (k + 5) (x3 + x6).toNatClampNeg)]) dX9_drop_60 rfl (by decide) rfl rfl rfl ?_
          refine g_goto (tgt := 81) dX9_drop_63 (by decide) ?_
          refine s_iinc (v := (x6 + 1)) (L' := [.ref k, .ref 72, .int x1, .int x2, .int x3, .int x4, .int (x5 + 1), .int (x6 + 1), .int (I (k + 5) (x3 + x6).toNatClampNeg)]) dX9_drop_81 rfl (by decide) rfl rfl rfl ?_
          refine g_goto (tgt := 15) dX9_drop_84 (by decide) ?_
          exact e12 c2 c4 c6 c8
set_option maxRecDepth 10000 in
set_option maxHeartbeats 1000000 in
theorem sn_X9_weightAt {l : Launch} {d : Nat} {Q : Option Value → mx_H → Prop} {c : Nat} {I : mx_I} (k : Nat) (a1 : Int32) (hk : at9 (sk0 c) k)
    (e1 : mx_Go l (mx_rm (d + 1) 0 0) mX9_weightAt (mx_Z Q 0 0) 0 0 5 [.ref k, .int a1, .ref 2, .int 0, .int 0] [] (sk0 c, I)) :
    mx_Spec l mX9_weightAt (d + 1) 0 0 [.ref k, .int a1, .ref 2] (sk0 c, I) Q := by
  refine mx_enter rfl (by simp [Value.category]) (Nat.le_of_ble_eq_true rfl) ?_
  change mx_Go l (mx_rm (d + 1) 0 0) mX9_weightAt (mx_Z Q 0 0) 0 0 0 [.ref k, .int a1, .ref 2, .retAddr 0, .retAddr 0] [] (sk0 c, I)
  refine g_iconst (v := 0) dX9_weightAt_0 (by decide) ?_
  refine s_istore_n (L' := [.ref k, .int a1, .ref 2, .int 0, .retAddr 0]) dX9_weightAt_1 rfl (by decide) rfl rfl ?_
  refine g_iconst (v := 0) dX9_weightAt_2 (by decide) ?_
  refine s_istore (L' := [.ref k, .int a1, .ref 2, .int 0, .int 0]) dX9_weightAt_3 (by decide) rfl rfl ?_
  exact e1
set_option maxRecDepth 10000 in
set_option maxHeartbeats 1000000 in
theorem sg_X9_weightAt_5 {l : Launch} {d : Nat} {Q : Option Value → mx_H → Prop} {c : Nat} {I : mx_I} (k : Nat) (hk : at9 (sk0 c) k) (x1 : Int32) (x2 : Int32) (x3 : Int32)
    (b1 : vp_in x1 4)
    (q2 : ((I (k + 6) x1.toNatClampNeg) ≤ x3) → Q (some (.int x2)) (sk0 c, I))
    (b3 : (¬ (I (k + 6) x1.toNatClampNeg) ≤ x3) → vp_in ((x1 * 30) + x3) 120)
    (b4 : (¬ (I (k + 6) x1.toNatClampNeg) ≤ x3) → vp_in (I (k + 5) ((x1 * 30) + x3).toNatClampNeg) 30)
    (e5 : (¬ (I (k + 6) x1.toNatClampNeg) ≤ x3) → mx_Go l (mx_rm (d + 1) 0 0) mX9_weightAt (mx_Z Q 0 0) 0 0 5 [.ref k, .int x1, .ref 2, .int (x2 + (I 3 (I (k + 5) ((x1 * 30) + x3).toNatClampNeg).toNatClampNeg)), .int (x3 + 1)] [] (sk0 c, I)) :
    mx_Go l (mx_rm (d + 1) 0 0) mX9_weightAt (mx_Z Q 0 0) 0 0 5 [.ref k, .int x1, .ref 2, .int x2, .int x3] [] (sk0 c, I) := by
  refine g_iload dX9_weightAt_5 rfl ?_
  refine g_aload_n dX9_weightAt_7 rfl rfl ?_
  refine rg_X9_5 (r := (k + 6)) dX9_weightAt_8 lf_X9_27 hk.1 rfl ?_
  refine g_iload_n dX9_weightAt_11 rfl rfl ?_
  refine s_iald (j := x1.toNatClampNeg) (v := (I (k + 6) x1.toNatClampNeg)) dX9_weightAt_12 hk.2.2.2.2.2.2.1 (b1) rfl rfl ?_
  refine g_icmp_ge (tgt := 42) dX9_weightAt_13 (by decide) (fun c1 => ?_) (fun c2 => ?_)
  · skip
    refine g_iload_n dX9_weightAt_42 rfl rfl ?_
    exact g_iret rfl dX9_weightAt_43 rfl (Nat.le_refl _) (q2 c1)
  · skip
    refine g_iload_n dX9_weightAt_16 rfl rfl ?_
    refine g_aload_n dX9_weightAt_17 rfl rfl ?_
    refine rg_X5_0 (r := 3) dX9_weightAt_18 lf_X9_55 (sk_2 _) rfl ?_
    refine g_aload_n dX9_weightAt_21 rfl rfl ?_
    refine rg_X9_4 (r := (k + 5)) dX9_weightAt_22 lf_X9_24 hk.1 rfl ?_
    refine g_iload_n dX9_weightAt_25 rfl rfl ?_
    refine g_bipush (v := 30) dX9_weightAt_26 (by decide) ?_
    refine g_imul dX9_weightAt_28 ?_
    refine g_iload dX9_weightAt_29 rfl ?_
    refine g_iadd dX9_weightAt_31 ?_
    refine s_iald (j := ((x1 * 30) + x3).toNatClampNeg) (v := (I (k + 5) ((x1 * 30) + x3).toNatClampNeg)) dX9_weightAt_32 hk.2.2.2.2.2.1 (b3 c2) rfl rfl ?_
    refine s_iald (j := (I (k + 5) ((x1 * 30) + x3).toNatClampNeg).toNatClampNeg) (v := (I 3 (I (k + 5) ((x1 * 30) + x3).toNatClampNeg).toNatClampNeg)) dX9_weightAt_33 (sk_3 _) (b4 c2) rfl rfl ?_
    refine g_iadd dX9_weightAt_34 ?_
    refine s_istore_n (L' := [.ref k, .int x1, .ref 2, .int (x2 + (I 3 (I (k + 5) ((x1 * 30) + x3).toNatClampNeg).toNatClampNeg)), .int x3]) dX9_weightAt_35 rfl (by decide) rfl rfl ?_
    refine s_iinc (v := (x3 + 1)) (L' := [.ref k, .int x1, .ref 2, .int (x2 + (I 3 (I (k + 5) ((x1 * 30) + x3).toNatClampNeg).toNatClampNeg)), .int (x3 + 1)]) dX9_weightAt_36 rfl (by decide) rfl rfl rfl ?_
    refine g_goto (tgt := 5) dX9_weightAt_39 (by decide) ?_
    exact e5 c2
set_option maxRecDepth 10000 in
set_option maxHeartbeats 1000000 in
theorem sn_X9_setAt {l : Launch} {d : Nat} {Q : Option Value → mx_H → Prop} {c : Nat} {I : mx_I} (k : Nat) (a1 : Int32) (hk : at9 (sk0 c) k)
    (e1 : mx_Go l (mx_rm (d + 1) 0 0) mX9_setAt (mx_Z Q 0 0) 0 0 4 [.ref k, .int a1, .int 0, .int 0] [] (sk0 c, I)) :
    mx_Spec l mX9_setAt (d + 1) 0 0 [.ref k, .int a1] (sk0 c, I) Q := by
  refine mx_enter rfl (by simp [Value.category]) (Nat.le_of_ble_eq_true rfl) ?_
  change mx_Go l (mx_rm (d + 1) 0 0) mX9_setAt (mx_Z Q 0 0) 0 0 0 [.ref k, .int a1, .retAddr 0, .retAddr 0] [] (sk0 c, I)
  refine g_iconst (v := 0) dX9_setAt_0 (by decide) ?_
  refine s_istore_n (L' := [.ref k, .int a1, .int 0, .retAddr 0]) dX9_setAt_1 rfl (by decide) rfl rfl ?_
  refine g_iconst (v := 0) dX9_setAt_2 (by decide) ?_
  refine s_istore_n (L' := [.ref k, .int a1, .int 0, .int 0]) dX9_setAt_3 rfl (by decide) rfl rfl ?_
  exact e1
set_option maxRecDepth 10000 in
set_option maxHeartbeats 1000000 in
theorem sg_X9_setAt_4 {l : Launch} {d : Nat} {Q : Option Value → mx_H → Prop} {c : Nat} {I : mx_I} (k : Nat) (hk : at9 (sk0 c) k) (x1 : Int32) (x2 : Int32) (x3 : Int32)
    (b1 : vp_in x1 4)
    (q2 : ((I (k + 6) x1.toNatClampNeg) ≤ x3) → Q (some (.int x2)) (sk0 c, I))
    (b3 : (¬ (I (k + 6) x1.toNatClampNeg) ≤ x3) → vp_in ((x1 * 30) + x3) 120)
    (e4 : (¬ (I (k + 6) x1.toNatClampNeg) ≤ x3) → mx_Go l (mx_rm (d + 1) 0 0) mX9_setAt (mx_Z Q 0 0) 0 0 4 [.ref k, .int x1, .int (x2 ||| (1 <<< ((I (k + 5) ((x1 * 30) + x3).toNatClampNeg) &&& 31))), .int (x3 + 1)] [] (sk0 c, I)) :
    mx_Go l (mx_rm (d + 1) 0 0) mX9_setAt (mx_Z Q 0 0) 0 0 4 [.ref k, .int x1, .int x2, .int x3] [] (sk0 c, I) := by
  refine g_iload_n dX9_setAt_4 rfl rfl ?_
  refine g_aload_n dX9_setAt_5 rfl rfl ?_
  refine rg_X9_5 (r := (k + 6)) dX9_setAt_6 lf_X9_27 hk.1 rfl ?_
  refine g_iload_n dX9_setAt_9 rfl rfl ?_
  refine s_iald (j := x1.toNatClampNeg) (v := (I (k + 6) x1.toNatClampNeg)) dX9_setAt_10 hk.2.2.2.2.2.2.1 (b1) rfl rfl ?_
  refine g_icmp_ge (tgt := 36) dX9_setAt_11 (by decide) (fun c1 => ?_) (fun c2 => ?_)
  · skip
    refine g_iload_n dX9_setAt_36 rfl rfl ?_
    exact g_iret rfl dX9_setAt_37 rfl (Nat.le_refl _) (q2 c1)
  · skip
    refine g_iload_n dX9_setAt_14 rfl rfl ?_
    refine g_iconst (v := 1) dX9_setAt_15 (by decide) ?_
    refine g_aload_n dX9_setAt_16 rfl rfl ?_
    refine rg_X9_4 (r := (k + 5)) dX9_setAt_17 lf_X9_24 hk.1 rfl ?_
    refine g_iload_n dX9_setAt_20 rfl rfl ?_
    refine g_bipush (v := 30) dX9_setAt_21 (by decide) ?_
    refine g_imul dX9_setAt_23 ?_
    refine g_iload_n dX9_setAt_24 rfl rfl ?_
    refine g_iadd dX9_setAt_25 ?_
    refine s_iald (j := ((x1 * 30) + x3).toNatClampNeg) (v := (I (k + 5) ((x1 * 30) + x3).toNatClampNeg)) dX9_setAt_26 hk.2.2.2.2.2.1 (b3 c2) rfl rfl ?_
    refine g_ishl dX9_setAt_27 ?_
    refine g_ior dX9_setAt_28 ?_
    refine s_istore_n (L' := [.ref k, .int x1, .int (x2 ||| (1 <<< ((I (k + 5) ((x1 * 30) + x3).toNatClampNeg) &&& 31))), .int x3]) dX9_setAt_29 rfl (by decide) rfl rfl ?_
    refine s_iinc (v := (x3 + 1)) (L' := [.ref k, .int x1, .int (x2 ||| (1 <<< ((I (k + 5) ((x1 * 30) + x3).toNatClampNeg) &&& 31))), .int (x3 + 1)]) dX9_setAt_30 rfl (by decide) rfl rfl rfl ?_
    refine g_goto (tgt := 4) dX9_setAt_33 (by decide) ?_
    exact e4 c2
set_option maxRecDepth 10000 in
set_option maxHeartbeats 1000000 in
theorem sn_X9_bearersSince {l : Launch} {d : Nat} {Q : Option Value → mx_H → Prop} {c : Nat} {I : mx_I} (k : Nat) (a1 : Int32) (a2 : Int32) (hk : at9 (sk0 c) k)
    (e1 : mx_Go l (mx_rm (d + 1) 0 0) mX9_bearersSince (mx_Z Q 0 0) 0 0 5 [.ref k, .int a1, .int a2, .int 0, .int 0] [] (sk0 c, I)) :
    mx_Spec l mX9_bearersSince (d + 1) 0 0 [.ref k, .int a1, .int a2] (sk0 c, I) Q := by
  refine mx_enter rfl (by simp [Value.category]) (Nat.le_of_ble_eq_true rfl) ?_
  change mx_Go l (mx_rm (d + 1) 0 0) mX9_bearersSince (mx_Z Q 0 0) 0 0 0 [.ref k, .int a1, .int a2, .retAddr 0, .retAddr 0] [] (sk0 c, I)
  refine g_iconst (v := 0) dX9_bearersSince_0 (by decide) ?_
  refine s_istore_n (L' := [.ref k, .int a1, .int a2, .int 0, .retAddr 0]) dX9_bearersSince_1 rfl (by decide) rfl rfl ?_
  refine g_iconst (v := 0) dX9_bearersSince_2 (by decide) ?_
  refine s_istore (L' := [.ref k, .int a1, .int a2, .int 0, .int 0]) dX9_bearersSince_3 (by decide) rfl rfl ?_
  exact e1
set_option maxRecDepth 10000 in
set_option maxHeartbeats 1000000 in
theorem sg_X9_bearersSince_5 {l : Launch} {d : Nat} {Q : Option Value → mx_H → Prop} {c : Nat} {I : mx_I} (k : Nat) (hk : at9 (sk0 c) k) (x1 : Int32) (x2 : Int32) (x3 : Int32) (x4 : Int32)
    (q1 : (x2 ≤ x4) → Q (some (.int x3)) (sk0 c, I))
    (q2 : (¬ x2 ≤ x4) → (20 ≤ x4) → Q (some (.int x3)) (sk0 c, I))
    (b3 : (¬ x2 ≤ x4) → (¬ 20 ≤ x4) → vp_in x4 20)
    (e4 : (¬ x2 ≤ x4) → (¬ 20 ≤ x4) → ((I (k + 7) x4.toNatClampNeg) < x1) → mx_Go l (mx_rm (d + 1) 0 0) mX9_bearersSince (mx_Z Q 0 0) 0 0 5 [.ref k, .int x1, .int x2, .int x3, .int (x4 + 1)] [] (sk0 c, I))
    (b5 : (¬ x2 ≤ x4) → (¬ 20 ≤ x4) → (¬ (I (k + 7) x4.toNatClampNeg) < x1) → vp_in x4 20)
    (e6 : (¬ x2 ≤ x4) → (¬ 20 ≤ x4) → (¬ (I (k + 7) x4.toNatClampNeg) < x1) → ((I (k + 8) x4.toNatClampNeg) ≤ 0) → mx_Go l (mx_rm (d + 1) 0 0) mX9_bearersSince (mx_Z Q 0 0) 0 0 5 [.ref k, .int x1, .int x2, .int x3, .int (x4 + 1)] [] (sk0 c, I))
    (e7 : (¬ x2 ≤ x4) → (¬ 20 ≤ x4) → (¬ (I (k + 7) x4.toNatClampNeg) < x1) → (¬ (I (k + 8) x4.toNatClampNeg) ≤ 0) → mx_Go l (mx_rm (d + 1) 0 0) mX9_bearersSince (mx_Z Q 0 0) 0 0 5 [.ref k, .int x1, .int x2, .int (x3 + 1), .int (x4 + 1)] [] (sk0 c, I)) :
    mx_Go l (mx_rm (d + 1) 0 0) mX9_bearersSince (mx_Z Q 0 0) 0 0 5 [.ref k, .int x1, .int x2, .int x3, .int x4] [] (sk0 c, I) := by
  refine g_iload dX9_bearersSince_5 rfl ?_
  refine g_iload_n dX9_bearersSince_7 rfl rfl ?_
  refine g_icmp_ge (tgt := 48) dX9_bearersSince_8 (by decide) (fun c1 => ?_) (fun c2 => ?_)
  · skip
    refine g_iload_n dX9_bearersSince_48 rfl rfl ?_
    exact g_iret rfl dX9_bearersSince_49 rfl (Nat.le_refl _) (q1 c1)
  · skip
    refine g_iload dX9_bearersSince_11 rfl ?_
    refine g_bipush (v := 20) dX9_bearersSince_13 (by decide) ?_
    refine g_icmp_ge (tgt := 48) dX9_bearersSince_15 (by decide) (fun c3 => ?_) (fun c4 => ?_)
    · skip
      refine g_iload_n dX9_bearersSince_48 rfl rfl ?_
      exact g_iret rfl dX9_bearersSince_49 rfl (Nat.le_refl _) (q2 c2 c3)
    · skip
      refine g_aload_n dX9_bearersSince_18 rfl rfl ?_
      refine rg_X9_6 (r := (k + 7)) dX9_bearersSince_19 lf_X9_30 hk.1 rfl ?_
      refine g_iload dX9_bearersSince_22 rfl ?_
      refine s_iald (j := x4.toNatClampNeg) (v := (I (k + 7) x4.toNatClampNeg)) dX9_bearersSince_24 hk.2.2.2.2.2.2.2.1 (b3 c2 c4) rfl rfl ?_
      refine g_iload_n dX9_bearersSince_25 rfl rfl ?_
      refine g_icmp_lt (tgt := 42) dX9_bearersSince_26 (by decide) (fun c5 => ?_) (fun c6 => ?_)
      · skip
        refine s_iinc (v := (x4 + 1)) (L' := [.ref k, .int x1, .int x2, .int x3, .int (x4 + 1)]) dX9_bearersSince_42 rfl (by decide) rfl rfl rfl ?_
        refine g_goto (tgt := 5) dX9_bearersSince_45 (by decide) ?_
        exact e4 c2 c4 c5
      · skip
        refine g_aload_n dX9_bearersSince_29 rfl rfl ?_
        refine rg_X9_7 (r := (k + 8)) dX9_bearersSince_30 lf_X9_33 hk.1 rfl ?_
        refine g_iload dX9_bearersSince_33 rfl ?_
        refine s_iald (j := x4.toNatClampNeg) (v := (I (k + 8) x4.toNatClampNeg)) dX9_bearersSince_35 hk.2.2.2.2.2.2.2.2.1 (b5 c2 c4 c6) rfl rfl ?_
        refine g_if_le (tgt := 42) dX9_bearersSince_36 (by decide) (fun c7 => ?_) (fun c8 => ?_)
        · skip
          refine s_iinc (v := (x4 + 1)) (L' := [.ref k, .int x1, .int x2, .int x3, .int (x4 + 1)]) dX9_bearersSince_42 rfl (by decide) rfl rfl rfl ?_
          refine g_goto (tgt := 5) dX9_bearersSince_45 (by decide) ?_
          exact e6 c2 c4 c6 c7
        · skip
          refine s_iinc (v := (x3 + 1)) (L' := [.ref k, .int x1, .int x2, .int (x3 + 1), .int x4]) dX9_bearersSince_39 rfl (by decide) rfl rfl rfl ?_
          refine s_iinc (v := (x4 + 1)) (L' := [.ref k, .int x1, .int x2, .int (x3 + 1), .int (x4 + 1)]) dX9_bearersSince_42 rfl (by decide) rfl rfl rfl ?_
          refine g_goto (tgt := 5) dX9_bearersSince_45 (by decide) ?_
          exact e7 c2 c4 c6 c8
set_option maxRecDepth 10000 in
set_option maxHeartbeats 1000000 in
theorem sn_X9_copyFrom_55_33 {l : Launch} {d : Nat} {Q : Option Value → mx_H → Prop} {c : Nat} {I : mx_I}
    (q1 : Q none (sk0 c, (mx_set (mx_set (mx_copy (mx_copy (mx_copy (mx_copy (mx_copy (mx_copy (mx_copy (mx_copy (mx_copy I 34 56 30) 35 57 30) 36 58 30) 37 59 30) 38 60 120) 39 61 4) 40 62 20) 41 63 20) 42 64 20) 55 9 (I 33 9)) 55 10 (I 33 10)))) :
    mx_Spec l mX9_copyFrom (d + 1) 0 0 [.ref 55, .ref 33] (sk0 c, I) Q := by
  refine mx_enter rfl (by simp [Value.category]) (Nat.le_of_ble_eq_true rfl) ?_
  change mx_Go l (mx_rm (d + 1) 0 0) mX9_copyFrom (mx_Z Q 0 0) 0 0 0 [.ref 55, .ref 33] [] (sk0 c, I)
  refine g_aload_n dX9_copyFrom_0 rfl rfl ?_
  refine rg_X9_0 (r := 34) dX9_copyFrom_1 lf_X9_9 (sk_33 _) rfl ?_
  refine g_iconst (v := 0) dX9_copyFrom_4 (by decide) ?_
  refine g_aload_n dX9_copyFrom_5 rfl rfl ?_
  refine rg_X9_0 (r := 56) dX9_copyFrom_6 lf_X9_9 (sk_55 _) rfl ?_
  refine g_iconst (v := 0) dX9_copyFrom_9 (by decide) ?_
  refine g_bipush (v := 30) dX9_copyFrom_10 (by decide) ?_
  refine s_copy (N := 30) dX9_copyFrom_12 lm_X9_60 (sk_34 _) (sk_56 _) (by decide) (by decide) (by decide) (by decide) (by decide) ?_
  refine g_aload_n dX9_copyFrom_15 rfl rfl ?_
  refine rg_X9_1 (r := 35) dX9_copyFrom_16 lf_X9_15 (sk_33 _) rfl ?_
  refine g_iconst (v := 0) dX9_copyFrom_19 (by decide) ?_
  refine g_aload_n dX9_copyFrom_20 rfl rfl ?_
  refine rg_X9_1 (r := 57) dX9_copyFrom_21 lf_X9_15 (sk_55 _) rfl ?_
  refine g_iconst (v := 0) dX9_copyFrom_24 (by decide) ?_
  refine g_bipush (v := 30) dX9_copyFrom_25 (by decide) ?_
  refine s_copy (N := 30) dX9_copyFrom_27 lm_X9_60 (sk_35 _) (sk_57 _) (by decide) (by decide) (by decide) (by decide) (by decide) ?_
  refine g_aload_n dX9_copyFrom_30 rfl rfl ?_
  refine rg_X9_2 (r := 36) dX9_copyFrom_31 lf_X9_18 (sk_33 _) rfl ?_
  refine g_iconst (v := 0) dX9_copyFrom_34 (by decide) ?_
  refine g_aload_n dX9_copyFrom_35 rfl rfl ?_
  refine rg_X9_2 (r := 58) dX9_copyFrom_36 lf_X9_18 (sk_55 _) rfl ?_
  refine g_iconst (v := 0) dX9_copyFrom_39 (by decide) ?_
  refine g_bipush (v := 30) dX9_copyFrom_40 (by decide) ?_
  refine s_copy (N := 30) dX9_copyFrom_42 lm_X9_60 (sk_36 _) (sk_58 _) (by decide) (by decide) (by decide) (by decide) (by decide) ?_
  refine g_aload_n dX9_copyFrom_45 rfl rfl ?_
  refine rg_X9_3 (r := 37) dX9_copyFrom_46 lf_X9_21 (sk_33 _) rfl ?_
  refine g_iconst (v := 0) dX9_copyFrom_49 (by decide) ?_
  refine g_aload_n dX9_copyFrom_50 rfl rfl ?_
  refine rg_X9_3 (r := 59) dX9_copyFrom_51 lf_X9_21 (sk_55 _) rfl ?_
  refine g_iconst (v := 0) dX9_copyFrom_54 (by decide) ?_
  refine g_bipush (v := 30) dX9_copyFrom_55 (by decide) ?_
  refine s_copy (N := 30) dX9_copyFrom_57 lm_X9_60 (sk_37 _) (sk_59 _) (by decide) (by decide) (by decide) (by decide) (by decide) ?_
  refine g_aload_n dX9_copyFrom_60 rfl rfl ?_
  refine rg_X9_4 (r := 38) dX9_copyFrom_61 lf_X9_24 (sk_33 _) rfl ?_
  refine g_iconst (v := 0) dX9_copyFrom_64 (by decide) ?_
  refine g_aload_n dX9_copyFrom_65 rfl rfl ?_
  refine rg_X9_4 (r := 60) dX9_copyFrom_66 lf_X9_24 (sk_55 _) rfl ?_
  refine g_iconst (v := 0) dX9_copyFrom_69 (by decide) ?_
  refine g_bipush (v := 120) dX9_copyFrom_70 (by decide) ?_
  refine s_copy (N := 120) dX9_copyFrom_72 lm_X9_60 (sk_38 _) (sk_60 _) (by decide) (by decide) (by decide) (by decide) (by decide) ?_
  refine g_aload_n dX9_copyFrom_75 rfl rfl ?_
  refine rg_X9_5 (r := 39) dX9_copyFrom_76 lf_X9_27 (sk_33 _) rfl ?_
  refine g_iconst (v := 0) dX9_copyFrom_79 (by decide) ?_
  refine g_aload_n dX9_copyFrom_80 rfl rfl ?_
  refine rg_X9_5 (r := 61) dX9_copyFrom_81 lf_X9_27 (sk_55 _) rfl ?_
  refine g_iconst (v := 0) dX9_copyFrom_84 (by decide) ?_
  refine g_iconst (v := 4) dX9_copyFrom_85 (by decide) ?_
  refine s_copy (N := 4) dX9_copyFrom_86 lm_X9_60 (sk_39 _) (sk_61 _) (by decide) (by decide) (by decide) (by decide) (by decide) ?_
  refine g_aload_n dX9_copyFrom_89 rfl rfl ?_
  refine rg_X9_6 (r := 40) dX9_copyFrom_90 lf_X9_30 (sk_33 _) rfl ?_
  refine g_iconst (v := 0) dX9_copyFrom_93 (by decide) ?_
  refine g_aload_n dX9_copyFrom_94 rfl rfl ?_
  refine rg_X9_6 (r := 62) dX9_copyFrom_95 lf_X9_30 (sk_55 _) rfl ?_
  refine g_iconst (v := 0) dX9_copyFrom_98 (by decide) ?_
  refine g_bipush (v := 20) dX9_copyFrom_99 (by decide) ?_
  refine s_copy (N := 20) dX9_copyFrom_101 lm_X9_60 (sk_40 _) (sk_62 _) (by decide) (by decide) (by decide) (by decide) (by decide) ?_
  refine g_aload_n dX9_copyFrom_104 rfl rfl ?_
  refine rg_X9_7 (r := 41) dX9_copyFrom_105 lf_X9_33 (sk_33 _) rfl ?_
  refine g_iconst (v := 0) dX9_copyFrom_108 (by decide) ?_
  refine g_aload_n dX9_copyFrom_109 rfl rfl ?_
  refine rg_X9_7 (r := 63) dX9_copyFrom_110 lf_X9_33 (sk_55 _) rfl ?_
  refine g_iconst (v := 0) dX9_copyFrom_113 (by decide) ?_
  refine g_bipush (v := 20) dX9_copyFrom_114 (by decide) ?_
  refine s_copy (N := 20) dX9_copyFrom_116 lm_X9_60 (sk_41 _) (sk_63 _) (by decide) (by decide) (by decide) (by decide) (by decide) ?_
  refine g_aload_n dX9_copyFrom_119 rfl rfl ?_
  refine rg_X9_8 (r := 42) dX9_copyFrom_120 lf_X9_36 (sk_33 _) rfl ?_
  refine g_iconst (v := 0) dX9_copyFrom_123 (by decide) ?_
  refine g_aload_n dX9_copyFrom_124 rfl rfl ?_
  refine rg_X9_8 (r := 64) dX9_copyFrom_125 lf_X9_36 (sk_55 _) rfl ?_
  refine g_iconst (v := 0) dX9_copyFrom_128 (by decide) ?_
  refine g_bipush (v := 20) dX9_copyFrom_129 (by decide) ?_
  refine s_copy (N := 20) dX9_copyFrom_131 lm_X9_60 (sk_42 _) (sk_64 _) (by decide) (by decide) (by decide) (by decide) (by decide) ?_
  refine g_aload_n dX9_copyFrom_134 rfl rfl ?_
  refine g_aload_n dX9_copyFrom_135 rfl rfl ?_
  refine rg_X9_9 (v := (I 33 9)) dX9_copyFrom_136 lf_X9_48 (sk_33 _) (rd_cp (by decide) (rd_cp (by decide) (rd_cp (by decide) (rd_cp (by decide) (rd_cp (by decide) (rd_cp (by decide) (rd_cp (by decide) (rd_cp (by decide) (rd_cp (by decide) rfl))))))))) ?_
  refine rp_X9_9 dX9_copyFrom_139 lf_X9_48 (sk_55 _) ?_
  refine g_aload_n dX9_copyFrom_142 rfl rfl ?_
  refine g_aload_n dX9_copyFrom_143 rfl rfl ?_
  refine rg_X9_10 (v := (I 33 10)) dX9_copyFrom_144 lf_X9_52 (sk_33 _) (rd_ne (by decide) (rd_cp (by decide) (rd_cp (by decide) (rd_cp (by decide) (rd_cp (by decide) (rd_cp (by decide) (rd_cp (by decide) (rd_cp (by decide) (rd_cp (by decide) (rd_cp (by decide) rfl)))))))))) ?_
  refine rp_X9_10 dX9_copyFrom_147 lf_X9_52 (sk_55 _) ?_
  exact g_vret rfl dX9_copyFrom_150 rfl (Nat.le_refl _) (q1)
set_option maxRecDepth 10000 in
set_option maxHeartbeats 1000000 in
theorem sn_X9_copyFrom_106_33 {l : Launch} {d : Nat} {Q : Option Value → mx_H → Prop} {c : Nat} {I : mx_I}
    (q1 : Q none (sk0 c, (mx_set (mx_set (mx_copy (mx_copy (mx_copy (mx_copy (mx_copy (mx_copy (mx_copy (mx_copy (mx_copy I 34 107 30) 35 108 30) 36 109 30) 37 110 30) 38 111 120) 39 112 4) 40 113 20) 41 114 20) 42 115 20) 106 9 (I 33 9)) 106 10 (I 33 10)))) :
    mx_Spec l mX9_copyFrom (d + 1) 0 0 [.ref 106, .ref 33] (sk0 c, I) Q := by
  refine mx_enter rfl (by simp [Value.category]) (Nat.le_of_ble_eq_true rfl) ?_
  change mx_Go l (mx_rm (d + 1) 0 0) mX9_copyFrom (mx_Z Q 0 0) 0 0 0 [.ref 106, .ref 33] [] (sk0 c, I)
  refine g_aload_n dX9_copyFrom_0 rfl rfl ?_
  refine rg_X9_0 (r := 34) dX9_copyFrom_1 lf_X9_9 (sk_33 _) rfl ?_
  refine g_iconst (v := 0) dX9_copyFrom_4 (by decide) ?_
  refine g_aload_n dX9_copyFrom_5 rfl rfl ?_
  refine rg_X9_0 (r := 107) dX9_copyFrom_6 lf_X9_9 (sk_106 _) rfl ?_
  refine g_iconst (v := 0) dX9_copyFrom_9 (by decide) ?_
  refine g_bipush (v := 30) dX9_copyFrom_10 (by decide) ?_
  refine s_copy (N := 30) dX9_copyFrom_12 lm_X9_60 (sk_34 _) (sk_107 _) (by decide) (by decide) (by decide) (by decide) (by decide) ?_
  refine g_aload_n dX9_copyFrom_15 rfl rfl ?_
  refine rg_X9_1 (r := 35) dX9_copyFrom_16 lf_X9_15 (sk_33 _) rfl ?_
  refine g_iconst (v := 0) dX9_copyFrom_19 (by decide) ?_
  refine g_aload_n dX9_copyFrom_20 rfl rfl ?_
  refine rg_X9_1 (r := 108) dX9_copyFrom_21 lf_X9_15 (sk_106 _) rfl ?_
  refine g_iconst (v := 0) dX9_copyFrom_24 (by decide) ?_
  refine g_bipush (v := 30) dX9_copyFrom_25 (by decide) ?_
  refine s_copy (N := 30) dX9_copyFrom_27 lm_X9_60 (sk_35 _) (sk_108 _) (by decide) (by decide) (by decide) (by decide) (by decide) ?_
  refine g_aload_n dX9_copyFrom_30 rfl rfl ?_
  refine rg_X9_2 (r := 36) dX9_copyFrom_31 lf_X9_18 (sk_33 _) rfl ?_
  refine g_iconst (v := 0) dX9_copyFrom_34 (by decide) ?_
  refine g_aload_n dX9_copyFrom_35 rfl rfl ?_
  refine rg_X9_2 (r := 109) dX9_copyFrom_36 lf_X9_18 (sk_106 _) rfl ?_
  refine g_iconst (v := 0) dX9_copyFrom_39 (by decide) ?_
  refine g_bipush (v := 30) dX9_copyFrom_40 (by decide) ?_
  refine s_copy (N := 30) dX9_copyFrom_42 lm_X9_60 (sk_36 _) (sk_109 _) (by decide) (by decide) (by decide) (by decide) (by decide) ?_
  refine g_aload_n dX9_copyFrom_45 rfl rfl ?_
  refine rg_X9_3 (r := 37) dX9_copyFrom_46 lf_X9_21 (sk_33 _) rfl ?_
  refine g_iconst (v := 0) dX9_copyFrom_49 (by decide) ?_
  refine g_aload_n dX9_copyFrom_50 rfl rfl ?_
  refine rg_X9_3 (r := 110) dX9_copyFrom_51 lf_X9_21 (sk_106 _) rfl ?_
  refine g_iconst (v := 0) dX9_copyFrom_54 (by decide) ?_
  refine g_bipush (v := 30) dX9_copyFrom_55 (by decide) ?_
  refine s_copy (N := 30) dX9_copyFrom_57 lm_X9_60 (sk_37 _) (sk_110 _) (by decide) (by decide) (by decide) (by decide) (by decide) ?_
  refine g_aload_n dX9_copyFrom_60 rfl rfl ?_
  refine rg_X9_4 (r := 38) dX9_copyFrom_61 lf_X9_24 (sk_33 _) rfl ?_
  refine g_iconst (v := 0) dX9_copyFrom_64 (by decide) ?_
  refine g_aload_n dX9_copyFrom_65 rfl rfl ?_
  refine rg_X9_4 (r := 111) dX9_copyFrom_66 lf_X9_24 (sk_106 _) rfl ?_
  refine g_iconst (v := 0) dX9_copyFrom_69 (by decide) ?_
  refine g_bipush (v := 120) dX9_copyFrom_70 (by decide) ?_
  refine s_copy (N := 120) dX9_copyFrom_72 lm_X9_60 (sk_38 _) (sk_111 _) (by decide) (by decide) (by decide) (by decide) (by decide) ?_
  refine g_aload_n dX9_copyFrom_75 rfl rfl ?_
  refine rg_X9_5 (r := 39) dX9_copyFrom_76 lf_X9_27 (sk_33 _) rfl ?_
  refine g_iconst (v := 0) dX9_copyFrom_79 (by decide) ?_
  refine g_aload_n dX9_copyFrom_80 rfl rfl ?_
  refine rg_X9_5 (r := 112) dX9_copyFrom_81 lf_X9_27 (sk_106 _) rfl ?_
  refine g_iconst (v := 0) dX9_copyFrom_84 (by decide) ?_
  refine g_iconst (v := 4) dX9_copyFrom_85 (by decide) ?_
  refine s_copy (N := 4) dX9_copyFrom_86 lm_X9_60 (sk_39 _) (sk_112 _) (by decide) (by decide) (by decide) (by decide) (by decide) ?_
  refine g_aload_n dX9_copyFrom_89 rfl rfl ?_
  refine rg_X9_6 (r := 40) dX9_copyFrom_90 lf_X9_30 (sk_33 _) rfl ?_
  refine g_iconst (v := 0) dX9_copyFrom_93 (by decide) ?_
  refine g_aload_n dX9_copyFrom_94 rfl rfl ?_
  refine rg_X9_6 (r := 113) dX9_copyFrom_95 lf_X9_30 (sk_106 _) rfl ?_
  refine g_iconst (v := 0) dX9_copyFrom_98 (by decide) ?_
  refine g_bipush (v := 20) dX9_copyFrom_99 (by decide) ?_
  refine s_copy (N := 20) dX9_copyFrom_101 lm_X9_60 (sk_40 _) (sk_113 _) (by decide) (by decide) (by decide) (by decide) (by decide) ?_
  refine g_aload_n dX9_copyFrom_104 rfl rfl ?_
  refine rg_X9_7 (r := 41) dX9_copyFrom_105 lf_X9_33 (sk_33 _) rfl ?_
  refine g_iconst (v := 0) dX9_copyFrom_108 (by decide) ?_
  refine g_aload_n dX9_copyFrom_109 rfl rfl ?_
  refine rg_X9_7 (r := 114) dX9_copyFrom_110 lf_X9_33 (sk_106 _) rfl ?_
  refine g_iconst (v := 0) dX9_copyFrom_113 (by decide) ?_
  refine g_bipush (v := 20) dX9_copyFrom_114 (by decide) ?_
  refine s_copy (N := 20) dX9_copyFrom_116 lm_X9_60 (sk_41 _) (sk_114 _) (by decide) (by decide) (by decide) (by decide) (by decide) ?_
  refine g_aload_n dX9_copyFrom_119 rfl rfl ?_
  refine rg_X9_8 (r := 42) dX9_copyFrom_120 lf_X9_36 (sk_33 _) rfl ?_
  refine g_iconst (v := 0) dX9_copyFrom_123 (by decide) ?_
  refine g_aload_n dX9_copyFrom_124 rfl rfl ?_
  refine rg_X9_8 (r := 115) dX9_copyFrom_125 lf_X9_36 (sk_106 _) rfl ?_
  refine g_iconst (v := 0) dX9_copyFrom_128 (by decide) ?_
  refine g_bipush (v := 20) dX9_copyFrom_129 (by decide) ?_
  refine s_copy (N := 20) dX9_copyFrom_131 lm_X9_60 (sk_42 _) (sk_115 _) (by decide) (by decide) (by decide) (by decide) (by decide) ?_
  refine g_aload_n dX9_copyFrom_134 rfl rfl ?_
  refine g_aload_n dX9_copyFrom_135 rfl rfl ?_
  refine rg_X9_9 (v := (I 33 9)) dX9_copyFrom_136 lf_X9_48 (sk_33 _) (rd_cp (by decide) (rd_cp (by decide) (rd_cp (by decide) (rd_cp (by decide) (rd_cp (by decide) (rd_cp (by decide) (rd_cp (by decide) (rd_cp (by decide) (rd_cp (by decide) rfl))))))))) ?_
  refine rp_X9_9 dX9_copyFrom_139 lf_X9_48 (sk_106 _) ?_
  refine g_aload_n dX9_copyFrom_142 rfl rfl ?_
  refine g_aload_n dX9_copyFrom_143 rfl rfl ?_
  refine rg_X9_10 (v := (I 33 10)) dX9_copyFrom_144 lf_X9_52 (sk_33 _) (rd_ne (by decide) (rd_cp (by decide) (rd_cp (by decide) (rd_cp (by decide) (rd_cp (by decide) (rd_cp (by decide) (rd_cp (by decide) (rd_cp (by decide) (rd_cp (by decide) (rd_cp (by decide) rfl)))))))))) ?_
  refine rp_X9_10 dX9_copyFrom_147 lf_X9_52 (sk_106 _) ?_
  exact g_vret rfl dX9_copyFrom_150 rfl (Nat.le_refl _) (q1)
set_option maxRecDepth 10000 in
set_option maxHeartbeats 1000000 in
theorem sn_X9_copyFrom_33_106 {l : Launch} {d : Nat} {Q : Option Value → mx_H → Prop} {c : Nat} {I : mx_I}
    (q1 : Q none (sk0 c, (mx_set (mx_set (mx_copy (mx_copy (mx_copy (mx_copy (mx_copy (mx_copy (mx_copy (mx_copy (mx_copy I 107 34 30) 108 35 30) 109 36 30) 110 37 30) 111 38 120) 112 39 4) 113 40 20) 114 41 20) 115 42 20) 33 9 (I 106 9)) 33 10 (I 106 10)))) :
    mx_Spec l mX9_copyFrom (d + 1) 0 0 [.ref 33, .ref 106] (sk0 c, I) Q := by
  refine mx_enter rfl (by simp [Value.category]) (Nat.le_of_ble_eq_true rfl) ?_
  change mx_Go l (mx_rm (d + 1) 0 0) mX9_copyFrom (mx_Z Q 0 0) 0 0 0 [.ref 33, .ref 106] [] (sk0 c, I)
  refine g_aload_n dX9_copyFrom_0 rfl rfl ?_
  refine rg_X9_0 (r := 107) dX9_copyFrom_1 lf_X9_9 (sk_106 _) rfl ?_
  refine g_iconst (v := 0) dX9_copyFrom_4 (by decide) ?_
  refine g_aload_n dX9_copyFrom_5 rfl rfl ?_
  refine rg_X9_0 (r := 34) dX9_copyFrom_6 lf_X9_9 (sk_33 _) rfl ?_
  refine g_iconst (v := 0) dX9_copyFrom_9 (by decide) ?_
  refine g_bipush (v := 30) dX9_copyFrom_10 (by decide) ?_
  refine s_copy (N := 30) dX9_copyFrom_12 lm_X9_60 (sk_107 _) (sk_34 _) (by decide) (by decide) (by decide) (by decide) (by decide) ?_
  refine g_aload_n dX9_copyFrom_15 rfl rfl ?_
  refine rg_X9_1 (r := 108) dX9_copyFrom_16 lf_X9_15 (sk_106 _) rfl ?_
  refine g_iconst (v := 0) dX9_copyFrom_19 (by decide) ?_
  refine g_aload_n dX9_copyFrom_20 rfl rfl ?_
  refine rg_X9_1 (r := 35) dX9_copyFrom_21 lf_X9_15 (sk_33 _) rfl ?_
  refine g_iconst (v := 0) dX9_copyFrom_24 (by decide) ?_
  refine g_bipush (v := 30) dX9_copyFrom_25 (by decide) ?_
  refine s_copy (N := 30) dX9_copyFrom_27 lm_X9_60 (sk_108 _) (sk_35 _) (by decide) (by decide) (by decide) (by decide) (by decide) ?_
  refine g_aload_n dX9_copyFrom_30 rfl rfl ?_
  refine rg_X9_2 (r := 109) dX9_copyFrom_31 lf_X9_18 (sk_106 _) rfl ?_
  refine g_iconst (v := 0) dX9_copyFrom_34 (by decide) ?_
  refine g_aload_n dX9_copyFrom_35 rfl rfl ?_
  refine rg_X9_2 (r := 36) dX9_copyFrom_36 lf_X9_18 (sk_33 _) rfl ?_
  refine g_iconst (v := 0) dX9_copyFrom_39 (by decide) ?_
  refine g_bipush (v := 30) dX9_copyFrom_40 (by decide) ?_
  refine s_copy (N := 30) dX9_copyFrom_42 lm_X9_60 (sk_109 _) (sk_36 _) (by decide) (by decide) (by decide) (by decide) (by decide) ?_
  refine g_aload_n dX9_copyFrom_45 rfl rfl ?_
  refine rg_X9_3 (r := 110) dX9_copyFrom_46 lf_X9_21 (sk_106 _) rfl ?_
  refine g_iconst (v := 0) dX9_copyFrom_49 (by decide) ?_
  refine g_aload_n dX9_copyFrom_50 rfl rfl ?_
  refine rg_X9_3 (r := 37) dX9_copyFrom_51 lf_X9_21 (sk_33 _) rfl ?_
  refine g_iconst (v := 0) dX9_copyFrom_54 (by decide) ?_
  refine g_bipush (v := 30) dX9_copyFrom_55 (by decide) ?_
  refine s_copy (N := 30) dX9_copyFrom_57 lm_X9_60 (sk_110 _) (sk_37 _) (by decide) (by decide) (by decide) (by decide) (by decide) ?_
  refine g_aload_n dX9_copyFrom_60 rfl rfl ?_
  refine rg_X9_4 (r := 111) dX9_copyFrom_61 lf_X9_24 (sk_106 _) rfl ?_
  refine g_iconst (v := 0) dX9_copyFrom_64 (by decide) ?_
  refine g_aload_n dX9_copyFrom_65 rfl rfl ?_
  refine rg_X9_4 (r := 38) dX9_copyFrom_66 lf_X9_24 (sk_33 _) rfl ?_
  refine g_iconst (v := 0) dX9_copyFrom_69 (by decide) ?_
  refine g_bipush (v := 120) dX9_copyFrom_70 (by decide) ?_
  refine s_copy (N := 120) dX9_copyFrom_72 lm_X9_60 (sk_111 _) (sk_38 _) (by decide) (by decide) (by decide) (by decide) (by decide) ?_
  refine g_aload_n dX9_copyFrom_75 rfl rfl ?_
  refine rg_X9_5 (r := 112) dX9_copyFrom_76 lf_X9_27 (sk_106 _) rfl ?_
  refine g_iconst (v := 0) dX9_copyFrom_79 (by decide) ?_
  refine g_aload_n dX9_copyFrom_80 rfl rfl ?_
  refine rg_X9_5 (r := 39) dX9_copyFrom_81 lf_X9_27 (sk_33 _) rfl ?_
  refine g_iconst (v := 0) dX9_copyFrom_84 (by decide) ?_
  refine g_iconst (v := 4) dX9_copyFrom_85 (by decide) ?_
  refine s_copy (N := 4) dX9_copyFrom_86 lm_X9_60 (sk_112 _) (sk_39 _) (by decide) (by decide) (by decide) (by decide) (by decide) ?_
  refine g_aload_n dX9_copyFrom_89 rfl rfl ?_
  refine rg_X9_6 (r := 113) dX9_copyFrom_90 lf_X9_30 (sk_106 _) rfl ?_
  refine g_iconst (v := 0) dX9_copyFrom_93 (by decide) ?_
  refine g_aload_n dX9_copyFrom_94 rfl rfl ?_
  refine rg_X9_6 (r := 40) dX9_copyFrom_95 lf_X9_30 (sk_33 _) rfl ?_
  refine g_iconst (v := 0) dX9_copyFrom_98 (by decide) ?_
  refine g_bipush (v := 20) dX9_copyFrom_99 (by decide) ?_
  refine s_copy (N := 20) dX9_copyFrom_101 lm_X9_60 (sk_113 _) (sk_40 _) (by decide) (by decide) (by decide) (by decide) (by decide) ?_
  refine g_aload_n dX9_copyFrom_104 rfl rfl ?_
  refine rg_X9_7 (r := 114) dX9_copyFrom_105 lf_X9_33 (sk_106 _) rfl ?_
  refine g_iconst (v := 0) dX9_copyFrom_108 (by decide) ?_
  refine g_aload_n dX9_copyFrom_109 rfl rfl ?_
  refine rg_X9_7 (r := 41) dX9_copyFrom_110 lf_X9_33 (sk_33 _) rfl ?_
  refine g_iconst (v := 0) dX9_copyFrom_113 (by decide) ?_
  refine g_bipush (v := 20) dX9_copyFrom_114 (by decide) ?_
  refine s_copy (N := 20) dX9_copyFrom_116 lm_X9_60 (sk_114 _) (sk_41 _) (by decide) (by decide) (by decide) (by decide) (by decide) ?_
  refine g_aload_n dX9_copyFrom_119 rfl rfl ?_
  refine rg_X9_8 (r := 115) dX9_copyFrom_120 lf_X9_36 (sk_106 _) rfl ?_
  refine g_iconst (v := 0) dX9_copyFrom_123 (by decide) ?_
  refine g_aload_n dX9_copyFrom_124 rfl rfl ?_
  refine rg_X9_8 (r := 42) dX9_copyFrom_125 lf_X9_36 (sk_33 _) rfl ?_
  refine g_iconst (v := 0) dX9_copyFrom_128 (by decide) ?_
  refine g_bipush (v := 20) dX9_copyFrom_129 (by decide) ?_
  refine s_copy (N := 20) dX9_copyFrom_131 lm_X9_60 (sk_115 _) (sk_42 _) (by decide) (by decide) (by decide) (by decide) (by decide) ?_
  refine g_aload_n dX9_copyFrom_134 rfl rfl ?_
  refine g_aload_n dX9_copyFrom_135 rfl rfl ?_
  refine rg_X9_9 (v := (I 106 9)) dX9_copyFrom_136 lf_X9_48 (sk_106 _) (rd_cp (by decide) (rd_cp (by decide) (rd_cp (by decide) (rd_cp (by decide) (rd_cp (by decide) (rd_cp (by decide) (rd_cp (by decide) (rd_cp (by decide) (rd_cp (by decide) rfl))))))))) ?_
  refine rp_X9_9 dX9_copyFrom_139 lf_X9_48 (sk_33 _) ?_
  refine g_aload_n dX9_copyFrom_142 rfl rfl ?_
  refine g_aload_n dX9_copyFrom_143 rfl rfl ?_
  refine rg_X9_10 (v := (I 106 10)) dX9_copyFrom_144 lf_X9_52 (sk_106 _) (rd_ne (by decide) (rd_cp (by decide) (rd_cp (by decide) (rd_cp (by decide) (rd_cp (by decide) (rd_cp (by decide) (rd_cp (by decide) (rd_cp (by decide) (rd_cp (by decide) (rd_cp (by decide) rfl)))))))))) ?_
  refine rp_X9_10 dX9_copyFrom_147 lf_X9_52 (sk_33 _) ?_
  exact g_vret rfl dX9_copyFrom_150 rfl (Nat.le_refl _) (q1)
