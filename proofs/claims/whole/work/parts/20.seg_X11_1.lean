set_option maxRecDepth 10000 in
set_option maxHeartbeats 1000000 in
theorem sn_X11_bridges {l : Launch} {d : Nat} {Q : Option Value → mx_H → Prop} {c : Nat} {I : mx_I} (a1 : Int32)
    (q1 : (a1 < 1) → Q (some (.int 0)) (sk0 c, I))
    (k2 : (¬ a1 < 1) → (a1 ≤ 3) → mx_K1 l mX10_clear d [.ref 1, .int a1] (sk0 c, I) (fun r h' => mx_Go l (mx_rm (d + 1) 0 0) mX11_bridges (mx_Z Q 0 0) 0 0 20 [.ref 0, .int a1] (r.toList ++ []) h'))
    (q3 : (¬ a1 < 1) → (¬ a1 ≤ 3) → Q (some (.int 0)) (sk0 c, I)) :
    mx_Spec l mX11_bridges (d + 1) 0 0 [.ref 0, .int a1] (sk0 c, I) Q := by
  refine mx_enter rfl (by simp [Value.category]) (Nat.le_of_ble_eq_true rfl) ?_
  change mx_Go l (mx_rm (d + 1) 0 0) mX11_bridges (mx_Z Q 0 0) 0 0 0 [.ref 0, .int a1] [] (sk0 c, I)
  refine g_iload_n dX11_bridges_0 rfl rfl ?_
  refine g_iconst (v := 1) dX11_bridges_1 (by decide) ?_
  refine g_icmp_lt (tgt := 10) dX11_bridges_2 (by decide) (fun c1 => ?_) (fun c2 => ?_)
  · skip
    refine g_iconst (v := 0) dX11_bridges_10 (by decide) ?_
    exact g_zret (ty := .boolean) rfl rfl dX11_bridges_11 rfl (Nat.le_refl _) (q1 c1)
  · skip
    refine g_iload_n dX11_bridges_5 rfl rfl ?_
    refine g_iconst (v := 3) dX11_bridges_6 (by decide) ?_
    refine g_icmp_le (tgt := 12) dX11_bridges_7 (by decide) (fun c3 => ?_) (fun c4 => ?_)
    · skip
      refine g_aload_n dX11_bridges_12 rfl rfl ?_
      refine rg_X11_0 (r := 1) dX11_bridges_13 lf_X11_12 (sk_0 _) rfl ?_
      refine g_iload_n dX11_bridges_16 rfl rfl ?_
      exact s_callV (M' := mX10_clear) (As := [.int a1]) (st := []) dX11_bridges_17 lm_X11_62 ovX10_clear (h := (sk0 c, I)) (sk_1 _) (show vwCl[10]? = some _ from rfl) rfl (by simp [Value.category]) (by decide) rfl (k2 c2 c3)
    · skip
      refine g_iconst (v := 0) dX11_bridges_10 (by decide) ?_
      exact g_zret (ty := .boolean) rfl rfl dX11_bridges_11 rfl (Nat.le_refl _) (q3 c2 c4)
set_option maxRecDepth 10000 in
set_option maxHeartbeats 1000000 in
theorem sg_X11_bridges_20 {l : Launch} {d : Nat} {Q : Option Value → mx_H → Prop} {c : Nat} {I : mx_I} (x1 : Int32)
    (k1 : mx_K1 l mX9_clear d [.ref 33] (sk0 c, I) (fun r h' => mx_Go l (mx_rm (d + 1) 0 0) mX11_bridges (mx_Z Q 0 0) 0 0 27 [.ref 0, .int x1] (r.toList ++ []) h')) :
    mx_Go l (mx_rm (d + 1) 0 0) mX11_bridges (mx_Z Q 0 0) 0 0 20 [.ref 0, .int x1] [] (sk0 c, I) := by
  refine g_aload_n dX11_bridges_20 rfl rfl ?_
  refine rg_X11_1 (r := 33) dX11_bridges_21 lf_X11_19 (sk_0 _) rfl ?_
  exact s_callV (M' := mX9_clear) (As := []) (st := []) dX11_bridges_24 lm_X11_66 ovX9_clear (h := (sk0 c, I)) (sk_33 _) (show vwCl[9]? = some _ from rfl) rfl (by simp [Value.category]) (by decide) rfl (k1)
set_option maxRecDepth 10000 in
set_option maxHeartbeats 1000000 in
theorem sg_X11_bridges_27 {l : Launch} {d : Nat} {Q : Option Value → mx_H → Prop} {c : Nat} {I : mx_I} (x1 : Int32)
    (q1 : Q (some (.int 1)) (sk0 c, (mx_set I 43 3 0))) :
    mx_Go l (mx_rm (d + 1) 0 0) mX11_bridges (mx_Z Q 0 0) 0 0 27 [.ref 0, .int x1] [] (sk0 c, I) := by
  refine g_aload_n dX11_bridges_27 rfl rfl ?_
  refine rg_X11_2 (r := 43) dX11_bridges_28 lf_X11_26 (sk_0 _) rfl ?_
  refine g_iconst (v := 0) dX11_bridges_31 (by decide) ?_
  refine rp_X0_3 dX11_bridges_32 lf_X11_68 (sk_43 _) ?_
  refine g_iconst (v := 1) dX11_bridges_35 (by decide) ?_
  exact g_zret (ty := .boolean) rfl rfl dX11_bridges_36 rfl (Nat.le_refl _) (q1)
set_option maxRecDepth 10000 in
set_option maxHeartbeats 1000000 in
theorem sn_X11_load {l : Launch} {d : Nat} {Q : Option Value → mx_H → Prop} {c : Nat} {I : mx_I} (a1 : Int32) (a2 : Int32) (a3 : Int32)
    (q1 : (a1 < 1) → Q (some (.int (-1))) (sk0 c, I))
    (q2 : (¬ a1 < 1) → (99 < a1) → Q (some (.int (-1))) (sk0 c, I))
    (k3 : (¬ a1 < 1) → (¬ 99 < a1) → mx_K1 l mX10_hasEnd d [.ref 1, .int a2] (sk0 c, I) (fun r h' => mx_Go l (mx_rm (d + 1) 0 0) mX11_load (mx_Z Q 0 0) 0 0 19 [.ref 0, .int a1, .int a2, .int a3] (r.toList ++ []) h')) :
    mx_Spec l mX11_load (d + 1) 0 0 [.ref 0, .int a1, .int a2, .int a3] (sk0 c, I) Q := by
  refine mx_enter rfl (by simp [Value.category]) (Nat.le_of_ble_eq_true rfl) ?_
  change mx_Go l (mx_rm (d + 1) 0 0) mX11_load (mx_Z Q 0 0) 0 0 0 [.ref 0, .int a1, .int a2, .int a3] [] (sk0 c, I)
  refine g_iload_n dX11_load_0 rfl rfl ?_
  refine g_iconst (v := 1) dX11_load_1 (by decide) ?_
  refine g_icmp_lt (tgt := 30) dX11_load_2 (by decide) (fun c1 => ?_) (fun c2 => ?_)
  · skip
    refine g_iconst (v := (-1)) dX11_load_30 (by decide) ?_
    exact g_iret rfl dX11_load_31 rfl (Nat.le_refl _) (q1 c1)
  · skip
    refine g_iload_n dX11_load_5 rfl rfl ?_
    refine g_bipush (v := 99) dX11_load_6 (by decide) ?_
    refine g_icmp_gt (tgt := 30) dX11_load_8 (by decide) (fun c3 => ?_) (fun c4 => ?_)
    · skip
      refine g_iconst (v := (-1)) dX11_load_30 (by decide) ?_
      exact g_iret rfl dX11_load_31 rfl (Nat.le_refl _) (q2 c2 c3)
    · skip
      refine g_aload_n dX11_load_11 rfl rfl ?_
      refine rg_X11_0 (r := 1) dX11_load_12 lf_X11_12 (sk_0 _) rfl ?_
      refine g_iload_n dX11_load_15 rfl rfl ?_
      exact s_callV (M' := mX10_hasEnd) (As := [.int a2]) (st := []) dX11_load_16 lm_X11_72 ovX10_hasEnd (h := (sk0 c, I)) (sk_1 _) (show vwCl[10]? = some _ from rfl) rfl (by simp [Value.category]) (by decide) rfl (k3 c2 c4)
set_option maxRecDepth 10000 in
set_option maxHeartbeats 1000000 in
theorem sg_X11_load_19 {l : Launch} {d : Nat} {Q : Option Value → mx_H → Prop} {c : Nat} {I : mx_I} (x1 : Int32) (x2 : Int32) (x3 : Int32) (x4 : Int32)
    (q1 : (x4 = 0) → Q (some (.int (-1))) (sk0 c, I))
    (k2 : (¬ x4 = 0) → mx_K1 l mX11_isAhead d [.ref 0, .int x3] (sk0 c, I) (fun r h' => mx_Go l (mx_rm (d + 1) 0 0) mX11_load (mx_Z Q 0 0) 0 0 27 [.ref 0, .int x1, .int x2, .int x3] (r.toList ++ []) h')) :
    mx_Go l (mx_rm (d + 1) 0 0) mX11_load (mx_Z Q 0 0) 0 0 19 [.ref 0, .int x1, .int x2, .int x3] [.int x4] (sk0 c, I) := by
  refine g_if_eq (tgt := 30) dX11_load_19 (by decide) (fun c1 => ?_) (fun c2 => ?_)
  · skip
    refine g_iconst (v := (-1)) dX11_load_30 (by decide) ?_
    exact g_iret rfl dX11_load_31 rfl (Nat.le_refl _) (q1 c1)
  · skip
    refine g_aload_n dX11_load_22 rfl rfl ?_
    refine g_iload_n dX11_load_23 rfl rfl ?_
    exact s_callV (M' := mX11_isAhead) (As := [.int x3]) (st := []) dX11_load_24 lm_X11_76 ovX11_isAhead (h := (sk0 c, I)) (sk_0 _) (show vwCl[11]? = some _ from rfl) rfl (by simp [Value.category]) (by decide) rfl (k2 c2)
set_option maxRecDepth 10000 in
set_option maxHeartbeats 1000000 in
theorem sg_X11_load_27 {l : Launch} {d : Nat} {Q : Option Value → mx_H → Prop} {c : Nat} {I : mx_I} (x1 : Int32) (x2 : Int32) (x3 : Int32) (x4 : Int32)
    (k1 : (¬ x4 = 0) → mx_K1 l mX5_add d [.ref 2, .int x1, .int x2, .int x3] (sk0 c, I) (fun r h' => mx_Go l (mx_rm (d + 1) 0 0) mX11_load (mx_Z Q 0 0) 0 0 45 [.ref 0, .int x1, .int x2, .int x3] (r.toList ++ []) h'))
    (q2 : (x4 = 0) → Q (some (.int (-1))) (sk0 c, I)) :
    mx_Go l (mx_rm (d + 1) 0 0) mX11_load (mx_Z Q 0 0) 0 0 27 [.ref 0, .int x1, .int x2, .int x3] [.int x4] (sk0 c, I) := by
  refine g_if_ne (tgt := 32) dX11_load_27 (by decide) (fun c1 => ?_) (fun c2 => ?_)
  · skip
    refine g_aload_n dX11_load_32 rfl rfl ?_
    refine rg_X11_0 (r := 1) dX11_load_33 lf_X11_12 (sk_0 _) rfl ?_
    refine rg_X10_0 (r := 2) dX11_load_36 lf_X11_79 (sk_1 _) rfl ?_
    refine g_iload_n dX11_load_39 rfl rfl ?_
    refine g_iload_n dX11_load_40 rfl rfl ?_
    refine g_iload_n dX11_load_41 rfl rfl ?_
    exact s_callV (M' := mX5_add) (As := [.int x1, .int x2, .int x3]) (st := []) dX11_load_42 lm_X11_83 ovX5_add (h := (sk0 c, I)) (sk_2 _) (show vwCl[5]? = some _ from rfl) rfl (by simp [Value.category]) (by decide) rfl (k1 c1)
  · skip
    refine g_iconst (v := (-1)) dX11_load_30 (by decide) ?_
    exact g_iret rfl dX11_load_31 rfl (Nat.le_refl _) (q2 c2)
set_option maxRecDepth 10000 in
set_option maxHeartbeats 1000000 in
theorem sg_X11_load_45 {l : Launch} {d : Nat} {Q : Option Value → mx_H → Prop} {c : Nat} {I : mx_I} (x1 : Int32) (x2 : Int32) (x3 : Int32) (x4 : Int32)
    (q1 : Q (some (.int x4)) (sk0 c, I)) :
    mx_Go l (mx_rm (d + 1) 0 0) mX11_load (mx_Z Q 0 0) 0 0 45 [.ref 0, .int x1, .int x2, .int x3] [.int x4] (sk0 c, I) := by
  exact g_iret rfl dX11_load_45 rfl (Nat.le_refl _) (q1)
set_option maxRecDepth 10000 in
set_option maxHeartbeats 1000000 in
theorem sn_X11_fetch {l : Launch} {d : Nat} {Q : Option Value → mx_H → Prop} {c : Nat} {I : mx_I} (a1 : Int32) (a2 : Int32) (a3 : Int32)
    (k1 : mx_K1 l mX5_has d [.ref 2, .int a1] (sk0 c, I) (fun r h' => mx_Go l (mx_rm (d + 1) 0 0) mX11_fetch (mx_Z Q 0 0) 0 0 11 [.ref 0, .int a1, .int a2, .int a3] (r.toList ++ []) h')) :
    mx_Spec l mX11_fetch (d + 1) 0 0 [.ref 0, .int a1, .int a2, .int a3] (sk0 c, I) Q := by
  refine mx_enter rfl (by simp [Value.category]) (Nat.le_of_ble_eq_true rfl) ?_
  change mx_Go l (mx_rm (d + 1) 0 0) mX11_fetch (mx_Z Q 0 0) 0 0 0 [.ref 0, .int a1, .int a2, .int a3] [] (sk0 c, I)
  refine g_aload_n dX11_fetch_0 rfl rfl ?_
  refine rg_X11_0 (r := 1) dX11_fetch_1 lf_X11_12 (sk_0 _) rfl ?_
  refine rg_X10_0 (r := 2) dX11_fetch_4 lf_X11_79 (sk_1 _) rfl ?_
  refine g_iload_n dX11_fetch_7 rfl rfl ?_
  exact s_callV (M' := mX5_has) (As := [.int a1]) (st := []) dX11_fetch_8 lm_X11_89 ovX5_has (h := (sk0 c, I)) (sk_2 _) (show vwCl[5]? = some _ from rfl) rfl (by simp [Value.category]) (by decide) rfl (k1)
set_option maxRecDepth 10000 in
set_option maxHeartbeats 1000000 in
theorem sg_X11_fetch_11 {l : Launch} {d : Nat} {Q : Option Value → mx_H → Prop} {c : Nat} {I : mx_I} (x1 : Int32) (x2 : Int32) (x3 : Int32) (x4 : Int32)
    (k1 : (¬ x4 = 0) → (¬ x2 = (-1)) → mx_K1 l mX10_hasEnd d [.ref 1, .int x2] (sk0 c, I) (fun r h' => mx_Go l (mx_rm (d + 1) 0 0) mX11_fetch (mx_Z Q 0 0) 0 0 44 [.ref 0, .int x1, .int x2, .int x3] (r.toList ++ []) h'))
    (b2 : (¬ x4 = 0) → (x2 = (-1)) → vp_in x1 30)
    (q3 : (¬ x4 = 0) → (x2 = (-1)) → Q (some (.int 1)) (sk0 c, (mx_set I 6 x1.toNatClampNeg (-1))))
    (q4 : (x4 = 0) → Q (some (.int 0)) (sk0 c, I)) :
    mx_Go l (mx_rm (d + 1) 0 0) mX11_fetch (mx_Z Q 0 0) 0 0 11 [.ref 0, .int x1, .int x2, .int x3] [.int x4] (sk0 c, I) := by
  refine g_if_ne (tgt := 16) dX11_fetch_11 (by decide) (fun c1 => ?_) (fun c2 => ?_)
  · skip
    refine g_iload_n dX11_fetch_16 rfl rfl ?_
    refine g_iconst (v := (-1)) dX11_fetch_17 (by decide) ?_
    refine g_icmp_ne (tgt := 36) dX11_fetch_18 (by decide) (fun c3 => ?_) (fun c4 => ?_)
    · skip
      refine g_aload_n dX11_fetch_36 rfl rfl ?_
      refine rg_X11_0 (r := 1) dX11_fetch_37 lf_X11_12 (sk_0 _) rfl ?_
      refine g_iload_n dX11_fetch_40 rfl rfl ?_
      exact s_callV (M' := mX10_hasEnd) (As := [.int x2]) (st := []) dX11_fetch_41 lm_X11_72 ovX10_hasEnd (h := (sk0 c, I)) (sk_1 _) (show vwCl[10]? = some _ from rfl) rfl (by simp [Value.category]) (by decide) rfl (k1 c1 c3)
    · skip
      refine g_aload_n dX11_fetch_21 rfl rfl ?_
      refine rg_X11_0 (r := 1) dX11_fetch_22 lf_X11_12 (sk_0 _) rfl ?_
      refine rg_X10_0 (r := 2) dX11_fetch_25 lf_X11_79 (sk_1 _) rfl ?_
      refine rg_X5_3 (r := 6) dX11_fetch_28 lf_X11_92 (sk_2 _) rfl ?_
      refine g_iload_n dX11_fetch_31 rfl rfl ?_
      refine g_iconst (v := (-1)) dX11_fetch_32 (by decide) ?_
      refine s_iast (j := x1.toNatClampNeg) dX11_fetch_33 (sk_6 _) (b2 c1 c4) rfl ?_
      refine g_iconst (v := 1) dX11_fetch_34 (by decide) ?_
      exact g_zret (ty := .boolean) rfl rfl dX11_fetch_35 rfl (Nat.le_refl _) (q3 c1 c4)
  · skip
    refine g_iconst (v := 0) dX11_fetch_14 (by decide) ?_
    exact g_zret (ty := .boolean) rfl rfl dX11_fetch_15 rfl (Nat.le_refl _) (q4 c2)
set_option maxRecDepth 10000 in
set_option maxHeartbeats 1000000 in
theorem sg_X11_fetch_44 {l : Launch} {d : Nat} {Q : Option Value → mx_H → Prop} {c : Nat} {I : mx_I} (x1 : Int32) (x2 : Int32) (x3 : Int32) (x4 : Int32)
    (q1 : (x4 = 0) → Q (some (.int 0)) (sk0 c, I))
    (k2 : (¬ x4 = 0) → mx_K1 l mX11_isAhead d [.ref 0, .int x3] (sk0 c, I) (fun r h' => mx_Go l (mx_rm (d + 1) 0 0) mX11_fetch (mx_Z Q 0 0) 0 0 52 [.ref 0, .int x1, .int x2, .int x3] (r.toList ++ []) h')) :
    mx_Go l (mx_rm (d + 1) 0 0) mX11_fetch (mx_Z Q 0 0) 0 0 44 [.ref 0, .int x1, .int x2, .int x3] [.int x4] (sk0 c, I) := by
  refine g_if_eq (tgt := 55) dX11_fetch_44 (by decide) (fun c1 => ?_) (fun c2 => ?_)
  · skip
    refine g_iconst (v := 0) dX11_fetch_55 (by decide) ?_
    exact g_zret (ty := .boolean) rfl rfl dX11_fetch_56 rfl (Nat.le_refl _) (q1 c1)
  · skip
    refine g_aload_n dX11_fetch_47 rfl rfl ?_
    refine g_iload_n dX11_fetch_48 rfl rfl ?_
    exact s_callV (M' := mX11_isAhead) (As := [.int x3]) (st := []) dX11_fetch_49 lm_X11_76 ovX11_isAhead (h := (sk0 c, I)) (sk_0 _) (show vwCl[11]? = some _ from rfl) rfl (by simp [Value.category]) (by decide) rfl (k2 c2)
set_option maxRecDepth 10000 in
set_option maxHeartbeats 1000000 in
theorem sg_X11_fetch_52 {l : Launch} {d : Nat} {Q : Option Value → mx_H → Prop} {c : Nat} {I : mx_I} (x1 : Int32) (x2 : Int32) (x3 : Int32) (x4 : Int32)
    (b1 : (¬ x4 = 0) → vp_in x1 30)
    (b2 : (¬ x4 = 0) → vp_in x1 30)
    (q3 : (¬ x4 = 0) → Q (some (.int 1)) (sk0 c, (mx_set (mx_set I 6 x1.toNatClampNeg x2) 7 x1.toNatClampNeg x3)))
    (q4 : (x4 = 0) → Q (some (.int 0)) (sk0 c, I)) :
    mx_Go l (mx_rm (d + 1) 0 0) mX11_fetch (mx_Z Q 0 0) 0 0 52 [.ref 0, .int x1, .int x2, .int x3] [.int x4] (sk0 c, I) := by
  refine g_if_ne (tgt := 57) dX11_fetch_52 (by decide) (fun c1 => ?_) (fun c2 => ?_)
  · skip
    refine g_aload_n dX11_fetch_57 rfl rfl ?_
    refine rg_X11_0 (r := 1) dX11_fetch_58 lf_X11_12 (sk_0 _) rfl ?_
    refine rg_X10_0 (r := 2) dX11_fetch_61 lf_X11_79 (sk_1 _) rfl ?_
    refine rg_X5_3 (r := 6) dX11_fetch_64 lf_X11_92 (sk_2 _) rfl ?_
    refine g_iload_n dX11_fetch_67 rfl rfl ?_
    refine g_iload_n dX11_fetch_68 rfl rfl ?_
    refine s_iast (j := x1.toNatClampNeg) dX11_fetch_69 (sk_6 _) (b1 c1) rfl ?_
    refine g_aload_n dX11_fetch_70 rfl rfl ?_
    refine rg_X11_0 (r := 1) dX11_fetch_71 lf_X11_12 (sk_0 _) rfl ?_
    refine rg_X10_0 (r := 2) dX11_fetch_74 lf_X11_79 (sk_1 _) rfl ?_
    refine rg_X5_4 (r := 7) dX11_fetch_77 lf_X11_96 (sk_2 _) rfl ?_
    refine g_iload_n dX11_fetch_80 rfl rfl ?_
    refine g_iload_n dX11_fetch_81 rfl rfl ?_
    refine s_iast (j := x1.toNatClampNeg) dX11_fetch_82 (sk_7 _) (b2 c1) rfl ?_
    refine g_iconst (v := 1) dX11_fetch_83 (by decide) ?_
    exact g_zret (ty := .boolean) rfl rfl dX11_fetch_84 rfl (Nat.le_refl _) (q3 c1)
  · skip
    refine g_iconst (v := 0) dX11_fetch_55 (by decide) ?_
    exact g_zret (ty := .boolean) rfl rfl dX11_fetch_56 rfl (Nat.le_refl _) (q4 c2)
set_option maxRecDepth 10000 in
set_option maxHeartbeats 1000000 in
theorem sn_X11_crosser {l : Launch} {d : Nat} {Q : Option Value → mx_H → Prop} {c : Nat} {I : mx_I} (a1 : Int32) (a2 : Int32) (a3 : Int32) (a4 : Int32) (a5 : Int32) (a6 : Int32)
    (k1 : mx_K1 l mX11_isAhead d [.ref 0, .int a1] (sk0 c, I) (fun r h' => mx_Go l (mx_rm (d + 1) 0 0) mX11_crosser (mx_Z Q 0 0) 0 0 5 [.ref 0, .int a1, .int a2, .int a3, .int a4, .int a5, .int a6] (r.toList ++ []) h')) :
    mx_Spec l mX11_crosser (d + 1) 0 0 [.ref 0, .int a1, .int a2, .int a3, .int a4, .int a5, .int a6] (sk0 c, I) Q := by
  refine mx_enter rfl (by simp [Value.category]) (Nat.le_of_ble_eq_true rfl) ?_
  change mx_Go l (mx_rm (d + 1) 0 0) mX11_crosser (mx_Z Q 0 0) 0 0 0 [.ref 0, .int a1, .int a2, .int a3, .int a4, .int a5, .int a6] [] (sk0 c, I)
  refine g_aload_n dX11_crosser_0 rfl rfl ?_
  refine g_iload_n dX11_crosser_1 rfl rfl ?_
  exact s_callV (M' := mX11_isAhead) (As := [.int a1]) (st := []) dX11_crosser_2 lm_X11_76 ovX11_isAhead (h := (sk0 c, I)) (sk_0 _) (show vwCl[11]? = some _ from rfl) rfl (by simp [Value.category]) (by decide) rfl (k1)
set_option maxRecDepth 10000 in
set_option maxHeartbeats 1000000 in
theorem sg_X11_crosser_5 {l : Launch} {d : Nat} {Q : Option Value → mx_H → Prop} {c : Nat} {I : mx_I} (x1 : Int32) (x2 : Int32) (x3 : Int32) (x4 : Int32) (x5 : Int32) (x6 : Int32) (x7 : Int32)
    (q1 : (x7 = 0) → Q (some (.int (-1))) (sk0 c, I))
    (k2 : (¬ x7 = 0) → mx_K1 l mX11_isWalk d [.ref 0, .int x2, .int x3, .int x4] (sk0 c, I) (fun r h' => mx_Go l (mx_rm (d + 1) 0 0) mX11_crosser (mx_Z Q 0 0) 0 0 16 [.ref 0, .int x1, .int x2, .int x3, .int x4, .int x5, .int x6] (r.toList ++ []) h')) :
    mx_Go l (mx_rm (d + 1) 0 0) mX11_crosser (mx_Z Q 0 0) 0 0 5 [.ref 0, .int x1, .int x2, .int x3, .int x4, .int x5, .int x6] [.int x7] (sk0 c, I) := by
  refine g_if_eq (tgt := 19) dX11_crosser_5 (by decide) (fun c1 => ?_) (fun c2 => ?_)
  · skip
    refine g_iconst (v := (-1)) dX11_crosser_19 (by decide) ?_
    exact g_iret rfl dX11_crosser_20 rfl (Nat.le_refl _) (q1 c1)
  · skip
    refine g_aload_n dX11_crosser_8 rfl rfl ?_
    refine g_iload_n dX11_crosser_9 rfl rfl ?_
    refine g_iload_n dX11_crosser_10 rfl rfl ?_
    refine g_iload dX11_crosser_11 rfl ?_
    exact s_callV (M' := mX11_isWalk) (As := [.int x2, .int x3, .int x4]) (st := []) dX11_crosser_13 lm_X11_99 ovX11_isWalk (h := (sk0 c, I)) (sk_0 _) (show vwCl[11]? = some _ from rfl) rfl (by simp [Value.category]) (by decide) rfl (k2 c2)
set_option maxRecDepth 10000 in
set_option maxHeartbeats 1000000 in
theorem sg_X11_crosser_16 {l : Launch} {d : Nat} {Q : Option Value → mx_H → Prop} {c : Nat} {I : mx_I} (x1 : Int32) (x2 : Int32) (x3 : Int32) (x4 : Int32) (x5 : Int32) (x6 : Int32) (x7 : Int32)
    (q1 : (¬ x7 = 0) → (x5 < 0) → Q (some (.int (-1))) (sk0 c, I))
    (q2 : (¬ x7 = 0) → (¬ x5 < 0) → (x4 < x5) → Q (some (.int (-1))) (sk0 c, I))
    (q3 : (¬ x7 = 0) → (¬ x5 < 0) → (¬ x4 < x5) → (x6 < 0) → Q (some (.int (-1))) (sk0 c, I))
    (k4 : (¬ x7 = 0) → (¬ x5 < 0) → (¬ x4 < x5) → (¬ x6 < 0) → (x6 ≤ 9) → mx_K1 l mX2_add d [.ref 8, .int x1, .int x2, .int x3, .int x4, .int x5, .int x6] (sk0 c, I) (fun r h' => mx_Go l (mx_rm (d + 1) 0 0) mX11_crosser (mx_Z Q 0 0) 0 0 66 [.ref 0, .int x1, .int x2, .int x3, .int x4, .int x5, .int x6] (r.toList ++ []) h'))
    (q5 : (¬ x7 = 0) → (¬ x5 < 0) → (¬ x4 < x5) → (¬ x6 < 0) → (¬ x6 ≤ 9) → Q (some (.int (-1))) (sk0 c, I))
    (q6 : (x7 = 0) → Q (some (.int (-1))) (sk0 c, I)) :
    mx_Go l (mx_rm (d + 1) 0 0) mX11_crosser (mx_Z Q 0 0) 0 0 16 [.ref 0, .int x1, .int x2, .int x3, .int x4, .int x5, .int x6] [.int x7] (sk0 c, I) := by
  refine g_if_ne (tgt := 21) dX11_crosser_16 (by decide) (fun c1 => ?_) (fun c2 => ?_)
  · skip
    refine g_iload dX11_crosser_21 rfl ?_
    refine g_if_lt (tgt := 45) dX11_crosser_23 (by decide) (fun c3 => ?_) (fun c4 => ?_)
    · skip
      refine g_iconst (v := (-1)) dX11_crosser_45 (by decide) ?_
      exact g_iret rfl dX11_crosser_46 rfl (Nat.le_refl _) (q1 c1 c3)
    · skip
      refine g_iload dX11_crosser_26 rfl ?_
      refine g_iload dX11_crosser_28 rfl ?_
      refine g_icmp_gt (tgt := 45) dX11_crosser_30 (by decide) (fun c5 => ?_) (fun c6 => ?_)
      · skip
        refine g_iconst (v := (-1)) dX11_crosser_45 (by decide) ?_
        exact g_iret rfl dX11_crosser_46 rfl (Nat.le_refl _) (q2 c1 c4 c5)
      · skip
        refine g_iload dX11_crosser_33 rfl ?_
        refine g_if_lt (tgt := 45) dX11_crosser_35 (by decide) (fun c7 => ?_) (fun c8 => ?_)
        · skip
          refine g_iconst (v := (-1)) dX11_crosser_45 (by decide) ?_
          exact g_iret rfl dX11_crosser_46 rfl (Nat.le_refl _) (q3 c1 c4 c6 c7)
        · skip
          refine g_iload dX11_crosser_38 rfl ?_
          refine g_bipush (v := 9) dX11_crosser_40 (by decide) ?_
          refine g_icmp_le (tgt := 47) dX11_crosser_42 (by decide) (fun c9 => ?_) (fun c10 => ?_)
          · skip
            refine g_aload_n dX11_crosser_47 rfl rfl ?_
            refine rg_X11_0 (r := 1) dX11_crosser_48 lf_X11_12 (sk_0 _) rfl ?_
            refine rg_X10_1 (r := 8) dX11_crosser_51 lf_X11_103 (sk_1 _) rfl ?_
            refine g_iload_n dX11_crosser_54 rfl rfl ?_
            refine g_iload_n dX11_crosser_55 rfl rfl ?_
            refine g_iload_n dX11_crosser_56 rfl rfl ?_
            refine g_iload dX11_crosser_57 rfl ?_
            refine g_iload dX11_crosser_59 rfl ?_
            refine g_iload dX11_crosser_61 rfl ?_
            exact s_callV (M' := mX2_add) (As := [.int x1, .int x2, .int x3, .int x4, .int x5, .int x6]) (st := []) dX11_crosser_63 lm_X11_107 ovX2_add (h := (sk0 c, I)) (sk_8 _) (show vwCl[2]? = some _ from rfl) rfl (by simp [Value.category]) (by decide) rfl (k4 c1 c4 c6 c8 c9)
          · skip
            refine g_iconst (v := (-1)) dX11_crosser_45 (by decide) ?_
            exact g_iret rfl dX11_crosser_46 rfl (Nat.le_refl _) (q5 c1 c4 c6 c8 c10)
  · skip
    refine g_iconst (v := (-1)) dX11_crosser_19 (by decide) ?_
    exact g_iret rfl dX11_crosser_20 rfl (Nat.le_refl _) (q6 c2)
set_option maxRecDepth 10000 in
set_option maxHeartbeats 1000000 in
theorem sg_X11_crosser_66 {l : Launch} {d : Nat} {Q : Option Value → mx_H → Prop} {c : Nat} {I : mx_I} (x1 : Int32) (x2 : Int32) (x3 : Int32) (x4 : Int32) (x5 : Int32) (x6 : Int32) (x7 : Int32)
    (q1 : Q (some (.int x7)) (sk0 c, I)) :
    mx_Go l (mx_rm (d + 1) 0 0) mX11_crosser (mx_Z Q 0 0) 0 0 66 [.ref 0, .int x1, .int x2, .int x3, .int x4, .int x5, .int x6] [.int x7] (sk0 c, I) := by
  exact g_iret rfl dX11_crosser_66 rfl (Nat.le_refl _) (q1)
set_option maxRecDepth 10000 in
set_option maxHeartbeats 1000000 in
theorem sn_X11_kind {l : Launch} {d : Nat} {Q : Option Value → mx_H → Prop} {c : Nat} {I : mx_I} (a1 : Int32) (a2 : Int32) (a3 : Int32)
    (k1 : mx_K1 l mX2_has d [.ref 8, .int a1] (sk0 c, I) (fun r h' => mx_Go l (mx_rm (d + 1) 0 0) mX11_kind (mx_Z Q 0 0) 0 0 15 [.ref 0, .int a1, .int a2, .int a3, .ref 8, .retAddr 0] (r.toList ++ []) h')) :
    mx_Spec l mX11_kind (d + 1) 0 0 [.ref 0, .int a1, .int a2, .int a3] (sk0 c, I) Q := by
  refine mx_enter rfl (by simp [Value.category]) (Nat.le_of_ble_eq_true rfl) ?_
  change mx_Go l (mx_rm (d + 1) 0 0) mX11_kind (mx_Z Q 0 0) 0 0 0 [.ref 0, .int a1, .int a2, .int a3, .retAddr 0, .retAddr 0] [] (sk0 c, I)
  refine g_aload_n dX11_kind_0 rfl rfl ?_
  refine rg_X11_0 (r := 1) dX11_kind_1 lf_X11_12 (sk_0 _) rfl ?_
  refine rg_X10_1 (r := 8) dX11_kind_4 lf_X11_103 (sk_1 _) rfl ?_
  refine s_astore (L' := [.ref 0, .int a1, .int a2, .int a3, .ref 8, .retAddr 0]) dX11_kind_7 (by decide) rfl rfl ?_
  refine g_aload dX11_kind_9 rfl ?_
  refine g_iload_n dX11_kind_11 rfl rfl ?_
  exact s_callV (M' := mX2_has) (As := [.int a1]) (st := []) dX11_kind_12 lm_X11_112 ovX2_has (h := (sk0 c, I)) (sk_8 _) (show vwCl[2]? = some _ from rfl) rfl (by simp [Value.category]) (by decide) rfl (k1)
set_option maxRecDepth 10000 in
set_option maxHeartbeats 1000000 in
theorem sg_X11_kind_15 {l : Launch} {d : Nat} {Q : Option Value → mx_H → Prop} {c : Nat} {I : mx_I} (x1 : Int32) (x2 : Int32) (x3 : Int32) (x4 : Int32)
    (q1 : (x4 = 0) → Q (some (.int 0)) (sk0 c, I))
    (b2 : (¬ x4 = 0) → vp_in x1 20)
    (q3 : (¬ x4 = 0) → ((I 40 x1.toNatClampNeg) = (-1)) → (¬ x2 = 0) → (¬ x2 = 1) → (¬ x2 = 2) → Q (some (.int 0)) (sk0 c, I))
    (k4 : (¬ x4 = 0) → ((I 40 x1.toNatClampNeg) = (-1)) → (¬ x2 = 0) → (¬ x2 = 1) → (x2 = 2) → mx_K1 l mX2_canFollow d [.ref 8, .int x1, .int x3] (sk0 c, I) (fun r h' => mx_Go l (mx_rm (d + 1) 0 0) mX11_kind (mx_Z Q 0 0) 0 0 74 [.ref 0, .int x1, .int x2, .int x3, .ref 8, .retAddr 0] (r.toList ++ []) h'))
    (q5 : (¬ x4 = 0) → ((I 40 x1.toNatClampNeg) = (-1)) → (¬ x2 = 0) → (x2 = 1) → (x3 < 0) → (¬ x2 = 2) → Q (some (.int 0)) (sk0 c, I))
    (k6 : (¬ x4 = 0) → ((I 40 x1.toNatClampNeg) = (-1)) → (¬ x2 = 0) → (x2 = 1) → (x3 < 0) → (x2 = 2) → mx_K1 l mX2_canFollow d [.ref 8, .int x1, .int x3] (sk0 c, I) (fun r h' => mx_Go l (mx_rm (d + 1) 0 0) mX11_kind (mx_Z Q 0 0) 0 0 74 [.ref 0, .int x1, .int x2, .int x3, .ref 8, .retAddr 0] (r.toList ++ []) h'))
    (k7 : (¬ x4 = 0) → ((I 40 x1.toNatClampNeg) = (-1)) → (¬ x2 = 0) → (x2 = 1) → (¬ x3 < 0) → (x3 ≤ 24) → mx_K1 l mX2_tellKind d [.ref 8, .int x1, .int x2, .int x3] (sk0 c, I) (fun r h' => mx_Go l (mx_rm (d + 1) 0 0) mX11_kind (mx_Z Q 0 0) 0 0 97 [.ref 0, .int x1, .int x2, .int x3, .ref 8, .int 1] (r.toList ++ []) h'))
    (q8 : (¬ x4 = 0) → ((I 40 x1.toNatClampNeg) = (-1)) → (¬ x2 = 0) → (x2 = 1) → (¬ x3 < 0) → (¬ x3 ≤ 24) → (¬ x2 = 2) → Q (some (.int 0)) (sk0 c, I))
    (k9 : (¬ x4 = 0) → ((I 40 x1.toNatClampNeg) = (-1)) → (¬ x2 = 0) → (x2 = 1) → (¬ x3 < 0) → (¬ x3 ≤ 24) → (x2 = 2) → mx_K1 l mX2_canFollow d [.ref 8, .int x1, .int x3] (sk0 c, I) (fun r h' => mx_Go l (mx_rm (d + 1) 0 0) mX11_kind (mx_Z Q 0 0) 0 0 74 [.ref 0, .int x1, .int x2, .int x3, .ref 8, .retAddr 0] (r.toList ++ []) h'))
    (k10 : (¬ x4 = 0) → ((I 40 x1.toNatClampNeg) = (-1)) → (x2 = 0) → mx_K1 l mX2_tellKind d [.ref 8, .int x1, .int 0, .int 0] (sk0 c, I) (fun r h' => mx_Go l (mx_rm (d + 1) 0 0) mX11_kind (mx_Z Q 0 0) 0 0 45 [.ref 0, .int x1, .int x2, .int x3, .ref 8, .retAddr 0] (r.toList ++ []) h'))
    (q11 : (¬ x4 = 0) → (¬ (I 40 x1.toNatClampNeg) = (-1)) → Q (some (.int 0)) (sk0 c, I)) :
    mx_Go l (mx_rm (d + 1) 0 0) mX11_kind (mx_Z Q 0 0) 0 0 15 [.ref 0, .int x1, .int x2, .int x3, .ref 8, .retAddr 0] [.int x4] (sk0 c, I) := by
  refine g_if_eq (tgt := 31) dX11_kind_15 (by decide) (fun c1 => ?_) (fun c2 => ?_)
  · skip
    refine g_iconst (v := 0) dX11_kind_31 (by decide) ?_
    exact g_zret (ty := .boolean) rfl rfl dX11_kind_32 rfl (Nat.le_refl _) (q1 c1)
  · skip
    refine g_aload_n dX11_kind_18 rfl rfl ?_
    refine rg_X11_1 (r := 33) dX11_kind_19 lf_X11_19 (sk_0 _) rfl ?_
    refine rg_X9_6 (r := 40) dX11_kind_22 lf_X11_113 (sk_33 _) rfl ?_
    refine g_iload_n dX11_kind_25 rfl rfl ?_
    refine s_iald (j := x1.toNatClampNeg) (v := (I 40 x1.toNatClampNeg)) dX11_kind_26 (sk_40 _) (b2 c2) rfl rfl ?_
    refine g_iconst (v := (-1)) dX11_kind_27 (by decide) ?_
    refine g_icmp_eq (tgt := 33) dX11_kind_28 (by decide) (fun c3 => ?_) (fun c4 => ?_)
    · skip
      refine g_iload_n dX11_kind_33 rfl rfl ?_
      refine g_if_ne (tgt := 47) dX11_kind_34 (by decide) (fun c5 => ?_) (fun c6 => ?_)
      · skip
        refine g_iload_n dX11_kind_47 rfl rfl ?_
        refine g_iconst (v := 1) dX11_kind_48 (by decide) ?_
        refine g_icmp_ne (tgt := 62) dX11_kind_49 (by decide) (fun c7 => ?_) (fun c8 => ?_)
        · skip
          refine g_iload_n dX11_kind_62 rfl rfl ?_
          refine g_iconst (v := 2) dX11_kind_63 (by decide) ?_
          refine g_icmp_ne (tgt := 81) dX11_kind_64 (by decide) (fun c9 => ?_) (fun c10 => ?_)
          · skip
            refine g_iconst (v := 0) dX11_kind_81 (by decide) ?_
            refine s_istore (L' := [.ref 0, .int x1, .int x2, .int x3, .ref 8, .int 0]) dX11_kind_82 (by decide) rfl rfl ?_
            refine g_iload dX11_kind_84 rfl ?_
            refine g_if_eq (tgt := 97) dX11_kind_86 (by decide) (fun _ => ?_) (fun hh => absurd hh (by decide))
            refine g_iload dX11_kind_97 rfl ?_
            exact g_zret (ty := .boolean) rfl rfl dX11_kind_99 rfl (Nat.le_refl _) (q3 c2 c3 c5 c7 c9)
          · skip
            refine g_aload dX11_kind_67 rfl ?_
            refine g_iload_n dX11_kind_69 rfl rfl ?_
            refine g_iload_n dX11_kind_70 rfl rfl ?_
            exact s_callV (M' := mX2_canFollow) (As := [.int x1, .int x3]) (st := []) dX11_kind_71 lm_X11_120 ovX2_canFollow (h := (sk0 c, I)) (sk_8 _) (show vwCl[2]? = some _ from rfl) rfl (by simp [Value.category]) (by decide) rfl (k4 c2 c3 c5 c7 c10)
        · skip
          refine g_iload_n dX11_kind_52 rfl rfl ?_
          refine g_if_lt (tgt := 62) dX11_kind_53 (by decide) (fun c11 => ?_) (fun c12 => ?_)
          · skip
            refine g_iload_n dX11_kind_62 rfl rfl ?_
            refine g_iconst (v := 2) dX11_kind_63 (by decide) ?_
            refine g_icmp_ne (tgt := 81) dX11_kind_64 (by decide) (fun c13 => ?_) (fun c14 => ?_)
            · skip
              refine g_iconst (v := 0) dX11_kind_81 (by decide) ?_
              refine s_istore (L' := [.ref 0, .int x1, .int x2, .int x3, .ref 8, .int 0]) dX11_kind_82 (by decide) rfl rfl ?_
              refine g_iload dX11_kind_84 rfl ?_
              refine g_if_eq (tgt := 97) dX11_kind_86 (by decide) (fun _ => ?_) (fun hh => absurd hh (by decide))
              refine g_iload dX11_kind_97 rfl ?_
              exact g_zret (ty := .boolean) rfl rfl dX11_kind_99 rfl (Nat.le_refl _) (q5 c2 c3 c5 c8 c11 c13)
            · skip
              refine g_aload dX11_kind_67 rfl ?_
              refine g_iload_n dX11_kind_69 rfl rfl ?_
              refine g_iload_n dX11_kind_70 rfl rfl ?_
              exact s_callV (M' := mX2_canFollow) (As := [.int x1, .int x3]) (st := []) dX11_kind_71 lm_X11_120 ovX2_canFollow (h := (sk0 c, I)) (sk_8 _) (show vwCl[2]? = some _ from rfl) rfl (by simp [Value.category]) (by decide) rfl (k6 c2 c3 c5 c8 c11 c14)
          · skip
            refine g_iload_n dX11_kind_56 rfl rfl ?_
            refine g_bipush (v := 24) dX11_kind_57 (by decide) ?_
            refine g_icmp_le (tgt := 77) dX11_kind_59 (by decide) (fun c15 => ?_) (fun c16 => ?_)
            · skip
              refine g_iconst (v := 1) dX11_kind_77 (by decide) ?_
              refine g_goto (tgt := 82) dX11_kind_78 (by decide) ?_
              refine s_istore (L' := [.ref 0, .int x1, .int x2, .int x3, .ref 8, .int 1]) dX11_kind_82 (by decide) rfl rfl ?_
              refine g_iload dX11_kind_84 rfl ?_
              refine g_if_eq (tgt := 97) dX11_kind_86 (by decide) (fun hh => absurd hh (by decide)) (fun _ => ?_)
              refine g_aload dX11_kind_89 rfl ?_
              refine g_iload_n dX11_kind_91 rfl rfl ?_
              refine g_iload_n dX11_kind_92 rfl rfl ?_
              refine g_iload_n dX11_kind_93 rfl rfl ?_
              exact s_callV (M' := mX2_tellKind) (As := [.int x1, .int x2, .int x3]) (st := []) dX11_kind_94 lm_X11_116 ovX2_tellKind (h := (sk0 c, I)) (sk_8 _) (show vwCl[2]? = some _ from rfl) rfl (by simp [Value.category]) (by decide) rfl (k7 c2 c3 c5 c8 c12 c15)
            · skip
              refine g_iload_n dX11_kind_62 rfl rfl ?_
              refine g_iconst (v := 2) dX11_kind_63 (by decide) ?_
              refine g_icmp_ne (tgt := 81) dX11_kind_64 (by decide) (fun c17 => ?_) (fun c18 => ?_)
              · skip
                refine g_iconst (v := 0) dX11_kind_81 (by decide) ?_
                refine s_istore (L' := [.ref 0, .int x1, .int x2, .int x3, .ref 8, .int 0]) dX11_kind_82 (by decide) rfl rfl ?_
                refine g_iload dX11_kind_84 rfl ?_
                refine g_if_eq (tgt := 97) dX11_kind_86 (by decide) (fun _ => ?_) (fun hh => absurd hh (by decide))
                refine g_iload dX11_kind_97 rfl ?_
                exact g_zret (ty := .boolean) rfl rfl dX11_kind_99 rfl (Nat.le_refl _) (q8 c2 c3 c5 c8 c12 c16 c17)
              · skip
                refine g_aload dX11_kind_67 rfl ?_
                refine g_iload_n dX11_kind_69 rfl rfl ?_
                refine g_iload_n dX11_kind_70 rfl rfl ?_
                exact s_callV (M' := mX2_canFollow) (As := [.int x1, .int x3]) (st := []) dX11_kind_71 lm_X11_120 ovX2_canFollow (h := (sk0 c, I)) (sk_8 _) (show vwCl[2]? = some _ from rfl) rfl (by simp [Value.category]) (by decide) rfl (k9 c2 c3 c5 c8 c12 c16 c18)
      · skip
        refine g_aload dX11_kind_37 rfl ?_
        refine g_iload_n dX11_kind_39 rfl rfl ?_
        refine g_iconst (v := 0) dX11_kind_40 (by decide) ?_
        refine g_iconst (v := 0) dX11_kind_41 (by decide) ?_
        exact s_callV (M' := mX2_tellKind) (As := [.int x1, .int 0, .int 0]) (st := []) dX11_kind_42 lm_X11_116 ovX2_tellKind (h := (sk0 c, I)) (sk_8 _) (show vwCl[2]? = some _ from rfl) rfl (by simp [Value.category]) (by decide) rfl (k10 c2 c3 c6)
    · skip
      refine g_iconst (v := 0) dX11_kind_31 (by decide) ?_
      exact g_zret (ty := .boolean) rfl rfl dX11_kind_32 rfl (Nat.le_refl _) (q11 c2 c4)
set_option maxRecDepth 10000 in
set_option maxHeartbeats 1000000 in
theorem sg_X11_kind_74 {l : Launch} {d : Nat} {Q : Option Value → mx_H → Prop} {c : Nat} {I : mx_I} (x1 : Int32) (x2 : Int32) (x3 : Int32) (x4 : Int32)
    (q1 : (x4 = 0) → Q (some (.int 0)) (sk0 c, I))
    (k2 : (¬ x4 = 0) → mx_K1 l mX2_tellKind d [.ref 8, .int x1, .int x2, .int x3] (sk0 c, I) (fun r h' => mx_Go l (mx_rm (d + 1) 0 0) mX11_kind (mx_Z Q 0 0) 0 0 97 [.ref 0, .int x1, .int x2, .int x3, .ref 8, .int 1] (r.toList ++ []) h')) :
    mx_Go l (mx_rm (d + 1) 0 0) mX11_kind (mx_Z Q 0 0) 0 0 74 [.ref 0, .int x1, .int x2, .int x3, .ref 8, .retAddr 0] [.int x4] (sk0 c, I) := by
  refine g_if_eq (tgt := 81) dX11_kind_74 (by decide) (fun c1 => ?_) (fun c2 => ?_)
  · skip
    refine g_iconst (v := 0) dX11_kind_81 (by decide) ?_
    refine s_istore (L' := [.ref 0, .int x1, .int x2, .int x3, .ref 8, .int 0]) dX11_kind_82 (by decide) rfl rfl ?_
    refine g_iload dX11_kind_84 rfl ?_
    refine g_if_eq (tgt := 97) dX11_kind_86 (by decide) (fun _ => ?_) (fun hh => absurd hh (by decide))
    refine g_iload dX11_kind_97 rfl ?_
    exact g_zret (ty := .boolean) rfl rfl dX11_kind_99 rfl (Nat.le_refl _) (q1 c1)
  · skip
    refine g_iconst (v := 1) dX11_kind_77 (by decide) ?_
    refine g_goto (tgt := 82) dX11_kind_78 (by decide) ?_
    refine s_istore (L' := [.ref 0, .int x1, .int x2, .int x3, .ref 8, .int 1]) dX11_kind_82 (by decide) rfl rfl ?_
    refine g_iload dX11_kind_84 rfl ?_
    refine g_if_eq (tgt := 97) dX11_kind_86 (by decide) (fun hh => absurd hh (by decide)) (fun _ => ?_)
    refine g_aload dX11_kind_89 rfl ?_
    refine g_iload_n dX11_kind_91 rfl rfl ?_
    refine g_iload_n dX11_kind_92 rfl rfl ?_
    refine g_iload_n dX11_kind_93 rfl rfl ?_
    exact s_callV (M' := mX2_tellKind) (As := [.int x1, .int x2, .int x3]) (st := []) dX11_kind_94 lm_X11_116 ovX2_tellKind (h := (sk0 c, I)) (sk_8 _) (show vwCl[2]? = some _ from rfl) rfl (by simp [Value.category]) (by decide) rfl (k2 c2)
set_option maxRecDepth 10000 in
set_option maxHeartbeats 1000000 in
theorem sg_X11_kind_97 {l : Launch} {d : Nat} {Q : Option Value → mx_H → Prop} {c : Nat} {I : mx_I} (x1 : Int32) (x2 : Int32) (x3 : Int32) (x4 : Int32)
    (q1 : Q (some (.int x4)) (sk0 c, I))
    (n2 : x4 = 0 ∨ x4 = 1) :
    mx_Go l (mx_rm (d + 1) 0 0) mX11_kind (mx_Z Q 0 0) 0 0 97 [.ref 0, .int x1, .int x2, .int x3, .ref 8, .int x4] [] (sk0 c, I) := by
  refine g_iload dX11_kind_97 rfl ?_
  exact g_zret (ty := .boolean) rfl (nb_01 (n2)) dX11_kind_99 rfl (Nat.le_refl _) (q1)
set_option maxRecDepth 10000 in
set_option maxHeartbeats 1000000 in
theorem sg_X11_kind_45 {l : Launch} {d : Nat} {Q : Option Value → mx_H → Prop} {c : Nat} {I : mx_I} (x1 : Int32) (x2 : Int32) (x3 : Int32)
    (q1 : Q (some (.int 1)) (sk0 c, I)) :
    mx_Go l (mx_rm (d + 1) 0 0) mX11_kind (mx_Z Q 0 0) 0 0 45 [.ref 0, .int x1, .int x2, .int x3, .ref 8, .retAddr 0] [] (sk0 c, I) := by
  refine g_iconst (v := 1) dX11_kind_45 (by decide) ?_
  exact g_zret (ty := .boolean) rfl rfl dX11_kind_46 rfl (Nat.le_refl _) (q1)
set_option maxRecDepth 10000 in
set_option maxHeartbeats 1000000 in
theorem sn_X11_set {l : Launch} {d : Nat} {Q : Option Value → mx_H → Prop} {c : Nat} {I : mx_I} (a1 : Int32) (a2 : Int32) (a3 : Int32)
    (q1 : (a1 = 0) → (a3 = (-1)) → Q (some (.int 1)) (sk0 c, (mx_set I 1 6 a3)))
    (q2 : (a1 = 0) → (¬ a3 = (-1)) → (a3 < 0) → Q (some (.int 0)) (sk0 c, I))
    (q3 : (a1 = 0) → (¬ a3 = (-1)) → (¬ a3 < 0) → (a3 ≤ 999) → Q (some (.int 1)) (sk0 c, (mx_set I 1 6 a3)))
    (q4 : (a1 = 0) → (¬ a3 = (-1)) → (¬ a3 < 0) → (¬ a3 ≤ 999) → Q (some (.int 0)) (sk0 c, I))
    (q5 : (a1 = 1) → (a3 = 0) → Q (some (.int 1)) (sk0 c, (mx_set I 1 7 a3)))
    (q6 : (a1 = 1) → (¬ a3 = 0) → (a3 = 1) → Q (some (.int 1)) (sk0 c, (mx_set I 1 7 a3)))
    (q7 : (a1 = 1) → (¬ a3 = 0) → (¬ a3 = 1) → Q (some (.int 0)) (sk0 c, I))
    (k8 : (a1 = 2) → mx_K1 l mX2_has d [.ref 8, .int a2] (sk0 c, I) (fun r h' => mx_Go l (mx_rm (d + 1) 0 0) mX11_set (mx_Z Q 0 0) 0 0 88 [.ref 0, .int a1, .int a2, .int a3] (r.toList ++ []) h'))
    (q9 : (¬ a1 = 0) → (¬ a1 = 1) → (¬ a1 = 2) → Q (some (.int 0)) (sk0 c, I)) :
    mx_Spec l mX11_set (d + 1) 0 0 [.ref 0, .int a1, .int a2, .int a3] (sk0 c, I) Q := by
  refine mx_enter rfl (by simp [Value.category]) (Nat.le_of_ble_eq_true rfl) ?_
  change mx_Go l (mx_rm (d + 1) 0 0) mX11_set (mx_Z Q 0 0) 0 0 0 [.ref 0, .int a1, .int a2, .int a3] [] (sk0 c, I)
  refine g_iload_n dX11_set_0 rfl rfl ?_
  rcases Decidable.em (a1 = 0) with c1 | c2
  · skip
    refine g_tableIn (off := 27) (tgt := 28) dX11_set_1 (by rw [c1]; decide) (by rw [c1]; decide) (by rw [c1]; rfl) (by decide) ?_
    refine g_iload_n dX11_set_28 rfl rfl ?_
    refine g_iconst (v := (-1)) dX11_set_29 (by decide) ?_
    refine g_icmp_eq (tgt := 46) dX11_set_30 (by decide) (fun c3 => ?_) (fun c4 => ?_)
    · skip
      refine g_aload_n dX11_set_46 rfl rfl ?_
      refine rg_X11_0 (r := 1) dX11_set_47 lf_X11_12 (sk_0 _) rfl ?_
      refine g_iload_n dX11_set_50 rfl rfl ?_
      refine rp_X10_6 dX11_set_51 lf_X11_124 (sk_1 _) ?_
      refine g_iconst (v := 1) dX11_set_54 (by decide) ?_
      exact g_zret (ty := .boolean) rfl rfl dX11_set_55 rfl (Nat.le_refl _) (q1 c1 c3)
    · skip
      refine g_iload_n dX11_set_33 rfl rfl ?_
      refine g_if_lt (tgt := 44) dX11_set_34 (by decide) (fun c5 => ?_) (fun c6 => ?_)
      · skip
        refine g_iconst (v := 0) dX11_set_44 (by decide) ?_
        exact g_zret (ty := .boolean) rfl rfl dX11_set_45 rfl (Nat.le_refl _) (q2 c1 c4 c5)
      · skip
        refine g_iload_n dX11_set_37 rfl rfl ?_
        refine g_sipush (v := 999) dX11_set_38 (by decide) ?_
        refine g_icmp_le (tgt := 46) dX11_set_41 (by decide) (fun c7 => ?_) (fun c8 => ?_)
        · skip
          refine g_aload_n dX11_set_46 rfl rfl ?_
          refine rg_X11_0 (r := 1) dX11_set_47 lf_X11_12 (sk_0 _) rfl ?_
          refine g_iload_n dX11_set_50 rfl rfl ?_
          refine rp_X10_6 dX11_set_51 lf_X11_124 (sk_1 _) ?_
          refine g_iconst (v := 1) dX11_set_54 (by decide) ?_
          exact g_zret (ty := .boolean) rfl rfl dX11_set_55 rfl (Nat.le_refl _) (q3 c1 c4 c6 c7)
        · skip
          refine g_iconst (v := 0) dX11_set_44 (by decide) ?_
          exact g_zret (ty := .boolean) rfl rfl dX11_set_45 rfl (Nat.le_refl _) (q4 c1 c4 c6 c8)
  · skip
    rcases Decidable.em (a1 = 1) with c9 | c10
    · skip
      refine g_tableIn (off := 55) (tgt := 56) dX11_set_1 (by rw [c9]; decide) (by rw [c9]; decide) (by rw [c9]; rfl) (by decide) ?_
      refine g_iload_n dX11_set_56 rfl rfl ?_
      refine g_if_eq (tgt := 67) dX11_set_57 (by decide) (fun c11 => ?_) (fun c12 => ?_)
      · skip
        refine g_aload_n dX11_set_67 rfl rfl ?_
        refine rg_X11_0 (r := 1) dX11_set_68 lf_X11_12 (sk_0 _) rfl ?_
        refine g_iload_n dX11_set_71 rfl rfl ?_
        refine rp_X10_7 dX11_set_72 lf_X11_127 (sk_1 _) ?_
        refine g_iconst (v := 1) dX11_set_75 (by decide) ?_
        exact g_zret (ty := .boolean) rfl rfl dX11_set_76 rfl (Nat.le_refl _) (q5 c9 c11)
      · skip
        refine g_iload_n dX11_set_60 rfl rfl ?_
        refine g_iconst (v := 1) dX11_set_61 (by decide) ?_
        refine g_icmp_eq (tgt := 67) dX11_set_62 (by decide) (fun c13 => ?_) (fun c14 => ?_)
        · skip
          refine g_aload_n dX11_set_67 rfl rfl ?_
          refine rg_X11_0 (r := 1) dX11_set_68 lf_X11_12 (sk_0 _) rfl ?_
          refine g_iload_n dX11_set_71 rfl rfl ?_
          refine rp_X10_7 dX11_set_72 lf_X11_127 (sk_1 _) ?_
          refine g_iconst (v := 1) dX11_set_75 (by decide) ?_
          exact g_zret (ty := .boolean) rfl rfl dX11_set_76 rfl (Nat.le_refl _) (q6 c9 c12 c13)
        · skip
          refine g_iconst (v := 0) dX11_set_65 (by decide) ?_
          exact g_zret (ty := .boolean) rfl rfl dX11_set_66 rfl (Nat.le_refl _) (q7 c9 c12 c14)
    · skip
      rcases Decidable.em (a1 = 2) with c15 | c16
      · skip
        refine g_tableIn (off := 76) (tgt := 77) dX11_set_1 (by rw [c15]; decide) (by rw [c15]; decide) (by rw [c15]; rfl) (by decide) ?_
        refine g_aload_n dX11_set_77 rfl rfl ?_
        refine rg_X11_0 (r := 1) dX11_set_78 lf_X11_12 (sk_0 _) rfl ?_
        refine rg_X10_1 (r := 8) dX11_set_81 lf_X11_103 (sk_1 _) rfl ?_
        refine g_iload_n dX11_set_84 rfl rfl ?_
        exact s_callV (M' := mX2_has) (As := [.int a2]) (st := []) dX11_set_85 lm_X11_112 ovX2_has (h := (sk0 c, I)) (sk_8 _) (show vwCl[2]? = some _ from rfl) rfl (by simp [Value.category]) (by decide) rfl (k8 c15)
      · skip
        refine g_tableOut (tgt := 117) dX11_set_1 (by have q2 := mx_i32 (n := 0) (by decide) c2; have q10 := mx_i32 (n := 1) (by decide) c10; have q16 := mx_i32 (n := 2) (by decide) c16; omega) (by decide) ?_
        refine g_iconst (v := 0) dX11_set_117 (by decide) ?_
        exact g_zret (ty := .boolean) rfl rfl dX11_set_118 rfl (Nat.le_refl _) (q9 c2 c10 c16)
set_option maxRecDepth 10000 in
set_option maxHeartbeats 1000000 in
theorem sg_X11_set_88 {l : Launch} {d : Nat} {Q : Option Value → mx_H → Prop} {c : Nat} {I : mx_I} (x1 : Int32) (x2 : Int32) (x3 : Int32) (x4 : Int32)
    (q1 : (x4 = 0) → Q (some (.int 0)) (sk0 c, I))
    (b2 : (¬ x4 = 0) → (x3 = 0) → vp_in x2 20)
    (q3 : (¬ x4 = 0) → (x3 = 0) → Q (some (.int 1)) (sk0 c, (mx_set I 17 x2.toNatClampNeg x3)))
    (b4 : (¬ x4 = 0) → (¬ x3 = 0) → (x3 = 1) → vp_in x2 20)
    (q5 : (¬ x4 = 0) → (¬ x3 = 0) → (x3 = 1) → Q (some (.int 1)) (sk0 c, (mx_set I 17 x2.toNatClampNeg x3)))
    (q6 : (¬ x4 = 0) → (¬ x3 = 0) → (¬ x3 = 1) → Q (some (.int 0)) (sk0 c, I)) :
    mx_Go l (mx_rm (d + 1) 0 0) mX11_set (mx_Z Q 0 0) 0 0 88 [.ref 0, .int x1, .int x2, .int x3] [.int x4] (sk0 c, I) := by
  refine g_if_eq (tgt := 100) dX11_set_88 (by decide) (fun c1 => ?_) (fun c2 => ?_)
  · skip
    refine g_iconst (v := 0) dX11_set_100 (by decide) ?_
    exact g_zret (ty := .boolean) rfl rfl dX11_set_101 rfl (Nat.le_refl _) (q1 c1)
  · skip
    refine g_iload_n dX11_set_91 rfl rfl ?_
    refine g_if_eq (tgt := 102) dX11_set_92 (by decide) (fun c3 => ?_) (fun c4 => ?_)
    · skip
      refine g_aload_n dX11_set_102 rfl rfl ?_
      refine rg_X11_0 (r := 1) dX11_set_103 lf_X11_12 (sk_0 _) rfl ?_
      refine rg_X10_1 (r := 8) dX11_set_106 lf_X11_103 (sk_1 _) rfl ?_
      refine rg_X2_8 (r := 17) dX11_set_109 lf_X11_130 (sk_8 _) rfl ?_
      refine g_iload_n dX11_set_112 rfl rfl ?_
      refine g_iload_n dX11_set_113 rfl rfl ?_
      refine s_iast (j := x2.toNatClampNeg) dX11_set_114 (sk_17 _) (b2 c2 c3) rfl ?_
      refine g_iconst (v := 1) dX11_set_115 (by decide) ?_
      exact g_zret (ty := .boolean) rfl rfl dX11_set_116 rfl (Nat.le_refl _) (q3 c2 c3)
    · skip
      refine g_iload_n dX11_set_95 rfl rfl ?_
      refine g_iconst (v := 1) dX11_set_96 (by decide) ?_
      refine g_icmp_eq (tgt := 102) dX11_set_97 (by decide) (fun c5 => ?_) (fun c6 => ?_)
      · skip
        refine g_aload_n dX11_set_102 rfl rfl ?_
        refine rg_X11_0 (r := 1) dX11_set_103 lf_X11_12 (sk_0 _) rfl ?_
        refine rg_X10_1 (r := 8) dX11_set_106 lf_X11_103 (sk_1 _) rfl ?_
        refine rg_X2_8 (r := 17) dX11_set_109 lf_X11_130 (sk_8 _) rfl ?_
        refine g_iload_n dX11_set_112 rfl rfl ?_
        refine g_iload_n dX11_set_113 rfl rfl ?_
        refine s_iast (j := x2.toNatClampNeg) dX11_set_114 (sk_17 _) (b4 c2 c4 c5) rfl ?_
        refine g_iconst (v := 1) dX11_set_115 (by decide) ?_
        exact g_zret (ty := .boolean) rfl rfl dX11_set_116 rfl (Nat.le_refl _) (q5 c2 c4 c5)
      · skip
        refine g_iconst (v := 0) dX11_set_100 (by decide) ?_
        exact g_zret (ty := .boolean) rfl rfl dX11_set_101 rfl (Nat.le_refl _) (q6 c2 c4 c6)
set_option maxRecDepth 10000 in
set_option maxHeartbeats 1000000 in
theorem sn_X11_feed {l : Launch} {d : Nat} {Q : Option Value → mx_H → Prop} {c : Nat} {I : mx_I} (a1 : Int32) (a2 : Int32) (a3 : Int32) (a4 : Int32) (a5 : Int32)
    (k1 : mx_K1 l mX8_take d [.ref 47, .int a1, .int a2, .int a3, .int a4, .int a5] (sk0 c, I) (fun r h' => mx_Go l (mx_rm (d + 1) 0 0) mX11_feed (mx_Z Q 0 0) 0 0 14 [.ref 0, .int a1, .int a2, .int a3, .int a4, .int a5] (r.toList ++ []) h')) :
    mx_Spec l mX11_feed (d + 1) 0 0 [.ref 0, .int a1, .int a2, .int a3, .int a4, .int a5] (sk0 c, I) Q := by
  refine mx_enter rfl (by simp [Value.category]) (Nat.le_of_ble_eq_true rfl) ?_
  change mx_Go l (mx_rm (d + 1) 0 0) mX11_feed (mx_Z Q 0 0) 0 0 0 [.ref 0, .int a1, .int a2, .int a3, .int a4, .int a5] [] (sk0 c, I)
  refine g_aload_n dX11_feed_0 rfl rfl ?_
  refine rg_X11_3 (r := 47) dX11_feed_1 lf_X11_33 (sk_0 _) rfl ?_
  refine g_iload_n dX11_feed_4 rfl rfl ?_
  refine g_iload_n dX11_feed_5 rfl rfl ?_
  refine g_iload_n dX11_feed_6 rfl rfl ?_
  refine g_iload dX11_feed_7 rfl ?_
  refine g_iload dX11_feed_9 rfl ?_
  exact s_callV (M' := mX8_take) (As := [.int a1, .int a2, .int a3, .int a4, .int a5]) (st := []) dX11_feed_11 lm_X11_133 ovX8_take (h := (sk0 c, I)) (sk_47 _) (show vwCl[8]? = some _ from rfl) rfl (by simp [Value.category]) (by decide) rfl (k1)
set_option maxRecDepth 10000 in
set_option maxHeartbeats 1000000 in
theorem sg_X11_feed_14 {l : Launch} {d : Nat} {Q : Option Value → mx_H → Prop} {c : Nat} {I : mx_I} (x1 : Int32) (x2 : Int32) (x3 : Int32) (x4 : Int32) (x5 : Int32) (x6 : Int32)
    (q1 : Q (some (.int x6)) (sk0 c, I)) :
    mx_Go l (mx_rm (d + 1) 0 0) mX11_feed (mx_Z Q 0 0) 0 0 14 [.ref 0, .int x1, .int x2, .int x3, .int x4, .int x5] [.int x6] (sk0 c, I) := by
  exact g_iret rfl dX11_feed_14 rfl (Nat.le_refl _) (q1)
set_option maxRecDepth 10000 in
set_option maxHeartbeats 1000000 in
theorem sn_X11_end {l : Launch} {d : Nat} {Q : Option Value → mx_H → Prop} {c : Nat} {I : mx_I} (a1 : Int32)
    (k1 : mx_K1 l mX8_cut d [.ref 47, .int a1] (sk0 c, I) (fun r h' => mx_Go l (mx_rm (d + 1) 0 0) mX11_end (mx_Z Q 0 0) 0 0 8 [.ref 0, .int a1] (r.toList ++ []) h')) :
    mx_Spec l mX11_end (d + 1) 0 0 [.ref 0, .int a1] (sk0 c, I) Q := by
  refine mx_enter rfl (by simp [Value.category]) (Nat.le_of_ble_eq_true rfl) ?_
  change mx_Go l (mx_rm (d + 1) 0 0) mX11_end (mx_Z Q 0 0) 0 0 0 [.ref 0, .int a1] [] (sk0 c, I)
  refine g_aload_n dX11_end_0 rfl rfl ?_
  refine rg_X11_3 (r := 47) dX11_end_1 lf_X11_33 (sk_0 _) rfl ?_
  refine g_iload_n dX11_end_4 rfl rfl ?_
  exact s_callV (M' := mX8_cut) (As := [.int a1]) (st := []) dX11_end_5 lm_X11_137 ovX8_cut (h := (sk0 c, I)) (sk_47 _) (show vwCl[8]? = some _ from rfl) rfl (by simp [Value.category]) (by decide) rfl (k1)
set_option maxRecDepth 10000 in
set_option maxHeartbeats 1000000 in
theorem sg_X11_end_8 {l : Launch} {d : Nat} {Q : Option Value → mx_H → Prop} {c : Nat} {I : mx_I} (x1 : Int32) (x2 : Int32)
    (q1 : Q (some (.int x2)) (sk0 c, I))
    (n2 : x2 = 0 ∨ x2 = 1) :
    mx_Go l (mx_rm (d + 1) 0 0) mX11_end (mx_Z Q 0 0) 0 0 8 [.ref 0, .int x1] [.int x2] (sk0 c, I) := by
  exact g_zret (ty := .boolean) rfl (nb_01 (n2)) dX11_end_8 rfl (Nat.le_refl _) (q1)
set_option maxRecDepth 10000 in
set_option maxHeartbeats 1000000 in
theorem sn_X11_text {l : Launch} {d : Nat} {Q : Option Value → mx_H → Prop} {c : Nat} {I : mx_I}
    (k1 : mx_K1 l mX8_readLaw d [.ref 47] (sk0 c, I) (fun r h' => mx_Go l (mx_rm (d + 1) 0 0) mX11_text (mx_Z Q 0 0) 0 0 7 [.ref 0] (r.toList ++ []) h')) :
    mx_Spec l mX11_text (d + 1) 0 0 [.ref 0] (sk0 c, I) Q := by
  refine mx_enter rfl (by simp [Value.category]) (Nat.le_of_ble_eq_true rfl) ?_
  change mx_Go l (mx_rm (d + 1) 0 0) mX11_text (mx_Z Q 0 0) 0 0 0 [.ref 0] [] (sk0 c, I)
  refine g_aload_n dX11_text_0 rfl rfl ?_
  refine rg_X11_3 (r := 47) dX11_text_1 lf_X11_33 (sk_0 _) rfl ?_
  exact s_callV (M' := mX8_readLaw) (As := []) (st := []) dX11_text_4 lm_X11_140 ovX8_readLaw (h := (sk0 c, I)) (sk_47 _) (show vwCl[8]? = some _ from rfl) rfl (by simp [Value.category]) (by decide) rfl (k1)
set_option maxRecDepth 10000 in
set_option maxHeartbeats 1000000 in
theorem sg_X11_text_7 {l : Launch} {d : Nat} {Q : Option Value → mx_H → Prop} {c : Nat} {I : mx_I}
    (k1 : ((I 47 4) = 0) → mx_K1 l mX3_copyFrom d [.ref 28, .ref 49] (sk0 c, I) (fun r h' => mx_Go l (mx_rm (d + 1) 0 0) mX11_text (mx_Z Q 0 0) 0 0 36 [.ref 0] (r.toList ++ []) h'))
    (q2 : (¬ (I 47 4) = 0) → Q (some (.int (-1))) (sk0 c, I)) :
    mx_Go l (mx_rm (d + 1) 0 0) mX11_text (mx_Z Q 0 0) 0 0 7 [.ref 0] [] (sk0 c, I) := by
  refine g_aload_n dX11_text_7 rfl rfl ?_
  refine rg_X11_3 (r := 47) dX11_text_8 lf_X11_33 (sk_0 _) rfl ?_
  refine rg_X8_4 (v := (I 47 4)) dX11_text_11 lf_X11_143 (sk_47 _) rfl ?_
  refine g_if_eq (tgt := 19) dX11_text_14 (by decide) (fun c1 => ?_) (fun c2 => ?_)
  · skip
    refine g_aload_n dX11_text_19 rfl rfl ?_
    refine rg_X11_0 (r := 1) dX11_text_20 lf_X11_12 (sk_0 _) rfl ?_
    refine rg_X10_4 (r := 28) dX11_text_23 lf_X11_146 (sk_1 _) rfl ?_
    refine g_aload_n dX11_text_26 rfl rfl ?_
    refine rg_X11_3 (r := 47) dX11_text_27 lf_X11_33 (sk_0 _) rfl ?_
    refine rg_X8_1 (r := 49) dX11_text_30 lf_X11_150 (sk_47 _) rfl ?_
    exact s_callV (M' := mX3_copyFrom) (As := [.ref 49]) (st := []) dX11_text_33 lm_X11_153 ovX3_copyFrom (h := (sk0 c, I)) (sk_28 _) (show vwCl[3]? = some _ from rfl) rfl (by simp [Value.category]) (by decide) rfl (k1 c1)
  · skip
    refine g_iconst (v := (-1)) dX11_text_17 (by decide) ?_
    exact g_iret rfl dX11_text_18 rfl (Nat.le_refl _) (q2 c2)
set_option maxRecDepth 10000 in
set_option maxHeartbeats 1000000 in
theorem sg_X11_text_36 {l : Launch} {d : Nat} {Q : Option Value → mx_H → Prop} {c : Nat} {I : mx_I}
    (q1 : Q (some (.int (I 28 4))) (sk0 c, I)) :
    mx_Go l (mx_rm (d + 1) 0 0) mX11_text (mx_Z Q 0 0) 0 0 36 [.ref 0] [] (sk0 c, I) := by
  refine g_aload_n dX11_text_36 rfl rfl ?_
  refine rg_X11_0 (r := 1) dX11_text_37 lf_X11_12 (sk_0 _) rfl ?_
  refine rg_X10_4 (r := 28) dX11_text_40 lf_X11_146 (sk_1 _) rfl ?_
  refine rg_X3_4 (v := (I 28 4)) dX11_text_43 lf_X11_159 (sk_28 _) rfl ?_
  exact g_iret rfl dX11_text_46 rfl (Nat.le_refl _) (q1)
set_option maxRecDepth 10000 in
set_option maxHeartbeats 1000000 in
theorem sn_X11_fault {l : Launch} {d : Nat} {Q : Option Value → mx_H → Prop} {c : Nat} {I : mx_I} (a1 : Int32)
    (q1 : (a1 = 0) → Q (some (.int (I 47 4))) (sk0 c, I))
    (q2 : (a1 = 1) → Q (some (.int (I 47 5))) (sk0 c, I))
    (q3 : (¬ a1 = 0) → (¬ a1 = 1) → Q (some (.int (-1))) (sk0 c, I)) :
    mx_Spec l mX11_fault (d + 1) 0 0 [.ref 0, .int a1] (sk0 c, I) Q := by
  refine mx_enter rfl (by simp [Value.category]) (Nat.le_of_ble_eq_true rfl) ?_
  change mx_Go l (mx_rm (d + 1) 0 0) mX11_fault (mx_Z Q 0 0) 0 0 0 [.ref 0, .int a1] [] (sk0 c, I)
  refine g_iload_n dX11_fault_0 rfl rfl ?_
  rcases Decidable.em (a1 = 0) with c1 | c2
  · skip
    refine g_lookup (off := 27) (tgt := 28) dX11_fault_1 (by decide) (by rw [c1]; rfl) (by decide) ?_
    refine g_aload_n dX11_fault_28 rfl rfl ?_
    refine rg_X11_3 (r := 47) dX11_fault_29 lf_X11_33 (sk_0 _) rfl ?_
    refine rg_X8_4 (v := (I 47 4)) dX11_fault_32 lf_X11_143 (sk_47 _) rfl ?_
    exact g_iret rfl dX11_fault_35 rfl (Nat.le_refl _) (q1 c1)
  · skip
    rcases Decidable.em (a1 = 1) with c3 | c4
    · skip
      refine g_lookup (off := 35) (tgt := 36) dX11_fault_1 (by decide) (by rw [c3]; rfl) (by decide) ?_
      refine g_aload_n dX11_fault_36 rfl rfl ?_
      refine rg_X11_3 (r := 47) dX11_fault_37 lf_X11_33 (sk_0 _) rfl ?_
      refine rg_X8_5 (v := (I 47 5)) dX11_fault_40 lf_X11_160 (sk_47 _) rfl ?_
      exact g_iret rfl dX11_fault_43 rfl (Nat.le_refl _) (q2 c3)
    · skip
      refine g_lookup (off := 43) (tgt := 44) dX11_fault_1 (by decide) (by have q2 := mx_i32 (n := 0) (by decide) c2; have q4 := mx_i32 (n := 1) (by decide) c4; simp [Op.lookupswitch.offset, q2, q4, Ne.symm q2, Ne.symm q4]) (by decide) ?_
      refine g_iconst (v := (-1)) dX11_fault_44 (by decide) ?_
      exact g_iret rfl dX11_fault_45 rfl (Nat.le_refl _) (q3 c2 c4)
set_option maxRecDepth 10000 in
set_option maxHeartbeats 1000000 in
theorem sn_X11_hours {l : Launch} {d : Nat} {Q : Option Value → mx_H → Prop} {c : Nat} {I : mx_I} (a1 : Int32)
    (q1 : (a1 < 1) → Q (some (.int (-1))) (sk0 c, I))
    (k2 : (¬ a1 < 1) → (a1 ≤ (168 - (I 33 9))) → mx_K1 l mX7_make d [.ref 66, .ref 1, .int (I 33 9)] (sk0 c, I) (fun r h' => mx_Go l (mx_rm (d + 1) 0 0) mX11_hours (mx_Z Q 0 0) 0 0 55 [.ref 0, .int a1, .int (((I 33 9) + a1) - 1)] (r.toList ++ []) h'))
    (q3 : (¬ a1 < 1) → (¬ a1 ≤ (168 - (I 33 9))) → Q (some (.int (-1))) (sk0 c, I)) :
    mx_Spec l mX11_hours (d + 1) 0 0 [.ref 0, .int a1] (sk0 c, I) Q := by
  refine mx_enter rfl (by simp [Value.category]) (Nat.le_of_ble_eq_true rfl) ?_
  change mx_Go l (mx_rm (d + 1) 0 0) mX11_hours (mx_Z Q 0 0) 0 0 0 [.ref 0, .int a1, .retAddr 0] [] (sk0 c, I)
  refine g_iload_n dX11_hours_0 rfl rfl ?_
  refine g_iconst (v := 1) dX11_hours_1 (by decide) ?_
  refine g_icmp_lt (tgt := 20) dX11_hours_2 (by decide) (fun c1 => ?_) (fun c2 => ?_)
  · skip
    refine g_iconst (v := (-1)) dX11_hours_20 (by decide) ?_
    exact g_iret rfl dX11_hours_21 rfl (Nat.le_refl _) (q1 c1)
  · skip
    refine g_iload_n dX11_hours_5 rfl rfl ?_
    refine g_sipush (v := 168) dX11_hours_6 (by decide) ?_
    refine g_aload_n dX11_hours_9 rfl rfl ?_
    refine rg_X11_1 (r := 33) dX11_hours_10 lf_X11_19 (sk_0 _) rfl ?_
    refine rg_X9_9 (v := (I 33 9)) dX11_hours_13 lf_X11_163 (sk_33 _) rfl ?_
    refine g_isub dX11_hours_16 ?_
    refine g_icmp_le (tgt := 22) dX11_hours_17 (by decide) (fun c3 => ?_) (fun c4 => ?_)
    · skip
      refine g_aload_n dX11_hours_22 rfl rfl ?_
      refine rg_X11_1 (r := 33) dX11_hours_23 lf_X11_19 (sk_0 _) rfl ?_
      refine rg_X9_9 (v := (I 33 9)) dX11_hours_26 lf_X11_163 (sk_33 _) rfl ?_
      refine g_iload_n dX11_hours_29 rfl rfl ?_
      refine g_iadd dX11_hours_30 ?_
      refine g_iconst (v := 1) dX11_hours_31 (by decide) ?_
      refine g_isub dX11_hours_32 ?_
      refine s_istore_n (L' := [.ref 0, .int a1, .int (((I 33 9) + a1) - 1)]) dX11_hours_33 rfl (by decide) rfl rfl ?_
      refine g_aload_n dX11_hours_34 rfl rfl ?_
      refine rg_X11_4 (r := 65) dX11_hours_35 lf_X11_45 (sk_0 _) rfl ?_
      refine rg_X1_2 (r := 66) dX11_hours_38 lf_X11_166 (sk_65 _) rfl ?_
      refine g_aload_n dX11_hours_41 rfl rfl ?_
      refine rg_X11_0 (r := 1) dX11_hours_42 lf_X11_12 (sk_0 _) rfl ?_
      refine g_aload_n dX11_hours_45 rfl rfl ?_
      refine rg_X11_1 (r := 33) dX11_hours_46 lf_X11_19 (sk_0 _) rfl ?_
      refine rg_X9_9 (v := (I 33 9)) dX11_hours_49 lf_X11_163 (sk_33 _) rfl ?_
      exact s_callV (M' := mX7_make) (As := [.ref 1, .int (I 33 9)]) (st := []) dX11_hours_52 lm_X11_170 ovX7_make (h := (sk0 c, I)) (sk_66 _) (show vwCl[7]? = some _ from rfl) rfl (by simp [Value.category]) (by decide) rfl (k2 c2 c3)
    · skip
      refine g_iconst (v := (-1)) dX11_hours_20 (by decide) ?_
      exact g_iret rfl dX11_hours_21 rfl (Nat.le_refl _) (q3 c2 c4)
set_option maxRecDepth 10000 in
set_option maxHeartbeats 1000000 in
theorem sg_X11_hours_55 {l : Launch} {d : Nat} {Q : Option Value → mx_H → Prop} {c : Nat} {I : mx_I} (x1 : Int32) (x2 : Int32)
    (k1 : mx_K1 l mX1_begin d [.ref 65, .ref 33] (sk0 c, I) (fun r h' => mx_Go l (mx_rm (d + 1) 0 0) mX11_hours (mx_Z Q 0 0) 0 0 66 [.ref 0, .int x1, .int x2] (r.toList ++ []) h')) :
    mx_Go l (mx_rm (d + 1) 0 0) mX11_hours (mx_Z Q 0 0) 0 0 55 [.ref 0, .int x1, .int x2] [] (sk0 c, I) := by
  refine g_aload_n dX11_hours_55 rfl rfl ?_
  refine rg_X11_4 (r := 65) dX11_hours_56 lf_X11_45 (sk_0 _) rfl ?_
  refine g_aload_n dX11_hours_59 rfl rfl ?_
  refine rg_X11_1 (r := 33) dX11_hours_60 lf_X11_19 (sk_0 _) rfl ?_
  exact s_callV (M' := mX1_begin) (As := [.ref 33]) (st := []) dX11_hours_63 lm_X11_176 ovX1_begin (h := (sk0 c, I)) (sk_65 _) (show vwCl[1]? = some _ from rfl) rfl (by simp [Value.category]) (by decide) rfl (k1)
set_option maxRecDepth 10000 in
set_option maxHeartbeats 1000000 in
theorem sg_X11_hours_66 {l : Launch} {d : Nat} {Q : Option Value → mx_H → Prop} {c : Nat} {I : mx_I} (x1 : Int32) (x2 : Int32)
    (k1 : mx_K1 l mX1_goOn d [.ref 65, .int x2] (sk0 c, (mx_set I 65 7 1)) (fun r h' => mx_Go l (mx_rm (d + 1) 0 0) mX11_hours (mx_Z Q 0 0) 0 0 82 [.ref 0, .int x1, .int x2] (r.toList ++ []) h')) :
    mx_Go l (mx_rm (d + 1) 0 0) mX11_hours (mx_Z Q 0 0) 0 0 66 [.ref 0, .int x1, .int x2] [] (sk0 c, I) := by
  refine g_aload_n dX11_hours_66 rfl rfl ?_
  refine rg_X11_4 (r := 65) dX11_hours_67 lf_X11_45 (sk_0 _) rfl ?_
  refine g_iconst (v := 1) dX11_hours_70 (by decide) ?_
  refine rp_X1_7 (by decide) dX11_hours_71 lf_X11_180 (sk_65 _) ?_
  refine g_aload_n dX11_hours_74 rfl rfl ?_
  refine rg_X11_4 (r := 65) dX11_hours_75 lf_X11_45 (sk_0 _) rfl ?_
  refine g_iload_n dX11_hours_78 rfl rfl ?_
  exact s_callV (M' := mX1_goOn) (As := [.int x2]) (st := []) dX11_hours_79 lm_X11_183 ovX1_goOn (h := (sk0 c, (mx_set I 65 7 1))) (sk_65 _) (show vwCl[1]? = some _ from rfl) rfl (by simp [Value.category]) (by decide) rfl (k1)
set_option maxRecDepth 10000 in
set_option maxHeartbeats 1000000 in
theorem sg_X11_hours_82 {l : Launch} {d : Nat} {Q : Option Value → mx_H → Prop} {c : Nat} {I : mx_I} (x1 : Int32) (x2 : Int32)
    (q1 : Q (some (.int (I 65 15))) (sk0 c, I)) :
    mx_Go l (mx_rm (d + 1) 0 0) mX11_hours (mx_Z Q 0 0) 0 0 82 [.ref 0, .int x1, .int x2] [] (sk0 c, I) := by
  refine g_aload_n dX11_hours_82 rfl rfl ?_
  refine rg_X11_4 (r := 65) dX11_hours_83 lf_X11_45 (sk_0 _) rfl ?_
  refine rg_X1_15 (v := (I 65 15)) dX11_hours_86 lf_X11_186 (sk_65 _) rfl ?_
  exact g_iret rfl dX11_hours_89 rfl (Nat.le_refl _) (q1)
set_option maxRecDepth 10000 in
set_option maxHeartbeats 1000000 in
theorem sn_X11_of {l : Launch} {d : Nat} {Q : Option Value → mx_H → Prop} {c : Nat} {I : mx_I} (a1 : Int32) (a2 : Int32)
    (k1 : mx_K1 l mX5_has d [.ref 2, .int a1] (sk0 c, I) (fun r h' => mx_Go l (mx_rm (d + 1) 0 0) mX11_of (mx_Z Q 0 0) 0 0 11 [.ref 0, .int a1, .int a2] (r.toList ++ []) h')) :
    mx_Spec l mX11_of (d + 1) 0 0 [.ref 0, .int a1, .int a2] (sk0 c, I) Q := by
  refine mx_enter rfl (by simp [Value.category]) (Nat.le_of_ble_eq_true rfl) ?_
  change mx_Go l (mx_rm (d + 1) 0 0) mX11_of (mx_Z Q 0 0) 0 0 0 [.ref 0, .int a1, .int a2] [] (sk0 c, I)
  refine g_aload_n dX11_of_0 rfl rfl ?_
  refine rg_X11_0 (r := 1) dX11_of_1 lf_X11_12 (sk_0 _) rfl ?_
  refine rg_X10_0 (r := 2) dX11_of_4 lf_X11_79 (sk_1 _) rfl ?_
  refine g_iload_n dX11_of_7 rfl rfl ?_
  exact s_callV (M' := mX5_has) (As := [.int a1]) (st := []) dX11_of_8 lm_X11_89 ovX5_has (h := (sk0 c, I)) (sk_2 _) (show vwCl[5]? = some _ from rfl) rfl (by simp [Value.category]) (by decide) rfl (k1)
set_option maxRecDepth 10000 in
set_option maxHeartbeats 1000000 in
theorem sg_X11_of_11 {l : Launch} {d : Nat} {Q : Option Value → mx_H → Prop} {c : Nat} {I : mx_I} (x1 : Int32) (x2 : Int32) (x3 : Int32)
    (b1 : (¬ x3 = 0) → (x2 = 0) → vp_in x1 30)
    (q2 : (¬ x3 = 0) → (x2 = 0) → Q (some (.int (I 3 x1.toNatClampNeg))) (sk0 c, I))
    (b3 : (¬ x3 = 0) → (x2 = 1) → vp_in x1 30)
    (q4 : (¬ x3 = 0) → (x2 = 1) → Q (some (.int (I 34 x1.toNatClampNeg))) (sk0 c, I))
    (b5 : (¬ x3 = 0) → (x2 = 2) → vp_in x1 30)
    (q6 : (¬ x3 = 0) → (x2 = 2) → Q (some (.int (I 35 x1.toNatClampNeg))) (sk0 c, I))
    (b7 : (¬ x3 = 0) → (x2 = 3) → vp_in x1 30)
    (q8 : (¬ x3 = 0) → (x2 = 3) → Q (some (.int (I 36 x1.toNatClampNeg))) (sk0 c, I))
    (b9 : (¬ x3 = 0) → (x2 = 4) → vp_in x1 30)
    (q10 : (¬ x3 = 0) → (x2 = 4) → Q (some (.int (I 5 x1.toNatClampNeg))) (sk0 c, I))
    (b11 : (¬ x3 = 0) → (x2 = 5) → vp_in x1 30)
    (q12 : (¬ x3 = 0) → (x2 = 5) → Q (some (.int (I 37 x1.toNatClampNeg))) (sk0 c, I))
    (q13 : (¬ x3 = 0) → (¬ x2 = 0) → (¬ x2 = 1) → (¬ x2 = 2) → (¬ x2 = 3) → (¬ x2 = 4) → (¬ x2 = 5) → Q (some (.int (-2))) (sk0 c, I))
    (q14 : (x3 = 0) → Q (some (.int (-2))) (sk0 c, I)) :
    mx_Go l (mx_rm (d + 1) 0 0) mX11_of (mx_Z Q 0 0) 0 0 11 [.ref 0, .int x1, .int x2] [.int x3] (sk0 c, I) := by
  refine g_if_ne (tgt := 17) dX11_of_11 (by decide) (fun c1 => ?_) (fun c2 => ?_)
  · skip
    refine g_iload_n dX11_of_17 rfl rfl ?_
    rcases Decidable.em (x2 = 0) with c3 | c4
    · skip
      refine g_tableIn (off := 38) (tgt := 56) dX11_of_18 (by rw [c3]; decide) (by rw [c3]; decide) (by rw [c3]; rfl) (by decide) ?_
      refine g_aload_n dX11_of_56 rfl rfl ?_
      refine rg_X11_0 (r := 1) dX11_of_57 lf_X11_12 (sk_0 _) rfl ?_
      refine rg_X10_0 (r := 2) dX11_of_60 lf_X11_79 (sk_1 _) rfl ?_
      refine rg_X5_0 (r := 3) dX11_of_63 lf_X11_189 (sk_2 _) rfl ?_
      refine g_iload_n dX11_of_66 rfl rfl ?_
      refine s_iald (j := x1.toNatClampNeg) (v := (I 3 x1.toNatClampNeg)) dX11_of_67 (sk_3 _) (b1 c1 c3) rfl rfl ?_
      exact g_iret rfl dX11_of_68 rfl (Nat.le_refl _) (q2 c1 c3)
    · skip
      rcases Decidable.em (x2 = 1) with c5 | c6
      · skip
        refine g_tableIn (off := 51) (tgt := 69) dX11_of_18 (by rw [c5]; decide) (by rw [c5]; decide) (by rw [c5]; rfl) (by decide) ?_
        refine g_aload_n dX11_of_69 rfl rfl ?_
        refine rg_X11_1 (r := 33) dX11_of_70 lf_X11_19 (sk_0 _) rfl ?_
        refine rg_X9_0 (r := 34) dX11_of_73 lf_X11_192 (sk_33 _) rfl ?_
        refine g_iload_n dX11_of_76 rfl rfl ?_
        refine s_iald (j := x1.toNatClampNeg) (v := (I 34 x1.toNatClampNeg)) dX11_of_77 (sk_34 _) (b3 c1 c5) rfl rfl ?_
        exact g_iret rfl dX11_of_78 rfl (Nat.le_refl _) (q4 c1 c5)
      · skip
        rcases Decidable.em (x2 = 2) with c7 | c8
        · skip
          refine g_tableIn (off := 61) (tgt := 79) dX11_of_18 (by rw [c7]; decide) (by rw [c7]; decide) (by rw [c7]; rfl) (by decide) ?_
          refine g_aload_n dX11_of_79 rfl rfl ?_
          refine rg_X11_1 (r := 33) dX11_of_80 lf_X11_19 (sk_0 _) rfl ?_
          refine rg_X9_1 (r := 35) dX11_of_83 lf_X11_195 (sk_33 _) rfl ?_
          refine g_iload_n dX11_of_86 rfl rfl ?_
          refine s_iald (j := x1.toNatClampNeg) (v := (I 35 x1.toNatClampNeg)) dX11_of_87 (sk_35 _) (b5 c1 c7) rfl rfl ?_
          exact g_iret rfl dX11_of_88 rfl (Nat.le_refl _) (q6 c1 c7)
        · skip
          rcases Decidable.em (x2 = 3) with c9 | c10
          · skip
            refine g_tableIn (off := 71) (tgt := 89) dX11_of_18 (by rw [c9]; decide) (by rw [c9]; decide) (by rw [c9]; rfl) (by decide) ?_
            refine g_aload_n dX11_of_89 rfl rfl ?_
            refine rg_X11_1 (r := 33) dX11_of_90 lf_X11_19 (sk_0 _) rfl ?_
            refine rg_X9_2 (r := 36) dX11_of_93 lf_X11_198 (sk_33 _) rfl ?_
            refine g_iload_n dX11_of_96 rfl rfl ?_
            refine s_iald (j := x1.toNatClampNeg) (v := (I 36 x1.toNatClampNeg)) dX11_of_97 (sk_36 _) (b7 c1 c9) rfl rfl ?_
            exact g_iret rfl dX11_of_98 rfl (Nat.le_refl _) (q8 c1 c9)
          · skip
            rcases Decidable.em (x2 = 4) with c11 | c12
            · skip
              refine g_tableIn (off := 81) (tgt := 99) dX11_of_18 (by rw [c11]; decide) (by rw [c11]; decide) (by rw [c11]; rfl) (by decide) ?_
              refine g_aload_n dX11_of_99 rfl rfl ?_
              refine rg_X11_0 (r := 1) dX11_of_100 lf_X11_12 (sk_0 _) rfl ?_
              refine rg_X10_0 (r := 2) dX11_of_103 lf_X11_79 (sk_1 _) rfl ?_
              refine rg_X5_2 (r := 5) dX11_of_106 lf_X11_201 (sk_2 _) rfl ?_
              refine g_iload_n dX11_of_109 rfl rfl ?_
              refine s_iald (j := x1.toNatClampNeg) (v := (I 5 x1.toNatClampNeg)) dX11_of_110 (sk_5 _) (b9 c1 c11) rfl rfl ?_
              exact g_iret rfl dX11_of_111 rfl (Nat.le_refl _) (q10 c1 c11)
            · skip
              rcases Decidable.em (x2 = 5) with c13 | c14
              · skip
                refine g_tableIn (off := 94) (tgt := 112) dX11_of_18 (by rw [c13]; decide) (by rw [c13]; decide) (by rw [c13]; rfl) (by decide) ?_
                refine g_aload_n dX11_of_112 rfl rfl ?_
                refine rg_X11_1 (r := 33) dX11_of_113 lf_X11_19 (sk_0 _) rfl ?_
                refine rg_X9_3 (r := 37) dX11_of_116 lf_X11_204 (sk_33 _) rfl ?_
                refine g_iload_n dX11_of_119 rfl rfl ?_
                refine s_iald (j := x1.toNatClampNeg) (v := (I 37 x1.toNatClampNeg)) dX11_of_120 (sk_37 _) (b11 c1 c13) rfl rfl ?_
                exact g_iret rfl dX11_of_121 rfl (Nat.le_refl _) (q12 c1 c13)
              · skip
                refine g_tableOut (tgt := 122) dX11_of_18 (by have q4 := mx_i32 (n := 0) (by decide) c4; have q6 := mx_i32 (n := 1) (by decide) c6; have q8 := mx_i32 (n := 2) (by decide) c8; have q10 := mx_i32 (n := 3) (by decide) c10; have q12 := mx_i32 (n := 4) (by decide) c12; have q14 := mx_i32 (n := 5) (by decide) c14; omega) (by decide) ?_
                refine g_bipush (v := (-2)) dX11_of_122 (by decide) ?_
                exact g_iret rfl dX11_of_124 rfl (Nat.le_refl _) (q13 c1 c4 c6 c8 c10 c12 c14)
  · skip
    refine g_bipush (v := (-2)) dX11_of_14 (by decide) ?_
    exact g_iret rfl dX11_of_16 rfl (Nat.le_refl _) (q14 c2)
set_option maxRecDepth 10000 in
set_option maxHeartbeats 1000000 in
theorem sn_X11_who {l : Launch} {d : Nat} {Q : Option Value → mx_H → Prop} {c : Nat} {I : mx_I} (a1 : Int32) (a2 : Int32)
    (k1 : mx_K1 l mX2_has d [.ref 8, .int a1] (sk0 c, I) (fun r h' => mx_Go l (mx_rm (d + 1) 0 0) mX11_who (mx_Z Q 0 0) 0 0 11 [.ref 0, .int a1, .int a2] (r.toList ++ []) h')) :
    mx_Spec l mX11_who (d + 1) 0 0 [.ref 0, .int a1, .int a2] (sk0 c, I) Q := by
  refine mx_enter rfl (by simp [Value.category]) (Nat.le_of_ble_eq_true rfl) ?_
  change mx_Go l (mx_rm (d + 1) 0 0) mX11_who (mx_Z Q 0 0) 0 0 0 [.ref 0, .int a1, .int a2] [] (sk0 c, I)
  refine g_aload_n dX11_who_0 rfl rfl ?_
  refine rg_X11_0 (r := 1) dX11_who_1 lf_X11_12 (sk_0 _) rfl ?_
  refine rg_X10_1 (r := 8) dX11_who_4 lf_X11_103 (sk_1 _) rfl ?_
  refine g_iload_n dX11_who_7 rfl rfl ?_
  exact s_callV (M' := mX2_has) (As := [.int a1]) (st := []) dX11_who_8 lm_X11_112 ovX2_has (h := (sk0 c, I)) (sk_8 _) (show vwCl[2]? = some _ from rfl) rfl (by simp [Value.category]) (by decide) rfl (k1)
set_option maxRecDepth 10000 in
set_option maxHeartbeats 1000000 in
theorem sg_X11_who_11 {l : Launch} {d : Nat} {Q : Option Value → mx_H → Prop} {c : Nat} {I : mx_I} (x1 : Int32) (x2 : Int32) (x3 : Int32)
    (b1 : (¬ x3 = 0) → (x2 = 8) → vp_in x1 20)
    (q2 : (¬ x3 = 0) → (x2 = 8) → Q (some (.int (I 40 x1.toNatClampNeg))) (sk0 c, I))
    (b3 : (¬ x3 = 0) → (x2 = 9) → vp_in x1 20)
    (q4 : (¬ x3 = 0) → (x2 = 9) → Q (some (.int (I 41 x1.toNatClampNeg))) (sk0 c, I))
    (b5 : (¬ x3 = 0) → (x2 = 10) → vp_in x1 20)
    (q6 : (¬ x3 = 0) → (x2 = 10) → Q (some (.int (I 42 x1.toNatClampNeg))) (sk0 c, I))
    (k7 : (¬ x3 = 0) → (¬ x2 = 8) → (¬ x2 = 9) → (¬ x2 = 10) → mx_K1 l mX2_tell d [.ref 8, .int x1, .int x2] (sk0 c, I) (fun r h' => mx_Go l (mx_rm (d + 1) 0 0) mX11_who (mx_Z Q 0 0) 0 0 86 [.ref 0, .int x1, .int x2] (r.toList ++ []) h'))
    (q8 : (x3 = 0) → Q (some (.int (-2))) (sk0 c, I)) :
    mx_Go l (mx_rm (d + 1) 0 0) mX11_who (mx_Z Q 0 0) 0 0 11 [.ref 0, .int x1, .int x2] [.int x3] (sk0 c, I) := by
  refine g_if_ne (tgt := 17) dX11_who_11 (by decide) (fun c1 => ?_) (fun c2 => ?_)
  · skip
    refine g_iload_n dX11_who_17 rfl rfl ?_
    rcases Decidable.em (x2 = 8) with c3 | c4
    · skip
      refine g_tableIn (off := 26) (tgt := 44) dX11_who_18 (by rw [c3]; decide) (by rw [c3]; decide) (by rw [c3]; rfl) (by decide) ?_
      refine g_aload_n dX11_who_44 rfl rfl ?_
      refine rg_X11_1 (r := 33) dX11_who_45 lf_X11_19 (sk_0 _) rfl ?_
      refine rg_X9_6 (r := 40) dX11_who_48 lf_X11_113 (sk_33 _) rfl ?_
      refine g_iload_n dX11_who_51 rfl rfl ?_
      refine s_iald (j := x1.toNatClampNeg) (v := (I 40 x1.toNatClampNeg)) dX11_who_52 (sk_40 _) (b1 c1 c3) rfl rfl ?_
      exact g_iret rfl dX11_who_53 rfl (Nat.le_refl _) (q2 c1 c3)
    · skip
      rcases Decidable.em (x2 = 9) with c5 | c6
      · skip
        refine g_tableIn (off := 36) (tgt := 54) dX11_who_18 (by rw [c5]; decide) (by rw [c5]; decide) (by rw [c5]; rfl) (by decide) ?_
        refine g_aload_n dX11_who_54 rfl rfl ?_
        refine rg_X11_1 (r := 33) dX11_who_55 lf_X11_19 (sk_0 _) rfl ?_
        refine rg_X9_7 (r := 41) dX11_who_58 lf_X11_207 (sk_33 _) rfl ?_
        refine g_iload_n dX11_who_61 rfl rfl ?_
        refine s_iald (j := x1.toNatClampNeg) (v := (I 41 x1.toNatClampNeg)) dX11_who_62 (sk_41 _) (b3 c1 c5) rfl rfl ?_
        exact g_iret rfl dX11_who_63 rfl (Nat.le_refl _) (q4 c1 c5)
      · skip
        rcases Decidable.em (x2 = 10) with c7 | c8
        · skip
          refine g_tableIn (off := 46) (tgt := 64) dX11_who_18 (by rw [c7]; decide) (by rw [c7]; decide) (by rw [c7]; rfl) (by decide) ?_
          refine g_aload_n dX11_who_64 rfl rfl ?_
          refine rg_X11_1 (r := 33) dX11_who_65 lf_X11_19 (sk_0 _) rfl ?_
          refine rg_X9_8 (r := 42) dX11_who_68 lf_X11_210 (sk_33 _) rfl ?_
          refine g_iload_n dX11_who_71 rfl rfl ?_
          refine s_iald (j := x1.toNatClampNeg) (v := (I 42 x1.toNatClampNeg)) dX11_who_72 (sk_42 _) (b5 c1 c7) rfl rfl ?_
          exact g_iret rfl dX11_who_73 rfl (Nat.le_refl _) (q6 c1 c7)
        · skip
          refine g_tableOut (tgt := 74) dX11_who_18 (by have q4 := mx_i32 (n := 8) (by decide) c4; have q6 := mx_i32 (n := 9) (by decide) c6; have q8 := mx_i32 (n := 10) (by decide) c8; omega) (by decide) ?_
          refine g_aload_n dX11_who_74 rfl rfl ?_
          refine rg_X11_0 (r := 1) dX11_who_75 lf_X11_12 (sk_0 _) rfl ?_
          refine rg_X10_1 (r := 8) dX11_who_78 lf_X11_103 (sk_1 _) rfl ?_
          refine g_iload_n dX11_who_81 rfl rfl ?_
          refine g_iload_n dX11_who_82 rfl rfl ?_
          exact s_callV (M' := mX2_tell) (As := [.int x1, .int x2]) (st := []) dX11_who_83 lm_X11_213 ovX2_tell (h := (sk0 c, I)) (sk_8 _) (show vwCl[2]? = some _ from rfl) rfl (by simp [Value.category]) (by decide) rfl (k7 c1 c4 c6 c8)
  · skip
    refine g_bipush (v := (-2)) dX11_who_14 (by decide) ?_
    exact g_iret rfl dX11_who_16 rfl (Nat.le_refl _) (q8 c2)
set_option maxRecDepth 10000 in
set_option maxHeartbeats 1000000 in
theorem sg_X11_who_86 {l : Launch} {d : Nat} {Q : Option Value → mx_H → Prop} {c : Nat} {I : mx_I} (x1 : Int32) (x2 : Int32) (x3 : Int32)
    (q1 : Q (some (.int x3)) (sk0 c, I)) :
    mx_Go l (mx_rm (d + 1) 0 0) mX11_who (mx_Z Q 0 0) 0 0 86 [.ref 0, .int x1, .int x2] [.int x3] (sk0 c, I) := by
  exact g_iret rfl dX11_who_86 rfl (Nat.le_refl _) (q1)
set_option maxRecDepth 10000 in
set_option maxHeartbeats 1000000 in
theorem sn_X11_waits {l : Launch} {d : Nat} {Q : Option Value → mx_H → Prop} {c : Nat} {I : mx_I} (a1 : Int32) (a2 : Int32)
    (k1 : mx_K1 l mX10_hasEnd d [.ref 1, .int a1] (sk0 c, I) (fun r h' => mx_Go l (mx_rm (d + 1) 0 0) mX11_waits (mx_Z Q 0 0) 0 0 8 [.ref 0, .int a1, .int a2] (r.toList ++ []) h')) :
    mx_Spec l mX11_waits (d + 1) 0 0 [.ref 0, .int a1, .int a2] (sk0 c, I) Q := by
  refine mx_enter rfl (by simp [Value.category]) (Nat.le_of_ble_eq_true rfl) ?_
  change mx_Go l (mx_rm (d + 1) 0 0) mX11_waits (mx_Z Q 0 0) 0 0 0 [.ref 0, .int a1, .int a2] [] (sk0 c, I)
  refine g_aload_n dX11_waits_0 rfl rfl ?_
  refine rg_X11_0 (r := 1) dX11_waits_1 lf_X11_12 (sk_0 _) rfl ?_
  refine g_iload_n dX11_waits_4 rfl rfl ?_
  exact s_callV (M' := mX10_hasEnd) (As := [.int a1]) (st := []) dX11_waits_5 lm_X11_72 ovX10_hasEnd (h := (sk0 c, I)) (sk_1 _) (show vwCl[10]? = some _ from rfl) rfl (by simp [Value.category]) (by decide) rfl (k1)
set_option maxRecDepth 10000 in
set_option maxHeartbeats 1000000 in
theorem sg_X11_waits_8 {l : Launch} {d : Nat} {Q : Option Value → mx_H → Prop} {c : Nat} {I : mx_I} (x1 : Int32) (x2 : Int32) (x3 : Int32)
    (q1 : (x3 = 0) → Q (some (.int (-1))) (sk0 c, I))
    (q2 : (¬ x3 = 0) → (x2 < 0) → Q (some (.int (-1))) (sk0 c, I))
    (b3 : (¬ x3 = 0) → (¬ x2 < 0) → vp_in x1 4)
    (b4 : (¬ x3 = 0) → (¬ x2 < 0) → (x2 < (I 39 x1.toNatClampNeg)) → vp_in ((x1 * 30) + x2) 120)
    (q5 : (¬ x3 = 0) → (¬ x2 < 0) → (x2 < (I 39 x1.toNatClampNeg)) → Q (some (.int (I 38 ((x1 * 30) + x2).toNatClampNeg))) (sk0 c, I))
    (q6 : (¬ x3 = 0) → (¬ x2 < 0) → (¬ x2 < (I 39 x1.toNatClampNeg)) → Q (some (.int (-1))) (sk0 c, I)) :
    mx_Go l (mx_rm (d + 1) 0 0) mX11_waits (mx_Z Q 0 0) 0 0 8 [.ref 0, .int x1, .int x2] [.int x3] (sk0 c, I) := by
  refine g_if_eq (tgt := 28) dX11_waits_8 (by decide) (fun c1 => ?_) (fun c2 => ?_)
  · skip
    refine g_iconst (v := (-1)) dX11_waits_28 (by decide) ?_
    exact g_iret rfl dX11_waits_29 rfl (Nat.le_refl _) (q1 c1)
  · skip
    refine g_iload_n dX11_waits_11 rfl rfl ?_
    refine g_if_lt (tgt := 28) dX11_waits_12 (by decide) (fun c3 => ?_) (fun c4 => ?_)
    · skip
      refine g_iconst (v := (-1)) dX11_waits_28 (by decide) ?_
      exact g_iret rfl dX11_waits_29 rfl (Nat.le_refl _) (q2 c2 c3)
    · skip
      refine g_iload_n dX11_waits_15 rfl rfl ?_
      refine g_aload_n dX11_waits_16 rfl rfl ?_
      refine rg_X11_1 (r := 33) dX11_waits_17 lf_X11_19 (sk_0 _) rfl ?_
      refine rg_X9_5 (r := 39) dX11_waits_20 lf_X11_217 (sk_33 _) rfl ?_
      refine g_iload_n dX11_waits_23 rfl rfl ?_
      refine s_iald (j := x1.toNatClampNeg) (v := (I 39 x1.toNatClampNeg)) dX11_waits_24 (sk_39 _) (b3 c2 c4) rfl rfl ?_
      refine g_icmp_lt (tgt := 30) dX11_waits_25 (by decide) (fun c5 => ?_) (fun c6 => ?_)
      · skip
        refine g_aload_n dX11_waits_30 rfl rfl ?_
        refine rg_X11_1 (r := 33) dX11_waits_31 lf_X11_19 (sk_0 _) rfl ?_
        refine rg_X9_4 (r := 38) dX11_waits_34 lf_X11_220 (sk_33 _) rfl ?_
        refine g_iload_n dX11_waits_37 rfl rfl ?_
        refine g_bipush (v := 30) dX11_waits_38 (by decide) ?_
        refine g_imul dX11_waits_40 ?_
        refine g_iload_n dX11_waits_41 rfl rfl ?_
        refine g_iadd dX11_waits_42 ?_
        refine s_iald (j := ((x1 * 30) + x2).toNatClampNeg) (v := (I 38 ((x1 * 30) + x2).toNatClampNeg)) dX11_waits_43 (sk_38 _) (b4 c2 c4 c5) rfl rfl ?_
        exact g_iret rfl dX11_waits_44 rfl (Nat.le_refl _) (q5 c2 c4 c5)
      · skip
        refine g_iconst (v := (-1)) dX11_waits_28 (by decide) ?_
        exact g_iret rfl dX11_waits_29 rfl (Nat.le_refl _) (q6 c2 c4 c6)
set_option maxRecDepth 10000 in
set_option maxHeartbeats 1000000 in
theorem sn_X11_book {l : Launch} {d : Nat} {Q : Option Value → mx_H → Prop} {c : Nat} {I : mx_I} (a1 : Int32) (a2 : Int32)
    (q1 : (a1 < 0) → Q (some (.int (-1))) (sk0 c, I))
    (b2 : (¬ a1 < 0) → (a1 < (I 43 3)) → (a2 = 0) → vp_in a1 300)
    (q3 : (¬ a1 < 0) → (a1 < (I 43 3)) → (a2 = 0) → Q (some (.int (I 44 a1.toNatClampNeg))) (sk0 c, I))
    (b4 : (¬ a1 < 0) → (a1 < (I 43 3)) → (a2 = 1) → vp_in a1 300)
    (q5 : (¬ a1 < 0) → (a1 < (I 43 3)) → (a2 = 1) → Q (some (.int (I 45 a1.toNatClampNeg))) (sk0 c, I))
    (b6 : (¬ a1 < 0) → (a1 < (I 43 3)) → (a2 = 2) → vp_in a1 300)
    (q7 : (¬ a1 < 0) → (a1 < (I 43 3)) → (a2 = 2) → Q (some (.int (I 46 a1.toNatClampNeg))) (sk0 c, I))
    (q8 : (¬ a1 < 0) → (a1 < (I 43 3)) → (¬ a2 = 0) → (¬ a2 = 1) → (¬ a2 = 2) → Q (some (.int (-1))) (sk0 c, I))
    (q9 : (¬ a1 < 0) → (¬ a1 < (I 43 3)) → Q (some (.int (-1))) (sk0 c, I)) :
    mx_Spec l mX11_book (d + 1) 0 0 [.ref 0, .int a1, .int a2] (sk0 c, I) Q := by
  refine mx_enter rfl (by simp [Value.category]) (Nat.le_of_ble_eq_true rfl) ?_
  change mx_Go l (mx_rm (d + 1) 0 0) mX11_book (mx_Z Q 0 0) 0 0 0 [.ref 0, .int a1, .int a2] [] (sk0 c, I)
  refine g_iload_n dX11_book_0 rfl rfl ?_
  refine g_if_lt (tgt := 15) dX11_book_1 (by decide) (fun c1 => ?_) (fun c2 => ?_)
  · skip
    refine g_iconst (v := (-1)) dX11_book_15 (by decide) ?_
    exact g_iret rfl dX11_book_16 rfl (Nat.le_refl _) (q1 c1)
  · skip
    refine g_iload_n dX11_book_4 rfl rfl ?_
    refine g_aload_n dX11_book_5 rfl rfl ?_
    refine rg_X11_2 (r := 43) dX11_book_6 lf_X11_26 (sk_0 _) rfl ?_
    refine rg_X0_3 (v := (I 43 3)) dX11_book_9 lf_X11_68 (sk_43 _) rfl ?_
    refine g_icmp_lt (tgt := 17) dX11_book_12 (by decide) (fun c3 => ?_) (fun c4 => ?_)
    · skip
      refine g_iload_n dX11_book_17 rfl rfl ?_
      rcases Decidable.em (a2 = 0) with c5 | c6
      · skip
        refine g_tableIn (off := 26) (tgt := 44) dX11_book_18 (by rw [c5]; decide) (by rw [c5]; decide) (by rw [c5]; rfl) (by decide) ?_
        refine g_aload_n dX11_book_44 rfl rfl ?_
        refine rg_X11_2 (r := 43) dX11_book_45 lf_X11_26 (sk_0 _) rfl ?_
        refine rg_X0_0 (r := 44) dX11_book_48 lf_X11_223 (sk_43 _) rfl ?_
        refine g_iload_n dX11_book_51 rfl rfl ?_
        refine s_iald (j := a1.toNatClampNeg) (v := (I 44 a1.toNatClampNeg)) dX11_book_52 (sk_44 _) (b2 c2 c3 c5) rfl rfl ?_
        exact g_iret rfl dX11_book_53 rfl (Nat.le_refl _) (q3 c2 c3 c5)
      · skip
        rcases Decidable.em (a2 = 1) with c7 | c8
        · skip
          refine g_tableIn (off := 36) (tgt := 54) dX11_book_18 (by rw [c7]; decide) (by rw [c7]; decide) (by rw [c7]; rfl) (by decide) ?_
          refine g_aload_n dX11_book_54 rfl rfl ?_
          refine rg_X11_2 (r := 43) dX11_book_55 lf_X11_26 (sk_0 _) rfl ?_
          refine rg_X0_1 (r := 45) dX11_book_58 lf_X11_225 (sk_43 _) rfl ?_
          refine g_iload_n dX11_book_61 rfl rfl ?_
          refine s_iald (j := a1.toNatClampNeg) (v := (I 45 a1.toNatClampNeg)) dX11_book_62 (sk_45 _) (b4 c2 c3 c7) rfl rfl ?_
          exact g_iret rfl dX11_book_63 rfl (Nat.le_refl _) (q5 c2 c3 c7)
        · skip
          rcases Decidable.em (a2 = 2) with c9 | c10
          · skip
            refine g_tableIn (off := 46) (tgt := 64) dX11_book_18 (by rw [c9]; decide) (by rw [c9]; decide) (by rw [c9]; rfl) (by decide) ?_
            refine g_aload_n dX11_book_64 rfl rfl ?_
            refine rg_X11_2 (r := 43) dX11_book_65 lf_X11_26 (sk_0 _) rfl ?_
            refine rg_X0_2 (r := 46) dX11_book_68 lf_X11_227 (sk_43 _) rfl ?_
            refine g_iload_n dX11_book_71 rfl rfl ?_
            refine s_iald (j := a1.toNatClampNeg) (v := (I 46 a1.toNatClampNeg)) dX11_book_72 (sk_46 _) (b6 c2 c3 c9) rfl rfl ?_
            exact g_iret rfl dX11_book_73 rfl (Nat.le_refl _) (q7 c2 c3 c9)
          · skip
            refine g_tableOut (tgt := 74) dX11_book_18 (by have q6 := mx_i32 (n := 0) (by decide) c6; have q8 := mx_i32 (n := 1) (by decide) c8; have q10 := mx_i32 (n := 2) (by decide) c10; omega) (by decide) ?_
            refine g_iconst (v := (-1)) dX11_book_74 (by decide) ?_
            exact g_iret rfl dX11_book_75 rfl (Nat.le_refl _) (q8 c2 c3 c6 c8 c10)
    · skip
      refine g_iconst (v := (-1)) dX11_book_15 (by decide) ?_
      exact g_iret rfl dX11_book_16 rfl (Nat.le_refl _) (q9 c2 c4)
set_option maxRecDepth 10000 in
set_option maxHeartbeats 1000000 in
theorem sn_X11_over {l : Launch} {d : Nat} {Q : Option Value → mx_H → Prop} {c : Nat} {I : mx_I} (a1 : Int32) (a2 : Int32)
    (k1 : mx_K1 l mX5_has d [.ref 2, .int a1] (sk0 c, I) (fun r h' => mx_Go l (mx_rm (d + 1) 0 0) mX11_over (mx_Z Q 0 0) 0 0 11 [.ref 0, .int a1, .int a2] (r.toList ++ []) h')) :
    mx_Spec l mX11_over (d + 1) 0 0 [.ref 0, .int a1, .int a2] (sk0 c, I) Q := by
  refine mx_enter rfl (by simp [Value.category]) (Nat.le_of_ble_eq_true rfl) ?_
  change mx_Go l (mx_rm (d + 1) 0 0) mX11_over (mx_Z Q 0 0) 0 0 0 [.ref 0, .int a1, .int a2] [] (sk0 c, I)
  refine g_aload_n dX11_over_0 rfl rfl ?_
  refine rg_X11_0 (r := 1) dX11_over_1 lf_X11_12 (sk_0 _) rfl ?_
  refine rg_X10_0 (r := 2) dX11_over_4 lf_X11_79 (sk_1 _) rfl ?_
  refine g_iload_n dX11_over_7 rfl rfl ?_
  exact s_callV (M' := mX5_has) (As := [.int a1]) (st := []) dX11_over_8 lm_X11_89 ovX5_has (h := (sk0 c, I)) (sk_2 _) (show vwCl[5]? = some _ from rfl) rfl (by simp [Value.category]) (by decide) rfl (k1)
set_option maxRecDepth 10000 in
set_option maxHeartbeats 1000000 in
theorem sg_X11_over_11 {l : Launch} {d : Nat} {Q : Option Value → mx_H → Prop} {c : Nat} {I : mx_I} (x1 : Int32) (x2 : Int32) (x3 : Int32)
    (q1 : (x3 = 0) → Q (some (.int (-1))) (sk0 c, I))
    (k2 : (¬ x3 = 0) → mx_K1 l mX10_hasEnd d [.ref 1, .int x2] (sk0 c, I) (fun r h' => mx_Go l (mx_rm (d + 1) 0 0) mX11_over (mx_Z Q 0 0) 0 0 22 [.ref 0, .int x1, .int x2] (r.toList ++ []) h')) :
    mx_Go l (mx_rm (d + 1) 0 0) mX11_over (mx_Z Q 0 0) 0 0 11 [.ref 0, .int x1, .int x2] [.int x3] (sk0 c, I) := by
  refine g_if_eq (tgt := 25) dX11_over_11 (by decide) (fun c1 => ?_) (fun c2 => ?_)
  · skip
    refine g_iconst (v := (-1)) dX11_over_25 (by decide) ?_
    exact g_iret rfl dX11_over_26 rfl (Nat.le_refl _) (q1 c1)
  · skip
    refine g_aload_n dX11_over_14 rfl rfl ?_
    refine rg_X11_0 (r := 1) dX11_over_15 lf_X11_12 (sk_0 _) rfl ?_
    refine g_iload_n dX11_over_18 rfl rfl ?_
    exact s_callV (M' := mX10_hasEnd) (As := [.int x2]) (st := []) dX11_over_19 lm_X11_72 ovX10_hasEnd (h := (sk0 c, I)) (sk_1 _) (show vwCl[10]? = some _ from rfl) rfl (by simp [Value.category]) (by decide) rfl (k2 c2)
set_option maxRecDepth 10000 in
set_option maxHeartbeats 1000000 in
theorem sg_X11_over_22 {l : Launch} {d : Nat} {Q : Option Value → mx_H → Prop} {c : Nat} {I : mx_I} (x1 : Int32) (x2 : Int32) (x3 : Int32)
    (k1 : (¬ x3 = 0) → mx_K1 l mX9_isAt d [.ref 33, .int x1, .int x2] (sk0 c, I) (fun r h' => mx_Go l (mx_rm (d + 1) 0 0) mX11_over (mx_Z Q 0 0) 0 0 36 [.ref 0, .int x1, .int x2] (r.toList ++ []) h'))
    (q2 : (x3 = 0) → Q (some (.int (-1))) (sk0 c, I)) :
    mx_Go l (mx_rm (d + 1) 0 0) mX11_over (mx_Z Q 0 0) 0 0 22 [.ref 0, .int x1, .int x2] [.int x3] (sk0 c, I) := by
  refine g_if_ne (tgt := 27) dX11_over_22 (by decide) (fun c1 => ?_) (fun c2 => ?_)
  · skip
    refine g_aload_n dX11_over_27 rfl rfl ?_
    refine rg_X11_1 (r := 33) dX11_over_28 lf_X11_19 (sk_0 _) rfl ?_
    refine g_iload_n dX11_over_31 rfl rfl ?_
    refine g_iload_n dX11_over_32 rfl rfl ?_
    exact s_callV (M' := mX9_isAt) (As := [.int x1, .int x2]) (st := []) dX11_over_33 lm_X11_230 ovX9_isAt (h := (sk0 c, I)) (sk_33 _) (show vwCl[9]? = some _ from rfl) rfl (by simp [Value.category]) (by decide) rfl (k1 c1)
  · skip
    refine g_iconst (v := (-1)) dX11_over_25 (by decide) ?_
    exact g_iret rfl dX11_over_26 rfl (Nat.le_refl _) (q2 c2)
set_option maxRecDepth 10000 in
set_option maxHeartbeats 1000000 in
theorem sg_X11_over_36 {l : Launch} {d : Nat} {Q : Option Value → mx_H → Prop} {c : Nat} {I : mx_I} (x1 : Int32) (x2 : Int32) (x3 : Int32)
    (k1 : (x3 = 0) → mx_K1 l mX7_make d [.ref 66, .ref 1, .int (I 33 9)] (sk0 c, I) (fun r h' => mx_Go l (mx_rm (d + 1) 0 0) mX11_over (mx_Z Q 0 0) 0 0 68 [.ref 0, .int x1, .int x2] (r.toList ++ []) h'))
    (q2 : (¬ x3 = 0) → Q (some (.int (I 33 9))) (sk0 c, I)) :
    mx_Go l (mx_rm (d + 1) 0 0) mX11_over (mx_Z Q 0 0) 0 0 36 [.ref 0, .int x1, .int x2] [.int x3] (sk0 c, I) := by
  refine g_if_eq (tgt := 47) dX11_over_36 (by decide) (fun c1 => ?_) (fun c2 => ?_)
  · skip
    refine g_aload_n dX11_over_47 rfl rfl ?_
    refine rg_X11_4 (r := 65) dX11_over_48 lf_X11_45 (sk_0 _) rfl ?_
    refine rg_X1_2 (r := 66) dX11_over_51 lf_X11_166 (sk_65 _) rfl ?_
    refine g_aload_n dX11_over_54 rfl rfl ?_
    refine rg_X11_0 (r := 1) dX11_over_55 lf_X11_12 (sk_0 _) rfl ?_
    refine g_aload_n dX11_over_58 rfl rfl ?_
    refine rg_X11_1 (r := 33) dX11_over_59 lf_X11_19 (sk_0 _) rfl ?_
    refine rg_X9_9 (v := (I 33 9)) dX11_over_62 lf_X11_163 (sk_33 _) rfl ?_
    exact s_callV (M' := mX7_make) (As := [.ref 1, .int (I 33 9)]) (st := []) dX11_over_65 lm_X11_170 ovX7_make (h := (sk0 c, I)) (sk_66 _) (show vwCl[7]? = some _ from rfl) rfl (by simp [Value.category]) (by decide) rfl (k1 c1)
  · skip
    refine g_aload_n dX11_over_39 rfl rfl ?_
    refine rg_X11_1 (r := 33) dX11_over_40 lf_X11_19 (sk_0 _) rfl ?_
    refine rg_X9_9 (v := (I 33 9)) dX11_over_43 lf_X11_163 (sk_33 _) rfl ?_
    exact g_iret rfl dX11_over_46 rfl (Nat.le_refl _) (q2 c2)
set_option maxRecDepth 10000 in
set_option maxHeartbeats 1000000 in
theorem sg_X11_over_68 {l : Launch} {d : Nat} {Q : Option Value → mx_H → Prop} {c : Nat} {I : mx_I} (x1 : Int32) (x2 : Int32)
    (k1 : mx_K1 l mX11_think d [.ref 0] (sk0 c, I) (fun r h' => mx_Go l (mx_rm (d + 1) 0 0) mX11_over (mx_Z Q 0 0) 0 0 72 [.ref 0, .int x1, .int x2] (r.toList ++ []) h')) :
    mx_Go l (mx_rm (d + 1) 0 0) mX11_over (mx_Z Q 0 0) 0 0 68 [.ref 0, .int x1, .int x2] [] (sk0 c, I) := by
  refine g_aload_n dX11_over_68 rfl rfl ?_
  exact s_callV (M' := mX11_think) (As := []) (st := []) dX11_over_69 lm_X11_233 ovX11_think (h := (sk0 c, I)) (sk_0 _) (show vwCl[11]? = some _ from rfl) rfl (by simp [Value.category]) (by decide) rfl (k1)
set_option maxRecDepth 10000 in
set_option maxHeartbeats 1000000 in
theorem sg_X11_over_72 {l : Launch} {d : Nat} {Q : Option Value → mx_H → Prop} {c : Nat} {I : mx_I} (x1 : Int32) (x2 : Int32)
    (k1 : mx_K1 l mX1_watch d [.ref 65, .int x1, .int x2] (sk0 c, I) (fun r h' => mx_Go l (mx_rm (d + 1) 0 0) mX11_over (mx_Z Q 0 0) 0 0 81 [.ref 0, .int x1, .int x2] (r.toList ++ []) h')) :
    mx_Go l (mx_rm (d + 1) 0 0) mX11_over (mx_Z Q 0 0) 0 0 72 [.ref 0, .int x1, .int x2] [] (sk0 c, I) := by
  refine g_aload_n dX11_over_72 rfl rfl ?_
  refine rg_X11_4 (r := 65) dX11_over_73 lf_X11_45 (sk_0 _) rfl ?_
  refine g_iload_n dX11_over_76 rfl rfl ?_
  refine g_iload_n dX11_over_77 rfl rfl ?_
  exact s_callV (M' := mX1_watch) (As := [.int x1, .int x2]) (st := []) dX11_over_78 lm_X11_236 ovX1_watch (h := (sk0 c, I)) (sk_65 _) (show vwCl[1]? = some _ from rfl) rfl (by simp [Value.category]) (by decide) rfl (k1)
set_option maxRecDepth 10000 in
set_option maxHeartbeats 1000000 in
theorem sg_X11_over_81 {l : Launch} {d : Nat} {Q : Option Value → mx_H → Prop} {c : Nat} {I : mx_I} (x1 : Int32) (x2 : Int32)
    (k1 : mx_K1 l mX1_goOn d [.ref 65, .int 167] (sk0 c, I) (fun r h' => mx_Go l (mx_rm (d + 1) 0 0) mX11_over (mx_Z Q 0 0) 0 0 91 [.ref 0, .int x1, .int x2] (r.toList ++ []) h')) :
    mx_Go l (mx_rm (d + 1) 0 0) mX11_over (mx_Z Q 0 0) 0 0 81 [.ref 0, .int x1, .int x2] [] (sk0 c, I) := by
  refine g_aload_n dX11_over_81 rfl rfl ?_
  refine rg_X11_4 (r := 65) dX11_over_82 lf_X11_45 (sk_0 _) rfl ?_
  refine g_sipush (v := 167) dX11_over_85 (by decide) ?_
  exact s_callV (M' := mX1_goOn) (As := [.int 167]) (st := []) dX11_over_88 lm_X11_183 ovX1_goOn (h := (sk0 c, I)) (sk_65 _) (show vwCl[1]? = some _ from rfl) rfl (by simp [Value.category]) (by decide) rfl (k1)
set_option maxRecDepth 10000 in
set_option maxHeartbeats 1000000 in
theorem sg_X11_over_91 {l : Launch} {d : Nat} {Q : Option Value → mx_H → Prop} {c : Nat} {I : mx_I} (x1 : Int32) (x2 : Int32)
    (q1 : Q (some (.int (I 65 13))) (sk0 c, I)) :
    mx_Go l (mx_rm (d + 1) 0 0) mX11_over (mx_Z Q 0 0) 0 0 91 [.ref 0, .int x1, .int x2] [] (sk0 c, I) := by
  refine g_aload_n dX11_over_91 rfl rfl ?_
  refine rg_X11_4 (r := 65) dX11_over_92 lf_X11_45 (sk_0 _) rfl ?_
  refine rg_X1_13 (v := (I 65 13)) dX11_over_95 lf_X11_240 (sk_65 _) rfl ?_
  exact g_iret rfl dX11_over_98 rfl (Nat.le_refl _) (q1)
set_option maxRecDepth 10000 in
set_option maxHeartbeats 1000000 in
theorem sn_X11_back {l : Launch} {d : Nat} {Q : Option Value → mx_H → Prop} {c : Nat} {I : mx_I} (a1 : Int32)
    (k1 : mx_K1 l mX5_has d [.ref 2, .int a1] (sk0 c, I) (fun r h' => mx_Go l (mx_rm (d + 1) 0 0) mX11_back (mx_Z Q 0 0) 0 0 11 [.ref 0, .int a1] (r.toList ++ []) h')) :
    mx_Spec l mX11_back (d + 1) 0 0 [.ref 0, .int a1] (sk0 c, I) Q := by
  refine mx_enter rfl (by simp [Value.category]) (Nat.le_of_ble_eq_true rfl) ?_
  change mx_Go l (mx_rm (d + 1) 0 0) mX11_back (mx_Z Q 0 0) 0 0 0 [.ref 0, .int a1] [] (sk0 c, I)
  refine g_aload_n dX11_back_0 rfl rfl ?_
  refine rg_X11_0 (r := 1) dX11_back_1 lf_X11_12 (sk_0 _) rfl ?_
  refine rg_X10_0 (r := 2) dX11_back_4 lf_X11_79 (sk_1 _) rfl ?_
  refine g_iload_n dX11_back_7 rfl rfl ?_
  exact s_callV (M' := mX5_has) (As := [.int a1]) (st := []) dX11_back_8 lm_X11_89 ovX5_has (h := (sk0 c, I)) (sk_2 _) (show vwCl[5]? = some _ from rfl) rfl (by simp [Value.category]) (by decide) rfl (k1)
set_option maxRecDepth 10000 in
set_option maxHeartbeats 1000000 in
theorem sg_X11_back_11 {l : Launch} {d : Nat} {Q : Option Value → mx_H → Prop} {c : Nat} {I : mx_I} (x1 : Int32) (x2 : Int32)
    (k1 : (¬ x2 = 0) → mx_K1 l mX7_make d [.ref 66, .ref 1, .int (I 33 9)] (sk0 c, I) (fun r h' => mx_Go l (mx_rm (d + 1) 0 0) mX11_back (mx_Z Q 0 0) 0 0 37 [.ref 0, .int x1] (r.toList ++ []) h'))
    (q2 : (x2 = 0) → Q (some (.int (-1))) (sk0 c, I)) :
    mx_Go l (mx_rm (d + 1) 0 0) mX11_back (mx_Z Q 0 0) 0 0 11 [.ref 0, .int x1] [.int x2] (sk0 c, I) := by
  refine g_if_ne (tgt := 16) dX11_back_11 (by decide) (fun c1 => ?_) (fun c2 => ?_)
  · skip
    refine g_aload_n dX11_back_16 rfl rfl ?_
    refine rg_X11_4 (r := 65) dX11_back_17 lf_X11_45 (sk_0 _) rfl ?_
    refine rg_X1_2 (r := 66) dX11_back_20 lf_X11_166 (sk_65 _) rfl ?_
    refine g_aload_n dX11_back_23 rfl rfl ?_
    refine rg_X11_0 (r := 1) dX11_back_24 lf_X11_12 (sk_0 _) rfl ?_
    refine g_aload_n dX11_back_27 rfl rfl ?_
    refine rg_X11_1 (r := 33) dX11_back_28 lf_X11_19 (sk_0 _) rfl ?_
    refine rg_X9_9 (v := (I 33 9)) dX11_back_31 lf_X11_163 (sk_33 _) rfl ?_
    exact s_callV (M' := mX7_make) (As := [.ref 1, .int (I 33 9)]) (st := []) dX11_back_34 lm_X11_170 ovX7_make (h := (sk0 c, I)) (sk_66 _) (show vwCl[7]? = some _ from rfl) rfl (by simp [Value.category]) (by decide) rfl (k1 c1)
  · skip
    refine g_iconst (v := (-1)) dX11_back_14 (by decide) ?_
    exact g_iret rfl dX11_back_15 rfl (Nat.le_refl _) (q2 c2)
set_option maxRecDepth 10000 in
set_option maxHeartbeats 1000000 in
theorem sg_X11_back_37 {l : Launch} {d : Nat} {Q : Option Value → mx_H → Prop} {c : Nat} {I : mx_I} (x1 : Int32)
    (k1 : mx_K1 l mX11_think d [.ref 0] (sk0 c, I) (fun r h' => mx_Go l (mx_rm (d + 1) 0 0) mX11_back (mx_Z Q 0 0) 0 0 41 [.ref 0, .int x1] (r.toList ++ []) h')) :
    mx_Go l (mx_rm (d + 1) 0 0) mX11_back (mx_Z Q 0 0) 0 0 37 [.ref 0, .int x1] [] (sk0 c, I) := by
  refine g_aload_n dX11_back_37 rfl rfl ?_
  exact s_callV (M' := mX11_think) (As := []) (st := []) dX11_back_38 lm_X11_233 ovX11_think (h := (sk0 c, I)) (sk_0 _) (show vwCl[11]? = some _ from rfl) rfl (by simp [Value.category]) (by decide) rfl (k1)
set_option maxRecDepth 10000 in
set_option maxHeartbeats 1000000 in
theorem sg_X11_back_41 {l : Launch} {d : Nat} {Q : Option Value → mx_H → Prop} {c : Nat} {I : mx_I} (x1 : Int32)
    (k1 : mx_K1 l mX1_goOn d [.ref 65, .int 167] (sk0 c, I) (fun r h' => mx_Go l (mx_rm (d + 1) 0 0) mX11_back (mx_Z Q 0 0) 0 0 51 [.ref 0, .int x1] (r.toList ++ []) h')) :
    mx_Go l (mx_rm (d + 1) 0 0) mX11_back (mx_Z Q 0 0) 0 0 41 [.ref 0, .int x1] [] (sk0 c, I) := by
  refine g_aload_n dX11_back_41 rfl rfl ?_
  refine rg_X11_4 (r := 65) dX11_back_42 lf_X11_45 (sk_0 _) rfl ?_
  refine g_sipush (v := 167) dX11_back_45 (by decide) ?_
  exact s_callV (M' := mX1_goOn) (As := [.int 167]) (st := []) dX11_back_48 lm_X11_183 ovX1_goOn (h := (sk0 c, I)) (sk_65 _) (show vwCl[1]? = some _ from rfl) rfl (by simp [Value.category]) (by decide) rfl (k1)
set_option maxRecDepth 10000 in
set_option maxHeartbeats 1000000 in
theorem sg_X11_back_51 {l : Launch} {d : Nat} {Q : Option Value → mx_H → Prop} {c : Nat} {I : mx_I} (x1 : Int32)
    (b1 : vp_in x1 30)
    (q2 : Q (some (.int (I 58 x1.toNatClampNeg))) (sk0 c, I)) :
    mx_Go l (mx_rm (d + 1) 0 0) mX11_back (mx_Z Q 0 0) 0 0 51 [.ref 0, .int x1] [] (sk0 c, I) := by
  refine g_aload_n dX11_back_51 rfl rfl ?_
  refine rg_X11_5 (r := 55) dX11_back_52 lf_X11_37 (sk_0 _) rfl ?_
  refine rg_X9_2 (r := 58) dX11_back_55 lf_X11_198 (sk_55 _) rfl ?_
  refine g_iload_n dX11_back_58 rfl rfl ?_
  refine s_iald (j := x1.toNatClampNeg) (v := (I 58 x1.toNatClampNeg)) dX11_back_59 (sk_58 _) (b1) rfl rfl ?_
  exact g_iret rfl dX11_back_60 rfl (Nat.le_refl _) (q2)
set_option maxRecDepth 10000 in
set_option maxHeartbeats 1000000 in
theorem sn_X11_gathers {l : Launch} {d : Nat} {Q : Option Value → mx_H → Prop} {c : Nat} {I : mx_I} (a1 : Int32) (a2 : Int32) (a3 : Int32)
    (k1 : mx_K1 l mX10_hasEnd d [.ref 1, .int a1] (sk0 c, I) (fun r h' => mx_Go l (mx_rm (d + 1) 0 0) mX11_gathers (mx_Z Q 0 0) 0 0 8 [.ref 0, .int a1, .int a2, .int a3] (r.toList ++ []) h')) :
    mx_Spec l mX11_gathers (d + 1) 0 0 [.ref 0, .int a1, .int a2, .int a3] (sk0 c, I) Q := by
  refine mx_enter rfl (by simp [Value.category]) (Nat.le_of_ble_eq_true rfl) ?_
  change mx_Go l (mx_rm (d + 1) 0 0) mX11_gathers (mx_Z Q 0 0) 0 0 0 [.ref 0, .int a1, .int a2, .int a3] [] (sk0 c, I)
  refine g_aload_n dX11_gathers_0 rfl rfl ?_
  refine rg_X11_0 (r := 1) dX11_gathers_1 lf_X11_12 (sk_0 _) rfl ?_
  refine g_iload_n dX11_gathers_4 rfl rfl ?_
  exact s_callV (M' := mX10_hasEnd) (As := [.int a1]) (st := []) dX11_gathers_5 lm_X11_72 ovX10_hasEnd (h := (sk0 c, I)) (sk_1 _) (show vwCl[10]? = some _ from rfl) rfl (by simp [Value.category]) (by decide) rfl (k1)
set_option maxRecDepth 10000 in
set_option maxHeartbeats 1000000 in
theorem sg_X11_gathers_8 {l : Launch} {d : Nat} {Q : Option Value → mx_H → Prop} {c : Nat} {I : mx_I} (x1 : Int32) (x2 : Int32) (x3 : Int32) (x4 : Int32)
    (q1 : (x4 = 0) → Q (some (.int (-1))) (sk0 c, I))
    (k2 : (¬ x4 = 0) → mx_K1 l mX11_isAhead d [.ref 0, .int x2] (sk0 c, I) (fun r h' => mx_Go l (mx_rm (d + 1) 0 0) mX11_gathers (mx_Z Q 0 0) 0 0 16 [.ref 0, .int x1, .int x2, .int x3] (r.toList ++ []) h')) :
    mx_Go l (mx_rm (d + 1) 0 0) mX11_gathers (mx_Z Q 0 0) 0 0 8 [.ref 0, .int x1, .int x2, .int x3] [.int x4] (sk0 c, I) := by
  refine g_if_eq (tgt := 28) dX11_gathers_8 (by decide) (fun c1 => ?_) (fun c2 => ?_)
  · skip
    refine g_iconst (v := (-1)) dX11_gathers_28 (by decide) ?_
    exact g_iret rfl dX11_gathers_29 rfl (Nat.le_refl _) (q1 c1)
  · skip
    refine g_aload_n dX11_gathers_11 rfl rfl ?_
    refine g_iload_n dX11_gathers_12 rfl rfl ?_
    exact s_callV (M' := mX11_isAhead) (As := [.int x2]) (st := []) dX11_gathers_13 lm_X11_76 ovX11_isAhead (h := (sk0 c, I)) (sk_0 _) (show vwCl[11]? = some _ from rfl) rfl (by simp [Value.category]) (by decide) rfl (k2 c2)
set_option maxRecDepth 10000 in
set_option maxHeartbeats 1000000 in
theorem sg_X11_gathers_16 {l : Launch} {d : Nat} {Q : Option Value → mx_H → Prop} {c : Nat} {I : mx_I} (x1 : Int32) (x2 : Int32) (x3 : Int32) (x4 : Int32)
    (q1 : (x4 = 0) → Q (some (.int (-1))) (sk0 c, I))
    (q2 : (¬ x4 = 0) → (x3 < 0) → Q (some (.int (-1))) (sk0 c, I))
    (k3 : (¬ x4 = 0) → (¬ x3 < 0) → (x3 ≤ 1) → mx_K1 l mX7_make d [.ref 66, .ref 1, .int (I 33 9)] (sk0 c, I) (fun r h' => mx_Go l (mx_rm (d + 1) 0 0) mX11_gathers (mx_Z Q 0 0) 0 0 51 [.ref 0, .int x1, .int x2, .int x3] (r.toList ++ []) h'))
    (q4 : (¬ x4 = 0) → (¬ x3 < 0) → (¬ x3 ≤ 1) → Q (some (.int (-1))) (sk0 c, I)) :
    mx_Go l (mx_rm (d + 1) 0 0) mX11_gathers (mx_Z Q 0 0) 0 0 16 [.ref 0, .int x1, .int x2, .int x3] [.int x4] (sk0 c, I) := by
  refine g_if_eq (tgt := 28) dX11_gathers_16 (by decide) (fun c1 => ?_) (fun c2 => ?_)
  · skip
    refine g_iconst (v := (-1)) dX11_gathers_28 (by decide) ?_
    exact g_iret rfl dX11_gathers_29 rfl (Nat.le_refl _) (q1 c1)
  · skip
    refine g_iload_n dX11_gathers_19 rfl rfl ?_
    refine g_if_lt (tgt := 28) dX11_gathers_20 (by decide) (fun c3 => ?_) (fun c4 => ?_)
    · skip
      refine g_iconst (v := (-1)) dX11_gathers_28 (by decide) ?_
      exact g_iret rfl dX11_gathers_29 rfl (Nat.le_refl _) (q2 c2 c3)
    · skip
      refine g_iload_n dX11_gathers_23 rfl rfl ?_
      refine g_iconst (v := 1) dX11_gathers_24 (by decide) ?_
      refine g_icmp_le (tgt := 30) dX11_gathers_25 (by decide) (fun c5 => ?_) (fun c6 => ?_)
      · skip
        refine g_aload_n dX11_gathers_30 rfl rfl ?_
        refine rg_X11_4 (r := 65) dX11_gathers_31 lf_X11_45 (sk_0 _) rfl ?_
        refine rg_X1_2 (r := 66) dX11_gathers_34 lf_X11_166 (sk_65 _) rfl ?_
        refine g_aload_n dX11_gathers_37 rfl rfl ?_
        refine rg_X11_0 (r := 1) dX11_gathers_38 lf_X11_12 (sk_0 _) rfl ?_
        refine g_aload_n dX11_gathers_41 rfl rfl ?_
        refine rg_X11_1 (r := 33) dX11_gathers_42 lf_X11_19 (sk_0 _) rfl ?_
        refine rg_X9_9 (v := (I 33 9)) dX11_gathers_45 lf_X11_163 (sk_33 _) rfl ?_
        exact s_callV (M' := mX7_make) (As := [.ref 1, .int (I 33 9)]) (st := []) dX11_gathers_48 lm_X11_170 ovX7_make (h := (sk0 c, I)) (sk_66 _) (show vwCl[7]? = some _ from rfl) rfl (by simp [Value.category]) (by decide) rfl (k3 c2 c4 c5)
      · skip
        refine g_iconst (v := (-1)) dX11_gathers_28 (by decide) ?_
        exact g_iret rfl dX11_gathers_29 rfl (Nat.le_refl _) (q4 c2 c4 c6)
set_option maxRecDepth 10000 in
set_option maxHeartbeats 1000000 in
theorem sg_X11_gathers_51 {l : Launch} {d : Nat} {Q : Option Value → mx_H → Prop} {c : Nat} {I : mx_I} (x1 : Int32) (x2 : Int32) (x3 : Int32)
    (k1 : mx_K1 l mX11_think d [.ref 0] (sk0 c, I) (fun r h' => mx_Go l (mx_rm (d + 1) 0 0) mX11_gathers (mx_Z Q 0 0) 0 0 55 [.ref 0, .int x1, .int x2, .int x3] (r.toList ++ []) h')) :
    mx_Go l (mx_rm (d + 1) 0 0) mX11_gathers (mx_Z Q 0 0) 0 0 51 [.ref 0, .int x1, .int x2, .int x3] [] (sk0 c, I) := by
  refine g_aload_n dX11_gathers_51 rfl rfl ?_
  exact s_callV (M' := mX11_think) (As := []) (st := []) dX11_gathers_52 lm_X11_233 ovX11_think (h := (sk0 c, I)) (sk_0 _) (show vwCl[11]? = some _ from rfl) rfl (by simp [Value.category]) (by decide) rfl (k1)
set_option maxRecDepth 10000 in
set_option maxHeartbeats 1000000 in
theorem sg_X11_gathers_55 {l : Launch} {d : Nat} {Q : Option Value → mx_H → Prop} {c : Nat} {I : mx_I} (x1 : Int32) (x2 : Int32) (x3 : Int32)
    (k1 : mx_K1 l mX1_goOn d [.ref 65, .int x2] (sk0 c, I) (fun r h' => mx_Go l (mx_rm (d + 1) 0 0) mX11_gathers (mx_Z Q 0 0) 0 0 63 [.ref 0, .int x1, .int x2, .int x3] (r.toList ++ []) h')) :
    mx_Go l (mx_rm (d + 1) 0 0) mX11_gathers (mx_Z Q 0 0) 0 0 55 [.ref 0, .int x1, .int x2, .int x3] [] (sk0 c, I) := by
  refine g_aload_n dX11_gathers_55 rfl rfl ?_
  refine rg_X11_4 (r := 65) dX11_gathers_56 lf_X11_45 (sk_0 _) rfl ?_
  refine g_iload_n dX11_gathers_59 rfl rfl ?_
  exact s_callV (M' := mX1_goOn) (As := [.int x2]) (st := []) dX11_gathers_60 lm_X11_183 ovX1_goOn (h := (sk0 c, I)) (sk_65 _) (show vwCl[1]? = some _ from rfl) rfl (by simp [Value.category]) (by decide) rfl (k1)
set_option maxRecDepth 10000 in
set_option maxHeartbeats 1000000 in
theorem sg_X11_gathers_63 {l : Launch} {d : Nat} {Q : Option Value → mx_H → Prop} {c : Nat} {I : mx_I} (x1 : Int32) (x2 : Int32) (x3 : Int32)
    (k1 : (¬ x3 = 0) → mx_K1 l mX9_weightAt d [.ref 55, .int x1, .ref 2] (sk0 c, I) (fun r h' => mx_Go l (mx_rm (d + 1) 0 0) mX11_gathers (mx_Z Q 0 0) 0 0 94 [.ref 0, .int x1, .int x2, .int x3] (r.toList ++ []) h'))
    (b2 : (x3 = 0) → vp_in x1 4)
    (q3 : (x3 = 0) → Q (some (.int (I 61 x1.toNatClampNeg))) (sk0 c, I)) :
    mx_Go l (mx_rm (d + 1) 0 0) mX11_gathers (mx_Z Q 0 0) 0 0 63 [.ref 0, .int x1, .int x2, .int x3] [] (sk0 c, I) := by
  refine g_iload_n dX11_gathers_63 rfl rfl ?_
  refine g_if_ne (tgt := 79) dX11_gathers_64 (by decide) (fun c1 => ?_) (fun c2 => ?_)
  · skip
    refine g_aload_n dX11_gathers_79 rfl rfl ?_
    refine rg_X11_5 (r := 55) dX11_gathers_80 lf_X11_37 (sk_0 _) rfl ?_
    refine g_iload_n dX11_gathers_83 rfl rfl ?_
    refine g_aload_n dX11_gathers_84 rfl rfl ?_
    refine rg_X11_0 (r := 1) dX11_gathers_85 lf_X11_12 (sk_0 _) rfl ?_
    refine rg_X10_0 (r := 2) dX11_gathers_88 lf_X11_79 (sk_1 _) rfl ?_
    exact s_callV (M' := mX9_weightAt) (As := [.int x1, .ref 2]) (st := []) dX11_gathers_91 lm_X11_243 ovX9_weightAt (h := (sk0 c, I)) (sk_55 _) (show vwCl[9]? = some _ from rfl) rfl (by simp [Value.category]) (by decide) rfl (k1 c1)
  · skip
    refine g_aload_n dX11_gathers_67 rfl rfl ?_
    refine rg_X11_5 (r := 55) dX11_gathers_68 lf_X11_37 (sk_0 _) rfl ?_
    refine rg_X9_5 (r := 61) dX11_gathers_71 lf_X11_217 (sk_55 _) rfl ?_
    refine g_iload_n dX11_gathers_74 rfl rfl ?_
    refine s_iald (j := x1.toNatClampNeg) (v := (I 61 x1.toNatClampNeg)) dX11_gathers_75 (sk_61 _) (b2 c2) rfl rfl ?_
    refine g_goto (tgt := 94) dX11_gathers_76 (by decide) ?_
    exact g_iret rfl dX11_gathers_94 rfl (Nat.le_refl _) (q3 c2)
set_option maxRecDepth 10000 in
set_option maxHeartbeats 1000000 in
theorem sg_X11_gathers_94 {l : Launch} {d : Nat} {Q : Option Value → mx_H → Prop} {c : Nat} {I : mx_I} (x1 : Int32) (x2 : Int32) (x3 : Int32) (x4 : Int32)
    (q1 : Q (some (.int x4)) (sk0 c, I)) :
    mx_Go l (mx_rm (d + 1) 0 0) mX11_gathers (mx_Z Q 0 0) 0 0 94 [.ref 0, .int x1, .int x2, .int x3] [.int x4] (sk0 c, I) := by
  exact g_iret rfl dX11_gathers_94 rfl (Nat.le_refl _) (q1)
set_option maxRecDepth 10000 in
set_option maxHeartbeats 1000000 in
theorem sn_X11_best {l : Launch} {d : Nat} {Q : Option Value → mx_H → Prop} {c : Nat} {I : mx_I} (a1 : Int32) (a2 : Int32) (a3 : Int32) (a4 : Int32) (a5 : Int32) (a6 : Int32)
    (k1 : mx_K1 l mX11_isWalk d [.ref 0, .int a1, .int a2, .int a3] (sk0 c, I) (fun r h' => mx_Go l (mx_rm (d + 1) 0 0) mX11_best (mx_Z Q 0 0) 0 0 7 [.ref 0, .int a1, .int a2, .int a3, .int a4, .int a5, .int a6, .retAddr 0, .retAddr 0, .retAddr 0, .retAddr 0] (r.toList ++ []) h')) :
    mx_Spec l mX11_best (d + 1) 0 0 [.ref 0, .int a1, .int a2, .int a3, .int a4, .int a5, .int a6] (sk0 c, I) Q := by
  refine mx_enter rfl (by simp [Value.category]) (Nat.le_of_ble_eq_true rfl) ?_
  change mx_Go l (mx_rm (d + 1) 0 0) mX11_best (mx_Z Q 0 0) 0 0 0 [.ref 0, .int a1, .int a2, .int a3, .int a4, .int a5, .int a6, .retAddr 0, .retAddr 0, .retAddr 0, .retAddr 0] [] (sk0 c, I)
  refine g_aload_n dX11_best_0 rfl rfl ?_
  refine g_iload_n dX11_best_1 rfl rfl ?_
  refine g_iload_n dX11_best_2 rfl rfl ?_
  refine g_iload_n dX11_best_3 rfl rfl ?_
  exact s_callV (M' := mX11_isWalk) (As := [.int a1, .int a2, .int a3]) (st := []) dX11_best_4 lm_X11_99 ovX11_isWalk (h := (sk0 c, I)) (sk_0 _) (show vwCl[11]? = some _ from rfl) rfl (by simp [Value.category]) (by decide) rfl (k1)
set_option maxRecDepth 10000 in
set_option maxHeartbeats 1000000 in
theorem sg_X11_best_7 {l : Launch} {d : Nat} {Q : Option Value → mx_H → Prop} {c : Nat} {I : mx_I} (x1 : Int32) (x2 : Int32) (x3 : Int32) (x4 : Int32) (x5 : Int32) (x6 : Int32) (x7 : Int32)
    (q1 : (x7 = 0) → Q (some (.int (-1))) (sk0 c, I))
    (k2 : (¬ x7 = 0) → mx_K1 l mX11_isSpan d [.ref 0, .int x4, .int x5] (sk0 c, I) (fun r h' => mx_Go l (mx_rm (d + 1) 0 0) mX11_best (mx_Z Q 0 0) 0 0 18 [.ref 0, .int x1, .int x2, .int x3, .int x4, .int x5, .int x6, .retAddr 0, .retAddr 0, .retAddr 0, .retAddr 0] (r.toList ++ []) h')) :
    mx_Go l (mx_rm (d + 1) 0 0) mX11_best (mx_Z Q 0 0) 0 0 7 [.ref 0, .int x1, .int x2, .int x3, .int x4, .int x5, .int x6, .retAddr 0, .retAddr 0, .retAddr 0, .retAddr 0] [.int x7] (sk0 c, I) := by
  refine g_if_eq (tgt := 32) dX11_best_7 (by decide) (fun c1 => ?_) (fun c2 => ?_)
  · skip
    refine g_iconst (v := (-1)) dX11_best_32 (by decide) ?_
    exact g_iret rfl dX11_best_33 rfl (Nat.le_refl _) (q1 c1)
  · skip
    refine g_aload_n dX11_best_10 rfl rfl ?_
    refine g_iload dX11_best_11 rfl ?_
    refine g_iload dX11_best_13 rfl ?_
    exact s_callV (M' := mX11_isSpan) (As := [.int x4, .int x5]) (st := []) dX11_best_15 lm_X11_247 ovX11_isSpan (h := (sk0 c, I)) (sk_0 _) (show vwCl[11]? = some _ from rfl) rfl (by simp [Value.category]) (by decide) rfl (k2 c2)
set_option maxRecDepth 10000 in
set_option maxHeartbeats 1000000 in
theorem sg_X11_best_18 {l : Launch} {d : Nat} {Q : Option Value → mx_H → Prop} {c : Nat} {I : mx_I} (x1 : Int32) (x2 : Int32) (x3 : Int32) (x4 : Int32) (x5 : Int32) (x6 : Int32) (x7 : Int32)
    (q1 : (x7 = 0) → Q (some (.int (-1))) (sk0 c, I))
    (q2 : (¬ x7 = 0) → (x6 < 0) → Q (some (.int (-1))) (sk0 c, I))
    (k3 : (¬ x7 = 0) → (¬ x6 < 0) → (x6 ≤ 1) → mx_K1 l mX7_make d [.ref 66, .ref 1, .int (I 33 9)] (sk0 c, I) (fun r h' => mx_Go l (mx_rm (d + 1) 0 0) mX11_best (mx_Z Q 0 0) 0 0 55 [.ref 0, .int x1, .int x2, .int x3, .int x4, .int x5, .int x6, .retAddr 0, .retAddr 0, .retAddr 0, .retAddr 0] (r.toList ++ []) h'))
    (q4 : (¬ x7 = 0) → (¬ x6 < 0) → (¬ x6 ≤ 1) → Q (some (.int (-1))) (sk0 c, I)) :
    mx_Go l (mx_rm (d + 1) 0 0) mX11_best (mx_Z Q 0 0) 0 0 18 [.ref 0, .int x1, .int x2, .int x3, .int x4, .int x5, .int x6, .retAddr 0, .retAddr 0, .retAddr 0, .retAddr 0] [.int x7] (sk0 c, I) := by
  refine g_if_eq (tgt := 32) dX11_best_18 (by decide) (fun c1 => ?_) (fun c2 => ?_)
  · skip
    refine g_iconst (v := (-1)) dX11_best_32 (by decide) ?_
    exact g_iret rfl dX11_best_33 rfl (Nat.le_refl _) (q1 c1)
  · skip
    refine g_iload dX11_best_21 rfl ?_
    refine g_if_lt (tgt := 32) dX11_best_23 (by decide) (fun c3 => ?_) (fun c4 => ?_)
    · skip
      refine g_iconst (v := (-1)) dX11_best_32 (by decide) ?_
      exact g_iret rfl dX11_best_33 rfl (Nat.le_refl _) (q2 c2 c3)
    · skip
      refine g_iload dX11_best_26 rfl ?_
      refine g_iconst (v := 1) dX11_best_28 (by decide) ?_
      refine g_icmp_le (tgt := 34) dX11_best_29 (by decide) (fun c5 => ?_) (fun c6 => ?_)
      · skip
        refine g_aload_n dX11_best_34 rfl rfl ?_
        refine rg_X11_4 (r := 65) dX11_best_35 lf_X11_45 (sk_0 _) rfl ?_
        refine rg_X1_2 (r := 66) dX11_best_38 lf_X11_166 (sk_65 _) rfl ?_
        refine g_aload_n dX11_best_41 rfl rfl ?_
        refine rg_X11_0 (r := 1) dX11_best_42 lf_X11_12 (sk_0 _) rfl ?_
        refine g_aload_n dX11_best_45 rfl rfl ?_
        refine rg_X11_1 (r := 33) dX11_best_46 lf_X11_19 (sk_0 _) rfl ?_
        refine rg_X9_9 (v := (I 33 9)) dX11_best_49 lf_X11_163 (sk_33 _) rfl ?_
        exact s_callV (M' := mX7_make) (As := [.ref 1, .int (I 33 9)]) (st := []) dX11_best_52 lm_X11_170 ovX7_make (h := (sk0 c, I)) (sk_66 _) (show vwCl[7]? = some _ from rfl) rfl (by simp [Value.category]) (by decide) rfl (k3 c2 c4 c5)
      · skip
        refine g_iconst (v := (-1)) dX11_best_32 (by decide) ?_
        exact g_iret rfl dX11_best_33 rfl (Nat.le_refl _) (q4 c2 c4 c6)
set_option maxRecDepth 10000 in
set_option maxHeartbeats 1000000 in
theorem sg_X11_best_55 {l : Launch} {d : Nat} {Q : Option Value → mx_H → Prop} {c : Nat} {I : mx_I} (x1 : Int32) (x2 : Int32) (x3 : Int32) (x4 : Int32) (x5 : Int32) (x6 : Int32)
    (k1 : mx_K1 l mX11_think d [.ref 0] (sk0 c, I) (fun r h' => mx_Go l (mx_rm (d + 1) 0 0) mX11_best (mx_Z Q 0 0) 0 0 59 [.ref 0, .int x1, .int x2, .int x3, .int x4, .int x5, .int x6, .retAddr 0, .retAddr 0, .retAddr 0, .retAddr 0] (r.toList ++ []) h')) :
    mx_Go l (mx_rm (d + 1) 0 0) mX11_best (mx_Z Q 0 0) 0 0 55 [.ref 0, .int x1, .int x2, .int x3, .int x4, .int x5, .int x6, .retAddr 0, .retAddr 0, .retAddr 0, .retAddr 0] [] (sk0 c, I) := by
  refine g_aload_n dX11_best_55 rfl rfl ?_
  exact s_callV (M' := mX11_think) (As := []) (st := []) dX11_best_56 lm_X11_233 ovX11_think (h := (sk0 c, I)) (sk_0 _) (show vwCl[11]? = some _ from rfl) rfl (by simp [Value.category]) (by decide) rfl (k1)
set_option maxRecDepth 10000 in
set_option maxHeartbeats 1000000 in
theorem sg_X11_best_59 {l : Launch} {d : Nat} {Q : Option Value → mx_H → Prop} {c : Nat} {I : mx_I} (x1 : Int32) (x2 : Int32) (x3 : Int32) (x4 : Int32) (x5 : Int32) (x6 : Int32)
    (k1 : mx_K1 l mX1_goOn d [.ref 65, .int (x4 - 1)] (sk0 c, I) (fun r h' => mx_Go l (mx_rm (d + 1) 0 0) mX11_best (mx_Z Q 0 0) 0 0 70 [.ref 0, .int x1, .int x2, .int x3, .int x4, .int x5, .int x6, .retAddr 0, .retAddr 0, .retAddr 0, .retAddr 0] (r.toList ++ []) h')) :
    mx_Go l (mx_rm (d + 1) 0 0) mX11_best (mx_Z Q 0 0) 0 0 59 [.ref 0, .int x1, .int x2, .int x3, .int x4, .int x5, .int x6, .retAddr 0, .retAddr 0, .retAddr 0, .retAddr 0] [] (sk0 c, I) := by
  refine g_aload_n dX11_best_59 rfl rfl ?_
  refine rg_X11_4 (r := 65) dX11_best_60 lf_X11_45 (sk_0 _) rfl ?_
  refine g_iload dX11_best_63 rfl ?_
  refine g_iconst (v := 1) dX11_best_65 (by decide) ?_
  refine g_isub dX11_best_66 ?_
  exact s_callV (M' := mX1_goOn) (As := [.int (x4 - 1)]) (st := []) dX11_best_67 lm_X11_183 ovX1_goOn (h := (sk0 c, I)) (sk_65 _) (show vwCl[1]? = some _ from rfl) rfl (by simp [Value.category]) (by decide) rfl (k1)
set_option maxRecDepth 10000 in
set_option maxHeartbeats 1000000 in
theorem sg_X11_best_70 {l : Launch} {d : Nat} {Q : Option Value → mx_H → Prop} {c : Nat} {I : mx_I} (x1 : Int32) (x2 : Int32) (x3 : Int32) (x4 : Int32) (x5 : Int32) (x6 : Int32)
    (e1 : mx_Go l (mx_rm (d + 1) 0 0) mX11_best (mx_Z Q 0 0) 0 0 80 [.ref 0, .int x1, .int x2, .int x3, .int x4, .int x5, .int x6, .int (-1), .int (-1), .int x4, .retAddr 0] [] (sk0 c, I)) :
    mx_Go l (mx_rm (d + 1) 0 0) mX11_best (mx_Z Q 0 0) 0 0 70 [.ref 0, .int x1, .int x2, .int x3, .int x4, .int x5, .int x6, .retAddr 0, .retAddr 0, .retAddr 0, .retAddr 0] [] (sk0 c, I) := by
  refine g_iconst (v := (-1)) dX11_best_70 (by decide) ?_
  refine s_istore (L' := [.ref 0, .int x1, .int x2, .int x3, .int x4, .int x5, .int x6, .int (-1), .retAddr 0, .retAddr 0, .retAddr 0]) dX11_best_71 (by decide) rfl rfl ?_
  refine g_iconst (v := (-1)) dX11_best_73 (by decide) ?_
  refine s_istore (L' := [.ref 0, .int x1, .int x2, .int x3, .int x4, .int x5, .int x6, .int (-1), .int (-1), .retAddr 0, .retAddr 0]) dX11_best_74 (by decide) rfl rfl ?_
  refine g_iload dX11_best_76 rfl ?_
  refine s_istore (L' := [.ref 0, .int x1, .int x2, .int x3, .int x4, .int x5, .int x6, .int (-1), .int (-1), .int x4, .retAddr 0]) dX11_best_78 (by decide) rfl rfl ?_
  exact e1
set_option maxRecDepth 10000 in
set_option maxHeartbeats 1000000 in
theorem sg_X11_best_80 {l : Launch} {d : Nat} {Q : Option Value → mx_H → Prop} {c : Nat} {I : mx_I} (x1 : Int32) (x2 : Int32) (x3 : Int32) (x4 : Int32) (x5 : Int32) (x6 : Int32) (x7 : Int32) (x8 : Int32) (x9 : Int32)
    (q1 : (x5 < x9) → (¬ x6 = 0) → Q (some (.int x8)) (sk0 c, I))
    (q2 : (x5 < x9) → (x6 = 0) → Q (some (.int x7)) (sk0 c, I))
    (k3 : (¬ x5 < x9) → mx_K1 l mX1_goOn d [.ref 65, .int x9] (sk0 c, I) (fun r h' => mx_Go l (mx_rm (d + 1) 0 0) mX11_best (mx_Z Q 0 0) 0 0 96 [.ref 0, .int x1, .int x2, .int x3, .int x4, .int x5, .int x6, .int x7, .int x8, .int x9, .retAddr 0] (r.toList ++ []) h')) :
    mx_Go l (mx_rm (d + 1) 0 0) mX11_best (mx_Z Q 0 0) 0 0 80 [.ref 0, .int x1, .int x2, .int x3, .int x4, .int x5, .int x6, .int x7, .int x8, .int x9, .retAddr 0] [] (sk0 c, I) := by
  refine g_iload dX11_best_80 rfl ?_
  refine g_iload dX11_best_82 rfl ?_
  refine g_icmp_gt (tgt := 139) dX11_best_84 (by decide) (fun c1 => ?_) (fun c2 => ?_)
  · skip
    refine g_iload dX11_best_139 rfl ?_
    refine g_if_ne (tgt := 149) dX11_best_141 (by decide) (fun c3 => ?_) (fun c4 => ?_)
    · skip
      refine g_iload dX11_best_149 rfl ?_
      exact g_iret rfl dX11_best_151 rfl (Nat.le_refl _) (q1 c1 c3)
    · skip
      refine g_iload dX11_best_144 rfl ?_
      refine g_goto (tgt := 151) dX11_best_146 (by decide) ?_
      exact g_iret rfl dX11_best_151 rfl (Nat.le_refl _) (q2 c1 c4)
  · skip
    refine g_aload_n dX11_best_87 rfl rfl ?_
    refine rg_X11_4 (r := 65) dX11_best_88 lf_X11_45 (sk_0 _) rfl ?_
    refine g_iload dX11_best_91 rfl ?_
    exact s_callV (M' := mX1_goOn) (As := [.int x9]) (st := []) dX11_best_93 lm_X11_183 ovX1_goOn (h := (sk0 c, I)) (sk_65 _) (show vwCl[1]? = some _ from rfl) rfl (by simp [Value.category]) (by decide) rfl (k3 c2)
set_option maxRecDepth 10000 in
set_option maxHeartbeats 1000000 in
theorem sg_X11_best_96 {l : Launch} {d : Nat} {Q : Option Value → mx_H → Prop} {c : Nat} {I : mx_I} (x1 : Int32) (x2 : Int32) (x3 : Int32) (x4 : Int32) (x5 : Int32) (x6 : Int32) (x7 : Int32) (x8 : Int32) (x9 : Int32)
    (k1 : mx_K1 l mX1_choose d [.ref 65, .int (x1 + x2), .int x3, .int 0, .int x9] (sk0 c, I) (fun r h' => mx_Go l (mx_rm (d + 1) 0 0) mX11_best (mx_Z Q 0 0) 0 0 110 [.ref 0, .int x1, .int x2, .int x3, .int x4, .int x5, .int x6, .int x7, .int x8, .int x9, .retAddr 0] (r.toList ++ []) h')) :
    mx_Go l (mx_rm (d + 1) 0 0) mX11_best (mx_Z Q 0 0) 0 0 96 [.ref 0, .int x1, .int x2, .int x3, .int x4, .int x5, .int x6, .int x7, .int x8, .int x9, .retAddr 0] [] (sk0 c, I) := by
  refine g_aload_n dX11_best_96 rfl rfl ?_
  refine rg_X11_4 (r := 65) dX11_best_97 lf_X11_45 (sk_0 _) rfl ?_
  refine g_iload_n dX11_best_100 rfl rfl ?_
  refine g_iload_n dX11_best_101 rfl rfl ?_
  refine g_iadd dX11_best_102 ?_
  refine g_iload_n dX11_best_103 rfl rfl ?_
  refine g_iconst (v := 0) dX11_best_104 (by decide) ?_
  refine g_iload dX11_best_105 rfl ?_
  exact s_callV (M' := mX1_choose) (As := [.int (x1 + x2), .int x3, .int 0, .int x9]) (st := []) dX11_best_107 lm_X11_250 ovX1_choose (h := (sk0 c, I)) (sk_65 _) (show vwCl[1]? = some _ from rfl) rfl (by simp [Value.category]) (by decide) rfl (k1)
set_option maxRecDepth 10000 in
set_option maxHeartbeats 1000000 in
theorem sg_X11_best_110 {l : Launch} {d : Nat} {Q : Option Value → mx_H → Prop} {c : Nat} {I : mx_I} (x1 : Int32) (x2 : Int32) (x3 : Int32) (x4 : Int32) (x5 : Int32) (x6 : Int32) (x7 : Int32) (x8 : Int32) (x9 : Int32) (x10 : Int32)
    (e1 : (x8 = (-1)) → mx_Go l (mx_rm (d + 1) 0 0) mX11_best (mx_Z Q 0 0) 0 0 80 [.ref 0, .int x1, .int x2, .int x3, .int x4, .int x5, .int x6, .int x9, .int x10, .int (x9 + 1), .int x10] [] (sk0 c, I))
    (e2 : (¬ x8 = (-1)) → (x8 ≤ x10) → mx_Go l (mx_rm (d + 1) 0 0) mX11_best (mx_Z Q 0 0) 0 0 80 [.ref 0, .int x1, .int x2, .int x3, .int x4, .int x5, .int x6, .int x7, .int x8, .int (x9 + 1), .int x10] [] (sk0 c, I))
    (e3 : (¬ x8 = (-1)) → (¬ x8 ≤ x10) → mx_Go l (mx_rm (d + 1) 0 0) mX11_best (mx_Z Q 0 0) 0 0 80 [.ref 0, .int x1, .int x2, .int x3, .int x4, .int x5, .int x6, .int x9, .int x10, .int (x9 + 1), .int x10] [] (sk0 c, I)) :
    mx_Go l (mx_rm (d + 1) 0 0) mX11_best (mx_Z Q 0 0) 0 0 110 [.ref 0, .int x1, .int x2, .int x3, .int x4, .int x5, .int x6, .int x7, .int x8, .int x9, .retAddr 0] [.int x10] (sk0 c, I) := by
  refine s_istore (L' := [.ref 0, .int x1, .int x2, .int x3, .int x4, .int x5, .int x6, .int x7, .int x8, .int x9, .int x10]) dX11_best_110 (by decide) rfl rfl ?_
  refine g_iload dX11_best_112 rfl ?_
  refine g_iconst (v := (-1)) dX11_best_114 (by decide) ?_
  refine g_icmp_eq (tgt := 125) dX11_best_115 (by decide) (fun c1 => ?_) (fun c2 => ?_)
  · skip
    refine g_iload dX11_best_125 rfl ?_
    refine s_istore (L' := [.ref 0, .int x1, .int x2, .int x3, .int x4, .int x5, .int x6, .int x7, .int x10, .int x9, .int x10]) dX11_best_127 (by decide) rfl rfl ?_
    refine g_iload dX11_best_129 rfl ?_
    refine s_istore (L' := [.ref 0, .int x1, .int x2, .int x3, .int x4, .int x5, .int x6, .int x9, .int x10, .int x9, .int x10]) dX11_best_131 (by decide) rfl rfl ?_
    refine s_iinc (v := (x9 + 1)) (L' := [.ref 0, .int x1, .int x2, .int x3, .int x4, .int x5, .int x6, .int x9, .int x10, .int (x9 + 1), .int x10]) dX11_best_133 rfl (by decide) rfl rfl rfl ?_
    refine g_goto (tgt := 80) dX11_best_136 (by decide) ?_
    exact e1 c1
  · skip
    refine g_iload dX11_best_118 rfl ?_
    refine g_iload dX11_best_120 rfl ?_
    refine g_icmp_ge (tgt := 133) dX11_best_122 (by decide) (fun c3 => ?_) (fun c4 => ?_)
    · skip
      refine s_iinc (v := (x9 + 1)) (L' := [.ref 0, .int x1, .int x2, .int x3, .int x4, .int x5, .int x6, .int x7, .int x8, .int (x9 + 1), .int x10]) dX11_best_133 rfl (by decide) rfl rfl rfl ?_
      refine g_goto (tgt := 80) dX11_best_136 (by decide) ?_
      exact e2 c2 c3
    · skip
      refine g_iload dX11_best_125 rfl ?_
      refine s_istore (L' := [.ref 0, .int x1, .int x2, .int x3, .int x4, .int x5, .int x6, .int x7, .int x10, .int x9, .int x10]) dX11_best_127 (by decide) rfl rfl ?_
      refine g_iload dX11_best_129 rfl ?_
      refine s_istore (L' := [.ref 0, .int x1, .int x2, .int x3, .int x4, .int x5, .int x6, .int x9, .int x10, .int x9, .int x10]) dX11_best_131 (by decide) rfl rfl ?_
      refine s_iinc (v := (x9 + 1)) (L' := [.ref 0, .int x1, .int x2, .int x3, .int x4, .int x5, .int x6, .int x9, .int x10, .int (x9 + 1), .int x10]) dX11_best_133 rfl (by decide) rfl rfl rfl ?_
      refine g_goto (tgt := 80) dX11_best_136 (by decide) ?_
      exact e3 c2 c4
set_option maxRecDepth 10000 in
set_option maxHeartbeats 1000000 in
theorem sn_X11_send {l : Launch} {d : Nat} {Q : Option Value → mx_H → Prop} {c : Nat} {I : mx_I} (a1 : Int32) (a2 : Int32) (a3 : Int32) (a4 : Int32) (a5 : Int32) (a6 : Int32)
    (q1 : (a1 < 1) → Q (some (.int (-1))) (sk0 c, I))
    (q2 : (¬ a1 < 1) → (99 < a1) → Q (some (.int (-1))) (sk0 c, I))
    (k3 : (¬ a1 < 1) → (¬ 99 < a1) → mx_K1 l mX10_hasEnd d [.ref 1, .int a2] (sk0 c, I) (fun r h' => mx_Go l (mx_rm (d + 1) 0 0) mX11_send (mx_Z Q 0 0) 0 0 19 [.ref 0, .int a1, .int a2, .int a3, .int a4, .int a5, .int a6, .retAddr 0, .retAddr 0, .retAddr 0, .retAddr 0, .retAddr 0, .retAddr 0] (r.toList ++ []) h')) :
    mx_Spec l mX11_send (d + 1) 0 0 [.ref 0, .int a1, .int a2, .int a3, .int a4, .int a5, .int a6] (sk0 c, I) Q := by
  refine mx_enter rfl (by simp [Value.category]) (Nat.le_of_ble_eq_true rfl) ?_
  change mx_Go l (mx_rm (d + 1) 0 0) mX11_send (mx_Z Q 0 0) 0 0 0 [.ref 0, .int a1, .int a2, .int a3, .int a4, .int a5, .int a6, .retAddr 0, .retAddr 0, .retAddr 0, .retAddr 0, .retAddr 0, .retAddr 0] [] (sk0 c, I)
  refine g_iload_n dX11_send_0 rfl rfl ?_
  refine g_iconst (v := 1) dX11_send_1 (by decide) ?_
  refine g_icmp_lt (tgt := 38) dX11_send_2 (by decide) (fun c1 => ?_) (fun c2 => ?_)
  · skip
    refine g_iconst (v := (-1)) dX11_send_38 (by decide) ?_
    exact g_iret rfl dX11_send_39 rfl (Nat.le_refl _) (q1 c1)
  · skip
    refine g_iload_n dX11_send_5 rfl rfl ?_
    refine g_bipush (v := 99) dX11_send_6 (by decide) ?_
    refine g_icmp_gt (tgt := 38) dX11_send_8 (by decide) (fun c3 => ?_) (fun c4 => ?_)
    · skip
      refine g_iconst (v := (-1)) dX11_send_38 (by decide) ?_
      exact g_iret rfl dX11_send_39 rfl (Nat.le_refl _) (q2 c2 c3)
    · skip
      refine g_aload_n dX11_send_11 rfl rfl ?_
      refine rg_X11_0 (r := 1) dX11_send_12 lf_X11_12 (sk_0 _) rfl ?_
      refine g_iload_n dX11_send_15 rfl rfl ?_
      exact s_callV (M' := mX10_hasEnd) (As := [.int a2]) (st := []) dX11_send_16 lm_X11_72 ovX10_hasEnd (h := (sk0 c, I)) (sk_1 _) (show vwCl[10]? = some _ from rfl) rfl (by simp [Value.category]) (by decide) rfl (k3 c2 c4)
set_option maxRecDepth 10000 in
set_option maxHeartbeats 1000000 in
theorem sg_X11_send_19 {l : Launch} {d : Nat} {Q : Option Value → mx_H → Prop} {c : Nat} {I : mx_I} (x1 : Int32) (x2 : Int32) (x3 : Int32) (x4 : Int32) (x5 : Int32) (x6 : Int32) (x7 : Int32)
    (q1 : (x7 = 0) → Q (some (.int (-1))) (sk0 c, I))
    (k2 : (¬ x7 = 0) → mx_K1 l mX10_hasEnd d [.ref 1, .int x3] (sk0 c, I) (fun r h' => mx_Go l (mx_rm (d + 1) 0 0) mX11_send (mx_Z Q 0 0) 0 0 30 [.ref 0, .int x1, .int x2, .int x3, .int x4, .int x5, .int x6, .retAddr 0, .retAddr 0, .retAddr 0, .retAddr 0, .retAddr 0, .retAddr 0] (r.toList ++ []) h')) :
    mx_Go l (mx_rm (d + 1) 0 0) mX11_send (mx_Z Q 0 0) 0 0 19 [.ref 0, .int x1, .int x2, .int x3, .int x4, .int x5, .int x6, .retAddr 0, .retAddr 0, .retAddr 0, .retAddr 0, .retAddr 0, .retAddr 0] [.int x7] (sk0 c, I) := by
  refine g_if_eq (tgt := 38) dX11_send_19 (by decide) (fun c1 => ?_) (fun c2 => ?_)
  · skip
    refine g_iconst (v := (-1)) dX11_send_38 (by decide) ?_
    exact g_iret rfl dX11_send_39 rfl (Nat.le_refl _) (q1 c1)
  · skip
    refine g_aload_n dX11_send_22 rfl rfl ?_
    refine rg_X11_0 (r := 1) dX11_send_23 lf_X11_12 (sk_0 _) rfl ?_
    refine g_iload_n dX11_send_26 rfl rfl ?_
    exact s_callV (M' := mX10_hasEnd) (As := [.int x3]) (st := []) dX11_send_27 lm_X11_72 ovX10_hasEnd (h := (sk0 c, I)) (sk_1 _) (show vwCl[10]? = some _ from rfl) rfl (by simp [Value.category]) (by decide) rfl (k2 c2)
set_option maxRecDepth 10000 in
set_option maxHeartbeats 1000000 in
theorem sg_X11_send_30 {l : Launch} {d : Nat} {Q : Option Value → mx_H → Prop} {c : Nat} {I : mx_I} (x1 : Int32) (x2 : Int32) (x3 : Int32) (x4 : Int32) (x5 : Int32) (x6 : Int32) (x7 : Int32)
    (q1 : (x7 = 0) → Q (some (.int (-1))) (sk0 c, I))
    (k2 : (¬ x7 = 0) → (¬ x2 = x3) → mx_K1 l mX11_isSpan d [.ref 0, .int x4, .int x5] (sk0 c, I) (fun r h' => mx_Go l (mx_rm (d + 1) 0 0) mX11_send (mx_Z Q 0 0) 0 0 48 [.ref 0, .int x1, .int x2, .int x3, .int x4, .int x5, .int x6, .retAddr 0, .retAddr 0, .retAddr 0, .retAddr 0, .retAddr 0, .retAddr 0] (r.toList ++ []) h'))
    (q3 : (¬ x7 = 0) → (x2 = x3) → Q (some (.int (-1))) (sk0 c, I)) :
    mx_Go l (mx_rm (d + 1) 0 0) mX11_send (mx_Z Q 0 0) 0 0 30 [.ref 0, .int x1, .int x2, .int x3, .int x4, .int x5, .int x6, .retAddr 0, .retAddr 0, .retAddr 0, .retAddr 0, .retAddr 0, .retAddr 0] [.int x7] (sk0 c, I) := by
  refine g_if_eq (tgt := 38) dX11_send_30 (by decide) (fun c1 => ?_) (fun c2 => ?_)
  · skip
    refine g_iconst (v := (-1)) dX11_send_38 (by decide) ?_
    exact g_iret rfl dX11_send_39 rfl (Nat.le_refl _) (q1 c1)
  · skip
    refine g_iload_n dX11_send_33 rfl rfl ?_
    refine g_iload_n dX11_send_34 rfl rfl ?_
    refine g_icmp_ne (tgt := 40) dX11_send_35 (by decide) (fun c3 => ?_) (fun c4 => ?_)
    · skip
      refine g_aload_n dX11_send_40 rfl rfl ?_
      refine g_iload dX11_send_41 rfl ?_
      refine g_iload dX11_send_43 rfl ?_
      exact s_callV (M' := mX11_isSpan) (As := [.int x4, .int x5]) (st := []) dX11_send_45 lm_X11_247 ovX11_isSpan (h := (sk0 c, I)) (sk_0 _) (show vwCl[11]? = some _ from rfl) rfl (by simp [Value.category]) (by decide) rfl (k2 c2 c3)
    · skip
      refine g_iconst (v := (-1)) dX11_send_38 (by decide) ?_
      exact g_iret rfl dX11_send_39 rfl (Nat.le_refl _) (q3 c2 c4)
set_option maxRecDepth 10000 in
set_option maxHeartbeats 1000000 in
theorem sg_X11_send_48 {l : Launch} {d : Nat} {Q : Option Value → mx_H → Prop} {c : Nat} {I : mx_I} (x1 : Int32) (x2 : Int32) (x3 : Int32) (x4 : Int32) (x5 : Int32) (x6 : Int32) (x7 : Int32)
    (q1 : (x7 = 0) → Q (some (.int (-1))) (sk0 c, I))
    (q2 : (¬ x7 = 0) → (x6 < 0) → Q (some (.int (-1))) (sk0 c, I))
    (k3 : (¬ x7 = 0) → (¬ x6 < 0) → (x6 ≤ 1) → mx_K1 l mX7_make d [.ref 66, .ref 1, .int (I 33 9)] (sk0 c, I) (fun r h' => mx_Go l (mx_rm (d + 1) 0 0) mX11_send (mx_Z Q 0 0) 0 0 85 [.ref 0, .int x1, .int x2, .int x3, .int x4, .int x5, .int x6, .retAddr 0, .retAddr 0, .retAddr 0, .retAddr 0, .retAddr 0, .retAddr 0] (r.toList ++ []) h'))
    (q4 : (¬ x7 = 0) → (¬ x6 < 0) → (¬ x6 ≤ 1) → Q (some (.int (-1))) (sk0 c, I)) :
    mx_Go l (mx_rm (d + 1) 0 0) mX11_send (mx_Z Q 0 0) 0 0 48 [.ref 0, .int x1, .int x2, .int x3, .int x4, .int x5, .int x6, .retAddr 0, .retAddr 0, .retAddr 0, .retAddr 0, .retAddr 0, .retAddr 0] [.int x7] (sk0 c, I) := by
  refine g_if_eq (tgt := 62) dX11_send_48 (by decide) (fun c1 => ?_) (fun c2 => ?_)
  · skip
    refine g_iconst (v := (-1)) dX11_send_62 (by decide) ?_
    exact g_iret rfl dX11_send_63 rfl (Nat.le_refl _) (q1 c1)
  · skip
    refine g_iload dX11_send_51 rfl ?_
    refine g_if_lt (tgt := 62) dX11_send_53 (by decide) (fun c3 => ?_) (fun c4 => ?_)
    · skip
      refine g_iconst (v := (-1)) dX11_send_62 (by decide) ?_
      exact g_iret rfl dX11_send_63 rfl (Nat.le_refl _) (q2 c2 c3)
    · skip
      refine g_iload dX11_send_56 rfl ?_
      refine g_iconst (v := 1) dX11_send_58 (by decide) ?_
      refine g_icmp_le (tgt := 64) dX11_send_59 (by decide) (fun c5 => ?_) (fun c6 => ?_)
      · skip
        refine g_aload_n dX11_send_64 rfl rfl ?_
        refine rg_X11_4 (r := 65) dX11_send_65 lf_X11_45 (sk_0 _) rfl ?_
        refine rg_X1_2 (r := 66) dX11_send_68 lf_X11_166 (sk_65 _) rfl ?_
        refine g_aload_n dX11_send_71 rfl rfl ?_
        refine rg_X11_0 (r := 1) dX11_send_72 lf_X11_12 (sk_0 _) rfl ?_
        refine g_aload_n dX11_send_75 rfl rfl ?_
        refine rg_X11_1 (r := 33) dX11_send_76 lf_X11_19 (sk_0 _) rfl ?_
        refine rg_X9_9 (v := (I 33 9)) dX11_send_79 lf_X11_163 (sk_33 _) rfl ?_
        exact s_callV (M' := mX7_make) (As := [.ref 1, .int (I 33 9)]) (st := []) dX11_send_82 lm_X11_170 ovX7_make (h := (sk0 c, I)) (sk_66 _) (show vwCl[7]? = some _ from rfl) rfl (by simp [Value.category]) (by decide) rfl (k3 c2 c4 c5)
      · skip
        refine g_iconst (v := (-1)) dX11_send_62 (by decide) ?_
        exact g_iret rfl dX11_send_63 rfl (Nat.le_refl _) (q4 c2 c4 c6)
set_option maxRecDepth 10000 in
set_option maxHeartbeats 1000000 in
theorem sg_X11_send_85 {l : Launch} {d : Nat} {Q : Option Value → mx_H → Prop} {c : Nat} {I : mx_I} (x1 : Int32) (x2 : Int32) (x3 : Int32) (x4 : Int32) (x5 : Int32) (x6 : Int32)
    (k1 : mx_K1 l mX5_add d [.ref 2, .int x1, .int x2, .int x4] (sk0 c, I) (fun r h' => mx_Go l (mx_rm (d + 1) 0 0) mX11_send (mx_Z Q 0 0) 0 0 99 [.ref 0, .int x1, .int x2, .int x3, .int x4, .int x5, .int x6, .retAddr 0, .retAddr 0, .retAddr 0, .retAddr 0, .retAddr 0, .retAddr 0] (r.toList ++ []) h')) :
    mx_Go l (mx_rm (d + 1) 0 0) mX11_send (mx_Z Q 0 0) 0 0 85 [.ref 0, .int x1, .int x2, .int x3, .int x4, .int x5, .int x6, .retAddr 0, .retAddr 0, .retAddr 0, .retAddr 0, .retAddr 0, .retAddr 0] [] (sk0 c, I) := by
  refine g_aload_n dX11_send_85 rfl rfl ?_
  refine rg_X11_0 (r := 1) dX11_send_86 lf_X11_12 (sk_0 _) rfl ?_
  refine rg_X10_0 (r := 2) dX11_send_89 lf_X11_79 (sk_1 _) rfl ?_
  refine g_iload_n dX11_send_92 rfl rfl ?_
  refine g_iload_n dX11_send_93 rfl rfl ?_
  refine g_iload dX11_send_94 rfl ?_
  exact s_callV (M' := mX5_add) (As := [.int x1, .int x2, .int x4]) (st := []) dX11_send_96 lm_X11_83 ovX5_add (h := (sk0 c, I)) (sk_2 _) (show vwCl[5]? = some _ from rfl) rfl (by simp [Value.category]) (by decide) rfl (k1)
set_option maxRecDepth 10000 in
set_option maxHeartbeats 1000000 in
theorem sg_X11_send_99 {l : Launch} {d : Nat} {Q : Option Value → mx_H → Prop} {c : Nat} {I : mx_I} (x1 : Int32) (x2 : Int32) (x3 : Int32) (x4 : Int32) (x5 : Int32) (x6 : Int32) (x7 : Int32)
    (e1 : (¬ x7 = (-1)) → mx_Go l (mx_rm (d + 1) 0 0) mX11_send (mx_Z Q 0 0) 0 0 123 [.ref 0, .int x1, .int x2, .int x3, .int x4, .int x5, .int x6, .int x7, .int (-1), .int (-1), .int x5, .int x4, .retAddr 0] [] (sk0 c, I))
    (q2 : (x7 = (-1)) → Q (some (.int (-1))) (sk0 c, I)) :
    mx_Go l (mx_rm (d + 1) 0 0) mX11_send (mx_Z Q 0 0) 0 0 99 [.ref 0, .int x1, .int x2, .int x3, .int x4, .int x5, .int x6, .retAddr 0, .retAddr 0, .retAddr 0, .retAddr 0, .retAddr 0, .retAddr 0] [.int x7] (sk0 c, I) := by
  refine s_istore (L' := [.ref 0, .int x1, .int x2, .int x3, .int x4, .int x5, .int x6, .int x7, .retAddr 0, .retAddr 0, .retAddr 0, .retAddr 0, .retAddr 0]) dX11_send_99 (by decide) rfl rfl ?_
  refine g_iload dX11_send_101 rfl ?_
  refine g_iconst (v := (-1)) dX11_send_103 (by decide) ?_
  refine g_icmp_ne (tgt := 109) dX11_send_104 (by decide) (fun c1 => ?_) (fun c2 => ?_)
  · skip
    refine g_iconst (v := (-1)) dX11_send_109 (by decide) ?_
    refine s_istore (L' := [.ref 0, .int x1, .int x2, .int x3, .int x4, .int x5, .int x6, .int x7, .int (-1), .retAddr 0, .retAddr 0, .retAddr 0, .retAddr 0]) dX11_send_110 (by decide) rfl rfl ?_
    refine g_iconst (v := (-1)) dX11_send_112 (by decide) ?_
    refine s_istore (L' := [.ref 0, .int x1, .int x2, .int x3, .int x4, .int x5, .int x6, .int x7, .int (-1), .int (-1), .retAddr 0, .retAddr 0, .retAddr 0]) dX11_send_113 (by decide) rfl rfl ?_
    refine g_iload dX11_send_115 rfl ?_
    refine s_istore (L' := [.ref 0, .int x1, .int x2, .int x3, .int x4, .int x5, .int x6, .int x7, .int (-1), .int (-1), .int x5, .retAddr 0, .retAddr 0]) dX11_send_117 (by decide) rfl rfl ?_
    refine g_iload dX11_send_119 rfl ?_
    refine s_istore (L' := [.ref 0, .int x1, .int x2, .int x3, .int x4, .int x5, .int x6, .int x7, .int (-1), .int (-1), .int x5, .int x4, .retAddr 0]) dX11_send_121 (by decide) rfl rfl ?_
    exact e1 c1
  · skip
    refine g_iconst (v := (-1)) dX11_send_107 (by decide) ?_
    exact g_iret rfl dX11_send_108 rfl (Nat.le_refl _) (q2 c2)
set_option maxRecDepth 10000 in
set_option maxHeartbeats 1000000 in
theorem sg_X11_send_123 {l : Launch} {d : Nat} {Q : Option Value → mx_H → Prop} {c : Nat} {I : mx_I} (x1 : Int32) (x2 : Int32) (x3 : Int32) (x4 : Int32) (x5 : Int32) (x6 : Int32) (x7 : Int32) (x8 : Int32) (x9 : Int32) (x10 : Int32) (x11 : Int32)
    (k1 : (x10 < x11) → mx_K1 l mX5_dropLast d [.ref 2] (sk0 c, I) (fun r h' => mx_Go l (mx_rm (d + 1) 0 0) mX11_send (mx_Z Q 0 0) 0 0 194 [.ref 0, .int x1, .int x2, .int x3, .int x4, .int x5, .int x6, .int x7, .int x8, .int x9, .int x10, .int x11, .retAddr 0] (r.toList ++ []) h'))
    (k2 : (¬ x10 < x11) → (¬ x9 = (-1)) → mx_K1 l mX11_arrival d [.ref 0, .int x7, .int x3, .int x11, .int x9] (sk0 c, I) (fun r h' => mx_Go l (mx_rm (d + 1) 0 0) mX11_send (mx_Z Q 0 0) 0 0 153 [.ref 0, .int x1, .int x2, .int x3, .int x4, .int x5, .int x6, .int x7, .int x8, .int x9, .int x10, .int x11, .retAddr 0] (r.toList ++ []) h'))
    (k3 : (¬ x10 < x11) → (x9 = (-1)) → mx_K1 l mX11_arrival d [.ref 0, .int x7, .int x3, .int x11, .int 167] (sk0 c, I) (fun r h' => mx_Go l (mx_rm (d + 1) 0 0) mX11_send (mx_Z Q 0 0) 0 0 153 [.ref 0, .int x1, .int x2, .int x3, .int x4, .int x5, .int x6, .int x7, .int x8, .int x9, .int x10, .int x11, .retAddr 0] (r.toList ++ []) h')) :
    mx_Go l (mx_rm (d + 1) 0 0) mX11_send (mx_Z Q 0 0) 0 0 123 [.ref 0, .int x1, .int x2, .int x3, .int x4, .int x5, .int x6, .int x7, .int x8, .int x9, .int x10, .int x11, .retAddr 0] [] (sk0 c, I) := by
  refine g_iload dX11_send_123 rfl ?_
  refine g_iload dX11_send_125 rfl ?_
  refine g_icmp_gt (tgt := 184) dX11_send_127 (by decide) (fun c1 => ?_) (fun c2 => ?_)
  · skip
    refine g_aload_n dX11_send_184 rfl rfl ?_
    refine rg_X11_0 (r := 1) dX11_send_185 lf_X11_12 (sk_0 _) rfl ?_
    refine rg_X10_0 (r := 2) dX11_send_188 lf_X11_79 (sk_1 _) rfl ?_
    exact s_callV (M' := mX5_dropLast) (As := []) (st := []) dX11_send_191 lm_X11_262 ovX5_dropLast (h := (sk0 c, I)) (sk_2 _) (show vwCl[5]? = some _ from rfl) rfl (by simp [Value.category]) (by decide) rfl (k1 c1)
  · skip
    refine g_aload_n dX11_send_130 rfl rfl ?_
    refine g_iload dX11_send_131 rfl ?_
    refine g_iload_n dX11_send_133 rfl rfl ?_
    refine g_iload dX11_send_134 rfl ?_
    refine g_iload dX11_send_136 rfl ?_
    refine g_iconst (v := (-1)) dX11_send_138 (by decide) ?_
    refine g_icmp_ne (tgt := 148) dX11_send_139 (by decide) (fun c3 => ?_) (fun c4 => ?_)
    · skip
      refine g_iload dX11_send_148 rfl ?_
      exact s_callV (M' := mX11_arrival) (As := [.int x7, .int x3, .int x11, .int x9]) (st := []) dX11_send_150 lm_X11_254 ovX11_arrival (h := (sk0 c, I)) (sk_0 _) (show vwCl[11]? = some _ from rfl) rfl (by simp [Value.category]) (by decide) rfl (k2 c2 c3)
    · skip
      refine g_sipush (v := 167) dX11_send_142 (by decide) ?_
      refine g_goto (tgt := 150) dX11_send_145 (by decide) ?_
      exact s_callV (M' := mX11_arrival) (As := [.int x7, .int x3, .int x11, .int 167]) (st := []) dX11_send_150 lm_X11_254 ovX11_arrival (h := (sk0 c, I)) (sk_0 _) (show vwCl[11]? = some _ from rfl) rfl (by simp [Value.category]) (by decide) rfl (k3 c2 c4)
set_option maxRecDepth 10000 in
set_option maxHeartbeats 1000000 in
theorem sg_X11_send_194 {l : Launch} {d : Nat} {Q : Option Value → mx_H → Prop} {c : Nat} {I : mx_I} (x1 : Int32) (x2 : Int32) (x3 : Int32) (x4 : Int32) (x5 : Int32) (x6 : Int32) (x7 : Int32) (x8 : Int32) (x9 : Int32) (x10 : Int32) (x11 : Int32)
    (q1 : (¬ x6 = 0) → Q (some (.int x9)) (sk0 c, I))
    (q2 : (x6 = 0) → Q (some (.int x8)) (sk0 c, I)) :
    mx_Go l (mx_rm (d + 1) 0 0) mX11_send (mx_Z Q 0 0) 0 0 194 [.ref 0, .int x1, .int x2, .int x3, .int x4, .int x5, .int x6, .int x7, .int x8, .int x9, .int x10, .int x11, .retAddr 0] [] (sk0 c, I) := by
  refine g_iload dX11_send_194 rfl ?_
  refine g_if_ne (tgt := 204) dX11_send_196 (by decide) (fun c1 => ?_) (fun c2 => ?_)
  · skip
    refine g_iload dX11_send_204 rfl ?_
    exact g_iret rfl dX11_send_206 rfl (Nat.le_refl _) (q1 c1)
  · skip
    refine g_iload dX11_send_199 rfl ?_
    refine g_goto (tgt := 206) dX11_send_201 (by decide) ?_
    exact g_iret rfl dX11_send_206 rfl (Nat.le_refl _) (q2 c2)
set_option maxRecDepth 10000 in
set_option maxHeartbeats 1000000 in
theorem sg_X11_send_153 {l : Launch} {d : Nat} {Q : Option Value → mx_H → Prop} {c : Nat} {I : mx_I} (x1 : Int32) (x2 : Int32) (x3 : Int32) (x4 : Int32) (x5 : Int32) (x6 : Int32) (x7 : Int32) (x8 : Int32) (x9 : Int32) (x10 : Int32) (x11 : Int32) (x12 : Int32)
    (e1 : (x12 = (-1)) → mx_Go l (mx_rm (d + 1) 0 0) mX11_send (mx_Z Q 0 0) 0 0 123 [.ref 0, .int x1, .int x2, .int x3, .int x4, .int x5, .int x6, .int x7, .int x8, .int x9, .int x10, .int (x11 + 1), .int x12] [] (sk0 c, I))
    (e2 : (¬ x12 = (-1)) → mx_Go l (mx_rm (d + 1) 0 0) mX11_send (mx_Z Q 0 0) 0 0 123 [.ref 0, .int x1, .int x2, .int x3, .int x4, .int x5, .int x6, .int x7, .int x11, .int x12, .int (if x12 < x5 then x12 else x5), .int (x11 + 1), .int x12] [] (sk0 c, I)) :
    mx_Go l (mx_rm (d + 1) 0 0) mX11_send (mx_Z Q 0 0) 0 0 153 [.ref 0, .int x1, .int x2, .int x3, .int x4, .int x5, .int x6, .int x7, .int x8, .int x9, .int x10, .int x11, .retAddr 0] [.int x12] (sk0 c, I) := by
  refine s_istore (L' := [.ref 0, .int x1, .int x2, .int x3, .int x4, .int x5, .int x6, .int x7, .int x8, .int x9, .int x10, .int x11, .int x12]) dX11_send_153 (by decide) rfl rfl ?_
  refine g_iload dX11_send_155 rfl ?_
  refine g_iconst (v := (-1)) dX11_send_157 (by decide) ?_
  refine g_icmp_eq (tgt := 178) dX11_send_158 (by decide) (fun c1 => ?_) (fun c2 => ?_)
  · skip
    refine s_iinc (v := (x11 + 1)) (L' := [.ref 0, .int x1, .int x2, .int x3, .int x4, .int x5, .int x6, .int x7, .int x8, .int x9, .int x10, .int (x11 + 1), .int x12]) dX11_send_178 rfl (by decide) rfl rfl rfl ?_
    refine g_goto (tgt := 123) dX11_send_181 (by decide) ?_
    exact e1 c1
  · skip
    refine g_iload dX11_send_161 rfl ?_
    refine s_istore (L' := [.ref 0, .int x1, .int x2, .int x3, .int x4, .int x5, .int x6, .int x7, .int x8, .int x12, .int x10, .int x11, .int x12]) dX11_send_163 (by decide) rfl rfl ?_
    refine g_iload dX11_send_165 rfl ?_
    refine s_istore (L' := [.ref 0, .int x1, .int x2, .int x3, .int x4, .int x5, .int x6, .int x7, .int x11, .int x12, .int x10, .int x11, .int x12]) dX11_send_167 (by decide) rfl rfl ?_
    refine g_iload dX11_send_169 rfl ?_
    refine g_iload dX11_send_171 rfl ?_
    refine s_min (by simp [Value.category]) dX11_send_173 lm_X11_257 ?_
    refine s_istore (L' := [.ref 0, .int x1, .int x2, .int x3, .int x4, .int x5, .int x6, .int x7, .int x11, .int x12, .int (if x12 < x5 then x12 else x5), .int x11, .int x12]) dX11_send_176 (by decide) rfl rfl ?_
    refine s_iinc (v := (x11 + 1)) (L' := [.ref 0, .int x1, .int x2, .int x3, .int x4, .int x5, .int x6, .int x7, .int x11, .int x12, .int (if x12 < x5 then x12 else x5), .int (x11 + 1), .int x12]) dX11_send_178 rfl (by decide) rfl rfl rfl ?_
    refine g_goto (tgt := 123) dX11_send_181 (by decide) ?_
    exact e2 c2
set_option maxRecDepth 10000 in
set_option maxHeartbeats 1000000 in
theorem sn_X11_offer {l : Launch} {d : Nat} {Q : Option Value → mx_H → Prop} {c : Nat} {I : mx_I} (a1 : Int32) (a2 : Int32) (a3 : Int32) (a4 : Int32) (a5 : Int32)
    (k1 : mx_K1 l mX11_isAhead d [.ref 0, .int a1] (sk0 c, I) (fun r h' => mx_Go l (mx_rm (d + 1) 0 0) mX11_offer (mx_Z Q 0 0) 0 0 5 [.ref 0, .int a1, .int a2, .int a3, .int a4, .int a5] (r.toList ++ []) h')) :
    mx_Spec l mX11_offer (d + 1) 0 0 [.ref 0, .int a1, .int a2, .int a3, .int a4, .int a5] (sk0 c, I) Q := by
  refine mx_enter rfl (by simp [Value.category]) (Nat.le_of_ble_eq_true rfl) ?_
  change mx_Go l (mx_rm (d + 1) 0 0) mX11_offer (mx_Z Q 0 0) 0 0 0 [.ref 0, .int a1, .int a2, .int a3, .int a4, .int a5] [] (sk0 c, I)
  refine g_aload_n dX11_offer_0 rfl rfl ?_
  refine g_iload_n dX11_offer_1 rfl rfl ?_
  exact s_callV (M' := mX11_isAhead) (As := [.int a1]) (st := []) dX11_offer_2 lm_X11_76 ovX11_isAhead (h := (sk0 c, I)) (sk_0 _) (show vwCl[11]? = some _ from rfl) rfl (by simp [Value.category]) (by decide) rfl (k1)
set_option maxRecDepth 10000 in
set_option maxHeartbeats 1000000 in
theorem sg_X11_offer_5 {l : Launch} {d : Nat} {Q : Option Value → mx_H → Prop} {c : Nat} {I : mx_I} (x1 : Int32) (x2 : Int32) (x3 : Int32) (x4 : Int32) (x5 : Int32) (x6 : Int32)
    (q1 : (x6 = 0) → Q (some (.int (-1))) (sk0 c, I))
    (k2 : (¬ x6 = 0) → mx_K1 l mX11_isWalk d [.ref 0, .int x2, .int x3, .int x4] (sk0 c, I) (fun r h' => mx_Go l (mx_rm (d + 1) 0 0) mX11_offer (mx_Z Q 0 0) 0 0 16 [.ref 0, .int x1, .int x2, .int x3, .int x4, .int x5] (r.toList ++ []) h')) :
    mx_Go l (mx_rm (d + 1) 0 0) mX11_offer (mx_Z Q 0 0) 0 0 5 [.ref 0, .int x1, .int x2, .int x3, .int x4, .int x5] [.int x6] (sk0 c, I) := by
  refine g_if_eq (tgt := 32) dX11_offer_5 (by decide) (fun c1 => ?_) (fun c2 => ?_)
  · skip
    refine g_iconst (v := (-1)) dX11_offer_32 (by decide) ?_
    exact g_iret rfl dX11_offer_33 rfl (Nat.le_refl _) (q1 c1)
  · skip
    refine g_aload_n dX11_offer_8 rfl rfl ?_
    refine g_iload_n dX11_offer_9 rfl rfl ?_
    refine g_iload_n dX11_offer_10 rfl rfl ?_
    refine g_iload dX11_offer_11 rfl ?_
    exact s_callV (M' := mX11_isWalk) (As := [.int x2, .int x3, .int x4]) (st := []) dX11_offer_13 lm_X11_99 ovX11_isWalk (h := (sk0 c, I)) (sk_0 _) (show vwCl[11]? = some _ from rfl) rfl (by simp [Value.category]) (by decide) rfl (k2 c2)
set_option maxRecDepth 10000 in
set_option maxHeartbeats 1000000 in
theorem sg_X11_offer_16 {l : Launch} {d : Nat} {Q : Option Value → mx_H → Prop} {c : Nat} {I : mx_I} (x1 : Int32) (x2 : Int32) (x3 : Int32) (x4 : Int32) (x5 : Int32) (x6 : Int32)
    (q1 : (x6 = 0) → Q (some (.int (-1))) (sk0 c, I))
    (q2 : (¬ x6 = 0) → (x5 < 0) → Q (some (.int (-1))) (sk0 c, I))
    (k3 : (¬ x6 = 0) → (¬ x5 < 0) → (x5 ≤ 999) → mx_K1 l mX6_add d [.ref 18, .int x1, .int x2, .int x3, .int x4, .int x5] (sk0 c, I) (fun r h' => mx_Go l (mx_rm (d + 1) 0 0) mX11_offer (mx_Z Q 0 0) 0 0 51 [.ref 0, .int x1, .int x2, .int x3, .int x4, .int x5] (r.toList ++ []) h'))
    (q4 : (¬ x6 = 0) → (¬ x5 < 0) → (¬ x5 ≤ 999) → Q (some (.int (-1))) (sk0 c, I)) :
    mx_Go l (mx_rm (d + 1) 0 0) mX11_offer (mx_Z Q 0 0) 0 0 16 [.ref 0, .int x1, .int x2, .int x3, .int x4, .int x5] [.int x6] (sk0 c, I) := by
  refine g_if_eq (tgt := 32) dX11_offer_16 (by decide) (fun c1 => ?_) (fun c2 => ?_)
  · skip
    refine g_iconst (v := (-1)) dX11_offer_32 (by decide) ?_
    exact g_iret rfl dX11_offer_33 rfl (Nat.le_refl _) (q1 c1)
  · skip
    refine g_iload dX11_offer_19 rfl ?_
    refine g_if_lt (tgt := 32) dX11_offer_21 (by decide) (fun c3 => ?_) (fun c4 => ?_)
    · skip
      refine g_iconst (v := (-1)) dX11_offer_32 (by decide) ?_
      exact g_iret rfl dX11_offer_33 rfl (Nat.le_refl _) (q2 c2 c3)
    · skip
      refine g_iload dX11_offer_24 rfl ?_
      refine g_sipush (v := 999) dX11_offer_26 (by decide) ?_
      refine g_icmp_le (tgt := 34) dX11_offer_29 (by decide) (fun c5 => ?_) (fun c6 => ?_)
      · skip
        refine g_aload_n dX11_offer_34 rfl rfl ?_
        refine rg_X11_0 (r := 1) dX11_offer_35 lf_X11_12 (sk_0 _) rfl ?_
        refine rg_X10_2 (r := 18) dX11_offer_38 lf_X11_265 (sk_1 _) rfl ?_
        refine g_iload_n dX11_offer_41 rfl rfl ?_
        refine g_iload_n dX11_offer_42 rfl rfl ?_
        refine g_iload_n dX11_offer_43 rfl rfl ?_
        refine g_iload dX11_offer_44 rfl ?_
        refine g_iload dX11_offer_46 rfl ?_
        exact s_callV (M' := mX6_add) (As := [.int x1, .int x2, .int x3, .int x4, .int x5]) (st := []) dX11_offer_48 lm_X11_269 ovX6_add (h := (sk0 c, I)) (sk_18 _) (show vwCl[6]? = some _ from rfl) rfl (by simp [Value.category]) (by decide) rfl (k3 c2 c4 c5)
      · skip
        refine g_iconst (v := (-1)) dX11_offer_32 (by decide) ?_
        exact g_iret rfl dX11_offer_33 rfl (Nat.le_refl _) (q4 c2 c4 c6)
set_option maxRecDepth 10000 in
set_option maxHeartbeats 1000000 in
theorem sg_X11_offer_51 {l : Launch} {d : Nat} {Q : Option Value → mx_H → Prop} {c : Nat} {I : mx_I} (x1 : Int32) (x2 : Int32) (x3 : Int32) (x4 : Int32) (x5 : Int32) (x6 : Int32)
    (q1 : Q (some (.int x6)) (sk0 c, I)) :
    mx_Go l (mx_rm (d + 1) 0 0) mX11_offer (mx_Z Q 0 0) 0 0 51 [.ref 0, .int x1, .int x2, .int x3, .int x4, .int x5] [.int x6] (sk0 c, I) := by
  exact g_iret rfl dX11_offer_51 rfl (Nat.le_refl _) (q1)
set_option maxRecDepth 10000 in
set_option maxHeartbeats 1000000 in
theorem sn_X11_fewest {l : Launch} {d : Nat} {Q : Option Value → mx_H → Prop} {c : Nat} {I : mx_I} (a1 : Int32) (a2 : Int32) (a3 : Int32) (a4 : Int32)
    (q1 : (a1 = 0) → Q (some (.int (-1))) (sk0 c, I))
    (k2 : (¬ a1 = 0) → mx_K1 l mX5_hasAll d [.ref 2, .int a1] (sk0 c, I) (fun r h' => mx_Go l (mx_rm (d + 1) 0 0) mX11_fewest (mx_Z Q 0 0) 0 0 15 [.ref 0, .int a1, .int a2, .int a3, .int a4, .retAddr 0, .retAddr 0, .retAddr 0, .retAddr 0, .retAddr 0, .retAddr 0, .retAddr 0, .retAddr 0] (r.toList ++ []) h')) :
    mx_Spec l mX11_fewest (d + 1) 0 0 [.ref 0, .int a1, .int a2, .int a3, .int a4] (sk0 c, I) Q := by
  refine mx_enter rfl (by simp [Value.category]) (Nat.le_of_ble_eq_true rfl) ?_
  change mx_Go l (mx_rm (d + 1) 0 0) mX11_fewest (mx_Z Q 0 0) 0 0 0 [.ref 0, .int a1, .int a2, .int a3, .int a4, .retAddr 0, .retAddr 0, .retAddr 0, .retAddr 0, .retAddr 0, .retAddr 0, .retAddr 0, .retAddr 0] [] (sk0 c, I)
  refine g_iload_n dX11_fewest_0 rfl rfl ?_
  refine g_if_eq (tgt := 37) dX11_fewest_1 (by decide) (fun c1 => ?_) (fun c2 => ?_)
  · skip
    refine g_iconst (v := (-1)) dX11_fewest_37 (by decide) ?_
    exact g_iret rfl dX11_fewest_38 rfl (Nat.le_refl _) (q1 c1)
  · skip
    refine g_aload_n dX11_fewest_4 rfl rfl ?_
    refine rg_X11_0 (r := 1) dX11_fewest_5 lf_X11_12 (sk_0 _) rfl ?_
    refine rg_X10_0 (r := 2) dX11_fewest_8 lf_X11_79 (sk_1 _) rfl ?_
    refine g_iload_n dX11_fewest_11 rfl rfl ?_
    exact s_callV (M' := mX5_hasAll) (As := [.int a1]) (st := []) dX11_fewest_12 lm_X11_273 ovX5_hasAll (h := (sk0 c, I)) (sk_2 _) (show vwCl[5]? = some _ from rfl) rfl (by simp [Value.category]) (by decide) rfl (k2 c2)
set_option maxRecDepth 10000 in
set_option maxHeartbeats 1000000 in
theorem sg_X11_fewest_15 {l : Launch} {d : Nat} {Q : Option Value → mx_H → Prop} {c : Nat} {I : mx_I} (x1 : Int32) (x2 : Int32) (x3 : Int32) (x4 : Int32) (x5 : Int32)
    (q1 : (x5 = 0) → Q (some (.int (-1))) (sk0 c, I))
    (k2 : (¬ x5 = 0) → mx_K1 l mX10_hasEnd d [.ref 1, .int x2] (sk0 c, I) (fun r h' => mx_Go l (mx_rm (d + 1) 0 0) mX11_fewest (mx_Z Q 0 0) 0 0 26 [.ref 0, .int x1, .int x2, .int x3, .int x4, .retAddr 0, .retAddr 0, .retAddr 0, .retAddr 0, .retAddr 0, .retAddr 0, .retAddr 0, .retAddr 0] (r.toList ++ []) h')) :
    mx_Go l (mx_rm (d + 1) 0 0) mX11_fewest (mx_Z Q 0 0) 0 0 15 [.ref 0, .int x1, .int x2, .int x3, .int x4, .retAddr 0, .retAddr 0, .retAddr 0, .retAddr 0, .retAddr 0, .retAddr 0, .retAddr 0, .retAddr 0] [.int x5] (sk0 c, I) := by
  refine g_if_eq (tgt := 37) dX11_fewest_15 (by decide) (fun c1 => ?_) (fun c2 => ?_)
  · skip
    refine g_iconst (v := (-1)) dX11_fewest_37 (by decide) ?_
    exact g_iret rfl dX11_fewest_38 rfl (Nat.le_refl _) (q1 c1)
  · skip
    refine g_aload_n dX11_fewest_18 rfl rfl ?_
    refine rg_X11_0 (r := 1) dX11_fewest_19 lf_X11_12 (sk_0 _) rfl ?_
    refine g_iload_n dX11_fewest_22 rfl rfl ?_
    exact s_callV (M' := mX10_hasEnd) (As := [.int x2]) (st := []) dX11_fewest_23 lm_X11_72 ovX10_hasEnd (h := (sk0 c, I)) (sk_1 _) (show vwCl[10]? = some _ from rfl) rfl (by simp [Value.category]) (by decide) rfl (k2 c2)
set_option maxRecDepth 10000 in
set_option maxHeartbeats 1000000 in
theorem sg_X11_fewest_26 {l : Launch} {d : Nat} {Q : Option Value → mx_H → Prop} {c : Nat} {I : mx_I} (x1 : Int32) (x2 : Int32) (x3 : Int32) (x4 : Int32) (x5 : Int32)
    (q1 : (x5 = 0) → Q (some (.int (-1))) (sk0 c, I))
    (k2 : (¬ x5 = 0) → mx_K1 l mX11_isAhead d [.ref 0, .int x3] (sk0 c, I) (fun r h' => mx_Go l (mx_rm (d + 1) 0 0) mX11_fewest (mx_Z Q 0 0) 0 0 34 [.ref 0, .int x1, .int x2, .int x3, .int x4, .retAddr 0, .retAddr 0, .retAddr 0, .retAddr 0, .retAddr 0, .retAddr 0, .retAddr 0, .retAddr 0] (r.toList ++ []) h')) :
    mx_Go l (mx_rm (d + 1) 0 0) mX11_fewest (mx_Z Q 0 0) 0 0 26 [.ref 0, .int x1, .int x2, .int x3, .int x4, .retAddr 0, .retAddr 0, .retAddr 0, .retAddr 0, .retAddr 0, .retAddr 0, .retAddr 0, .retAddr 0] [.int x5] (sk0 c, I) := by
  refine g_if_eq (tgt := 37) dX11_fewest_26 (by decide) (fun c1 => ?_) (fun c2 => ?_)
  · skip
    refine g_iconst (v := (-1)) dX11_fewest_37 (by decide) ?_
    exact g_iret rfl dX11_fewest_38 rfl (Nat.le_refl _) (q1 c1)
  · skip
    refine g_aload_n dX11_fewest_29 rfl rfl ?_
    refine g_iload_n dX11_fewest_30 rfl rfl ?_
    exact s_callV (M' := mX11_isAhead) (As := [.int x3]) (st := []) dX11_fewest_31 lm_X11_76 ovX11_isAhead (h := (sk0 c, I)) (sk_0 _) (show vwCl[11]? = some _ from rfl) rfl (by simp [Value.category]) (by decide) rfl (k2 c2)
set_option maxRecDepth 10000 in
set_option maxHeartbeats 1000000 in
theorem sg_X11_fewest_34 {l : Launch} {d : Nat} {Q : Option Value → mx_H → Prop} {c : Nat} {I : mx_I} (x1 : Int32) (x2 : Int32) (x3 : Int32) (x4 : Int32) (x5 : Int32)
    (q1 : (¬ x5 = 0) → (x4 < 0) → Q (some (.int (-1))) (sk0 c, I))
    (k2 : (¬ x5 = 0) → (¬ x4 < 0) → (x4 ≤ 1) → mx_K1 l mX7_make d [.ref 66, .ref 1, .int (I 33 9)] (sk0 c, I) (fun r h' => mx_Go l (mx_rm (d + 1) 0 0) mX11_fewest (mx_Z Q 0 0) 0 0 73 [.ref 0, .int x1, .int x2, .int x3, .int x4, .retAddr 0, .retAddr 0, .retAddr 0, .retAddr 0, .retAddr 0, .retAddr 0, .retAddr 0, .retAddr 0] (r.toList ++ []) h'))
    (q3 : (¬ x5 = 0) → (¬ x4 < 0) → (¬ x4 ≤ 1) → Q (some (.int (-1))) (sk0 c, I))
    (q4 : (x5 = 0) → Q (some (.int (-1))) (sk0 c, I)) :
    mx_Go l (mx_rm (d + 1) 0 0) mX11_fewest (mx_Z Q 0 0) 0 0 34 [.ref 0, .int x1, .int x2, .int x3, .int x4, .retAddr 0, .retAddr 0, .retAddr 0, .retAddr 0, .retAddr 0, .retAddr 0, .retAddr 0, .retAddr 0] [.int x5] (sk0 c, I) := by
  refine g_if_ne (tgt := 39) dX11_fewest_34 (by decide) (fun c1 => ?_) (fun c2 => ?_)
  · skip
    refine g_iload dX11_fewest_39 rfl ?_
    refine g_if_lt (tgt := 50) dX11_fewest_41 (by decide) (fun c3 => ?_) (fun c4 => ?_)
    · skip
      refine g_iconst (v := (-1)) dX11_fewest_50 (by decide) ?_
      exact g_iret rfl dX11_fewest_51 rfl (Nat.le_refl _) (q1 c1 c3)
    · skip
      refine g_iload dX11_fewest_44 rfl ?_
      refine g_iconst (v := 1) dX11_fewest_46 (by decide) ?_
      refine g_icmp_le (tgt := 52) dX11_fewest_47 (by decide) (fun c5 => ?_) (fun c6 => ?_)
      · skip
        refine g_aload_n dX11_fewest_52 rfl rfl ?_
        refine rg_X11_4 (r := 65) dX11_fewest_53 lf_X11_45 (sk_0 _) rfl ?_
        refine rg_X1_2 (r := 66) dX11_fewest_56 lf_X11_166 (sk_65 _) rfl ?_
        refine g_aload_n dX11_fewest_59 rfl rfl ?_
        refine rg_X11_0 (r := 1) dX11_fewest_60 lf_X11_12 (sk_0 _) rfl ?_
        refine g_aload_n dX11_fewest_63 rfl rfl ?_
        refine rg_X11_1 (r := 33) dX11_fewest_64 lf_X11_19 (sk_0 _) rfl ?_
        refine rg_X9_9 (v := (I 33 9)) dX11_fewest_67 lf_X11_163 (sk_33 _) rfl ?_
        exact s_callV (M' := mX7_make) (As := [.ref 1, .int (I 33 9)]) (st := []) dX11_fewest_70 lm_X11_170 ovX7_make (h := (sk0 c, I)) (sk_66 _) (show vwCl[7]? = some _ from rfl) rfl (by simp [Value.category]) (by decide) rfl (k2 c1 c4 c5)
      · skip
        refine g_iconst (v := (-1)) dX11_fewest_50 (by decide) ?_
        exact g_iret rfl dX11_fewest_51 rfl (Nat.le_refl _) (q3 c1 c4 c6)
  · skip
    refine g_iconst (v := (-1)) dX11_fewest_37 (by decide) ?_
    exact g_iret rfl dX11_fewest_38 rfl (Nat.le_refl _) (q4 c2)
set_option maxRecDepth 10000 in
set_option maxHeartbeats 1000000 in
theorem sg_X11_fewest_73 {l : Launch} {d : Nat} {Q : Option Value → mx_H → Prop} {c : Nat} {I : mx_I} (x1 : Int32) (x2 : Int32) (x3 : Int32) (x4 : Int32)
    (e1 : mx_Go l (mx_rm (d + 1) 0 0) mX11_fewest (mx_Z Q 0 0) 0 0 99 [.ref 0, .int x1, .int x2, .int x3, .int x4, .int (-1), .int 0, .int 0, .int (1 <<< ((I 18 5) &&& 31)), .int 0, .retAddr 0, .retAddr 0, .retAddr 0] [] (sk0 c, I)) :
    mx_Go l (mx_rm (d + 1) 0 0) mX11_fewest (mx_Z Q 0 0) 0 0 73 [.ref 0, .int x1, .int x2, .int x3, .int x4, .retAddr 0, .retAddr 0, .retAddr 0, .retAddr 0, .retAddr 0, .retAddr 0, .retAddr 0, .retAddr 0] [] (sk0 c, I) := by
  refine g_iconst (v := (-1)) dX11_fewest_73 (by decide) ?_
  refine s_istore (L' := [.ref 0, .int x1, .int x2, .int x3, .int x4, .int (-1), .retAddr 0, .retAddr 0, .retAddr 0, .retAddr 0, .retAddr 0, .retAddr 0, .retAddr 0]) dX11_fewest_74 (by decide) rfl rfl ?_
  refine g_iconst (v := 0) dX11_fewest_76 (by decide) ?_
  refine s_istore (L' := [.ref 0, .int x1, .int x2, .int x3, .int x4, .int (-1), .int 0, .retAddr 0, .retAddr 0, .retAddr 0, .retAddr 0, .retAddr 0, .retAddr 0]) dX11_fewest_77 (by decide) rfl rfl ?_
  refine g_iconst (v := 0) dX11_fewest_79 (by decide) ?_
  refine s_istore (L' := [.ref 0, .int x1, .int x2, .int x3, .int x4, .int (-1), .int 0, .int 0, .retAddr 0, .retAddr 0, .retAddr 0, .retAddr 0, .retAddr 0]) dX11_fewest_80 (by decide) rfl rfl ?_
  refine g_iconst (v := 1) dX11_fewest_82 (by decide) ?_
  refine g_aload_n dX11_fewest_83 rfl rfl ?_
  refine rg_X11_0 (r := 1) dX11_fewest_84 lf_X11_12 (sk_0 _) rfl ?_
  refine rg_X10_2 (r := 18) dX11_fewest_87 lf_X11_265 (sk_1 _) rfl ?_
  refine rg_X6_5 (v := (I 18 5)) dX11_fewest_90 lf_X11_276 (sk_18 _) rfl ?_
  refine g_ishl dX11_fewest_93 ?_
  refine s_istore (L' := [.ref 0, .int x1, .int x2, .int x3, .int x4, .int (-1), .int 0, .int 0, .int (1 <<< ((I 18 5) &&& 31)), .retAddr 0, .retAddr 0, .retAddr 0, .retAddr 0]) dX11_fewest_94 (by decide) rfl rfl ?_
  refine g_iconst (v := 0) dX11_fewest_96 (by decide) ?_
  refine s_istore (L' := [.ref 0, .int x1, .int x2, .int x3, .int x4, .int (-1), .int 0, .int 0, .int (1 <<< ((I 18 5) &&& 31)), .int 0, .retAddr 0, .retAddr 0, .retAddr 0]) dX11_fewest_97 (by decide) rfl rfl ?_
  exact e1
set_option maxRecDepth 10000 in
set_option maxHeartbeats 1000000 in
theorem sg_X11_fewest_99 {l : Launch} {d : Nat} {Q : Option Value → mx_H → Prop} {c : Nat} {I : mx_I} (x1 : Int32) (x2 : Int32) (x3 : Int32) (x4 : Int32) (x5 : Int32) (x6 : Int32) (x7 : Int32) (x8 : Int32) (x9 : Int32)
    (q1 : (x8 ≤ x9) → (x4 = 0) → Q (some (.int x5)) (sk0 c, I))
    (q2 : (x8 ≤ x9) → (¬ x4 = 0) → (¬ x5 = (-1)) → Q (some (.int x7)) (sk0 c, I))
    (q3 : (x8 ≤ x9) → (¬ x4 = 0) → (x5 = (-1)) → Q (some (.int x5)) (sk0 c, I))
    (k4 : (¬ x8 ≤ x9) → mx_K1 l mJ6_bitCount_0f7a4 d [.int x9] (sk0 c, I) (fun r h' => mx_Go l (mx_rm (d + 1) 0 0) mX11_fewest (mx_Z Q 0 0) 0 0 111 [.ref 0, .int x1, .int x2, .int x3, .int x4, .int x5, .int x6, .int x7, .int x8, .int x9, .retAddr 0, .retAddr 0, .retAddr 0] (r.toList ++ []) h')) :
    mx_Go l (mx_rm (d + 1) 0 0) mX11_fewest (mx_Z Q 0 0) 0 0 99 [.ref 0, .int x1, .int x2, .int x3, .int x4, .int x5, .int x6, .int x7, .int x8, .int x9, .retAddr 0, .retAddr 0, .retAddr 0] [] (sk0 c, I) := by
  refine g_iload dX11_fewest_99 rfl ?_
  refine g_iload dX11_fewest_101 rfl ?_
  refine g_icmp_ge (tgt := 196) dX11_fewest_103 (by decide) (fun c1 => ?_) (fun c2 => ?_)
  · skip
    refine g_iload dX11_fewest_196 rfl ?_
    refine g_if_eq (tgt := 207) dX11_fewest_198 (by decide) (fun c3 => ?_) (fun c4 => ?_)
    · skip
      refine g_iload dX11_fewest_207 rfl ?_
      refine g_goto (tgt := 214) dX11_fewest_209 (by decide) ?_
      exact g_iret rfl dX11_fewest_214 rfl (Nat.le_refl _) (q1 c1 c3)
    · skip
      refine g_iload dX11_fewest_201 rfl ?_
      refine g_iconst (v := (-1)) dX11_fewest_203 (by decide) ?_
      refine g_icmp_ne (tgt := 212) dX11_fewest_204 (by decide) (fun c5 => ?_) (fun c6 => ?_)
      · skip
        refine g_iload dX11_fewest_212 rfl ?_
        exact g_iret rfl dX11_fewest_214 rfl (Nat.le_refl _) (q2 c1 c4 c5)
      · skip
        refine g_iload dX11_fewest_207 rfl ?_
        refine g_goto (tgt := 214) dX11_fewest_209 (by decide) ?_
        exact g_iret rfl dX11_fewest_214 rfl (Nat.le_refl _) (q3 c1 c4 c6)
  · skip
    refine g_iload dX11_fewest_106 rfl ?_
    exact s_callS (M' := mJ6_bitCount_0f7a4) (As := [.int x9]) (st := []) dX11_fewest_108 lm_X11_279 okJ6_bitCount_0f7a4 osJ6_bitCount_0f7a4 (by simp [Value.category]) (by decide) rfl (k4 c2)
set_option maxRecDepth 10000 in
set_option maxHeartbeats 1000000 in
theorem sg_X11_fewest_111 {l : Launch} {d : Nat} {Q : Option Value → mx_H → Prop} {c : Nat} {I : mx_I} (x1 : Int32) (x2 : Int32) (x3 : Int32) (x4 : Int32) (x5 : Int32) (x6 : Int32) (x7 : Int32) (x8 : Int32) (x9 : Int32) (x10 : Int32)
    (k1 : mx_K1 l mX6_priceOf d [.ref 18, .int x9] (sk0 c, I) (fun r h' => mx_Go l (mx_rm (d + 1) 0 0) mX11_fewest (mx_Z Q 0 0) 0 0 125 [.ref 0, .int x1, .int x2, .int x3, .int x4, .int x5, .int x6, .int x7, .int x8, .int x9, .int x10, .retAddr 0, .retAddr 0] (r.toList ++ []) h')) :
    mx_Go l (mx_rm (d + 1) 0 0) mX11_fewest (mx_Z Q 0 0) 0 0 111 [.ref 0, .int x1, .int x2, .int x3, .int x4, .int x5, .int x6, .int x7, .int x8, .int x9, .retAddr 0, .retAddr 0, .retAddr 0] [.int x10] (sk0 c, I) := by
  refine s_istore (L' := [.ref 0, .int x1, .int x2, .int x3, .int x4, .int x5, .int x6, .int x7, .int x8, .int x9, .int x10, .retAddr 0, .retAddr 0]) dX11_fewest_111 (by decide) rfl rfl ?_
  refine g_aload_n dX11_fewest_113 rfl rfl ?_
  refine rg_X11_0 (r := 1) dX11_fewest_114 lf_X11_12 (sk_0 _) rfl ?_
  refine rg_X10_2 (r := 18) dX11_fewest_117 lf_X11_265 (sk_1 _) rfl ?_
  refine g_iload dX11_fewest_120 rfl ?_
  exact s_callV (M' := mX6_priceOf) (As := [.int x9]) (st := []) dX11_fewest_122 lm_X11_285 ovX6_priceOf (h := (sk0 c, I)) (sk_18 _) (show vwCl[6]? = some _ from rfl) rfl (by simp [Value.category]) (by decide) rfl (k1)
set_option maxRecDepth 10000 in
set_option maxHeartbeats 1000000 in
theorem sg_X11_fewest_125 {l : Launch} {d : Nat} {Q : Option Value → mx_H → Prop} {c : Nat} {I : mx_I} (x1 : Int32) (x2 : Int32) (x3 : Int32) (x4 : Int32) (x5 : Int32) (x6 : Int32) (x7 : Int32) (x8 : Int32) (x9 : Int32) (x10 : Int32) (x11 : Int32)
    (k1 : (x5 = (-1)) → mx_K1 l mX11_isEnough d [.ref 0, .int x9, .int x1, .int x2, .int x3] (sk0 c, I) (fun r h' => mx_Go l (mx_rm (d + 1) 0 0) mX11_fewest (mx_Z Q 0 0) 0 0 175 [.ref 0, .int x1, .int x2, .int x3, .int x4, .int x5, .int x6, .int x7, .int x8, .int x9, .int x10, .int x11, .int 1] (r.toList ++ []) h'))
    (k2 : (¬ x5 = (-1)) → (x10 < x6) → mx_K1 l mX11_isEnough d [.ref 0, .int x9, .int x1, .int x2, .int x3] (sk0 c, I) (fun r h' => mx_Go l (mx_rm (d + 1) 0 0) mX11_fewest (mx_Z Q 0 0) 0 0 175 [.ref 0, .int x1, .int x2, .int x3, .int x4, .int x5, .int x6, .int x7, .int x8, .int x9, .int x10, .int x11, .int 1] (r.toList ++ []) h'))
    (e3 : (¬ x5 = (-1)) → (¬ x10 < x6) → (¬ x10 = x6) → mx_Go l (mx_rm (d + 1) 0 0) mX11_fewest (mx_Z Q 0 0) 0 0 99 [.ref 0, .int x1, .int x2, .int x3, .int x4, .int x5, .int x6, .int x7, .int x8, .int (x9 + 1), .int x10, .int x11, .int 0] [] (sk0 c, I))
    (e4 : (¬ x5 = (-1)) → (¬ x10 < x6) → (x10 = x6) → (x7 ≤ x11) → mx_Go l (mx_rm (d + 1) 0 0) mX11_fewest (mx_Z Q 0 0) 0 0 99 [.ref 0, .int x1, .int x2, .int x3, .int x4, .int x5, .int x6, .int x7, .int x8, .int (x9 + 1), .int x10, .int x11, .int 0] [] (sk0 c, I))
    (k5 : (¬ x5 = (-1)) → (¬ x10 < x6) → (x10 = x6) → (¬ x7 ≤ x11) → mx_K1 l mX11_isEnough d [.ref 0, .int x9, .int x1, .int x2, .int x3] (sk0 c, I) (fun r h' => mx_Go l (mx_rm (d + 1) 0 0) mX11_fewest (mx_Z Q 0 0) 0 0 175 [.ref 0, .int x1, .int x2, .int x3, .int x4, .int x5, .int x6, .int x7, .int x8, .int x9, .int x10, .int x11, .int 1] (r.toList ++ []) h')) :
    mx_Go l (mx_rm (d + 1) 0 0) mX11_fewest (mx_Z Q 0 0) 0 0 125 [.ref 0, .int x1, .int x2, .int x3, .int x4, .int x5, .int x6, .int x7, .int x8, .int x9, .int x10, .retAddr 0, .retAddr 0] [.int x11] (sk0 c, I) := by
  refine s_istore (L' := [.ref 0, .int x1, .int x2, .int x3, .int x4, .int x5, .int x6, .int x7, .int x8, .int x9, .int x10, .int x11, .retAddr 0]) dX11_fewest_125 (by decide) rfl rfl ?_
  refine g_iload dX11_fewest_127 rfl ?_
  refine g_iconst (v := (-1)) dX11_fewest_129 (by decide) ?_
  refine g_icmp_eq (tgt := 154) dX11_fewest_130 (by decide) (fun c1 => ?_) (fun c2 => ?_)
  · skip
    refine g_iconst (v := 1) dX11_fewest_154 (by decide) ?_
    refine g_goto (tgt := 159) dX11_fewest_155 (by decide) ?_
    refine s_istore (L' := [.ref 0, .int x1, .int x2, .int x3, .int x4, .int x5, .int x6, .int x7, .int x8, .int x9, .int x10, .int x11, .int 1]) dX11_fewest_159 (by decide) rfl rfl ?_
    refine g_iload dX11_fewest_161 rfl ?_
    refine g_if_eq (tgt := 190) dX11_fewest_163 (by decide) (fun hh => absurd hh (by decide)) (fun _ => ?_)
    refine g_aload_n dX11_fewest_166 rfl rfl ?_
    refine g_iload dX11_fewest_167 rfl ?_
    refine g_iload_n dX11_fewest_169 rfl rfl ?_
    refine g_iload_n dX11_fewest_170 rfl rfl ?_
    refine g_iload_n dX11_fewest_171 rfl rfl ?_
    exact s_callV (M' := mX11_isEnough) (As := [.int x9, .int x1, .int x2, .int x3]) (st := []) dX11_fewest_172 lm_X11_288 ovX11_isEnough (h := (sk0 c, I)) (sk_0 _) (show vwCl[11]? = some _ from rfl) rfl (by simp [Value.category]) (by decide) rfl (k1 c1)
  · skip
    refine g_iload dX11_fewest_133 rfl ?_
    refine g_iload dX11_fewest_135 rfl ?_
    refine g_icmp_lt (tgt := 154) dX11_fewest_137 (by decide) (fun c3 => ?_) (fun c4 => ?_)
    · skip
      refine g_iconst (v := 1) dX11_fewest_154 (by decide) ?_
      refine g_goto (tgt := 159) dX11_fewest_155 (by decide) ?_
      refine s_istore (L' := [.ref 0, .int x1, .int x2, .int x3, .int x4, .int x5, .int x6, .int x7, .int x8, .int x9, .int x10, .int x11, .int 1]) dX11_fewest_159 (by decide) rfl rfl ?_
      refine g_iload dX11_fewest_161 rfl ?_
      refine g_if_eq (tgt := 190) dX11_fewest_163 (by decide) (fun hh => absurd hh (by decide)) (fun _ => ?_)
      refine g_aload_n dX11_fewest_166 rfl rfl ?_
      refine g_iload dX11_fewest_167 rfl ?_
      refine g_iload_n dX11_fewest_169 rfl rfl ?_
      refine g_iload_n dX11_fewest_170 rfl rfl ?_
      refine g_iload_n dX11_fewest_171 rfl rfl ?_
      exact s_callV (M' := mX11_isEnough) (As := [.int x9, .int x1, .int x2, .int x3]) (st := []) dX11_fewest_172 lm_X11_288 ovX11_isEnough (h := (sk0 c, I)) (sk_0 _) (show vwCl[11]? = some _ from rfl) rfl (by simp [Value.category]) (by decide) rfl (k2 c2 c3)
    · skip
      refine g_iload dX11_fewest_140 rfl ?_
      refine g_iload dX11_fewest_142 rfl ?_
      refine g_icmp_ne (tgt := 158) dX11_fewest_144 (by decide) (fun c5 => ?_) (fun c6 => ?_)
      · skip
        refine g_iconst (v := 0) dX11_fewest_158 (by decide) ?_
        refine s_istore (L' := [.ref 0, .int x1, .int x2, .int x3, .int x4, .int x5, .int x6, .int x7, .int x8, .int x9, .int x10, .int x11, .int 0]) dX11_fewest_159 (by decide) rfl rfl ?_
        refine g_iload dX11_fewest_161 rfl ?_
        refine g_if_eq (tgt := 190) dX11_fewest_163 (by decide) (fun _ => ?_) (fun hh => absurd hh (by decide))
        refine s_iinc (v := (x9 + 1)) (L' := [.ref 0, .int x1, .int x2, .int x3, .int x4, .int x5, .int x6, .int x7, .int x8, .int (x9 + 1), .int x10, .int x11, .int 0]) dX11_fewest_190 rfl (by decide) rfl rfl rfl ?_
        refine g_goto (tgt := 99) dX11_fewest_193 (by decide) ?_
        exact e3 c2 c4 c5
      · skip
        refine g_iload dX11_fewest_147 rfl ?_
        refine g_iload dX11_fewest_149 rfl ?_
        refine g_icmp_ge (tgt := 158) dX11_fewest_151 (by decide) (fun c7 => ?_) (fun c8 => ?_)
        · skip
          refine g_iconst (v := 0) dX11_fewest_158 (by decide) ?_
          refine s_istore (L' := [.ref 0, .int x1, .int x2, .int x3, .int x4, .int x5, .int x6, .int x7, .int x8, .int x9, .int x10, .int x11, .int 0]) dX11_fewest_159 (by decide) rfl rfl ?_
          refine g_iload dX11_fewest_161 rfl ?_
          refine g_if_eq (tgt := 190) dX11_fewest_163 (by decide) (fun _ => ?_) (fun hh => absurd hh (by decide))
          refine s_iinc (v := (x9 + 1)) (L' := [.ref 0, .int x1, .int x2, .int x3, .int x4, .int x5, .int x6, .int x7, .int x8, .int (x9 + 1), .int x10, .int x11, .int 0]) dX11_fewest_190 rfl (by decide) rfl rfl rfl ?_
          refine g_goto (tgt := 99) dX11_fewest_193 (by decide) ?_
          exact e4 c2 c4 c6 c7
        · skip
          refine g_iconst (v := 1) dX11_fewest_154 (by decide) ?_
          refine g_goto (tgt := 159) dX11_fewest_155 (by decide) ?_
          refine s_istore (L' := [.ref 0, .int x1, .int x2, .int x3, .int x4, .int x5, .int x6, .int x7, .int x8, .int x9, .int x10, .int x11, .int 1]) dX11_fewest_159 (by decide) rfl rfl ?_
          refine g_iload dX11_fewest_161 rfl ?_
          refine g_if_eq (tgt := 190) dX11_fewest_163 (by decide) (fun hh => absurd hh (by decide)) (fun _ => ?_)
          refine g_aload_n dX11_fewest_166 rfl rfl ?_
          refine g_iload dX11_fewest_167 rfl ?_
          refine g_iload_n dX11_fewest_169 rfl rfl ?_
          refine g_iload_n dX11_fewest_170 rfl rfl ?_
          refine g_iload_n dX11_fewest_171 rfl rfl ?_
          exact s_callV (M' := mX11_isEnough) (As := [.int x9, .int x1, .int x2, .int x3]) (st := []) dX11_fewest_172 lm_X11_288 ovX11_isEnough (h := (sk0 c, I)) (sk_0 _) (show vwCl[11]? = some _ from rfl) rfl (by simp [Value.category]) (by decide) rfl (k5 c2 c4 c6 c8)
set_option maxRecDepth 10000 in
set_option maxHeartbeats 1000000 in
theorem sg_X11_fewest_175 {l : Launch} {d : Nat} {Q : Option Value → mx_H → Prop} {c : Nat} {I : mx_I} (x1 : Int32) (x2 : Int32) (x3 : Int32) (x4 : Int32) (x5 : Int32) (x6 : Int32) (x7 : Int32) (x8 : Int32) (x9 : Int32) (x10 : Int32) (x11 : Int32) (x12 : Int32) (x13 : Int32)
    (e1 : (x13 = 0) → mx_Go l (mx_rm (d + 1) 0 0) mX11_fewest (mx_Z Q 0 0) 0 0 99 [.ref 0, .int x1, .int x2, .int x3, .int x4, .int x5, .int x6, .int x7, .int x8, .int (x9 + 1), .int x10, .int x11, .int x12] [] (sk0 c, I))
    (e2 : (¬ x13 = 0) → mx_Go l (mx_rm (d + 1) 0 0) mX11_fewest (mx_Z Q 0 0) 0 0 99 [.ref 0, .int x1, .int x2, .int x3, .int x4, .int x9, .int x10, .int x11, .int x8, .int (x9 + 1), .int x10, .int x11, .int x12] [] (sk0 c, I)) :
    mx_Go l (mx_rm (d + 1) 0 0) mX11_fewest (mx_Z Q 0 0) 0 0 175 [.ref 0, .int x1, .int x2, .int x3, .int x4, .int x5, .int x6, .int x7, .int x8, .int x9, .int x10, .int x11, .int x12] [.int x13] (sk0 c, I) := by
  refine g_if_eq (tgt := 190) dX11_fewest_175 (by decide) (fun c1 => ?_) (fun c2 => ?_)
  · skip
    refine s_iinc (v := (x9 + 1)) (L' := [.ref 0, .int x1, .int x2, .int x3, .int x4, .int x5, .int x6, .int x7, .int x8, .int (x9 + 1), .int x10, .int x11, .int x12]) dX11_fewest_190 rfl (by decide) rfl rfl rfl ?_
    refine g_goto (tgt := 99) dX11_fewest_193 (by decide) ?_
    exact e1 c1
  · skip
    refine g_iload dX11_fewest_178 rfl ?_
    refine s_istore (L' := [.ref 0, .int x1, .int x2, .int x3, .int x4, .int x9, .int x6, .int x7, .int x8, .int x9, .int x10, .int x11, .int x12]) dX11_fewest_180 (by decide) rfl rfl ?_
    refine g_iload dX11_fewest_182 rfl ?_
    refine s_istore (L' := [.ref 0, .int x1, .int x2, .int x3, .int x4, .int x9, .int x10, .int x7, .int x8, .int x9, .int x10, .int x11, .int x12]) dX11_fewest_184 (by decide) rfl rfl ?_
    refine g_iload dX11_fewest_186 rfl ?_
    refine s_istore (L' := [.ref 0, .int x1, .int x2, .int x3, .int x4, .int x9, .int x10, .int x11, .int x8, .int x9, .int x10, .int x11, .int x12]) dX11_fewest_188 (by decide) rfl rfl ?_
    refine s_iinc (v := (x9 + 1)) (L' := [.ref 0, .int x1, .int x2, .int x3, .int x4, .int x9, .int x10, .int x11, .int x8, .int (x9 + 1), .int x10, .int x11, .int x12]) dX11_fewest_190 rfl (by decide) rfl rfl rfl ?_
    refine g_goto (tgt := 99) dX11_fewest_193 (by decide) ?_
    exact e2 c2
set_option maxRecDepth 10000 in
set_option maxHeartbeats 1000000 in
theorem sn_X11_right {l : Launch} {d : Nat} {Q : Option Value → mx_H → Prop} {c : Nat} {I : mx_I} (a1 : Int32)
    (q1 : (a1 < 1) → Q (some (.int (-1))) (sk0 c, I))
    (k2 : (¬ a1 < 1) → (a1 ≤ 20) → mx_K1 l mX7_make d [.ref 66, .ref 1, .int (I 33 9)] (sk0 c, I) (fun r h' => mx_Go l (mx_rm (d + 1) 0 0) mX11_right (mx_Z Q 0 0) 0 0 34 [.ref 0, .int a1, .retAddr 0, .retAddr 0] (r.toList ++ []) h'))
    (q3 : (¬ a1 < 1) → (¬ a1 ≤ 20) → Q (some (.int (-1))) (sk0 c, I)) :
    mx_Spec l mX11_right (d + 1) 0 0 [.ref 0, .int a1] (sk0 c, I) Q := by
  refine mx_enter rfl (by simp [Value.category]) (Nat.le_of_ble_eq_true rfl) ?_
  change mx_Go l (mx_rm (d + 1) 0 0) mX11_right (mx_Z Q 0 0) 0 0 0 [.ref 0, .int a1, .retAddr 0, .retAddr 0] [] (sk0 c, I)
  refine g_iload_n dX11_right_0 rfl rfl ?_
  refine g_iconst (v := 1) dX11_right_1 (by decide) ?_
  refine g_icmp_lt (tgt := 11) dX11_right_2 (by decide) (fun c1 => ?_) (fun c2 => ?_)
  · skip
    refine g_iconst (v := (-1)) dX11_right_11 (by decide) ?_
    exact g_iret rfl dX11_right_12 rfl (Nat.le_refl _) (q1 c1)
  · skip
    refine g_iload_n dX11_right_5 rfl rfl ?_
    refine g_bipush (v := 20) dX11_right_6 (by decide) ?_
    refine g_icmp_le (tgt := 13) dX11_right_8 (by decide) (fun c3 => ?_) (fun c4 => ?_)
    · skip
      refine g_aload_n dX11_right_13 rfl rfl ?_
      refine rg_X11_4 (r := 65) dX11_right_14 lf_X11_45 (sk_0 _) rfl ?_
      refine rg_X1_2 (r := 66) dX11_right_17 lf_X11_166 (sk_65 _) rfl ?_
      refine g_aload_n dX11_right_20 rfl rfl ?_
      refine rg_X11_0 (r := 1) dX11_right_21 lf_X11_12 (sk_0 _) rfl ?_
      refine g_aload_n dX11_right_24 rfl rfl ?_
      refine rg_X11_1 (r := 33) dX11_right_25 lf_X11_19 (sk_0 _) rfl ?_
      refine rg_X9_9 (v := (I 33 9)) dX11_right_28 lf_X11_163 (sk_33 _) rfl ?_
      exact s_callV (M' := mX7_make) (As := [.ref 1, .int (I 33 9)]) (st := []) dX11_right_31 lm_X11_170 ovX7_make (h := (sk0 c, I)) (sk_66 _) (show vwCl[7]? = some _ from rfl) rfl (by simp [Value.category]) (by decide) rfl (k2 c2 c3)
    · skip
      refine g_iconst (v := (-1)) dX11_right_11 (by decide) ?_
      exact g_iret rfl dX11_right_12 rfl (Nat.le_refl _) (q3 c2 c4)
set_option maxRecDepth 10000 in
set_option maxHeartbeats 1000000 in
theorem sg_X11_right_34 {l : Launch} {d : Nat} {Q : Option Value → mx_H → Prop} {c : Nat} {I : mx_I} (x1 : Int32)
    (e1 : mx_Go l (mx_rm (d + 1) 0 0) mX11_right (mx_Z Q 0 0) 0 0 38 [.ref 0, .int x1, .int 0, .int 0] [] (sk0 c, I)) :
    mx_Go l (mx_rm (d + 1) 0 0) mX11_right (mx_Z Q 0 0) 0 0 34 [.ref 0, .int x1, .retAddr 0, .retAddr 0] [] (sk0 c, I) := by
  refine g_iconst (v := 0) dX11_right_34 (by decide) ?_
  refine s_istore_n (L' := [.ref 0, .int x1, .int 0, .retAddr 0]) dX11_right_35 rfl (by decide) rfl rfl ?_
  refine g_iconst (v := 0) dX11_right_36 (by decide) ?_
  refine s_istore_n (L' := [.ref 0, .int x1, .int 0, .int 0]) dX11_right_37 rfl (by decide) rfl rfl ?_
  exact e1
set_option maxRecDepth 10000 in
set_option maxHeartbeats 1000000 in
theorem sg_X11_right_38 {l : Launch} {d : Nat} {Q : Option Value → mx_H → Prop} {c : Nat} {I : mx_I} (x1 : Int32) (x2 : Int32) (x3 : Int32)
    (q1 : (300 < x3) → Q (some (.int (-1))) (sk0 c, I))
    (q2 : (¬ 300 < x3) → (300 < x2) → Q (some (.int (-1))) (sk0 c, I))
    (k3 : (¬ 300 < x3) → (¬ 300 < x2) → mx_K1 l mX11_think d [.ref 0] (sk0 c, I) (fun r h' => mx_Go l (mx_rm (d + 1) 0 0) mX11_right (mx_Z Q 0 0) 0 0 56 [.ref 0, .int x1, .int x2, .int x3] (r.toList ++ []) h')) :
    mx_Go l (mx_rm (d + 1) 0 0) mX11_right (mx_Z Q 0 0) 0 0 38 [.ref 0, .int x1, .int x2, .int x3] [] (sk0 c, I) := by
  refine g_iload_n dX11_right_38 rfl rfl ?_
  refine g_sipush (v := 300) dX11_right_39 (by decide) ?_
  refine g_icmp_gt (tgt := 131) dX11_right_42 (by decide) (fun c1 => ?_) (fun c2 => ?_)
  · skip
    refine g_iconst (v := (-1)) dX11_right_131 (by decide) ?_
    exact g_iret rfl dX11_right_132 rfl (Nat.le_refl _) (q1 c1)
  · skip
    refine g_iload_n dX11_right_45 rfl rfl ?_
    refine g_sipush (v := 300) dX11_right_46 (by decide) ?_
    refine g_icmp_gt (tgt := 131) dX11_right_49 (by decide) (fun c3 => ?_) (fun c4 => ?_)
    · skip
      refine g_iconst (v := (-1)) dX11_right_131 (by decide) ?_
      exact g_iret rfl dX11_right_132 rfl (Nat.le_refl _) (q2 c2 c3)
    · skip
      refine g_aload_n dX11_right_52 rfl rfl ?_
      exact s_callV (M' := mX11_think) (As := []) (st := []) dX11_right_53 lm_X11_233 ovX11_think (h := (sk0 c, I)) (sk_0 _) (show vwCl[11]? = some _ from rfl) rfl (by simp [Value.category]) (by decide) rfl (k3 c2 c4)
set_option maxRecDepth 10000 in
set_option maxHeartbeats 1000000 in
theorem sg_X11_right_56 {l : Launch} {d : Nat} {Q : Option Value → mx_H → Prop} {c : Nat} {I : mx_I} (x1 : Int32) (x2 : Int32) (x3 : Int32)
    (k1 : mx_K1 l mX1_goOn d [.ref 65, .int 167] (sk0 c, (mx_set I 65 8 x2)) (fun r h' => mx_Go l (mx_rm (d + 1) 0 0) mX11_right (mx_Z Q 0 0) 0 0 74 [.ref 0, .int x1, .int x2, .int x3] (r.toList ++ []) h')) :
    mx_Go l (mx_rm (d + 1) 0 0) mX11_right (mx_Z Q 0 0) 0 0 56 [.ref 0, .int x1, .int x2, .int x3] [] (sk0 c, I) := by
  refine g_aload_n dX11_right_56 rfl rfl ?_
  refine rg_X11_4 (r := 65) dX11_right_57 lf_X11_45 (sk_0 _) rfl ?_
  refine g_iload_n dX11_right_60 rfl rfl ?_
  refine rp_X1_8 dX11_right_61 lf_X11_292 (sk_65 _) ?_
  refine g_aload_n dX11_right_64 rfl rfl ?_
  refine rg_X11_4 (r := 65) dX11_right_65 lf_X11_45 (sk_0 _) rfl ?_
  refine g_sipush (v := 167) dX11_right_68 (by decide) ?_
  exact s_callV (M' := mX1_goOn) (As := [.int 167]) (st := []) dX11_right_71 lm_X11_183 ovX1_goOn (h := (sk0 c, (mx_set I 65 8 x2))) (sk_65 _) (show vwCl[1]? = some _ from rfl) rfl (by simp [Value.category]) (by decide) rfl (k1)
set_option maxRecDepth 10000 in
set_option maxHeartbeats 1000000 in
theorem sg_X11_right_74 {l : Launch} {d : Nat} {Q : Option Value → mx_H → Prop} {c : Nat} {I : mx_I} (x1 : Int32) (x2 : Int32) (x3 : Int32)
    (k1 : mx_K1 l mX9_bearersSince d [.ref 55, .int (I 33 9), .int (I 8 9)] (sk0 c, I) (fun r h' => mx_Go l (mx_rm (d + 1) 0 0) mX11_right (mx_Z Q 0 0) 0 0 98 [.ref 0, .int x1, .int x2, .int x3] (r.toList ++ []) h')) :
    mx_Go l (mx_rm (d + 1) 0 0) mX11_right (mx_Z Q 0 0) 0 0 74 [.ref 0, .int x1, .int x2, .int x3] [] (sk0 c, I) := by
  refine g_aload_n dX11_right_74 rfl rfl ?_
  refine rg_X11_5 (r := 55) dX11_right_75 lf_X11_37 (sk_0 _) rfl ?_
  refine g_aload_n dX11_right_78 rfl rfl ?_
  refine rg_X11_1 (r := 33) dX11_right_79 lf_X11_19 (sk_0 _) rfl ?_
  refine rg_X9_9 (v := (I 33 9)) dX11_right_82 lf_X11_163 (sk_33 _) rfl ?_
  refine g_aload_n dX11_right_85 rfl rfl ?_
  refine rg_X11_0 (r := 1) dX11_right_86 lf_X11_12 (sk_0 _) rfl ?_
  refine rg_X10_1 (r := 8) dX11_right_89 lf_X11_103 (sk_1 _) rfl ?_
  refine rg_X2_9 (v := (I 8 9)) dX11_right_92 lf_X11_293 (sk_8 _) rfl ?_
  exact s_callV (M' := mX9_bearersSince) (As := [.int (I 33 9), .int (I 8 9)]) (st := []) dX11_right_95 lm_X11_294 ovX9_bearersSince (h := (sk0 c, I)) (sk_55 _) (show vwCl[9]? = some _ from rfl) rfl (by simp [Value.category]) (by decide) rfl (k1)
set_option maxRecDepth 10000 in
set_option maxHeartbeats 1000000 in
theorem sg_X11_right_98 {l : Launch} {d : Nat} {Q : Option Value → mx_H → Prop} {c : Nat} {I : mx_I} (x1 : Int32) (x2 : Int32) (x3 : Int32) (x4 : Int32)
    (e1 : (x4 < x1) → (¬ (I 65 14) = (-1)) → mx_Go l (mx_rm (d + 1) 0 0) mX11_right (mx_Z Q 0 0) 0 0 38 [.ref 0, .int x1, .int (I 65 14), .int (x3 + 1)] [] (sk0 c, I))
    (q2 : (x4 < x1) → ((I 65 14) = (-1)) → Q (some (.int (-1))) (sk0 c, I))
    (q3 : (¬ x4 < x1) → Q (some (.int x2)) (sk0 c, I)) :
    mx_Go l (mx_rm (d + 1) 0 0) mX11_right (mx_Z Q 0 0) 0 0 98 [.ref 0, .int x1, .int x2, .int x3] [.int x4] (sk0 c, I) := by
  refine g_iload_n dX11_right_98 rfl rfl ?_
  refine g_icmp_lt (tgt := 104) dX11_right_99 (by decide) (fun c1 => ?_) (fun c2 => ?_)
  · skip
    refine g_aload_n dX11_right_104 rfl rfl ?_
    refine rg_X11_4 (r := 65) dX11_right_105 lf_X11_45 (sk_0 _) rfl ?_
    refine rg_X1_14 (v := (I 65 14)) dX11_right_108 lf_X11_297 (sk_65 _) rfl ?_
    refine g_iconst (v := (-1)) dX11_right_111 (by decide) ?_
    refine g_icmp_ne (tgt := 117) dX11_right_112 (by decide) (fun c3 => ?_) (fun c4 => ?_)
    · skip
      refine g_aload_n dX11_right_117 rfl rfl ?_
      refine rg_X11_4 (r := 65) dX11_right_118 lf_X11_45 (sk_0 _) rfl ?_
      refine rg_X1_14 (v := (I 65 14)) dX11_right_121 lf_X11_297 (sk_65 _) rfl ?_
      refine s_istore_n (L' := [.ref 0, .int x1, .int (I 65 14), .int x3]) dX11_right_124 rfl (by decide) rfl rfl ?_
      refine s_iinc (v := (x3 + 1)) (L' := [.ref 0, .int x1, .int (I 65 14), .int (x3 + 1)]) dX11_right_125 rfl (by decide) rfl rfl rfl ?_
      refine g_goto (tgt := 38) dX11_right_128 (by decide) ?_
      exact e1 c1 c3
    · skip
      refine g_iconst (v := (-1)) dX11_right_115 (by decide) ?_
      exact g_iret rfl dX11_right_116 rfl (Nat.le_refl _) (q2 c1 c4)
  · skip
    refine g_iload_n dX11_right_102 rfl rfl ?_
    exact g_iret rfl dX11_right_103 rfl (Nat.le_refl _) (q3 c2)
set_option maxRecDepth 10000 in
set_option maxHeartbeats 1000000 in
theorem sn_X11_list {l : Launch} {d : Nat} {Q : Option Value → mx_H → Prop} {c : Nat} {I : mx_I} (a1 : Int32) (a2 : Int32) (a3 : Int32)
    (q1 : (a1 < 0) → Q (some (.int 0)) (sk0 c, I))
    (q2 : (¬ a1 < 0) → (167 < a1) → Q (some (.int 0)) (sk0 c, I))
    (k3 : (¬ a1 < 0) → (¬ 167 < a1) → mx_K1 l mX10_hasEnd d [.ref 1, .int a2] (sk0 c, I) (fun r h' => mx_Go l (mx_rm (d + 1) 0 0) mX11_list (mx_Z Q 0 0) 0 0 19 [.ref 0, .int a1, .int a2, .int a3] (r.toList ++ []) h')) :
    mx_Spec l mX11_list (d + 1) 0 0 [.ref 0, .int a1, .int a2, .int a3] (sk0 c, I) Q := by
  refine mx_enter rfl (by simp [Value.category]) (Nat.le_of_ble_eq_true rfl) ?_
  change mx_Go l (mx_rm (d + 1) 0 0) mX11_list (mx_Z Q 0 0) 0 0 0 [.ref 0, .int a1, .int a2, .int a3] [] (sk0 c, I)
  refine g_iload_n dX11_list_0 rfl rfl ?_
  refine g_if_lt (tgt := 36) dX11_list_1 (by decide) (fun c1 => ?_) (fun c2 => ?_)
  · skip
    refine g_iconst (v := 0) dX11_list_36 (by decide) ?_
    exact g_zret (ty := .boolean) rfl rfl dX11_list_37 rfl (Nat.le_refl _) (q1 c1)
  · skip
    refine g_iload_n dX11_list_4 rfl rfl ?_
    refine g_sipush (v := 167) dX11_list_5 (by decide) ?_
    refine g_icmp_gt (tgt := 36) dX11_list_8 (by decide) (fun c3 => ?_) (fun c4 => ?_)
    · skip
      refine g_iconst (v := 0) dX11_list_36 (by decide) ?_
      exact g_zret (ty := .boolean) rfl rfl dX11_list_37 rfl (Nat.le_refl _) (q2 c2 c3)
    · skip
      refine g_aload_n dX11_list_11 rfl rfl ?_
      refine rg_X11_0 (r := 1) dX11_list_12 lf_X11_12 (sk_0 _) rfl ?_
      refine g_iload_n dX11_list_15 rfl rfl ?_
      exact s_callV (M' := mX10_hasEnd) (As := [.int a2]) (st := []) dX11_list_16 lm_X11_72 ovX10_hasEnd (h := (sk0 c, I)) (sk_1 _) (show vwCl[10]? = some _ from rfl) rfl (by simp [Value.category]) (by decide) rfl (k3 c2 c4)
set_option maxRecDepth 10000 in
set_option maxHeartbeats 1000000 in
theorem sg_X11_list_19 {l : Launch} {d : Nat} {Q : Option Value → mx_H → Prop} {c : Nat} {I : mx_I} (x1 : Int32) (x2 : Int32) (x3 : Int32) (x4 : Int32)
    (q1 : (x4 = 0) → Q (some (.int 0)) (sk0 c, I))
    (k2 : (¬ x4 = 0) → mx_K1 l mX5_hasAll d [.ref 2, .int x3] (sk0 c, I) (fun r h' => mx_Go l (mx_rm (d + 1) 0 0) mX11_list (mx_Z Q 0 0) 0 0 33 [.ref 0, .int x1, .int x2, .int x3] (r.toList ++ []) h')) :
    mx_Go l (mx_rm (d + 1) 0 0) mX11_list (mx_Z Q 0 0) 0 0 19 [.ref 0, .int x1, .int x2, .int x3] [.int x4] (sk0 c, I) := by
  refine g_if_eq (tgt := 36) dX11_list_19 (by decide) (fun c1 => ?_) (fun c2 => ?_)
  · skip
    refine g_iconst (v := 0) dX11_list_36 (by decide) ?_
    exact g_zret (ty := .boolean) rfl rfl dX11_list_37 rfl (Nat.le_refl _) (q1 c1)
  · skip
    refine g_aload_n dX11_list_22 rfl rfl ?_
    refine rg_X11_0 (r := 1) dX11_list_23 lf_X11_12 (sk_0 _) rfl ?_
    refine rg_X10_0 (r := 2) dX11_list_26 lf_X11_79 (sk_1 _) rfl ?_
    refine g_iload_n dX11_list_29 rfl rfl ?_
    exact s_callV (M' := mX5_hasAll) (As := [.int x3]) (st := []) dX11_list_30 lm_X11_273 ovX5_hasAll (h := (sk0 c, I)) (sk_2 _) (show vwCl[5]? = some _ from rfl) rfl (by simp [Value.category]) (by decide) rfl (k2 c2)
set_option maxRecDepth 10000 in
set_option maxHeartbeats 1000000 in
theorem sg_X11_list_33 {l : Launch} {d : Nat} {Q : Option Value → mx_H → Prop} {c : Nat} {I : mx_I} (x1 : Int32) (x2 : Int32) (x3 : Int32) (x4 : Int32)
    (k1 : (¬ x4 = 0) → mx_K1 l mX4_add d [.ref 24, .int x1, .int x2, .int x3] (sk0 c, I) (fun r h' => mx_Go l (mx_rm (d + 1) 0 0) mX11_list (mx_Z Q 0 0) 0 0 51 [.ref 0, .int x1, .int x2, .int x3] (r.toList ++ []) h'))
    (q2 : (x4 = 0) → Q (some (.int 0)) (sk0 c, I)) :
    mx_Go l (mx_rm (d + 1) 0 0) mX11_list (mx_Z Q 0 0) 0 0 33 [.ref 0, .int x1, .int x2, .int x3] [.int x4] (sk0 c, I) := by
  refine g_if_ne (tgt := 38) dX11_list_33 (by decide) (fun c1 => ?_) (fun c2 => ?_)
  · skip
    refine g_aload_n dX11_list_38 rfl rfl ?_
    refine rg_X11_0 (r := 1) dX11_list_39 lf_X11_12 (sk_0 _) rfl ?_
    refine rg_X10_3 (r := 24) dX11_list_42 lf_X11_300 (sk_1 _) rfl ?_
    refine g_iload_n dX11_list_45 rfl rfl ?_
    refine g_iload_n dX11_list_46 rfl rfl ?_
    refine g_iload_n dX11_list_47 rfl rfl ?_
    exact s_callV (M' := mX4_add) (As := [.int x1, .int x2, .int x3]) (st := []) dX11_list_48 lm_X11_304 ovX4_add (h := (sk0 c, I)) (sk_24 _) (show vwCl[4]? = some _ from rfl) rfl (by simp [Value.category]) (by decide) rfl (k1 c1)
  · skip
    refine g_iconst (v := 0) dX11_list_36 (by decide) ?_
    exact g_zret (ty := .boolean) rfl rfl dX11_list_37 rfl (Nat.le_refl _) (q2 c2)
set_option maxRecDepth 10000 in
set_option maxHeartbeats 1000000 in
theorem sg_X11_list_51 {l : Launch} {d : Nat} {Q : Option Value → mx_H → Prop} {c : Nat} {I : mx_I} (x1 : Int32) (x2 : Int32) (x3 : Int32) (x4 : Int32)
    (q1 : Q (some (.int x4)) (sk0 c, I))
    (n2 : x4 = 0 ∨ x4 = 1) :
    mx_Go l (mx_rm (d + 1) 0 0) mX11_list (mx_Z Q 0 0) 0 0 51 [.ref 0, .int x1, .int x2, .int x3] [.int x4] (sk0 c, I) := by
  exact g_zret (ty := .boolean) rfl (nb_01 (n2)) dX11_list_51 rfl (Nat.le_refl _) (q1)
set_option maxRecDepth 10000 in
set_option maxHeartbeats 1000000 in
theorem sn_X11_night {l : Launch} {d : Nat} {Q : Option Value → mx_H → Prop} {c : Nat} {I : mx_I} (a1 : Int32)
    (k1 : mx_K1 l mX2_maybeSet d [.ref 8] (sk0 c, I) (fun r h' => mx_Go l (mx_rm (d + 1) 0 0) mX11_night (mx_Z Q 0 0) 0 0 10 [.ref 0, .int a1, .retAddr 0, .retAddr 0, .retAddr 0, .retAddr 0, .retAddr 0, .retAddr 0, .retAddr 0] (r.toList ++ []) h')) :
    mx_Spec l mX11_night (d + 1) 0 0 [.ref 0, .int a1] (sk0 c, I) Q := by
  refine mx_enter rfl (by simp [Value.category]) (Nat.le_of_ble_eq_true rfl) ?_
  change mx_Go l (mx_rm (d + 1) 0 0) mX11_night (mx_Z Q 0 0) 0 0 0 [.ref 0, .int a1, .retAddr 0, .retAddr 0, .retAddr 0, .retAddr 0, .retAddr 0, .retAddr 0, .retAddr 0] [] (sk0 c, I)
  refine g_aload_n dX11_night_0 rfl rfl ?_
  refine rg_X11_0 (r := 1) dX11_night_1 lf_X11_12 (sk_0 _) rfl ?_
  refine rg_X10_1 (r := 8) dX11_night_4 lf_X11_103 (sk_1 _) rfl ?_
  exact s_callV (M' := mX2_maybeSet) (As := []) (st := []) dX11_night_7 lm_X11_308 ovX2_maybeSet (h := (sk0 c, I)) (sk_8 _) (show vwCl[2]? = some _ from rfl) rfl (by simp [Value.category]) (by decide) rfl (k1)
set_option maxRecDepth 10000 in
set_option maxHeartbeats 1000000 in
theorem sg_X11_night_10 {l : Launch} {d : Nat} {Q : Option Value → mx_H → Prop} {c : Nat} {I : mx_I} (x1 : Int32) (x2 : Int32)
    (k1 : mx_K1 l mJ6_bitCount_0f7a4 d [.int x2] (sk0 c, I) (fun r h' => mx_Go l (mx_rm (d + 1) 0 0) mX11_night (mx_Z Q 0 0) 0 0 15 [.ref 0, .int x1, .int x2, .retAddr 0, .retAddr 0, .retAddr 0, .retAddr 0, .retAddr 0, .retAddr 0] (r.toList ++ []) h')) :
    mx_Go l (mx_rm (d + 1) 0 0) mX11_night (mx_Z Q 0 0) 0 0 10 [.ref 0, .int x1, .retAddr 0, .retAddr 0, .retAddr 0, .retAddr 0, .retAddr 0, .retAddr 0, .retAddr 0] [.int x2] (sk0 c, I) := by
  refine s_istore_n (L' := [.ref 0, .int x1, .int x2, .retAddr 0, .retAddr 0, .retAddr 0, .retAddr 0, .retAddr 0, .retAddr 0]) dX11_night_10 rfl (by decide) rfl rfl ?_
  refine g_iload_n dX11_night_11 rfl rfl ?_
  exact s_callS (M' := mJ6_bitCount_0f7a4) (As := [.int x2]) (st := []) dX11_night_12 lm_X11_279 okJ6_bitCount_0f7a4 osJ6_bitCount_0f7a4 (by simp [Value.category]) (by decide) rfl (k1)
set_option maxRecDepth 10000 in
set_option maxHeartbeats 1000000 in
theorem sg_X11_night_15 {l : Launch} {d : Nat} {Q : Option Value → mx_H → Prop} {c : Nat} {I : mx_I} (x1 : Int32) (x2 : Int32) (x3 : Int32)
    (q1 : (8 < x3) → Q (some (.int (-1))) (sk0 c, I))
    (q2 : (¬ 8 < x3) → (x1 < 0) → Q (some (.int (-1))) (sk0 c, I))
    (k3 : (¬ 8 < x3) → (¬ x1 < 0) → (x1 ≤ 2) → mx_K1 l mX7_make d [.ref 66, .ref 1, .int 0] (sk0 c, I) (fun r h' => mx_Go l (mx_rm (d + 1) 0 0) mX11_night (mx_Z Q 0 0) 0 0 48 [.ref 0, .int x1, .int x2, .int x3, .retAddr 0, .retAddr 0, .retAddr 0, .retAddr 0, .retAddr 0] (r.toList ++ []) h'))
    (q4 : (¬ 8 < x3) → (¬ x1 < 0) → (¬ x1 ≤ 2) → Q (some (.int (-1))) (sk0 c, I)) :
    mx_Go l (mx_rm (d + 1) 0 0) mX11_night (mx_Z Q 0 0) 0 0 15 [.ref 0, .int x1, .int x2, .retAddr 0, .retAddr 0, .retAddr 0, .retAddr 0, .retAddr 0, .retAddr 0] [.int x3] (sk0 c, I) := by
  refine s_istore_n (L' := [.ref 0, .int x1, .int x2, .int x3, .retAddr 0, .retAddr 0, .retAddr 0, .retAddr 0, .retAddr 0]) dX11_night_15 rfl (by decide) rfl rfl ?_
  refine g_iload_n dX11_night_16 rfl rfl ?_
  refine g_bipush (v := 8) dX11_night_17 (by decide) ?_
  refine g_icmp_gt (tgt := 31) dX11_night_19 (by decide) (fun c1 => ?_) (fun c2 => ?_)
  · skip
    refine g_iconst (v := (-1)) dX11_night_31 (by decide) ?_
    exact g_iret rfl dX11_night_32 rfl (Nat.le_refl _) (q1 c1)
  · skip
    refine g_iload_n dX11_night_22 rfl rfl ?_
    refine g_if_lt (tgt := 31) dX11_night_23 (by decide) (fun c3 => ?_) (fun c4 => ?_)
    · skip
      refine g_iconst (v := (-1)) dX11_night_31 (by decide) ?_
      exact g_iret rfl dX11_night_32 rfl (Nat.le_refl _) (q2 c2 c3)
    · skip
      refine g_iload_n dX11_night_26 rfl rfl ?_
      refine g_iconst (v := 2) dX11_night_27 (by decide) ?_
      refine g_icmp_le (tgt := 33) dX11_night_28 (by decide) (fun c5 => ?_) (fun c6 => ?_)
      · skip
        refine g_aload_n dX11_night_33 rfl rfl ?_
        refine rg_X11_4 (r := 65) dX11_night_34 lf_X11_45 (sk_0 _) rfl ?_
        refine rg_X1_2 (r := 66) dX11_night_37 lf_X11_166 (sk_65 _) rfl ?_
        refine g_aload_n dX11_night_40 rfl rfl ?_
        refine rg_X11_0 (r := 1) dX11_night_41 lf_X11_12 (sk_0 _) rfl ?_
        refine g_iconst (v := 0) dX11_night_44 (by decide) ?_
        exact s_callV (M' := mX7_make) (As := [.ref 1, .int 0]) (st := []) dX11_night_45 lm_X11_170 ovX7_make (h := (sk0 c, I)) (sk_66 _) (show vwCl[7]? = some _ from rfl) rfl (by simp [Value.category]) (by decide) rfl (k3 c2 c4 c5)
      · skip
        refine g_iconst (v := (-1)) dX11_night_31 (by decide) ?_
        exact g_iret rfl dX11_night_32 rfl (Nat.le_refl _) (q4 c2 c4 c6)
set_option maxRecDepth 10000 in
set_option maxHeartbeats 1000000 in
theorem sg_X11_night_48 {l : Launch} {d : Nat} {Q : Option Value → mx_H → Prop} {c : Nat} {I : mx_I} (x1 : Int32) (x2 : Int32) (x3 : Int32)
    (e1 : mx_Go l (mx_rm (d + 1) 0 0) mX11_night (mx_Z Q 0 0) 0 0 63 [.ref 0, .int x1, .int x2, .int x3, .int 0, .int x2, .int (-1), .int 0, .int 0] [] (sk0 c, I)) :
    mx_Go l (mx_rm (d + 1) 0 0) mX11_night (mx_Z Q 0 0) 0 0 48 [.ref 0, .int x1, .int x2, .int x3, .retAddr 0, .retAddr 0, .retAddr 0, .retAddr 0, .retAddr 0] [] (sk0 c, I) := by
  refine g_iconst (v := 0) dX11_night_48 (by decide) ?_
  refine s_istore (L' := [.ref 0, .int x1, .int x2, .int x3, .int 0, .retAddr 0, .retAddr 0, .retAddr 0, .retAddr 0]) dX11_night_49 (by decide) rfl rfl ?_
  refine g_iload_n dX11_night_51 rfl rfl ?_
  refine s_istore (L' := [.ref 0, .int x1, .int x2, .int x3, .int 0, .int x2, .retAddr 0, .retAddr 0, .retAddr 0]) dX11_night_52 (by decide) rfl rfl ?_
  refine g_iconst (v := (-1)) dX11_night_54 (by decide) ?_
  refine s_istore (L' := [.ref 0, .int x1, .int x2, .int x3, .int 0, .int x2, .int (-1), .retAddr 0, .retAddr 0]) dX11_night_55 (by decide) rfl rfl ?_
  refine g_iconst (v := 0) dX11_night_57 (by decide) ?_
  refine s_istore (L' := [.ref 0, .int x1, .int x2, .int x3, .int 0, .int x2, .int (-1), .int 0, .retAddr 0]) dX11_night_58 (by decide) rfl rfl ?_
  refine g_iconst (v := 0) dX11_night_60 (by decide) ?_
  refine s_istore (L' := [.ref 0, .int x1, .int x2, .int x3, .int 0, .int x2, .int (-1), .int 0, .int 0]) dX11_night_61 (by decide) rfl rfl ?_
  exact e1
set_option maxRecDepth 10000 in
set_option maxHeartbeats 1000000 in
theorem sg_X11_night_63 {l : Launch} {d : Nat} {Q : Option Value → mx_H → Prop} {c : Nat} {I : mx_I} (x1 : Int32) (x2 : Int32) (x3 : Int32) (x4 : Int32) (x5 : Int32) (x6 : Int32) (x7 : Int32) (x8 : Int32)
    (q1 : ((1 <<< (x3 &&& 31)) ≤ x8) → (¬ x1 = 0) → (¬ x1 = 2) → (¬ x4 = 0) → Q (some (.int x5)) (sk0 c, I))
    (q2 : ((1 <<< (x3 &&& 31)) ≤ x8) → (¬ x1 = 0) → (¬ x1 = 2) → (x4 = 0) → Q (some (.int 0)) (sk0 c, I))
    (q3 : ((1 <<< (x3 &&& 31)) ≤ x8) → (¬ x1 = 0) → (x1 = 2) → Q (some (.int x6)) (sk0 c, I))
    (q4 : ((1 <<< (x3 &&& 31)) ≤ x8) → (x1 = 0) → Q (some (.int x4)) (sk0 c, I))
    (k5 : (¬ (1 <<< (x3 &&& 31)) ≤ x8) → mx_K1 l mX11_goesWithLists d [.ref 0, .int (x2 &&& (x7 ^^^ (-1)))] (sk0 c, I) (fun r h' => mx_Go l (mx_rm (d + 1) 0 0) mX11_night (mx_Z Q 0 0) 0 0 81 [.ref 0, .int x1, .int x2, .int x3, .int x4, .int x5, .int x6, .int x7, .int x8] (r.toList ++ []) h')) :
    mx_Go l (mx_rm (d + 1) 0 0) mX11_night (mx_Z Q 0 0) 0 0 63 [.ref 0, .int x1, .int x2, .int x3, .int x4, .int x5, .int x6, .int x7, .int x8] [] (sk0 c, I) := by
  refine g_iload dX11_night_63 rfl ?_
  refine g_iconst (v := 1) dX11_night_65 (by decide) ?_
  refine g_iload_n dX11_night_66 rfl rfl ?_
  refine g_ishl dX11_night_67 ?_
  refine g_icmp_ge (tgt := 123) dX11_night_68 (by decide) (fun c1 => ?_) (fun c2 => ?_)
  · skip
    refine g_iload_n dX11_night_123 rfl rfl ?_
    refine g_if_ne (tgt := 130) dX11_night_124 (by decide) (fun c3 => ?_) (fun c4 => ?_)
    · skip
      refine g_iload_n dX11_night_130 rfl rfl ?_
      refine g_iconst (v := 2) dX11_night_131 (by decide) ?_
      refine g_icmp_ne (tgt := 140) dX11_night_132 (by decide) (fun c5 => ?_) (fun c6 => ?_)
      · skip
        refine g_iload dX11_night_140 rfl ?_
        refine g_if_ne (tgt := 149) dX11_night_142 (by decide) (fun c7 => ?_) (fun c8 => ?_)
        · skip
          refine g_iload dX11_night_149 rfl ?_
          exact g_iret rfl dX11_night_151 rfl (Nat.le_refl _) (q1 c1 c3 c5 c7)
        · skip
          refine g_iconst (v := 0) dX11_night_145 (by decide) ?_
          refine g_goto (tgt := 151) dX11_night_146 (by decide) ?_
          exact g_iret rfl dX11_night_151 rfl (Nat.le_refl _) (q2 c1 c3 c5 c8)
      · skip
        refine g_iload dX11_night_135 rfl ?_
        refine g_goto (tgt := 151) dX11_night_137 (by decide) ?_
        exact g_iret rfl dX11_night_151 rfl (Nat.le_refl _) (q3 c1 c3 c6)
    · skip
      refine g_iload dX11_night_127 rfl ?_
      exact g_iret rfl dX11_night_129 rfl (Nat.le_refl _) (q4 c1 c4)
  · skip
    refine g_aload_n dX11_night_71 rfl rfl ?_
    refine g_iload_n dX11_night_72 rfl rfl ?_
    refine g_iload dX11_night_73 rfl ?_
    refine g_iconst (v := (-1)) dX11_night_75 (by decide) ?_
    refine g_ixor dX11_night_76 ?_
    refine g_iand dX11_night_77 ?_
    exact s_callV (M' := mX11_goesWithLists) (As := [.int (x2 &&& (x7 ^^^ (-1)))]) (st := []) dX11_night_78 lm_X11_312 ovX11_goesWithLists (h := (sk0 c, I)) (sk_0 _) (show vwCl[11]? = some _ from rfl) rfl (by simp [Value.category]) (by decide) rfl (k5 c2)
set_option maxRecDepth 10000 in
set_option maxHeartbeats 1000000 in
theorem sg_X11_night_81 {l : Launch} {d : Nat} {Q : Option Value → mx_H → Prop} {c : Nat} {I : mx_I} (x1 : Int32) (x2 : Int32) (x3 : Int32) (x4 : Int32) (x5 : Int32) (x6 : Int32) (x7 : Int32) (x8 : Int32) (x9 : Int32)
    (e1 : (x9 = 0) → mx_Go l (mx_rm (d + 1) 0 0) mX11_night (mx_Z Q 0 0) 0 0 63 [.ref 0, .int x1, .int x2, .int x3, .int x4, .int x5, .int x6, .int ((x7 - x2) &&& x2), .int (x8 + 1)] [] (sk0 c, I))
    (e2 : (¬ x9 = 0) → (¬ x6 = (-1)) → mx_Go l (mx_rm (d + 1) 0 0) mX11_night (mx_Z Q 0 0) 0 0 63 [.ref 0, .int x1, .int x2, .int x3, .int (x4 + 1), .int (x5 &&& x7), .int x6, .int ((x7 - x2) &&& x2), .int (x8 + 1)] [] (sk0 c, I))
    (e3 : (¬ x9 = 0) → (x6 = (-1)) → mx_Go l (mx_rm (d + 1) 0 0) mX11_night (mx_Z Q 0 0) 0 0 63 [.ref 0, .int x1, .int x2, .int x3, .int (x4 + 1), .int (x5 &&& x7), .int x7, .int ((x7 - x2) &&& x2), .int (x8 + 1)] [] (sk0 c, I)) :
    mx_Go l (mx_rm (d + 1) 0 0) mX11_night (mx_Z Q 0 0) 0 0 81 [.ref 0, .int x1, .int x2, .int x3, .int x4, .int x5, .int x6, .int x7, .int x8] [.int x9] (sk0 c, I) := by
  refine g_if_eq (tgt := 109) dX11_night_81 (by decide) (fun c1 => ?_) (fun c2 => ?_)
  · skip
    refine g_iload dX11_night_109 rfl ?_
    refine g_iload_n dX11_night_111 rfl rfl ?_
    refine g_isub dX11_night_112 ?_
    refine g_iload_n dX11_night_113 rfl rfl ?_
    refine g_iand dX11_night_114 ?_
    refine s_istore (L' := [.ref 0, .int x1, .int x2, .int x3, .int x4, .int x5, .int x6, .int ((x7 - x2) &&& x2), .int x8]) dX11_night_115 (by decide) rfl rfl ?_
    refine s_iinc (v := (x8 + 1)) (L' := [.ref 0, .int x1, .int x2, .int x3, .int x4, .int x5, .int x6, .int ((x7 - x2) &&& x2), .int (x8 + 1)]) dX11_night_117 rfl (by decide) rfl rfl rfl ?_
    refine g_goto (tgt := 63) dX11_night_120 (by decide) ?_
    exact e1 c1
  · skip
    refine s_iinc (v := (x4 + 1)) (L' := [.ref 0, .int x1, .int x2, .int x3, .int (x4 + 1), .int x5, .int x6, .int x7, .int x8]) dX11_night_84 rfl (by decide) rfl rfl rfl ?_
    refine g_iload dX11_night_87 rfl ?_
    refine g_iload dX11_night_89 rfl ?_
    refine g_iand dX11_night_91 ?_
    refine s_istore (L' := [.ref 0, .int x1, .int x2, .int x3, .int (x4 + 1), .int (x5 &&& x7), .int x6, .int x7, .int x8]) dX11_night_92 (by decide) rfl rfl ?_
    refine g_iload dX11_night_94 rfl ?_
    refine g_iconst (v := (-1)) dX11_night_96 (by decide) ?_
    refine g_icmp_ne (tgt := 105) dX11_night_97 (by decide) (fun c3 => ?_) (fun c4 => ?_)
    · skip
      refine g_iload dX11_night_105 rfl ?_
      refine s_istore (L' := [.ref 0, .int x1, .int x2, .int x3, .int (x4 + 1), .int (x5 &&& x7), .int x6, .int x7, .int x8]) dX11_night_107 (by decide) rfl rfl ?_
      refine g_iload dX11_night_109 rfl ?_
      refine g_iload_n dX11_night_111 rfl rfl ?_
      refine g_isub dX11_night_112 ?_
      refine g_iload_n dX11_night_113 rfl rfl ?_
      refine g_iand dX11_night_114 ?_
      refine s_istore (L' := [.ref 0, .int x1, .int x2, .int x3, .int (x4 + 1), .int (x5 &&& x7), .int x6, .int ((x7 - x2) &&& x2), .int x8]) dX11_night_115 (by decide) rfl rfl ?_
      refine s_iinc (v := (x8 + 1)) (L' := [.ref 0, .int x1, .int x2, .int x3, .int (x4 + 1), .int (x5 &&& x7), .int x6, .int ((x7 - x2) &&& x2), .int (x8 + 1)]) dX11_night_117 rfl (by decide) rfl rfl rfl ?_
      refine g_goto (tgt := 63) dX11_night_120 (by decide) ?_
      exact e2 c2 c3
    · skip
      refine g_iload dX11_night_100 rfl ?_
      refine g_goto (tgt := 107) dX11_night_102 (by decide) ?_
      refine s_istore (L' := [.ref 0, .int x1, .int x2, .int x3, .int (x4 + 1), .int (x5 &&& x7), .int x7, .int x7, .int x8]) dX11_night_107 (by decide) rfl rfl ?_
      refine g_iload dX11_night_109 rfl ?_
      refine g_iload_n dX11_night_111 rfl rfl ?_
      refine g_isub dX11_night_112 ?_
      refine g_iload_n dX11_night_113 rfl rfl ?_
      refine g_iand dX11_night_114 ?_
      refine s_istore (L' := [.ref 0, .int x1, .int x2, .int x3, .int (x4 + 1), .int (x5 &&& x7), .int x7, .int ((x7 - x2) &&& x2), .int x8]) dX11_night_115 (by decide) rfl rfl ?_
      refine s_iinc (v := (x8 + 1)) (L' := [.ref 0, .int x1, .int x2, .int x3, .int (x4 + 1), .int (x5 &&& x7), .int x7, .int ((x7 - x2) &&& x2), .int (x8 + 1)]) dX11_night_117 rfl (by decide) rfl rfl rfl ?_
      refine g_goto (tgt := 63) dX11_night_120 (by decide) ?_
      exact e3 c2 c4
set_option maxRecDepth 10000 in
set_option maxHeartbeats 1000000 in
theorem sn_X11_chance {l : Launch} {d : Nat} {Q : Option Value → mx_H → Prop} {c : Nat} {I : mx_I} (a1 : Int32) (a2 : Int32) (a3 : Int32) (a4 : Int32)
    (q1 : (a1 < 0) → Q (some (.long (-1))) (sk0 c, I))
    (q2 : (¬ a1 < 0) → (10 < a1) → Q (some (.long (-1))) (sk0 c, I))
    (q3 : (¬ a1 < 0) → (¬ 10 < a1) → (a2 < 0) → Q (some (.long (-1))) (sk0 c, I))
    (q4 : (¬ a1 < 0) → (¬ 10 < a1) → (¬ a2 < 0) → (10 < a2) → Q (some (.long (-1))) (sk0 c, I))
    (q5 : (¬ a1 < 0) → (¬ 10 < a1) → (¬ a2 < 0) → (¬ 10 < a2) → (a3 < 1) → Q (some (.long (-1))) (sk0 c, I))
    (q6 : (¬ a1 < 0) → (¬ 10 < a1) → (¬ a2 < 0) → (¬ 10 < a2) → (¬ a3 < 1) → (a3 ≤ 8) → (a4 < 0) → Q (some (.long (-1))) (sk0 c, I))
    (e7 : (¬ a1 < 0) → (¬ 10 < a1) → (¬ a2 < 0) → (¬ 10 < a2) → (¬ a3 < 1) → (a3 ≤ 8) → (¬ a4 < 0) → (a4 ≤ 1) → mx_Go l (mx_rm (d + 1) 0 0) mX11_chance (mx_Z Q 0 0) 0 0 65 [.ref 0, .int a1, .int a2, .int a3, .int a4, .long 1, .retAddr 0, .long 0, .retAddr 0, .long 0, .retAddr 0, .int 1, .int 1] [] (sk0 c, I))
    (q8 : (¬ a1 < 0) → (¬ 10 < a1) → (¬ a2 < 0) → (¬ 10 < a2) → (¬ a3 < 1) → (a3 ≤ 8) → (¬ a4 < 0) → (¬ a4 ≤ 1) → Q (some (.long (-1))) (sk0 c, I))
    (q9 : (¬ a1 < 0) → (¬ 10 < a1) → (¬ a2 < 0) → (¬ 10 < a2) → (¬ a3 < 1) → (¬ a3 ≤ 8) → Q (some (.long (-1))) (sk0 c, I)) :
    mx_Spec l mX11_chance (d + 1) 0 0 [.ref 0, .int a1, .int a2, .int a3, .int a4] (sk0 c, I) Q := by
  refine mx_enter rfl (by simp [Value.category]) (Nat.le_of_ble_eq_true rfl) ?_
  change mx_Go l (mx_rm (d + 1) 0 0) mX11_chance (mx_Z Q 0 0) 0 0 0 [.ref 0, .int a1, .int a2, .int a3, .int a4, .retAddr 0, .retAddr 0, .retAddr 0, .retAddr 0, .retAddr 0, .retAddr 0, .retAddr 0, .retAddr 0] [] (sk0 c, I)
  refine g_iload_n dX11_chance_0 rfl rfl ?_
  refine g_if_lt (tgt := 31) dX11_chance_1 (by decide) (fun c1 => ?_) (fun c2 => ?_)
  · skip
    refine g_ldc2 dX11_chance_31 lc_X11_315 ?_
    exact g_lret rfl dX11_chance_34 rfl (Nat.le_refl _) (q1 c1)
  · skip
    refine g_iload_n dX11_chance_4 rfl rfl ?_
    refine g_bipush (v := 10) dX11_chance_5 (by decide) ?_
    refine g_icmp_gt (tgt := 31) dX11_chance_7 (by decide) (fun c3 => ?_) (fun c4 => ?_)
    · skip
      refine g_ldc2 dX11_chance_31 lc_X11_315 ?_
      exact g_lret rfl dX11_chance_34 rfl (Nat.le_refl _) (q2 c2 c3)
    · skip
      refine g_iload_n dX11_chance_10 rfl rfl ?_
      refine g_if_lt (tgt := 31) dX11_chance_11 (by decide) (fun c5 => ?_) (fun c6 => ?_)
      · skip
        refine g_ldc2 dX11_chance_31 lc_X11_315 ?_
        exact g_lret rfl dX11_chance_34 rfl (Nat.le_refl _) (q3 c2 c4 c5)
      · skip
        refine g_iload_n dX11_chance_14 rfl rfl ?_
        refine g_bipush (v := 10) dX11_chance_15 (by decide) ?_
        refine g_icmp_gt (tgt := 31) dX11_chance_17 (by decide) (fun c7 => ?_) (fun c8 => ?_)
        · skip
          refine g_ldc2 dX11_chance_31 lc_X11_315 ?_
          exact g_lret rfl dX11_chance_34 rfl (Nat.le_refl _) (q4 c2 c4 c6 c7)
        · skip
          refine g_iload_n dX11_chance_20 rfl rfl ?_
          refine g_iconst (v := 1) dX11_chance_21 (by decide) ?_
          refine g_icmp_lt (tgt := 31) dX11_chance_22 (by decide) (fun c9 => ?_) (fun c10 => ?_)
          · skip
            refine g_ldc2 dX11_chance_31 lc_X11_315 ?_
            exact g_lret rfl dX11_chance_34 rfl (Nat.le_refl _) (q5 c2 c4 c6 c8 c9)
          · skip
            refine g_iload_n dX11_chance_25 rfl rfl ?_
            refine g_bipush (v := 8) dX11_chance_26 (by decide) ?_
            refine g_icmp_le (tgt := 35) dX11_chance_28 (by decide) (fun c11 => ?_) (fun c12 => ?_)
            · skip
              refine g_iload dX11_chance_35 rfl ?_
              refine g_if_lt (tgt := 46) dX11_chance_37 (by decide) (fun c13 => ?_) (fun c14 => ?_)
              · skip
                refine g_ldc2 dX11_chance_46 lc_X11_315 ?_
                exact g_lret rfl dX11_chance_49 rfl (Nat.le_refl _) (q6 c2 c4 c6 c8 c10 c11 c13)
              · skip
                refine g_iload dX11_chance_40 rfl ?_
                refine g_iconst (v := 1) dX11_chance_42 (by decide) ?_
                refine g_icmp_le (tgt := 50) dX11_chance_43 (by decide) (fun c15 => ?_) (fun c16 => ?_)
                · skip
                  refine g_lconst (v := 1) dX11_chance_50 (by decide) ?_
                  refine s_lstore (L' := [.ref 0, .int a1, .int a2, .int a3, .int a4, .long 1, .retAddr 0, .retAddr 0, .retAddr 0, .retAddr 0, .retAddr 0, .retAddr 0, .retAddr 0]) dX11_chance_51 (by decide) rfl rfl ?_
                  refine g_lconst (v := 0) dX11_chance_53 (by decide) ?_
                  refine s_lstore (L' := [.ref 0, .int a1, .int a2, .int a3, .int a4, .long 1, .retAddr 0, .long 0, .retAddr 0, .retAddr 0, .retAddr 0, .retAddr 0, .retAddr 0]) dX11_chance_54 (by decide) rfl rfl ?_
                  refine g_lconst (v := 0) dX11_chance_56 (by decide) ?_
                  refine s_lstore (L' := [.ref 0, .int a1, .int a2, .int a3, .int a4, .long 1, .retAddr 0, .long 0, .retAddr 0, .long 0, .retAddr 0, .retAddr 0, .retAddr 0]) dX11_chance_57 (by decide) rfl rfl ?_
                  refine g_iconst (v := 1) dX11_chance_59 (by decide) ?_
                  refine s_istore (L' := [.ref 0, .int a1, .int a2, .int a3, .int a4, .long 1, .retAddr 0, .long 0, .retAddr 0, .long 0, .retAddr 0, .int 1, .retAddr 0]) dX11_chance_60 (by decide) rfl rfl ?_
                  refine g_iconst (v := 1) dX11_chance_62 (by decide) ?_
                  refine s_istore (L' := [.ref 0, .int a1, .int a2, .int a3, .int a4, .long 1, .retAddr 0, .long 0, .retAddr 0, .long 0, .retAddr 0, .int 1, .int 1]) dX11_chance_63 (by decide) rfl rfl ?_
                  exact e7 c2 c4 c6 c8 c10 c11 c14 c15
                · skip
                  refine g_ldc2 dX11_chance_46 lc_X11_315 ?_
                  exact g_lret rfl dX11_chance_49 rfl (Nat.le_refl _) (q8 c2 c4 c6 c8 c10 c11 c14 c16)
            · skip
              refine g_ldc2 dX11_chance_31 lc_X11_315 ?_
              exact g_lret rfl dX11_chance_34 rfl (Nat.le_refl _) (q9 c2 c4 c6 c8 c10 c12)
set_option maxRecDepth 10000 in
set_option maxHeartbeats 1000000 in
theorem sg_X11_chance_65 {l : Launch} {d : Nat} {Q : Option Value → mx_H → Prop} {c : Nat} {I : mx_I} (x1 : Int32) (x2 : Int32) (x3 : Int32) (x4 : Int32) (x5 : Int64) (x6 : Int64) (x7 : Int64) (x8 : Int32) (x9 : Int32)
    (q1 : (x3 < x9) → (¬ x4 = 0) → Q (some (.long ((x8).toInt64))) (sk0 c, I))
    (q2 : (x3 < x9) → (x4 = 0) → Q (some (.long x6)) (sk0 c, I))
    (e3 : (¬ x3 < x9) → ((lg_cmp (((x6 * 10) + ((x5 - x6) * ((x1).toInt64))) * (((10 - x2)).toInt64)) ((x7 * 10) * 10)) ≤ 0) → mx_Go l (mx_rm (d + 1) 0 0) mX11_chance (mx_Z Q 0 0) 0 0 65 [.ref 0, .int x1, .int x2, .int x3, .int x4, .long ((x5 * 10) * 10), .retAddr 0, .long (((x6 * 10) + ((x5 - x6) * ((x1).toInt64))) * (((10 - x2)).toInt64)), .retAddr 0, .long ((x7 * 10) * 10), .retAddr 0, .int x8, .int (x9 + 1)] [] (sk0 c, I))
    (e4 : (¬ x3 < x9) → (¬ (lg_cmp (((x6 * 10) + ((x5 - x6) * ((x1).toInt64))) * (((10 - x2)).toInt64)) ((x7 * 10) * 10)) ≤ 0) → mx_Go l (mx_rm (d + 1) 0 0) mX11_chance (mx_Z Q 0 0) 0 0 65 [.ref 0, .int x1, .int x2, .int x3, .int x4, .long ((x5 * 10) * 10), .retAddr 0, .long (((x6 * 10) + ((x5 - x6) * ((x1).toInt64))) * (((10 - x2)).toInt64)), .retAddr 0, .long (((x6 * 10) + ((x5 - x6) * ((x1).toInt64))) * (((10 - x2)).toInt64)), .retAddr 0, .int x9, .int (x9 + 1)] [] (sk0 c, I)) :
    mx_Go l (mx_rm (d + 1) 0 0) mX11_chance (mx_Z Q 0 0) 0 0 65 [.ref 0, .int x1, .int x2, .int x3, .int x4, .long x5, .retAddr 0, .long x6, .retAddr 0, .long x7, .retAddr 0, .int x8, .int x9] [] (sk0 c, I) := by
  refine g_iload dX11_chance_65 rfl ?_
  refine g_iload_n dX11_chance_67 rfl rfl ?_
  refine g_icmp_gt (tgt := 140) dX11_chance_68 (by decide) (fun c1 => ?_) (fun c2 => ?_)
  · skip
    refine g_iload dX11_chance_140 rfl ?_
    refine g_if_ne (tgt := 150) dX11_chance_142 (by decide) (fun c3 => ?_) (fun c4 => ?_)
    · skip
      refine g_iload dX11_chance_150 rfl ?_
      refine g_i2l dX11_chance_152 ?_
      exact g_lret rfl dX11_chance_153 rfl (Nat.le_refl _) (q1 c1 c3)
    · skip
      refine g_lload dX11_chance_145 rfl ?_
      refine g_goto (tgt := 153) dX11_chance_147 (by decide) ?_
      exact g_lret rfl dX11_chance_153 rfl (Nat.le_refl _) (q2 c1 c4)
  · skip
    refine g_lload dX11_chance_71 rfl ?_
    refine g_ldc2 dX11_chance_73 lc_X11_317 ?_
    refine g_lmul dX11_chance_76 ?_
    refine g_lload dX11_chance_77 rfl ?_
    refine g_lload dX11_chance_79 rfl ?_
    refine g_lsub dX11_chance_81 ?_
    refine g_iload_n dX11_chance_82 rfl rfl ?_
    refine g_i2l dX11_chance_83 ?_
    refine g_lmul dX11_chance_84 ?_
    refine g_ladd dX11_chance_85 ?_
    refine g_bipush (v := 10) dX11_chance_86 (by decide) ?_
    refine g_iload_n dX11_chance_88 rfl rfl ?_
    refine g_isub dX11_chance_89 ?_
    refine g_i2l dX11_chance_90 ?_
    refine g_lmul dX11_chance_91 ?_
    refine s_lstore (L' := [.ref 0, .int x1, .int x2, .int x3, .int x4, .long x5, .retAddr 0, .long (((x6 * 10) + ((x5 - x6) * ((x1).toInt64))) * (((10 - x2)).toInt64)), .retAddr 0, .long x7, .retAddr 0, .int x8, .int x9]) dX11_chance_92 (by decide) rfl rfl ?_
    refine g_lload dX11_chance_94 rfl ?_
    refine g_ldc2 dX11_chance_96 lc_X11_317 ?_
    refine g_lmul dX11_chance_99 ?_
    refine g_ldc2 dX11_chance_100 lc_X11_317 ?_
    refine g_lmul dX11_chance_103 ?_
    refine s_lstore (L' := [.ref 0, .int x1, .int x2, .int x3, .int x4, .long ((x5 * 10) * 10), .retAddr 0, .long (((x6 * 10) + ((x5 - x6) * ((x1).toInt64))) * (((10 - x2)).toInt64)), .retAddr 0, .long x7, .retAddr 0, .int x8, .int x9]) dX11_chance_104 (by decide) rfl rfl ?_
    refine g_lload dX11_chance_106 rfl ?_
    refine g_ldc2 dX11_chance_108 lc_X11_317 ?_
    refine g_lmul dX11_chance_111 ?_
    refine g_ldc2 dX11_chance_112 lc_X11_317 ?_
    refine g_lmul dX11_chance_115 ?_
    refine s_lstore (L' := [.ref 0, .int x1, .int x2, .int x3, .int x4, .long ((x5 * 10) * 10), .retAddr 0, .long (((x6 * 10) + ((x5 - x6) * ((x1).toInt64))) * (((10 - x2)).toInt64)), .retAddr 0, .long ((x7 * 10) * 10), .retAddr 0, .int x8, .int x9]) dX11_chance_116 (by decide) rfl rfl ?_
    refine g_lload dX11_chance_118 rfl ?_
    refine g_lload dX11_chance_120 rfl ?_
    refine g_lcmp dX11_chance_122 ?_
    refine g_if_le (tgt := 134) dX11_chance_123 (by decide) (fun c5 => ?_) (fun c6 => ?_)
    · skip
      refine s_iinc (v := (x9 + 1)) (L' := [.ref 0, .int x1, .int x2, .int x3, .int x4, .long ((x5 * 10) * 10), .retAddr 0, .long (((x6 * 10) + ((x5 - x6) * ((x1).toInt64))) * (((10 - x2)).toInt64)), .retAddr 0, .long ((x7 * 10) * 10), .retAddr 0, .int x8, .int (x9 + 1)]) dX11_chance_134 rfl (by decide) rfl rfl rfl ?_
      refine g_goto (tgt := 65) dX11_chance_137 (by decide) ?_
      exact e3 c2 c5
    · skip
      refine g_lload dX11_chance_126 rfl ?_
      refine s_lstore (L' := [.ref 0, .int x1, .int x2, .int x3, .int x4, .long ((x5 * 10) * 10), .retAddr 0, .long (((x6 * 10) + ((x5 - x6) * ((x1).toInt64))) * (((10 - x2)).toInt64)), .retAddr 0, .long (((x6 * 10) + ((x5 - x6) * ((x1).toInt64))) * (((10 - x2)).toInt64)), .retAddr 0, .int x8, .int x9]) dX11_chance_128 (by decide) rfl rfl ?_
      refine g_iload dX11_chance_130 rfl ?_
      refine s_istore (L' := [.ref 0, .int x1, .int x2, .int x3, .int x4, .long ((x5 * 10) * 10), .retAddr 0, .long (((x6 * 10) + ((x5 - x6) * ((x1).toInt64))) * (((10 - x2)).toInt64)), .retAddr 0, .long (((x6 * 10) + ((x5 - x6) * ((x1).toInt64))) * (((10 - x2)).toInt64)), .retAddr 0, .int x9, .int x9]) dX11_chance_132 (by decide) rfl rfl ?_
      refine s_iinc (v := (x9 + 1)) (L' := [.ref 0, .int x1, .int x2, .int x3, .int x4, .long ((x5 * 10) * 10), .retAddr 0, .long (((x6 * 10) + ((x5 - x6) * ((x1).toInt64))) * (((10 - x2)).toInt64)), .retAddr 0, .long (((x6 * 10) + ((x5 - x6) * ((x1).toInt64))) * (((10 - x2)).toInt64)), .retAddr 0, .int x9, .int (x9 + 1)]) dX11_chance_134 rfl (by decide) rfl rfl rfl ?_
      refine g_goto (tgt := 65) dX11_chance_137 (by decide) ?_
      exact e4 c2 c6
