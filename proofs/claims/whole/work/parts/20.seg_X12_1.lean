set_option maxRecDepth 10000 in
set_option maxHeartbeats 1000000 in
theorem sn_X12_isIn {l : Launch} {d : Nat} {Q : Option Value → mx_H → Prop} {c : Nat} {I : mx_I} (a1 : Int32) (a2 : Int32) (a3 : Int32)
    (q1 : (a1 < a2) → Q (some (.int 0)) (sk0 c, I))
    (q2 : (¬ a1 < a2) → (a3 < a1) → Q (some (.int 0)) (sk0 c, I))
    (q3 : (¬ a1 < a2) → (¬ a3 < a1) → Q (some (.int 1)) (sk0 c, I)) :
    mx_Spec l mX12_isIn (d + 1) 0 0 [.int a1, .int a2, .int a3] (sk0 c, I) Q := by
  refine mx_enter rfl (by simp [Value.category]) (Nat.le_of_ble_eq_true rfl) ?_
  change mx_Go l (mx_rm (d + 1) 0 0) mX12_isIn (mx_Z Q 0 0) 0 0 0 [.int a1, .int a2, .int a3] [] (sk0 c, I)
  refine g_iload_n dX12_isIn_0 rfl rfl ?_
  refine g_iload_n dX12_isIn_1 rfl rfl ?_
  refine g_icmp_lt (tgt := 14) dX12_isIn_2 (by decide) (fun c1 => ?_) (fun c2 => ?_)
  · skip
    refine g_iconst (v := 0) dX12_isIn_14 (by decide) ?_
    exact g_zret (ty := .boolean) rfl rfl dX12_isIn_15 rfl (Nat.le_refl _) (q1 c1)
  · skip
    refine g_iload_n dX12_isIn_5 rfl rfl ?_
    refine g_iload_n dX12_isIn_6 rfl rfl ?_
    refine g_icmp_gt (tgt := 14) dX12_isIn_7 (by decide) (fun c3 => ?_) (fun c4 => ?_)
    · skip
      refine g_iconst (v := 0) dX12_isIn_14 (by decide) ?_
      exact g_zret (ty := .boolean) rfl rfl dX12_isIn_15 rfl (Nat.le_refl _) (q2 c2 c3)
    · skip
      refine g_iconst (v := 1) dX12_isIn_10 (by decide) ?_
      refine g_goto (tgt := 15) dX12_isIn_11 (by decide) ?_
      exact g_zret (ty := .boolean) rfl rfl dX12_isIn_15 rfl (Nat.le_refl _) (q3 c2 c4)
set_option maxRecDepth 10000 in
set_option maxHeartbeats 1000000 in
theorem sn_X12_bridges {l : Launch} {d : Nat} {Q : Option Value → mx_H → Prop} {c : Nat} {I : mx_I} (a1 : Int32)
    (k1 : mx_K1 l mX12_isIn d [.int a1, .int 1, .int 3] (sk0 c, I) (fun r h' => mx_Go l (mx_rm (d + 1) 0 0) mX12_bridges (mx_Z Q 0 0) 0 0 6 [.ref 120, .int a1, .retAddr 0] (r.toList ++ []) h')) :
    mx_Spec l mX12_bridges (d + 1) 0 0 [.ref 120, .int a1] (sk0 c, I) Q := by
  refine mx_enter rfl (by simp [Value.category]) (Nat.le_of_ble_eq_true rfl) ?_
  change mx_Go l (mx_rm (d + 1) 0 0) mX12_bridges (mx_Z Q 0 0) 0 0 0 [.ref 120, .int a1, .retAddr 0] [] (sk0 c, I)
  refine g_iload_n dX12_bridges_0 rfl rfl ?_
  refine g_iconst (v := 1) dX12_bridges_1 (by decide) ?_
  refine g_iconst (v := 3) dX12_bridges_2 (by decide) ?_
  exact s_callS (M' := mX12_isIn) (As := [.int a1, .int 1, .int 3]) (st := []) dX12_bridges_3 lm_X12_50 okX12_isIn osX12_isIn (by simp [Value.category]) (by decide) rfl (k1)
set_option maxRecDepth 10000 in
set_option maxHeartbeats 1000000 in
theorem sg_X12_bridges_6 {l : Launch} {d : Nat} {Q : Option Value → mx_H → Prop} {c : Nat} {I : mx_I} (x1 : Int32) (x2 : Int32)
    (e1 : (¬ x2 = 0) → mx_Go l (mx_rm (d + 1) 0 0) mX12_bridges (mx_Z Q 0 0) 0 0 13 [.ref 120, .int x1, .int 0] [] (sk0 c, I))
    (q2 : (x2 = 0) → Q (some (.int 0)) (sk0 c, I)) :
    mx_Go l (mx_rm (d + 1) 0 0) mX12_bridges (mx_Z Q 0 0) 0 0 6 [.ref 120, .int x1, .retAddr 0] [.int x2] (sk0 c, I) := by
  refine g_if_ne (tgt := 11) dX12_bridges_6 (by decide) (fun c1 => ?_) (fun c2 => ?_)
  · skip
    refine g_iconst (v := 0) dX12_bridges_11 (by decide) ?_
    refine s_istore_n (L' := [.ref 120, .int x1, .int 0]) dX12_bridges_12 rfl (by decide) rfl rfl ?_
    exact e1 c1
  · skip
    refine g_iconst (v := 0) dX12_bridges_9 (by decide) ?_
    exact g_zret (ty := .boolean) rfl rfl dX12_bridges_10 rfl (Nat.le_refl _) (q2 c2)
set_option maxRecDepth 10000 in
set_option maxHeartbeats 1000000 in
theorem sg_X12_bridges_13 {l : Launch} {d : Nat} {Q : Option Value → mx_H → Prop} {c : Nat} {I : mx_I} (x1 : Int32) (x2 : Int32)
    (q1 : (2490 ≤ x2) → Q (some (.int 1)) (sk0 c, (mx_set (mx_set I 121 0 x1) 121 4 (-1))))
    (b2 : (¬ 2490 ≤ x2) → vp_in x2 2490)
    (e3 : (¬ 2490 ≤ x2) → mx_Go l (mx_rm (d + 1) 0 0) mX12_bridges (mx_Z Q 0 0) 0 0 13 [.ref 120, .int x1, .int (x2 + 1)] [] (sk0 c, (mx_set I 121 x2.toNatClampNeg 0))) :
    mx_Go l (mx_rm (d + 1) 0 0) mX12_bridges (mx_Z Q 0 0) 0 0 13 [.ref 120, .int x1, .int x2] [] (sk0 c, I) := by
  refine g_iload_n dX12_bridges_13 rfl rfl ?_
  refine g_sipush (v := 2490) dX12_bridges_14 (by decide) ?_
  refine g_icmp_ge (tgt := 33) dX12_bridges_17 (by decide) (fun c1 => ?_) (fun c2 => ?_)
  · skip
    refine g_aload_n dX12_bridges_33 rfl rfl ?_
    refine rg_X12_0 (r := 121) dX12_bridges_34 lf_X12_7 (sk_120 _) rfl ?_
    refine g_iconst (v := 0) dX12_bridges_37 (by decide) ?_
    refine g_iload_n dX12_bridges_38 rfl rfl ?_
    refine s_iast (j := 0) dX12_bridges_39 (sk_121 _) (by unfold vp_in; decide) (by decide) ?_
    refine g_aload_n dX12_bridges_40 rfl rfl ?_
    refine rg_X12_0 (r := 121) dX12_bridges_41 lf_X12_7 (sk_120 _) rfl ?_
    refine g_iconst (v := 4) dX12_bridges_44 (by decide) ?_
    refine g_iconst (v := (-1)) dX12_bridges_45 (by decide) ?_
    refine s_iast (j := 4) dX12_bridges_46 (sk_121 _) (by unfold vp_in; decide) (by decide) ?_
    refine g_iconst (v := 1) dX12_bridges_47 (by decide) ?_
    exact g_zret (ty := .boolean) rfl rfl dX12_bridges_48 rfl (Nat.le_refl _) (q1 c1)
  · skip
    refine g_aload_n dX12_bridges_20 rfl rfl ?_
    refine rg_X12_0 (r := 121) dX12_bridges_21 lf_X12_7 (sk_120 _) rfl ?_
    refine g_iload_n dX12_bridges_24 rfl rfl ?_
    refine g_iconst (v := 0) dX12_bridges_25 (by decide) ?_
    refine s_iast (j := x2.toNatClampNeg) dX12_bridges_26 (sk_121 _) (b2 c2) rfl ?_
    refine s_iinc (v := (x2 + 1)) (L' := [.ref 120, .int x1, .int (x2 + 1)]) dX12_bridges_27 rfl (by decide) rfl rfl rfl ?_
    refine g_goto (tgt := 13) dX12_bridges_30 (by decide) ?_
    exact e3 c2
set_option maxRecDepth 10000 in
set_option maxHeartbeats 1000000 in
theorem sn_X12_ofLoad {l : Launch} {d : Nat} {Q : Option Value → mx_H → Prop} {c : Nat} {I : mx_I} (a1 : Int32) (a2 : Int32)
    (b1 : vp_in ((20 + (10 * a1)) + a2) 2490)
    (q2 : Q (some (.int (I 121 ((20 + (10 * a1)) + a2).toNatClampNeg))) (sk0 c, I)) :
    mx_Spec l mX12_ofLoad (d + 1) 0 0 [.ref 120, .int a1, .int a2] (sk0 c, I) Q := by
  refine mx_enter rfl (by simp [Value.category]) (Nat.le_of_ble_eq_true rfl) ?_
  change mx_Go l (mx_rm (d + 1) 0 0) mX12_ofLoad (mx_Z Q 0 0) 0 0 0 [.ref 120, .int a1, .int a2] [] (sk0 c, I)
  refine g_aload_n dX12_ofLoad_0 rfl rfl ?_
  refine rg_X12_0 (r := 121) dX12_ofLoad_1 lf_X12_7 (sk_120 _) rfl ?_
  refine g_bipush (v := 20) dX12_ofLoad_4 (by decide) ?_
  refine g_bipush (v := 10) dX12_ofLoad_6 (by decide) ?_
  refine g_iload_n dX12_ofLoad_8 rfl rfl ?_
  refine g_imul dX12_ofLoad_9 ?_
  refine g_iadd dX12_ofLoad_10 ?_
  refine g_iload_n dX12_ofLoad_11 rfl rfl ?_
  refine g_iadd dX12_ofLoad_12 ?_
  refine s_iald (j := ((20 + (10 * a1)) + a2).toNatClampNeg) (v := (I 121 ((20 + (10 * a1)) + a2).toNatClampNeg)) dX12_ofLoad_13 (sk_121 _) (b1) rfl rfl ?_
  exact g_iret rfl dX12_ofLoad_14 rfl (Nat.le_refl _) (q2)
set_option maxRecDepth 10000 in
set_option maxHeartbeats 1000000 in
theorem sn_X12_loads {l : Launch} {d : Nat} {Q : Option Value → mx_H → Prop} {c : Nat} {I : mx_I} (a1 : Int32) (a2 : Int32) (a3 : Int32)
    (b1 : vp_in ((20 + (10 * a1)) + a2) 2490)
    (q2 : Q none (sk0 c, (mx_set I 121 ((20 + (10 * a1)) + a2).toNatClampNeg a3))) :
    mx_Spec l mX12_loads (d + 1) 0 0 [.ref 120, .int a1, .int a2, .int a3] (sk0 c, I) Q := by
  refine mx_enter rfl (by simp [Value.category]) (Nat.le_of_ble_eq_true rfl) ?_
  change mx_Go l (mx_rm (d + 1) 0 0) mX12_loads (mx_Z Q 0 0) 0 0 0 [.ref 120, .int a1, .int a2, .int a3] [] (sk0 c, I)
  refine g_aload_n dX12_loads_0 rfl rfl ?_
  refine rg_X12_0 (r := 121) dX12_loads_1 lf_X12_7 (sk_120 _) rfl ?_
  refine g_bipush (v := 20) dX12_loads_4 (by decide) ?_
  refine g_bipush (v := 10) dX12_loads_6 (by decide) ?_
  refine g_iload_n dX12_loads_8 rfl rfl ?_
  refine g_imul dX12_loads_9 ?_
  refine g_iadd dX12_loads_10 ?_
  refine g_iload_n dX12_loads_11 rfl rfl ?_
  refine g_iadd dX12_loads_12 ?_
  refine g_iload_n dX12_loads_13 rfl rfl ?_
  refine s_iast (j := ((20 + (10 * a1)) + a2).toNatClampNeg) dX12_loads_14 (sk_121 _) (b1) rfl ?_
  exact g_vret rfl dX12_loads_15 rfl (Nat.le_refl _) (q2)
set_option maxRecDepth 10000 in
set_option maxHeartbeats 1000000 in
theorem sn_X12_ofOne {l : Launch} {d : Nat} {Q : Option Value → mx_H → Prop} {c : Nat} {I : mx_I} (a1 : Int32) (a2 : Int32)
    (b1 : vp_in ((320 + (14 * a1)) + a2) 2490)
    (q2 : Q (some (.int (I 121 ((320 + (14 * a1)) + a2).toNatClampNeg))) (sk0 c, I)) :
    mx_Spec l mX12_ofOne (d + 1) 0 0 [.ref 120, .int a1, .int a2] (sk0 c, I) Q := by
  refine mx_enter rfl (by simp [Value.category]) (Nat.le_of_ble_eq_true rfl) ?_
  change mx_Go l (mx_rm (d + 1) 0 0) mX12_ofOne (mx_Z Q 0 0) 0 0 0 [.ref 120, .int a1, .int a2] [] (sk0 c, I)
  refine g_aload_n dX12_ofOne_0 rfl rfl ?_
  refine rg_X12_0 (r := 121) dX12_ofOne_1 lf_X12_7 (sk_120 _) rfl ?_
  refine g_sipush (v := 320) dX12_ofOne_4 (by decide) ?_
  refine g_bipush (v := 14) dX12_ofOne_7 (by decide) ?_
  refine g_iload_n dX12_ofOne_9 rfl rfl ?_
  refine g_imul dX12_ofOne_10 ?_
  refine g_iadd dX12_ofOne_11 ?_
  refine g_iload_n dX12_ofOne_12 rfl rfl ?_
  refine g_iadd dX12_ofOne_13 ?_
  refine s_iald (j := ((320 + (14 * a1)) + a2).toNatClampNeg) (v := (I 121 ((320 + (14 * a1)) + a2).toNatClampNeg)) dX12_ofOne_14 (sk_121 _) (b1) rfl rfl ?_
  exact g_iret rfl dX12_ofOne_15 rfl (Nat.le_refl _) (q2)
set_option maxRecDepth 10000 in
set_option maxHeartbeats 1000000 in
theorem sn_X12_gives {l : Launch} {d : Nat} {Q : Option Value → mx_H → Prop} {c : Nat} {I : mx_I} (a1 : Int32) (a2 : Int32) (a3 : Int32)
    (b1 : vp_in ((320 + (14 * a1)) + a2) 2490)
    (q2 : Q none (sk0 c, (mx_set I 121 ((320 + (14 * a1)) + a2).toNatClampNeg a3))) :
    mx_Spec l mX12_gives (d + 1) 0 0 [.ref 120, .int a1, .int a2, .int a3] (sk0 c, I) Q := by
  refine mx_enter rfl (by simp [Value.category]) (Nat.le_of_ble_eq_true rfl) ?_
  change mx_Go l (mx_rm (d + 1) 0 0) mX12_gives (mx_Z Q 0 0) 0 0 0 [.ref 120, .int a1, .int a2, .int a3] [] (sk0 c, I)
  refine g_aload_n dX12_gives_0 rfl rfl ?_
  refine rg_X12_0 (r := 121) dX12_gives_1 lf_X12_7 (sk_120 _) rfl ?_
  refine g_sipush (v := 320) dX12_gives_4 (by decide) ?_
  refine g_bipush (v := 14) dX12_gives_7 (by decide) ?_
  refine g_iload_n dX12_gives_9 rfl rfl ?_
  refine g_imul dX12_gives_10 ?_
  refine g_iadd dX12_gives_11 ?_
  refine g_iload_n dX12_gives_12 rfl rfl ?_
  refine g_iadd dX12_gives_13 ?_
  refine g_iload_n dX12_gives_14 rfl rfl ?_
  refine s_iast (j := ((320 + (14 * a1)) + a2).toNatClampNeg) dX12_gives_15 (sk_121 _) (b1) rfl ?_
  exact g_vret rfl dX12_gives_16 rfl (Nat.le_refl _) (q2)
set_option maxRecDepth 10000 in
set_option maxHeartbeats 1000000 in
theorem sn_X12_isLoad {l : Launch} {d : Nat} {Q : Option Value → mx_H → Prop} {c : Nat} {I : mx_I} (a1 : Int32)
    (k1 : mx_K1 l mX12_isIn d [.int a1, .int 0, .int ((I 121 2) - 1)] (sk0 c, I) (fun r h' => mx_Go l (mx_rm (d + 1) 0 0) mX12_isLoad (mx_Z Q 0 0) 0 0 13 [.ref 120, .int a1] (r.toList ++ []) h')) :
    mx_Spec l mX12_isLoad (d + 1) 0 0 [.ref 120, .int a1] (sk0 c, I) Q := by
  refine mx_enter rfl (by simp [Value.category]) (Nat.le_of_ble_eq_true rfl) ?_
  change mx_Go l (mx_rm (d + 1) 0 0) mX12_isLoad (mx_Z Q 0 0) 0 0 0 [.ref 120, .int a1] [] (sk0 c, I)
  refine g_iload_n dX12_isLoad_0 rfl rfl ?_
  refine g_iconst (v := 0) dX12_isLoad_1 (by decide) ?_
  refine g_aload_n dX12_isLoad_2 rfl rfl ?_
  refine rg_X12_0 (r := 121) dX12_isLoad_3 lf_X12_7 (sk_120 _) rfl ?_
  refine g_iconst (v := 2) dX12_isLoad_6 (by decide) ?_
  refine s_iald (j := 2) (v := (I 121 2)) dX12_isLoad_7 (sk_121 _) (by unfold vp_in; decide) (by decide) rfl ?_
  refine g_iconst (v := 1) dX12_isLoad_8 (by decide) ?_
  refine g_isub dX12_isLoad_9 ?_
  exact s_callS (M' := mX12_isIn) (As := [.int a1, .int 0, .int ((I 121 2) - 1)]) (st := []) dX12_isLoad_10 lm_X12_50 okX12_isIn osX12_isIn (by simp [Value.category]) (by decide) rfl (k1)
set_option maxRecDepth 10000 in
set_option maxHeartbeats 1000000 in
theorem sg_X12_isLoad_13 {l : Launch} {d : Nat} {Q : Option Value → mx_H → Prop} {c : Nat} {I : mx_I} (x1 : Int32) (x2 : Int32)
    (q1 : Q (some (.int x2)) (sk0 c, I))
    (n2 : x2 = 0 ∨ x2 = 1) :
    mx_Go l (mx_rm (d + 1) 0 0) mX12_isLoad (mx_Z Q 0 0) 0 0 13 [.ref 120, .int x1] [.int x2] (sk0 c, I) := by
  exact g_zret (ty := .boolean) rfl (nb_01 (n2)) dX12_isLoad_13 rfl (Nat.le_refl _) (q1)
set_option maxRecDepth 10000 in
set_option maxHeartbeats 1000000 in
theorem sn_X12_isOne {l : Launch} {d : Nat} {Q : Option Value → mx_H → Prop} {c : Nat} {I : mx_I} (a1 : Int32)
    (k1 : mx_K1 l mX12_isIn d [.int a1, .int 0, .int ((I 121 3) - 1)] (sk0 c, I) (fun r h' => mx_Go l (mx_rm (d + 1) 0 0) mX12_isOne (mx_Z Q 0 0) 0 0 13 [.ref 120, .int a1] (r.toList ++ []) h')) :
    mx_Spec l mX12_isOne (d + 1) 0 0 [.ref 120, .int a1] (sk0 c, I) Q := by
  refine mx_enter rfl (by simp [Value.category]) (Nat.le_of_ble_eq_true rfl) ?_
  change mx_Go l (mx_rm (d + 1) 0 0) mX12_isOne (mx_Z Q 0 0) 0 0 0 [.ref 120, .int a1] [] (sk0 c, I)
  refine g_iload_n dX12_isOne_0 rfl rfl ?_
  refine g_iconst (v := 0) dX12_isOne_1 (by decide) ?_
  refine g_aload_n dX12_isOne_2 rfl rfl ?_
  refine rg_X12_0 (r := 121) dX12_isOne_3 lf_X12_7 (sk_120 _) rfl ?_
  refine g_iconst (v := 3) dX12_isOne_6 (by decide) ?_
  refine s_iald (j := 3) (v := (I 121 3)) dX12_isOne_7 (sk_121 _) (by unfold vp_in; decide) (by decide) rfl ?_
  refine g_iconst (v := 1) dX12_isOne_8 (by decide) ?_
  refine g_isub dX12_isOne_9 ?_
  exact s_callS (M' := mX12_isIn) (As := [.int a1, .int 0, .int ((I 121 3) - 1)]) (st := []) dX12_isOne_10 lm_X12_50 okX12_isIn osX12_isIn (by simp [Value.category]) (by decide) rfl (k1)
set_option maxRecDepth 10000 in
set_option maxHeartbeats 1000000 in
theorem sg_X12_isOne_13 {l : Launch} {d : Nat} {Q : Option Value → mx_H → Prop} {c : Nat} {I : mx_I} (x1 : Int32) (x2 : Int32)
    (q1 : Q (some (.int x2)) (sk0 c, I))
    (n2 : x2 = 0 ∨ x2 = 1) :
    mx_Go l (mx_rm (d + 1) 0 0) mX12_isOne (mx_Z Q 0 0) 0 0 13 [.ref 120, .int x1] [.int x2] (sk0 c, I) := by
  exact g_zret (ty := .boolean) rfl (nb_01 (n2)) dX12_isOne_13 rfl (Nat.le_refl _) (q1)
set_option maxRecDepth 10000 in
set_option maxHeartbeats 1000000 in
theorem sn_X12_isEnd {l : Launch} {d : Nat} {Q : Option Value → mx_H → Prop} {c : Nat} {I : mx_I} (a1 : Int32)
    (k1 : mx_K1 l mX12_isIn d [.int a1, .int 0, .int (I 121 0)] (sk0 c, I) (fun r h' => mx_Go l (mx_rm (d + 1) 0 0) mX12_isEnd (mx_Z Q 0 0) 0 0 11 [.ref 120, .int a1] (r.toList ++ []) h')) :
    mx_Spec l mX12_isEnd (d + 1) 0 0 [.ref 120, .int a1] (sk0 c, I) Q := by
  refine mx_enter rfl (by simp [Value.category]) (Nat.le_of_ble_eq_true rfl) ?_
  change mx_Go l (mx_rm (d + 1) 0 0) mX12_isEnd (mx_Z Q 0 0) 0 0 0 [.ref 120, .int a1] [] (sk0 c, I)
  refine g_iload_n dX12_isEnd_0 rfl rfl ?_
  refine g_iconst (v := 0) dX12_isEnd_1 (by decide) ?_
  refine g_aload_n dX12_isEnd_2 rfl rfl ?_
  refine rg_X12_0 (r := 121) dX12_isEnd_3 lf_X12_7 (sk_120 _) rfl ?_
  refine g_iconst (v := 0) dX12_isEnd_6 (by decide) ?_
  refine s_iald (j := 0) (v := (I 121 0)) dX12_isEnd_7 (sk_121 _) (by unfold vp_in; decide) (by decide) rfl ?_
  exact s_callS (M' := mX12_isIn) (As := [.int a1, .int 0, .int (I 121 0)]) (st := []) dX12_isEnd_8 lm_X12_50 okX12_isIn osX12_isIn (by simp [Value.category]) (by decide) rfl (k1)
set_option maxRecDepth 10000 in
set_option maxHeartbeats 1000000 in
theorem sg_X12_isEnd_11 {l : Launch} {d : Nat} {Q : Option Value → mx_H → Prop} {c : Nat} {I : mx_I} (x1 : Int32) (x2 : Int32)
    (q1 : Q (some (.int x2)) (sk0 c, I))
    (n2 : x2 = 0 ∨ x2 = 1) :
    mx_Go l (mx_rm (d + 1) 0 0) mX12_isEnd (mx_Z Q 0 0) 0 0 11 [.ref 120, .int x1] [.int x2] (sk0 c, I) := by
  exact g_zret (ty := .boolean) rfl (nb_01 (n2)) dX12_isEnd_11 rfl (Nat.le_refl _) (q1)
set_option maxRecDepth 10000 in
set_option maxHeartbeats 1000000 in
theorem sn_X12_isHour {l : Launch} {d : Nat} {Q : Option Value → mx_H → Prop} {c : Nat} {I : mx_I} (a1 : Int32)
    (k1 : mx_K1 l mX12_isIn d [.int a1, .int (I 121 1), .int 167] (sk0 c, I) (fun r h' => mx_Go l (mx_rm (d + 1) 0 0) mX12_isHour (mx_Z Q 0 0) 0 0 13 [.ref 120, .int a1] (r.toList ++ []) h')) :
    mx_Spec l mX12_isHour (d + 1) 0 0 [.ref 120, .int a1] (sk0 c, I) Q := by
  refine mx_enter rfl (by simp [Value.category]) (Nat.le_of_ble_eq_true rfl) ?_
  change mx_Go l (mx_rm (d + 1) 0 0) mX12_isHour (mx_Z Q 0 0) 0 0 0 [.ref 120, .int a1] [] (sk0 c, I)
  refine g_iload_n dX12_isHour_0 rfl rfl ?_
  refine g_aload_n dX12_isHour_1 rfl rfl ?_
  refine rg_X12_0 (r := 121) dX12_isHour_2 lf_X12_7 (sk_120 _) rfl ?_
  refine g_iconst (v := 1) dX12_isHour_5 (by decide) ?_
  refine s_iald (j := 1) (v := (I 121 1)) dX12_isHour_6 (sk_121 _) (by unfold vp_in; decide) (by decide) rfl ?_
  refine g_sipush (v := 167) dX12_isHour_7 (by decide) ?_
  exact s_callS (M' := mX12_isIn) (As := [.int a1, .int (I 121 1), .int 167]) (st := []) dX12_isHour_10 lm_X12_50 okX12_isIn osX12_isIn (by simp [Value.category]) (by decide) rfl (k1)
set_option maxRecDepth 10000 in
set_option maxHeartbeats 1000000 in
theorem sg_X12_isHour_13 {l : Launch} {d : Nat} {Q : Option Value → mx_H → Prop} {c : Nat} {I : mx_I} (x1 : Int32) (x2 : Int32)
    (q1 : Q (some (.int x2)) (sk0 c, I))
    (n2 : x2 = 0 ∨ x2 = 1) :
    mx_Go l (mx_rm (d + 1) 0 0) mX12_isHour (mx_Z Q 0 0) 0 0 13 [.ref 120, .int x1] [.int x2] (sk0 c, I) := by
  exact g_zret (ty := .boolean) rfl (nb_01 (n2)) dX12_isHour_13 rfl (Nat.le_refl _) (q1)
set_option maxRecDepth 10000 in
set_option maxHeartbeats 1000000 in
theorem sn_X12_newLoad {l : Launch} {d : Nat} {Q : Option Value → mx_H → Prop} {c : Nat} {I : mx_I} (a1 : Int32) (a2 : Int32) (a3 : Int32)
    (k1 : mx_K1 l mX12_loads d [.ref 120, .int (I 121 2), .int 0, .int a1] (sk0 c, (mx_set I 121 2 ((I 121 2) + 1))) (fun r h' => mx_Go l (mx_rm (d + 1) 0 0) mX12_newLoad (mx_Z Q 0 0) 0 0 26 [.ref 120, .int a1, .int a2, .int a3, .int (I 121 2)] (r.toList ++ []) h')) :
    mx_Spec l mX12_newLoad (d + 1) 0 0 [.ref 120, .int a1, .int a2, .int a3] (sk0 c, I) Q := by
  refine mx_enter rfl (by simp [Value.category]) (Nat.le_of_ble_eq_true rfl) ?_
  change mx_Go l (mx_rm (d + 1) 0 0) mX12_newLoad (mx_Z Q 0 0) 0 0 0 [.ref 120, .int a1, .int a2, .int a3, .retAddr 0] [] (sk0 c, I)
  refine g_aload_n dX12_newLoad_0 rfl rfl ?_
  refine rg_X12_0 (r := 121) dX12_newLoad_1 lf_X12_7 (sk_120 _) rfl ?_
  refine g_iconst (v := 2) dX12_newLoad_4 (by decide) ?_
  refine s_iald (j := 2) (v := (I 121 2)) dX12_newLoad_5 (sk_121 _) (by unfold vp_in; decide) (by decide) rfl ?_
  refine s_istore (L' := [.ref 120, .int a1, .int a2, .int a3, .int (I 121 2)]) dX12_newLoad_6 (by decide) rfl rfl ?_
  refine g_aload_n dX12_newLoad_8 rfl rfl ?_
  refine rg_X12_0 (r := 121) dX12_newLoad_9 lf_X12_7 (sk_120 _) rfl ?_
  refine g_iconst (v := 2) dX12_newLoad_12 (by decide) ?_
  refine g_dup2 dX12_newLoad_13 rfl rfl ?_
  refine s_iald (j := 2) (v := (I 121 2)) dX12_newLoad_14 (sk_121 _) (by unfold vp_in; decide) (by decide) rfl ?_
  refine g_iconst (v := 1) dX12_newLoad_15 (by decide) ?_
  refine g_iadd dX12_newLoad_16 ?_
  refine s_iast (j := 2) dX12_newLoad_17 (sk_121 _) (by unfold vp_in; decide) (by decide) ?_
  refine g_aload_n dX12_newLoad_18 rfl rfl ?_
  refine g_iload dX12_newLoad_19 rfl ?_
  refine g_iconst (v := 0) dX12_newLoad_21 (by decide) ?_
  refine g_iload_n dX12_newLoad_22 rfl rfl ?_
  exact s_callV (M' := mX12_loads) (As := [.int (I 121 2), .int 0, .int a1]) (st := []) dX12_newLoad_23 lm_X12_54 ovX12_loads (h := (sk0 c, (mx_set I 121 2 ((I 121 2) + 1)))) (sk_120 _) (show vwCl[12]? = some _ from rfl) rfl (by simp [Value.category]) (by decide) rfl (k1)
set_option maxRecDepth 10000 in
set_option maxHeartbeats 1000000 in
theorem sg_X12_newLoad_26 {l : Launch} {d : Nat} {Q : Option Value → mx_H → Prop} {c : Nat} {I : mx_I} (x1 : Int32) (x2 : Int32) (x3 : Int32) (x4 : Int32)
    (k1 : mx_K1 l mX12_loads d [.ref 120, .int x4, .int 1, .int x2] (sk0 c, I) (fun r h' => mx_Go l (mx_rm (d + 1) 0 0) mX12_newLoad (mx_Z Q 0 0) 0 0 34 [.ref 120, .int x1, .int x2, .int x3, .int x4] (r.toList ++ []) h')) :
    mx_Go l (mx_rm (d + 1) 0 0) mX12_newLoad (mx_Z Q 0 0) 0 0 26 [.ref 120, .int x1, .int x2, .int x3, .int x4] [] (sk0 c, I) := by
  refine g_aload_n dX12_newLoad_26 rfl rfl ?_
  refine g_iload dX12_newLoad_27 rfl ?_
  refine g_iconst (v := 1) dX12_newLoad_29 (by decide) ?_
  refine g_iload_n dX12_newLoad_30 rfl rfl ?_
  exact s_callV (M' := mX12_loads) (As := [.int x4, .int 1, .int x2]) (st := []) dX12_newLoad_31 lm_X12_54 ovX12_loads (h := (sk0 c, I)) (sk_120 _) (show vwCl[12]? = some _ from rfl) rfl (by simp [Value.category]) (by decide) rfl (k1)
set_option maxRecDepth 10000 in
set_option maxHeartbeats 1000000 in
theorem sg_X12_newLoad_34 {l : Launch} {d : Nat} {Q : Option Value → mx_H → Prop} {c : Nat} {I : mx_I} (x1 : Int32) (x2 : Int32) (x3 : Int32) (x4 : Int32)
    (k1 : mx_K1 l mX12_loads d [.ref 120, .int x4, .int 2, .int x3] (sk0 c, I) (fun r h' => mx_Go l (mx_rm (d + 1) 0 0) mX12_newLoad (mx_Z Q 0 0) 0 0 42 [.ref 120, .int x1, .int x2, .int x3, .int x4] (r.toList ++ []) h')) :
    mx_Go l (mx_rm (d + 1) 0 0) mX12_newLoad (mx_Z Q 0 0) 0 0 34 [.ref 120, .int x1, .int x2, .int x3, .int x4] [] (sk0 c, I) := by
  refine g_aload_n dX12_newLoad_34 rfl rfl ?_
  refine g_iload dX12_newLoad_35 rfl ?_
  refine g_iconst (v := 2) dX12_newLoad_37 (by decide) ?_
  refine g_iload_n dX12_newLoad_38 rfl rfl ?_
  exact s_callV (M' := mX12_loads) (As := [.int x4, .int 2, .int x3]) (st := []) dX12_newLoad_39 lm_X12_54 ovX12_loads (h := (sk0 c, I)) (sk_120 _) (show vwCl[12]? = some _ from rfl) rfl (by simp [Value.category]) (by decide) rfl (k1)
set_option maxRecDepth 10000 in
set_option maxHeartbeats 1000000 in
theorem sg_X12_newLoad_42 {l : Launch} {d : Nat} {Q : Option Value → mx_H → Prop} {c : Nat} {I : mx_I} (x1 : Int32) (x2 : Int32) (x3 : Int32) (x4 : Int32)
    (k1 : mx_K1 l mX12_loads d [.ref 120, .int x4, .int 3, .int (-1)] (sk0 c, I) (fun r h' => mx_Go l (mx_rm (d + 1) 0 0) mX12_newLoad (mx_Z Q 0 0) 0 0 50 [.ref 120, .int x1, .int x2, .int x3, .int x4] (r.toList ++ []) h')) :
    mx_Go l (mx_rm (d + 1) 0 0) mX12_newLoad (mx_Z Q 0 0) 0 0 42 [.ref 120, .int x1, .int x2, .int x3, .int x4] [] (sk0 c, I) := by
  refine g_aload_n dX12_newLoad_42 rfl rfl ?_
  refine g_iload dX12_newLoad_43 rfl ?_
  refine g_iconst (v := 3) dX12_newLoad_45 (by decide) ?_
  refine g_iconst (v := (-1)) dX12_newLoad_46 (by decide) ?_
  exact s_callV (M' := mX12_loads) (As := [.int x4, .int 3, .int (-1)]) (st := []) dX12_newLoad_47 lm_X12_54 ovX12_loads (h := (sk0 c, I)) (sk_120 _) (show vwCl[12]? = some _ from rfl) rfl (by simp [Value.category]) (by decide) rfl (k1)
set_option maxRecDepth 10000 in
set_option maxHeartbeats 1000000 in
theorem sg_X12_newLoad_50 {l : Launch} {d : Nat} {Q : Option Value → mx_H → Prop} {c : Nat} {I : mx_I} (x1 : Int32) (x2 : Int32) (x3 : Int32) (x4 : Int32)
    (k1 : mx_K1 l mX12_loads d [.ref 120, .int x4, .int 4, .int (-1)] (sk0 c, I) (fun r h' => mx_Go l (mx_rm (d + 1) 0 0) mX12_newLoad (mx_Z Q 0 0) 0 0 58 [.ref 120, .int x1, .int x2, .int x3, .int x4] (r.toList ++ []) h')) :
    mx_Go l (mx_rm (d + 1) 0 0) mX12_newLoad (mx_Z Q 0 0) 0 0 50 [.ref 120, .int x1, .int x2, .int x3, .int x4] [] (sk0 c, I) := by
  refine g_aload_n dX12_newLoad_50 rfl rfl ?_
  refine g_iload dX12_newLoad_51 rfl ?_
  refine g_iconst (v := 4) dX12_newLoad_53 (by decide) ?_
  refine g_iconst (v := (-1)) dX12_newLoad_54 (by decide) ?_
  exact s_callV (M' := mX12_loads) (As := [.int x4, .int 4, .int (-1)]) (st := []) dX12_newLoad_55 lm_X12_54 ovX12_loads (h := (sk0 c, I)) (sk_120 _) (show vwCl[12]? = some _ from rfl) rfl (by simp [Value.category]) (by decide) rfl (k1)
set_option maxRecDepth 10000 in
set_option maxHeartbeats 1000000 in
theorem sg_X12_newLoad_58 {l : Launch} {d : Nat} {Q : Option Value → mx_H → Prop} {c : Nat} {I : mx_I} (x1 : Int32) (x2 : Int32) (x3 : Int32) (x4 : Int32)
    (k1 : mx_K1 l mX12_loads d [.ref 120, .int x4, .int 5, .int (-1)] (sk0 c, I) (fun r h' => mx_Go l (mx_rm (d + 1) 0 0) mX12_newLoad (mx_Z Q 0 0) 0 0 66 [.ref 120, .int x1, .int x2, .int x3, .int x4] (r.toList ++ []) h')) :
    mx_Go l (mx_rm (d + 1) 0 0) mX12_newLoad (mx_Z Q 0 0) 0 0 58 [.ref 120, .int x1, .int x2, .int x3, .int x4] [] (sk0 c, I) := by
  refine g_aload_n dX12_newLoad_58 rfl rfl ?_
  refine g_iload dX12_newLoad_59 rfl ?_
  refine g_iconst (v := 5) dX12_newLoad_61 (by decide) ?_
  refine g_iconst (v := (-1)) dX12_newLoad_62 (by decide) ?_
  exact s_callV (M' := mX12_loads) (As := [.int x4, .int 5, .int (-1)]) (st := []) dX12_newLoad_63 lm_X12_54 ovX12_loads (h := (sk0 c, I)) (sk_120 _) (show vwCl[12]? = some _ from rfl) rfl (by simp [Value.category]) (by decide) rfl (k1)
set_option maxRecDepth 10000 in
set_option maxHeartbeats 1000000 in
theorem sg_X12_newLoad_66 {l : Launch} {d : Nat} {Q : Option Value → mx_H → Prop} {c : Nat} {I : mx_I} (x1 : Int32) (x2 : Int32) (x3 : Int32) (x4 : Int32)
    (k1 : mx_K1 l mX12_loads d [.ref 120, .int x4, .int 6, .int (-1)] (sk0 c, I) (fun r h' => mx_Go l (mx_rm (d + 1) 0 0) mX12_newLoad (mx_Z Q 0 0) 0 0 75 [.ref 120, .int x1, .int x2, .int x3, .int x4] (r.toList ++ []) h')) :
    mx_Go l (mx_rm (d + 1) 0 0) mX12_newLoad (mx_Z Q 0 0) 0 0 66 [.ref 120, .int x1, .int x2, .int x3, .int x4] [] (sk0 c, I) := by
  refine g_aload_n dX12_newLoad_66 rfl rfl ?_
  refine g_iload dX12_newLoad_67 rfl ?_
  refine g_bipush (v := 6) dX12_newLoad_69 (by decide) ?_
  refine g_iconst (v := (-1)) dX12_newLoad_71 (by decide) ?_
  exact s_callV (M' := mX12_loads) (As := [.int x4, .int 6, .int (-1)]) (st := []) dX12_newLoad_72 lm_X12_54 ovX12_loads (h := (sk0 c, I)) (sk_120 _) (show vwCl[12]? = some _ from rfl) rfl (by simp [Value.category]) (by decide) rfl (k1)
set_option maxRecDepth 10000 in
set_option maxHeartbeats 1000000 in
theorem sg_X12_newLoad_75 {l : Launch} {d : Nat} {Q : Option Value → mx_H → Prop} {c : Nat} {I : mx_I} (x1 : Int32) (x2 : Int32) (x3 : Int32) (x4 : Int32)
    (k1 : mx_K1 l mX12_loads d [.ref 120, .int x4, .int 7, .int 0] (sk0 c, I) (fun r h' => mx_Go l (mx_rm (d + 1) 0 0) mX12_newLoad (mx_Z Q 0 0) 0 0 84 [.ref 120, .int x1, .int x2, .int x3, .int x4] (r.toList ++ []) h')) :
    mx_Go l (mx_rm (d + 1) 0 0) mX12_newLoad (mx_Z Q 0 0) 0 0 75 [.ref 120, .int x1, .int x2, .int x3, .int x4] [] (sk0 c, I) := by
  refine g_aload_n dX12_newLoad_75 rfl rfl ?_
  refine g_iload dX12_newLoad_76 rfl ?_
  refine g_bipush (v := 7) dX12_newLoad_78 (by decide) ?_
  refine g_iconst (v := 0) dX12_newLoad_80 (by decide) ?_
  exact s_callV (M' := mX12_loads) (As := [.int x4, .int 7, .int 0]) (st := []) dX12_newLoad_81 lm_X12_54 ovX12_loads (h := (sk0 c, I)) (sk_120 _) (show vwCl[12]? = some _ from rfl) rfl (by simp [Value.category]) (by decide) rfl (k1)
set_option maxRecDepth 10000 in
set_option maxHeartbeats 1000000 in
theorem sg_X12_newLoad_84 {l : Launch} {d : Nat} {Q : Option Value → mx_H → Prop} {c : Nat} {I : mx_I} (x1 : Int32) (x2 : Int32) (x3 : Int32) (x4 : Int32)
    (k1 : mx_K1 l mX12_loads d [.ref 120, .int x4, .int 8, .int 0] (sk0 c, I) (fun r h' => mx_Go l (mx_rm (d + 1) 0 0) mX12_newLoad (mx_Z Q 0 0) 0 0 93 [.ref 120, .int x1, .int x2, .int x3, .int x4] (r.toList ++ []) h')) :
    mx_Go l (mx_rm (d + 1) 0 0) mX12_newLoad (mx_Z Q 0 0) 0 0 84 [.ref 120, .int x1, .int x2, .int x3, .int x4] [] (sk0 c, I) := by
  refine g_aload_n dX12_newLoad_84 rfl rfl ?_
  refine g_iload dX12_newLoad_85 rfl ?_
  refine g_bipush (v := 8) dX12_newLoad_87 (by decide) ?_
  refine g_iconst (v := 0) dX12_newLoad_89 (by decide) ?_
  exact s_callV (M' := mX12_loads) (As := [.int x4, .int 8, .int 0]) (st := []) dX12_newLoad_90 lm_X12_54 ovX12_loads (h := (sk0 c, I)) (sk_120 _) (show vwCl[12]? = some _ from rfl) rfl (by simp [Value.category]) (by decide) rfl (k1)
set_option maxRecDepth 10000 in
set_option maxHeartbeats 1000000 in
theorem sg_X12_newLoad_93 {l : Launch} {d : Nat} {Q : Option Value → mx_H → Prop} {c : Nat} {I : mx_I} (x1 : Int32) (x2 : Int32) (x3 : Int32) (x4 : Int32)
    (k1 : mx_K1 l mX12_loads d [.ref 120, .int x4, .int 9, .int 0] (sk0 c, I) (fun r h' => mx_Go l (mx_rm (d + 1) 0 0) mX12_newLoad (mx_Z Q 0 0) 0 0 102 [.ref 120, .int x1, .int x2, .int x3, .int x4] (r.toList ++ []) h')) :
    mx_Go l (mx_rm (d + 1) 0 0) mX12_newLoad (mx_Z Q 0 0) 0 0 93 [.ref 120, .int x1, .int x2, .int x3, .int x4] [] (sk0 c, I) := by
  refine g_aload_n dX12_newLoad_93 rfl rfl ?_
  refine g_iload dX12_newLoad_94 rfl ?_
  refine g_bipush (v := 9) dX12_newLoad_96 (by decide) ?_
  refine g_iconst (v := 0) dX12_newLoad_98 (by decide) ?_
  exact s_callV (M' := mX12_loads) (As := [.int x4, .int 9, .int 0]) (st := []) dX12_newLoad_99 lm_X12_54 ovX12_loads (h := (sk0 c, I)) (sk_120 _) (show vwCl[12]? = some _ from rfl) rfl (by simp [Value.category]) (by decide) rfl (k1)
set_option maxRecDepth 10000 in
set_option maxHeartbeats 1000000 in
theorem sg_X12_newLoad_102 {l : Launch} {d : Nat} {Q : Option Value → mx_H → Prop} {c : Nat} {I : mx_I} (x1 : Int32) (x2 : Int32) (x3 : Int32) (x4 : Int32)
    (q1 : Q none (sk0 c, I)) :
    mx_Go l (mx_rm (d + 1) 0 0) mX12_newLoad (mx_Z Q 0 0) 0 0 102 [.ref 120, .int x1, .int x2, .int x3, .int x4] [] (sk0 c, I) := by
  exact g_vret rfl dX12_newLoad_102 rfl (Nat.le_refl _) (q1)
set_option maxRecDepth 10000 in
set_option maxHeartbeats 1000000 in
theorem sn_X12_load {l : Launch} {d : Nat} {Q : Option Value → mx_H → Prop} {c : Nat} {I : mx_I} (a1 : Int32) (a2 : Int32) (a3 : Int32)
    (k1 : mx_K1 l mX12_isIn d [.int a1, .int 1, .int 99] (sk0 c, I) (fun r h' => mx_Go l (mx_rm (d + 1) 0 0) mX12_load (mx_Z Q 0 0) 0 0 7 [.ref 120, .int a1, .int a2, .int a3] (r.toList ++ []) h')) :
    mx_Spec l mX12_load (d + 1) 0 0 [.ref 120, .int a1, .int a2, .int a3] (sk0 c, I) Q := by
  refine mx_enter rfl (by simp [Value.category]) (Nat.le_of_ble_eq_true rfl) ?_
  change mx_Go l (mx_rm (d + 1) 0 0) mX12_load (mx_Z Q 0 0) 0 0 0 [.ref 120, .int a1, .int a2, .int a3] [] (sk0 c, I)
  refine g_iload_n dX12_load_0 rfl rfl ?_
  refine g_iconst (v := 1) dX12_load_1 (by decide) ?_
  refine g_bipush (v := 99) dX12_load_2 (by decide) ?_
  exact s_callS (M' := mX12_isIn) (As := [.int a1, .int 1, .int 99]) (st := []) dX12_load_4 lm_X12_50 okX12_isIn osX12_isIn (by simp [Value.category]) (by decide) rfl (k1)
set_option maxRecDepth 10000 in
set_option maxHeartbeats 1000000 in
theorem sg_X12_load_7 {l : Launch} {d : Nat} {Q : Option Value → mx_H → Prop} {c : Nat} {I : mx_I} (x1 : Int32) (x2 : Int32) (x3 : Int32) (x4 : Int32)
    (q1 : (x4 = 0) → Q (some (.int (-1))) (sk0 c, I))
    (k2 : (¬ x4 = 0) → mx_K1 l mX12_isEnd d [.ref 120, .int x2] (sk0 c, I) (fun r h' => mx_Go l (mx_rm (d + 1) 0 0) mX12_load (mx_Z Q 0 0) 0 0 15 [.ref 120, .int x1, .int x2, .int x3] (r.toList ++ []) h')) :
    mx_Go l (mx_rm (d + 1) 0 0) mX12_load (mx_Z Q 0 0) 0 0 7 [.ref 120, .int x1, .int x2, .int x3] [.int x4] (sk0 c, I) := by
  refine g_if_eq (tgt := 37) dX12_load_7 (by decide) (fun c1 => ?_) (fun c2 => ?_)
  · skip
    refine g_iconst (v := (-1)) dX12_load_37 (by decide) ?_
    exact g_iret rfl dX12_load_38 rfl (Nat.le_refl _) (q1 c1)
  · skip
    refine g_aload_n dX12_load_10 rfl rfl ?_
    refine g_iload_n dX12_load_11 rfl rfl ?_
    exact s_callV (M' := mX12_isEnd) (As := [.int x2]) (st := []) dX12_load_12 lm_X12_58 ovX12_isEnd (h := (sk0 c, I)) (sk_120 _) (show vwCl[12]? = some _ from rfl) rfl (by simp [Value.category]) (by decide) rfl (k2 c2)
set_option maxRecDepth 10000 in
set_option maxHeartbeats 1000000 in
theorem sg_X12_load_15 {l : Launch} {d : Nat} {Q : Option Value → mx_H → Prop} {c : Nat} {I : mx_I} (x1 : Int32) (x2 : Int32) (x3 : Int32) (x4 : Int32)
    (q1 : (x4 = 0) → Q (some (.int (-1))) (sk0 c, I))
    (k2 : (¬ x4 = 0) → mx_K1 l mX12_isHour d [.ref 120, .int x3] (sk0 c, I) (fun r h' => mx_Go l (mx_rm (d + 1) 0 0) mX12_load (mx_Z Q 0 0) 0 0 23 [.ref 120, .int x1, .int x2, .int x3] (r.toList ++ []) h')) :
    mx_Go l (mx_rm (d + 1) 0 0) mX12_load (mx_Z Q 0 0) 0 0 15 [.ref 120, .int x1, .int x2, .int x3] [.int x4] (sk0 c, I) := by
  refine g_if_eq (tgt := 37) dX12_load_15 (by decide) (fun c1 => ?_) (fun c2 => ?_)
  · skip
    refine g_iconst (v := (-1)) dX12_load_37 (by decide) ?_
    exact g_iret rfl dX12_load_38 rfl (Nat.le_refl _) (q1 c1)
  · skip
    refine g_aload_n dX12_load_18 rfl rfl ?_
    refine g_iload_n dX12_load_19 rfl rfl ?_
    exact s_callV (M' := mX12_isHour) (As := [.int x3]) (st := []) dX12_load_20 lm_X12_62 ovX12_isHour (h := (sk0 c, I)) (sk_120 _) (show vwCl[12]? = some _ from rfl) rfl (by simp [Value.category]) (by decide) rfl (k2 c2)
set_option maxRecDepth 10000 in
set_option maxHeartbeats 1000000 in
theorem sg_X12_load_23 {l : Launch} {d : Nat} {Q : Option Value → mx_H → Prop} {c : Nat} {I : mx_I} (x1 : Int32) (x2 : Int32) (x3 : Int32) (x4 : Int32)
    (q1 : (x4 = 0) → Q (some (.int (-1))) (sk0 c, I))
    (k2 : (¬ x4 = 0) → (¬ (I 121 2) = 30) → mx_K1 l mX12_newLoad d [.ref 120, .int x1, .int x2, .int x3] (sk0 c, I) (fun r h' => mx_Go l (mx_rm (d + 1) 0 0) mX12_load (mx_Z Q 0 0) 0 0 46 [.ref 120, .int x1, .int x2, .int x3] (r.toList ++ []) h'))
    (q3 : (¬ x4 = 0) → ((I 121 2) = 30) → Q (some (.int (-1))) (sk0 c, I)) :
    mx_Go l (mx_rm (d + 1) 0 0) mX12_load (mx_Z Q 0 0) 0 0 23 [.ref 120, .int x1, .int x2, .int x3] [.int x4] (sk0 c, I) := by
  refine g_if_eq (tgt := 37) dX12_load_23 (by decide) (fun c1 => ?_) (fun c2 => ?_)
  · skip
    refine g_iconst (v := (-1)) dX12_load_37 (by decide) ?_
    exact g_iret rfl dX12_load_38 rfl (Nat.le_refl _) (q1 c1)
  · skip
    refine g_aload_n dX12_load_26 rfl rfl ?_
    refine rg_X12_0 (r := 121) dX12_load_27 lf_X12_7 (sk_120 _) rfl ?_
    refine g_iconst (v := 2) dX12_load_30 (by decide) ?_
    refine s_iald (j := 2) (v := (I 121 2)) dX12_load_31 (sk_121 _) (by unfold vp_in; decide) (by decide) rfl ?_
    refine g_bipush (v := 30) dX12_load_32 (by decide) ?_
    refine g_icmp_ne (tgt := 39) dX12_load_34 (by decide) (fun c3 => ?_) (fun c4 => ?_)
    · skip
      refine g_aload_n dX12_load_39 rfl rfl ?_
      refine g_iload_n dX12_load_40 rfl rfl ?_
      refine g_iload_n dX12_load_41 rfl rfl ?_
      refine g_iload_n dX12_load_42 rfl rfl ?_
      exact s_callV (M' := mX12_newLoad) (As := [.int x1, .int x2, .int x3]) (st := []) dX12_load_43 lm_X12_65 ovX12_newLoad (h := (sk0 c, I)) (sk_120 _) (show vwCl[12]? = some _ from rfl) rfl (by simp [Value.category]) (by decide) rfl (k2 c2 c3)
    · skip
      refine g_iconst (v := (-1)) dX12_load_37 (by decide) ?_
      exact g_iret rfl dX12_load_38 rfl (Nat.le_refl _) (q3 c2 c4)
set_option maxRecDepth 10000 in
set_option maxHeartbeats 1000000 in
theorem sg_X12_load_46 {l : Launch} {d : Nat} {Q : Option Value → mx_H → Prop} {c : Nat} {I : mx_I} (x1 : Int32) (x2 : Int32) (x3 : Int32)
    (q1 : Q (some (.int ((I 121 2) - 1))) (sk0 c, I)) :
    mx_Go l (mx_rm (d + 1) 0 0) mX12_load (mx_Z Q 0 0) 0 0 46 [.ref 120, .int x1, .int x2, .int x3] [] (sk0 c, I) := by
  refine g_aload_n dX12_load_46 rfl rfl ?_
  refine rg_X12_0 (r := 121) dX12_load_47 lf_X12_7 (sk_120 _) rfl ?_
  refine g_iconst (v := 2) dX12_load_50 (by decide) ?_
  refine s_iald (j := 2) (v := (I 121 2)) dX12_load_51 (sk_121 _) (by unfold vp_in; decide) (by decide) rfl ?_
  refine g_iconst (v := 1) dX12_load_52 (by decide) ?_
  refine g_isub dX12_load_53 ?_
  exact g_iret rfl dX12_load_54 rfl (Nat.le_refl _) (q1)
set_option maxRecDepth 10000 in
set_option maxHeartbeats 1000000 in
theorem sn_X12_fetch {l : Launch} {d : Nat} {Q : Option Value → mx_H → Prop} {c : Nat} {I : mx_I} (a1 : Int32) (a2 : Int32) (a3 : Int32)
    (k1 : mx_K1 l mX12_isLoad d [.ref 120, .int a1] (sk0 c, I) (fun r h' => mx_Go l (mx_rm (d + 1) 0 0) mX12_fetch (mx_Z Q 0 0) 0 0 5 [.ref 120, .int a1, .int a2, .int a3] (r.toList ++ []) h')) :
    mx_Spec l mX12_fetch (d + 1) 0 0 [.ref 120, .int a1, .int a2, .int a3] (sk0 c, I) Q := by
  refine mx_enter rfl (by simp [Value.category]) (Nat.le_of_ble_eq_true rfl) ?_
  change mx_Go l (mx_rm (d + 1) 0 0) mX12_fetch (mx_Z Q 0 0) 0 0 0 [.ref 120, .int a1, .int a2, .int a3] [] (sk0 c, I)
  refine g_aload_n dX12_fetch_0 rfl rfl ?_
  refine g_iload_n dX12_fetch_1 rfl rfl ?_
  exact s_callV (M' := mX12_isLoad) (As := [.int a1]) (st := []) dX12_fetch_2 lm_X12_68 ovX12_isLoad (h := (sk0 c, I)) (sk_120 _) (show vwCl[12]? = some _ from rfl) rfl (by simp [Value.category]) (by decide) rfl (k1)
set_option maxRecDepth 10000 in
set_option maxHeartbeats 1000000 in
theorem sg_X12_fetch_5 {l : Launch} {d : Nat} {Q : Option Value → mx_H → Prop} {c : Nat} {I : mx_I} (x1 : Int32) (x2 : Int32) (x3 : Int32) (x4 : Int32)
    (q1 : (x4 = 0) → Q (some (.int 0)) (sk0 c, I))
    (k2 : (¬ x4 = 0) → (x2 = (-1)) → mx_K1 l mX12_loads d [.ref 120, .int x1, .int 3, .int x2] (sk0 c, I) (fun r h' => mx_Go l (mx_rm (d + 1) 0 0) mX12_fetch (mx_Z Q 0 0) 0 0 38 [.ref 120, .int x1, .int x2, .int x3] (r.toList ++ []) h'))
    (k3 : (¬ x4 = 0) → (¬ x2 = (-1)) → mx_K1 l mX12_isEnd d [.ref 120, .int x2] (sk0 c, I) (fun r h' => mx_Go l (mx_rm (d + 1) 0 0) mX12_fetch (mx_Z Q 0 0) 0 0 18 [.ref 120, .int x1, .int x2, .int x3] (r.toList ++ []) h')) :
    mx_Go l (mx_rm (d + 1) 0 0) mX12_fetch (mx_Z Q 0 0) 0 0 5 [.ref 120, .int x1, .int x2, .int x3] [.int x4] (sk0 c, I) := by
  refine g_if_eq (tgt := 29) dX12_fetch_5 (by decide) (fun c1 => ?_) (fun c2 => ?_)
  · skip
    refine g_iconst (v := 0) dX12_fetch_29 (by decide) ?_
    exact g_zret (ty := .boolean) rfl rfl dX12_fetch_30 rfl (Nat.le_refl _) (q1 c1)
  · skip
    refine g_iload_n dX12_fetch_8 rfl rfl ?_
    refine g_iconst (v := (-1)) dX12_fetch_9 (by decide) ?_
    refine g_icmp_eq (tgt := 31) dX12_fetch_10 (by decide) (fun c3 => ?_) (fun c4 => ?_)
    · skip
      refine g_aload_n dX12_fetch_31 rfl rfl ?_
      refine g_iload_n dX12_fetch_32 rfl rfl ?_
      refine g_iconst (v := 3) dX12_fetch_33 (by decide) ?_
      refine g_iload_n dX12_fetch_34 rfl rfl ?_
      exact s_callV (M' := mX12_loads) (As := [.int x1, .int 3, .int x2]) (st := []) dX12_fetch_35 lm_X12_54 ovX12_loads (h := (sk0 c, I)) (sk_120 _) (show vwCl[12]? = some _ from rfl) rfl (by simp [Value.category]) (by decide) rfl (k2 c2 c3)
    · skip
      refine g_aload_n dX12_fetch_13 rfl rfl ?_
      refine g_iload_n dX12_fetch_14 rfl rfl ?_
      exact s_callV (M' := mX12_isEnd) (As := [.int x2]) (st := []) dX12_fetch_15 lm_X12_58 ovX12_isEnd (h := (sk0 c, I)) (sk_120 _) (show vwCl[12]? = some _ from rfl) rfl (by simp [Value.category]) (by decide) rfl (k3 c2 c4)
set_option maxRecDepth 10000 in
set_option maxHeartbeats 1000000 in
theorem sg_X12_fetch_38 {l : Launch} {d : Nat} {Q : Option Value → mx_H → Prop} {c : Nat} {I : mx_I} (x1 : Int32) (x2 : Int32) (x3 : Int32)
    (k1 : (¬ x2 = (-1)) → mx_K1 l mX12_loads d [.ref 120, .int x1, .int 4, .int x3] (sk0 c, I) (fun r h' => mx_Go l (mx_rm (d + 1) 0 0) mX12_fetch (mx_Z Q 0 0) 0 0 54 [.ref 120, .int x1, .int x2, .int x3] (r.toList ++ []) h'))
    (k2 : (x2 = (-1)) → mx_K1 l mX12_loads d [.ref 120, .int x1, .int 4, .int (-1)] (sk0 c, I) (fun r h' => mx_Go l (mx_rm (d + 1) 0 0) mX12_fetch (mx_Z Q 0 0) 0 0 54 [.ref 120, .int x1, .int x2, .int x3] (r.toList ++ []) h')) :
    mx_Go l (mx_rm (d + 1) 0 0) mX12_fetch (mx_Z Q 0 0) 0 0 38 [.ref 120, .int x1, .int x2, .int x3] [] (sk0 c, I) := by
  refine g_aload_n dX12_fetch_38 rfl rfl ?_
  refine g_iload_n dX12_fetch_39 rfl rfl ?_
  refine g_iconst (v := 4) dX12_fetch_40 (by decide) ?_
  refine g_iload_n dX12_fetch_41 rfl rfl ?_
  refine g_iconst (v := (-1)) dX12_fetch_42 (by decide) ?_
  refine g_icmp_ne (tgt := 50) dX12_fetch_43 (by decide) (fun c1 => ?_) (fun c2 => ?_)
  · skip
    refine g_iload_n dX12_fetch_50 rfl rfl ?_
    exact s_callV (M' := mX12_loads) (As := [.int x1, .int 4, .int x3]) (st := []) dX12_fetch_51 lm_X12_54 ovX12_loads (h := (sk0 c, I)) (sk_120 _) (show vwCl[12]? = some _ from rfl) rfl (by simp [Value.category]) (by decide) rfl (k1 c1)
  · skip
    refine g_iconst (v := (-1)) dX12_fetch_46 (by decide) ?_
    refine g_goto (tgt := 51) dX12_fetch_47 (by decide) ?_
    exact s_callV (M' := mX12_loads) (As := [.int x1, .int 4, .int (-1)]) (st := []) dX12_fetch_51 lm_X12_54 ovX12_loads (h := (sk0 c, I)) (sk_120 _) (show vwCl[12]? = some _ from rfl) rfl (by simp [Value.category]) (by decide) rfl (k2 c2)
set_option maxRecDepth 10000 in
set_option maxHeartbeats 1000000 in
theorem sg_X12_fetch_18 {l : Launch} {d : Nat} {Q : Option Value → mx_H → Prop} {c : Nat} {I : mx_I} (x1 : Int32) (x2 : Int32) (x3 : Int32) (x4 : Int32)
    (q1 : (x4 = 0) → Q (some (.int 0)) (sk0 c, I))
    (k2 : (¬ x4 = 0) → mx_K1 l mX12_isHour d [.ref 120, .int x3] (sk0 c, I) (fun r h' => mx_Go l (mx_rm (d + 1) 0 0) mX12_fetch (mx_Z Q 0 0) 0 0 26 [.ref 120, .int x1, .int x2, .int x3] (r.toList ++ []) h')) :
    mx_Go l (mx_rm (d + 1) 0 0) mX12_fetch (mx_Z Q 0 0) 0 0 18 [.ref 120, .int x1, .int x2, .int x3] [.int x4] (sk0 c, I) := by
  refine g_if_eq (tgt := 29) dX12_fetch_18 (by decide) (fun c1 => ?_) (fun c2 => ?_)
  · skip
    refine g_iconst (v := 0) dX12_fetch_29 (by decide) ?_
    exact g_zret (ty := .boolean) rfl rfl dX12_fetch_30 rfl (Nat.le_refl _) (q1 c1)
  · skip
    refine g_aload_n dX12_fetch_21 rfl rfl ?_
    refine g_iload_n dX12_fetch_22 rfl rfl ?_
    exact s_callV (M' := mX12_isHour) (As := [.int x3]) (st := []) dX12_fetch_23 lm_X12_62 ovX12_isHour (h := (sk0 c, I)) (sk_120 _) (show vwCl[12]? = some _ from rfl) rfl (by simp [Value.category]) (by decide) rfl (k2 c2)
set_option maxRecDepth 10000 in
set_option maxHeartbeats 1000000 in
theorem sg_X12_fetch_54 {l : Launch} {d : Nat} {Q : Option Value → mx_H → Prop} {c : Nat} {I : mx_I} (x1 : Int32) (x2 : Int32) (x3 : Int32)
    (q1 : Q (some (.int 1)) (sk0 c, I)) :
    mx_Go l (mx_rm (d + 1) 0 0) mX12_fetch (mx_Z Q 0 0) 0 0 54 [.ref 120, .int x1, .int x2, .int x3] [] (sk0 c, I) := by
  refine g_iconst (v := 1) dX12_fetch_54 (by decide) ?_
  exact g_zret (ty := .boolean) rfl rfl dX12_fetch_55 rfl (Nat.le_refl _) (q1)
set_option maxRecDepth 10000 in
set_option maxHeartbeats 1000000 in
theorem sg_X12_fetch_26 {l : Launch} {d : Nat} {Q : Option Value → mx_H → Prop} {c : Nat} {I : mx_I} (x1 : Int32) (x2 : Int32) (x3 : Int32) (x4 : Int32)
    (k1 : (¬ x4 = 0) → mx_K1 l mX12_loads d [.ref 120, .int x1, .int 3, .int x2] (sk0 c, I) (fun r h' => mx_Go l (mx_rm (d + 1) 0 0) mX12_fetch (mx_Z Q 0 0) 0 0 38 [.ref 120, .int x1, .int x2, .int x3] (r.toList ++ []) h'))
    (q2 : (x4 = 0) → Q (some (.int 0)) (sk0 c, I)) :
    mx_Go l (mx_rm (d + 1) 0 0) mX12_fetch (mx_Z Q 0 0) 0 0 26 [.ref 120, .int x1, .int x2, .int x3] [.int x4] (sk0 c, I) := by
  refine g_if_ne (tgt := 31) dX12_fetch_26 (by decide) (fun c1 => ?_) (fun c2 => ?_)
  · skip
    refine g_aload_n dX12_fetch_31 rfl rfl ?_
    refine g_iload_n dX12_fetch_32 rfl rfl ?_
    refine g_iconst (v := 3) dX12_fetch_33 (by decide) ?_
    refine g_iload_n dX12_fetch_34 rfl rfl ?_
    exact s_callV (M' := mX12_loads) (As := [.int x1, .int 3, .int x2]) (st := []) dX12_fetch_35 lm_X12_54 ovX12_loads (h := (sk0 c, I)) (sk_120 _) (show vwCl[12]? = some _ from rfl) rfl (by simp [Value.category]) (by decide) rfl (k1 c1)
  · skip
    refine g_iconst (v := 0) dX12_fetch_29 (by decide) ?_
    exact g_zret (ty := .boolean) rfl rfl dX12_fetch_30 rfl (Nat.le_refl _) (q2 c2)
set_option maxRecDepth 10000 in
set_option maxHeartbeats 1000000 in
theorem sn_X12_isCrossing {l : Launch} {d : Nat} {Q : Option Value → mx_H → Prop} {c : Nat} {I : mx_I} (a1 : Int32) (a2 : Int32) (a3 : Int32)
    (k1 : mx_K1 l mX12_isIn d [.int a1, .int 0, .int ((I 121 0) - 1)] (sk0 c, I) (fun r h' => mx_Go l (mx_rm (d + 1) 0 0) mX12_isCrossing (mx_Z Q 0 0) 0 0 13 [.ref 120, .int a1, .int a2, .int a3] (r.toList ++ []) h')) :
    mx_Spec l mX12_isCrossing (d + 1) 0 0 [.ref 120, .int a1, .int a2, .int a3] (sk0 c, I) Q := by
  refine mx_enter rfl (by simp [Value.category]) (Nat.le_of_ble_eq_true rfl) ?_
  change mx_Go l (mx_rm (d + 1) 0 0) mX12_isCrossing (mx_Z Q 0 0) 0 0 0 [.ref 120, .int a1, .int a2, .int a3] [] (sk0 c, I)
  refine g_iload_n dX12_isCrossing_0 rfl rfl ?_
  refine g_iconst (v := 0) dX12_isCrossing_1 (by decide) ?_
  refine g_aload_n dX12_isCrossing_2 rfl rfl ?_
  refine rg_X12_0 (r := 121) dX12_isCrossing_3 lf_X12_7 (sk_120 _) rfl ?_
  refine g_iconst (v := 0) dX12_isCrossing_6 (by decide) ?_
  refine s_iald (j := 0) (v := (I 121 0)) dX12_isCrossing_7 (sk_121 _) (by unfold vp_in; decide) (by decide) rfl ?_
  refine g_iconst (v := 1) dX12_isCrossing_8 (by decide) ?_
  refine g_isub dX12_isCrossing_9 ?_
  exact s_callS (M' := mX12_isIn) (As := [.int a1, .int 0, .int ((I 121 0) - 1)]) (st := []) dX12_isCrossing_10 lm_X12_50 okX12_isIn osX12_isIn (by simp [Value.category]) (by decide) rfl (k1)
set_option maxRecDepth 10000 in
set_option maxHeartbeats 1000000 in
theorem sg_X12_isCrossing_13 {l : Launch} {d : Nat} {Q : Option Value → mx_H → Prop} {c : Nat} {I : mx_I} (x1 : Int32) (x2 : Int32) (x3 : Int32) (x4 : Int32)
    (q1 : (x4 = 0) → Q (some (.int 0)) (sk0 c, I))
    (k2 : (¬ x4 = 0) → mx_K1 l mX12_isIn d [.int x2, .int 0, .int 1] (sk0 c, I) (fun r h' => mx_Go l (mx_rm (d + 1) 0 0) mX12_isCrossing (mx_Z Q 0 0) 0 0 22 [.ref 120, .int x1, .int x2, .int x3] (r.toList ++ []) h')) :
    mx_Go l (mx_rm (d + 1) 0 0) mX12_isCrossing (mx_Z Q 0 0) 0 0 13 [.ref 120, .int x1, .int x2, .int x3] [.int x4] (sk0 c, I) := by
  refine g_if_eq (tgt := 39) dX12_isCrossing_13 (by decide) (fun c1 => ?_) (fun c2 => ?_)
  · skip
    refine g_iconst (v := 0) dX12_isCrossing_39 (by decide) ?_
    exact g_zret (ty := .boolean) rfl rfl dX12_isCrossing_40 rfl (Nat.le_refl _) (q1 c1)
  · skip
    refine g_iload_n dX12_isCrossing_16 rfl rfl ?_
    refine g_iconst (v := 0) dX12_isCrossing_17 (by decide) ?_
    refine g_iconst (v := 1) dX12_isCrossing_18 (by decide) ?_
    exact s_callS (M' := mX12_isIn) (As := [.int x2, .int 0, .int 1]) (st := []) dX12_isCrossing_19 lm_X12_50 okX12_isIn osX12_isIn (by simp [Value.category]) (by decide) rfl (k2 c2)
set_option maxRecDepth 10000 in
set_option maxHeartbeats 1000000 in
theorem sg_X12_isCrossing_22 {l : Launch} {d : Nat} {Q : Option Value → mx_H → Prop} {c : Nat} {I : mx_I} (x1 : Int32) (x2 : Int32) (x3 : Int32) (x4 : Int32)
    (q1 : (x4 = 0) → Q (some (.int 0)) (sk0 c, I))
    (k2 : (¬ x4 = 0) → mx_K1 l mX12_isIn d [.int x3, .int 0, .int 99] (sk0 c, I) (fun r h' => mx_Go l (mx_rm (d + 1) 0 0) mX12_isCrossing (mx_Z Q 0 0) 0 0 32 [.ref 120, .int x1, .int x2, .int x3] (r.toList ++ []) h')) :
    mx_Go l (mx_rm (d + 1) 0 0) mX12_isCrossing (mx_Z Q 0 0) 0 0 22 [.ref 120, .int x1, .int x2, .int x3] [.int x4] (sk0 c, I) := by
  refine g_if_eq (tgt := 39) dX12_isCrossing_22 (by decide) (fun c1 => ?_) (fun c2 => ?_)
  · skip
    refine g_iconst (v := 0) dX12_isCrossing_39 (by decide) ?_
    exact g_zret (ty := .boolean) rfl rfl dX12_isCrossing_40 rfl (Nat.le_refl _) (q1 c1)
  · skip
    refine g_iload_n dX12_isCrossing_25 rfl rfl ?_
    refine g_iconst (v := 0) dX12_isCrossing_26 (by decide) ?_
    refine g_bipush (v := 99) dX12_isCrossing_27 (by decide) ?_
    exact s_callS (M' := mX12_isIn) (As := [.int x3, .int 0, .int 99]) (st := []) dX12_isCrossing_29 lm_X12_50 okX12_isIn osX12_isIn (by simp [Value.category]) (by decide) rfl (k2 c2)
set_option maxRecDepth 10000 in
set_option maxHeartbeats 1000000 in
theorem sg_X12_isCrossing_32 {l : Launch} {d : Nat} {Q : Option Value → mx_H → Prop} {c : Nat} {I : mx_I} (x1 : Int32) (x2 : Int32) (x3 : Int32) (x4 : Int32)
    (q1 : (x4 = 0) → Q (some (.int 0)) (sk0 c, I))
    (q2 : (¬ x4 = 0) → Q (some (.int 1)) (sk0 c, I)) :
    mx_Go l (mx_rm (d + 1) 0 0) mX12_isCrossing (mx_Z Q 0 0) 0 0 32 [.ref 120, .int x1, .int x2, .int x3] [.int x4] (sk0 c, I) := by
  refine g_if_eq (tgt := 39) dX12_isCrossing_32 (by decide) (fun c1 => ?_) (fun c2 => ?_)
  · skip
    refine g_iconst (v := 0) dX12_isCrossing_39 (by decide) ?_
    exact g_zret (ty := .boolean) rfl rfl dX12_isCrossing_40 rfl (Nat.le_refl _) (q1 c1)
  · skip
    refine g_iconst (v := 1) dX12_isCrossing_35 (by decide) ?_
    refine g_goto (tgt := 40) dX12_isCrossing_36 (by decide) ?_
    exact g_zret (ty := .boolean) rfl rfl dX12_isCrossing_40 rfl (Nat.le_refl _) (q2 c2)
set_option maxRecDepth 10000 in
set_option maxHeartbeats 1000000 in
theorem sn_X12_crosser {l : Launch} {d : Nat} {Q : Option Value → mx_H → Prop} {c : Nat} {I : mx_I} (a1 : Int32) (a2 : Int32) (a3 : Int32) (a4 : Int32) (a5 : Int32) (a6 : Int32)
    (k1 : mx_K1 l mX12_isHour d [.ref 120, .int a1] (sk0 c, I) (fun r h' => mx_Go l (mx_rm (d + 1) 0 0) mX12_crosser (mx_Z Q 0 0) 0 0 5 [.ref 120, .int a1, .int a2, .int a3, .int a4, .int a5, .int a6, .retAddr 0, .retAddr 0] (r.toList ++ []) h')) :
    mx_Spec l mX12_crosser (d + 1) 0 0 [.ref 120, .int a1, .int a2, .int a3, .int a4, .int a5, .int a6] (sk0 c, I) Q := by
  refine mx_enter rfl (by simp [Value.category]) (Nat.le_of_ble_eq_true rfl) ?_
  change mx_Go l (mx_rm (d + 1) 0 0) mX12_crosser (mx_Z Q 0 0) 0 0 0 [.ref 120, .int a1, .int a2, .int a3, .int a4, .int a5, .int a6, .retAddr 0, .retAddr 0] [] (sk0 c, I)
  refine g_aload_n dX12_crosser_0 rfl rfl ?_
  refine g_iload_n dX12_crosser_1 rfl rfl ?_
  exact s_callV (M' := mX12_isHour) (As := [.int a1]) (st := []) dX12_crosser_2 lm_X12_62 ovX12_isHour (h := (sk0 c, I)) (sk_120 _) (show vwCl[12]? = some _ from rfl) rfl (by simp [Value.category]) (by decide) rfl (k1)
set_option maxRecDepth 10000 in
set_option maxHeartbeats 1000000 in
theorem sg_X12_crosser_5 {l : Launch} {d : Nat} {Q : Option Value → mx_H → Prop} {c : Nat} {I : mx_I} (x1 : Int32) (x2 : Int32) (x3 : Int32) (x4 : Int32) (x5 : Int32) (x6 : Int32) (x7 : Int32)
    (q1 : (x7 = 0) → Q (some (.int (-1))) (sk0 c, I))
    (k2 : (¬ x7 = 0) → mx_K1 l mX12_isCrossing d [.ref 120, .int x2, .int x3, .int x4] (sk0 c, I) (fun r h' => mx_Go l (mx_rm (d + 1) 0 0) mX12_crosser (mx_Z Q 0 0) 0 0 16 [.ref 120, .int x1, .int x2, .int x3, .int x4, .int x5, .int x6, .retAddr 0, .retAddr 0] (r.toList ++ []) h')) :
    mx_Go l (mx_rm (d + 1) 0 0) mX12_crosser (mx_Z Q 0 0) 0 0 5 [.ref 120, .int x1, .int x2, .int x3, .int x4, .int x5, .int x6, .retAddr 0, .retAddr 0] [.int x7] (sk0 c, I) := by
  refine g_if_eq (tgt := 52) dX12_crosser_5 (by decide) (fun c1 => ?_) (fun c2 => ?_)
  · skip
    refine g_iconst (v := (-1)) dX12_crosser_52 (by decide) ?_
    exact g_iret rfl dX12_crosser_53 rfl (Nat.le_refl _) (q1 c1)
  · skip
    refine g_aload_n dX12_crosser_8 rfl rfl ?_
    refine g_iload_n dX12_crosser_9 rfl rfl ?_
    refine g_iload_n dX12_crosser_10 rfl rfl ?_
    refine g_iload dX12_crosser_11 rfl ?_
    exact s_callV (M' := mX12_isCrossing) (As := [.int x2, .int x3, .int x4]) (st := []) dX12_crosser_13 lm_X12_71 ovX12_isCrossing (h := (sk0 c, I)) (sk_120 _) (show vwCl[12]? = some _ from rfl) rfl (by simp [Value.category]) (by decide) rfl (k2 c2)
set_option maxRecDepth 10000 in
set_option maxHeartbeats 1000000 in
theorem sg_X12_crosser_16 {l : Launch} {d : Nat} {Q : Option Value → mx_H → Prop} {c : Nat} {I : mx_I} (x1 : Int32) (x2 : Int32) (x3 : Int32) (x4 : Int32) (x5 : Int32) (x6 : Int32) (x7 : Int32)
    (q1 : (x7 = 0) → Q (some (.int (-1))) (sk0 c, I))
    (k2 : (¬ x7 = 0) → mx_K1 l mX12_isIn d [.int x5, .int 0, .int x4] (sk0 c, I) (fun r h' => mx_Go l (mx_rm (d + 1) 0 0) mX12_crosser (mx_Z Q 0 0) 0 0 27 [.ref 120, .int x1, .int x2, .int x3, .int x4, .int x5, .int x6, .retAddr 0, .retAddr 0] (r.toList ++ []) h')) :
    mx_Go l (mx_rm (d + 1) 0 0) mX12_crosser (mx_Z Q 0 0) 0 0 16 [.ref 120, .int x1, .int x2, .int x3, .int x4, .int x5, .int x6, .retAddr 0, .retAddr 0] [.int x7] (sk0 c, I) := by
  refine g_if_eq (tgt := 52) dX12_crosser_16 (by decide) (fun c1 => ?_) (fun c2 => ?_)
  · skip
    refine g_iconst (v := (-1)) dX12_crosser_52 (by decide) ?_
    exact g_iret rfl dX12_crosser_53 rfl (Nat.le_refl _) (q1 c1)
  · skip
    refine g_iload dX12_crosser_19 rfl ?_
    refine g_iconst (v := 0) dX12_crosser_21 (by decide) ?_
    refine g_iload dX12_crosser_22 rfl ?_
    exact s_callS (M' := mX12_isIn) (As := [.int x5, .int 0, .int x4]) (st := []) dX12_crosser_24 lm_X12_50 okX12_isIn osX12_isIn (by simp [Value.category]) (by decide) rfl (k2 c2)
set_option maxRecDepth 10000 in
set_option maxHeartbeats 1000000 in
theorem sg_X12_crosser_27 {l : Launch} {d : Nat} {Q : Option Value → mx_H → Prop} {c : Nat} {I : mx_I} (x1 : Int32) (x2 : Int32) (x3 : Int32) (x4 : Int32) (x5 : Int32) (x6 : Int32) (x7 : Int32)
    (q1 : (x7 = 0) → Q (some (.int (-1))) (sk0 c, I))
    (k2 : (¬ x7 = 0) → mx_K1 l mX12_isIn d [.int x6, .int 0, .int 9] (sk0 c, I) (fun r h' => mx_Go l (mx_rm (d + 1) 0 0) mX12_crosser (mx_Z Q 0 0) 0 0 38 [.ref 120, .int x1, .int x2, .int x3, .int x4, .int x5, .int x6, .retAddr 0, .retAddr 0] (r.toList ++ []) h')) :
    mx_Go l (mx_rm (d + 1) 0 0) mX12_crosser (mx_Z Q 0 0) 0 0 27 [.ref 120, .int x1, .int x2, .int x3, .int x4, .int x5, .int x6, .retAddr 0, .retAddr 0] [.int x7] (sk0 c, I) := by
  refine g_if_eq (tgt := 52) dX12_crosser_27 (by decide) (fun c1 => ?_) (fun c2 => ?_)
  · skip
    refine g_iconst (v := (-1)) dX12_crosser_52 (by decide) ?_
    exact g_iret rfl dX12_crosser_53 rfl (Nat.le_refl _) (q1 c1)
  · skip
    refine g_iload dX12_crosser_30 rfl ?_
    refine g_iconst (v := 0) dX12_crosser_32 (by decide) ?_
    refine g_bipush (v := 9) dX12_crosser_33 (by decide) ?_
    exact s_callS (M' := mX12_isIn) (As := [.int x6, .int 0, .int 9]) (st := []) dX12_crosser_35 lm_X12_50 okX12_isIn osX12_isIn (by simp [Value.category]) (by decide) rfl (k2 c2)
set_option maxRecDepth 10000 in
set_option maxHeartbeats 1000000 in
theorem sg_X12_crosser_38 {l : Launch} {d : Nat} {Q : Option Value → mx_H → Prop} {c : Nat} {I : mx_I} (x1 : Int32) (x2 : Int32) (x3 : Int32) (x4 : Int32) (x5 : Int32) (x6 : Int32) (x7 : Int32)
    (q1 : (x7 = 0) → Q (some (.int (-1))) (sk0 c, I))
    (e2 : (¬ x7 = 0) → (¬ (I 121 3) = 20) → mx_Go l (mx_rm (d + 1) 0 0) mX12_crosser (mx_Z Q 0 0) 0 0 75 [.ref 120, .int x1, .int x2, .int x3, .int x4, .int x5, .int x6, .int (I 121 3), .int 0] [] (sk0 c, (mx_set I 121 3 ((I 121 3) + 1))))
    (q3 : (¬ x7 = 0) → ((I 121 3) = 20) → Q (some (.int (-1))) (sk0 c, I)) :
    mx_Go l (mx_rm (d + 1) 0 0) mX12_crosser (mx_Z Q 0 0) 0 0 38 [.ref 120, .int x1, .int x2, .int x3, .int x4, .int x5, .int x6, .retAddr 0, .retAddr 0] [.int x7] (sk0 c, I) := by
  refine g_if_eq (tgt := 52) dX12_crosser_38 (by decide) (fun c1 => ?_) (fun c2 => ?_)
  · skip
    refine g_iconst (v := (-1)) dX12_crosser_52 (by decide) ?_
    exact g_iret rfl dX12_crosser_53 rfl (Nat.le_refl _) (q1 c1)
  · skip
    refine g_aload_n dX12_crosser_41 rfl rfl ?_
    refine rg_X12_0 (r := 121) dX12_crosser_42 lf_X12_7 (sk_120 _) rfl ?_
    refine g_iconst (v := 3) dX12_crosser_45 (by decide) ?_
    refine s_iald (j := 3) (v := (I 121 3)) dX12_crosser_46 (sk_121 _) (by unfold vp_in; decide) (by decide) rfl ?_
    refine g_bipush (v := 20) dX12_crosser_47 (by decide) ?_
    refine g_icmp_ne (tgt := 54) dX12_crosser_49 (by decide) (fun c3 => ?_) (fun c4 => ?_)
    · skip
      refine g_aload_n dX12_crosser_54 rfl rfl ?_
      refine rg_X12_0 (r := 121) dX12_crosser_55 lf_X12_7 (sk_120 _) rfl ?_
      refine g_iconst (v := 3) dX12_crosser_58 (by decide) ?_
      refine s_iald (j := 3) (v := (I 121 3)) dX12_crosser_59 (sk_121 _) (by unfold vp_in; decide) (by decide) rfl ?_
      refine s_istore (L' := [.ref 120, .int x1, .int x2, .int x3, .int x4, .int x5, .int x6, .int (I 121 3), .retAddr 0]) dX12_crosser_60 (by decide) rfl rfl ?_
      refine g_aload_n dX12_crosser_62 rfl rfl ?_
      refine rg_X12_0 (r := 121) dX12_crosser_63 lf_X12_7 (sk_120 _) rfl ?_
      refine g_iconst (v := 3) dX12_crosser_66 (by decide) ?_
      refine g_dup2 dX12_crosser_67 rfl rfl ?_
      refine s_iald (j := 3) (v := (I 121 3)) dX12_crosser_68 (sk_121 _) (by unfold vp_in; decide) (by decide) rfl ?_
      refine g_iconst (v := 1) dX12_crosser_69 (by decide) ?_
      refine g_iadd dX12_crosser_70 ?_
      refine s_iast (j := 3) dX12_crosser_71 (sk_121 _) (by unfold vp_in; decide) (by decide) ?_
      refine g_iconst (v := 0) dX12_crosser_72 (by decide) ?_
      refine s_istore (L' := [.ref 120, .int x1, .int x2, .int x3, .int x4, .int x5, .int x6, .int (I 121 3), .int 0]) dX12_crosser_73 (by decide) rfl rfl ?_
      exact e2 c2 c3
    · skip
      refine g_iconst (v := (-1)) dX12_crosser_52 (by decide) ?_
      exact g_iret rfl dX12_crosser_53 rfl (Nat.le_refl _) (q3 c2 c4)
set_option maxRecDepth 10000 in
set_option maxHeartbeats 1000000 in
theorem sg_X12_crosser_75 {l : Launch} {d : Nat} {Q : Option Value → mx_H → Prop} {c : Nat} {I : mx_I} (x1 : Int32) (x2 : Int32) (x3 : Int32) (x4 : Int32) (x5 : Int32) (x6 : Int32) (x7 : Int32) (x8 : Int32)
    (k1 : (14 ≤ x8) → mx_K1 l mX12_gives d [.ref 120, .int x7, .int 0, .int x1] (sk0 c, I) (fun r h' => mx_Go l (mx_rm (d + 1) 0 0) mX12_crosser (mx_Z Q 0 0) 0 0 105 [.ref 120, .int x1, .int x2, .int x3, .int x4, .int x5, .int x6, .int x7, .int x8] (r.toList ++ []) h'))
    (k2 : (¬ 14 ≤ x8) → mx_K1 l mX12_gives d [.ref 120, .int x7, .int x8, .int 0] (sk0 c, I) (fun r h' => mx_Go l (mx_rm (d + 1) 0 0) mX12_crosser (mx_Z Q 0 0) 0 0 91 [.ref 120, .int x1, .int x2, .int x3, .int x4, .int x5, .int x6, .int x7, .int x8] (r.toList ++ []) h')) :
    mx_Go l (mx_rm (d + 1) 0 0) mX12_crosser (mx_Z Q 0 0) 0 0 75 [.ref 120, .int x1, .int x2, .int x3, .int x4, .int x5, .int x6, .int x7, .int x8] [] (sk0 c, I) := by
  refine g_iload dX12_crosser_75 rfl ?_
  refine g_bipush (v := 14) dX12_crosser_77 (by decide) ?_
  refine g_icmp_ge (tgt := 97) dX12_crosser_79 (by decide) (fun c1 => ?_) (fun c2 => ?_)
  · skip
    refine g_aload_n dX12_crosser_97 rfl rfl ?_
    refine g_iload dX12_crosser_98 rfl ?_
    refine g_iconst (v := 0) dX12_crosser_100 (by decide) ?_
    refine g_iload_n dX12_crosser_101 rfl rfl ?_
    exact s_callV (M' := mX12_gives) (As := [.int x7, .int 0, .int x1]) (st := []) dX12_crosser_102 lm_X12_74 ovX12_gives (h := (sk0 c, I)) (sk_120 _) (show vwCl[12]? = some _ from rfl) rfl (by simp [Value.category]) (by decide) rfl (k1 c1)
  · skip
    refine g_aload_n dX12_crosser_82 rfl rfl ?_
    refine g_iload dX12_crosser_83 rfl ?_
    refine g_iload dX12_crosser_85 rfl ?_
    refine g_iconst (v := 0) dX12_crosser_87 (by decide) ?_
    exact s_callV (M' := mX12_gives) (As := [.int x7, .int x8, .int 0]) (st := []) dX12_crosser_88 lm_X12_74 ovX12_gives (h := (sk0 c, I)) (sk_120 _) (show vwCl[12]? = some _ from rfl) rfl (by simp [Value.category]) (by decide) rfl (k2 c2)
set_option maxRecDepth 10000 in
set_option maxHeartbeats 1000000 in
theorem sg_X12_crosser_105 {l : Launch} {d : Nat} {Q : Option Value → mx_H → Prop} {c : Nat} {I : mx_I} (x1 : Int32) (x2 : Int32) (x3 : Int32) (x4 : Int32) (x5 : Int32) (x6 : Int32) (x7 : Int32) (x8 : Int32)
    (k1 : mx_K1 l mX12_gives d [.ref 120, .int x7, .int 1, .int x2] (sk0 c, I) (fun r h' => mx_Go l (mx_rm (d + 1) 0 0) mX12_crosser (mx_Z Q 0 0) 0 0 113 [.ref 120, .int x1, .int x2, .int x3, .int x4, .int x5, .int x6, .int x7, .int x8] (r.toList ++ []) h')) :
    mx_Go l (mx_rm (d + 1) 0 0) mX12_crosser (mx_Z Q 0 0) 0 0 105 [.ref 120, .int x1, .int x2, .int x3, .int x4, .int x5, .int x6, .int x7, .int x8] [] (sk0 c, I) := by
  refine g_aload_n dX12_crosser_105 rfl rfl ?_
  refine g_iload dX12_crosser_106 rfl ?_
  refine g_iconst (v := 1) dX12_crosser_108 (by decide) ?_
  refine g_iload_n dX12_crosser_109 rfl rfl ?_
  exact s_callV (M' := mX12_gives) (As := [.int x7, .int 1, .int x2]) (st := []) dX12_crosser_110 lm_X12_74 ovX12_gives (h := (sk0 c, I)) (sk_120 _) (show vwCl[12]? = some _ from rfl) rfl (by simp [Value.category]) (by decide) rfl (k1)
set_option maxRecDepth 10000 in
set_option maxHeartbeats 1000000 in
theorem sg_X12_crosser_91 {l : Launch} {d : Nat} {Q : Option Value → mx_H → Prop} {c : Nat} {I : mx_I} (x1 : Int32) (x2 : Int32) (x3 : Int32) (x4 : Int32) (x5 : Int32) (x6 : Int32) (x7 : Int32) (x8 : Int32)
    (e1 : mx_Go l (mx_rm (d + 1) 0 0) mX12_crosser (mx_Z Q 0 0) 0 0 75 [.ref 120, .int x1, .int x2, .int x3, .int x4, .int x5, .int x6, .int x7, .int (x8 + 1)] [] (sk0 c, I)) :
    mx_Go l (mx_rm (d + 1) 0 0) mX12_crosser (mx_Z Q 0 0) 0 0 91 [.ref 120, .int x1, .int x2, .int x3, .int x4, .int x5, .int x6, .int x7, .int x8] [] (sk0 c, I) := by
  refine s_iinc (v := (x8 + 1)) (L' := [.ref 120, .int x1, .int x2, .int x3, .int x4, .int x5, .int x6, .int x7, .int (x8 + 1)]) dX12_crosser_91 rfl (by decide) rfl rfl rfl ?_
  refine g_goto (tgt := 75) dX12_crosser_94 (by decide) ?_
  exact e1
set_option maxRecDepth 10000 in
set_option maxHeartbeats 1000000 in
theorem sg_X12_crosser_113 {l : Launch} {d : Nat} {Q : Option Value → mx_H → Prop} {c : Nat} {I : mx_I} (x1 : Int32) (x2 : Int32) (x3 : Int32) (x4 : Int32) (x5 : Int32) (x6 : Int32) (x7 : Int32) (x8 : Int32)
    (k1 : mx_K1 l mX12_gives d [.ref 120, .int x7, .int 2, .int x3] (sk0 c, I) (fun r h' => mx_Go l (mx_rm (d + 1) 0 0) mX12_crosser (mx_Z Q 0 0) 0 0 121 [.ref 120, .int x1, .int x2, .int x3, .int x4, .int x5, .int x6, .int x7, .int x8] (r.toList ++ []) h')) :
    mx_Go l (mx_rm (d + 1) 0 0) mX12_crosser (mx_Z Q 0 0) 0 0 113 [.ref 120, .int x1, .int x2, .int x3, .int x4, .int x5, .int x6, .int x7, .int x8] [] (sk0 c, I) := by
  refine g_aload_n dX12_crosser_113 rfl rfl ?_
  refine g_iload dX12_crosser_114 rfl ?_
  refine g_iconst (v := 2) dX12_crosser_116 (by decide) ?_
  refine g_iload_n dX12_crosser_117 rfl rfl ?_
  exact s_callV (M' := mX12_gives) (As := [.int x7, .int 2, .int x3]) (st := []) dX12_crosser_118 lm_X12_74 ovX12_gives (h := (sk0 c, I)) (sk_120 _) (show vwCl[12]? = some _ from rfl) rfl (by simp [Value.category]) (by decide) rfl (k1)
set_option maxRecDepth 10000 in
set_option maxHeartbeats 1000000 in
theorem sg_X12_crosser_121 {l : Launch} {d : Nat} {Q : Option Value → mx_H → Prop} {c : Nat} {I : mx_I} (x1 : Int32) (x2 : Int32) (x3 : Int32) (x4 : Int32) (x5 : Int32) (x6 : Int32) (x7 : Int32) (x8 : Int32)
    (k1 : mx_K1 l mX12_gives d [.ref 120, .int x7, .int 3, .int x4] (sk0 c, I) (fun r h' => mx_Go l (mx_rm (d + 1) 0 0) mX12_crosser (mx_Z Q 0 0) 0 0 130 [.ref 120, .int x1, .int x2, .int x3, .int x4, .int x5, .int x6, .int x7, .int x8] (r.toList ++ []) h')) :
    mx_Go l (mx_rm (d + 1) 0 0) mX12_crosser (mx_Z Q 0 0) 0 0 121 [.ref 120, .int x1, .int x2, .int x3, .int x4, .int x5, .int x6, .int x7, .int x8] [] (sk0 c, I) := by
  refine g_aload_n dX12_crosser_121 rfl rfl ?_
  refine g_iload dX12_crosser_122 rfl ?_
  refine g_iconst (v := 3) dX12_crosser_124 (by decide) ?_
  refine g_iload dX12_crosser_125 rfl ?_
  exact s_callV (M' := mX12_gives) (As := [.int x7, .int 3, .int x4]) (st := []) dX12_crosser_127 lm_X12_74 ovX12_gives (h := (sk0 c, I)) (sk_120 _) (show vwCl[12]? = some _ from rfl) rfl (by simp [Value.category]) (by decide) rfl (k1)
set_option maxRecDepth 10000 in
set_option maxHeartbeats 1000000 in
theorem sg_X12_crosser_130 {l : Launch} {d : Nat} {Q : Option Value → mx_H → Prop} {c : Nat} {I : mx_I} (x1 : Int32) (x2 : Int32) (x3 : Int32) (x4 : Int32) (x5 : Int32) (x6 : Int32) (x7 : Int32) (x8 : Int32)
    (k1 : mx_K1 l mX12_gives d [.ref 120, .int x7, .int 4, .int x5] (sk0 c, I) (fun r h' => mx_Go l (mx_rm (d + 1) 0 0) mX12_crosser (mx_Z Q 0 0) 0 0 139 [.ref 120, .int x1, .int x2, .int x3, .int x4, .int x5, .int x6, .int x7, .int x8] (r.toList ++ []) h')) :
    mx_Go l (mx_rm (d + 1) 0 0) mX12_crosser (mx_Z Q 0 0) 0 0 130 [.ref 120, .int x1, .int x2, .int x3, .int x4, .int x5, .int x6, .int x7, .int x8] [] (sk0 c, I) := by
  refine g_aload_n dX12_crosser_130 rfl rfl ?_
  refine g_iload dX12_crosser_131 rfl ?_
  refine g_iconst (v := 4) dX12_crosser_133 (by decide) ?_
  refine g_iload dX12_crosser_134 rfl ?_
  exact s_callV (M' := mX12_gives) (As := [.int x7, .int 4, .int x5]) (st := []) dX12_crosser_136 lm_X12_74 ovX12_gives (h := (sk0 c, I)) (sk_120 _) (show vwCl[12]? = some _ from rfl) rfl (by simp [Value.category]) (by decide) rfl (k1)
set_option maxRecDepth 10000 in
set_option maxHeartbeats 1000000 in
theorem sg_X12_crosser_139 {l : Launch} {d : Nat} {Q : Option Value → mx_H → Prop} {c : Nat} {I : mx_I} (x1 : Int32) (x2 : Int32) (x3 : Int32) (x4 : Int32) (x5 : Int32) (x6 : Int32) (x7 : Int32) (x8 : Int32)
    (k1 : mx_K1 l mX12_gives d [.ref 120, .int x7, .int 5, .int x6] (sk0 c, I) (fun r h' => mx_Go l (mx_rm (d + 1) 0 0) mX12_crosser (mx_Z Q 0 0) 0 0 148 [.ref 120, .int x1, .int x2, .int x3, .int x4, .int x5, .int x6, .int x7, .int x8] (r.toList ++ []) h')) :
    mx_Go l (mx_rm (d + 1) 0 0) mX12_crosser (mx_Z Q 0 0) 0 0 139 [.ref 120, .int x1, .int x2, .int x3, .int x4, .int x5, .int x6, .int x7, .int x8] [] (sk0 c, I) := by
  refine g_aload_n dX12_crosser_139 rfl rfl ?_
  refine g_iload dX12_crosser_140 rfl ?_
  refine g_iconst (v := 5) dX12_crosser_142 (by decide) ?_
  refine g_iload dX12_crosser_143 rfl ?_
  exact s_callV (M' := mX12_gives) (As := [.int x7, .int 5, .int x6]) (st := []) dX12_crosser_145 lm_X12_74 ovX12_gives (h := (sk0 c, I)) (sk_120 _) (show vwCl[12]? = some _ from rfl) rfl (by simp [Value.category]) (by decide) rfl (k1)
set_option maxRecDepth 10000 in
set_option maxHeartbeats 1000000 in
theorem sg_X12_crosser_148 {l : Launch} {d : Nat} {Q : Option Value → mx_H → Prop} {c : Nat} {I : mx_I} (x1 : Int32) (x2 : Int32) (x3 : Int32) (x4 : Int32) (x5 : Int32) (x6 : Int32) (x7 : Int32) (x8 : Int32)
    (k1 : mx_K1 l mX12_gives d [.ref 120, .int x7, .int 8, .int (-1)] (sk0 c, I) (fun r h' => mx_Go l (mx_rm (d + 1) 0 0) mX12_crosser (mx_Z Q 0 0) 0 0 157 [.ref 120, .int x1, .int x2, .int x3, .int x4, .int x5, .int x6, .int x7, .int x8] (r.toList ++ []) h')) :
    mx_Go l (mx_rm (d + 1) 0 0) mX12_crosser (mx_Z Q 0 0) 0 0 148 [.ref 120, .int x1, .int x2, .int x3, .int x4, .int x5, .int x6, .int x7, .int x8] [] (sk0 c, I) := by
  refine g_aload_n dX12_crosser_148 rfl rfl ?_
  refine g_iload dX12_crosser_149 rfl ?_
  refine g_bipush (v := 8) dX12_crosser_151 (by decide) ?_
  refine g_iconst (v := (-1)) dX12_crosser_153 (by decide) ?_
  exact s_callV (M' := mX12_gives) (As := [.int x7, .int 8, .int (-1)]) (st := []) dX12_crosser_154 lm_X12_74 ovX12_gives (h := (sk0 c, I)) (sk_120 _) (show vwCl[12]? = some _ from rfl) rfl (by simp [Value.category]) (by decide) rfl (k1)
set_option maxRecDepth 10000 in
set_option maxHeartbeats 1000000 in
theorem sg_X12_crosser_157 {l : Launch} {d : Nat} {Q : Option Value → mx_H → Prop} {c : Nat} {I : mx_I} (x1 : Int32) (x2 : Int32) (x3 : Int32) (x4 : Int32) (x5 : Int32) (x6 : Int32) (x7 : Int32) (x8 : Int32)
    (q1 : Q (some (.int x7)) (sk0 c, I)) :
    mx_Go l (mx_rm (d + 1) 0 0) mX12_crosser (mx_Z Q 0 0) 0 0 157 [.ref 120, .int x1, .int x2, .int x3, .int x4, .int x5, .int x6, .int x7, .int x8] [] (sk0 c, I) := by
  refine g_iload dX12_crosser_157 rfl ?_
  exact g_iret rfl dX12_crosser_159 rfl (Nat.le_refl _) (q1)
set_option maxRecDepth 10000 in
set_option maxHeartbeats 1000000 in
theorem sn_X12_kind {l : Launch} {d : Nat} {Q : Option Value → mx_H → Prop} {c : Nat} {I : mx_I} (a1 : Int32) (a2 : Int32) (a3 : Int32)
    (k1 : mx_K1 l mX12_isOne d [.ref 120, .int a1] (sk0 c, I) (fun r h' => mx_Go l (mx_rm (d + 1) 0 0) mX12_kind (mx_Z Q 0 0) 0 0 5 [.ref 120, .int a1, .int a2, .int a3] (r.toList ++ []) h')) :
    mx_Spec l mX12_kind (d + 1) 0 0 [.ref 120, .int a1, .int a2, .int a3] (sk0 c, I) Q := by
  refine mx_enter rfl (by simp [Value.category]) (Nat.le_of_ble_eq_true rfl) ?_
  change mx_Go l (mx_rm (d + 1) 0 0) mX12_kind (mx_Z Q 0 0) 0 0 0 [.ref 120, .int a1, .int a2, .int a3] [] (sk0 c, I)
  refine g_aload_n dX12_kind_0 rfl rfl ?_
  refine g_iload_n dX12_kind_1 rfl rfl ?_
  exact s_callV (M' := mX12_isOne) (As := [.int a1]) (st := []) dX12_kind_2 lm_X12_77 ovX12_isOne (h := (sk0 c, I)) (sk_120 _) (show vwCl[12]? = some _ from rfl) rfl (by simp [Value.category]) (by decide) rfl (k1)
set_option maxRecDepth 10000 in
set_option maxHeartbeats 1000000 in
theorem sg_X12_kind_5 {l : Launch} {d : Nat} {Q : Option Value → mx_H → Prop} {c : Nat} {I : mx_I} (x1 : Int32) (x2 : Int32) (x3 : Int32) (x4 : Int32)
    (q1 : (x4 = 0) → Q (some (.int 0)) (sk0 c, I))
    (k2 : (¬ x4 = 0) → mx_K1 l mX12_ofOne d [.ref 120, .int x1, .int 8] (sk0 c, I) (fun r h' => mx_Go l (mx_rm (d + 1) 0 0) mX12_kind (mx_Z Q 0 0) 0 0 15 [.ref 120, .int x1, .int x2, .int x3] (r.toList ++ []) h')) :
    mx_Go l (mx_rm (d + 1) 0 0) mX12_kind (mx_Z Q 0 0) 0 0 5 [.ref 120, .int x1, .int x2, .int x3] [.int x4] (sk0 c, I) := by
  refine g_if_eq (tgt := 28) dX12_kind_5 (by decide) (fun c1 => ?_) (fun c2 => ?_)
  · skip
    refine g_iconst (v := 0) dX12_kind_28 (by decide) ?_
    exact g_zret (ty := .boolean) rfl rfl dX12_kind_29 rfl (Nat.le_refl _) (q1 c1)
  · skip
    refine g_aload_n dX12_kind_8 rfl rfl ?_
    refine g_iload_n dX12_kind_9 rfl rfl ?_
    refine g_bipush (v := 8) dX12_kind_10 (by decide) ?_
    exact s_callV (M' := mX12_ofOne) (As := [.int x1, .int 8]) (st := []) dX12_kind_12 lm_X12_80 ovX12_ofOne (h := (sk0 c, I)) (sk_120 _) (show vwCl[12]? = some _ from rfl) rfl (by simp [Value.category]) (by decide) rfl (k2 c2)
set_option maxRecDepth 10000 in
set_option maxHeartbeats 1000000 in
theorem sg_X12_kind_15 {l : Launch} {d : Nat} {Q : Option Value → mx_H → Prop} {c : Nat} {I : mx_I} (x1 : Int32) (x2 : Int32) (x3 : Int32) (x4 : Int32)
    (q1 : (¬ x4 = (-1)) → Q (some (.int 0)) (sk0 c, I))
    (k2 : (x4 = (-1)) → mx_K1 l mX12_isIn d [.int x2, .int 0, .int 2] (sk0 c, I) (fun r h' => mx_Go l (mx_rm (d + 1) 0 0) mX12_kind (mx_Z Q 0 0) 0 0 25 [.ref 120, .int x1, .int x2, .int x3] (r.toList ++ []) h')) :
    mx_Go l (mx_rm (d + 1) 0 0) mX12_kind (mx_Z Q 0 0) 0 0 15 [.ref 120, .int x1, .int x2, .int x3] [.int x4] (sk0 c, I) := by
  refine g_iconst (v := (-1)) dX12_kind_15 (by decide) ?_
  refine g_icmp_ne (tgt := 28) dX12_kind_16 (by decide) (fun c1 => ?_) (fun c2 => ?_)
  · skip
    refine g_iconst (v := 0) dX12_kind_28 (by decide) ?_
    exact g_zret (ty := .boolean) rfl rfl dX12_kind_29 rfl (Nat.le_refl _) (q1 c1)
  · skip
    refine g_iload_n dX12_kind_19 rfl rfl ?_
    refine g_iconst (v := 0) dX12_kind_20 (by decide) ?_
    refine g_iconst (v := 2) dX12_kind_21 (by decide) ?_
    exact s_callS (M' := mX12_isIn) (As := [.int x2, .int 0, .int 2]) (st := []) dX12_kind_22 lm_X12_50 okX12_isIn osX12_isIn (by simp [Value.category]) (by decide) rfl (k2 c2)
set_option maxRecDepth 10000 in
set_option maxHeartbeats 1000000 in
theorem sg_X12_kind_25 {l : Launch} {d : Nat} {Q : Option Value → mx_H → Prop} {c : Nat} {I : mx_I} (x1 : Int32) (x2 : Int32) (x3 : Int32) (x4 : Int32)
    (k1 : (¬ x4 = 0) → (¬ x2 = 1) → (¬ x2 = 2) → mx_K1 l mX12_gives d [.ref 120, .int x1, .int 6, .int x2] (sk0 c, I) (fun r h' => mx_Go l (mx_rm (d + 1) 0 0) mX12_kind (mx_Z Q 0 0) 0 0 105 [.ref 120, .int x1, .int x2, .int x3] (r.toList ++ []) h'))
    (k2 : (¬ x4 = 0) → (¬ x2 = 1) → (x2 = 2) → mx_K1 l mX12_isOne d [.ref 120, .int x3] (sk0 c, I) (fun r h' => mx_Go l (mx_rm (d + 1) 0 0) mX12_kind (mx_Z Q 0 0) 0 0 57 [.ref 120, .int x1, .int x2, .int x3] (r.toList ++ []) h'))
    (k3 : (¬ x4 = 0) → (x2 = 1) → mx_K1 l mX12_isIn d [.int x3, .int 0, .int 24] (sk0 c, I) (fun r h' => mx_Go l (mx_rm (d + 1) 0 0) mX12_kind (mx_Z Q 0 0) 0 0 42 [.ref 120, .int x1, .int x2, .int x3] (r.toList ++ []) h'))
    (q4 : (x4 = 0) → Q (some (.int 0)) (sk0 c, I)) :
    mx_Go l (mx_rm (d + 1) 0 0) mX12_kind (mx_Z Q 0 0) 0 0 25 [.ref 120, .int x1, .int x2, .int x3] [.int x4] (sk0 c, I) := by
  refine g_if_ne (tgt := 30) dX12_kind_25 (by decide) (fun c1 => ?_) (fun c2 => ?_)
  · skip
    refine g_iload_n dX12_kind_30 rfl rfl ?_
    refine g_iconst (v := 1) dX12_kind_31 (by decide) ?_
    refine g_icmp_ne (tgt := 47) dX12_kind_32 (by decide) (fun c3 => ?_) (fun c4 => ?_)
    · skip
      refine g_iload_n dX12_kind_47 rfl rfl ?_
      refine g_iconst (v := 2) dX12_kind_48 (by decide) ?_
      refine g_icmp_ne (tgt := 97) dX12_kind_49 (by decide) (fun c5 => ?_) (fun c6 => ?_)
      · skip
        refine g_aload_n dX12_kind_97 rfl rfl ?_
        refine g_iload_n dX12_kind_98 rfl rfl ?_
        refine g_bipush (v := 6) dX12_kind_99 (by decide) ?_
        refine g_iload_n dX12_kind_101 rfl rfl ?_
        exact s_callV (M' := mX12_gives) (As := [.int x1, .int 6, .int x2]) (st := []) dX12_kind_102 lm_X12_74 ovX12_gives (h := (sk0 c, I)) (sk_120 _) (show vwCl[12]? = some _ from rfl) rfl (by simp [Value.category]) (by decide) rfl (k1 c1 c3 c5)
      · skip
        refine g_aload_n dX12_kind_52 rfl rfl ?_
        refine g_iload_n dX12_kind_53 rfl rfl ?_
        exact s_callV (M' := mX12_isOne) (As := [.int x3]) (st := []) dX12_kind_54 lm_X12_77 ovX12_isOne (h := (sk0 c, I)) (sk_120 _) (show vwCl[12]? = some _ from rfl) rfl (by simp [Value.category]) (by decide) rfl (k2 c1 c3 c6)
    · skip
      refine g_iload_n dX12_kind_35 rfl rfl ?_
      refine g_iconst (v := 0) dX12_kind_36 (by decide) ?_
      refine g_bipush (v := 24) dX12_kind_37 (by decide) ?_
      exact s_callS (M' := mX12_isIn) (As := [.int x3, .int 0, .int 24]) (st := []) dX12_kind_39 lm_X12_50 okX12_isIn osX12_isIn (by simp [Value.category]) (by decide) rfl (k3 c1 c4)
  · skip
    refine g_iconst (v := 0) dX12_kind_28 (by decide) ?_
    exact g_zret (ty := .boolean) rfl rfl dX12_kind_29 rfl (Nat.le_refl _) (q4 c2)
set_option maxRecDepth 10000 in
set_option maxHeartbeats 1000000 in
theorem sg_X12_kind_105 {l : Launch} {d : Nat} {Q : Option Value → mx_H → Prop} {c : Nat} {I : mx_I} (x1 : Int32) (x2 : Int32) (x3 : Int32)
    (k1 : (¬ x2 = 0) → mx_K1 l mX12_gives d [.ref 120, .int x1, .int 7, .int x3] (sk0 c, I) (fun r h' => mx_Go l (mx_rm (d + 1) 0 0) mX12_kind (mx_Z Q 0 0) 0 0 121 [.ref 120, .int x1, .int x2, .int x3] (r.toList ++ []) h'))
    (k2 : (x2 = 0) → mx_K1 l mX12_gives d [.ref 120, .int x1, .int 7, .int 0] (sk0 c, I) (fun r h' => mx_Go l (mx_rm (d + 1) 0 0) mX12_kind (mx_Z Q 0 0) 0 0 121 [.ref 120, .int x1, .int x2, .int x3] (r.toList ++ []) h')) :
    mx_Go l (mx_rm (d + 1) 0 0) mX12_kind (mx_Z Q 0 0) 0 0 105 [.ref 120, .int x1, .int x2, .int x3] [] (sk0 c, I) := by
  refine g_aload_n dX12_kind_105 rfl rfl ?_
  refine g_iload_n dX12_kind_106 rfl rfl ?_
  refine g_bipush (v := 7) dX12_kind_107 (by decide) ?_
  refine g_iload_n dX12_kind_109 rfl rfl ?_
  refine g_if_ne (tgt := 117) dX12_kind_110 (by decide) (fun c1 => ?_) (fun c2 => ?_)
  · skip
    refine g_iload_n dX12_kind_117 rfl rfl ?_
    exact s_callV (M' := mX12_gives) (As := [.int x1, .int 7, .int x3]) (st := []) dX12_kind_118 lm_X12_74 ovX12_gives (h := (sk0 c, I)) (sk_120 _) (show vwCl[12]? = some _ from rfl) rfl (by simp [Value.category]) (by decide) rfl (k1 c1)
  · skip
    refine g_iconst (v := 0) dX12_kind_113 (by decide) ?_
    refine g_goto (tgt := 118) dX12_kind_114 (by decide) ?_
    exact s_callV (M' := mX12_gives) (As := [.int x1, .int 7, .int 0]) (st := []) dX12_kind_118 lm_X12_74 ovX12_gives (h := (sk0 c, I)) (sk_120 _) (show vwCl[12]? = some _ from rfl) rfl (by simp [Value.category]) (by decide) rfl (k2 c2)
set_option maxRecDepth 10000 in
set_option maxHeartbeats 1000000 in
theorem sg_X12_kind_57 {l : Launch} {d : Nat} {Q : Option Value → mx_H → Prop} {c : Nat} {I : mx_I} (x1 : Int32) (x2 : Int32) (x3 : Int32) (x4 : Int32)
    (q1 : (x4 = 0) → Q (some (.int 0)) (sk0 c, I))
    (q2 : (¬ x4 = 0) → (x3 = x1) → Q (some (.int 0)) (sk0 c, I))
    (k3 : (¬ x4 = 0) → (¬ x3 = x1) → mx_K1 l mX12_ofOne d [.ref 120, .int x3, .int 1] (sk0 c, I) (fun r h' => mx_Go l (mx_rm (d + 1) 0 0) mX12_kind (mx_Z Q 0 0) 0 0 71 [.ref 120, .int x1, .int x2, .int x3] (r.toList ++ []) h')) :
    mx_Go l (mx_rm (d + 1) 0 0) mX12_kind (mx_Z Q 0 0) 0 0 57 [.ref 120, .int x1, .int x2, .int x3] [.int x4] (sk0 c, I) := by
  refine g_if_eq (tgt := 95) dX12_kind_57 (by decide) (fun c1 => ?_) (fun c2 => ?_)
  · skip
    refine g_iconst (v := 0) dX12_kind_95 (by decide) ?_
    exact g_zret (ty := .boolean) rfl rfl dX12_kind_96 rfl (Nat.le_refl _) (q1 c1)
  · skip
    refine g_iload_n dX12_kind_60 rfl rfl ?_
    refine g_iload_n dX12_kind_61 rfl rfl ?_
    refine g_icmp_eq (tgt := 95) dX12_kind_62 (by decide) (fun c3 => ?_) (fun c4 => ?_)
    · skip
      refine g_iconst (v := 0) dX12_kind_95 (by decide) ?_
      exact g_zret (ty := .boolean) rfl rfl dX12_kind_96 rfl (Nat.le_refl _) (q2 c2 c3)
    · skip
      refine g_aload_n dX12_kind_65 rfl rfl ?_
      refine g_iload_n dX12_kind_66 rfl rfl ?_
      refine g_iconst (v := 1) dX12_kind_67 (by decide) ?_
      exact s_callV (M' := mX12_ofOne) (As := [.int x3, .int 1]) (st := []) dX12_kind_68 lm_X12_80 ovX12_ofOne (h := (sk0 c, I)) (sk_120 _) (show vwCl[12]? = some _ from rfl) rfl (by simp [Value.category]) (by decide) rfl (k3 c2 c4)
set_option maxRecDepth 10000 in
set_option maxHeartbeats 1000000 in
theorem sg_X12_kind_42 {l : Launch} {d : Nat} {Q : Option Value → mx_H → Prop} {c : Nat} {I : mx_I} (x1 : Int32) (x2 : Int32) (x3 : Int32) (x4 : Int32)
    (k1 : (¬ x4 = 0) → (¬ x2 = 2) → mx_K1 l mX12_gives d [.ref 120, .int x1, .int 6, .int x2] (sk0 c, I) (fun r h' => mx_Go l (mx_rm (d + 1) 0 0) mX12_kind (mx_Z Q 0 0) 0 0 105 [.ref 120, .int x1, .int x2, .int x3] (r.toList ++ []) h'))
    (k2 : (¬ x4 = 0) → (x2 = 2) → mx_K1 l mX12_isOne d [.ref 120, .int x3] (sk0 c, I) (fun r h' => mx_Go l (mx_rm (d + 1) 0 0) mX12_kind (mx_Z Q 0 0) 0 0 57 [.ref 120, .int x1, .int x2, .int x3] (r.toList ++ []) h'))
    (q3 : (x4 = 0) → Q (some (.int 0)) (sk0 c, I)) :
    mx_Go l (mx_rm (d + 1) 0 0) mX12_kind (mx_Z Q 0 0) 0 0 42 [.ref 120, .int x1, .int x2, .int x3] [.int x4] (sk0 c, I) := by
  refine g_if_ne (tgt := 47) dX12_kind_42 (by decide) (fun c1 => ?_) (fun c2 => ?_)
  · skip
    refine g_iload_n dX12_kind_47 rfl rfl ?_
    refine g_iconst (v := 2) dX12_kind_48 (by decide) ?_
    refine g_icmp_ne (tgt := 97) dX12_kind_49 (by decide) (fun c3 => ?_) (fun c4 => ?_)
    · skip
      refine g_aload_n dX12_kind_97 rfl rfl ?_
      refine g_iload_n dX12_kind_98 rfl rfl ?_
      refine g_bipush (v := 6) dX12_kind_99 (by decide) ?_
      refine g_iload_n dX12_kind_101 rfl rfl ?_
      exact s_callV (M' := mX12_gives) (As := [.int x1, .int 6, .int x2]) (st := []) dX12_kind_102 lm_X12_74 ovX12_gives (h := (sk0 c, I)) (sk_120 _) (show vwCl[12]? = some _ from rfl) rfl (by simp [Value.category]) (by decide) rfl (k1 c1 c3)
    · skip
      refine g_aload_n dX12_kind_52 rfl rfl ?_
      refine g_iload_n dX12_kind_53 rfl rfl ?_
      exact s_callV (M' := mX12_isOne) (As := [.int x3]) (st := []) dX12_kind_54 lm_X12_77 ovX12_isOne (h := (sk0 c, I)) (sk_120 _) (show vwCl[12]? = some _ from rfl) rfl (by simp [Value.category]) (by decide) rfl (k2 c1 c4)
  · skip
    refine g_iconst (v := 0) dX12_kind_45 (by decide) ?_
    exact g_zret (ty := .boolean) rfl rfl dX12_kind_46 rfl (Nat.le_refl _) (q3 c2)
set_option maxRecDepth 10000 in
set_option maxHeartbeats 1000000 in
theorem sg_X12_kind_121 {l : Launch} {d : Nat} {Q : Option Value → mx_H → Prop} {c : Nat} {I : mx_I} (x1 : Int32) (x2 : Int32) (x3 : Int32)
    (q1 : Q (some (.int 1)) (sk0 c, I)) :
    mx_Go l (mx_rm (d + 1) 0 0) mX12_kind (mx_Z Q 0 0) 0 0 121 [.ref 120, .int x1, .int x2, .int x3] [] (sk0 c, I) := by
  refine g_iconst (v := 1) dX12_kind_121 (by decide) ?_
  exact g_zret (ty := .boolean) rfl rfl dX12_kind_122 rfl (Nat.le_refl _) (q1)
set_option maxRecDepth 10000 in
set_option maxHeartbeats 1000000 in
theorem sg_X12_kind_71 {l : Launch} {d : Nat} {Q : Option Value → mx_H → Prop} {c : Nat} {I : mx_I} (x1 : Int32) (x2 : Int32) (x3 : Int32) (x4 : Int32)
    (k1 : mx_K1 l mX12_ofOne d [.ref 120, .int x1, .int 1] (sk0 c, I) (fun r h' => mx_Go l (mx_rm (d + 1) 0 0) mX12_kind (mx_Z Q 0 0) 0 0 77 [.ref 120, .int x1, .int x2, .int x3] (r.toList ++ [.int x4]) h')) :
    mx_Go l (mx_rm (d + 1) 0 0) mX12_kind (mx_Z Q 0 0) 0 0 71 [.ref 120, .int x1, .int x2, .int x3] [.int x4] (sk0 c, I) := by
  refine g_aload_n dX12_kind_71 rfl rfl ?_
  refine g_iload_n dX12_kind_72 rfl rfl ?_
  refine g_iconst (v := 1) dX12_kind_73 (by decide) ?_
  exact s_callV (M' := mX12_ofOne) (As := [.int x1, .int 1]) (st := [.int x4]) dX12_kind_74 lm_X12_80 ovX12_ofOne (h := (sk0 c, I)) (sk_120 _) (show vwCl[12]? = some _ from rfl) rfl (by simp [Value.category]) (by decide) rfl (k1)
set_option maxRecDepth 10000 in
set_option maxHeartbeats 1000000 in
theorem sg_X12_kind_77 {l : Launch} {d : Nat} {Q : Option Value → mx_H → Prop} {c : Nat} {I : mx_I} (x1 : Int32) (x2 : Int32) (x3 : Int32) (x4 : Int32) (x5 : Int32)
    (q1 : (¬ x5 = x4) → Q (some (.int 0)) (sk0 c, I))
    (k2 : (x5 = x4) → mx_K1 l mX12_ofOne d [.ref 120, .int x3, .int 2] (sk0 c, I) (fun r h' => mx_Go l (mx_rm (d + 1) 0 0) mX12_kind (mx_Z Q 0 0) 0 0 86 [.ref 120, .int x1, .int x2, .int x3] (r.toList ++ []) h')) :
    mx_Go l (mx_rm (d + 1) 0 0) mX12_kind (mx_Z Q 0 0) 0 0 77 [.ref 120, .int x1, .int x2, .int x3] [.int x4, .int x5] (sk0 c, I) := by
  refine g_icmp_ne (tgt := 95) dX12_kind_77 (by decide) (fun c1 => ?_) (fun c2 => ?_)
  · skip
    refine g_iconst (v := 0) dX12_kind_95 (by decide) ?_
    exact g_zret (ty := .boolean) rfl rfl dX12_kind_96 rfl (Nat.le_refl _) (q1 c1)
  · skip
    refine g_aload_n dX12_kind_80 rfl rfl ?_
    refine g_iload_n dX12_kind_81 rfl rfl ?_
    refine g_iconst (v := 2) dX12_kind_82 (by decide) ?_
    exact s_callV (M' := mX12_ofOne) (As := [.int x3, .int 2]) (st := []) dX12_kind_83 lm_X12_80 ovX12_ofOne (h := (sk0 c, I)) (sk_120 _) (show vwCl[12]? = some _ from rfl) rfl (by simp [Value.category]) (by decide) rfl (k2 c2)
set_option maxRecDepth 10000 in
set_option maxHeartbeats 1000000 in
theorem sg_X12_kind_86 {l : Launch} {d : Nat} {Q : Option Value → mx_H → Prop} {c : Nat} {I : mx_I} (x1 : Int32) (x2 : Int32) (x3 : Int32) (x4 : Int32)
    (k1 : mx_K1 l mX12_ofOne d [.ref 120, .int x1, .int 2] (sk0 c, I) (fun r h' => mx_Go l (mx_rm (d + 1) 0 0) mX12_kind (mx_Z Q 0 0) 0 0 92 [.ref 120, .int x1, .int x2, .int x3] (r.toList ++ [.int x4]) h')) :
    mx_Go l (mx_rm (d + 1) 0 0) mX12_kind (mx_Z Q 0 0) 0 0 86 [.ref 120, .int x1, .int x2, .int x3] [.int x4] (sk0 c, I) := by
  refine g_aload_n dX12_kind_86 rfl rfl ?_
  refine g_iload_n dX12_kind_87 rfl rfl ?_
  refine g_iconst (v := 2) dX12_kind_88 (by decide) ?_
  exact s_callV (M' := mX12_ofOne) (As := [.int x1, .int 2]) (st := [.int x4]) dX12_kind_89 lm_X12_80 ovX12_ofOne (h := (sk0 c, I)) (sk_120 _) (show vwCl[12]? = some _ from rfl) rfl (by simp [Value.category]) (by decide) rfl (k1)
set_option maxRecDepth 10000 in
set_option maxHeartbeats 1000000 in
theorem sg_X12_kind_92 {l : Launch} {d : Nat} {Q : Option Value → mx_H → Prop} {c : Nat} {I : mx_I} (x1 : Int32) (x2 : Int32) (x3 : Int32) (x4 : Int32) (x5 : Int32)
    (k1 : (x5 = x4) → mx_K1 l mX12_gives d [.ref 120, .int x1, .int 6, .int x2] (sk0 c, I) (fun r h' => mx_Go l (mx_rm (d + 1) 0 0) mX12_kind (mx_Z Q 0 0) 0 0 105 [.ref 120, .int x1, .int x2, .int x3] (r.toList ++ []) h'))
    (q2 : (¬ x5 = x4) → Q (some (.int 0)) (sk0 c, I)) :
    mx_Go l (mx_rm (d + 1) 0 0) mX12_kind (mx_Z Q 0 0) 0 0 92 [.ref 120, .int x1, .int x2, .int x3] [.int x4, .int x5] (sk0 c, I) := by
  refine g_icmp_eq (tgt := 97) dX12_kind_92 (by decide) (fun c1 => ?_) (fun c2 => ?_)
  · skip
    refine g_aload_n dX12_kind_97 rfl rfl ?_
    refine g_iload_n dX12_kind_98 rfl rfl ?_
    refine g_bipush (v := 6) dX12_kind_99 (by decide) ?_
    refine g_iload_n dX12_kind_101 rfl rfl ?_
    exact s_callV (M' := mX12_gives) (As := [.int x1, .int 6, .int x2]) (st := []) dX12_kind_102 lm_X12_74 ovX12_gives (h := (sk0 c, I)) (sk_120 _) (show vwCl[12]? = some _ from rfl) rfl (by simp [Value.category]) (by decide) rfl (k1 c1)
  · skip
    refine g_iconst (v := 0) dX12_kind_95 (by decide) ?_
    exact g_zret (ty := .boolean) rfl rfl dX12_kind_96 rfl (Nat.le_refl _) (q2 c2)
set_option maxRecDepth 10000 in
set_option maxHeartbeats 1000000 in
theorem sn_X12_set {l : Launch} {d : Nat} {Q : Option Value → mx_H → Prop} {c : Nat} {I : mx_I} (a1 : Int32) (a2 : Int32) (a3 : Int32)
    (q1 : (¬ a1 = 0) → (¬ a1 = 1) → (¬ a1 = 2) → Q (some (.int 0)) (sk0 c, I))
    (k2 : (¬ a1 = 0) → (¬ a1 = 1) → (a1 = 2) → mx_K1 l mX12_isOne d [.ref 120, .int a2] (sk0 c, I) (fun r h' => mx_Go l (mx_rm (d + 1) 0 0) mX12_set (mx_Z Q 0 0) 0 0 59 [.ref 120, .int a1, .int a2, .int a3] (r.toList ++ []) h'))
    (k3 : (¬ a1 = 0) → (a1 = 1) → mx_K1 l mX12_isIn d [.int a3, .int 0, .int 1] (sk0 c, I) (fun r h' => mx_Go l (mx_rm (d + 1) 0 0) mX12_set (mx_Z Q 0 0) 0 0 36 [.ref 120, .int a1, .int a2, .int a3] (r.toList ++ []) h'))
    (k4 : (a1 = 0) → mx_K1 l mX12_isIn d [.int a3, .int (-1), .int 999] (sk0 c, I) (fun r h' => mx_Go l (mx_rm (d + 1) 0 0) mX12_set (mx_Z Q 0 0) 0 0 12 [.ref 120, .int a1, .int a2, .int a3] (r.toList ++ []) h')) :
    mx_Spec l mX12_set (d + 1) 0 0 [.ref 120, .int a1, .int a2, .int a3] (sk0 c, I) Q := by
  refine mx_enter rfl (by simp [Value.category]) (Nat.le_of_ble_eq_true rfl) ?_
  change mx_Go l (mx_rm (d + 1) 0 0) mX12_set (mx_Z Q 0 0) 0 0 0 [.ref 120, .int a1, .int a2, .int a3] [] (sk0 c, I)
  refine g_iload_n dX12_set_0 rfl rfl ?_
  refine g_if_ne (tgt := 25) dX12_set_1 (by decide) (fun c1 => ?_) (fun c2 => ?_)
  · skip
    refine g_iload_n dX12_set_25 rfl rfl ?_
    refine g_iconst (v := 1) dX12_set_26 (by decide) ?_
    refine g_icmp_ne (tgt := 49) dX12_set_27 (by decide) (fun c3 => ?_) (fun c4 => ?_)
    · skip
      refine g_iload_n dX12_set_49 rfl rfl ?_
      refine g_iconst (v := 2) dX12_set_50 (by decide) ?_
      refine g_icmp_ne (tgt := 82) dX12_set_51 (by decide) (fun c5 => ?_) (fun c6 => ?_)
      · skip
        refine g_iconst (v := 0) dX12_set_82 (by decide) ?_
        exact g_zret (ty := .boolean) rfl rfl dX12_set_83 rfl (Nat.le_refl _) (q1 c1 c3 c5)
      · skip
        refine g_aload_n dX12_set_54 rfl rfl ?_
        refine g_iload_n dX12_set_55 rfl rfl ?_
        exact s_callV (M' := mX12_isOne) (As := [.int a2]) (st := []) dX12_set_56 lm_X12_77 ovX12_isOne (h := (sk0 c, I)) (sk_120 _) (show vwCl[12]? = some _ from rfl) rfl (by simp [Value.category]) (by decide) rfl (k2 c1 c3 c6)
    · skip
      refine g_iload_n dX12_set_30 rfl rfl ?_
      refine g_iconst (v := 0) dX12_set_31 (by decide) ?_
      refine g_iconst (v := 1) dX12_set_32 (by decide) ?_
      exact s_callS (M' := mX12_isIn) (As := [.int a3, .int 0, .int 1]) (st := []) dX12_set_33 lm_X12_50 okX12_isIn osX12_isIn (by simp [Value.category]) (by decide) rfl (k3 c1 c4)
  · skip
    refine g_iload_n dX12_set_4 rfl rfl ?_
    refine g_iconst (v := (-1)) dX12_set_5 (by decide) ?_
    refine g_sipush (v := 999) dX12_set_6 (by decide) ?_
    exact s_callS (M' := mX12_isIn) (As := [.int a3, .int (-1), .int 999]) (st := []) dX12_set_9 lm_X12_50 okX12_isIn osX12_isIn (by simp [Value.category]) (by decide) rfl (k4 c2)
set_option maxRecDepth 10000 in
set_option maxHeartbeats 1000000 in
theorem sg_X12_set_59 {l : Launch} {d : Nat} {Q : Option Value → mx_H → Prop} {c : Nat} {I : mx_I} (x1 : Int32) (x2 : Int32) (x3 : Int32) (x4 : Int32)
    (q1 : (x4 = 0) → Q (some (.int 0)) (sk0 c, I))
    (k2 : (¬ x4 = 0) → mx_K1 l mX12_isIn d [.int x3, .int 0, .int 1] (sk0 c, I) (fun r h' => mx_Go l (mx_rm (d + 1) 0 0) mX12_set (mx_Z Q 0 0) 0 0 68 [.ref 120, .int x1, .int x2, .int x3] (r.toList ++ []) h')) :
    mx_Go l (mx_rm (d + 1) 0 0) mX12_set (mx_Z Q 0 0) 0 0 59 [.ref 120, .int x1, .int x2, .int x3] [.int x4] (sk0 c, I) := by
  refine g_if_eq (tgt := 82) dX12_set_59 (by decide) (fun c1 => ?_) (fun c2 => ?_)
  · skip
    refine g_iconst (v := 0) dX12_set_82 (by decide) ?_
    exact g_zret (ty := .boolean) rfl rfl dX12_set_83 rfl (Nat.le_refl _) (q1 c1)
  · skip
    refine g_iload_n dX12_set_62 rfl rfl ?_
    refine g_iconst (v := 0) dX12_set_63 (by decide) ?_
    refine g_iconst (v := 1) dX12_set_64 (by decide) ?_
    exact s_callS (M' := mX12_isIn) (As := [.int x3, .int 0, .int 1]) (st := []) dX12_set_65 lm_X12_50 okX12_isIn osX12_isIn (by simp [Value.category]) (by decide) rfl (k2 c2)
set_option maxRecDepth 10000 in
set_option maxHeartbeats 1000000 in
theorem sg_X12_set_36 {l : Launch} {d : Nat} {Q : Option Value → mx_H → Prop} {c : Nat} {I : mx_I} (x1 : Int32) (x2 : Int32) (x3 : Int32) (x4 : Int32)
    (q1 : (x4 = 0) → (¬ x1 = 2) → Q (some (.int 0)) (sk0 c, I))
    (k2 : (x4 = 0) → (x1 = 2) → mx_K1 l mX12_isOne d [.ref 120, .int x2] (sk0 c, I) (fun r h' => mx_Go l (mx_rm (d + 1) 0 0) mX12_set (mx_Z Q 0 0) 0 0 59 [.ref 120, .int x1, .int x2, .int x3] (r.toList ++ []) h'))
    (q3 : (¬ x4 = 0) → Q (some (.int 1)) (sk0 c, (mx_set I 121 5 x3))) :
    mx_Go l (mx_rm (d + 1) 0 0) mX12_set (mx_Z Q 0 0) 0 0 36 [.ref 120, .int x1, .int x2, .int x3] [.int x4] (sk0 c, I) := by
  refine g_if_eq (tgt := 49) dX12_set_36 (by decide) (fun c1 => ?_) (fun c2 => ?_)
  · skip
    refine g_iload_n dX12_set_49 rfl rfl ?_
    refine g_iconst (v := 2) dX12_set_50 (by decide) ?_
    refine g_icmp_ne (tgt := 82) dX12_set_51 (by decide) (fun c3 => ?_) (fun c4 => ?_)
    · skip
      refine g_iconst (v := 0) dX12_set_82 (by decide) ?_
      exact g_zret (ty := .boolean) rfl rfl dX12_set_83 rfl (Nat.le_refl _) (q1 c1 c3)
    · skip
      refine g_aload_n dX12_set_54 rfl rfl ?_
      refine g_iload_n dX12_set_55 rfl rfl ?_
      exact s_callV (M' := mX12_isOne) (As := [.int x2]) (st := []) dX12_set_56 lm_X12_77 ovX12_isOne (h := (sk0 c, I)) (sk_120 _) (show vwCl[12]? = some _ from rfl) rfl (by simp [Value.category]) (by decide) rfl (k2 c1 c4)
  · skip
    refine g_aload_n dX12_set_39 rfl rfl ?_
    refine rg_X12_0 (r := 121) dX12_set_40 lf_X12_7 (sk_120 _) rfl ?_
    refine g_iconst (v := 5) dX12_set_43 (by decide) ?_
    refine g_iload_n dX12_set_44 rfl rfl ?_
    refine s_iast (j := 5) dX12_set_45 (sk_121 _) (by unfold vp_in; decide) (by decide) ?_
    refine g_goto (tgt := 84) dX12_set_46 (by decide) ?_
    refine g_iconst (v := 1) dX12_set_84 (by decide) ?_
    exact g_zret (ty := .boolean) rfl rfl dX12_set_85 rfl (Nat.le_refl _) (q3 c2)
set_option maxRecDepth 10000 in
set_option maxHeartbeats 1000000 in
theorem sg_X12_set_12 {l : Launch} {d : Nat} {Q : Option Value → mx_H → Prop} {c : Nat} {I : mx_I} (x1 : Int32) (x2 : Int32) (x3 : Int32) (x4 : Int32)
    (q1 : (x4 = 0) → (¬ x1 = 1) → (¬ x1 = 2) → Q (some (.int 0)) (sk0 c, I))
    (k2 : (x4 = 0) → (¬ x1 = 1) → (x1 = 2) → mx_K1 l mX12_isOne d [.ref 120, .int x2] (sk0 c, I) (fun r h' => mx_Go l (mx_rm (d + 1) 0 0) mX12_set (mx_Z Q 0 0) 0 0 59 [.ref 120, .int x1, .int x2, .int x3] (r.toList ++ []) h'))
    (k3 : (x4 = 0) → (x1 = 1) → mx_K1 l mX12_isIn d [.int x3, .int 0, .int 1] (sk0 c, I) (fun r h' => mx_Go l (mx_rm (d + 1) 0 0) mX12_set (mx_Z Q 0 0) 0 0 36 [.ref 120, .int x1, .int x2, .int x3] (r.toList ++ []) h'))
    (q4 : (¬ x4 = 0) → Q (some (.int 1)) (sk0 c, (mx_set I 121 4 x3))) :
    mx_Go l (mx_rm (d + 1) 0 0) mX12_set (mx_Z Q 0 0) 0 0 12 [.ref 120, .int x1, .int x2, .int x3] [.int x4] (sk0 c, I) := by
  refine g_if_eq (tgt := 25) dX12_set_12 (by decide) (fun c1 => ?_) (fun c2 => ?_)
  · skip
    refine g_iload_n dX12_set_25 rfl rfl ?_
    refine g_iconst (v := 1) dX12_set_26 (by decide) ?_
    refine g_icmp_ne (tgt := 49) dX12_set_27 (by decide) (fun c3 => ?_) (fun c4 => ?_)
    · skip
      refine g_iload_n dX12_set_49 rfl rfl ?_
      refine g_iconst (v := 2) dX12_set_50 (by decide) ?_
      refine g_icmp_ne (tgt := 82) dX12_set_51 (by decide) (fun c5 => ?_) (fun c6 => ?_)
      · skip
        refine g_iconst (v := 0) dX12_set_82 (by decide) ?_
        exact g_zret (ty := .boolean) rfl rfl dX12_set_83 rfl (Nat.le_refl _) (q1 c1 c3 c5)
      · skip
        refine g_aload_n dX12_set_54 rfl rfl ?_
        refine g_iload_n dX12_set_55 rfl rfl ?_
        exact s_callV (M' := mX12_isOne) (As := [.int x2]) (st := []) dX12_set_56 lm_X12_77 ovX12_isOne (h := (sk0 c, I)) (sk_120 _) (show vwCl[12]? = some _ from rfl) rfl (by simp [Value.category]) (by decide) rfl (k2 c1 c3 c6)
    · skip
      refine g_iload_n dX12_set_30 rfl rfl ?_
      refine g_iconst (v := 0) dX12_set_31 (by decide) ?_
      refine g_iconst (v := 1) dX12_set_32 (by decide) ?_
      exact s_callS (M' := mX12_isIn) (As := [.int x3, .int 0, .int 1]) (st := []) dX12_set_33 lm_X12_50 okX12_isIn osX12_isIn (by simp [Value.category]) (by decide) rfl (k3 c1 c4)
  · skip
    refine g_aload_n dX12_set_15 rfl rfl ?_
    refine rg_X12_0 (r := 121) dX12_set_16 lf_X12_7 (sk_120 _) rfl ?_
    refine g_iconst (v := 4) dX12_set_19 (by decide) ?_
    refine g_iload_n dX12_set_20 rfl rfl ?_
    refine s_iast (j := 4) dX12_set_21 (sk_121 _) (by unfold vp_in; decide) (by decide) ?_
    refine g_goto (tgt := 84) dX12_set_22 (by decide) ?_
    refine g_iconst (v := 1) dX12_set_84 (by decide) ?_
    exact g_zret (ty := .boolean) rfl rfl dX12_set_85 rfl (Nat.le_refl _) (q4 c2)
set_option maxRecDepth 10000 in
set_option maxHeartbeats 1000000 in
theorem sg_X12_set_68 {l : Launch} {d : Nat} {Q : Option Value → mx_H → Prop} {c : Nat} {I : mx_I} (x1 : Int32) (x2 : Int32) (x3 : Int32) (x4 : Int32)
    (q1 : (x4 = 0) → Q (some (.int 0)) (sk0 c, I))
    (k2 : (¬ x4 = 0) → mx_K1 l mX12_gives d [.ref 120, .int x2, .int 11, .int x3] (sk0 c, I) (fun r h' => mx_Go l (mx_rm (d + 1) 0 0) mX12_set (mx_Z Q 0 0) 0 0 79 [.ref 120, .int x1, .int x2, .int x3] (r.toList ++ []) h')) :
    mx_Go l (mx_rm (d + 1) 0 0) mX12_set (mx_Z Q 0 0) 0 0 68 [.ref 120, .int x1, .int x2, .int x3] [.int x4] (sk0 c, I) := by
  refine g_if_eq (tgt := 82) dX12_set_68 (by decide) (fun c1 => ?_) (fun c2 => ?_)
  · skip
    refine g_iconst (v := 0) dX12_set_82 (by decide) ?_
    exact g_zret (ty := .boolean) rfl rfl dX12_set_83 rfl (Nat.le_refl _) (q1 c1)
  · skip
    refine g_aload_n dX12_set_71 rfl rfl ?_
    refine g_iload_n dX12_set_72 rfl rfl ?_
    refine g_bipush (v := 11) dX12_set_73 (by decide) ?_
    refine g_iload_n dX12_set_75 rfl rfl ?_
    exact s_callV (M' := mX12_gives) (As := [.int x2, .int 11, .int x3]) (st := []) dX12_set_76 lm_X12_74 ovX12_gives (h := (sk0 c, I)) (sk_120 _) (show vwCl[12]? = some _ from rfl) rfl (by simp [Value.category]) (by decide) rfl (k2 c2)
set_option maxRecDepth 10000 in
set_option maxHeartbeats 1000000 in
theorem sg_X12_set_79 {l : Launch} {d : Nat} {Q : Option Value → mx_H → Prop} {c : Nat} {I : mx_I} (x1 : Int32) (x2 : Int32) (x3 : Int32)
    (q1 : Q (some (.int 1)) (sk0 c, I)) :
    mx_Go l (mx_rm (d + 1) 0 0) mX12_set (mx_Z Q 0 0) 0 0 79 [.ref 120, .int x1, .int x2, .int x3] [] (sk0 c, I) := by
  refine g_goto (tgt := 84) dX12_set_79 (by decide) ?_
  refine g_iconst (v := 1) dX12_set_84 (by decide) ?_
  exact g_zret (ty := .boolean) rfl rfl dX12_set_85 rfl (Nat.le_refl _) (q1)
set_option maxRecDepth 10000 in
set_option maxHeartbeats 1000000 in
theorem sn_X12_feed {l : Launch} {d : Nat} {Q : Option Value → mx_H → Prop} {c : Nat} {I : mx_I} (a1 : Int32) (a2 : Int32) (a3 : Int32) (a4 : Int32) (a5 : Int32)
    (e1 : (((I 120 11) + 20) ≤ 400) → mx_Go l (mx_rm (d + 1) 0 0) mX12_feed (mx_Z Q 0 0) 0 0 18 [.ref 120, .int a1, .int a2, .int a3, .int a4, .int a5, .int 0, .retAddr 0] [] (sk0 c, I))
    (q2 : (¬ ((I 120 11) + 20) ≤ 400) → Q (some (.int (-1))) (sk0 c, I)) :
    mx_Spec l mX12_feed (d + 1) 0 0 [.ref 120, .int a1, .int a2, .int a3, .int a4, .int a5] (sk0 c, I) Q := by
  refine mx_enter rfl (by simp [Value.category]) (Nat.le_of_ble_eq_true rfl) ?_
  change mx_Go l (mx_rm (d + 1) 0 0) mX12_feed (mx_Z Q 0 0) 0 0 0 [.ref 120, .int a1, .int a2, .int a3, .int a4, .int a5, .retAddr 0, .retAddr 0] [] (sk0 c, I)
  refine g_aload_n dX12_feed_0 rfl rfl ?_
  refine rg_X12_11 (v := (I 120 11)) dX12_feed_1 lf_X12_84 (sk_120 _) rfl ?_
  refine g_bipush (v := 20) dX12_feed_4 (by decide) ?_
  refine g_iadd dX12_feed_6 ?_
  refine g_sipush (v := 400) dX12_feed_7 (by decide) ?_
  refine g_icmp_le (tgt := 15) dX12_feed_10 (by decide) (fun c1 => ?_) (fun c2 => ?_)
  · skip
    refine g_iconst (v := 0) dX12_feed_15 (by decide) ?_
    refine s_istore (L' := [.ref 120, .int a1, .int a2, .int a3, .int a4, .int a5, .int 0, .retAddr 0]) dX12_feed_16 (by decide) rfl rfl ?_
    exact e1 c1
  · skip
    refine g_iconst (v := (-1)) dX12_feed_13 (by decide) ?_
    exact g_iret rfl dX12_feed_14 rfl (Nat.le_refl _) (q2 c2)
set_option maxRecDepth 10000 in
set_option maxHeartbeats 1000000 in
theorem sg_X12_feed_18 {l : Launch} {d : Nat} {Q : Option Value → mx_H → Prop} {c : Nat} {I : mx_I} (x1 : Int32) (x2 : Int32) (x3 : Int32) (x4 : Int32) (x5 : Int32) (x6 : Int32)
    (q1 : (20 ≤ x6) → Q (some (.int (I 120 11))) (sk0 c, I))
    (b2 : (¬ 20 ≤ x6) → (4 ≤ x6) → (8 ≤ x6) → (12 ≤ x6) → (16 ≤ x6) → vp_in (I 120 11) 400)
    (e3 : (¬ 20 ≤ x6) → (4 ≤ x6) → (8 ≤ x6) → (12 ≤ x6) → (16 ≤ x6) → mx_Go l (mx_rm (d + 1) 0 0) mX12_feed (mx_Z Q 0 0) 0 0 18 [.ref 120, .int x1, .int x2, .int x3, .int x4, .int x5, .int (x6 + 1), .int x5] [] (sk0 c, (mx_set (mx_set I 126 (I 120 11).toNatClampNeg ((x5 >>> ((24 - (8 * (x6 - x6 / 4 * 4))) &&& 31)) &&& 255)) 120 11 ((I 120 11) + 1))))
    (b4 : (¬ 20 ≤ x6) → (4 ≤ x6) → (8 ≤ x6) → (12 ≤ x6) → (¬ 16 ≤ x6) → vp_in (I 120 11) 400)
    (e5 : (¬ 20 ≤ x6) → (4 ≤ x6) → (8 ≤ x6) → (12 ≤ x6) → (¬ 16 ≤ x6) → mx_Go l (mx_rm (d + 1) 0 0) mX12_feed (mx_Z Q 0 0) 0 0 18 [.ref 120, .int x1, .int x2, .int x3, .int x4, .int x5, .int (x6 + 1), .int x4] [] (sk0 c, (mx_set (mx_set I 126 (I 120 11).toNatClampNeg ((x4 >>> ((24 - (8 * (x6 - x6 / 4 * 4))) &&& 31)) &&& 255)) 120 11 ((I 120 11) + 1))))
    (b6 : (¬ 20 ≤ x6) → (4 ≤ x6) → (8 ≤ x6) → (¬ 12 ≤ x6) → vp_in (I 120 11) 400)
    (e7 : (¬ 20 ≤ x6) → (4 ≤ x6) → (8 ≤ x6) → (¬ 12 ≤ x6) → mx_Go l (mx_rm (d + 1) 0 0) mX12_feed (mx_Z Q 0 0) 0 0 18 [.ref 120, .int x1, .int x2, .int x3, .int x4, .int x5, .int (x6 + 1), .int x3] [] (sk0 c, (mx_set (mx_set I 126 (I 120 11).toNatClampNeg ((x3 >>> ((24 - (8 * (x6 - x6 / 4 * 4))) &&& 31)) &&& 255)) 120 11 ((I 120 11) + 1))))
    (b8 : (¬ 20 ≤ x6) → (4 ≤ x6) → (¬ 8 ≤ x6) → vp_in (I 120 11) 400)
    (e9 : (¬ 20 ≤ x6) → (4 ≤ x6) → (¬ 8 ≤ x6) → mx_Go l (mx_rm (d + 1) 0 0) mX12_feed (mx_Z Q 0 0) 0 0 18 [.ref 120, .int x1, .int x2, .int x3, .int x4, .int x5, .int (x6 + 1), .int x2] [] (sk0 c, (mx_set (mx_set I 126 (I 120 11).toNatClampNeg ((x2 >>> ((24 - (8 * (x6 - x6 / 4 * 4))) &&& 31)) &&& 255)) 120 11 ((I 120 11) + 1))))
    (b10 : (¬ 20 ≤ x6) → (¬ 4 ≤ x6) → vp_in (I 120 11) 400)
    (e11 : (¬ 20 ≤ x6) → (¬ 4 ≤ x6) → mx_Go l (mx_rm (d + 1) 0 0) mX12_feed (mx_Z Q 0 0) 0 0 18 [.ref 120, .int x1, .int x2, .int x3, .int x4, .int x5, .int (x6 + 1), .int x1] [] (sk0 c, (mx_set (mx_set I 126 (I 120 11).toNatClampNeg ((x1 >>> ((24 - (8 * (x6 - x6 / 4 * 4))) &&& 31)) &&& 255)) 120 11 ((I 120 11) + 1)))) :
    mx_Go l (mx_rm (d + 1) 0 0) mX12_feed (mx_Z Q 0 0) 0 0 18 [.ref 120, .int x1, .int x2, .int x3, .int x4, .int x5, .int x6, .retAddr 0] [] (sk0 c, I) := by
  refine g_iload dX12_feed_18 rfl ?_
  refine g_bipush (v := 20) dX12_feed_20 (by decide) ?_
  refine g_icmp_ge (tgt := 115) dX12_feed_22 (by decide) (fun c1 => ?_) (fun c2 => ?_)
  · skip
    refine g_aload_n dX12_feed_115 rfl rfl ?_
    refine rg_X12_11 (v := (I 120 11)) dX12_feed_116 lf_X12_84 (sk_120 _) rfl ?_
    exact g_iret rfl dX12_feed_119 rfl (Nat.le_refl _) (q1 c1)
  · skip
    refine g_iload dX12_feed_25 rfl ?_
    refine g_iconst (v := 4) dX12_feed_27 (by decide) ?_
    refine g_icmp_ge (tgt := 35) dX12_feed_28 (by decide) (fun c3 => ?_) (fun c4 => ?_)
    · skip
      refine g_iload dX12_feed_35 rfl ?_
      refine g_bipush (v := 8) dX12_feed_37 (by decide) ?_
      refine g_icmp_ge (tgt := 46) dX12_feed_39 (by decide) (fun c5 => ?_) (fun c6 => ?_)
      · skip
        refine g_iload dX12_feed_46 rfl ?_
        refine g_bipush (v := 12) dX12_feed_48 (by decide) ?_
        refine g_icmp_ge (tgt := 57) dX12_feed_50 (by decide) (fun c7 => ?_) (fun c8 => ?_)
        · skip
          refine g_iload dX12_feed_57 rfl ?_
          refine g_bipush (v := 16) dX12_feed_59 (by decide) ?_
          refine g_icmp_ge (tgt := 69) dX12_feed_61 (by decide) (fun c9 => ?_) (fun c10 => ?_)
          · skip
            refine g_iload dX12_feed_69 rfl ?_
            refine s_istore (L' := [.ref 120, .int x1, .int x2, .int x3, .int x4, .int x5, .int x6, .int x5]) dX12_feed_71 (by decide) rfl rfl ?_
            refine g_aload_n dX12_feed_73 rfl rfl ?_
            refine rg_X12_6 (r := 126) dX12_feed_74 lf_X12_25 (sk_120 _) rfl ?_
            refine g_aload_n dX12_feed_77 rfl rfl ?_
            refine rg_X12_11 (v := (I 120 11)) dX12_feed_78 lf_X12_84 (sk_120 _) rfl ?_
            refine g_iload dX12_feed_81 rfl ?_
            refine g_bipush (v := 24) dX12_feed_83 (by decide) ?_
            refine g_bipush (v := 8) dX12_feed_85 (by decide) ?_
            refine g_iload dX12_feed_87 rfl ?_
            refine g_iconst (v := 4) dX12_feed_89 (by decide) ?_
            refine g_irem dX12_feed_90 (by decide) ?_
            refine g_imul dX12_feed_91 ?_
            refine g_isub dX12_feed_92 ?_
            refine g_ishr dX12_feed_93 ?_
            refine g_sipush (v := 255) dX12_feed_94 (by decide) ?_
            refine g_iand dX12_feed_97 ?_
            refine s_iast (j := (I 120 11).toNatClampNeg) dX12_feed_98 (sk_126 _) (b2 c2 c3 c5 c7 c9) rfl ?_
            refine g_aload_n dX12_feed_99 rfl rfl ?_
            refine g_dup dX12_feed_100 rfl ?_
            refine rg_X12_11 (v := (I 120 11)) dX12_feed_101 lf_X12_84 (sk_120 _) (rd_ne (by decide) rfl) ?_
            refine g_iconst (v := 1) dX12_feed_104 (by decide) ?_
            refine g_iadd dX12_feed_105 ?_
            refine rp_X12_11 dX12_feed_106 lf_X12_84 (sk_120 _) ?_
            refine s_iinc (v := (x6 + 1)) (L' := [.ref 120, .int x1, .int x2, .int x3, .int x4, .int x5, .int (x6 + 1), .int x5]) dX12_feed_109 rfl (by decide) rfl rfl rfl ?_
            refine g_goto (tgt := 18) dX12_feed_112 (by decide) ?_
            exact e3 c2 c3 c5 c7 c9
          · skip
            refine g_iload dX12_feed_64 rfl ?_
            refine g_goto (tgt := 71) dX12_feed_66 (by decide) ?_
            refine s_istore (L' := [.ref 120, .int x1, .int x2, .int x3, .int x4, .int x5, .int x6, .int x4]) dX12_feed_71 (by decide) rfl rfl ?_
            refine g_aload_n dX12_feed_73 rfl rfl ?_
            refine rg_X12_6 (r := 126) dX12_feed_74 lf_X12_25 (sk_120 _) rfl ?_
            refine g_aload_n dX12_feed_77 rfl rfl ?_
            refine rg_X12_11 (v := (I 120 11)) dX12_feed_78 lf_X12_84 (sk_120 _) rfl ?_
            refine g_iload dX12_feed_81 rfl ?_
            refine g_bipush (v := 24) dX12_feed_83 (by decide) ?_
            refine g_bipush (v := 8) dX12_feed_85 (by decide) ?_
            refine g_iload dX12_feed_87 rfl ?_
            refine g_iconst (v := 4) dX12_feed_89 (by decide) ?_
            refine g_irem dX12_feed_90 (by decide) ?_
            refine g_imul dX12_feed_91 ?_
            refine g_isub dX12_feed_92 ?_
            refine g_ishr dX12_feed_93 ?_
            refine g_sipush (v := 255) dX12_feed_94 (by decide) ?_
            refine g_iand dX12_feed_97 ?_
            refine s_iast (j := (I 120 11).toNatClampNeg) dX12_feed_98 (sk_126 _) (b4 c2 c3 c5 c7 c10) rfl ?_
            refine g_aload_n dX12_feed_99 rfl rfl ?_
            refine g_dup dX12_feed_100 rfl ?_
            refine rg_X12_11 (v := (I 120 11)) dX12_feed_101 lf_X12_84 (sk_120 _) (rd_ne (by decide) rfl) ?_
            refine g_iconst (v := 1) dX12_feed_104 (by decide) ?_
            refine g_iadd dX12_feed_105 ?_
            refine rp_X12_11 dX12_feed_106 lf_X12_84 (sk_120 _) ?_
            refine s_iinc (v := (x6 + 1)) (L' := [.ref 120, .int x1, .int x2, .int x3, .int x4, .int x5, .int (x6 + 1), .int x4]) dX12_feed_109 rfl (by decide) rfl rfl rfl ?_
            refine g_goto (tgt := 18) dX12_feed_112 (by decide) ?_
            exact e5 c2 c3 c5 c7 c10
        · skip
          refine g_iload_n dX12_feed_53 rfl rfl ?_
          refine g_goto (tgt := 71) dX12_feed_54 (by decide) ?_
          refine s_istore (L' := [.ref 120, .int x1, .int x2, .int x3, .int x4, .int x5, .int x6, .int x3]) dX12_feed_71 (by decide) rfl rfl ?_
          refine g_aload_n dX12_feed_73 rfl rfl ?_
          refine rg_X12_6 (r := 126) dX12_feed_74 lf_X12_25 (sk_120 _) rfl ?_
          refine g_aload_n dX12_feed_77 rfl rfl ?_
          refine rg_X12_11 (v := (I 120 11)) dX12_feed_78 lf_X12_84 (sk_120 _) rfl ?_
          refine g_iload dX12_feed_81 rfl ?_
          refine g_bipush (v := 24) dX12_feed_83 (by decide) ?_
          refine g_bipush (v := 8) dX12_feed_85 (by decide) ?_
          refine g_iload dX12_feed_87 rfl ?_
          refine g_iconst (v := 4) dX12_feed_89 (by decide) ?_
          refine g_irem dX12_feed_90 (by decide) ?_
          refine g_imul dX12_feed_91 ?_
          refine g_isub dX12_feed_92 ?_
          refine g_ishr dX12_feed_93 ?_
          refine g_sipush (v := 255) dX12_feed_94 (by decide) ?_
          refine g_iand dX12_feed_97 ?_
          refine s_iast (j := (I 120 11).toNatClampNeg) dX12_feed_98 (sk_126 _) (b6 c2 c3 c5 c8) rfl ?_
          refine g_aload_n dX12_feed_99 rfl rfl ?_
          refine g_dup dX12_feed_100 rfl ?_
          refine rg_X12_11 (v := (I 120 11)) dX12_feed_101 lf_X12_84 (sk_120 _) (rd_ne (by decide) rfl) ?_
          refine g_iconst (v := 1) dX12_feed_104 (by decide) ?_
          refine g_iadd dX12_feed_105 ?_
          refine rp_X12_11 dX12_feed_106 lf_X12_84 (sk_120 _) ?_
          refine s_iinc (v := (x6 + 1)) (L' := [.ref 120, .int x1, .int x2, .int x3, .int x4, .int x5, .int (x6 + 1), .int x3]) dX12_feed_109 rfl (by decide) rfl rfl rfl ?_
          refine g_goto (tgt := 18) dX12_feed_112 (by decide) ?_
          exact e7 c2 c3 c5 c8
      · skip
        refine g_iload_n dX12_feed_42 rfl rfl ?_
        refine g_goto (tgt := 71) dX12_feed_43 (by decide) ?_
        refine s_istore (L' := [.ref 120, .int x1, .int x2, .int x3, .int x4, .int x5, .int x6, .int x2]) dX12_feed_71 (by decide) rfl rfl ?_
        refine g_aload_n dX12_feed_73 rfl rfl ?_
        refine rg_X12_6 (r := 126) dX12_feed_74 lf_X12_25 (sk_120 _) rfl ?_
        refine g_aload_n dX12_feed_77 rfl rfl ?_
        refine rg_X12_11 (v := (I 120 11)) dX12_feed_78 lf_X12_84 (sk_120 _) rfl ?_
        refine g_iload dX12_feed_81 rfl ?_
        refine g_bipush (v := 24) dX12_feed_83 (by decide) ?_
        refine g_bipush (v := 8) dX12_feed_85 (by decide) ?_
        refine g_iload dX12_feed_87 rfl ?_
        refine g_iconst (v := 4) dX12_feed_89 (by decide) ?_
        refine g_irem dX12_feed_90 (by decide) ?_
        refine g_imul dX12_feed_91 ?_
        refine g_isub dX12_feed_92 ?_
        refine g_ishr dX12_feed_93 ?_
        refine g_sipush (v := 255) dX12_feed_94 (by decide) ?_
        refine g_iand dX12_feed_97 ?_
        refine s_iast (j := (I 120 11).toNatClampNeg) dX12_feed_98 (sk_126 _) (b8 c2 c3 c6) rfl ?_
        refine g_aload_n dX12_feed_99 rfl rfl ?_
        refine g_dup dX12_feed_100 rfl ?_
        refine rg_X12_11 (v := (I 120 11)) dX12_feed_101 lf_X12_84 (sk_120 _) (rd_ne (by decide) rfl) ?_
        refine g_iconst (v := 1) dX12_feed_104 (by decide) ?_
        refine g_iadd dX12_feed_105 ?_
        refine rp_X12_11 dX12_feed_106 lf_X12_84 (sk_120 _) ?_
        refine s_iinc (v := (x6 + 1)) (L' := [.ref 120, .int x1, .int x2, .int x3, .int x4, .int x5, .int (x6 + 1), .int x2]) dX12_feed_109 rfl (by decide) rfl rfl rfl ?_
        refine g_goto (tgt := 18) dX12_feed_112 (by decide) ?_
        exact e9 c2 c3 c6
    · skip
      refine g_iload_n dX12_feed_31 rfl rfl ?_
      refine g_goto (tgt := 71) dX12_feed_32 (by decide) ?_
      refine s_istore (L' := [.ref 120, .int x1, .int x2, .int x3, .int x4, .int x5, .int x6, .int x1]) dX12_feed_71 (by decide) rfl rfl ?_
      refine g_aload_n dX12_feed_73 rfl rfl ?_
      refine rg_X12_6 (r := 126) dX12_feed_74 lf_X12_25 (sk_120 _) rfl ?_
      refine g_aload_n dX12_feed_77 rfl rfl ?_
      refine rg_X12_11 (v := (I 120 11)) dX12_feed_78 lf_X12_84 (sk_120 _) rfl ?_
      refine g_iload dX12_feed_81 rfl ?_
      refine g_bipush (v := 24) dX12_feed_83 (by decide) ?_
      refine g_bipush (v := 8) dX12_feed_85 (by decide) ?_
      refine g_iload dX12_feed_87 rfl ?_
      refine g_iconst (v := 4) dX12_feed_89 (by decide) ?_
      refine g_irem dX12_feed_90 (by decide) ?_
      refine g_imul dX12_feed_91 ?_
      refine g_isub dX12_feed_92 ?_
      refine g_ishr dX12_feed_93 ?_
      refine g_sipush (v := 255) dX12_feed_94 (by decide) ?_
      refine g_iand dX12_feed_97 ?_
      refine s_iast (j := (I 120 11).toNatClampNeg) dX12_feed_98 (sk_126 _) (b10 c2 c4) rfl ?_
      refine g_aload_n dX12_feed_99 rfl rfl ?_
      refine g_dup dX12_feed_100 rfl ?_
      refine rg_X12_11 (v := (I 120 11)) dX12_feed_101 lf_X12_84 (sk_120 _) (rd_ne (by decide) rfl) ?_
      refine g_iconst (v := 1) dX12_feed_104 (by decide) ?_
      refine g_iadd dX12_feed_105 ?_
      refine rp_X12_11 dX12_feed_106 lf_X12_84 (sk_120 _) ?_
      refine s_iinc (v := (x6 + 1)) (L' := [.ref 120, .int x1, .int x2, .int x3, .int x4, .int x5, .int (x6 + 1), .int x1]) dX12_feed_109 rfl (by decide) rfl rfl rfl ?_
      refine g_goto (tgt := 18) dX12_feed_112 (by decide) ?_
      exact e11 c2 c4
set_option maxRecDepth 10000 in
set_option maxHeartbeats 1000000 in
theorem sn_X12_end {l : Launch} {d : Nat} {Q : Option Value → mx_H → Prop} {c : Nat} {I : mx_I} (a1 : Int32)
    (k1 : mx_K1 l mX12_isIn d [.int a1, .int 0, .int (I 120 11)] (sk0 c, I) (fun r h' => mx_Go l (mx_rm (d + 1) 0 0) mX12_end (mx_Z Q 0 0) 0 0 9 [.ref 120, .int a1] (r.toList ++ []) h')) :
    mx_Spec l mX12_end (d + 1) 0 0 [.ref 120, .int a1] (sk0 c, I) Q := by
  refine mx_enter rfl (by simp [Value.category]) (Nat.le_of_ble_eq_true rfl) ?_
  change mx_Go l (mx_rm (d + 1) 0 0) mX12_end (mx_Z Q 0 0) 0 0 0 [.ref 120, .int a1] [] (sk0 c, I)
  refine g_iload_n dX12_end_0 rfl rfl ?_
  refine g_iconst (v := 0) dX12_end_1 (by decide) ?_
  refine g_aload_n dX12_end_2 rfl rfl ?_
  refine rg_X12_11 (v := (I 120 11)) dX12_end_3 lf_X12_84 (sk_120 _) rfl ?_
  exact s_callS (M' := mX12_isIn) (As := [.int a1, .int 0, .int (I 120 11)]) (st := []) dX12_end_6 lm_X12_50 okX12_isIn osX12_isIn (by simp [Value.category]) (by decide) rfl (k1)
set_option maxRecDepth 10000 in
set_option maxHeartbeats 1000000 in
theorem sg_X12_end_9 {l : Launch} {d : Nat} {Q : Option Value → mx_H → Prop} {c : Nat} {I : mx_I} (x1 : Int32) (x2 : Int32)
    (q1 : (¬ x2 = 0) → Q (some (.int 1)) (sk0 c, (mx_set I 120 11 x1)))
    (q2 : (x2 = 0) → Q (some (.int 0)) (sk0 c, I)) :
    mx_Go l (mx_rm (d + 1) 0 0) mX12_end (mx_Z Q 0 0) 0 0 9 [.ref 120, .int x1] [.int x2] (sk0 c, I) := by
  refine g_if_ne (tgt := 14) dX12_end_9 (by decide) (fun c1 => ?_) (fun c2 => ?_)
  · skip
    refine g_aload_n dX12_end_14 rfl rfl ?_
    refine g_iload_n dX12_end_15 rfl rfl ?_
    refine rp_X12_11 dX12_end_16 lf_X12_84 (sk_120 _) ?_
    refine g_iconst (v := 1) dX12_end_19 (by decide) ?_
    exact g_zret (ty := .boolean) rfl rfl dX12_end_20 rfl (Nat.le_refl _) (q1 c1)
  · skip
    refine g_iconst (v := 0) dX12_end_12 (by decide) ?_
    exact g_zret (ty := .boolean) rfl rfl dX12_end_13 rfl (Nat.le_refl _) (q2 c2)
set_option maxRecDepth 10000 in
set_option maxHeartbeats 1000000 in
theorem sn_X12_see {l : Launch} {d : Nat} {Q : Option Value → mx_H → Prop} {c : Nat} {I : mx_I} (a1 : Int32)
    (q1 : ((I 120 11) ≤ a1) → Q (some (.int (-1))) (sk0 c, I))
    (b2 : (¬ (I 120 11) ≤ a1) → vp_in a1 400)
    (q3 : (¬ (I 120 11) ≤ a1) → Q (some (.int (I 126 a1.toNatClampNeg))) (sk0 c, I)) :
    mx_Spec l mX12_see (d + 1) 0 0 [.ref 120, .int a1] (sk0 c, I) Q := by
  refine mx_enter rfl (by simp [Value.category]) (Nat.le_of_ble_eq_true rfl) ?_
  change mx_Go l (mx_rm (d + 1) 0 0) mX12_see (mx_Z Q 0 0) 0 0 0 [.ref 120, .int a1] [] (sk0 c, I)
  refine g_iload_n dX12_see_0 rfl rfl ?_
  refine g_aload_n dX12_see_1 rfl rfl ?_
  refine rg_X12_11 (v := (I 120 11)) dX12_see_2 lf_X12_84 (sk_120 _) rfl ?_
  refine g_icmp_ge (tgt := 17) dX12_see_5 (by decide) (fun c1 => ?_) (fun c2 => ?_)
  · skip
    refine g_iconst (v := (-1)) dX12_see_17 (by decide) ?_
    exact g_iret rfl dX12_see_18 rfl (Nat.le_refl _) (q1 c1)
  · skip
    refine g_aload_n dX12_see_8 rfl rfl ?_
    refine rg_X12_6 (r := 126) dX12_see_9 lf_X12_25 (sk_120 _) rfl ?_
    refine g_iload_n dX12_see_12 rfl rfl ?_
    refine s_iald (j := a1.toNatClampNeg) (v := (I 126 a1.toNatClampNeg)) dX12_see_13 (sk_126 _) (b2 c2) rfl rfl ?_
    refine g_goto (tgt := 18) dX12_see_14 (by decide) ?_
    exact g_iret rfl dX12_see_18 rfl (Nat.le_refl _) (q3 c2)
set_option maxRecDepth 10000 in
set_option maxHeartbeats 1000000 in
theorem sn_X12_isLetter {l : Launch} {d : Nat} {Q : Option Value → mx_H → Prop} {c : Nat} {I : mx_I} (a1 : Int32)
    (k1 : mx_K1 l mX12_isIn d [.int a1, .int 97, .int 122] (sk0 c, I) (fun r h' => mx_Go l (mx_rm (d + 1) 0 0) mX12_isLetter (mx_Z Q 0 0) 0 0 8 [.int a1] (r.toList ++ []) h')) :
    mx_Spec l mX12_isLetter (d + 1) 0 0 [.int a1] (sk0 c, I) Q := by
  refine mx_enter rfl (by simp [Value.category]) (Nat.le_of_ble_eq_true rfl) ?_
  change mx_Go l (mx_rm (d + 1) 0 0) mX12_isLetter (mx_Z Q 0 0) 0 0 0 [.int a1] [] (sk0 c, I)
  refine g_iload_n dX12_isLetter_0 rfl rfl ?_
  refine g_bipush (v := 97) dX12_isLetter_1 (by decide) ?_
  refine g_bipush (v := 122) dX12_isLetter_3 (by decide) ?_
  exact s_callS (M' := mX12_isIn) (As := [.int a1, .int 97, .int 122]) (st := []) dX12_isLetter_5 lm_X12_50 okX12_isIn osX12_isIn (by simp [Value.category]) (by decide) rfl (k1)
set_option maxRecDepth 10000 in
set_option maxHeartbeats 1000000 in
theorem sg_X12_isLetter_8 {l : Launch} {d : Nat} {Q : Option Value → mx_H → Prop} {c : Nat} {I : mx_I} (x1 : Int32) (x2 : Int32)
    (q1 : (¬ x2 = 0) → Q (some (.int 1)) (sk0 c, I))
    (k2 : (x2 = 0) → mx_K1 l mX12_isIn d [.int x1, .int 65, .int 90] (sk0 c, I) (fun r h' => mx_Go l (mx_rm (d + 1) 0 0) mX12_isLetter (mx_Z Q 0 0) 0 0 19 [.int x1] (r.toList ++ []) h')) :
    mx_Go l (mx_rm (d + 1) 0 0) mX12_isLetter (mx_Z Q 0 0) 0 0 8 [.int x1] [.int x2] (sk0 c, I) := by
  refine g_if_ne (tgt := 22) dX12_isLetter_8 (by decide) (fun c1 => ?_) (fun c2 => ?_)
  · skip
    refine g_iconst (v := 1) dX12_isLetter_22 (by decide) ?_
    refine g_goto (tgt := 27) dX12_isLetter_23 (by decide) ?_
    exact g_zret (ty := .boolean) rfl rfl dX12_isLetter_27 rfl (Nat.le_refl _) (q1 c1)
  · skip
    refine g_iload_n dX12_isLetter_11 rfl rfl ?_
    refine g_bipush (v := 65) dX12_isLetter_12 (by decide) ?_
    refine g_bipush (v := 90) dX12_isLetter_14 (by decide) ?_
    exact s_callS (M' := mX12_isIn) (As := [.int x1, .int 65, .int 90]) (st := []) dX12_isLetter_16 lm_X12_50 okX12_isIn osX12_isIn (by simp [Value.category]) (by decide) rfl (k2 c2)
set_option maxRecDepth 10000 in
set_option maxHeartbeats 1000000 in
theorem sg_X12_isLetter_19 {l : Launch} {d : Nat} {Q : Option Value → mx_H → Prop} {c : Nat} {I : mx_I} (x1 : Int32) (x2 : Int32)
    (q1 : (x2 = 0) → Q (some (.int 0)) (sk0 c, I))
    (q2 : (¬ x2 = 0) → Q (some (.int 1)) (sk0 c, I)) :
    mx_Go l (mx_rm (d + 1) 0 0) mX12_isLetter (mx_Z Q 0 0) 0 0 19 [.int x1] [.int x2] (sk0 c, I) := by
  refine g_if_eq (tgt := 26) dX12_isLetter_19 (by decide) (fun c1 => ?_) (fun c2 => ?_)
  · skip
    refine g_iconst (v := 0) dX12_isLetter_26 (by decide) ?_
    exact g_zret (ty := .boolean) rfl rfl dX12_isLetter_27 rfl (Nat.le_refl _) (q1 c1)
  · skip
    refine g_iconst (v := 1) dX12_isLetter_22 (by decide) ?_
    refine g_goto (tgt := 27) dX12_isLetter_23 (by decide) ?_
    exact g_zret (ty := .boolean) rfl rfl dX12_isLetter_27 rfl (Nat.le_refl _) (q2 c2)
set_option maxRecDepth 10000 in
set_option maxHeartbeats 1000000 in
theorem sn_X12_isDigit {l : Launch} {d : Nat} {Q : Option Value → mx_H → Prop} {c : Nat} {I : mx_I} (a1 : Int32)
    (k1 : mx_K1 l mX12_isIn d [.int a1, .int 48, .int 57] (sk0 c, I) (fun r h' => mx_Go l (mx_rm (d + 1) 0 0) mX12_isDigit (mx_Z Q 0 0) 0 0 8 [.int a1] (r.toList ++ []) h')) :
    mx_Spec l mX12_isDigit (d + 1) 0 0 [.int a1] (sk0 c, I) Q := by
  refine mx_enter rfl (by simp [Value.category]) (Nat.le_of_ble_eq_true rfl) ?_
  change mx_Go l (mx_rm (d + 1) 0 0) mX12_isDigit (mx_Z Q 0 0) 0 0 0 [.int a1] [] (sk0 c, I)
  refine g_iload_n dX12_isDigit_0 rfl rfl ?_
  refine g_bipush (v := 48) dX12_isDigit_1 (by decide) ?_
  refine g_bipush (v := 57) dX12_isDigit_3 (by decide) ?_
  exact s_callS (M' := mX12_isIn) (As := [.int a1, .int 48, .int 57]) (st := []) dX12_isDigit_5 lm_X12_50 okX12_isIn osX12_isIn (by simp [Value.category]) (by decide) rfl (k1)
set_option maxRecDepth 10000 in
set_option maxHeartbeats 1000000 in
theorem sg_X12_isDigit_8 {l : Launch} {d : Nat} {Q : Option Value → mx_H → Prop} {c : Nat} {I : mx_I} (x1 : Int32) (x2 : Int32)
    (q1 : Q (some (.int x2)) (sk0 c, I))
    (n2 : x2 = 0 ∨ x2 = 1) :
    mx_Go l (mx_rm (d + 1) 0 0) mX12_isDigit (mx_Z Q 0 0) 0 0 8 [.int x1] [.int x2] (sk0 c, I) := by
  exact g_zret (ty := .boolean) rfl (nb_01 (n2)) dX12_isDigit_8 rfl (Nat.le_refl _) (q1)
set_option maxRecDepth 10000 in
set_option maxHeartbeats 1000000 in
theorem sn_X12_is {l : Launch} {d : Nat} {Q : Option Value → mx_H → Prop} {c : Nat} {I : mx_I} (sr : Nat)
    (t1 : mx_Go l (mx_rm (d + 1) 0 0) mX12_is (mx_Z Q 0 0) 0 0 10 [.ref 120, .ref sr, .retAddr 0, .retAddr 0] [.ref sr, .int ((I 120 12) - (I 120 14))] (sk0 c, I)) :
    mx_Spec l mX12_is (d + 1) 0 0 [.ref 120, .ref sr] (sk0 c, I) Q := by
  refine mx_enter rfl (by simp [Value.category]) (Nat.le_of_ble_eq_true rfl) ?_
  change mx_Go l (mx_rm (d + 1) 0 0) mX12_is (mx_Z Q 0 0) 0 0 0 [.ref 120, .ref sr, .retAddr 0, .retAddr 0] [] (sk0 c, I)
  refine g_aload_n dX12_is_0 rfl rfl ?_
  refine rg_X12_12 (v := (I 120 12)) dX12_is_1 lf_X12_87 (sk_120 _) rfl ?_
  refine g_aload_n dX12_is_4 rfl rfl ?_
  refine rg_X12_14 (v := (I 120 14)) dX12_is_5 lf_X12_90 (sk_120 _) rfl ?_
  refine g_isub dX12_is_8 ?_
  refine g_aload_n dX12_is_9 rfl rfl ?_
  exact t1
set_option maxRecDepth 10000 in
set_option maxHeartbeats 1000000 in
theorem sg_X12_is_13 {l : Launch} {d : Nat} {Q : Option Value → mx_H → Prop} {c : Nat} {I : mx_I} (sr : Nat) (x1 : Nat) (x2 : Int32) (x3 : Int32)
    (e1 : (¬ x3 = x2) → mx_Go l (mx_rm (d + 1) 0 0) mX12_is (mx_Z Q 0 0) 0 0 24 [.ref 120, .ref x1, .int 0, .int 0] [] (sk0 c, I))
    (e2 : (x3 = x2) → mx_Go l (mx_rm (d + 1) 0 0) mX12_is (mx_Z Q 0 0) 0 0 24 [.ref 120, .ref x1, .int 1, .int 0] [] (sk0 c, I)) :
    mx_Go l (mx_rm (d + 1) 0 0) mX12_is (mx_Z Q 0 0) 0 0 13 [.ref 120, .ref x1, .retAddr 0, .retAddr 0] [.int x2, .int x3] (sk0 c, I) := by
  refine g_icmp_ne (tgt := 20) dX12_is_13 (by decide) (fun c1 => ?_) (fun c2 => ?_)
  · skip
    refine g_iconst (v := 0) dX12_is_20 (by decide) ?_
    refine s_istore_n (L' := [.ref 120, .ref x1, .int 0, .retAddr 0]) dX12_is_21 rfl (by decide) rfl rfl ?_
    refine g_iconst (v := 0) dX12_is_22 (by decide) ?_
    refine s_istore_n (L' := [.ref 120, .ref x1, .int 0, .int 0]) dX12_is_23 rfl (by decide) rfl rfl ?_
    exact e1 c1
  · skip
    refine g_iconst (v := 1) dX12_is_16 (by decide) ?_
    refine g_goto (tgt := 21) dX12_is_17 (by decide) ?_
    refine s_istore_n (L' := [.ref 120, .ref x1, .int 1, .retAddr 0]) dX12_is_21 rfl (by decide) rfl rfl ?_
    refine g_iconst (v := 0) dX12_is_22 (by decide) ?_
    refine s_istore_n (L' := [.ref 120, .ref x1, .int 1, .int 0]) dX12_is_23 rfl (by decide) rfl rfl ?_
    exact e2 c2
set_option maxRecDepth 10000 in
set_option maxHeartbeats 1000000 in
theorem sg_X12_is_24 {l : Launch} {d : Nat} {Q : Option Value → mx_H → Prop} {c : Nat} {I : mx_I} (sr : Nat) (x1 : Nat) (x2 : Int32) (x3 : Int32)
    (t1 : mx_Go l (mx_rm (d + 1) 0 0) mX12_is (mx_Z Q 0 0) 0 0 26 [.ref 120, .ref x1, .int x2, .int x3] [.ref x1, .int x3] (sk0 c, I)) :
    mx_Go l (mx_rm (d + 1) 0 0) mX12_is (mx_Z Q 0 0) 0 0 24 [.ref 120, .ref x1, .int x2, .int x3] [] (sk0 c, I) := by
  refine g_iload_n dX12_is_24 rfl rfl ?_
  refine g_aload_n dX12_is_25 rfl rfl ?_
  exact t1
set_option maxRecDepth 10000 in
set_option maxHeartbeats 1000000 in
theorem sg_X12_is_29 {l : Launch} {d : Nat} {Q : Option Value → mx_H → Prop} {c : Nat} {I : mx_I} (sr : Nat) (x1 : Nat) (x2 : Int32) (x3 : Int32) (x4 : Int32) (x5 : Int32)
    (q1 : (x4 ≤ x5) → Q (some (.int x2)) (sk0 c, I))
    (n2 : (x4 ≤ x5) → x2 = 0 ∨ x2 = 1)
    (q3 : (¬ x4 ≤ x5) → (x2 = 0) → Q (some (.int x2)) (sk0 c, I))
    (n4 : (¬ x4 ≤ x5) → (x2 = 0) → x2 = 0 ∨ x2 = 1)
    (b5 : (¬ x4 ≤ x5) → (¬ x2 = 0) → vp_in ((I 120 14) + x3) 400)
    (t6 : (¬ x4 ≤ x5) → (¬ x2 = 0) → mx_Go l (mx_rm (d + 1) 0 0) mX12_is (mx_Z Q 0 0) 0 0 49 [.ref 120, .ref x1, .int x2, .int x3] [.int x3, .ref x1, .int (I 126 ((I 120 14) + x3).toNatClampNeg)] (sk0 c, I)) :
    mx_Go l (mx_rm (d + 1) 0 0) mX12_is (mx_Z Q 0 0) 0 0 29 [.ref 120, .ref x1, .int x2, .int x3] [.int x4, .int x5] (sk0 c, I) := by
  refine g_icmp_ge (tgt := 67) dX12_is_29 (by decide) (fun c1 => ?_) (fun c2 => ?_)
  · skip
    refine g_iload_n dX12_is_67 rfl rfl ?_
    exact g_zret (ty := .boolean) rfl (nb_01 (n2 c1)) dX12_is_68 rfl (Nat.le_refl _) (q1 c1)
  · skip
    refine g_iload_n dX12_is_32 rfl rfl ?_
    refine g_if_eq (tgt := 67) dX12_is_33 (by decide) (fun c3 => ?_) (fun c4 => ?_)
    · skip
      refine g_iload_n dX12_is_67 rfl rfl ?_
      exact g_zret (ty := .boolean) rfl (nb_01 (n4 c2 c3)) dX12_is_68 rfl (Nat.le_refl _) (q3 c2 c3)
    · skip
      refine g_aload_n dX12_is_36 rfl rfl ?_
      refine rg_X12_6 (r := 126) dX12_is_37 lf_X12_25 (sk_120 _) rfl ?_
      refine g_aload_n dX12_is_40 rfl rfl ?_
      refine rg_X12_14 (v := (I 120 14)) dX12_is_41 lf_X12_90 (sk_120 _) rfl ?_
      refine g_iload_n dX12_is_44 rfl rfl ?_
      refine g_iadd dX12_is_45 ?_
      refine s_iald (j := ((I 120 14) + x3).toNatClampNeg) (v := (I 126 ((I 120 14) + x3).toNatClampNeg)) dX12_is_46 (sk_126 _) (b5 c2 c4) rfl rfl ?_
      refine g_aload_n dX12_is_47 rfl rfl ?_
      refine g_iload_n dX12_is_48 rfl rfl ?_
      exact t6 c2 c4
set_option maxRecDepth 10000 in
set_option maxHeartbeats 1000000 in
theorem sg_X12_is_52 {l : Launch} {d : Nat} {Q : Option Value → mx_H → Prop} {c : Nat} {I : mx_I} (sr : Nat) (x1 : Nat) (x2 : Int32) (x3 : Int32) (x4 : Int32) (x5 : Int32)
    (e1 : (¬ x5 = x4) → mx_Go l (mx_rm (d + 1) 0 0) mX12_is (mx_Z Q 0 0) 0 0 24 [.ref 120, .ref x1, .int 0, .int (x3 + 1)] [] (sk0 c, I))
    (e2 : (x5 = x4) → mx_Go l (mx_rm (d + 1) 0 0) mX12_is (mx_Z Q 0 0) 0 0 24 [.ref 120, .ref x1, .int 1, .int (x3 + 1)] [] (sk0 c, I)) :
    mx_Go l (mx_rm (d + 1) 0 0) mX12_is (mx_Z Q 0 0) 0 0 52 [.ref 120, .ref x1, .int x2, .int x3] [.int x4, .int x5] (sk0 c, I) := by
  refine g_icmp_ne (tgt := 59) dX12_is_52 (by decide) (fun c1 => ?_) (fun c2 => ?_)
  · skip
    refine g_iconst (v := 0) dX12_is_59 (by decide) ?_
    refine s_istore_n (L' := [.ref 120, .ref x1, .int 0, .int x3]) dX12_is_60 rfl (by decide) rfl rfl ?_
    refine s_iinc (v := (x3 + 1)) (L' := [.ref 120, .ref x1, .int 0, .int (x3 + 1)]) dX12_is_61 rfl (by decide) rfl rfl rfl ?_
    refine g_goto (tgt := 24) dX12_is_64 (by decide) ?_
    exact e1 c1
  · skip
    refine g_iconst (v := 1) dX12_is_55 (by decide) ?_
    refine g_goto (tgt := 60) dX12_is_56 (by decide) ?_
    refine s_istore_n (L' := [.ref 120, .ref x1, .int 1, .int x3]) dX12_is_60 rfl (by decide) rfl rfl ?_
    refine s_iinc (v := (x3 + 1)) (L' := [.ref 120, .ref x1, .int 1, .int (x3 + 1)]) dX12_is_61 rfl (by decide) rfl rfl rfl ?_
    refine g_goto (tgt := 24) dX12_is_64 (by decide) ?_
    exact e2 c2
set_option maxRecDepth 10000 in
set_option maxHeartbeats 1000000 in
theorem sn_X12_nameWord {l : Launch} {d : Nat} {Q : Option Value → mx_H → Prop} {c : Nat} {I : mx_I}
    (k1 : mx_K1 l mX12_is d [.ref 120, .ref 1021] (sk0 c, I) (fun r h' => mx_Go l (mx_rm (d + 1) 0 0) mX12_nameWord (mx_Z Q 0 0) 0 0 6 [.ref 120] (r.toList ++ []) h')) :
    mx_Spec l mX12_nameWord (d + 1) 0 0 [.ref 120] (sk0 c, I) Q := by
  refine mx_enter rfl (by simp [Value.category]) (Nat.le_of_ble_eq_true rfl) ?_
  change mx_Go l (mx_rm (d + 1) 0 0) mX12_nameWord (mx_Z Q 0 0) 0 0 0 [.ref 120] [] (sk0 c, I)
  refine g_aload_n dX12_nameWord_0 rfl rfl ?_
  refine g_ldcS (i := 20) dX12_nameWord_1 rfl ?_
  exact s_callV (M' := mX12_is) (As := [.ref 1021]) (st := []) dX12_nameWord_3 lm_X12_105 ovX12_is (h := (sk0 c, I)) (sk_120 _) (show vwCl[12]? = some _ from rfl) rfl (by simp [Value.category]) (by decide) rfl (k1)
set_option maxRecDepth 10000 in
set_option maxHeartbeats 1000000 in
theorem sg_X12_nameWord_6 {l : Launch} {d : Nat} {Q : Option Value → mx_H → Prop} {c : Nat} {I : mx_I} (x1 : Int32)
    (k1 : (x1 = 0) → mx_K1 l mX12_is d [.ref 120, .ref 1022] (sk0 c, I) (fun r h' => mx_Go l (mx_rm (d + 1) 0 0) mX12_nameWord (mx_Z Q 0 0) 0 0 18 [.ref 120] (r.toList ++ []) h'))
    (q2 : (¬ x1 = 0) → Q (some (.int 41)) (sk0 c, I)) :
    mx_Go l (mx_rm (d + 1) 0 0) mX12_nameWord (mx_Z Q 0 0) 0 0 6 [.ref 120] [.int x1] (sk0 c, I) := by
  refine g_if_eq (tgt := 12) dX12_nameWord_6 (by decide) (fun c1 => ?_) (fun c2 => ?_)
  · skip
    refine g_aload_n dX12_nameWord_12 rfl rfl ?_
    refine g_ldcS (i := 21) dX12_nameWord_13 rfl ?_
    exact s_callV (M' := mX12_is) (As := [.ref 1022]) (st := []) dX12_nameWord_15 lm_X12_105 ovX12_is (h := (sk0 c, I)) (sk_120 _) (show vwCl[12]? = some _ from rfl) rfl (by simp [Value.category]) (by decide) rfl (k1 c1)
  · skip
    refine g_bipush (v := 41) dX12_nameWord_9 (by decide) ?_
    exact g_iret rfl dX12_nameWord_11 rfl (Nat.le_refl _) (q2 c2)
set_option maxRecDepth 10000 in
set_option maxHeartbeats 1000000 in
theorem sg_X12_nameWord_18 {l : Launch} {d : Nat} {Q : Option Value → mx_H → Prop} {c : Nat} {I : mx_I} (x1 : Int32)
    (k1 : (x1 = 0) → mx_K1 l mX12_is d [.ref 120, .ref 1023] (sk0 c, I) (fun r h' => mx_Go l (mx_rm (d + 1) 0 0) mX12_nameWord (mx_Z Q 0 0) 0 0 30 [.ref 120] (r.toList ++ []) h'))
    (q2 : (¬ x1 = 0) → Q (some (.int 42)) (sk0 c, I)) :
    mx_Go l (mx_rm (d + 1) 0 0) mX12_nameWord (mx_Z Q 0 0) 0 0 18 [.ref 120] [.int x1] (sk0 c, I) := by
  refine g_if_eq (tgt := 24) dX12_nameWord_18 (by decide) (fun c1 => ?_) (fun c2 => ?_)
  · skip
    refine g_aload_n dX12_nameWord_24 rfl rfl ?_
    refine g_ldcS (i := 22) dX12_nameWord_25 rfl ?_
    exact s_callV (M' := mX12_is) (As := [.ref 1023]) (st := []) dX12_nameWord_27 lm_X12_105 ovX12_is (h := (sk0 c, I)) (sk_120 _) (show vwCl[12]? = some _ from rfl) rfl (by simp [Value.category]) (by decide) rfl (k1 c1)
  · skip
    refine g_bipush (v := 42) dX12_nameWord_21 (by decide) ?_
    exact g_iret rfl dX12_nameWord_23 rfl (Nat.le_refl _) (q2 c2)
set_option maxRecDepth 10000 in
set_option maxHeartbeats 1000000 in
theorem sg_X12_nameWord_30 {l : Launch} {d : Nat} {Q : Option Value → mx_H → Prop} {c : Nat} {I : mx_I} (x1 : Int32)
    (k1 : (x1 = 0) → mx_K1 l mX12_is d [.ref 120, .ref 1024] (sk0 c, I) (fun r h' => mx_Go l (mx_rm (d + 1) 0 0) mX12_nameWord (mx_Z Q 0 0) 0 0 42 [.ref 120] (r.toList ++ []) h'))
    (q2 : (¬ x1 = 0) → Q (some (.int 43)) (sk0 c, I)) :
    mx_Go l (mx_rm (d + 1) 0 0) mX12_nameWord (mx_Z Q 0 0) 0 0 30 [.ref 120] [.int x1] (sk0 c, I) := by
  refine g_if_eq (tgt := 36) dX12_nameWord_30 (by decide) (fun c1 => ?_) (fun c2 => ?_)
  · skip
    refine g_aload_n dX12_nameWord_36 rfl rfl ?_
    refine g_ldcS (i := 23) dX12_nameWord_37 rfl ?_
    exact s_callV (M' := mX12_is) (As := [.ref 1024]) (st := []) dX12_nameWord_39 lm_X12_105 ovX12_is (h := (sk0 c, I)) (sk_120 _) (show vwCl[12]? = some _ from rfl) rfl (by simp [Value.category]) (by decide) rfl (k1 c1)
  · skip
    refine g_bipush (v := 43) dX12_nameWord_33 (by decide) ?_
    exact g_iret rfl dX12_nameWord_35 rfl (Nat.le_refl _) (q2 c2)
set_option maxRecDepth 10000 in
set_option maxHeartbeats 1000000 in
theorem sg_X12_nameWord_42 {l : Launch} {d : Nat} {Q : Option Value → mx_H → Prop} {c : Nat} {I : mx_I} (x1 : Int32)
    (k1 : (x1 = 0) → mx_K1 l mX12_is d [.ref 120, .ref 1025] (sk0 c, I) (fun r h' => mx_Go l (mx_rm (d + 1) 0 0) mX12_nameWord (mx_Z Q 0 0) 0 0 54 [.ref 120] (r.toList ++ []) h'))
    (q2 : (¬ x1 = 0) → Q (some (.int 44)) (sk0 c, I)) :
    mx_Go l (mx_rm (d + 1) 0 0) mX12_nameWord (mx_Z Q 0 0) 0 0 42 [.ref 120] [.int x1] (sk0 c, I) := by
  refine g_if_eq (tgt := 48) dX12_nameWord_42 (by decide) (fun c1 => ?_) (fun c2 => ?_)
  · skip
    refine g_aload_n dX12_nameWord_48 rfl rfl ?_
    refine g_ldcS (i := 24) dX12_nameWord_49 rfl ?_
    exact s_callV (M' := mX12_is) (As := [.ref 1025]) (st := []) dX12_nameWord_51 lm_X12_105 ovX12_is (h := (sk0 c, I)) (sk_120 _) (show vwCl[12]? = some _ from rfl) rfl (by simp [Value.category]) (by decide) rfl (k1 c1)
  · skip
    refine g_bipush (v := 44) dX12_nameWord_45 (by decide) ?_
    exact g_iret rfl dX12_nameWord_47 rfl (Nat.le_refl _) (q2 c2)
set_option maxRecDepth 10000 in
set_option maxHeartbeats 1000000 in
theorem sg_X12_nameWord_54 {l : Launch} {d : Nat} {Q : Option Value → mx_H → Prop} {c : Nat} {I : mx_I} (x1 : Int32)
    (k1 : (x1 = 0) → mx_K1 l mX12_is d [.ref 120, .ref 1026] (sk0 c, I) (fun r h' => mx_Go l (mx_rm (d + 1) 0 0) mX12_nameWord (mx_Z Q 0 0) 0 0 66 [.ref 120] (r.toList ++ []) h'))
    (q2 : (¬ x1 = 0) → Q (some (.int 45)) (sk0 c, I)) :
    mx_Go l (mx_rm (d + 1) 0 0) mX12_nameWord (mx_Z Q 0 0) 0 0 54 [.ref 120] [.int x1] (sk0 c, I) := by
  refine g_if_eq (tgt := 60) dX12_nameWord_54 (by decide) (fun c1 => ?_) (fun c2 => ?_)
  · skip
    refine g_aload_n dX12_nameWord_60 rfl rfl ?_
    refine g_ldcS (i := 25) dX12_nameWord_61 rfl ?_
    exact s_callV (M' := mX12_is) (As := [.ref 1026]) (st := []) dX12_nameWord_63 lm_X12_105 ovX12_is (h := (sk0 c, I)) (sk_120 _) (show vwCl[12]? = some _ from rfl) rfl (by simp [Value.category]) (by decide) rfl (k1 c1)
  · skip
    refine g_bipush (v := 45) dX12_nameWord_57 (by decide) ?_
    exact g_iret rfl dX12_nameWord_59 rfl (Nat.le_refl _) (q2 c2)
set_option maxRecDepth 10000 in
set_option maxHeartbeats 1000000 in
theorem sg_X12_nameWord_66 {l : Launch} {d : Nat} {Q : Option Value → mx_H → Prop} {c : Nat} {I : mx_I} (x1 : Int32)
    (k1 : (x1 = 0) → mx_K1 l mX12_is d [.ref 120, .ref 1027] (sk0 c, I) (fun r h' => mx_Go l (mx_rm (d + 1) 0 0) mX12_nameWord (mx_Z Q 0 0) 0 0 78 [.ref 120] (r.toList ++ []) h'))
    (q2 : (¬ x1 = 0) → Q (some (.int 46)) (sk0 c, I)) :
    mx_Go l (mx_rm (d + 1) 0 0) mX12_nameWord (mx_Z Q 0 0) 0 0 66 [.ref 120] [.int x1] (sk0 c, I) := by
  refine g_if_eq (tgt := 72) dX12_nameWord_66 (by decide) (fun c1 => ?_) (fun c2 => ?_)
  · skip
    refine g_aload_n dX12_nameWord_72 rfl rfl ?_
    refine g_ldcS (i := 26) dX12_nameWord_73 rfl ?_
    exact s_callV (M' := mX12_is) (As := [.ref 1027]) (st := []) dX12_nameWord_75 lm_X12_105 ovX12_is (h := (sk0 c, I)) (sk_120 _) (show vwCl[12]? = some _ from rfl) rfl (by simp [Value.category]) (by decide) rfl (k1 c1)
  · skip
    refine g_bipush (v := 46) dX12_nameWord_69 (by decide) ?_
    exact g_iret rfl dX12_nameWord_71 rfl (Nat.le_refl _) (q2 c2)
set_option maxRecDepth 10000 in
set_option maxHeartbeats 1000000 in
theorem sg_X12_nameWord_78 {l : Launch} {d : Nat} {Q : Option Value → mx_H → Prop} {c : Nat} {I : mx_I} (x1 : Int32)
    (q1 : (x1 = 0) → Q (some (.int 1)) (sk0 c, I))
    (q2 : (¬ x1 = 0) → Q (some (.int 47)) (sk0 c, I)) :
    mx_Go l (mx_rm (d + 1) 0 0) mX12_nameWord (mx_Z Q 0 0) 0 0 78 [.ref 120] [.int x1] (sk0 c, I) := by
  refine g_if_eq (tgt := 86) dX12_nameWord_78 (by decide) (fun c1 => ?_) (fun c2 => ?_)
  · skip
    refine g_iconst (v := 1) dX12_nameWord_86 (by decide) ?_
    exact g_iret rfl dX12_nameWord_87 rfl (Nat.le_refl _) (q1 c1)
  · skip
    refine g_bipush (v := 47) dX12_nameWord_81 (by decide) ?_
    refine g_goto (tgt := 87) dX12_nameWord_83 (by decide) ?_
    exact g_iret rfl dX12_nameWord_87 rfl (Nat.le_refl _) (q2 c2)
set_option maxRecDepth 10000 in
set_option maxHeartbeats 1000000 in
theorem sn_X12_word {l : Launch} {d : Nat} {Q : Option Value → mx_H → Prop} {c : Nat} {I : mx_I}
    (k1 : mx_K1 l mX12_is d [.ref 120, .ref 1015] (sk0 c, I) (fun r h' => mx_Go l (mx_rm (d + 1) 0 0) mX12_word (mx_Z Q 0 0) 0 0 6 [.ref 120] (r.toList ++ []) h')) :
    mx_Spec l mX12_word (d + 1) 0 0 [.ref 120] (sk0 c, I) Q := by
  refine mx_enter rfl (by simp [Value.category]) (Nat.le_of_ble_eq_true rfl) ?_
  change mx_Go l (mx_rm (d + 1) 0 0) mX12_word (mx_Z Q 0 0) 0 0 0 [.ref 120] [] (sk0 c, I)
  refine g_aload_n dX12_word_0 rfl rfl ?_
  refine g_ldcS (i := 14) dX12_word_1 rfl ?_
  exact s_callV (M' := mX12_is) (As := [.ref 1015]) (st := []) dX12_word_3 lm_X12_105 ovX12_is (h := (sk0 c, I)) (sk_120 _) (show vwCl[12]? = some _ from rfl) rfl (by simp [Value.category]) (by decide) rfl (k1)
set_option maxRecDepth 10000 in
set_option maxHeartbeats 1000000 in
theorem sg_X12_word_6 {l : Launch} {d : Nat} {Q : Option Value → mx_H → Prop} {c : Nat} {I : mx_I} (x1 : Int32)
    (k1 : (x1 = 0) → mx_K1 l mX12_is d [.ref 120, .ref 1016] (sk0 c, I) (fun r h' => mx_Go l (mx_rm (d + 1) 0 0) mX12_word (mx_Z Q 0 0) 0 0 17 [.ref 120] (r.toList ++ []) h'))
    (q2 : (¬ x1 = 0) → Q (some (.int 3)) (sk0 c, I)) :
    mx_Go l (mx_rm (d + 1) 0 0) mX12_word (mx_Z Q 0 0) 0 0 6 [.ref 120] [.int x1] (sk0 c, I) := by
  refine g_if_eq (tgt := 11) dX12_word_6 (by decide) (fun c1 => ?_) (fun c2 => ?_)
  · skip
    refine g_aload_n dX12_word_11 rfl rfl ?_
    refine g_ldcS (i := 15) dX12_word_12 rfl ?_
    exact s_callV (M' := mX12_is) (As := [.ref 1016]) (st := []) dX12_word_14 lm_X12_105 ovX12_is (h := (sk0 c, I)) (sk_120 _) (show vwCl[12]? = some _ from rfl) rfl (by simp [Value.category]) (by decide) rfl (k1 c1)
  · skip
    refine g_iconst (v := 3) dX12_word_9 (by decide) ?_
    exact g_iret rfl dX12_word_10 rfl (Nat.le_refl _) (q2 c2)
set_option maxRecDepth 10000 in
set_option maxHeartbeats 1000000 in
theorem sg_X12_word_17 {l : Launch} {d : Nat} {Q : Option Value → mx_H → Prop} {c : Nat} {I : mx_I} (x1 : Int32)
    (k1 : (x1 = 0) → mx_K1 l mX12_is d [.ref 120, .ref 1017] (sk0 c, I) (fun r h' => mx_Go l (mx_rm (d + 1) 0 0) mX12_word (mx_Z Q 0 0) 0 0 28 [.ref 120] (r.toList ++ []) h'))
    (q2 : (¬ x1 = 0) → Q (some (.int 4)) (sk0 c, I)) :
    mx_Go l (mx_rm (d + 1) 0 0) mX12_word (mx_Z Q 0 0) 0 0 17 [.ref 120] [.int x1] (sk0 c, I) := by
  refine g_if_eq (tgt := 22) dX12_word_17 (by decide) (fun c1 => ?_) (fun c2 => ?_)
  · skip
    refine g_aload_n dX12_word_22 rfl rfl ?_
    refine g_ldcS (i := 16) dX12_word_23 rfl ?_
    exact s_callV (M' := mX12_is) (As := [.ref 1017]) (st := []) dX12_word_25 lm_X12_105 ovX12_is (h := (sk0 c, I)) (sk_120 _) (show vwCl[12]? = some _ from rfl) rfl (by simp [Value.category]) (by decide) rfl (k1 c1)
  · skip
    refine g_iconst (v := 4) dX12_word_20 (by decide) ?_
    exact g_iret rfl dX12_word_21 rfl (Nat.le_refl _) (q2 c2)
set_option maxRecDepth 10000 in
set_option maxHeartbeats 1000000 in
theorem sg_X12_word_28 {l : Launch} {d : Nat} {Q : Option Value → mx_H → Prop} {c : Nat} {I : mx_I} (x1 : Int32)
    (k1 : (x1 = 0) → mx_K1 l mX12_is d [.ref 120, .ref 1018] (sk0 c, I) (fun r h' => mx_Go l (mx_rm (d + 1) 0 0) mX12_word (mx_Z Q 0 0) 0 0 39 [.ref 120] (r.toList ++ []) h'))
    (q2 : (¬ x1 = 0) → Q (some (.int 5)) (sk0 c, I)) :
    mx_Go l (mx_rm (d + 1) 0 0) mX12_word (mx_Z Q 0 0) 0 0 28 [.ref 120] [.int x1] (sk0 c, I) := by
  refine g_if_eq (tgt := 33) dX12_word_28 (by decide) (fun c1 => ?_) (fun c2 => ?_)
  · skip
    refine g_aload_n dX12_word_33 rfl rfl ?_
    refine g_ldcS (i := 17) dX12_word_34 rfl ?_
    exact s_callV (M' := mX12_is) (As := [.ref 1018]) (st := []) dX12_word_36 lm_X12_105 ovX12_is (h := (sk0 c, I)) (sk_120 _) (show vwCl[12]? = some _ from rfl) rfl (by simp [Value.category]) (by decide) rfl (k1 c1)
  · skip
    refine g_iconst (v := 5) dX12_word_31 (by decide) ?_
    exact g_iret rfl dX12_word_32 rfl (Nat.le_refl _) (q2 c2)
set_option maxRecDepth 10000 in
set_option maxHeartbeats 1000000 in
theorem sg_X12_word_39 {l : Launch} {d : Nat} {Q : Option Value → mx_H → Prop} {c : Nat} {I : mx_I} (x1 : Int32)
    (k1 : (x1 = 0) → mx_K1 l mX12_is d [.ref 120, .ref 1019] (sk0 c, I) (fun r h' => mx_Go l (mx_rm (d + 1) 0 0) mX12_word (mx_Z Q 0 0) 0 0 51 [.ref 120] (r.toList ++ []) h'))
    (q2 : (¬ x1 = 0) → Q (some (.int 6)) (sk0 c, I)) :
    mx_Go l (mx_rm (d + 1) 0 0) mX12_word (mx_Z Q 0 0) 0 0 39 [.ref 120] [.int x1] (sk0 c, I) := by
  refine g_if_eq (tgt := 45) dX12_word_39 (by decide) (fun c1 => ?_) (fun c2 => ?_)
  · skip
    refine g_aload_n dX12_word_45 rfl rfl ?_
    refine g_ldcS (i := 18) dX12_word_46 rfl ?_
    exact s_callV (M' := mX12_is) (As := [.ref 1019]) (st := []) dX12_word_48 lm_X12_105 ovX12_is (h := (sk0 c, I)) (sk_120 _) (show vwCl[12]? = some _ from rfl) rfl (by simp [Value.category]) (by decide) rfl (k1 c1)
  · skip
    refine g_bipush (v := 6) dX12_word_42 (by decide) ?_
    exact g_iret rfl dX12_word_44 rfl (Nat.le_refl _) (q2 c2)
set_option maxRecDepth 10000 in
set_option maxHeartbeats 1000000 in
theorem sg_X12_word_51 {l : Launch} {d : Nat} {Q : Option Value → mx_H → Prop} {c : Nat} {I : mx_I} (x1 : Int32)
    (k1 : (x1 = 0) → mx_K1 l mX12_is d [.ref 120, .ref 1020] (sk0 c, I) (fun r h' => mx_Go l (mx_rm (d + 1) 0 0) mX12_word (mx_Z Q 0 0) 0 0 63 [.ref 120] (r.toList ++ []) h'))
    (q2 : (¬ x1 = 0) → Q (some (.int 20)) (sk0 c, I)) :
    mx_Go l (mx_rm (d + 1) 0 0) mX12_word (mx_Z Q 0 0) 0 0 51 [.ref 120] [.int x1] (sk0 c, I) := by
  refine g_if_eq (tgt := 57) dX12_word_51 (by decide) (fun c1 => ?_) (fun c2 => ?_)
  · skip
    refine g_aload_n dX12_word_57 rfl rfl ?_
    refine g_ldcS (i := 19) dX12_word_58 rfl ?_
    exact s_callV (M' := mX12_is) (As := [.ref 1020]) (st := []) dX12_word_60 lm_X12_105 ovX12_is (h := (sk0 c, I)) (sk_120 _) (show vwCl[12]? = some _ from rfl) rfl (by simp [Value.category]) (by decide) rfl (k1 c1)
  · skip
    refine g_bipush (v := 20) dX12_word_54 (by decide) ?_
    exact g_iret rfl dX12_word_56 rfl (Nat.le_refl _) (q2 c2)
set_option maxRecDepth 10000 in
set_option maxHeartbeats 1000000 in
theorem sg_X12_word_63 {l : Launch} {d : Nat} {Q : Option Value → mx_H → Prop} {c : Nat} {I : mx_I} (x1 : Int32)
    (k1 : (x1 = 0) → mx_K1 l mX12_nameWord d [.ref 120] (sk0 c, I) (fun r h' => mx_Go l (mx_rm (d + 1) 0 0) mX12_word (mx_Z Q 0 0) 0 0 75 [.ref 120] (r.toList ++ []) h'))
    (q2 : (¬ x1 = 0) → Q (some (.int 21)) (sk0 c, I)) :
    mx_Go l (mx_rm (d + 1) 0 0) mX12_word (mx_Z Q 0 0) 0 0 63 [.ref 120] [.int x1] (sk0 c, I) := by
  refine g_if_eq (tgt := 71) dX12_word_63 (by decide) (fun c1 => ?_) (fun c2 => ?_)
  · skip
    refine g_aload_n dX12_word_71 rfl rfl ?_
    exact s_callV (M' := mX12_nameWord) (As := []) (st := []) dX12_word_72 lm_X12_132 ovX12_nameWord (h := (sk0 c, I)) (sk_120 _) (show vwCl[12]? = some _ from rfl) rfl (by simp [Value.category]) (by decide) rfl (k1 c1)
  · skip
    refine g_bipush (v := 21) dX12_word_66 (by decide) ?_
    refine g_goto (tgt := 75) dX12_word_68 (by decide) ?_
    exact g_iret rfl dX12_word_75 rfl (Nat.le_refl _) (q2 c2)
set_option maxRecDepth 10000 in
set_option maxHeartbeats 1000000 in
theorem sg_X12_word_75 {l : Launch} {d : Nat} {Q : Option Value → mx_H → Prop} {c : Nat} {I : mx_I} (x1 : Int32)
    (q1 : Q (some (.int x1)) (sk0 c, I)) :
    mx_Go l (mx_rm (d + 1) 0 0) mX12_word (mx_Z Q 0 0) 0 0 75 [.ref 120] [.int x1] (sk0 c, I) := by
  exact g_iret rfl dX12_word_75 rfl (Nat.le_refl _) (q1)
set_option maxRecDepth 10000 in
set_option maxHeartbeats 1000000 in
theorem sn_X12_next0 {l : Launch} {d : Nat} {Q : Option Value → mx_H → Prop} {c : Nat} {I : mx_I}
    (e1 : mx_Go l (mx_rm (d + 1) 0 0) mX12_next0 (mx_Z Q 0 0) 0 0 0 [.ref 120, .retAddr 0, .retAddr 0] [] (sk0 c, I)) :
    mx_Spec l mX12_next0 (d + 1) 0 0 [.ref 120] (sk0 c, I) Q := by
  refine mx_enter rfl (by simp [Value.category]) (Nat.le_of_ble_eq_true rfl) ?_
  change mx_Go l (mx_rm (d + 1) 0 0) mX12_next0 (mx_Z Q 0 0) 0 0 0 [.ref 120, .retAddr 0, .retAddr 0] [] (sk0 c, I)
  exact e1
set_option maxRecDepth 10000 in
set_option maxHeartbeats 1000000 in
theorem sg_X12_next0_0 {l : Launch} {d : Nat} {Q : Option Value → mx_H → Prop} {c : Nat} {I : mx_I}
    (k1 : mx_K1 l mX12_see d [.ref 120, .int (I 120 12)] (sk0 c, I) (fun r h' => mx_Go l (mx_rm (d + 1) 0 0) mX12_next0 (mx_Z Q 0 0) 0 0 8 [.ref 120, .retAddr 0, .retAddr 0] (r.toList ++ []) h')) :
    mx_Go l (mx_rm (d + 1) 0 0) mX12_next0 (mx_Z Q 0 0) 0 0 0 [.ref 120, .retAddr 0, .retAddr 0] [] (sk0 c, I) := by
  refine g_aload_n dX12_next0_0 rfl rfl ?_
  refine g_aload_n dX12_next0_1 rfl rfl ?_
  refine rg_X12_12 (v := (I 120 12)) dX12_next0_2 lf_X12_87 (sk_120 _) rfl ?_
  exact s_callV (M' := mX12_see) (As := [.int (I 120 12)]) (st := []) dX12_next0_5 lm_X12_135 ovX12_see (h := (sk0 c, I)) (sk_120 _) (show vwCl[12]? = some _ from rfl) rfl (by simp [Value.category]) (by decide) rfl (k1)
set_option maxRecDepth 10000 in
set_option maxHeartbeats 1000000 in
theorem sg_X12_next0_8 {l : Launch} {d : Nat} {Q : Option Value → mx_H → Prop} {c : Nat} {I : mx_I} (x1 : Int32)
    (e1 : (x1 = 32) → mx_Go l (mx_rm (d + 1) 0 0) mX12_next0 (mx_Z Q 0 0) 0 0 0 [.ref 120, .retAddr 0, .retAddr 0] [] (sk0 c, (mx_set I 120 12 ((I 120 12) + 1))))
    (k2 : (¬ x1 = 32) → mx_K1 l mX12_see d [.ref 120, .int (I 120 12)] (sk0 c, I) (fun r h' => mx_Go l (mx_rm (d + 1) 0 0) mX12_next0 (mx_Z Q 0 0) 0 0 21 [.ref 120, .retAddr 0, .retAddr 0] (r.toList ++ []) h')) :
    mx_Go l (mx_rm (d + 1) 0 0) mX12_next0 (mx_Z Q 0 0) 0 0 8 [.ref 120, .retAddr 0, .retAddr 0] [.int x1] (sk0 c, I) := by
  refine g_bipush (v := 32) dX12_next0_8 (by decide) ?_
  refine g_icmp_eq (tgt := 26) dX12_next0_10 (by decide) (fun c1 => ?_) (fun c2 => ?_)
  · skip
    refine g_aload_n dX12_next0_26 rfl rfl ?_
    refine g_dup dX12_next0_27 rfl ?_
    refine rg_X12_12 (v := (I 120 12)) dX12_next0_28 lf_X12_87 (sk_120 _) rfl ?_
    refine g_iconst (v := 1) dX12_next0_31 (by decide) ?_
    refine g_iadd dX12_next0_32 ?_
    refine rp_X12_12 dX12_next0_33 lf_X12_87 (sk_120 _) ?_
    refine g_goto (tgt := 0) dX12_next0_36 (by decide) ?_
    exact e1 c1
  · skip
    refine g_aload_n dX12_next0_13 rfl rfl ?_
    refine g_aload_n dX12_next0_14 rfl rfl ?_
    refine rg_X12_12 (v := (I 120 12)) dX12_next0_15 lf_X12_87 (sk_120 _) rfl ?_
    exact s_callV (M' := mX12_see) (As := [.int (I 120 12)]) (st := []) dX12_next0_18 lm_X12_135 ovX12_see (h := (sk0 c, I)) (sk_120 _) (show vwCl[12]? = some _ from rfl) rfl (by simp [Value.category]) (by decide) rfl (k2 c2)
set_option maxRecDepth 10000 in
set_option maxHeartbeats 1000000 in
theorem sg_X12_next0_21 {l : Launch} {d : Nat} {Q : Option Value → mx_H → Prop} {c : Nat} {I : mx_I} (x1 : Int32)
    (k1 : (¬ x1 = 10) → mx_K1 l mX12_see d [.ref 120, .int (I 120 12)] (sk0 c, (mx_set I 120 14 (I 120 12))) (fun r h' => mx_Go l (mx_rm (d + 1) 0 0) mX12_next0 (mx_Z Q 0 0) 0 0 55 [.ref 120, .retAddr 0, .retAddr 0] (r.toList ++ []) h'))
    (e2 : (x1 = 10) → mx_Go l (mx_rm (d + 1) 0 0) mX12_next0 (mx_Z Q 0 0) 0 0 0 [.ref 120, .retAddr 0, .retAddr 0] [] (sk0 c, (mx_set I 120 12 ((I 120 12) + 1)))) :
    mx_Go l (mx_rm (d + 1) 0 0) mX12_next0 (mx_Z Q 0 0) 0 0 21 [.ref 120, .retAddr 0, .retAddr 0] [.int x1] (sk0 c, I) := by
  refine g_bipush (v := 10) dX12_next0_21 (by decide) ?_
  refine g_icmp_ne (tgt := 39) dX12_next0_23 (by decide) (fun c1 => ?_) (fun c2 => ?_)
  · skip
    refine g_aload_n dX12_next0_39 rfl rfl ?_
    refine g_aload_n dX12_next0_40 rfl rfl ?_
    refine rg_X12_12 (v := (I 120 12)) dX12_next0_41 lf_X12_87 (sk_120 _) rfl ?_
    refine rp_X12_14 dX12_next0_44 lf_X12_90 (sk_120 _) ?_
    refine g_aload_n dX12_next0_47 rfl rfl ?_
    refine g_aload_n dX12_next0_48 rfl rfl ?_
    refine rg_X12_12 (v := (I 120 12)) dX12_next0_49 lf_X12_87 (sk_120 _) (rd_sl (by decide) rfl) ?_
    exact s_callV (M' := mX12_see) (As := [.int (I 120 12)]) (st := []) dX12_next0_52 lm_X12_135 ovX12_see (h := (sk0 c, (mx_set I 120 14 (I 120 12)))) (sk_120 _) (show vwCl[12]? = some _ from rfl) rfl (by simp [Value.category]) (by decide) rfl (k1 c1)
  · skip
    refine g_aload_n dX12_next0_26 rfl rfl ?_
    refine g_dup dX12_next0_27 rfl ?_
    refine rg_X12_12 (v := (I 120 12)) dX12_next0_28 lf_X12_87 (sk_120 _) rfl ?_
    refine g_iconst (v := 1) dX12_next0_31 (by decide) ?_
    refine g_iadd dX12_next0_32 ?_
    refine rp_X12_12 dX12_next0_33 lf_X12_87 (sk_120 _) ?_
    refine g_goto (tgt := 0) dX12_next0_36 (by decide) ?_
    exact e2 c2
set_option maxRecDepth 10000 in
set_option maxHeartbeats 1000000 in
theorem sg_X12_next0_55 {l : Launch} {d : Nat} {Q : Option Value → mx_H → Prop} {c : Nat} {I : mx_I} (x1 : Int32)
    (k1 : (¬ x1 = (-1)) → mx_K1 l mX12_isLetter d [.int x1] (sk0 c, I) (fun r h' => mx_Go l (mx_rm (d + 1) 0 0) mX12_next0 (mx_Z Q 0 0) 0 0 73 [.ref 120, .int x1, .retAddr 0] (r.toList ++ []) h'))
    (q2 : (x1 = (-1)) → Q none (sk0 c, (mx_set I 120 13 0))) :
    mx_Go l (mx_rm (d + 1) 0 0) mX12_next0 (mx_Z Q 0 0) 0 0 55 [.ref 120, .retAddr 0, .retAddr 0] [.int x1] (sk0 c, I) := by
  refine s_istore_n (L' := [.ref 120, .int x1, .retAddr 0]) dX12_next0_55 rfl (by decide) rfl rfl ?_
  refine g_iload_n dX12_next0_56 rfl rfl ?_
  refine g_iconst (v := (-1)) dX12_next0_57 (by decide) ?_
  refine g_icmp_ne (tgt := 69) dX12_next0_58 (by decide) (fun c1 => ?_) (fun c2 => ?_)
  · skip
    refine g_iload_n dX12_next0_69 rfl rfl ?_
    exact s_callS (M' := mX12_isLetter) (As := [.int x1]) (st := []) dX12_next0_70 lm_X12_142 okX12_isLetter osX12_isLetter (by simp [Value.category]) (by decide) rfl (k1 c1)
  · skip
    refine g_aload_n dX12_next0_61 rfl rfl ?_
    refine g_iconst (v := 0) dX12_next0_62 (by decide) ?_
    refine rp_X12_13 dX12_next0_63 lf_X12_139 (sk_120 _) ?_
    refine g_goto (tgt := 306) dX12_next0_66 (by decide) ?_
    exact g_vret rfl dX12_next0_306 rfl (Nat.le_refl _) (q2 c2)
set_option maxRecDepth 10000 in
set_option maxHeartbeats 1000000 in
theorem sg_X12_next0_73 {l : Launch} {d : Nat} {Q : Option Value → mx_H → Prop} {c : Nat} {I : mx_I} (x1 : Int32) (x2 : Int32)
    (k1 : (x2 = 0) → mx_K1 l mX12_isDigit d [.int x1] (sk0 c, I) (fun r h' => mx_Go l (mx_rm (d + 1) 0 0) mX12_next0 (mx_Z Q 0 0) 0 0 118 [.ref 120, .int x1, .retAddr 0] (r.toList ++ []) h'))
    (e2 : (¬ x2 = 0) → mx_Go l (mx_rm (d + 1) 0 0) mX12_next0 (mx_Z Q 0 0) 0 0 76 [.ref 120, .int x1, .retAddr 0] [] (sk0 c, I)) :
    mx_Go l (mx_rm (d + 1) 0 0) mX12_next0 (mx_Z Q 0 0) 0 0 73 [.ref 120, .int x1, .retAddr 0] [.int x2] (sk0 c, I) := by
  refine g_if_eq (tgt := 114) dX12_next0_73 (by decide) (fun c1 => ?_) (fun c2 => ?_)
  · skip
    refine g_iload_n dX12_next0_114 rfl rfl ?_
    exact s_callS (M' := mX12_isDigit) (As := [.int x1]) (st := []) dX12_next0_115 lm_X12_148 okX12_isDigit osX12_isDigit (by simp [Value.category]) (by decide) rfl (k1 c1)
  · skip
    exact e2 c2
set_option maxRecDepth 10000 in
set_option maxHeartbeats 1000000 in
theorem sg_X12_next0_118 {l : Launch} {d : Nat} {Q : Option Value → mx_H → Prop} {c : Nat} {I : mx_I} (x1 : Int32) (x2 : Int32)
    (q1 : (x2 = 0) → (x1 = 59) → Q none (sk0 c, (mx_set (mx_set I 120 12 ((I 120 12) + 1)) 120 13 (100 + x1))))
    (q2 : (x2 = 0) → (¬ x1 = 59) → (x1 = 43) → Q none (sk0 c, (mx_set (mx_set I 120 12 ((I 120 12) + 1)) 120 13 (100 + x1))))
    (q3 : (x2 = 0) → (¬ x1 = 59) → (¬ x1 = 43) → (x1 = 45) → Q none (sk0 c, (mx_set (mx_set I 120 12 ((I 120 12) + 1)) 120 13 (100 + x1))))
    (q4 : (x2 = 0) → (¬ x1 = 59) → (¬ x1 = 43) → (¬ x1 = 45) → (x1 = 42) → Q none (sk0 c, (mx_set (mx_set I 120 12 ((I 120 12) + 1)) 120 13 (100 + x1))))
    (q5 : (x2 = 0) → (¬ x1 = 59) → (¬ x1 = 43) → (¬ x1 = 45) → (¬ x1 = 42) → (x1 = 47) → Q none (sk0 c, (mx_set (mx_set I 120 12 ((I 120 12) + 1)) 120 13 (100 + x1))))
    (q6 : (x2 = 0) → (¬ x1 = 59) → (¬ x1 = 43) → (¬ x1 = 45) → (¬ x1 = 42) → (¬ x1 = 47) → (x1 = 40) → Q none (sk0 c, (mx_set (mx_set I 120 12 ((I 120 12) + 1)) 120 13 (100 + x1))))
    (q7 : (x2 = 0) → (¬ x1 = 59) → (¬ x1 = 43) → (¬ x1 = 45) → (¬ x1 = 42) → (¬ x1 = 47) → (¬ x1 = 40) → (x1 = 41) → Q none (sk0 c, (mx_set (mx_set I 120 12 ((I 120 12) + 1)) 120 13 (100 + x1))))
    (q8 : (x2 = 0) → (¬ x1 = 59) → (¬ x1 = 43) → (¬ x1 = 45) → (¬ x1 = 42) → (¬ x1 = 47) → (¬ x1 = 40) → (¬ x1 = 41) → (x1 = 60) → Q none (sk0 c, (mx_set (mx_set I 120 12 ((I 120 12) + 1)) 120 13 (100 + x1))))
    (q9 : (x2 = 0) → (¬ x1 = 59) → (¬ x1 = 43) → (¬ x1 = 45) → (¬ x1 = 42) → (¬ x1 = 47) → (¬ x1 = 40) → (¬ x1 = 41) → (¬ x1 = 60) → (x1 = 61) → Q none (sk0 c, (mx_set (mx_set I 120 12 ((I 120 12) + 1)) 120 13 (100 + x1))))
    (q10 : (x2 = 0) → (¬ x1 = 59) → (¬ x1 = 43) → (¬ x1 = 45) → (¬ x1 = 42) → (¬ x1 = 47) → (¬ x1 = 40) → (¬ x1 = 41) → (¬ x1 = 60) → (¬ x1 = 61) → (¬ x1 = 62) → Q none (sk0 c, (mx_set (mx_set I 120 12 ((I 120 12) + 1)) 120 13 1)))
    (q11 : (x2 = 0) → (¬ x1 = 59) → (¬ x1 = 43) → (¬ x1 = 45) → (¬ x1 = 42) → (¬ x1 = 47) → (¬ x1 = 40) → (¬ x1 = 41) → (¬ x1 = 60) → (¬ x1 = 61) → (x1 = 62) → Q none (sk0 c, (mx_set (mx_set I 120 12 ((I 120 12) + 1)) 120 13 (100 + x1))))
    (e12 : (¬ x2 = 0) → mx_Go l (mx_rm (d + 1) 0 0) mX12_next0 (mx_Z Q 0 0) 0 0 126 [.ref 120, .int x1, .retAddr 0] [] (sk0 c, (mx_set I 120 15 0))) :
    mx_Go l (mx_rm (d + 1) 0 0) mX12_next0 (mx_Z Q 0 0) 0 0 118 [.ref 120, .int x1, .retAddr 0] [.int x2] (sk0 c, I) := by
  refine g_if_eq (tgt := 214) dX12_next0_118 (by decide) (fun c1 => ?_) (fun c2 => ?_)
  · skip
    refine g_aload_n dX12_next0_214 rfl rfl ?_
    refine g_dup dX12_next0_215 rfl ?_
    refine rg_X12_12 (v := (I 120 12)) dX12_next0_216 lf_X12_87 (sk_120 _) rfl ?_
    refine g_iconst (v := 1) dX12_next0_219 (by decide) ?_
    refine g_iadd dX12_next0_220 ?_
    refine rp_X12_12 dX12_next0_221 lf_X12_87 (sk_120 _) ?_
    refine g_iload_n dX12_next0_224 rfl rfl ?_
    refine g_bipush (v := 59) dX12_next0_225 (by decide) ?_
    refine g_icmp_eq (tgt := 284) dX12_next0_227 (by decide) (fun c3 => ?_) (fun c4 => ?_)
    · skip
      refine g_iconst (v := 1) dX12_next0_284 (by decide) ?_
      refine g_goto (tgt := 289) dX12_next0_285 (by decide) ?_
      refine s_istore_n (L' := [.ref 120, .int x1, .int 1]) dX12_next0_289 rfl (by decide) rfl rfl ?_
      refine g_aload_n dX12_next0_290 rfl rfl ?_
      refine g_iload_n dX12_next0_291 rfl rfl ?_
      refine g_if_eq (tgt := 302) dX12_next0_292 (by decide) (fun hh => absurd hh (by decide)) (fun _ => ?_)
      refine g_bipush (v := 100) dX12_next0_295 (by decide) ?_
      refine g_iload_n dX12_next0_297 rfl rfl ?_
      refine g_iadd dX12_next0_298 ?_
      refine g_goto (tgt := 303) dX12_next0_299 (by decide) ?_
      refine rp_X12_13 dX12_next0_303 lf_X12_139 (sk_120 _) ?_
      exact g_vret rfl dX12_next0_306 rfl (Nat.le_refl _) (q1 c1 c3)
    · skip
      refine g_iload_n dX12_next0_230 rfl rfl ?_
      refine g_bipush (v := 43) dX12_next0_231 (by decide) ?_
      refine g_icmp_eq (tgt := 284) dX12_next0_233 (by decide) (fun c5 => ?_) (fun c6 => ?_)
      · skip
        refine g_iconst (v := 1) dX12_next0_284 (by decide) ?_
        refine g_goto (tgt := 289) dX12_next0_285 (by decide) ?_
        refine s_istore_n (L' := [.ref 120, .int x1, .int 1]) dX12_next0_289 rfl (by decide) rfl rfl ?_
        refine g_aload_n dX12_next0_290 rfl rfl ?_
        refine g_iload_n dX12_next0_291 rfl rfl ?_
        refine g_if_eq (tgt := 302) dX12_next0_292 (by decide) (fun hh => absurd hh (by decide)) (fun _ => ?_)
        refine g_bipush (v := 100) dX12_next0_295 (by decide) ?_
        refine g_iload_n dX12_next0_297 rfl rfl ?_
        refine g_iadd dX12_next0_298 ?_
        refine g_goto (tgt := 303) dX12_next0_299 (by decide) ?_
        refine rp_X12_13 dX12_next0_303 lf_X12_139 (sk_120 _) ?_
        exact g_vret rfl dX12_next0_306 rfl (Nat.le_refl _) (q2 c1 c4 c5)
      · skip
        refine g_iload_n dX12_next0_236 rfl rfl ?_
        refine g_bipush (v := 45) dX12_next0_237 (by decide) ?_
        refine g_icmp_eq (tgt := 284) dX12_next0_239 (by decide) (fun c7 => ?_) (fun c8 => ?_)
        · skip
          refine g_iconst (v := 1) dX12_next0_284 (by decide) ?_
          refine g_goto (tgt := 289) dX12_next0_285 (by decide) ?_
          refine s_istore_n (L' := [.ref 120, .int x1, .int 1]) dX12_next0_289 rfl (by decide) rfl rfl ?_
          refine g_aload_n dX12_next0_290 rfl rfl ?_
          refine g_iload_n dX12_next0_291 rfl rfl ?_
          refine g_if_eq (tgt := 302) dX12_next0_292 (by decide) (fun hh => absurd hh (by decide)) (fun _ => ?_)
          refine g_bipush (v := 100) dX12_next0_295 (by decide) ?_
          refine g_iload_n dX12_next0_297 rfl rfl ?_
          refine g_iadd dX12_next0_298 ?_
          refine g_goto (tgt := 303) dX12_next0_299 (by decide) ?_
          refine rp_X12_13 dX12_next0_303 lf_X12_139 (sk_120 _) ?_
          exact g_vret rfl dX12_next0_306 rfl (Nat.le_refl _) (q3 c1 c4 c6 c7)
        · skip
          refine g_iload_n dX12_next0_242 rfl rfl ?_
          refine g_bipush (v := 42) dX12_next0_243 (by decide) ?_
          refine g_icmp_eq (tgt := 284) dX12_next0_245 (by decide) (fun c9 => ?_) (fun c10 => ?_)
          · skip
            refine g_iconst (v := 1) dX12_next0_284 (by decide) ?_
            refine g_goto (tgt := 289) dX12_next0_285 (by decide) ?_
            refine s_istore_n (L' := [.ref 120, .int x1, .int 1]) dX12_next0_289 rfl (by decide) rfl rfl ?_
            refine g_aload_n dX12_next0_290 rfl rfl ?_
            refine g_iload_n dX12_next0_291 rfl rfl ?_
            refine g_if_eq (tgt := 302) dX12_next0_292 (by decide) (fun hh => absurd hh (by decide)) (fun _ => ?_)
            refine g_bipush (v := 100) dX12_next0_295 (by decide) ?_
            refine g_iload_n dX12_next0_297 rfl rfl ?_
            refine g_iadd dX12_next0_298 ?_
            refine g_goto (tgt := 303) dX12_next0_299 (by decide) ?_
            refine rp_X12_13 dX12_next0_303 lf_X12_139 (sk_120 _) ?_
            exact g_vret rfl dX12_next0_306 rfl (Nat.le_refl _) (q4 c1 c4 c6 c8 c9)
          · skip
            refine g_iload_n dX12_next0_248 rfl rfl ?_
            refine g_bipush (v := 47) dX12_next0_249 (by decide) ?_
            refine g_icmp_eq (tgt := 284) dX12_next0_251 (by decide) (fun c11 => ?_) (fun c12 => ?_)
            · skip
              refine g_iconst (v := 1) dX12_next0_284 (by decide) ?_
              refine g_goto (tgt := 289) dX12_next0_285 (by decide) ?_
              refine s_istore_n (L' := [.ref 120, .int x1, .int 1]) dX12_next0_289 rfl (by decide) rfl rfl ?_
              refine g_aload_n dX12_next0_290 rfl rfl ?_
              refine g_iload_n dX12_next0_291 rfl rfl ?_
              refine g_if_eq (tgt := 302) dX12_next0_292 (by decide) (fun hh => absurd hh (by decide)) (fun _ => ?_)
              refine g_bipush (v := 100) dX12_next0_295 (by decide) ?_
              refine g_iload_n dX12_next0_297 rfl rfl ?_
              refine g_iadd dX12_next0_298 ?_
              refine g_goto (tgt := 303) dX12_next0_299 (by decide) ?_
              refine rp_X12_13 dX12_next0_303 lf_X12_139 (sk_120 _) ?_
              exact g_vret rfl dX12_next0_306 rfl (Nat.le_refl _) (q5 c1 c4 c6 c8 c10 c11)
            · skip
              refine g_iload_n dX12_next0_254 rfl rfl ?_
              refine g_bipush (v := 40) dX12_next0_255 (by decide) ?_
              refine g_icmp_eq (tgt := 284) dX12_next0_257 (by decide) (fun c13 => ?_) (fun c14 => ?_)
              · skip
                refine g_iconst (v := 1) dX12_next0_284 (by decide) ?_
                refine g_goto (tgt := 289) dX12_next0_285 (by decide) ?_
                refine s_istore_n (L' := [.ref 120, .int x1, .int 1]) dX12_next0_289 rfl (by decide) rfl rfl ?_
                refine g_aload_n dX12_next0_290 rfl rfl ?_
                refine g_iload_n dX12_next0_291 rfl rfl ?_
                refine g_if_eq (tgt := 302) dX12_next0_292 (by decide) (fun hh => absurd hh (by decide)) (fun _ => ?_)
                refine g_bipush (v := 100) dX12_next0_295 (by decide) ?_
                refine g_iload_n dX12_next0_297 rfl rfl ?_
                refine g_iadd dX12_next0_298 ?_
                refine g_goto (tgt := 303) dX12_next0_299 (by decide) ?_
                refine rp_X12_13 dX12_next0_303 lf_X12_139 (sk_120 _) ?_
                exact g_vret rfl dX12_next0_306 rfl (Nat.le_refl _) (q6 c1 c4 c6 c8 c10 c12 c13)
              · skip
                refine g_iload_n dX12_next0_260 rfl rfl ?_
                refine g_bipush (v := 41) dX12_next0_261 (by decide) ?_
                refine g_icmp_eq (tgt := 284) dX12_next0_263 (by decide) (fun c15 => ?_) (fun c16 => ?_)
                · skip
                  refine g_iconst (v := 1) dX12_next0_284 (by decide) ?_
                  refine g_goto (tgt := 289) dX12_next0_285 (by decide) ?_
                  refine s_istore_n (L' := [.ref 120, .int x1, .int 1]) dX12_next0_289 rfl (by decide) rfl rfl ?_
                  refine g_aload_n dX12_next0_290 rfl rfl ?_
                  refine g_iload_n dX12_next0_291 rfl rfl ?_
                  refine g_if_eq (tgt := 302) dX12_next0_292 (by decide) (fun hh => absurd hh (by decide)) (fun _ => ?_)
                  refine g_bipush (v := 100) dX12_next0_295 (by decide) ?_
                  refine g_iload_n dX12_next0_297 rfl rfl ?_
                  refine g_iadd dX12_next0_298 ?_
                  refine g_goto (tgt := 303) dX12_next0_299 (by decide) ?_
                  refine rp_X12_13 dX12_next0_303 lf_X12_139 (sk_120 _) ?_
                  exact g_vret rfl dX12_next0_306 rfl (Nat.le_refl _) (q7 c1 c4 c6 c8 c10 c12 c14 c15)
                · skip
                  refine g_iload_n dX12_next0_266 rfl rfl ?_
                  refine g_bipush (v := 60) dX12_next0_267 (by decide) ?_
                  refine g_icmp_eq (tgt := 284) dX12_next0_269 (by decide) (fun c17 => ?_) (fun c18 => ?_)
                  · skip
                    refine g_iconst (v := 1) dX12_next0_284 (by decide) ?_
                    refine g_goto (tgt := 289) dX12_next0_285 (by decide) ?_
                    refine s_istore_n (L' := [.ref 120, .int x1, .int 1]) dX12_next0_289 rfl (by decide) rfl rfl ?_
                    refine g_aload_n dX12_next0_290 rfl rfl ?_
                    refine g_iload_n dX12_next0_291 rfl rfl ?_
                    refine g_if_eq (tgt := 302) dX12_next0_292 (by decide) (fun hh => absurd hh (by decide)) (fun _ => ?_)
                    refine g_bipush (v := 100) dX12_next0_295 (by decide) ?_
                    refine g_iload_n dX12_next0_297 rfl rfl ?_
                    refine g_iadd dX12_next0_298 ?_
                    refine g_goto (tgt := 303) dX12_next0_299 (by decide) ?_
                    refine rp_X12_13 dX12_next0_303 lf_X12_139 (sk_120 _) ?_
                    exact g_vret rfl dX12_next0_306 rfl (Nat.le_refl _) (q8 c1 c4 c6 c8 c10 c12 c14 c16 c17)
                  · skip
                    refine g_iload_n dX12_next0_272 rfl rfl ?_
                    refine g_bipush (v := 61) dX12_next0_273 (by decide) ?_
                    refine g_icmp_eq (tgt := 284) dX12_next0_275 (by decide) (fun c19 => ?_) (fun c20 => ?_)
                    · skip
                      refine g_iconst (v := 1) dX12_next0_284 (by decide) ?_
                      refine g_goto (tgt := 289) dX12_next0_285 (by decide) ?_
                      refine s_istore_n (L' := [.ref 120, .int x1, .int 1]) dX12_next0_289 rfl (by decide) rfl rfl ?_
                      refine g_aload_n dX12_next0_290 rfl rfl ?_
                      refine g_iload_n dX12_next0_291 rfl rfl ?_
                      refine g_if_eq (tgt := 302) dX12_next0_292 (by decide) (fun hh => absurd hh (by decide)) (fun _ => ?_)
                      refine g_bipush (v := 100) dX12_next0_295 (by decide) ?_
                      refine g_iload_n dX12_next0_297 rfl rfl ?_
                      refine g_iadd dX12_next0_298 ?_
                      refine g_goto (tgt := 303) dX12_next0_299 (by decide) ?_
                      refine rp_X12_13 dX12_next0_303 lf_X12_139 (sk_120 _) ?_
                      exact g_vret rfl dX12_next0_306 rfl (Nat.le_refl _) (q9 c1 c4 c6 c8 c10 c12 c14 c16 c18 c19)
                    · skip
                      refine g_iload_n dX12_next0_278 rfl rfl ?_
                      refine g_bipush (v := 62) dX12_next0_279 (by decide) ?_
                      refine g_icmp_ne (tgt := 288) dX12_next0_281 (by decide) (fun c21 => ?_) (fun c22 => ?_)
                      · skip
                        refine g_iconst (v := 0) dX12_next0_288 (by decide) ?_
                        refine s_istore_n (L' := [.ref 120, .int x1, .int 0]) dX12_next0_289 rfl (by decide) rfl rfl ?_
                        refine g_aload_n dX12_next0_290 rfl rfl ?_
                        refine g_iload_n dX12_next0_291 rfl rfl ?_
                        refine g_if_eq (tgt := 302) dX12_next0_292 (by decide) (fun _ => ?_) (fun hh => absurd hh (by decide))
                        refine g_iconst (v := 1) dX12_next0_302 (by decide) ?_
                        refine rp_X12_13 dX12_next0_303 lf_X12_139 (sk_120 _) ?_
                        exact g_vret rfl dX12_next0_306 rfl (Nat.le_refl _) (q10 c1 c4 c6 c8 c10 c12 c14 c16 c18 c20 c21)
                      · skip
                        refine g_iconst (v := 1) dX12_next0_284 (by decide) ?_
                        refine g_goto (tgt := 289) dX12_next0_285 (by decide) ?_
                        refine s_istore_n (L' := [.ref 120, .int x1, .int 1]) dX12_next0_289 rfl (by decide) rfl rfl ?_
                        refine g_aload_n dX12_next0_290 rfl rfl ?_
                        refine g_iload_n dX12_next0_291 rfl rfl ?_
                        refine g_if_eq (tgt := 302) dX12_next0_292 (by decide) (fun hh => absurd hh (by decide)) (fun _ => ?_)
                        refine g_bipush (v := 100) dX12_next0_295 (by decide) ?_
                        refine g_iload_n dX12_next0_297 rfl rfl ?_
                        refine g_iadd dX12_next0_298 ?_
                        refine g_goto (tgt := 303) dX12_next0_299 (by decide) ?_
                        refine rp_X12_13 dX12_next0_303 lf_X12_139 (sk_120 _) ?_
                        exact g_vret rfl dX12_next0_306 rfl (Nat.le_refl _) (q11 c1 c4 c6 c8 c10 c12 c14 c16 c18 c20 c22)
  · skip
    refine g_aload_n dX12_next0_121 rfl rfl ?_
    refine g_iconst (v := 0) dX12_next0_122 (by decide) ?_
    refine rp_X12_15 dX12_next0_123 lf_X12_151 (sk_120 _) ?_
    exact e12 c2
set_option maxRecDepth 10000 in
set_option maxHeartbeats 1000000 in
theorem sg_X12_next0_76 {l : Launch} {d : Nat} {Q : Option Value → mx_H → Prop} {c : Nat} {I : mx_I} (x1 : Int32)
    (k1 : mx_K1 l mX12_see d [.ref 120, .int (I 120 12)] (sk0 c, I) (fun r h' => mx_Go l (mx_rm (d + 1) 0 0) mX12_next0 (mx_Z Q 0 0) 0 0 84 [.ref 120, .int x1, .retAddr 0] (r.toList ++ []) h')) :
    mx_Go l (mx_rm (d + 1) 0 0) mX12_next0 (mx_Z Q 0 0) 0 0 76 [.ref 120, .int x1, .retAddr 0] [] (sk0 c, I) := by
  refine g_aload_n dX12_next0_76 rfl rfl ?_
  refine g_aload_n dX12_next0_77 rfl rfl ?_
  refine rg_X12_12 (v := (I 120 12)) dX12_next0_78 lf_X12_87 (sk_120 _) rfl ?_
  exact s_callV (M' := mX12_see) (As := [.int (I 120 12)]) (st := []) dX12_next0_81 lm_X12_135 ovX12_see (h := (sk0 c, I)) (sk_120 _) (show vwCl[12]? = some _ from rfl) rfl (by simp [Value.category]) (by decide) rfl (k1)
set_option maxRecDepth 10000 in
set_option maxHeartbeats 1000000 in
theorem sg_X12_next0_126 {l : Launch} {d : Nat} {Q : Option Value → mx_H → Prop} {c : Nat} {I : mx_I} (x1 : Int32)
    (k1 : mx_K1 l mX12_see d [.ref 120, .int (I 120 12)] (sk0 c, I) (fun r h' => mx_Go l (mx_rm (d + 1) 0 0) mX12_next0 (mx_Z Q 0 0) 0 0 134 [.ref 120, .int x1, .retAddr 0] (r.toList ++ []) h')) :
    mx_Go l (mx_rm (d + 1) 0 0) mX12_next0 (mx_Z Q 0 0) 0 0 126 [.ref 120, .int x1, .retAddr 0] [] (sk0 c, I) := by
  refine g_aload_n dX12_next0_126 rfl rfl ?_
  refine g_aload_n dX12_next0_127 rfl rfl ?_
  refine rg_X12_12 (v := (I 120 12)) dX12_next0_128 lf_X12_87 (sk_120 _) rfl ?_
  exact s_callV (M' := mX12_see) (As := [.int (I 120 12)]) (st := []) dX12_next0_131 lm_X12_135 ovX12_see (h := (sk0 c, I)) (sk_120 _) (show vwCl[12]? = some _ from rfl) rfl (by simp [Value.category]) (by decide) rfl (k1)
set_option maxRecDepth 10000 in
set_option maxHeartbeats 1000000 in
theorem sg_X12_next0_84 {l : Launch} {d : Nat} {Q : Option Value → mx_H → Prop} {c : Nat} {I : mx_I} (x1 : Int32) (x2 : Int32)
    (k1 : mx_K1 l mX12_isLetter d [.int x2] (sk0 c, I) (fun r h' => mx_Go l (mx_rm (d + 1) 0 0) mX12_next0 (mx_Z Q 0 0) 0 0 87 [.ref 120, .int x1, .retAddr 0] (r.toList ++ []) h')) :
    mx_Go l (mx_rm (d + 1) 0 0) mX12_next0 (mx_Z Q 0 0) 0 0 84 [.ref 120, .int x1, .retAddr 0] [.int x2] (sk0 c, I) := by
  exact s_callS (M' := mX12_isLetter) (As := [.int x2]) (st := []) dX12_next0_84 lm_X12_142 okX12_isLetter osX12_isLetter (by simp [Value.category]) (by decide) rfl (k1)
set_option maxRecDepth 10000 in
set_option maxHeartbeats 1000000 in
theorem sg_X12_next0_134 {l : Launch} {d : Nat} {Q : Option Value → mx_H → Prop} {c : Nat} {I : mx_I} (x1 : Int32) (x2 : Int32)
    (k1 : mx_K1 l mX12_isDigit d [.int x2] (sk0 c, I) (fun r h' => mx_Go l (mx_rm (d + 1) 0 0) mX12_next0 (mx_Z Q 0 0) 0 0 137 [.ref 120, .int x1, .retAddr 0] (r.toList ++ []) h')) :
    mx_Go l (mx_rm (d + 1) 0 0) mX12_next0 (mx_Z Q 0 0) 0 0 134 [.ref 120, .int x1, .retAddr 0] [.int x2] (sk0 c, I) := by
  exact s_callS (M' := mX12_isDigit) (As := [.int x2]) (st := []) dX12_next0_134 lm_X12_148 okX12_isDigit osX12_isDigit (by simp [Value.category]) (by decide) rfl (k1)
set_option maxRecDepth 10000 in
set_option maxHeartbeats 1000000 in
theorem sg_X12_next0_87 {l : Launch} {d : Nat} {Q : Option Value → mx_H → Prop} {c : Nat} {I : mx_I} (x1 : Int32) (x2 : Int32)
    (k1 : (x2 = 0) → mx_K1 l mX12_word d [.ref 120] (sk0 c, I) (fun r h' => mx_Go l (mx_rm (d + 1) 0 0) mX12_next0 (mx_Z Q 0 0) 0 0 108 [.ref 120, .int x1, .retAddr 0] (r.toList ++ [.ref 120]) h'))
    (e2 : (¬ x2 = 0) → mx_Go l (mx_rm (d + 1) 0 0) mX12_next0 (mx_Z Q 0 0) 0 0 76 [.ref 120, .int x1, .retAddr 0] [] (sk0 c, (mx_set I 120 12 ((I 120 12) + 1)))) :
    mx_Go l (mx_rm (d + 1) 0 0) mX12_next0 (mx_Z Q 0 0) 0 0 87 [.ref 120, .int x1, .retAddr 0] [.int x2] (sk0 c, I) := by
  refine g_if_eq (tgt := 103) dX12_next0_87 (by decide) (fun c1 => ?_) (fun c2 => ?_)
  · skip
    refine g_aload_n dX12_next0_103 rfl rfl ?_
    refine g_aload_n dX12_next0_104 rfl rfl ?_
    exact s_callV (M' := mX12_word) (As := []) (st := [.ref 120]) dX12_next0_105 lm_X12_145 ovX12_word (h := (sk0 c, I)) (sk_120 _) (show vwCl[12]? = some _ from rfl) rfl (by simp [Value.category]) (by decide) rfl (k1 c1)
  · skip
    refine g_aload_n dX12_next0_90 rfl rfl ?_
    refine g_dup dX12_next0_91 rfl ?_
    refine rg_X12_12 (v := (I 120 12)) dX12_next0_92 lf_X12_87 (sk_120 _) rfl ?_
    refine g_iconst (v := 1) dX12_next0_95 (by decide) ?_
    refine g_iadd dX12_next0_96 ?_
    refine rp_X12_12 dX12_next0_97 lf_X12_87 (sk_120 _) ?_
    refine g_goto (tgt := 76) dX12_next0_100 (by decide) ?_
    exact e2 c2
set_option maxRecDepth 10000 in
set_option maxHeartbeats 1000000 in
theorem sg_X12_next0_137 {l : Launch} {d : Nat} {Q : Option Value → mx_H → Prop} {c : Nat} {I : mx_I} (x1 : Int32) (x2 : Int32)
    (q1 : (x2 = 0) → (5 ≤ ((I 120 12) - (I 120 14))) → Q none (sk0 c, (mx_set I 120 13 1)))
    (q2 : (x2 = 0) → (¬ 5 ≤ ((I 120 12) - (I 120 14))) → Q none (sk0 c, (mx_set I 120 13 2)))
    (e3 : (¬ x2 = 0) → (((I 120 14) + 4) ≤ (I 120 12)) → mx_Go l (mx_rm (d + 1) 0 0) mX12_next0 (mx_Z Q 0 0) 0 0 126 [.ref 120, .int x1, .retAddr 0] [] (sk0 c, (mx_set I 120 12 ((I 120 12) + 1))))
    (k4 : (¬ x2 = 0) → (¬ ((I 120 14) + 4) ≤ (I 120 12)) → mx_K1 l mX12_see d [.ref 120, .int (I 120 12)] (sk0 c, I) (fun r h' => mx_Go l (mx_rm (d + 1) 0 0) mX12_next0 (mx_Z Q 0 0) 0 0 169 [.ref 120, .int x1, .retAddr 0] (r.toList ++ [.int (10 * (I 120 15)), .ref 120]) h')) :
    mx_Go l (mx_rm (d + 1) 0 0) mX12_next0 (mx_Z Q 0 0) 0 0 137 [.ref 120, .int x1, .retAddr 0] [.int x2] (sk0 c, I) := by
  refine g_if_eq (tgt := 189) dX12_next0_137 (by decide) (fun c1 => ?_) (fun c2 => ?_)
  · skip
    refine g_aload_n dX12_next0_189 rfl rfl ?_
    refine g_aload_n dX12_next0_190 rfl rfl ?_
    refine rg_X12_12 (v := (I 120 12)) dX12_next0_191 lf_X12_87 (sk_120 _) rfl ?_
    refine g_aload_n dX12_next0_194 rfl rfl ?_
    refine rg_X12_14 (v := (I 120 14)) dX12_next0_195 lf_X12_90 (sk_120 _) rfl ?_
    refine g_isub dX12_next0_198 ?_
    refine g_iconst (v := 5) dX12_next0_199 (by decide) ?_
    refine g_icmp_ge (tgt := 207) dX12_next0_200 (by decide) (fun c3 => ?_) (fun c4 => ?_)
    · skip
      refine g_iconst (v := 1) dX12_next0_207 (by decide) ?_
      refine rp_X12_13 dX12_next0_208 lf_X12_139 (sk_120 _) ?_
      refine g_goto (tgt := 306) dX12_next0_211 (by decide) ?_
      exact g_vret rfl dX12_next0_306 rfl (Nat.le_refl _) (q1 c1 c3)
    · skip
      refine g_iconst (v := 2) dX12_next0_203 (by decide) ?_
      refine g_goto (tgt := 208) dX12_next0_204 (by decide) ?_
      refine rp_X12_13 dX12_next0_208 lf_X12_139 (sk_120 _) ?_
      refine g_goto (tgt := 306) dX12_next0_211 (by decide) ?_
      exact g_vret rfl dX12_next0_306 rfl (Nat.le_refl _) (q2 c1 c4)
  · skip
    refine g_aload_n dX12_next0_140 rfl rfl ?_
    refine rg_X12_12 (v := (I 120 12)) dX12_next0_141 lf_X12_87 (sk_120 _) rfl ?_
    refine g_aload_n dX12_next0_144 rfl rfl ?_
    refine rg_X12_14 (v := (I 120 14)) dX12_next0_145 lf_X12_90 (sk_120 _) rfl ?_
    refine g_iconst (v := 4) dX12_next0_148 (by decide) ?_
    refine g_iadd dX12_next0_149 ?_
    refine g_icmp_ge (tgt := 176) dX12_next0_150 (by decide) (fun c5 => ?_) (fun c6 => ?_)
    · skip
      refine g_aload_n dX12_next0_176 rfl rfl ?_
      refine g_dup dX12_next0_177 rfl ?_
      refine rg_X12_12 (v := (I 120 12)) dX12_next0_178 lf_X12_87 (sk_120 _) rfl ?_
      refine g_iconst (v := 1) dX12_next0_181 (by decide) ?_
      refine g_iadd dX12_next0_182 ?_
      refine rp_X12_12 dX12_next0_183 lf_X12_87 (sk_120 _) ?_
      refine g_goto (tgt := 126) dX12_next0_186 (by decide) ?_
      exact e3 c2 c5
    · skip
      refine g_aload_n dX12_next0_153 rfl rfl ?_
      refine g_bipush (v := 10) dX12_next0_154 (by decide) ?_
      refine g_aload_n dX12_next0_156 rfl rfl ?_
      refine rg_X12_15 (v := (I 120 15)) dX12_next0_157 lf_X12_151 (sk_120 _) rfl ?_
      refine g_imul dX12_next0_160 ?_
      refine g_aload_n dX12_next0_161 rfl rfl ?_
      refine g_aload_n dX12_next0_162 rfl rfl ?_
      refine rg_X12_12 (v := (I 120 12)) dX12_next0_163 lf_X12_87 (sk_120 _) rfl ?_
      exact s_callV (M' := mX12_see) (As := [.int (I 120 12)]) (st := [.int (10 * (I 120 15)), .ref 120]) dX12_next0_166 lm_X12_135 ovX12_see (h := (sk0 c, I)) (sk_120 _) (show vwCl[12]? = some _ from rfl) rfl (by simp [Value.category]) (by decide) rfl (k4 c2 c6)
set_option maxRecDepth 10000 in
set_option maxHeartbeats 1000000 in
theorem sg_X12_next0_108 {l : Launch} {d : Nat} {Q : Option Value → mx_H → Prop} {c : Nat} {I : mx_I} (x1 : Int32) (x2 : Int32)
    (q1 : Q none (sk0 c, (mx_set I 120 13 x2))) :
    mx_Go l (mx_rm (d + 1) 0 0) mX12_next0 (mx_Z Q 0 0) 0 0 108 [.ref 120, .int x1, .retAddr 0] [.int x2, .ref 120] (sk0 c, I) := by
  refine rp_X12_13 dX12_next0_108 lf_X12_139 (sk_120 _) ?_
  refine g_goto (tgt := 306) dX12_next0_111 (by decide) ?_
  exact g_vret rfl dX12_next0_306 rfl (Nat.le_refl _) (q1)
set_option maxRecDepth 10000 in
set_option maxHeartbeats 1000000 in
theorem sg_X12_next0_169 {l : Launch} {d : Nat} {Q : Option Value → mx_H → Prop} {c : Nat} {I : mx_I} (x1 : Int32) (x2 : Int32) (x3 : Int32)
    (e1 : mx_Go l (mx_rm (d + 1) 0 0) mX12_next0 (mx_Z Q 0 0) 0 0 126 [.ref 120, .int x1, .retAddr 0] [] (sk0 c, (mx_set (mx_set I 120 15 ((x3 + x2) - 48)) 120 12 ((I 120 12) + 1)))) :
    mx_Go l (mx_rm (d + 1) 0 0) mX12_next0 (mx_Z Q 0 0) 0 0 169 [.ref 120, .int x1, .retAddr 0] [.int x2, .int x3, .ref 120] (sk0 c, I) := by
  refine g_iadd dX12_next0_169 ?_
  refine g_bipush (v := 48) dX12_next0_170 (by decide) ?_
  refine g_isub dX12_next0_172 ?_
  refine rp_X12_15 dX12_next0_173 lf_X12_151 (sk_120 _) ?_
  refine g_aload_n dX12_next0_176 rfl rfl ?_
  refine g_dup dX12_next0_177 rfl ?_
  refine rg_X12_12 (v := (I 120 12)) dX12_next0_178 lf_X12_87 (sk_120 _) (rd_sl (by decide) rfl) ?_
  refine g_iconst (v := 1) dX12_next0_181 (by decide) ?_
  refine g_iadd dX12_next0_182 ?_
  refine rp_X12_12 dX12_next0_183 lf_X12_87 (sk_120 _) ?_
  refine g_goto (tgt := 126) dX12_next0_186 (by decide) ?_
  exact e1
set_option maxRecDepth 10000 in
set_option maxHeartbeats 1000000 in
theorem sn_X12_bad {l : Launch} {d : Nat} {Q : Option Value → mx_H → Prop} {c : Nat} {I : mx_I} (a1 : Int32)
    (q1 : Q (some (.int 0)) (sk0 c, (mx_set (mx_set I 120 16 a1) 120 17 (I 120 14)))) :
    mx_Spec l mX12_bad (d + 1) 0 0 [.ref 120, .int a1] (sk0 c, I) Q := by
  refine mx_enter rfl (by simp [Value.category]) (Nat.le_of_ble_eq_true rfl) ?_
  change mx_Go l (mx_rm (d + 1) 0 0) mX12_bad (mx_Z Q 0 0) 0 0 0 [.ref 120, .int a1] [] (sk0 c, I)
  refine g_aload_n dX12_bad_0 rfl rfl ?_
  refine g_iload_n dX12_bad_1 rfl rfl ?_
  refine rp_X12_16 dX12_bad_2 lf_X12_154 (sk_120 _) ?_
  refine g_aload_n dX12_bad_5 rfl rfl ?_
  refine g_aload_n dX12_bad_6 rfl rfl ?_
  refine rg_X12_14 (v := (I 120 14)) dX12_bad_7 lf_X12_90 (sk_120 _) (rd_sl (by decide) rfl) ?_
  refine rp_X12_17 dX12_bad_10 lf_X12_157 (sk_120 _) ?_
  refine g_iconst (v := 0) dX12_bad_13 (by decide) ?_
  exact g_zret (ty := .boolean) rfl rfl dX12_bad_14 rfl (Nat.le_refl _) (q1)
set_option maxRecDepth 10000 in
set_option maxHeartbeats 1000000 in
theorem sn_X12_need {l : Launch} {d : Nat} {Q : Option Value → mx_H → Prop} {c : Nat} {I : mx_I} (a1 : Int32)
    (k1 : ((I 120 13) = a1) → mx_K1 l mX12_next0 d [.ref 120] (sk0 c, I) (fun r h' => mx_Go l (mx_rm (d + 1) 0 0) mX12_need (mx_Z Q 0 0) 0 0 18 [.ref 120, .int a1] (r.toList ++ []) h'))
    (k2 : (¬ (I 120 13) = a1) → mx_K1 l mX12_bad d [.ref 120, .int 1] (sk0 c, I) (fun r h' => mx_Go l (mx_rm (d + 1) 0 0) mX12_need (mx_Z Q 0 0) 0 0 13 [.ref 120, .int a1] (r.toList ++ []) h')) :
    mx_Spec l mX12_need (d + 1) 0 0 [.ref 120, .int a1] (sk0 c, I) Q := by
  refine mx_enter rfl (by simp [Value.category]) (Nat.le_of_ble_eq_true rfl) ?_
  change mx_Go l (mx_rm (d + 1) 0 0) mX12_need (mx_Z Q 0 0) 0 0 0 [.ref 120, .int a1] [] (sk0 c, I)
  refine g_aload_n dX12_need_0 rfl rfl ?_
  refine rg_X12_13 (v := (I 120 13)) dX12_need_1 lf_X12_139 (sk_120 _) rfl ?_
  refine g_iload_n dX12_need_4 rfl rfl ?_
  refine g_icmp_eq (tgt := 14) dX12_need_5 (by decide) (fun c1 => ?_) (fun c2 => ?_)
  · skip
    refine g_aload_n dX12_need_14 rfl rfl ?_
    exact s_callV (M' := mX12_next0) (As := []) (st := []) dX12_need_15 lm_X12_163 ovX12_next0 (h := (sk0 c, I)) (sk_120 _) (show vwCl[12]? = some _ from rfl) rfl (by simp [Value.category]) (by decide) rfl (k1 c1)
  · skip
    refine g_aload_n dX12_need_8 rfl rfl ?_
    refine g_iconst (v := 1) dX12_need_9 (by decide) ?_
    exact s_callV (M' := mX12_bad) (As := [.int 1]) (st := []) dX12_need_10 lm_X12_160 ovX12_bad (h := (sk0 c, I)) (sk_120 _) (show vwCl[12]? = some _ from rfl) rfl (by simp [Value.category]) (by decide) rfl (k2 c2)
set_option maxRecDepth 10000 in
set_option maxHeartbeats 1000000 in
theorem sg_X12_need_18 {l : Launch} {d : Nat} {Q : Option Value → mx_H → Prop} {c : Nat} {I : mx_I} (x1 : Int32)
    (q1 : Q (some (.int 1)) (sk0 c, I)) :
    mx_Go l (mx_rm (d + 1) 0 0) mX12_need (mx_Z Q 0 0) 0 0 18 [.ref 120, .int x1] [] (sk0 c, I) := by
  refine g_iconst (v := 1) dX12_need_18 (by decide) ?_
  exact g_zret (ty := .boolean) rfl rfl dX12_need_19 rfl (Nat.le_refl _) (q1)
set_option maxRecDepth 10000 in
set_option maxHeartbeats 1000000 in
theorem sg_X12_need_13 {l : Launch} {d : Nat} {Q : Option Value → mx_H → Prop} {c : Nat} {I : mx_I} (x1 : Int32) (x2 : Int32)
    (q1 : Q (some (.int x2)) (sk0 c, I))
    (n2 : x2 = 0 ∨ x2 = 1) :
    mx_Go l (mx_rm (d + 1) 0 0) mX12_need (mx_Z Q 0 0) 0 0 13 [.ref 120, .int x1] [.int x2] (sk0 c, I) := by
  exact g_zret (ty := .boolean) rfl (nb_01 (n2)) dX12_need_13 rfl (Nat.le_refl _) (q1)
set_option maxRecDepth 10000 in
set_option maxHeartbeats 1000000 in
theorem sn_X12_lay {l : Launch} {d : Nat} {Q : Option Value → mx_H → Prop} {c : Nat} {I : mx_I} (a1 : Int32) (a2 : Int32)
    (b1 : vp_in (2 * (I 120 10)) 820)
    (b2 : vp_in ((2 * (I 120 10)) + 1) 820)
    (q3 : Q none (sk0 c, (mx_set (mx_set (mx_set I 125 (2 * (I 120 10)).toNatClampNeg a1) 125 ((2 * (I 120 10)) + 1).toNatClampNeg a2) 120 10 ((I 120 10) + 1)))) :
    mx_Spec l mX12_lay (d + 1) 0 0 [.ref 120, .int a1, .int a2] (sk0 c, I) Q := by
  refine mx_enter rfl (by simp [Value.category]) (Nat.le_of_ble_eq_true rfl) ?_
  change mx_Go l (mx_rm (d + 1) 0 0) mX12_lay (mx_Z Q 0 0) 0 0 0 [.ref 120, .int a1, .int a2] [] (sk0 c, I)
  refine g_aload_n dX12_lay_0 rfl rfl ?_
  refine rg_X12_5 (r := 125) dX12_lay_1 lf_X12_22 (sk_120 _) rfl ?_
  refine g_iconst (v := 2) dX12_lay_4 (by decide) ?_
  refine g_aload_n dX12_lay_5 rfl rfl ?_
  refine rg_X12_10 (v := (I 120 10)) dX12_lay_6 lf_X12_166 (sk_120 _) rfl ?_
  refine g_imul dX12_lay_9 ?_
  refine g_iload_n dX12_lay_10 rfl rfl ?_
  refine s_iast (j := (2 * (I 120 10)).toNatClampNeg) dX12_lay_11 (sk_125 _) (b1) rfl ?_
  refine g_aload_n dX12_lay_12 rfl rfl ?_
  refine rg_X12_5 (r := 125) dX12_lay_13 lf_X12_22 (sk_120 _) rfl ?_
  refine g_iconst (v := 2) dX12_lay_16 (by decide) ?_
  refine g_aload_n dX12_lay_17 rfl rfl ?_
  refine rg_X12_10 (v := (I 120 10)) dX12_lay_18 lf_X12_166 (sk_120 _) (rd_ne (by decide) rfl) ?_
  refine g_imul dX12_lay_21 ?_
  refine g_iconst (v := 1) dX12_lay_22 (by decide) ?_
  refine g_iadd dX12_lay_23 ?_
  refine g_iload_n dX12_lay_24 rfl rfl ?_
  refine s_iast (j := ((2 * (I 120 10)) + 1).toNatClampNeg) dX12_lay_25 (sk_125 _) (b2) rfl ?_
  refine g_aload_n dX12_lay_26 rfl rfl ?_
  refine g_dup dX12_lay_27 rfl ?_
  refine rg_X12_10 (v := (I 120 10)) dX12_lay_28 lf_X12_166 (sk_120 _) (rd_ne (by decide) (rd_ne (by decide) rfl)) ?_
  refine g_iconst (v := 1) dX12_lay_31 (by decide) ?_
  refine g_iadd dX12_lay_32 ?_
  refine rp_X12_10 dX12_lay_33 lf_X12_166 (sk_120 _) ?_
  exact g_vret rfl dX12_lay_36 rfl (Nat.le_refl _) (q3)
set_option maxRecDepth 10000 in
set_option maxHeartbeats 1000000 in
theorem sn_X12_opens {l : Launch} {d : Nat} {Q : Option Value → mx_H → Prop} {c : Nat} {I : mx_I}
    (k1 : (¬ (I 120 19) = 8) → mx_K1 l mX12_next0 d [.ref 120] (sk0 c, (mx_set I 120 19 ((I 120 19) + 1))) (fun r h' => mx_Go l (mx_rm (d + 1) 0 0) mX12_opens (mx_Z Q 0 0) 0 0 29 [.ref 120] (r.toList ++ []) h'))
    (k2 : ((I 120 19) = 8) → mx_K1 l mX12_bad d [.ref 120, .int 3] (sk0 c, I) (fun r h' => mx_Go l (mx_rm (d + 1) 0 0) mX12_opens (mx_Z Q 0 0) 0 0 14 [.ref 120] (r.toList ++ []) h')) :
    mx_Spec l mX12_opens (d + 1) 0 0 [.ref 120] (sk0 c, I) Q := by
  refine mx_enter rfl (by simp [Value.category]) (Nat.le_of_ble_eq_true rfl) ?_
  change mx_Go l (mx_rm (d + 1) 0 0) mX12_opens (mx_Z Q 0 0) 0 0 0 [.ref 120] [] (sk0 c, I)
  refine g_aload_n dX12_opens_0 rfl rfl ?_
  refine rg_X12_19 (v := (I 120 19)) dX12_opens_1 lf_X12_169 (sk_120 _) rfl ?_
  refine g_bipush (v := 8) dX12_opens_4 (by decide) ?_
  refine g_icmp_ne (tgt := 15) dX12_opens_6 (by decide) (fun c1 => ?_) (fun c2 => ?_)
  · skip
    refine g_aload_n dX12_opens_15 rfl rfl ?_
    refine g_dup dX12_opens_16 rfl ?_
    refine rg_X12_19 (v := (I 120 19)) dX12_opens_17 lf_X12_169 (sk_120 _) rfl ?_
    refine g_iconst (v := 1) dX12_opens_20 (by decide) ?_
    refine g_iadd dX12_opens_21 ?_
    refine rp_X12_19 dX12_opens_22 lf_X12_169 (sk_120 _) ?_
    refine g_aload_n dX12_opens_25 rfl rfl ?_
    exact s_callV (M' := mX12_next0) (As := []) (st := []) dX12_opens_26 lm_X12_163 ovX12_next0 (h := (sk0 c, (mx_set I 120 19 ((I 120 19) + 1)))) (sk_120 _) (show vwCl[12]? = some _ from rfl) rfl (by simp [Value.category]) (by decide) rfl (k1 c1)
  · skip
    refine g_aload_n dX12_opens_9 rfl rfl ?_
    refine g_iconst (v := 3) dX12_opens_10 (by decide) ?_
    exact s_callV (M' := mX12_bad) (As := [.int 3]) (st := []) dX12_opens_11 lm_X12_160 ovX12_bad (h := (sk0 c, I)) (sk_120 _) (show vwCl[12]? = some _ from rfl) rfl (by simp [Value.category]) (by decide) rfl (k2 c2)
set_option maxRecDepth 10000 in
set_option maxHeartbeats 1000000 in
theorem sg_X12_opens_29 {l : Launch} {d : Nat} {Q : Option Value → mx_H → Prop} {c : Nat} {I : mx_I}
    (q1 : Q (some (.int 1)) (sk0 c, I)) :
    mx_Go l (mx_rm (d + 1) 0 0) mX12_opens (mx_Z Q 0 0) 0 0 29 [.ref 120] [] (sk0 c, I) := by
  refine g_iconst (v := 1) dX12_opens_29 (by decide) ?_
  exact g_zret (ty := .boolean) rfl rfl dX12_opens_30 rfl (Nat.le_refl _) (q1)
set_option maxRecDepth 10000 in
set_option maxHeartbeats 1000000 in
theorem sg_X12_opens_14 {l : Launch} {d : Nat} {Q : Option Value → mx_H → Prop} {c : Nat} {I : mx_I} (x1 : Int32)
    (q1 : Q (some (.int x1)) (sk0 c, I))
    (n2 : x1 = 0 ∨ x1 = 1) :
    mx_Go l (mx_rm (d + 1) 0 0) mX12_opens (mx_Z Q 0 0) 0 0 14 [.ref 120] [.int x1] (sk0 c, I) := by
  exact g_zret (ty := .boolean) rfl (nb_01 (n2)) dX12_opens_14 rfl (Nat.le_refl _) (q1)
set_option maxRecDepth 10000 in
set_option maxHeartbeats 1000000 in
theorem sn_X12_sumUp {l : Launch} {d : Nat} {Q : Option Value → mx_H → Prop} {c : Nat} {I : mx_I}
    (k1 : mx_K1 l mX12_product d [.ref 120] (sk0 c, I) (fun r h' => mx_Go l (mx_rm (d + 1) 0 0) mX12_sumUp (mx_Z Q 0 0) 0 0 4 [.ref 120, .retAddr 0] (r.toList ++ []) h')) :
    mx_Spec l mX12_sumUp (d + 1) 0 0 [.ref 120] (sk0 c, I) Q := by
  refine mx_enter rfl (by simp [Value.category]) (Nat.le_of_ble_eq_true rfl) ?_
  change mx_Go l (mx_rm (d + 1) 0 0) mX12_sumUp (mx_Z Q 0 0) 0 0 0 [.ref 120, .retAddr 0] [] (sk0 c, I)
  refine g_aload_n dX12_sumUp_0 rfl rfl ?_
  exact s_callV (M' := mX12_product) (As := []) (st := []) dX12_sumUp_1 lm_X12_172 ovX12_product (h := (sk0 c, I)) (sk_120 _) (show vwCl[12]? = some _ from rfl) rfl (by simp [Value.category]) (by decide) rfl (k1)
set_option maxRecDepth 10000 in
set_option maxHeartbeats 1000000 in
theorem sg_X12_sumUp_4 {l : Launch} {d : Nat} {Q : Option Value → mx_H → Prop} {c : Nat} {I : mx_I} (x1 : Int32)
    (e1 : (¬ x1 = 0) → mx_Go l (mx_rm (d + 1) 0 0) mX12_sumUp (mx_Z Q 0 0) 0 0 9 [.ref 120, .retAddr 0] [] (sk0 c, I))
    (q2 : (x1 = 0) → Q (some (.int 0)) (sk0 c, I)) :
    mx_Go l (mx_rm (d + 1) 0 0) mX12_sumUp (mx_Z Q 0 0) 0 0 4 [.ref 120, .retAddr 0] [.int x1] (sk0 c, I) := by
  refine g_if_ne (tgt := 9) dX12_sumUp_4 (by decide) (fun c1 => ?_) (fun c2 => ?_)
  · skip
    exact e1 c1
  · skip
    refine g_iconst (v := 0) dX12_sumUp_7 (by decide) ?_
    exact g_zret (ty := .boolean) rfl rfl dX12_sumUp_8 rfl (Nat.le_refl _) (q2 c2)
set_option maxRecDepth 10000 in
set_option maxHeartbeats 1000000 in
theorem sg_X12_sumUp_9 {l : Launch} {d : Nat} {Q : Option Value → mx_H → Prop} {c : Nat} {I : mx_I}
    (k1 : ((I 120 13) = 143) → (¬ (I 120 13) = 143) → mx_K1 l mX12_next0 d [.ref 120] (sk0 c, I) (fun r h' => mx_Go l (mx_rm (d + 1) 0 0) mX12_sumUp (mx_Z Q 0 0) 0 0 51 [.ref 120, .int 14] (r.toList ++ []) h'))
    (k2 : ((I 120 13) = 143) → ((I 120 13) = 143) → mx_K1 l mX12_next0 d [.ref 120] (sk0 c, I) (fun r h' => mx_Go l (mx_rm (d + 1) 0 0) mX12_sumUp (mx_Z Q 0 0) 0 0 51 [.ref 120, .int 13] (r.toList ++ []) h'))
    (q3 : (¬ (I 120 13) = 143) → (¬ (I 120 13) = 145) → Q (some (.int 1)) (sk0 c, I))
    (k4 : (¬ (I 120 13) = 143) → ((I 120 13) = 145) → (¬ (I 120 13) = 143) → mx_K1 l mX12_next0 d [.ref 120] (sk0 c, I) (fun r h' => mx_Go l (mx_rm (d + 1) 0 0) mX12_sumUp (mx_Z Q 0 0) 0 0 51 [.ref 120, .int 14] (r.toList ++ []) h'))
    (k5 : (¬ (I 120 13) = 143) → ((I 120 13) = 145) → ((I 120 13) = 143) → mx_K1 l mX12_next0 d [.ref 120] (sk0 c, I) (fun r h' => mx_Go l (mx_rm (d + 1) 0 0) mX12_sumUp (mx_Z Q 0 0) 0 0 51 [.ref 120, .int 13] (r.toList ++ []) h')) :
    mx_Go l (mx_rm (d + 1) 0 0) mX12_sumUp (mx_Z Q 0 0) 0 0 9 [.ref 120, .retAddr 0] [] (sk0 c, I) := by
  refine g_aload_n dX12_sumUp_9 rfl rfl ?_
  refine rg_X12_13 (v := (I 120 13)) dX12_sumUp_10 lf_X12_139 (sk_120 _) rfl ?_
  refine g_sipush (v := 143) dX12_sumUp_13 (by decide) ?_
  refine g_icmp_eq (tgt := 29) dX12_sumUp_16 (by decide) (fun c1 => ?_) (fun c2 => ?_)
  · skip
    refine g_aload_n dX12_sumUp_29 rfl rfl ?_
    refine rg_X12_13 (v := (I 120 13)) dX12_sumUp_30 lf_X12_139 (sk_120 _) rfl ?_
    refine g_sipush (v := 143) dX12_sumUp_33 (by decide) ?_
    refine g_icmp_ne (tgt := 44) dX12_sumUp_36 (by decide) (fun c3 => ?_) (fun c4 => ?_)
    · skip
      refine g_bipush (v := 14) dX12_sumUp_44 (by decide) ?_
      refine s_istore_n (L' := [.ref 120, .int 14]) dX12_sumUp_46 rfl (by decide) rfl rfl ?_
      refine g_aload_n dX12_sumUp_47 rfl rfl ?_
      exact s_callV (M' := mX12_next0) (As := []) (st := []) dX12_sumUp_48 lm_X12_163 ovX12_next0 (h := (sk0 c, I)) (sk_120 _) (show vwCl[12]? = some _ from rfl) rfl (by simp [Value.category]) (by decide) rfl (k1 c1 c3)
    · skip
      refine g_bipush (v := 13) dX12_sumUp_39 (by decide) ?_
      refine g_goto (tgt := 46) dX12_sumUp_41 (by decide) ?_
      refine s_istore_n (L' := [.ref 120, .int 13]) dX12_sumUp_46 rfl (by decide) rfl rfl ?_
      refine g_aload_n dX12_sumUp_47 rfl rfl ?_
      exact s_callV (M' := mX12_next0) (As := []) (st := []) dX12_sumUp_48 lm_X12_163 ovX12_next0 (h := (sk0 c, I)) (sk_120 _) (show vwCl[12]? = some _ from rfl) rfl (by simp [Value.category]) (by decide) rfl (k2 c1 c4)
  · skip
    refine g_aload_n dX12_sumUp_19 rfl rfl ?_
    refine rg_X12_13 (v := (I 120 13)) dX12_sumUp_20 lf_X12_139 (sk_120 _) rfl ?_
    refine g_sipush (v := 145) dX12_sumUp_23 (by decide) ?_
    refine g_icmp_ne (tgt := 69) dX12_sumUp_26 (by decide) (fun c5 => ?_) (fun c6 => ?_)
    · skip
      refine g_iconst (v := 1) dX12_sumUp_69 (by decide) ?_
      exact g_zret (ty := .boolean) rfl rfl dX12_sumUp_70 rfl (Nat.le_refl _) (q3 c2 c5)
    · skip
      refine g_aload_n dX12_sumUp_29 rfl rfl ?_
      refine rg_X12_13 (v := (I 120 13)) dX12_sumUp_30 lf_X12_139 (sk_120 _) rfl ?_
      refine g_sipush (v := 143) dX12_sumUp_33 (by decide) ?_
      refine g_icmp_ne (tgt := 44) dX12_sumUp_36 (by decide) (fun c7 => ?_) (fun c8 => ?_)
      · skip
        refine g_bipush (v := 14) dX12_sumUp_44 (by decide) ?_
        refine s_istore_n (L' := [.ref 120, .int 14]) dX12_sumUp_46 rfl (by decide) rfl rfl ?_
        refine g_aload_n dX12_sumUp_47 rfl rfl ?_
        exact s_callV (M' := mX12_next0) (As := []) (st := []) dX12_sumUp_48 lm_X12_163 ovX12_next0 (h := (sk0 c, I)) (sk_120 _) (show vwCl[12]? = some _ from rfl) rfl (by simp [Value.category]) (by decide) rfl (k4 c2 c6 c7)
      · skip
        refine g_bipush (v := 13) dX12_sumUp_39 (by decide) ?_
        refine g_goto (tgt := 46) dX12_sumUp_41 (by decide) ?_
        refine s_istore_n (L' := [.ref 120, .int 13]) dX12_sumUp_46 rfl (by decide) rfl rfl ?_
        refine g_aload_n dX12_sumUp_47 rfl rfl ?_
        exact s_callV (M' := mX12_next0) (As := []) (st := []) dX12_sumUp_48 lm_X12_163 ovX12_next0 (h := (sk0 c, I)) (sk_120 _) (show vwCl[12]? = some _ from rfl) rfl (by simp [Value.category]) (by decide) rfl (k5 c2 c6 c8)
set_option maxRecDepth 10000 in
set_option maxHeartbeats 1000000 in
theorem sg_X12_sumUp_51 {l : Launch} {d : Nat} {Q : Option Value → mx_H → Prop} {c : Nat} {I : mx_I} (x1 : Int32)
    (k1 : mx_K1 l mX12_product d [.ref 120] (sk0 c, I) (fun r h' => mx_Go l (mx_rm (d + 1) 0 0) mX12_sumUp (mx_Z Q 0 0) 0 0 55 [.ref 120, .int x1] (r.toList ++ []) h')) :
    mx_Go l (mx_rm (d + 1) 0 0) mX12_sumUp (mx_Z Q 0 0) 0 0 51 [.ref 120, .int x1] [] (sk0 c, I) := by
  refine g_aload_n dX12_sumUp_51 rfl rfl ?_
  exact s_callV (M' := mX12_product) (As := []) (st := []) dX12_sumUp_52 lm_X12_172 ovX12_product (h := (sk0 c, I)) (sk_120 _) (show vwCl[12]? = some _ from rfl) rfl (by simp [Value.category]) (by decide) rfl (k1)
set_option maxRecDepth 10000 in
set_option maxHeartbeats 1000000 in
theorem sg_X12_sumUp_55 {l : Launch} {d : Nat} {Q : Option Value → mx_H → Prop} {c : Nat} {I : mx_I} (x1 : Int32) (x2 : Int32)
    (k1 : (¬ x2 = 0) → mx_K1 l mX12_lay d [.ref 120, .int x1, .int 0] (sk0 c, I) (fun r h' => mx_Go l (mx_rm (d + 1) 0 0) mX12_sumUp (mx_Z Q 0 0) 0 0 66 [.ref 120, .int x1] (r.toList ++ []) h'))
    (q2 : (x2 = 0) → Q (some (.int 0)) (sk0 c, I)) :
    mx_Go l (mx_rm (d + 1) 0 0) mX12_sumUp (mx_Z Q 0 0) 0 0 55 [.ref 120, .int x1] [.int x2] (sk0 c, I) := by
  refine g_if_ne (tgt := 60) dX12_sumUp_55 (by decide) (fun c1 => ?_) (fun c2 => ?_)
  · skip
    refine g_aload_n dX12_sumUp_60 rfl rfl ?_
    refine g_iload_n dX12_sumUp_61 rfl rfl ?_
    refine g_iconst (v := 0) dX12_sumUp_62 (by decide) ?_
    exact s_callV (M' := mX12_lay) (As := [.int x1, .int 0]) (st := []) dX12_sumUp_63 lm_X12_176 ovX12_lay (h := (sk0 c, I)) (sk_120 _) (show vwCl[12]? = some _ from rfl) rfl (by simp [Value.category]) (by decide) rfl (k1 c1)
  · skip
    refine g_iconst (v := 0) dX12_sumUp_58 (by decide) ?_
    exact g_zret (ty := .boolean) rfl rfl dX12_sumUp_59 rfl (Nat.le_refl _) (q2 c2)
set_option maxRecDepth 10000 in
set_option maxHeartbeats 1000000 in
theorem sg_X12_sumUp_66 {l : Launch} {d : Nat} {Q : Option Value → mx_H → Prop} {c : Nat} {I : mx_I} (x1 : Int32)
    (e1 : mx_Go l (mx_rm (d + 1) 0 0) mX12_sumUp (mx_Z Q 0 0) 0 0 9 [.ref 120, .int x1] [] (sk0 c, I)) :
    mx_Go l (mx_rm (d + 1) 0 0) mX12_sumUp (mx_Z Q 0 0) 0 0 66 [.ref 120, .int x1] [] (sk0 c, I) := by
  refine g_goto (tgt := 9) dX12_sumUp_66 (by decide) ?_
  exact e1
set_option maxRecDepth 10000 in
set_option maxHeartbeats 1000000 in
theorem sn_X12_product {l : Launch} {d : Nat} {Q : Option Value → mx_H → Prop} {c : Nat} {I : mx_I}
    (k1 : mx_K1 l mX12_unit d [.ref 120] (sk0 c, I) (fun r h' => mx_Go l (mx_rm (d + 1) 0 0) mX12_product (mx_Z Q 0 0) 0 0 4 [.ref 120, .retAddr 0, .retAddr 0] (r.toList ++ []) h')) :
    mx_Spec l mX12_product (d + 1) 0 0 [.ref 120] (sk0 c, I) Q := by
  refine mx_enter rfl (by simp [Value.category]) (Nat.le_of_ble_eq_true rfl) ?_
  change mx_Go l (mx_rm (d + 1) 0 0) mX12_product (mx_Z Q 0 0) 0 0 0 [.ref 120, .retAddr 0, .retAddr 0] [] (sk0 c, I)
  refine g_aload_n dX12_product_0 rfl rfl ?_
  exact s_callV (M' := mX12_unit) (As := []) (st := []) dX12_product_1 lm_X12_180 ovX12_unit (h := (sk0 c, I)) (sk_120 _) (show vwCl[12]? = some _ from rfl) rfl (by simp [Value.category]) (by decide) rfl (k1)
set_option maxRecDepth 10000 in
set_option maxHeartbeats 1000000 in
theorem sg_X12_product_4 {l : Launch} {d : Nat} {Q : Option Value → mx_H → Prop} {c : Nat} {I : mx_I} (x1 : Int32)
    (e1 : (¬ x1 = 0) → mx_Go l (mx_rm (d + 1) 0 0) mX12_product (mx_Z Q 0 0) 0 0 9 [.ref 120, .retAddr 0, .retAddr 0] [] (sk0 c, I))
    (q2 : (x1 = 0) → Q (some (.int 0)) (sk0 c, I)) :
    mx_Go l (mx_rm (d + 1) 0 0) mX12_product (mx_Z Q 0 0) 0 0 4 [.ref 120, .retAddr 0, .retAddr 0] [.int x1] (sk0 c, I) := by
  refine g_if_ne (tgt := 9) dX12_product_4 (by decide) (fun c1 => ?_) (fun c2 => ?_)
  · skip
    exact e1 c1
  · skip
    refine g_iconst (v := 0) dX12_product_7 (by decide) ?_
    exact g_zret (ty := .boolean) rfl rfl dX12_product_8 rfl (Nat.le_refl _) (q2 c2)
set_option maxRecDepth 10000 in
set_option maxHeartbeats 1000000 in
theorem sg_X12_product_9 {l : Launch} {d : Nat} {Q : Option Value → mx_H → Prop} {c : Nat} {I : mx_I}
    (k1 : ((I 120 13) = 142) → (¬ (I 120 13) = 147) → mx_K1 l mX12_next0 d [.ref 120] (sk0 c, I) (fun r h' => mx_Go l (mx_rm (d + 1) 0 0) mX12_product (mx_Z Q 0 0) 0 0 49 [.ref 120, .int 0, .retAddr 0] (r.toList ++ []) h'))
    (k2 : ((I 120 13) = 142) → ((I 120 13) = 147) → mx_K1 l mX12_next0 d [.ref 120] (sk0 c, I) (fun r h' => mx_Go l (mx_rm (d + 1) 0 0) mX12_product (mx_Z Q 0 0) 0 0 49 [.ref 120, .int 1, .retAddr 0] (r.toList ++ []) h'))
    (q3 : (¬ (I 120 13) = 142) → (¬ (I 120 13) = 147) → Q (some (.int 1)) (sk0 c, I))
    (k4 : (¬ (I 120 13) = 142) → ((I 120 13) = 147) → (¬ (I 120 13) = 147) → mx_K1 l mX12_next0 d [.ref 120] (sk0 c, I) (fun r h' => mx_Go l (mx_rm (d + 1) 0 0) mX12_product (mx_Z Q 0 0) 0 0 49 [.ref 120, .int 0, .retAddr 0] (r.toList ++ []) h'))
    (k5 : (¬ (I 120 13) = 142) → ((I 120 13) = 147) → ((I 120 13) = 147) → mx_K1 l mX12_next0 d [.ref 120] (sk0 c, I) (fun r h' => mx_Go l (mx_rm (d + 1) 0 0) mX12_product (mx_Z Q 0 0) 0 0 49 [.ref 120, .int 1, .retAddr 0] (r.toList ++ []) h')) :
    mx_Go l (mx_rm (d + 1) 0 0) mX12_product (mx_Z Q 0 0) 0 0 9 [.ref 120, .retAddr 0, .retAddr 0] [] (sk0 c, I) := by
  refine g_aload_n dX12_product_9 rfl rfl ?_
  refine rg_X12_13 (v := (I 120 13)) dX12_product_10 lf_X12_139 (sk_120 _) rfl ?_
  refine g_sipush (v := 142) dX12_product_13 (by decide) ?_
  refine g_icmp_eq (tgt := 29) dX12_product_16 (by decide) (fun c1 => ?_) (fun c2 => ?_)
  · skip
    refine g_aload_n dX12_product_29 rfl rfl ?_
    refine rg_X12_13 (v := (I 120 13)) dX12_product_30 lf_X12_139 (sk_120 _) rfl ?_
    refine g_sipush (v := 147) dX12_product_33 (by decide) ?_
    refine g_icmp_ne (tgt := 43) dX12_product_36 (by decide) (fun c3 => ?_) (fun c4 => ?_)
    · skip
      refine g_iconst (v := 0) dX12_product_43 (by decide) ?_
      refine s_istore_n (L' := [.ref 120, .int 0, .retAddr 0]) dX12_product_44 rfl (by decide) rfl rfl ?_
      refine g_aload_n dX12_product_45 rfl rfl ?_
      exact s_callV (M' := mX12_next0) (As := []) (st := []) dX12_product_46 lm_X12_163 ovX12_next0 (h := (sk0 c, I)) (sk_120 _) (show vwCl[12]? = some _ from rfl) rfl (by simp [Value.category]) (by decide) rfl (k1 c1 c3)
    · skip
      refine g_iconst (v := 1) dX12_product_39 (by decide) ?_
      refine g_goto (tgt := 44) dX12_product_40 (by decide) ?_
      refine s_istore_n (L' := [.ref 120, .int 1, .retAddr 0]) dX12_product_44 rfl (by decide) rfl rfl ?_
      refine g_aload_n dX12_product_45 rfl rfl ?_
      exact s_callV (M' := mX12_next0) (As := []) (st := []) dX12_product_46 lm_X12_163 ovX12_next0 (h := (sk0 c, I)) (sk_120 _) (show vwCl[12]? = some _ from rfl) rfl (by simp [Value.category]) (by decide) rfl (k2 c1 c4)
  · skip
    refine g_aload_n dX12_product_19 rfl rfl ?_
    refine rg_X12_13 (v := (I 120 13)) dX12_product_20 lf_X12_139 (sk_120 _) rfl ?_
    refine g_sipush (v := 147) dX12_product_23 (by decide) ?_
    refine g_icmp_ne (tgt := 115) dX12_product_26 (by decide) (fun c5 => ?_) (fun c6 => ?_)
    · skip
      refine g_iconst (v := 1) dX12_product_115 (by decide) ?_
      exact g_zret (ty := .boolean) rfl rfl dX12_product_116 rfl (Nat.le_refl _) (q3 c2 c5)
    · skip
      refine g_aload_n dX12_product_29 rfl rfl ?_
      refine rg_X12_13 (v := (I 120 13)) dX12_product_30 lf_X12_139 (sk_120 _) rfl ?_
      refine g_sipush (v := 147) dX12_product_33 (by decide) ?_
      refine g_icmp_ne (tgt := 43) dX12_product_36 (by decide) (fun c7 => ?_) (fun c8 => ?_)
      · skip
        refine g_iconst (v := 0) dX12_product_43 (by decide) ?_
        refine s_istore_n (L' := [.ref 120, .int 0, .retAddr 0]) dX12_product_44 rfl (by decide) rfl rfl ?_
        refine g_aload_n dX12_product_45 rfl rfl ?_
        exact s_callV (M' := mX12_next0) (As := []) (st := []) dX12_product_46 lm_X12_163 ovX12_next0 (h := (sk0 c, I)) (sk_120 _) (show vwCl[12]? = some _ from rfl) rfl (by simp [Value.category]) (by decide) rfl (k4 c2 c6 c7)
      · skip
        refine g_iconst (v := 1) dX12_product_39 (by decide) ?_
        refine g_goto (tgt := 44) dX12_product_40 (by decide) ?_
        refine s_istore_n (L' := [.ref 120, .int 1, .retAddr 0]) dX12_product_44 rfl (by decide) rfl rfl ?_
        refine g_aload_n dX12_product_45 rfl rfl ?_
        exact s_callV (M' := mX12_next0) (As := []) (st := []) dX12_product_46 lm_X12_163 ovX12_next0 (h := (sk0 c, I)) (sk_120 _) (show vwCl[12]? = some _ from rfl) rfl (by simp [Value.category]) (by decide) rfl (k5 c2 c6 c8)
set_option maxRecDepth 10000 in
set_option maxHeartbeats 1000000 in
theorem sg_X12_product_49 {l : Launch} {d : Nat} {Q : Option Value → mx_H → Prop} {c : Nat} {I : mx_I} (x1 : Int32)
    (k1 : (x1 = 0) → mx_K1 l mX12_unit d [.ref 120] (sk0 c, I) (fun r h' => mx_Go l (mx_rm (d + 1) 0 0) mX12_product (mx_Z Q 0 0) 0 0 100 [.ref 120, .int x1, .retAddr 0] (r.toList ++ []) h'))
    (k2 : (¬ x1 = 0) → ((I 120 13) = 2) → (¬ (I 120 15) = 0) → mx_K1 l mX12_next0 d [.ref 120] (sk0 c, I) (fun r h' => mx_Go l (mx_rm (d + 1) 0 0) mX12_product (mx_Z Q 0 0) 0 0 86 [.ref 120, .int x1, .int (I 120 15)] (r.toList ++ []) h'))
    (k3 : (¬ x1 = 0) → ((I 120 13) = 2) → ((I 120 15) = 0) → mx_K1 l mX12_bad d [.ref 120, .int 2] (sk0 c, I) (fun r h' => mx_Go l (mx_rm (d + 1) 0 0) mX12_product (mx_Z Q 0 0) 0 0 81 [.ref 120, .int x1, .int (I 120 15)] (r.toList ++ []) h'))
    (k4 : (¬ x1 = 0) → (¬ (I 120 13) = 2) → mx_K1 l mX12_bad d [.ref 120, .int 1] (sk0 c, I) (fun r h' => mx_Go l (mx_rm (d + 1) 0 0) mX12_product (mx_Z Q 0 0) 0 0 71 [.ref 120, .int x1, .int (I 120 15)] (r.toList ++ []) h')) :
    mx_Go l (mx_rm (d + 1) 0 0) mX12_product (mx_Z Q 0 0) 0 0 49 [.ref 120, .int x1, .retAddr 0] [] (sk0 c, I) := by
  refine g_iload_n dX12_product_49 rfl rfl ?_
  refine g_if_eq (tgt := 96) dX12_product_50 (by decide) (fun c1 => ?_) (fun c2 => ?_)
  · skip
    refine g_aload_n dX12_product_96 rfl rfl ?_
    exact s_callV (M' := mX12_unit) (As := []) (st := []) dX12_product_97 lm_X12_180 ovX12_unit (h := (sk0 c, I)) (sk_120 _) (show vwCl[12]? = some _ from rfl) rfl (by simp [Value.category]) (by decide) rfl (k1 c1)
  · skip
    refine g_aload_n dX12_product_53 rfl rfl ?_
    refine rg_X12_15 (v := (I 120 15)) dX12_product_54 lf_X12_151 (sk_120 _) rfl ?_
    refine s_istore_n (L' := [.ref 120, .int x1, .int (I 120 15)]) dX12_product_57 rfl (by decide) rfl rfl ?_
    refine g_aload_n dX12_product_58 rfl rfl ?_
    refine rg_X12_13 (v := (I 120 13)) dX12_product_59 lf_X12_139 (sk_120 _) rfl ?_
    refine g_iconst (v := 2) dX12_product_62 (by decide) ?_
    refine g_icmp_eq (tgt := 72) dX12_product_63 (by decide) (fun c3 => ?_) (fun c4 => ?_)
    · skip
      refine g_iload_n dX12_product_72 rfl rfl ?_
      refine g_if_ne (tgt := 82) dX12_product_73 (by decide) (fun c5 => ?_) (fun c6 => ?_)
      · skip
        refine g_aload_n dX12_product_82 rfl rfl ?_
        exact s_callV (M' := mX12_next0) (As := []) (st := []) dX12_product_83 lm_X12_163 ovX12_next0 (h := (sk0 c, I)) (sk_120 _) (show vwCl[12]? = some _ from rfl) rfl (by simp [Value.category]) (by decide) rfl (k2 c2 c3 c5)
      · skip
        refine g_aload_n dX12_product_76 rfl rfl ?_
        refine g_iconst (v := 2) dX12_product_77 (by decide) ?_
        exact s_callV (M' := mX12_bad) (As := [.int 2]) (st := []) dX12_product_78 lm_X12_160 ovX12_bad (h := (sk0 c, I)) (sk_120 _) (show vwCl[12]? = some _ from rfl) rfl (by simp [Value.category]) (by decide) rfl (k3 c2 c3 c6)
    · skip
      refine g_aload_n dX12_product_66 rfl rfl ?_
      refine g_iconst (v := 1) dX12_product_67 (by decide) ?_
      exact s_callV (M' := mX12_bad) (As := [.int 1]) (st := []) dX12_product_68 lm_X12_160 ovX12_bad (h := (sk0 c, I)) (sk_120 _) (show vwCl[12]? = some _ from rfl) rfl (by simp [Value.category]) (by decide) rfl (k4 c2 c4)
