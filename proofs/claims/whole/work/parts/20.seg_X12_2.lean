set_option maxRecDepth 10000 in
set_option maxHeartbeats 1000000 in
theorem sg_X12_product_100 {l : Launch} {d : Nat} {Q : Option Value → mx_H → Prop} {c : Nat} {I : mx_I} (x1 : Int32) (x2 : Int32)
    (k1 : (¬ x2 = 0) → mx_K1 l mX12_lay d [.ref 120, .int 15, .int 0] (sk0 c, I) (fun r h' => mx_Go l (mx_rm (d + 1) 0 0) mX12_product (mx_Z Q 0 0) 0 0 112 [.ref 120, .int x1, .retAddr 0] (r.toList ++ []) h'))
    (q2 : (x2 = 0) → Q (some (.int 0)) (sk0 c, I)) :
    mx_Go l (mx_rm (d + 1) 0 0) mX12_product (mx_Z Q 0 0) 0 0 100 [.ref 120, .int x1, .retAddr 0] [.int x2] (sk0 c, I) := by
  refine g_if_ne (tgt := 105) dX12_product_100 (by decide) (fun c1 => ?_) (fun c2 => ?_)
  · skip
    refine g_aload_n dX12_product_105 rfl rfl ?_
    refine g_bipush (v := 15) dX12_product_106 (by decide) ?_
    refine g_iconst (v := 0) dX12_product_108 (by decide) ?_
    exact s_callV (M' := mX12_lay) (As := [.int 15, .int 0]) (st := []) dX12_product_109 lm_X12_176 ovX12_lay (h := (sk0 c, I)) (sk_120 _) (show vwCl[12]? = some _ from rfl) rfl (by simp [Value.category]) (by decide) rfl (k1 c1)
  · skip
    refine g_iconst (v := 0) dX12_product_103 (by decide) ?_
    exact g_zret (ty := .boolean) rfl rfl dX12_product_104 rfl (Nat.le_refl _) (q2 c2)
set_option maxRecDepth 10000 in
set_option maxHeartbeats 1000000 in
theorem sg_X12_product_86 {l : Launch} {d : Nat} {Q : Option Value → mx_H → Prop} {c : Nat} {I : mx_I} (x1 : Int32) (x2 : Int32)
    (k1 : mx_K1 l mX12_lay d [.ref 120, .int 16, .int x2] (sk0 c, I) (fun r h' => mx_Go l (mx_rm (d + 1) 0 0) mX12_product (mx_Z Q 0 0) 0 0 93 [.ref 120, .int x1, .int x2] (r.toList ++ []) h')) :
    mx_Go l (mx_rm (d + 1) 0 0) mX12_product (mx_Z Q 0 0) 0 0 86 [.ref 120, .int x1, .int x2] [] (sk0 c, I) := by
  refine g_aload_n dX12_product_86 rfl rfl ?_
  refine g_bipush (v := 16) dX12_product_87 (by decide) ?_
  refine g_iload_n dX12_product_89 rfl rfl ?_
  exact s_callV (M' := mX12_lay) (As := [.int 16, .int x2]) (st := []) dX12_product_90 lm_X12_176 ovX12_lay (h := (sk0 c, I)) (sk_120 _) (show vwCl[12]? = some _ from rfl) rfl (by simp [Value.category]) (by decide) rfl (k1)
set_option maxRecDepth 10000 in
set_option maxHeartbeats 1000000 in
theorem sg_X12_product_81 {l : Launch} {d : Nat} {Q : Option Value → mx_H → Prop} {c : Nat} {I : mx_I} (x1 : Int32) (x2 : Int32) (x3 : Int32)
    (q1 : Q (some (.int x3)) (sk0 c, I))
    (n2 : x3 = 0 ∨ x3 = 1) :
    mx_Go l (mx_rm (d + 1) 0 0) mX12_product (mx_Z Q 0 0) 0 0 81 [.ref 120, .int x1, .int x2] [.int x3] (sk0 c, I) := by
  exact g_zret (ty := .boolean) rfl (nb_01 (n2)) dX12_product_81 rfl (Nat.le_refl _) (q1)
set_option maxRecDepth 10000 in
set_option maxHeartbeats 1000000 in
theorem sg_X12_product_71 {l : Launch} {d : Nat} {Q : Option Value → mx_H → Prop} {c : Nat} {I : mx_I} (x1 : Int32) (x2 : Int32) (x3 : Int32)
    (q1 : Q (some (.int x3)) (sk0 c, I))
    (n2 : x3 = 0 ∨ x3 = 1) :
    mx_Go l (mx_rm (d + 1) 0 0) mX12_product (mx_Z Q 0 0) 0 0 71 [.ref 120, .int x1, .int x2] [.int x3] (sk0 c, I) := by
  exact g_zret (ty := .boolean) rfl (nb_01 (n2)) dX12_product_71 rfl (Nat.le_refl _) (q1)
set_option maxRecDepth 10000 in
set_option maxHeartbeats 1000000 in
theorem sg_X12_product_112 {l : Launch} {d : Nat} {Q : Option Value → mx_H → Prop} {c : Nat} {I : mx_I} (x1 : Int32)
    (e1 : mx_Go l (mx_rm (d + 1) 0 0) mX12_product (mx_Z Q 0 0) 0 0 9 [.ref 120, .int x1, .retAddr 0] [] (sk0 c, I)) :
    mx_Go l (mx_rm (d + 1) 0 0) mX12_product (mx_Z Q 0 0) 0 0 112 [.ref 120, .int x1, .retAddr 0] [] (sk0 c, I) := by
  refine g_goto (tgt := 9) dX12_product_112 (by decide) ?_
  exact e1
set_option maxRecDepth 10000 in
set_option maxHeartbeats 1000000 in
theorem sg_X12_product_93 {l : Launch} {d : Nat} {Q : Option Value → mx_H → Prop} {c : Nat} {I : mx_I} (x1 : Int32) (x2 : Int32)
    (e1 : mx_Go l (mx_rm (d + 1) 0 0) mX12_product (mx_Z Q 0 0) 0 0 9 [.ref 120, .int x1, .int x2] [] (sk0 c, I)) :
    mx_Go l (mx_rm (d + 1) 0 0) mX12_product (mx_Z Q 0 0) 0 0 93 [.ref 120, .int x1, .int x2] [] (sk0 c, I) := by
  refine g_goto (tgt := 112) dX12_product_93 (by decide) ?_
  refine g_goto (tgt := 9) dX12_product_112 (by decide) ?_
  exact e1
set_option maxRecDepth 10000 in
set_option maxHeartbeats 1000000 in
theorem sn_X12_unit {l : Launch} {d : Nat} {Q : Option Value → mx_H → Prop} {c : Nat} {I : mx_I}
    (k1 : mx_K1 l mX12_isIn d [.int (I 120 13), .int 41, .int 47] (sk0 c, I) (fun r h' => mx_Go l (mx_rm (d + 1) 0 0) mX12_unit (mx_Z Q 0 0) 0 0 11 [.ref 120, .retAddr 0] (r.toList ++ []) h')) :
    mx_Spec l mX12_unit (d + 1) 0 0 [.ref 120] (sk0 c, I) Q := by
  refine mx_enter rfl (by simp [Value.category]) (Nat.le_of_ble_eq_true rfl) ?_
  change mx_Go l (mx_rm (d + 1) 0 0) mX12_unit (mx_Z Q 0 0) 0 0 0 [.ref 120, .retAddr 0] [] (sk0 c, I)
  refine g_aload_n dX12_unit_0 rfl rfl ?_
  refine rg_X12_13 (v := (I 120 13)) dX12_unit_1 lf_X12_139 (sk_120 _) rfl ?_
  refine g_bipush (v := 41) dX12_unit_4 (by decide) ?_
  refine g_bipush (v := 47) dX12_unit_6 (by decide) ?_
  exact s_callS (M' := mX12_isIn) (As := [.int (I 120 13), .int 41, .int 47]) (st := []) dX12_unit_8 lm_X12_50 okX12_isIn osX12_isIn (by simp [Value.category]) (by decide) rfl (k1)
set_option maxRecDepth 10000 in
set_option maxHeartbeats 1000000 in
theorem sg_X12_unit_11 {l : Launch} {d : Nat} {Q : Option Value → mx_H → Prop} {c : Nat} {I : mx_I} (x1 : Int32)
    (k1 : ((I 120 13) = 2) → (x1 = 0) → mx_K1 l mX12_lay d [.ref 120, .int 0, .int (I 120 15)] (sk0 c, I) (fun r h' => mx_Go l (mx_rm (d + 1) 0 0) mX12_unit (mx_Z Q 0 0) 0 0 53 [.ref 120, .int x1] (r.toList ++ []) h'))
    (k2 : ((I 120 13) = 2) → (¬ x1 = 0) → mx_K1 l mX12_lay d [.ref 120, .int ((I 120 13) - 40), .int (I 120 15)] (sk0 c, I) (fun r h' => mx_Go l (mx_rm (d + 1) 0 0) mX12_unit (mx_Z Q 0 0) 0 0 53 [.ref 120, .int x1] (r.toList ++ []) h'))
    (k3 : (¬ (I 120 13) = 2) → (¬ x1 = 0) → (x1 = 0) → mx_K1 l mX12_lay d [.ref 120, .int 0, .int (I 120 15)] (sk0 c, I) (fun r h' => mx_Go l (mx_rm (d + 1) 0 0) mX12_unit (mx_Z Q 0 0) 0 0 53 [.ref 120, .int x1] (r.toList ++ []) h'))
    (k4 : (¬ (I 120 13) = 2) → (¬ x1 = 0) → (¬ x1 = 0) → mx_K1 l mX12_lay d [.ref 120, .int ((I 120 13) - 40), .int (I 120 15)] (sk0 c, I) (fun r h' => mx_Go l (mx_rm (d + 1) 0 0) mX12_unit (mx_Z Q 0 0) 0 0 53 [.ref 120, .int x1] (r.toList ++ []) h'))
    (k5 : (¬ (I 120 13) = 2) → (x1 = 0) → mx_K1 l mX12_bad d [.ref 120, .int 1] (sk0 c, I) (fun r h' => mx_Go l (mx_rm (d + 1) 0 0) mX12_unit (mx_Z Q 0 0) 0 0 29 [.ref 120, .int x1] (r.toList ++ []) h')) :
    mx_Go l (mx_rm (d + 1) 0 0) mX12_unit (mx_Z Q 0 0) 0 0 11 [.ref 120, .retAddr 0] [.int x1] (sk0 c, I) := by
  refine s_istore_n (L' := [.ref 120, .int x1]) dX12_unit_11 rfl (by decide) rfl rfl ?_
  refine g_aload_n dX12_unit_12 rfl rfl ?_
  refine rg_X12_13 (v := (I 120 13)) dX12_unit_13 lf_X12_139 (sk_120 _) rfl ?_
  refine g_iconst (v := 2) dX12_unit_16 (by decide) ?_
  refine g_icmp_eq (tgt := 30) dX12_unit_17 (by decide) (fun c1 => ?_) (fun c2 => ?_)
  · skip
    refine g_aload_n dX12_unit_30 rfl rfl ?_
    refine g_iload_n dX12_unit_31 rfl rfl ?_
    refine g_if_eq (tgt := 45) dX12_unit_32 (by decide) (fun c3 => ?_) (fun c4 => ?_)
    · skip
      refine g_iconst (v := 0) dX12_unit_45 (by decide) ?_
      refine g_aload_n dX12_unit_46 rfl rfl ?_
      refine rg_X12_15 (v := (I 120 15)) dX12_unit_47 lf_X12_151 (sk_120 _) rfl ?_
      exact s_callV (M' := mX12_lay) (As := [.int 0, .int (I 120 15)]) (st := []) dX12_unit_50 lm_X12_176 ovX12_lay (h := (sk0 c, I)) (sk_120 _) (show vwCl[12]? = some _ from rfl) rfl (by simp [Value.category]) (by decide) rfl (k1 c1 c3)
    · skip
      refine g_aload_n dX12_unit_35 rfl rfl ?_
      refine rg_X12_13 (v := (I 120 13)) dX12_unit_36 lf_X12_139 (sk_120 _) rfl ?_
      refine g_bipush (v := 40) dX12_unit_39 (by decide) ?_
      refine g_isub dX12_unit_41 ?_
      refine g_goto (tgt := 46) dX12_unit_42 (by decide) ?_
      refine g_aload_n dX12_unit_46 rfl rfl ?_
      refine rg_X12_15 (v := (I 120 15)) dX12_unit_47 lf_X12_151 (sk_120 _) rfl ?_
      exact s_callV (M' := mX12_lay) (As := [.int ((I 120 13) - 40), .int (I 120 15)]) (st := []) dX12_unit_50 lm_X12_176 ovX12_lay (h := (sk0 c, I)) (sk_120 _) (show vwCl[12]? = some _ from rfl) rfl (by simp [Value.category]) (by decide) rfl (k2 c1 c4)
  · skip
    refine g_iload_n dX12_unit_20 rfl rfl ?_
    refine g_if_ne (tgt := 30) dX12_unit_21 (by decide) (fun c5 => ?_) (fun c6 => ?_)
    · skip
      refine g_aload_n dX12_unit_30 rfl rfl ?_
      refine g_iload_n dX12_unit_31 rfl rfl ?_
      refine g_if_eq (tgt := 45) dX12_unit_32 (by decide) (fun c7 => ?_) (fun c8 => ?_)
      · skip
        refine g_iconst (v := 0) dX12_unit_45 (by decide) ?_
        refine g_aload_n dX12_unit_46 rfl rfl ?_
        refine rg_X12_15 (v := (I 120 15)) dX12_unit_47 lf_X12_151 (sk_120 _) rfl ?_
        exact s_callV (M' := mX12_lay) (As := [.int 0, .int (I 120 15)]) (st := []) dX12_unit_50 lm_X12_176 ovX12_lay (h := (sk0 c, I)) (sk_120 _) (show vwCl[12]? = some _ from rfl) rfl (by simp [Value.category]) (by decide) rfl (k3 c2 c5 c7)
      · skip
        refine g_aload_n dX12_unit_35 rfl rfl ?_
        refine rg_X12_13 (v := (I 120 13)) dX12_unit_36 lf_X12_139 (sk_120 _) rfl ?_
        refine g_bipush (v := 40) dX12_unit_39 (by decide) ?_
        refine g_isub dX12_unit_41 ?_
        refine g_goto (tgt := 46) dX12_unit_42 (by decide) ?_
        refine g_aload_n dX12_unit_46 rfl rfl ?_
        refine rg_X12_15 (v := (I 120 15)) dX12_unit_47 lf_X12_151 (sk_120 _) rfl ?_
        exact s_callV (M' := mX12_lay) (As := [.int ((I 120 13) - 40), .int (I 120 15)]) (st := []) dX12_unit_50 lm_X12_176 ovX12_lay (h := (sk0 c, I)) (sk_120 _) (show vwCl[12]? = some _ from rfl) rfl (by simp [Value.category]) (by decide) rfl (k4 c2 c5 c8)
    · skip
      refine g_aload_n dX12_unit_24 rfl rfl ?_
      refine g_iconst (v := 1) dX12_unit_25 (by decide) ?_
      exact s_callV (M' := mX12_bad) (As := [.int 1]) (st := []) dX12_unit_26 lm_X12_160 ovX12_bad (h := (sk0 c, I)) (sk_120 _) (show vwCl[12]? = some _ from rfl) rfl (by simp [Value.category]) (by decide) rfl (k5 c2 c6)
set_option maxRecDepth 10000 in
set_option maxHeartbeats 1000000 in
theorem sg_X12_unit_53 {l : Launch} {d : Nat} {Q : Option Value → mx_H → Prop} {c : Nat} {I : mx_I} (x1 : Int32)
    (k1 : mx_K1 l mX12_next0 d [.ref 120] (sk0 c, I) (fun r h' => mx_Go l (mx_rm (d + 1) 0 0) mX12_unit (mx_Z Q 0 0) 0 0 57 [.ref 120, .int x1] (r.toList ++ []) h')) :
    mx_Go l (mx_rm (d + 1) 0 0) mX12_unit (mx_Z Q 0 0) 0 0 53 [.ref 120, .int x1] [] (sk0 c, I) := by
  refine g_aload_n dX12_unit_53 rfl rfl ?_
  exact s_callV (M' := mX12_next0) (As := []) (st := []) dX12_unit_54 lm_X12_163 ovX12_next0 (h := (sk0 c, I)) (sk_120 _) (show vwCl[12]? = some _ from rfl) rfl (by simp [Value.category]) (by decide) rfl (k1)
set_option maxRecDepth 10000 in
set_option maxHeartbeats 1000000 in
theorem sg_X12_unit_29 {l : Launch} {d : Nat} {Q : Option Value → mx_H → Prop} {c : Nat} {I : mx_I} (x1 : Int32) (x2 : Int32)
    (q1 : Q (some (.int x2)) (sk0 c, I))
    (n2 : x2 = 0 ∨ x2 = 1) :
    mx_Go l (mx_rm (d + 1) 0 0) mX12_unit (mx_Z Q 0 0) 0 0 29 [.ref 120, .int x1] [.int x2] (sk0 c, I) := by
  exact g_zret (ty := .boolean) rfl (nb_01 (n2)) dX12_unit_29 rfl (Nat.le_refl _) (q1)
set_option maxRecDepth 10000 in
set_option maxHeartbeats 1000000 in
theorem sg_X12_unit_57 {l : Launch} {d : Nat} {Q : Option Value → mx_H → Prop} {c : Nat} {I : mx_I} (x1 : Int32)
    (q1 : Q (some (.int 1)) (sk0 c, I)) :
    mx_Go l (mx_rm (d + 1) 0 0) mX12_unit (mx_Z Q 0 0) 0 0 57 [.ref 120, .int x1] [] (sk0 c, I) := by
  refine g_iconst (v := 1) dX12_unit_57 (by decide) ?_
  exact g_zret (ty := .boolean) rfl rfl dX12_unit_58 rfl (Nat.le_refl _) (q1)
set_option maxRecDepth 10000 in
set_option maxHeartbeats 1000000 in
theorem sn_X12_any {l : Launch} {d : Nat} {Q : Option Value → mx_H → Prop} {c : Nat} {I : mx_I}
    (k1 : mx_K1 l mX12_every d [.ref 120] (sk0 c, I) (fun r h' => mx_Go l (mx_rm (d + 1) 0 0) mX12_any (mx_Z Q 0 0) 0 0 4 [.ref 120] (r.toList ++ []) h')) :
    mx_Spec l mX12_any (d + 1) 0 0 [.ref 120] (sk0 c, I) Q := by
  refine mx_enter rfl (by simp [Value.category]) (Nat.le_of_ble_eq_true rfl) ?_
  change mx_Go l (mx_rm (d + 1) 0 0) mX12_any (mx_Z Q 0 0) 0 0 0 [.ref 120] [] (sk0 c, I)
  refine g_aload_n dX12_any_0 rfl rfl ?_
  exact s_callV (M' := mX12_every) (As := []) (st := []) dX12_any_1 lm_X12_183 ovX12_every (h := (sk0 c, I)) (sk_120 _) (show vwCl[12]? = some _ from rfl) rfl (by simp [Value.category]) (by decide) rfl (k1)
set_option maxRecDepth 10000 in
set_option maxHeartbeats 1000000 in
theorem sg_X12_any_4 {l : Launch} {d : Nat} {Q : Option Value → mx_H → Prop} {c : Nat} {I : mx_I} (x1 : Int32)
    (e1 : (¬ x1 = 0) → mx_Go l (mx_rm (d + 1) 0 0) mX12_any (mx_Z Q 0 0) 0 0 9 [.ref 120] [] (sk0 c, I))
    (q2 : (x1 = 0) → Q (some (.int 0)) (sk0 c, I)) :
    mx_Go l (mx_rm (d + 1) 0 0) mX12_any (mx_Z Q 0 0) 0 0 4 [.ref 120] [.int x1] (sk0 c, I) := by
  refine g_if_ne (tgt := 9) dX12_any_4 (by decide) (fun c1 => ?_) (fun c2 => ?_)
  · skip
    exact e1 c1
  · skip
    refine g_iconst (v := 0) dX12_any_7 (by decide) ?_
    exact g_zret (ty := .boolean) rfl rfl dX12_any_8 rfl (Nat.le_refl _) (q2 c2)
set_option maxRecDepth 10000 in
set_option maxHeartbeats 1000000 in
theorem sg_X12_any_9 {l : Launch} {d : Nat} {Q : Option Value → mx_H → Prop} {c : Nat} {I : mx_I}
    (q1 : (¬ (I 120 13) = 4) → Q (some (.int 1)) (sk0 c, I))
    (k2 : ((I 120 13) = 4) → mx_K1 l mX12_next0 d [.ref 120] (sk0 c, I) (fun r h' => mx_Go l (mx_rm (d + 1) 0 0) mX12_any (mx_Z Q 0 0) 0 0 21 [.ref 120] (r.toList ++ []) h')) :
    mx_Go l (mx_rm (d + 1) 0 0) mX12_any (mx_Z Q 0 0) 0 0 9 [.ref 120] [] (sk0 c, I) := by
  refine g_aload_n dX12_any_9 rfl rfl ?_
  refine rg_X12_13 (v := (I 120 13)) dX12_any_10 lf_X12_139 (sk_120 _) rfl ?_
  refine g_iconst (v := 4) dX12_any_13 (by decide) ?_
  refine g_icmp_ne (tgt := 40) dX12_any_14 (by decide) (fun c1 => ?_) (fun c2 => ?_)
  · skip
    refine g_iconst (v := 1) dX12_any_40 (by decide) ?_
    exact g_zret (ty := .boolean) rfl rfl dX12_any_41 rfl (Nat.le_refl _) (q1 c1)
  · skip
    refine g_aload_n dX12_any_17 rfl rfl ?_
    exact s_callV (M' := mX12_next0) (As := []) (st := []) dX12_any_18 lm_X12_163 ovX12_next0 (h := (sk0 c, I)) (sk_120 _) (show vwCl[12]? = some _ from rfl) rfl (by simp [Value.category]) (by decide) rfl (k2 c2)
set_option maxRecDepth 10000 in
set_option maxHeartbeats 1000000 in
theorem sg_X12_any_21 {l : Launch} {d : Nat} {Q : Option Value → mx_H → Prop} {c : Nat} {I : mx_I}
    (k1 : mx_K1 l mX12_every d [.ref 120] (sk0 c, I) (fun r h' => mx_Go l (mx_rm (d + 1) 0 0) mX12_any (mx_Z Q 0 0) 0 0 25 [.ref 120] (r.toList ++ []) h')) :
    mx_Go l (mx_rm (d + 1) 0 0) mX12_any (mx_Z Q 0 0) 0 0 21 [.ref 120] [] (sk0 c, I) := by
  refine g_aload_n dX12_any_21 rfl rfl ?_
  exact s_callV (M' := mX12_every) (As := []) (st := []) dX12_any_22 lm_X12_183 ovX12_every (h := (sk0 c, I)) (sk_120 _) (show vwCl[12]? = some _ from rfl) rfl (by simp [Value.category]) (by decide) rfl (k1)
set_option maxRecDepth 10000 in
set_option maxHeartbeats 1000000 in
theorem sg_X12_any_25 {l : Launch} {d : Nat} {Q : Option Value → mx_H → Prop} {c : Nat} {I : mx_I} (x1 : Int32)
    (k1 : (¬ x1 = 0) → mx_K1 l mX12_lay d [.ref 120, .int 22, .int 0] (sk0 c, I) (fun r h' => mx_Go l (mx_rm (d + 1) 0 0) mX12_any (mx_Z Q 0 0) 0 0 37 [.ref 120] (r.toList ++ []) h'))
    (q2 : (x1 = 0) → Q (some (.int 0)) (sk0 c, I)) :
    mx_Go l (mx_rm (d + 1) 0 0) mX12_any (mx_Z Q 0 0) 0 0 25 [.ref 120] [.int x1] (sk0 c, I) := by
  refine g_if_ne (tgt := 30) dX12_any_25 (by decide) (fun c1 => ?_) (fun c2 => ?_)
  · skip
    refine g_aload_n dX12_any_30 rfl rfl ?_
    refine g_bipush (v := 22) dX12_any_31 (by decide) ?_
    refine g_iconst (v := 0) dX12_any_33 (by decide) ?_
    exact s_callV (M' := mX12_lay) (As := [.int 22, .int 0]) (st := []) dX12_any_34 lm_X12_176 ovX12_lay (h := (sk0 c, I)) (sk_120 _) (show vwCl[12]? = some _ from rfl) rfl (by simp [Value.category]) (by decide) rfl (k1 c1)
  · skip
    refine g_iconst (v := 0) dX12_any_28 (by decide) ?_
    exact g_zret (ty := .boolean) rfl rfl dX12_any_29 rfl (Nat.le_refl _) (q2 c2)
set_option maxRecDepth 10000 in
set_option maxHeartbeats 1000000 in
theorem sg_X12_any_37 {l : Launch} {d : Nat} {Q : Option Value → mx_H → Prop} {c : Nat} {I : mx_I}
    (e1 : mx_Go l (mx_rm (d + 1) 0 0) mX12_any (mx_Z Q 0 0) 0 0 9 [.ref 120] [] (sk0 c, I)) :
    mx_Go l (mx_rm (d + 1) 0 0) mX12_any (mx_Z Q 0 0) 0 0 37 [.ref 120] [] (sk0 c, I) := by
  refine g_goto (tgt := 9) dX12_any_37 (by decide) ?_
  exact e1
set_option maxRecDepth 10000 in
set_option maxHeartbeats 1000000 in
theorem sn_X12_every {l : Launch} {d : Nat} {Q : Option Value → mx_H → Prop} {c : Nat} {I : mx_I}
    (k1 : mx_K1 l mX12_oneTest d [.ref 120] (sk0 c, I) (fun r h' => mx_Go l (mx_rm (d + 1) 0 0) mX12_every (mx_Z Q 0 0) 0 0 4 [.ref 120] (r.toList ++ []) h')) :
    mx_Spec l mX12_every (d + 1) 0 0 [.ref 120] (sk0 c, I) Q := by
  refine mx_enter rfl (by simp [Value.category]) (Nat.le_of_ble_eq_true rfl) ?_
  change mx_Go l (mx_rm (d + 1) 0 0) mX12_every (mx_Z Q 0 0) 0 0 0 [.ref 120] [] (sk0 c, I)
  refine g_aload_n dX12_every_0 rfl rfl ?_
  exact s_callV (M' := mX12_oneTest) (As := []) (st := []) dX12_every_1 lm_X12_186 ovX12_oneTest (h := (sk0 c, I)) (sk_120 _) (show vwCl[12]? = some _ from rfl) rfl (by simp [Value.category]) (by decide) rfl (k1)
set_option maxRecDepth 10000 in
set_option maxHeartbeats 1000000 in
theorem sg_X12_every_4 {l : Launch} {d : Nat} {Q : Option Value → mx_H → Prop} {c : Nat} {I : mx_I} (x1 : Int32)
    (e1 : (¬ x1 = 0) → mx_Go l (mx_rm (d + 1) 0 0) mX12_every (mx_Z Q 0 0) 0 0 9 [.ref 120] [] (sk0 c, I))
    (q2 : (x1 = 0) → Q (some (.int 0)) (sk0 c, I)) :
    mx_Go l (mx_rm (d + 1) 0 0) mX12_every (mx_Z Q 0 0) 0 0 4 [.ref 120] [.int x1] (sk0 c, I) := by
  refine g_if_ne (tgt := 9) dX12_every_4 (by decide) (fun c1 => ?_) (fun c2 => ?_)
  · skip
    exact e1 c1
  · skip
    refine g_iconst (v := 0) dX12_every_7 (by decide) ?_
    exact g_zret (ty := .boolean) rfl rfl dX12_every_8 rfl (Nat.le_refl _) (q2 c2)
set_option maxRecDepth 10000 in
set_option maxHeartbeats 1000000 in
theorem sg_X12_every_9 {l : Launch} {d : Nat} {Q : Option Value → mx_H → Prop} {c : Nat} {I : mx_I}
    (q1 : (¬ (I 120 13) = 5) → Q (some (.int 1)) (sk0 c, I))
    (k2 : ((I 120 13) = 5) → mx_K1 l mX12_next0 d [.ref 120] (sk0 c, I) (fun r h' => mx_Go l (mx_rm (d + 1) 0 0) mX12_every (mx_Z Q 0 0) 0 0 21 [.ref 120] (r.toList ++ []) h')) :
    mx_Go l (mx_rm (d + 1) 0 0) mX12_every (mx_Z Q 0 0) 0 0 9 [.ref 120] [] (sk0 c, I) := by
  refine g_aload_n dX12_every_9 rfl rfl ?_
  refine rg_X12_13 (v := (I 120 13)) dX12_every_10 lf_X12_139 (sk_120 _) rfl ?_
  refine g_iconst (v := 5) dX12_every_13 (by decide) ?_
  refine g_icmp_ne (tgt := 40) dX12_every_14 (by decide) (fun c1 => ?_) (fun c2 => ?_)
  · skip
    refine g_iconst (v := 1) dX12_every_40 (by decide) ?_
    exact g_zret (ty := .boolean) rfl rfl dX12_every_41 rfl (Nat.le_refl _) (q1 c1)
  · skip
    refine g_aload_n dX12_every_17 rfl rfl ?_
    exact s_callV (M' := mX12_next0) (As := []) (st := []) dX12_every_18 lm_X12_163 ovX12_next0 (h := (sk0 c, I)) (sk_120 _) (show vwCl[12]? = some _ from rfl) rfl (by simp [Value.category]) (by decide) rfl (k2 c2)
set_option maxRecDepth 10000 in
set_option maxHeartbeats 1000000 in
theorem sg_X12_every_21 {l : Launch} {d : Nat} {Q : Option Value → mx_H → Prop} {c : Nat} {I : mx_I}
    (k1 : mx_K1 l mX12_oneTest d [.ref 120] (sk0 c, I) (fun r h' => mx_Go l (mx_rm (d + 1) 0 0) mX12_every (mx_Z Q 0 0) 0 0 25 [.ref 120] (r.toList ++ []) h')) :
    mx_Go l (mx_rm (d + 1) 0 0) mX12_every (mx_Z Q 0 0) 0 0 21 [.ref 120] [] (sk0 c, I) := by
  refine g_aload_n dX12_every_21 rfl rfl ?_
  exact s_callV (M' := mX12_oneTest) (As := []) (st := []) dX12_every_22 lm_X12_186 ovX12_oneTest (h := (sk0 c, I)) (sk_120 _) (show vwCl[12]? = some _ from rfl) rfl (by simp [Value.category]) (by decide) rfl (k1)
set_option maxRecDepth 10000 in
set_option maxHeartbeats 1000000 in
theorem sg_X12_every_25 {l : Launch} {d : Nat} {Q : Option Value → mx_H → Prop} {c : Nat} {I : mx_I} (x1 : Int32)
    (k1 : (¬ x1 = 0) → mx_K1 l mX12_lay d [.ref 120, .int 21, .int 0] (sk0 c, I) (fun r h' => mx_Go l (mx_rm (d + 1) 0 0) mX12_every (mx_Z Q 0 0) 0 0 37 [.ref 120] (r.toList ++ []) h'))
    (q2 : (x1 = 0) → Q (some (.int 0)) (sk0 c, I)) :
    mx_Go l (mx_rm (d + 1) 0 0) mX12_every (mx_Z Q 0 0) 0 0 25 [.ref 120] [.int x1] (sk0 c, I) := by
  refine g_if_ne (tgt := 30) dX12_every_25 (by decide) (fun c1 => ?_) (fun c2 => ?_)
  · skip
    refine g_aload_n dX12_every_30 rfl rfl ?_
    refine g_bipush (v := 21) dX12_every_31 (by decide) ?_
    refine g_iconst (v := 0) dX12_every_33 (by decide) ?_
    exact s_callV (M' := mX12_lay) (As := [.int 21, .int 0]) (st := []) dX12_every_34 lm_X12_176 ovX12_lay (h := (sk0 c, I)) (sk_120 _) (show vwCl[12]? = some _ from rfl) rfl (by simp [Value.category]) (by decide) rfl (k1 c1)
  · skip
    refine g_iconst (v := 0) dX12_every_28 (by decide) ?_
    exact g_zret (ty := .boolean) rfl rfl dX12_every_29 rfl (Nat.le_refl _) (q2 c2)
set_option maxRecDepth 10000 in
set_option maxHeartbeats 1000000 in
theorem sg_X12_every_37 {l : Launch} {d : Nat} {Q : Option Value → mx_H → Prop} {c : Nat} {I : mx_I}
    (e1 : mx_Go l (mx_rm (d + 1) 0 0) mX12_every (mx_Z Q 0 0) 0 0 9 [.ref 120] [] (sk0 c, I)) :
    mx_Go l (mx_rm (d + 1) 0 0) mX12_every (mx_Z Q 0 0) 0 0 37 [.ref 120] [] (sk0 c, I) := by
  refine g_goto (tgt := 9) dX12_every_37 (by decide) ?_
  exact e1
set_option maxRecDepth 10000 in
set_option maxHeartbeats 1000000 in
theorem sn_X12_oneTest {l : Launch} {d : Nat} {Q : Option Value → mx_H → Prop} {c : Nat} {I : mx_I}
    (k1 : (¬ (I 120 13) = 6) → (¬ (I 120 13) = 140) → mx_K1 l mX12_sumUp d [.ref 120] (sk0 c, I) (fun r h' => mx_Go l (mx_rm (d + 1) 0 0) mX12_oneTest (mx_Z Q 0 0) 0 0 96 [.ref 120, .retAddr 0] (r.toList ++ []) h'))
    (k2 : (¬ (I 120 13) = 6) → ((I 120 13) = 140) → mx_K1 l mX12_opens d [.ref 120] (sk0 c, I) (fun r h' => mx_Go l (mx_rm (d + 1) 0 0) mX12_oneTest (mx_Z Q 0 0) 0 0 58 [.ref 120, .retAddr 0] (r.toList ++ []) h'))
    (k3 : ((I 120 13) = 6) → mx_K1 l mX12_opens d [.ref 120] (sk0 c, I) (fun r h' => mx_Go l (mx_rm (d + 1) 0 0) mX12_oneTest (mx_Z Q 0 0) 0 0 13 [.ref 120, .retAddr 0] (r.toList ++ []) h')) :
    mx_Spec l mX12_oneTest (d + 1) 0 0 [.ref 120] (sk0 c, I) Q := by
  refine mx_enter rfl (by simp [Value.category]) (Nat.le_of_ble_eq_true rfl) ?_
  change mx_Go l (mx_rm (d + 1) 0 0) mX12_oneTest (mx_Z Q 0 0) 0 0 0 [.ref 120, .retAddr 0] [] (sk0 c, I)
  refine g_aload_n dX12_oneTest_0 rfl rfl ?_
  refine rg_X12_13 (v := (I 120 13)) dX12_oneTest_1 lf_X12_139 (sk_120 _) rfl ?_
  refine g_bipush (v := 6) dX12_oneTest_4 (by decide) ?_
  refine g_icmp_ne (tgt := 44) dX12_oneTest_6 (by decide) (fun c1 => ?_) (fun c2 => ?_)
  · skip
    refine g_aload_n dX12_oneTest_44 rfl rfl ?_
    refine rg_X12_13 (v := (I 120 13)) dX12_oneTest_45 lf_X12_139 (sk_120 _) rfl ?_
    refine g_sipush (v := 140) dX12_oneTest_48 (by decide) ?_
    refine g_icmp_ne (tgt := 92) dX12_oneTest_51 (by decide) (fun c3 => ?_) (fun c4 => ?_)
    · skip
      refine g_aload_n dX12_oneTest_92 rfl rfl ?_
      exact s_callV (M' := mX12_sumUp) (As := []) (st := []) dX12_oneTest_93 lm_X12_198 ovX12_sumUp (h := (sk0 c, I)) (sk_120 _) (show vwCl[12]? = some _ from rfl) rfl (by simp [Value.category]) (by decide) rfl (k1 c1 c3)
    · skip
      refine g_aload_n dX12_oneTest_54 rfl rfl ?_
      exact s_callV (M' := mX12_opens) (As := []) (st := []) dX12_oneTest_55 lm_X12_189 ovX12_opens (h := (sk0 c, I)) (sk_120 _) (show vwCl[12]? = some _ from rfl) rfl (by simp [Value.category]) (by decide) rfl (k2 c1 c4)
  · skip
    refine g_aload_n dX12_oneTest_9 rfl rfl ?_
    exact s_callV (M' := mX12_opens) (As := []) (st := []) dX12_oneTest_10 lm_X12_189 ovX12_opens (h := (sk0 c, I)) (sk_120 _) (show vwCl[12]? = some _ from rfl) rfl (by simp [Value.category]) (by decide) rfl (k3 c2)
set_option maxRecDepth 10000 in
set_option maxHeartbeats 1000000 in
theorem sg_X12_oneTest_96 {l : Launch} {d : Nat} {Q : Option Value → mx_H → Prop} {c : Nat} {I : mx_I} (x1 : Int32)
    (k1 : (¬ x1 = 0) → (¬ (I 120 13) = 160) → (¬ (I 120 13) = 161) → (¬ (I 120 13) = 162) → mx_K1 l mX12_bad d [.ref 120, .int 1] (sk0 c, I) (fun r h' => mx_Go l (mx_rm (d + 1) 0 0) mX12_oneTest (mx_Z Q 0 0) 0 0 158 [.ref 120, .int (-1)] (r.toList ++ []) h'))
    (k2 : (¬ x1 = 0) → (¬ (I 120 13) = 160) → (¬ (I 120 13) = 161) → ((I 120 13) = 162) → mx_K1 l mX12_next0 d [.ref 120] (sk0 c, I) (fun r h' => mx_Go l (mx_rm (d + 1) 0 0) mX12_oneTest (mx_Z Q 0 0) 0 0 163 [.ref 120, .int 19] (r.toList ++ []) h'))
    (k3 : (¬ x1 = 0) → (¬ (I 120 13) = 160) → ((I 120 13) = 161) → mx_K1 l mX12_next0 d [.ref 120] (sk0 c, I) (fun r h' => mx_Go l (mx_rm (d + 1) 0 0) mX12_oneTest (mx_Z Q 0 0) 0 0 163 [.ref 120, .int 18] (r.toList ++ []) h'))
    (k4 : (¬ x1 = 0) → ((I 120 13) = 160) → mx_K1 l mX12_next0 d [.ref 120] (sk0 c, I) (fun r h' => mx_Go l (mx_rm (d + 1) 0 0) mX12_oneTest (mx_Z Q 0 0) 0 0 163 [.ref 120, .int 17] (r.toList ++ []) h'))
    (q5 : (x1 = 0) → Q (some (.int 0)) (sk0 c, I)) :
    mx_Go l (mx_rm (d + 1) 0 0) mX12_oneTest (mx_Z Q 0 0) 0 0 96 [.ref 120, .retAddr 0] [.int x1] (sk0 c, I) := by
  refine g_if_ne (tgt := 101) dX12_oneTest_96 (by decide) (fun c1 => ?_) (fun c2 => ?_)
  · skip
    refine g_aload_n dX12_oneTest_101 rfl rfl ?_
    refine rg_X12_13 (v := (I 120 13)) dX12_oneTest_102 lf_X12_139 (sk_120 _) rfl ?_
    refine g_sipush (v := 160) dX12_oneTest_105 (by decide) ?_
    refine g_icmp_ne (tgt := 116) dX12_oneTest_108 (by decide) (fun c3 => ?_) (fun c4 => ?_)
    · skip
      refine g_aload_n dX12_oneTest_116 rfl rfl ?_
      refine rg_X12_13 (v := (I 120 13)) dX12_oneTest_117 lf_X12_139 (sk_120 _) rfl ?_
      refine g_sipush (v := 161) dX12_oneTest_120 (by decide) ?_
      refine g_icmp_ne (tgt := 131) dX12_oneTest_123 (by decide) (fun c5 => ?_) (fun c6 => ?_)
      · skip
        refine g_aload_n dX12_oneTest_131 rfl rfl ?_
        refine rg_X12_13 (v := (I 120 13)) dX12_oneTest_132 lf_X12_139 (sk_120 _) rfl ?_
        refine g_sipush (v := 162) dX12_oneTest_135 (by decide) ?_
        refine g_icmp_ne (tgt := 146) dX12_oneTest_138 (by decide) (fun c7 => ?_) (fun c8 => ?_)
        · skip
          refine g_iconst (v := (-1)) dX12_oneTest_146 (by decide) ?_
          refine s_istore_n (L' := [.ref 120, .int (-1)]) dX12_oneTest_147 rfl (by decide) rfl rfl ?_
          refine g_iload_n dX12_oneTest_148 rfl rfl ?_
          refine g_iconst (v := (-1)) dX12_oneTest_149 (by decide) ?_
          refine g_icmp_ne (tgt := 159) dX12_oneTest_150 (by decide) (fun hh => absurd hh (by decide)) (fun _ => ?_)
          refine g_aload_n dX12_oneTest_153 rfl rfl ?_
          refine g_iconst (v := 1) dX12_oneTest_154 (by decide) ?_
          exact s_callV (M' := mX12_bad) (As := [.int 1]) (st := []) dX12_oneTest_155 lm_X12_160 ovX12_bad (h := (sk0 c, I)) (sk_120 _) (show vwCl[12]? = some _ from rfl) rfl (by simp [Value.category]) (by decide) rfl (k1 c1 c3 c5 c7)
        · skip
          refine g_bipush (v := 19) dX12_oneTest_141 (by decide) ?_
          refine g_goto (tgt := 147) dX12_oneTest_143 (by decide) ?_
          refine s_istore_n (L' := [.ref 120, .int 19]) dX12_oneTest_147 rfl (by decide) rfl rfl ?_
          refine g_iload_n dX12_oneTest_148 rfl rfl ?_
          refine g_iconst (v := (-1)) dX12_oneTest_149 (by decide) ?_
          refine g_icmp_ne (tgt := 159) dX12_oneTest_150 (by decide) (fun _ => ?_) (fun hh => absurd hh (by decide))
          refine g_aload_n dX12_oneTest_159 rfl rfl ?_
          exact s_callV (M' := mX12_next0) (As := []) (st := []) dX12_oneTest_160 lm_X12_163 ovX12_next0 (h := (sk0 c, I)) (sk_120 _) (show vwCl[12]? = some _ from rfl) rfl (by simp [Value.category]) (by decide) rfl (k2 c1 c3 c5 c8)
      · skip
        refine g_bipush (v := 18) dX12_oneTest_126 (by decide) ?_
        refine g_goto (tgt := 147) dX12_oneTest_128 (by decide) ?_
        refine s_istore_n (L' := [.ref 120, .int 18]) dX12_oneTest_147 rfl (by decide) rfl rfl ?_
        refine g_iload_n dX12_oneTest_148 rfl rfl ?_
        refine g_iconst (v := (-1)) dX12_oneTest_149 (by decide) ?_
        refine g_icmp_ne (tgt := 159) dX12_oneTest_150 (by decide) (fun _ => ?_) (fun hh => absurd hh (by decide))
        refine g_aload_n dX12_oneTest_159 rfl rfl ?_
        exact s_callV (M' := mX12_next0) (As := []) (st := []) dX12_oneTest_160 lm_X12_163 ovX12_next0 (h := (sk0 c, I)) (sk_120 _) (show vwCl[12]? = some _ from rfl) rfl (by simp [Value.category]) (by decide) rfl (k3 c1 c3 c6)
    · skip
      refine g_bipush (v := 17) dX12_oneTest_111 (by decide) ?_
      refine g_goto (tgt := 147) dX12_oneTest_113 (by decide) ?_
      refine s_istore_n (L' := [.ref 120, .int 17]) dX12_oneTest_147 rfl (by decide) rfl rfl ?_
      refine g_iload_n dX12_oneTest_148 rfl rfl ?_
      refine g_iconst (v := (-1)) dX12_oneTest_149 (by decide) ?_
      refine g_icmp_ne (tgt := 159) dX12_oneTest_150 (by decide) (fun _ => ?_) (fun hh => absurd hh (by decide))
      refine g_aload_n dX12_oneTest_159 rfl rfl ?_
      exact s_callV (M' := mX12_next0) (As := []) (st := []) dX12_oneTest_160 lm_X12_163 ovX12_next0 (h := (sk0 c, I)) (sk_120 _) (show vwCl[12]? = some _ from rfl) rfl (by simp [Value.category]) (by decide) rfl (k4 c1 c4)
  · skip
    refine g_iconst (v := 0) dX12_oneTest_99 (by decide) ?_
    exact g_zret (ty := .boolean) rfl rfl dX12_oneTest_100 rfl (Nat.le_refl _) (q5 c2)
set_option maxRecDepth 10000 in
set_option maxHeartbeats 1000000 in
theorem sg_X12_oneTest_58 {l : Launch} {d : Nat} {Q : Option Value → mx_H → Prop} {c : Nat} {I : mx_I} (x1 : Int32)
    (q1 : (x1 = 0) → Q (some (.int 0)) (sk0 c, I))
    (k2 : (¬ x1 = 0) → mx_K1 l mX12_any d [.ref 120] (sk0 c, I) (fun r h' => mx_Go l (mx_rm (d + 1) 0 0) mX12_oneTest (mx_Z Q 0 0) 0 0 65 [.ref 120, .retAddr 0] (r.toList ++ []) h')) :
    mx_Go l (mx_rm (d + 1) 0 0) mX12_oneTest (mx_Z Q 0 0) 0 0 58 [.ref 120, .retAddr 0] [.int x1] (sk0 c, I) := by
  refine g_if_eq (tgt := 78) dX12_oneTest_58 (by decide) (fun c1 => ?_) (fun c2 => ?_)
  · skip
    refine g_iconst (v := 0) dX12_oneTest_78 (by decide) ?_
    exact g_zret (ty := .boolean) rfl rfl dX12_oneTest_79 rfl (Nat.le_refl _) (q1 c1)
  · skip
    refine g_aload_n dX12_oneTest_61 rfl rfl ?_
    exact s_callV (M' := mX12_any) (As := []) (st := []) dX12_oneTest_62 lm_X12_192 ovX12_any (h := (sk0 c, I)) (sk_120 _) (show vwCl[12]? = some _ from rfl) rfl (by simp [Value.category]) (by decide) rfl (k2 c2)
set_option maxRecDepth 10000 in
set_option maxHeartbeats 1000000 in
theorem sg_X12_oneTest_13 {l : Launch} {d : Nat} {Q : Option Value → mx_H → Prop} {c : Nat} {I : mx_I} (x1 : Int32)
    (q1 : (x1 = 0) → Q (some (.int 0)) (sk0 c, I))
    (k2 : (¬ x1 = 0) → mx_K1 l mX12_oneTest d [.ref 120] (sk0 c, I) (fun r h' => mx_Go l (mx_rm (d + 1) 0 0) mX12_oneTest (mx_Z Q 0 0) 0 0 20 [.ref 120, .retAddr 0] (r.toList ++ []) h')) :
    mx_Go l (mx_rm (d + 1) 0 0) mX12_oneTest (mx_Z Q 0 0) 0 0 13 [.ref 120, .retAddr 0] [.int x1] (sk0 c, I) := by
  refine g_if_eq (tgt := 23) dX12_oneTest_13 (by decide) (fun c1 => ?_) (fun c2 => ?_)
  · skip
    refine g_iconst (v := 0) dX12_oneTest_23 (by decide) ?_
    exact g_zret (ty := .boolean) rfl rfl dX12_oneTest_24 rfl (Nat.le_refl _) (q1 c1)
  · skip
    refine g_aload_n dX12_oneTest_16 rfl rfl ?_
    exact s_callV (M' := mX12_oneTest) (As := []) (st := []) dX12_oneTest_17 lm_X12_186 ovX12_oneTest (h := (sk0 c, I)) (sk_120 _) (show vwCl[12]? = some _ from rfl) rfl (by simp [Value.category]) (by decide) rfl (k2 c2)
set_option maxRecDepth 10000 in
set_option maxHeartbeats 1000000 in
theorem sg_X12_oneTest_158 {l : Launch} {d : Nat} {Q : Option Value → mx_H → Prop} {c : Nat} {I : mx_I} (x1 : Int32) (x2 : Int32)
    (q1 : Q (some (.int x2)) (sk0 c, I))
    (n2 : x2 = 0 ∨ x2 = 1) :
    mx_Go l (mx_rm (d + 1) 0 0) mX12_oneTest (mx_Z Q 0 0) 0 0 158 [.ref 120, .int x1] [.int x2] (sk0 c, I) := by
  exact g_zret (ty := .boolean) rfl (nb_01 (n2)) dX12_oneTest_158 rfl (Nat.le_refl _) (q1)
set_option maxRecDepth 10000 in
set_option maxHeartbeats 1000000 in
theorem sg_X12_oneTest_163 {l : Launch} {d : Nat} {Q : Option Value → mx_H → Prop} {c : Nat} {I : mx_I} (x1 : Int32)
    (k1 : mx_K1 l mX12_sumUp d [.ref 120] (sk0 c, I) (fun r h' => mx_Go l (mx_rm (d + 1) 0 0) mX12_oneTest (mx_Z Q 0 0) 0 0 167 [.ref 120, .int x1] (r.toList ++ []) h')) :
    mx_Go l (mx_rm (d + 1) 0 0) mX12_oneTest (mx_Z Q 0 0) 0 0 163 [.ref 120, .int x1] [] (sk0 c, I) := by
  refine g_aload_n dX12_oneTest_163 rfl rfl ?_
  exact s_callV (M' := mX12_sumUp) (As := []) (st := []) dX12_oneTest_164 lm_X12_198 ovX12_sumUp (h := (sk0 c, I)) (sk_120 _) (show vwCl[12]? = some _ from rfl) rfl (by simp [Value.category]) (by decide) rfl (k1)
set_option maxRecDepth 10000 in
set_option maxHeartbeats 1000000 in
theorem sg_X12_oneTest_65 {l : Launch} {d : Nat} {Q : Option Value → mx_H → Prop} {c : Nat} {I : mx_I} (x1 : Int32)
    (q1 : (x1 = 0) → Q (some (.int 0)) (sk0 c, I))
    (k2 : (¬ x1 = 0) → mx_K1 l mX12_need d [.ref 120, .int 141] (sk0 c, I) (fun r h' => mx_Go l (mx_rm (d + 1) 0 0) mX12_oneTest (mx_Z Q 0 0) 0 0 75 [.ref 120, .retAddr 0] (r.toList ++ []) h')) :
    mx_Go l (mx_rm (d + 1) 0 0) mX12_oneTest (mx_Z Q 0 0) 0 0 65 [.ref 120, .retAddr 0] [.int x1] (sk0 c, I) := by
  refine g_if_eq (tgt := 78) dX12_oneTest_65 (by decide) (fun c1 => ?_) (fun c2 => ?_)
  · skip
    refine g_iconst (v := 0) dX12_oneTest_78 (by decide) ?_
    exact g_zret (ty := .boolean) rfl rfl dX12_oneTest_79 rfl (Nat.le_refl _) (q1 c1)
  · skip
    refine g_aload_n dX12_oneTest_68 rfl rfl ?_
    refine g_sipush (v := 141) dX12_oneTest_69 (by decide) ?_
    exact s_callV (M' := mX12_need) (As := [.int 141]) (st := []) dX12_oneTest_72 lm_X12_195 ovX12_need (h := (sk0 c, I)) (sk_120 _) (show vwCl[12]? = some _ from rfl) rfl (by simp [Value.category]) (by decide) rfl (k2 c2)
set_option maxRecDepth 10000 in
set_option maxHeartbeats 1000000 in
theorem sg_X12_oneTest_20 {l : Launch} {d : Nat} {Q : Option Value → mx_H → Prop} {c : Nat} {I : mx_I} (x1 : Int32)
    (k1 : (¬ x1 = 0) → mx_K1 l mX12_lay d [.ref 120, .int 20, .int 0] (sk0 c, (mx_set I 120 19 ((I 120 19) - 1))) (fun r h' => mx_Go l (mx_rm (d + 1) 0 0) mX12_oneTest (mx_Z Q 0 0) 0 0 42 [.ref 120, .retAddr 0] (r.toList ++ []) h'))
    (q2 : (x1 = 0) → Q (some (.int 0)) (sk0 c, I)) :
    mx_Go l (mx_rm (d + 1) 0 0) mX12_oneTest (mx_Z Q 0 0) 0 0 20 [.ref 120, .retAddr 0] [.int x1] (sk0 c, I) := by
  refine g_if_ne (tgt := 25) dX12_oneTest_20 (by decide) (fun c1 => ?_) (fun c2 => ?_)
  · skip
    refine g_aload_n dX12_oneTest_25 rfl rfl ?_
    refine g_dup dX12_oneTest_26 rfl ?_
    refine rg_X12_19 (v := (I 120 19)) dX12_oneTest_27 lf_X12_169 (sk_120 _) rfl ?_
    refine g_iconst (v := 1) dX12_oneTest_30 (by decide) ?_
    refine g_isub dX12_oneTest_31 ?_
    refine rp_X12_19 dX12_oneTest_32 lf_X12_169 (sk_120 _) ?_
    refine g_aload_n dX12_oneTest_35 rfl rfl ?_
    refine g_bipush (v := 20) dX12_oneTest_36 (by decide) ?_
    refine g_iconst (v := 0) dX12_oneTest_38 (by decide) ?_
    exact s_callV (M' := mX12_lay) (As := [.int 20, .int 0]) (st := []) dX12_oneTest_39 lm_X12_176 ovX12_lay (h := (sk0 c, (mx_set I 120 19 ((I 120 19) - 1)))) (sk_120 _) (show vwCl[12]? = some _ from rfl) rfl (by simp [Value.category]) (by decide) rfl (k1 c1)
  · skip
    refine g_iconst (v := 0) dX12_oneTest_23 (by decide) ?_
    exact g_zret (ty := .boolean) rfl rfl dX12_oneTest_24 rfl (Nat.le_refl _) (q2 c2)
set_option maxRecDepth 10000 in
set_option maxHeartbeats 1000000 in
theorem sg_X12_oneTest_167 {l : Launch} {d : Nat} {Q : Option Value → mx_H → Prop} {c : Nat} {I : mx_I} (x1 : Int32) (x2 : Int32)
    (k1 : (¬ x2 = 0) → mx_K1 l mX12_lay d [.ref 120, .int x1, .int 0] (sk0 c, I) (fun r h' => mx_Go l (mx_rm (d + 1) 0 0) mX12_oneTest (mx_Z Q 0 0) 0 0 178 [.ref 120, .int x1] (r.toList ++ []) h'))
    (q2 : (x2 = 0) → Q (some (.int 0)) (sk0 c, I)) :
    mx_Go l (mx_rm (d + 1) 0 0) mX12_oneTest (mx_Z Q 0 0) 0 0 167 [.ref 120, .int x1] [.int x2] (sk0 c, I) := by
  refine g_if_ne (tgt := 172) dX12_oneTest_167 (by decide) (fun c1 => ?_) (fun c2 => ?_)
  · skip
    refine g_aload_n dX12_oneTest_172 rfl rfl ?_
    refine g_iload_n dX12_oneTest_173 rfl rfl ?_
    refine g_iconst (v := 0) dX12_oneTest_174 (by decide) ?_
    exact s_callV (M' := mX12_lay) (As := [.int x1, .int 0]) (st := []) dX12_oneTest_175 lm_X12_176 ovX12_lay (h := (sk0 c, I)) (sk_120 _) (show vwCl[12]? = some _ from rfl) rfl (by simp [Value.category]) (by decide) rfl (k1 c1)
  · skip
    refine g_iconst (v := 0) dX12_oneTest_170 (by decide) ?_
    exact g_zret (ty := .boolean) rfl rfl dX12_oneTest_171 rfl (Nat.le_refl _) (q2 c2)
set_option maxRecDepth 10000 in
set_option maxHeartbeats 1000000 in
theorem sg_X12_oneTest_75 {l : Launch} {d : Nat} {Q : Option Value → mx_H → Prop} {c : Nat} {I : mx_I} (x1 : Int32)
    (q1 : (¬ x1 = 0) → Q (some (.int 1)) (sk0 c, (mx_set I 120 19 ((I 120 19) - 1))))
    (q2 : (x1 = 0) → Q (some (.int 0)) (sk0 c, I)) :
    mx_Go l (mx_rm (d + 1) 0 0) mX12_oneTest (mx_Z Q 0 0) 0 0 75 [.ref 120, .retAddr 0] [.int x1] (sk0 c, I) := by
  refine g_if_ne (tgt := 80) dX12_oneTest_75 (by decide) (fun c1 => ?_) (fun c2 => ?_)
  · skip
    refine g_aload_n dX12_oneTest_80 rfl rfl ?_
    refine g_dup dX12_oneTest_81 rfl ?_
    refine rg_X12_19 (v := (I 120 19)) dX12_oneTest_82 lf_X12_169 (sk_120 _) rfl ?_
    refine g_iconst (v := 1) dX12_oneTest_85 (by decide) ?_
    refine g_isub dX12_oneTest_86 ?_
    refine rp_X12_19 dX12_oneTest_87 lf_X12_169 (sk_120 _) ?_
    refine g_iconst (v := 1) dX12_oneTest_90 (by decide) ?_
    exact g_zret (ty := .boolean) rfl rfl dX12_oneTest_91 rfl (Nat.le_refl _) (q1 c1)
  · skip
    refine g_iconst (v := 0) dX12_oneTest_78 (by decide) ?_
    exact g_zret (ty := .boolean) rfl rfl dX12_oneTest_79 rfl (Nat.le_refl _) (q2 c2)
set_option maxRecDepth 10000 in
set_option maxHeartbeats 1000000 in
theorem sg_X12_oneTest_42 {l : Launch} {d : Nat} {Q : Option Value → mx_H → Prop} {c : Nat} {I : mx_I}
    (q1 : Q (some (.int 1)) (sk0 c, I)) :
    mx_Go l (mx_rm (d + 1) 0 0) mX12_oneTest (mx_Z Q 0 0) 0 0 42 [.ref 120, .retAddr 0] [] (sk0 c, I) := by
  refine g_iconst (v := 1) dX12_oneTest_42 (by decide) ?_
  exact g_zret (ty := .boolean) rfl rfl dX12_oneTest_43 rfl (Nat.le_refl _) (q1)
set_option maxRecDepth 10000 in
set_option maxHeartbeats 1000000 in
theorem sg_X12_oneTest_178 {l : Launch} {d : Nat} {Q : Option Value → mx_H → Prop} {c : Nat} {I : mx_I} (x1 : Int32)
    (q1 : Q (some (.int 1)) (sk0 c, I)) :
    mx_Go l (mx_rm (d + 1) 0 0) mX12_oneTest (mx_Z Q 0 0) 0 0 178 [.ref 120, .int x1] [] (sk0 c, I) := by
  refine g_iconst (v := 1) dX12_oneTest_178 (by decide) ?_
  exact g_zret (ty := .boolean) rfl rfl dX12_oneTest_179 rfl (Nat.le_refl _) (q1)
set_option maxRecDepth 10000 in
set_option maxHeartbeats 1000000 in
theorem sn_X12_aLine {l : Launch} {d : Nat} {Q : Option Value → mx_H → Prop} {c : Nat} {I : mx_I}
    (k1 : mx_K1 l mX12_isIn d [.int (I 120 13), .int 20, .int 21] (sk0 c, I) (fun r h' => mx_Go l (mx_rm (d + 1) 0 0) mX12_aLine (mx_Z Q 0 0) 0 0 11 [.ref 120] (r.toList ++ []) h')) :
    mx_Spec l mX12_aLine (d + 1) 0 0 [.ref 120] (sk0 c, I) Q := by
  refine mx_enter rfl (by simp [Value.category]) (Nat.le_of_ble_eq_true rfl) ?_
  change mx_Go l (mx_rm (d + 1) 0 0) mX12_aLine (mx_Z Q 0 0) 0 0 0 [.ref 120] [] (sk0 c, I)
  refine g_aload_n dX12_aLine_0 rfl rfl ?_
  refine rg_X12_13 (v := (I 120 13)) dX12_aLine_1 lf_X12_139 (sk_120 _) rfl ?_
  refine g_bipush (v := 20) dX12_aLine_4 (by decide) ?_
  refine g_bipush (v := 21) dX12_aLine_6 (by decide) ?_
  exact s_callS (M' := mX12_isIn) (As := [.int (I 120 13), .int 20, .int 21]) (st := []) dX12_aLine_8 lm_X12_50 okX12_isIn osX12_isIn (by simp [Value.category]) (by decide) rfl (k1)
set_option maxRecDepth 10000 in
set_option maxHeartbeats 1000000 in
theorem sg_X12_aLine_11 {l : Launch} {d : Nat} {Q : Option Value → mx_H → Prop} {c : Nat} {I : mx_I} (x1 : Int32)
    (b1 : (¬ x1 = 0) → (¬ (I 120 9) = 16) → vp_in (3 * (I 120 9)) 48)
    (k2 : (¬ x1 = 0) → (¬ (I 120 9) = 16) → mx_K1 l mX12_next0 d [.ref 120] (sk0 c, (mx_set (mx_set I 124 (3 * (I 120 9)).toNatClampNeg ((I 120 13) - 20)) 120 19 0)) (fun r h' => mx_Go l (mx_rm (d + 1) 0 0) mX12_aLine (mx_Z Q 0 0) 0 0 62 [.ref 120] (r.toList ++ []) h'))
    (k3 : (¬ x1 = 0) → ((I 120 9) = 16) → mx_K1 l mX12_bad d [.ref 120, .int 3] (sk0 c, I) (fun r h' => mx_Go l (mx_rm (d + 1) 0 0) mX12_aLine (mx_Z Q 0 0) 0 0 34 [.ref 120] (r.toList ++ []) h'))
    (k4 : (x1 = 0) → mx_K1 l mX12_bad d [.ref 120, .int 1] (sk0 c, I) (fun r h' => mx_Go l (mx_rm (d + 1) 0 0) mX12_aLine (mx_Z Q 0 0) 0 0 19 [.ref 120] (r.toList ++ []) h')) :
    mx_Go l (mx_rm (d + 1) 0 0) mX12_aLine (mx_Z Q 0 0) 0 0 11 [.ref 120] [.int x1] (sk0 c, I) := by
  refine g_if_ne (tgt := 20) dX12_aLine_11 (by decide) (fun c1 => ?_) (fun c2 => ?_)
  · skip
    refine g_aload_n dX12_aLine_20 rfl rfl ?_
    refine rg_X12_9 (v := (I 120 9)) dX12_aLine_21 lf_X12_201 (sk_120 _) rfl ?_
    refine g_bipush (v := 16) dX12_aLine_24 (by decide) ?_
    refine g_icmp_ne (tgt := 35) dX12_aLine_26 (by decide) (fun c3 => ?_) (fun c4 => ?_)
    · skip
      refine g_aload_n dX12_aLine_35 rfl rfl ?_
      refine rg_X12_4 (r := 124) dX12_aLine_36 lf_X12_19 (sk_120 _) rfl ?_
      refine g_iconst (v := 3) dX12_aLine_39 (by decide) ?_
      refine g_aload_n dX12_aLine_40 rfl rfl ?_
      refine rg_X12_9 (v := (I 120 9)) dX12_aLine_41 lf_X12_201 (sk_120 _) rfl ?_
      refine g_imul dX12_aLine_44 ?_
      refine g_aload_n dX12_aLine_45 rfl rfl ?_
      refine rg_X12_13 (v := (I 120 13)) dX12_aLine_46 lf_X12_139 (sk_120 _) rfl ?_
      refine g_bipush (v := 20) dX12_aLine_49 (by decide) ?_
      refine g_isub dX12_aLine_51 ?_
      refine s_iast (j := (3 * (I 120 9)).toNatClampNeg) dX12_aLine_52 (sk_124 _) (b1 c1 c3) rfl ?_
      refine g_aload_n dX12_aLine_53 rfl rfl ?_
      refine g_iconst (v := 0) dX12_aLine_54 (by decide) ?_
      refine rp_X12_19 dX12_aLine_55 lf_X12_169 (sk_120 _) ?_
      refine g_aload_n dX12_aLine_58 rfl rfl ?_
      exact s_callV (M' := mX12_next0) (As := []) (st := []) dX12_aLine_59 lm_X12_163 ovX12_next0 (h := (sk0 c, (mx_set (mx_set I 124 (3 * (I 120 9)).toNatClampNeg ((I 120 13) - 20)) 120 19 0))) (sk_120 _) (show vwCl[12]? = some _ from rfl) rfl (by simp [Value.category]) (by decide) rfl (k2 c1 c3)
    · skip
      refine g_aload_n dX12_aLine_29 rfl rfl ?_
      refine g_iconst (v := 3) dX12_aLine_30 (by decide) ?_
      exact s_callV (M' := mX12_bad) (As := [.int 3]) (st := []) dX12_aLine_31 lm_X12_160 ovX12_bad (h := (sk0 c, I)) (sk_120 _) (show vwCl[12]? = some _ from rfl) rfl (by simp [Value.category]) (by decide) rfl (k3 c1 c4)
  · skip
    refine g_aload_n dX12_aLine_14 rfl rfl ?_
    refine g_iconst (v := 1) dX12_aLine_15 (by decide) ?_
    exact s_callV (M' := mX12_bad) (As := [.int 1]) (st := []) dX12_aLine_16 lm_X12_160 ovX12_bad (h := (sk0 c, I)) (sk_120 _) (show vwCl[12]? = some _ from rfl) rfl (by simp [Value.category]) (by decide) rfl (k4 c2)
set_option maxRecDepth 10000 in
set_option maxHeartbeats 1000000 in
theorem sg_X12_aLine_62 {l : Launch} {d : Nat} {Q : Option Value → mx_H → Prop} {c : Nat} {I : mx_I}
    (b1 : vp_in ((3 * (I 120 9)) + 1) 48)
    (b2 : (¬ (I 120 13) = 3) → vp_in ((3 * (I 120 9)) + 2) 48)
    (k3 : (¬ (I 120 13) = 3) → mx_K1 l mX12_need d [.ref 120, .int 159] (sk0 c, (mx_set (mx_set I 124 ((3 * (I 120 9)) + 1).toNatClampNeg (I 120 10)) 124 ((3 * (I 120 9)) + 2).toNatClampNeg (I 120 10))) (fun r h' => mx_Go l (mx_rm (d + 1) 0 0) mX12_aLine (mx_Z Q 0 0) 0 0 124 [.ref 120] (r.toList ++ []) h'))
    (k4 : ((I 120 13) = 3) → mx_K1 l mX12_next0 d [.ref 120] (sk0 c, (mx_set I 124 ((3 * (I 120 9)) + 1).toNatClampNeg (I 120 10))) (fun r h' => mx_Go l (mx_rm (d + 1) 0 0) mX12_aLine (mx_Z Q 0 0) 0 0 91 [.ref 120] (r.toList ++ []) h')) :
    mx_Go l (mx_rm (d + 1) 0 0) mX12_aLine (mx_Z Q 0 0) 0 0 62 [.ref 120] [] (sk0 c, I) := by
  refine g_aload_n dX12_aLine_62 rfl rfl ?_
  refine rg_X12_4 (r := 124) dX12_aLine_63 lf_X12_19 (sk_120 _) rfl ?_
  refine g_iconst (v := 3) dX12_aLine_66 (by decide) ?_
  refine g_aload_n dX12_aLine_67 rfl rfl ?_
  refine rg_X12_9 (v := (I 120 9)) dX12_aLine_68 lf_X12_201 (sk_120 _) rfl ?_
  refine g_imul dX12_aLine_71 ?_
  refine g_iconst (v := 1) dX12_aLine_72 (by decide) ?_
  refine g_iadd dX12_aLine_73 ?_
  refine g_aload_n dX12_aLine_74 rfl rfl ?_
  refine rg_X12_10 (v := (I 120 10)) dX12_aLine_75 lf_X12_166 (sk_120 _) rfl ?_
  refine s_iast (j := ((3 * (I 120 9)) + 1).toNatClampNeg) dX12_aLine_78 (sk_124 _) (b1) rfl ?_
  refine g_aload_n dX12_aLine_79 rfl rfl ?_
  refine rg_X12_13 (v := (I 120 13)) dX12_aLine_80 lf_X12_139 (sk_120 _) (rd_ne (by decide) rfl) ?_
  refine g_iconst (v := 3) dX12_aLine_83 (by decide) ?_
  refine g_icmp_ne (tgt := 100) dX12_aLine_84 (by decide) (fun c1 => ?_) (fun c2 => ?_)
  · skip
    refine g_aload_n dX12_aLine_100 rfl rfl ?_
    refine rg_X12_4 (r := 124) dX12_aLine_101 lf_X12_19 (sk_120 _) rfl ?_
    refine g_iconst (v := 3) dX12_aLine_104 (by decide) ?_
    refine g_aload_n dX12_aLine_105 rfl rfl ?_
    refine rg_X12_9 (v := (I 120 9)) dX12_aLine_106 lf_X12_201 (sk_120 _) (rd_ne (by decide) rfl) ?_
    refine g_imul dX12_aLine_109 ?_
    refine g_iconst (v := 2) dX12_aLine_110 (by decide) ?_
    refine g_iadd dX12_aLine_111 ?_
    refine g_aload_n dX12_aLine_112 rfl rfl ?_
    refine rg_X12_10 (v := (I 120 10)) dX12_aLine_113 lf_X12_166 (sk_120 _) (rd_ne (by decide) rfl) ?_
    refine s_iast (j := ((3 * (I 120 9)) + 2).toNatClampNeg) dX12_aLine_116 (sk_124 _) (b2 c1) rfl ?_
    refine g_aload_n dX12_aLine_117 rfl rfl ?_
    refine g_sipush (v := 159) dX12_aLine_118 (by decide) ?_
    exact s_callV (M' := mX12_need) (As := [.int 159]) (st := []) dX12_aLine_121 lm_X12_195 ovX12_need (h := (sk0 c, (mx_set (mx_set I 124 ((3 * (I 120 9)) + 1).toNatClampNeg (I 120 10)) 124 ((3 * (I 120 9)) + 2).toNatClampNeg (I 120 10)))) (sk_120 _) (show vwCl[12]? = some _ from rfl) rfl (by simp [Value.category]) (by decide) rfl (k3 c1)
  · skip
    refine g_aload_n dX12_aLine_87 rfl rfl ?_
    exact s_callV (M' := mX12_next0) (As := []) (st := []) dX12_aLine_88 lm_X12_163 ovX12_next0 (h := (sk0 c, (mx_set I 124 ((3 * (I 120 9)) + 1).toNatClampNeg (I 120 10)))) (sk_120 _) (show vwCl[12]? = some _ from rfl) rfl (by simp [Value.category]) (by decide) rfl (k4 c2)
set_option maxRecDepth 10000 in
set_option maxHeartbeats 1000000 in
theorem sg_X12_aLine_34 {l : Launch} {d : Nat} {Q : Option Value → mx_H → Prop} {c : Nat} {I : mx_I} (x1 : Int32)
    (q1 : Q (some (.int x1)) (sk0 c, I))
    (n2 : x1 = 0 ∨ x1 = 1) :
    mx_Go l (mx_rm (d + 1) 0 0) mX12_aLine (mx_Z Q 0 0) 0 0 34 [.ref 120] [.int x1] (sk0 c, I) := by
  exact g_zret (ty := .boolean) rfl (nb_01 (n2)) dX12_aLine_34 rfl (Nat.le_refl _) (q1)
set_option maxRecDepth 10000 in
set_option maxHeartbeats 1000000 in
theorem sg_X12_aLine_19 {l : Launch} {d : Nat} {Q : Option Value → mx_H → Prop} {c : Nat} {I : mx_I} (x1 : Int32)
    (q1 : Q (some (.int x1)) (sk0 c, I))
    (n2 : x1 = 0 ∨ x1 = 1) :
    mx_Go l (mx_rm (d + 1) 0 0) mX12_aLine (mx_Z Q 0 0) 0 0 19 [.ref 120] [.int x1] (sk0 c, I) := by
  exact g_zret (ty := .boolean) rfl (nb_01 (n2)) dX12_aLine_19 rfl (Nat.le_refl _) (q1)
set_option maxRecDepth 10000 in
set_option maxHeartbeats 1000000 in
theorem sg_X12_aLine_124 {l : Launch} {d : Nat} {Q : Option Value → mx_H → Prop} {c : Nat} {I : mx_I} (x1 : Int32)
    (q1 : Q (some (.int x1)) (sk0 c, I))
    (n2 : x1 = 0 ∨ x1 = 1) :
    mx_Go l (mx_rm (d + 1) 0 0) mX12_aLine (mx_Z Q 0 0) 0 0 124 [.ref 120] [.int x1] (sk0 c, I) := by
  exact g_zret (ty := .boolean) rfl (nb_01 (n2)) dX12_aLine_124 rfl (Nat.le_refl _) (q1)
set_option maxRecDepth 10000 in
set_option maxHeartbeats 1000000 in
theorem sg_X12_aLine_91 {l : Launch} {d : Nat} {Q : Option Value → mx_H → Prop} {c : Nat} {I : mx_I}
    (k1 : mx_K1 l mX12_any d [.ref 120] (sk0 c, I) (fun r h' => mx_Go l (mx_rm (d + 1) 0 0) mX12_aLine (mx_Z Q 0 0) 0 0 95 [.ref 120] (r.toList ++ []) h')) :
    mx_Go l (mx_rm (d + 1) 0 0) mX12_aLine (mx_Z Q 0 0) 0 0 91 [.ref 120] [] (sk0 c, I) := by
  refine g_aload_n dX12_aLine_91 rfl rfl ?_
  exact s_callV (M' := mX12_any) (As := []) (st := []) dX12_aLine_92 lm_X12_192 ovX12_any (h := (sk0 c, I)) (sk_120 _) (show vwCl[12]? = some _ from rfl) rfl (by simp [Value.category]) (by decide) rfl (k1)
set_option maxRecDepth 10000 in
set_option maxHeartbeats 1000000 in
theorem sg_X12_aLine_95 {l : Launch} {d : Nat} {Q : Option Value → mx_H → Prop} {c : Nat} {I : mx_I} (x1 : Int32)
    (b1 : (¬ x1 = 0) → vp_in ((3 * (I 120 9)) + 2) 48)
    (k2 : (¬ x1 = 0) → mx_K1 l mX12_need d [.ref 120, .int 159] (sk0 c, (mx_set I 124 ((3 * (I 120 9)) + 2).toNatClampNeg (I 120 10))) (fun r h' => mx_Go l (mx_rm (d + 1) 0 0) mX12_aLine (mx_Z Q 0 0) 0 0 124 [.ref 120] (r.toList ++ []) h'))
    (q3 : (x1 = 0) → Q (some (.int 0)) (sk0 c, I)) :
    mx_Go l (mx_rm (d + 1) 0 0) mX12_aLine (mx_Z Q 0 0) 0 0 95 [.ref 120] [.int x1] (sk0 c, I) := by
  refine g_if_ne (tgt := 100) dX12_aLine_95 (by decide) (fun c1 => ?_) (fun c2 => ?_)
  · skip
    refine g_aload_n dX12_aLine_100 rfl rfl ?_
    refine rg_X12_4 (r := 124) dX12_aLine_101 lf_X12_19 (sk_120 _) rfl ?_
    refine g_iconst (v := 3) dX12_aLine_104 (by decide) ?_
    refine g_aload_n dX12_aLine_105 rfl rfl ?_
    refine rg_X12_9 (v := (I 120 9)) dX12_aLine_106 lf_X12_201 (sk_120 _) rfl ?_
    refine g_imul dX12_aLine_109 ?_
    refine g_iconst (v := 2) dX12_aLine_110 (by decide) ?_
    refine g_iadd dX12_aLine_111 ?_
    refine g_aload_n dX12_aLine_112 rfl rfl ?_
    refine rg_X12_10 (v := (I 120 10)) dX12_aLine_113 lf_X12_166 (sk_120 _) rfl ?_
    refine s_iast (j := ((3 * (I 120 9)) + 2).toNatClampNeg) dX12_aLine_116 (sk_124 _) (b1 c1) rfl ?_
    refine g_aload_n dX12_aLine_117 rfl rfl ?_
    refine g_sipush (v := 159) dX12_aLine_118 (by decide) ?_
    exact s_callV (M' := mX12_need) (As := [.int 159]) (st := []) dX12_aLine_121 lm_X12_195 ovX12_need (h := (sk0 c, (mx_set I 124 ((3 * (I 120 9)) + 2).toNatClampNeg (I 120 10)))) (sk_120 _) (show vwCl[12]? = some _ from rfl) rfl (by simp [Value.category]) (by decide) rfl (k2 c1)
  · skip
    refine g_iconst (v := 0) dX12_aLine_98 (by decide) ?_
    exact g_zret (ty := .boolean) rfl rfl dX12_aLine_99 rfl (Nat.le_refl _) (q3 c2)
set_option maxRecDepth 10000 in
set_option maxHeartbeats 1000000 in
theorem sn_X12_text {l : Launch} {d : Nat} {Q : Option Value → mx_H → Prop} {c : Nat} {I : mx_I}
    (k1 : mx_K1 l mX12_next0 d [.ref 120] (sk0 c, (mx_set (mx_set (mx_set (mx_set I 120 16 0) 120 12 0) 120 9 0) 120 10 0)) (fun r h' => mx_Go l (mx_rm (d + 1) 0 0) mX12_text (mx_Z Q 0 0) 0 0 24 [.ref 120, .retAddr 0, .retAddr 0] (r.toList ++ []) h')) :
    mx_Spec l mX12_text (d + 1) 0 0 [.ref 120] (sk0 c, I) Q := by
  refine mx_enter rfl (by simp [Value.category]) (Nat.le_of_ble_eq_true rfl) ?_
  change mx_Go l (mx_rm (d + 1) 0 0) mX12_text (mx_Z Q 0 0) 0 0 0 [.ref 120, .retAddr 0, .retAddr 0] [] (sk0 c, I)
  refine g_aload_n dX12_text_0 rfl rfl ?_
  refine g_iconst (v := 0) dX12_text_1 (by decide) ?_
  refine rp_X12_16 dX12_text_2 lf_X12_154 (sk_120 _) ?_
  refine g_aload_n dX12_text_5 rfl rfl ?_
  refine g_iconst (v := 0) dX12_text_6 (by decide) ?_
  refine rp_X12_12 dX12_text_7 lf_X12_87 (sk_120 _) ?_
  refine g_aload_n dX12_text_10 rfl rfl ?_
  refine g_iconst (v := 0) dX12_text_11 (by decide) ?_
  refine rp_X12_9 dX12_text_12 lf_X12_201 (sk_120 _) ?_
  refine g_aload_n dX12_text_15 rfl rfl ?_
  refine g_iconst (v := 0) dX12_text_16 (by decide) ?_
  refine rp_X12_10 dX12_text_17 lf_X12_166 (sk_120 _) ?_
  refine g_aload_n dX12_text_20 rfl rfl ?_
  exact s_callV (M' := mX12_next0) (As := []) (st := []) dX12_text_21 lm_X12_163 ovX12_next0 (h := (sk0 c, (mx_set (mx_set (mx_set (mx_set I 120 16 0) 120 12 0) 120 9 0) 120 10 0))) (sk_120 _) (show vwCl[12]? = some _ from rfl) rfl (by simp [Value.category]) (by decide) rfl (k1)
set_option maxRecDepth 10000 in
set_option maxHeartbeats 1000000 in
theorem sg_X12_text_24 {l : Launch} {d : Nat} {Q : Option Value → mx_H → Prop} {c : Nat} {I : mx_I}
    (e1 : mx_Go l (mx_rm (d + 1) 0 0) mX12_text (mx_Z Q 0 0) 0 0 26 [.ref 120, .int 1, .retAddr 0] [] (sk0 c, I)) :
    mx_Go l (mx_rm (d + 1) 0 0) mX12_text (mx_Z Q 0 0) 0 0 24 [.ref 120, .retAddr 0, .retAddr 0] [] (sk0 c, I) := by
  refine g_iconst (v := 1) dX12_text_24 (by decide) ?_
  refine s_istore_n (L' := [.ref 120, .int 1, .retAddr 0]) dX12_text_25 rfl (by decide) rfl rfl ?_
  exact e1
set_option maxRecDepth 10000 in
set_option maxHeartbeats 1000000 in
theorem sg_X12_text_26 {l : Launch} {d : Nat} {Q : Option Value → mx_H → Prop} {c : Nat} {I : mx_I} (x1 : Int32)
    (e1 : (x1 = 0) → (x1 = 0) → (¬ x1 = 0) → mx_Go l (mx_rm (d + 1) 0 0) mX12_text (mx_Z Q 0 0) 0 0 112 [.ref 120, .int x1, .int 0] [] (sk0 c, (mx_set (mx_set (mx_set (mx_set I 120 11 0) 120 18 (I 120 16)) 120 20 (I 120 17)) 121 1600 (I 120 9))))
    (q2 : (x1 = 0) → (x1 = 0) → (x1 = 0) → Q (some (.int (-1))) (sk0 c, (mx_set (mx_set (mx_set I 120 11 0) 120 18 (I 120 16)) 120 20 (I 120 17))))
    (e3 : (x1 = 0) → (¬ x1 = 0) → (¬ x1 = 0) → mx_Go l (mx_rm (d + 1) 0 0) mX12_text (mx_Z Q 0 0) 0 0 112 [.ref 120, .int x1, .int 0] [] (sk0 c, (mx_set (mx_set (mx_set (mx_set I 120 11 0) 120 18 (I 120 16)) 120 20 (-1)) 121 1600 (I 120 9))))
    (q4 : (x1 = 0) → (¬ x1 = 0) → (x1 = 0) → Q (some (.int (-1))) (sk0 c, (mx_set (mx_set (mx_set I 120 11 0) 120 18 (I 120 16)) 120 20 (-1))))
    (e5 : (¬ x1 = 0) → ((I 120 13) = 0) → (x1 = 0) → (¬ x1 = 0) → mx_Go l (mx_rm (d + 1) 0 0) mX12_text (mx_Z Q 0 0) 0 0 112 [.ref 120, .int x1, .int 0] [] (sk0 c, (mx_set (mx_set (mx_set (mx_set I 120 11 0) 120 18 (I 120 16)) 120 20 (I 120 17)) 121 1600 (I 120 9))))
    (q6 : (¬ x1 = 0) → ((I 120 13) = 0) → (x1 = 0) → (x1 = 0) → Q (some (.int (-1))) (sk0 c, (mx_set (mx_set (mx_set I 120 11 0) 120 18 (I 120 16)) 120 20 (I 120 17))))
    (e7 : (¬ x1 = 0) → ((I 120 13) = 0) → (¬ x1 = 0) → (¬ x1 = 0) → mx_Go l (mx_rm (d + 1) 0 0) mX12_text (mx_Z Q 0 0) 0 0 112 [.ref 120, .int x1, .int 0] [] (sk0 c, (mx_set (mx_set (mx_set (mx_set I 120 11 0) 120 18 (I 120 16)) 120 20 (-1)) 121 1600 (I 120 9))))
    (q8 : (¬ x1 = 0) → ((I 120 13) = 0) → (¬ x1 = 0) → (x1 = 0) → Q (some (.int (-1))) (sk0 c, (mx_set (mx_set (mx_set I 120 11 0) 120 18 (I 120 16)) 120 20 (-1))))
    (k9 : (¬ x1 = 0) → (¬ (I 120 13) = 0) → mx_K1 l mX12_aLine d [.ref 120] (sk0 c, I) (fun r h' => mx_Go l (mx_rm (d + 1) 0 0) mX12_text (mx_Z Q 0 0) 0 0 41 [.ref 120, .int x1, .retAddr 0] (r.toList ++ []) h')) :
    mx_Go l (mx_rm (d + 1) 0 0) mX12_text (mx_Z Q 0 0) 0 0 26 [.ref 120, .int x1, .retAddr 0] [] (sk0 c, I) := by
  refine g_iload_n dX12_text_26 rfl rfl ?_
  refine g_if_eq (tgt := 63) dX12_text_27 (by decide) (fun c1 => ?_) (fun c2 => ?_)
  · skip
    refine g_aload_n dX12_text_63 rfl rfl ?_
    refine g_iconst (v := 0) dX12_text_64 (by decide) ?_
    refine rp_X12_11 dX12_text_65 lf_X12_84 (sk_120 _) ?_
    refine g_aload_n dX12_text_68 rfl rfl ?_
    refine g_aload_n dX12_text_69 rfl rfl ?_
    refine rg_X12_16 (v := (I 120 16)) dX12_text_70 lf_X12_154 (sk_120 _) (rd_sl (by decide) rfl) ?_
    refine rp_X12_18 dX12_text_73 lf_X12_207 (sk_120 _) ?_
    refine g_aload_n dX12_text_76 rfl rfl ?_
    refine g_iload_n dX12_text_77 rfl rfl ?_
    refine g_if_eq (tgt := 85) dX12_text_78 (by decide) (fun c3 => ?_) (fun c4 => ?_)
    · skip
      refine g_aload_n dX12_text_85 rfl rfl ?_
      refine rg_X12_17 (v := (I 120 17)) dX12_text_86 lf_X12_157 (sk_120 _) (rd_sl (by decide) (rd_sl (by decide) rfl)) ?_
      refine rp_X12_20 dX12_text_89 lf_X12_34 (sk_120 _) ?_
      refine g_iload_n dX12_text_92 rfl rfl ?_
      refine g_if_ne (tgt := 98) dX12_text_93 (by decide) (fun c5 => ?_) (fun c6 => ?_)
      · skip
        refine g_aload_n dX12_text_98 rfl rfl ?_
        refine rg_X12_0 (r := 121) dX12_text_99 lf_X12_7 (sk_120 _) rfl ?_
        refine g_sipush (v := 1600) dX12_text_102 (by decide) ?_
        refine g_aload_n dX12_text_105 rfl rfl ?_
        refine rg_X12_9 (v := (I 120 9)) dX12_text_106 lf_X12_201 (sk_120 _) (rd_sl (by decide) (rd_sl (by decide) (rd_sl (by decide) rfl))) ?_
        refine s_iast (j := 1600) dX12_text_109 (sk_121 _) (by unfold vp_in; decide) (by decide) ?_
        refine g_iconst (v := 0) dX12_text_110 (by decide) ?_
        refine s_istore_n (L' := [.ref 120, .int x1, .int 0]) dX12_text_111 rfl (by decide) rfl rfl ?_
        exact e1 c1 c3 c5
      · skip
        refine g_iconst (v := (-1)) dX12_text_96 (by decide) ?_
        exact g_iret rfl dX12_text_97 rfl (Nat.le_refl _) (q2 c1 c3 c6)
    · skip
      refine g_iconst (v := (-1)) dX12_text_81 (by decide) ?_
      refine g_goto (tgt := 89) dX12_text_82 (by decide) ?_
      refine rp_X12_20 dX12_text_89 lf_X12_34 (sk_120 _) ?_
      refine g_iload_n dX12_text_92 rfl rfl ?_
      refine g_if_ne (tgt := 98) dX12_text_93 (by decide) (fun c7 => ?_) (fun c8 => ?_)
      · skip
        refine g_aload_n dX12_text_98 rfl rfl ?_
        refine rg_X12_0 (r := 121) dX12_text_99 lf_X12_7 (sk_120 _) rfl ?_
        refine g_sipush (v := 1600) dX12_text_102 (by decide) ?_
        refine g_aload_n dX12_text_105 rfl rfl ?_
        refine rg_X12_9 (v := (I 120 9)) dX12_text_106 lf_X12_201 (sk_120 _) (rd_sl (by decide) (rd_sl (by decide) (rd_sl (by decide) rfl))) ?_
        refine s_iast (j := 1600) dX12_text_109 (sk_121 _) (by unfold vp_in; decide) (by decide) ?_
        refine g_iconst (v := 0) dX12_text_110 (by decide) ?_
        refine s_istore_n (L' := [.ref 120, .int x1, .int 0]) dX12_text_111 rfl (by decide) rfl rfl ?_
        exact e3 c1 c4 c7
      · skip
        refine g_iconst (v := (-1)) dX12_text_96 (by decide) ?_
        exact g_iret rfl dX12_text_97 rfl (Nat.le_refl _) (q4 c1 c4 c8)
  · skip
    refine g_aload_n dX12_text_30 rfl rfl ?_
    refine rg_X12_13 (v := (I 120 13)) dX12_text_31 lf_X12_139 (sk_120 _) rfl ?_
    refine g_if_eq (tgt := 63) dX12_text_34 (by decide) (fun c9 => ?_) (fun c10 => ?_)
    · skip
      refine g_aload_n dX12_text_63 rfl rfl ?_
      refine g_iconst (v := 0) dX12_text_64 (by decide) ?_
      refine rp_X12_11 dX12_text_65 lf_X12_84 (sk_120 _) ?_
      refine g_aload_n dX12_text_68 rfl rfl ?_
      refine g_aload_n dX12_text_69 rfl rfl ?_
      refine rg_X12_16 (v := (I 120 16)) dX12_text_70 lf_X12_154 (sk_120 _) (rd_sl (by decide) rfl) ?_
      refine rp_X12_18 dX12_text_73 lf_X12_207 (sk_120 _) ?_
      refine g_aload_n dX12_text_76 rfl rfl ?_
      refine g_iload_n dX12_text_77 rfl rfl ?_
      refine g_if_eq (tgt := 85) dX12_text_78 (by decide) (fun c11 => ?_) (fun c12 => ?_)
      · skip
        refine g_aload_n dX12_text_85 rfl rfl ?_
        refine rg_X12_17 (v := (I 120 17)) dX12_text_86 lf_X12_157 (sk_120 _) (rd_sl (by decide) (rd_sl (by decide) rfl)) ?_
        refine rp_X12_20 dX12_text_89 lf_X12_34 (sk_120 _) ?_
        refine g_iload_n dX12_text_92 rfl rfl ?_
        refine g_if_ne (tgt := 98) dX12_text_93 (by decide) (fun c13 => ?_) (fun c14 => ?_)
        · skip
          refine g_aload_n dX12_text_98 rfl rfl ?_
          refine rg_X12_0 (r := 121) dX12_text_99 lf_X12_7 (sk_120 _) rfl ?_
          refine g_sipush (v := 1600) dX12_text_102 (by decide) ?_
          refine g_aload_n dX12_text_105 rfl rfl ?_
          refine rg_X12_9 (v := (I 120 9)) dX12_text_106 lf_X12_201 (sk_120 _) (rd_sl (by decide) (rd_sl (by decide) (rd_sl (by decide) rfl))) ?_
          refine s_iast (j := 1600) dX12_text_109 (sk_121 _) (by unfold vp_in; decide) (by decide) ?_
          refine g_iconst (v := 0) dX12_text_110 (by decide) ?_
          refine s_istore_n (L' := [.ref 120, .int x1, .int 0]) dX12_text_111 rfl (by decide) rfl rfl ?_
          exact e5 c2 c9 c11 c13
        · skip
          refine g_iconst (v := (-1)) dX12_text_96 (by decide) ?_
          exact g_iret rfl dX12_text_97 rfl (Nat.le_refl _) (q6 c2 c9 c11 c14)
      · skip
        refine g_iconst (v := (-1)) dX12_text_81 (by decide) ?_
        refine g_goto (tgt := 89) dX12_text_82 (by decide) ?_
        refine rp_X12_20 dX12_text_89 lf_X12_34 (sk_120 _) ?_
        refine g_iload_n dX12_text_92 rfl rfl ?_
        refine g_if_ne (tgt := 98) dX12_text_93 (by decide) (fun c15 => ?_) (fun c16 => ?_)
        · skip
          refine g_aload_n dX12_text_98 rfl rfl ?_
          refine rg_X12_0 (r := 121) dX12_text_99 lf_X12_7 (sk_120 _) rfl ?_
          refine g_sipush (v := 1600) dX12_text_102 (by decide) ?_
          refine g_aload_n dX12_text_105 rfl rfl ?_
          refine rg_X12_9 (v := (I 120 9)) dX12_text_106 lf_X12_201 (sk_120 _) (rd_sl (by decide) (rd_sl (by decide) (rd_sl (by decide) rfl))) ?_
          refine s_iast (j := 1600) dX12_text_109 (sk_121 _) (by unfold vp_in; decide) (by decide) ?_
          refine g_iconst (v := 0) dX12_text_110 (by decide) ?_
          refine s_istore_n (L' := [.ref 120, .int x1, .int 0]) dX12_text_111 rfl (by decide) rfl rfl ?_
          exact e7 c2 c9 c12 c15
        · skip
          refine g_iconst (v := (-1)) dX12_text_96 (by decide) ?_
          exact g_iret rfl dX12_text_97 rfl (Nat.le_refl _) (q8 c2 c9 c12 c16)
    · skip
      refine g_aload_n dX12_text_37 rfl rfl ?_
      exact s_callV (M' := mX12_aLine) (As := []) (st := []) dX12_text_38 lm_X12_204 ovX12_aLine (h := (sk0 c, I)) (sk_120 _) (show vwCl[12]? = some _ from rfl) rfl (by simp [Value.category]) (by decide) rfl (k9 c2 c10)
set_option maxRecDepth 10000 in
set_option maxHeartbeats 1000000 in
theorem sg_X12_text_112 {l : Launch} {d : Nat} {Q : Option Value → mx_H → Prop} {c : Nat} {I : mx_I} (x1 : Int32) (x2 : Int32)
    (e1 : ((I 120 9) ≤ x2) → mx_Go l (mx_rm (d + 1) 0 0) mX12_text (mx_Z Q 0 0) 0 0 186 [.ref 120, .int x1, .int 0] [] (sk0 c, I))
    (b2 : (¬ (I 120 9) ≤ x2) → vp_in (3 * x2) 48)
    (b3 : (¬ (I 120 9) ≤ x2) → vp_in (1605 + x2) 2490)
    (b4 : (¬ (I 120 9) ≤ x2) → vp_in ((3 * x2) + 1) 48)
    (b5 : (¬ (I 120 9) ≤ x2) → vp_in (1625 + x2) 2490)
    (b6 : (¬ (I 120 9) ≤ x2) → vp_in ((3 * x2) + 2) 48)
    (b7 : (¬ (I 120 9) ≤ x2) → vp_in (1645 + x2) 2490)
    (e8 : (¬ (I 120 9) ≤ x2) → mx_Go l (mx_rm (d + 1) 0 0) mX12_text (mx_Z Q 0 0) 0 0 112 [.ref 120, .int x1, .int (x2 + 1)] [] (sk0 c, (mx_set (mx_set (mx_set I 121 (1605 + x2).toNatClampNeg (I 124 (3 * x2).toNatClampNeg)) 121 (1625 + x2).toNatClampNeg (I 124 ((3 * x2) + 1).toNatClampNeg)) 121 (1645 + x2).toNatClampNeg (I 124 ((3 * x2) + 2).toNatClampNeg)))) :
    mx_Go l (mx_rm (d + 1) 0 0) mX12_text (mx_Z Q 0 0) 0 0 112 [.ref 120, .int x1, .int x2] [] (sk0 c, I) := by
  refine g_iload_n dX12_text_112 rfl rfl ?_
  refine g_aload_n dX12_text_113 rfl rfl ?_
  refine rg_X12_9 (v := (I 120 9)) dX12_text_114 lf_X12_201 (sk_120 _) rfl ?_
  refine g_icmp_ge (tgt := 184) dX12_text_117 (by decide) (fun c1 => ?_) (fun c2 => ?_)
  · skip
    refine g_iconst (v := 0) dX12_text_184 (by decide) ?_
    refine s_istore_n (L' := [.ref 120, .int x1, .int 0]) dX12_text_185 rfl (by decide) rfl rfl ?_
    exact e1 c1
  · skip
    refine g_aload_n dX12_text_120 rfl rfl ?_
    refine rg_X12_0 (r := 121) dX12_text_121 lf_X12_7 (sk_120 _) rfl ?_
    refine g_sipush (v := 1605) dX12_text_124 (by decide) ?_
    refine g_iload_n dX12_text_127 rfl rfl ?_
    refine g_iadd dX12_text_128 ?_
    refine g_aload_n dX12_text_129 rfl rfl ?_
    refine rg_X12_4 (r := 124) dX12_text_130 lf_X12_19 (sk_120 _) rfl ?_
    refine g_iconst (v := 3) dX12_text_133 (by decide) ?_
    refine g_iload_n dX12_text_134 rfl rfl ?_
    refine g_imul dX12_text_135 ?_
    refine s_iald (j := (3 * x2).toNatClampNeg) (v := (I 124 (3 * x2).toNatClampNeg)) dX12_text_136 (sk_124 _) (b2 c2) rfl rfl ?_
    refine s_iast (j := (1605 + x2).toNatClampNeg) dX12_text_137 (sk_121 _) (b3 c2) rfl ?_
    refine g_aload_n dX12_text_138 rfl rfl ?_
    refine rg_X12_0 (r := 121) dX12_text_139 lf_X12_7 (sk_120 _) rfl ?_
    refine g_sipush (v := 1625) dX12_text_142 (by decide) ?_
    refine g_iload_n dX12_text_145 rfl rfl ?_
    refine g_iadd dX12_text_146 ?_
    refine g_aload_n dX12_text_147 rfl rfl ?_
    refine rg_X12_4 (r := 124) dX12_text_148 lf_X12_19 (sk_120 _) rfl ?_
    refine g_iconst (v := 3) dX12_text_151 (by decide) ?_
    refine g_iload_n dX12_text_152 rfl rfl ?_
    refine g_imul dX12_text_153 ?_
    refine g_iconst (v := 1) dX12_text_154 (by decide) ?_
    refine g_iadd dX12_text_155 ?_
    refine s_iald (j := ((3 * x2) + 1).toNatClampNeg) (v := (I 124 ((3 * x2) + 1).toNatClampNeg)) dX12_text_156 (sk_124 _) (b4 c2) rfl (rd_ne (by decide) rfl) ?_
    refine s_iast (j := (1625 + x2).toNatClampNeg) dX12_text_157 (sk_121 _) (b5 c2) rfl ?_
    refine g_aload_n dX12_text_158 rfl rfl ?_
    refine rg_X12_0 (r := 121) dX12_text_159 lf_X12_7 (sk_120 _) rfl ?_
    refine g_sipush (v := 1645) dX12_text_162 (by decide) ?_
    refine g_iload_n dX12_text_165 rfl rfl ?_
    refine g_iadd dX12_text_166 ?_
    refine g_aload_n dX12_text_167 rfl rfl ?_
    refine rg_X12_4 (r := 124) dX12_text_168 lf_X12_19 (sk_120 _) rfl ?_
    refine g_iconst (v := 3) dX12_text_171 (by decide) ?_
    refine g_iload_n dX12_text_172 rfl rfl ?_
    refine g_imul dX12_text_173 ?_
    refine g_iconst (v := 2) dX12_text_174 (by decide) ?_
    refine g_iadd dX12_text_175 ?_
    refine s_iald (j := ((3 * x2) + 2).toNatClampNeg) (v := (I 124 ((3 * x2) + 2).toNatClampNeg)) dX12_text_176 (sk_124 _) (b6 c2) rfl (rd_ne (by decide) (rd_ne (by decide) rfl)) ?_
    refine s_iast (j := (1645 + x2).toNatClampNeg) dX12_text_177 (sk_121 _) (b7 c2) rfl ?_
    refine s_iinc (v := (x2 + 1)) (L' := [.ref 120, .int x1, .int (x2 + 1)]) dX12_text_178 rfl (by decide) rfl rfl rfl ?_
    refine g_goto (tgt := 112) dX12_text_181 (by decide) ?_
    exact e8 c2
set_option maxRecDepth 10000 in
set_option maxHeartbeats 1000000 in
theorem sg_X12_text_41 {l : Launch} {d : Nat} {Q : Option Value → mx_H → Prop} {c : Nat} {I : mx_I} (x1 : Int32) (x2 : Int32)
    (e1 : (x2 = 0) → mx_Go l (mx_rm (d + 1) 0 0) mX12_text (mx_Z Q 0 0) 0 0 26 [.ref 120, .int x2, .retAddr 0] [] (sk0 c, (mx_set I 120 9 ((I 120 9) + 0))))
    (e2 : (¬ x2 = 0) → mx_Go l (mx_rm (d + 1) 0 0) mX12_text (mx_Z Q 0 0) 0 0 26 [.ref 120, .int x2, .retAddr 0] [] (sk0 c, (mx_set I 120 9 ((I 120 9) + 1)))) :
    mx_Go l (mx_rm (d + 1) 0 0) mX12_text (mx_Z Q 0 0) 0 0 41 [.ref 120, .int x1, .retAddr 0] [.int x2] (sk0 c, I) := by
  refine s_istore_n (L' := [.ref 120, .int x2, .retAddr 0]) dX12_text_41 rfl (by decide) rfl rfl ?_
  refine g_aload_n dX12_text_42 rfl rfl ?_
  refine g_dup dX12_text_43 rfl ?_
  refine rg_X12_9 (v := (I 120 9)) dX12_text_44 lf_X12_201 (sk_120 _) rfl ?_
  refine g_iload_n dX12_text_47 rfl rfl ?_
  refine g_if_eq (tgt := 55) dX12_text_48 (by decide) (fun c1 => ?_) (fun c2 => ?_)
  · skip
    refine g_iconst (v := 0) dX12_text_55 (by decide) ?_
    refine g_iadd dX12_text_56 ?_
    refine rp_X12_9 dX12_text_57 lf_X12_201 (sk_120 _) ?_
    refine g_goto (tgt := 26) dX12_text_60 (by decide) ?_
    exact e1 c1
  · skip
    refine g_iconst (v := 1) dX12_text_51 (by decide) ?_
    refine g_goto (tgt := 56) dX12_text_52 (by decide) ?_
    refine g_iadd dX12_text_56 ?_
    refine rp_X12_9 dX12_text_57 lf_X12_201 (sk_120 _) ?_
    refine g_goto (tgt := 26) dX12_text_60 (by decide) ?_
    exact e2 c2
set_option maxRecDepth 10000 in
set_option maxHeartbeats 1000000 in
theorem sg_X12_text_186 {l : Launch} {d : Nat} {Q : Option Value → mx_H → Prop} {c : Nat} {I : mx_I} (x1 : Int32) (x2 : Int32)
    (q1 : ((2 * (I 120 10)) ≤ x2) → Q (some (.int (I 120 9))) (sk0 c, I))
    (b2 : (¬ (2 * (I 120 10)) ≤ x2) → vp_in x2 820)
    (b3 : (¬ (2 * (I 120 10)) ≤ x2) → vp_in (1665 + x2) 2490)
    (e4 : (¬ (2 * (I 120 10)) ≤ x2) → mx_Go l (mx_rm (d + 1) 0 0) mX12_text (mx_Z Q 0 0) 0 0 186 [.ref 120, .int x1, .int (x2 + 1)] [] (sk0 c, (mx_set I 121 (1665 + x2).toNatClampNeg (I 125 x2.toNatClampNeg)))) :
    mx_Go l (mx_rm (d + 1) 0 0) mX12_text (mx_Z Q 0 0) 0 0 186 [.ref 120, .int x1, .int x2] [] (sk0 c, I) := by
  refine g_iload_n dX12_text_186 rfl rfl ?_
  refine g_iconst (v := 2) dX12_text_187 (by decide) ?_
  refine g_aload_n dX12_text_188 rfl rfl ?_
  refine rg_X12_10 (v := (I 120 10)) dX12_text_189 lf_X12_166 (sk_120 _) rfl ?_
  refine g_imul dX12_text_192 ?_
  refine g_icmp_ge (tgt := 218) dX12_text_193 (by decide) (fun c1 => ?_) (fun c2 => ?_)
  · skip
    refine g_aload_n dX12_text_218 rfl rfl ?_
    refine rg_X12_9 (v := (I 120 9)) dX12_text_219 lf_X12_201 (sk_120 _) rfl ?_
    exact g_iret rfl dX12_text_222 rfl (Nat.le_refl _) (q1 c1)
  · skip
    refine g_aload_n dX12_text_196 rfl rfl ?_
    refine rg_X12_0 (r := 121) dX12_text_197 lf_X12_7 (sk_120 _) rfl ?_
    refine g_sipush (v := 1665) dX12_text_200 (by decide) ?_
    refine g_iload_n dX12_text_203 rfl rfl ?_
    refine g_iadd dX12_text_204 ?_
    refine g_aload_n dX12_text_205 rfl rfl ?_
    refine rg_X12_5 (r := 125) dX12_text_206 lf_X12_22 (sk_120 _) rfl ?_
    refine g_iload_n dX12_text_209 rfl rfl ?_
    refine s_iald (j := x2.toNatClampNeg) (v := (I 125 x2.toNatClampNeg)) dX12_text_210 (sk_125 _) (b2 c2) rfl rfl ?_
    refine s_iast (j := (1665 + x2).toNatClampNeg) dX12_text_211 (sk_121 _) (b3 c2) rfl ?_
    refine s_iinc (v := (x2 + 1)) (L' := [.ref 120, .int x1, .int (x2 + 1)]) dX12_text_212 rfl (by decide) rfl rfl rfl ?_
    refine g_goto (tgt := 186) dX12_text_215 (by decide) ?_
    exact e4 c2
set_option maxRecDepth 10000 in
set_option maxHeartbeats 1000000 in
theorem sn_X12_fault {l : Launch} {d : Nat} {Q : Option Value → mx_H → Prop} {c : Nat} {I : mx_I} (a1 : Int32)
    (q1 : (¬ a1 = 0) → (¬ a1 = 1) → Q (some (.int (-1))) (sk0 c, I))
    (q2 : (¬ a1 = 0) → (a1 = 1) → Q (some (.int (I 120 20))) (sk0 c, I))
    (q3 : (a1 = 0) → Q (some (.int (I 120 18))) (sk0 c, I)) :
    mx_Spec l mX12_fault (d + 1) 0 0 [.ref 120, .int a1] (sk0 c, I) Q := by
  refine mx_enter rfl (by simp [Value.category]) (Nat.le_of_ble_eq_true rfl) ?_
  change mx_Go l (mx_rm (d + 1) 0 0) mX12_fault (mx_Z Q 0 0) 0 0 0 [.ref 120, .int a1] [] (sk0 c, I)
  refine g_iload_n dX12_fault_0 rfl rfl ?_
  refine g_if_ne (tgt := 11) dX12_fault_1 (by decide) (fun c1 => ?_) (fun c2 => ?_)
  · skip
    refine g_iload_n dX12_fault_11 rfl rfl ?_
    refine g_iconst (v := 1) dX12_fault_12 (by decide) ?_
    refine g_icmp_ne (tgt := 23) dX12_fault_13 (by decide) (fun c3 => ?_) (fun c4 => ?_)
    · skip
      refine g_iconst (v := (-1)) dX12_fault_23 (by decide) ?_
      exact g_iret rfl dX12_fault_24 rfl (Nat.le_refl _) (q1 c1 c3)
    · skip
      refine g_aload_n dX12_fault_16 rfl rfl ?_
      refine rg_X12_20 (v := (I 120 20)) dX12_fault_17 lf_X12_34 (sk_120 _) rfl ?_
      refine g_goto (tgt := 24) dX12_fault_20 (by decide) ?_
      exact g_iret rfl dX12_fault_24 rfl (Nat.le_refl _) (q2 c1 c4)
  · skip
    refine g_aload_n dX12_fault_4 rfl rfl ?_
    refine rg_X12_18 (v := (I 120 18)) dX12_fault_5 lf_X12_207 (sk_120 _) rfl ?_
    refine g_goto (tgt := 24) dX12_fault_8 (by decide) ?_
    exact g_iret rfl dX12_fault_24 rfl (Nat.le_refl _) (q3 c2)
set_option maxRecDepth 10000 in
set_option maxHeartbeats 1000000 in
theorem sn_X12_both {l : Launch} {d : Nat} {Q : Option Value → mx_H → Prop} {c : Nat} {I : mx_I} (a1 : Int32) (a2 : Int32) (a3 : Int32)
    (q1 : (a1 = 13) → Q (some (.int (a2 + a3))) (sk0 c, I))
    (q2 : (a1 = 14) → Q (some (.int (a2 - a3))) (sk0 c, I))
    (q3 : (a1 = 15) → Q (some (.int (a2 * a3))) (sk0 c, I))
    (q4 : (a1 = 16) → Q (some (.int (a2 ||| a3))) (sk0 c, I))
    (q5 : (a1 = 17) → (a3 ≤ a2) → Q (some (.int 0)) (sk0 c, I))
    (q6 : (a1 = 17) → (¬ a3 ≤ a2) → Q (some (.int 1)) (sk0 c, I))
    (q7 : (a1 = 18) → (¬ a2 = a3) → Q (some (.int 0)) (sk0 c, I))
    (q8 : (a1 = 18) → (a2 = a3) → Q (some (.int 1)) (sk0 c, I))
    (q9 : (a1 = 19) → (a2 ≤ a3) → Q (some (.int 0)) (sk0 c, I))
    (q10 : (a1 = 19) → (¬ a2 ≤ a3) → Q (some (.int 1)) (sk0 c, I))
    (q11 : (a1 = 20) → Q (some (.int (a2 ||| a3))) (sk0 c, I))
    (q12 : (a1 = 21) → Q (some (.int (a2 &&& a3))) (sk0 c, I))
    (q13 : (¬ a1 = 13) → (¬ a1 = 14) → (¬ a1 = 15) → (¬ a1 = 16) → (¬ a1 = 17) → (¬ a1 = 18) → (¬ a1 = 19) → (¬ a1 = 20) → (¬ a1 = 21) → Q (some (.int (a2 ||| a3))) (sk0 c, I)) :
    mx_Spec l mX12_both (d + 1) 0 0 [.int a1, .int a2, .int a3] (sk0 c, I) Q := by
  refine mx_enter rfl (by simp [Value.category]) (Nat.le_of_ble_eq_true rfl) ?_
  change mx_Go l (mx_rm (d + 1) 0 0) mX12_both (mx_Z Q 0 0) 0 0 0 [.int a1, .int a2, .int a3] [] (sk0 c, I)
  refine g_iload_n dX12_both_0 rfl rfl ?_
  rcases Decidable.em (a1 = 13) with c1 | c2
  · skip
    refine g_tableIn (off := 51) (tgt := 52) dX12_both_1 (by rw [c1]; decide) (by rw [c1]; decide) (by rw [c1]; rfl) (by decide) ?_
    refine g_iload_n dX12_both_52 rfl rfl ?_
    refine g_iload_n dX12_both_53 rfl rfl ?_
    refine g_iadd dX12_both_54 ?_
    exact g_iret rfl dX12_both_55 rfl (Nat.le_refl _) (q1 c1)
  · skip
    rcases Decidable.em (a1 = 14) with c3 | c4
    · skip
      refine g_tableIn (off := 55) (tgt := 56) dX12_both_1 (by rw [c3]; decide) (by rw [c3]; decide) (by rw [c3]; rfl) (by decide) ?_
      refine g_iload_n dX12_both_56 rfl rfl ?_
      refine g_iload_n dX12_both_57 rfl rfl ?_
      refine g_isub dX12_both_58 ?_
      exact g_iret rfl dX12_both_59 rfl (Nat.le_refl _) (q2 c3)
    · skip
      rcases Decidable.em (a1 = 15) with c5 | c6
      · skip
        refine g_tableIn (off := 59) (tgt := 60) dX12_both_1 (by rw [c5]; decide) (by rw [c5]; decide) (by rw [c5]; rfl) (by decide) ?_
        refine g_iload_n dX12_both_60 rfl rfl ?_
        refine g_iload_n dX12_both_61 rfl rfl ?_
        refine g_imul dX12_both_62 ?_
        exact g_iret rfl dX12_both_63 rfl (Nat.le_refl _) (q3 c5)
      · skip
        rcases Decidable.em (a1 = 16) with c7 | c8
        · skip
          refine g_tableIn (off := 100) (tgt := 101) dX12_both_1 (by rw [c7]; decide) (by rw [c7]; decide) (by rw [c7]; rfl) (by decide) ?_
          refine g_iload_n dX12_both_101 rfl rfl ?_
          refine g_iload_n dX12_both_102 rfl rfl ?_
          refine g_ior dX12_both_103 ?_
          exact g_iret rfl dX12_both_104 rfl (Nat.le_refl _) (q4 c7)
        · skip
          rcases Decidable.em (a1 = 17) with c9 | c10
          · skip
            refine g_tableIn (off := 63) (tgt := 64) dX12_both_1 (by rw [c9]; decide) (by rw [c9]; decide) (by rw [c9]; rfl) (by decide) ?_
            refine g_iload_n dX12_both_64 rfl rfl ?_
            refine g_iload_n dX12_both_65 rfl rfl ?_
            refine g_icmp_ge (tgt := 73) dX12_both_66 (by decide) (fun c11 => ?_) (fun c12 => ?_)
            · skip
              refine g_iconst (v := 0) dX12_both_73 (by decide) ?_
              exact g_iret rfl dX12_both_74 rfl (Nat.le_refl _) (q5 c9 c11)
            · skip
              refine g_iconst (v := 1) dX12_both_69 (by decide) ?_
              refine g_goto (tgt := 74) dX12_both_70 (by decide) ?_
              exact g_iret rfl dX12_both_74 rfl (Nat.le_refl _) (q6 c9 c12)
          · skip
            rcases Decidable.em (a1 = 18) with c13 | c14
            · skip
              refine g_tableIn (off := 74) (tgt := 75) dX12_both_1 (by rw [c13]; decide) (by rw [c13]; decide) (by rw [c13]; rfl) (by decide) ?_
              refine g_iload_n dX12_both_75 rfl rfl ?_
              refine g_iload_n dX12_both_76 rfl rfl ?_
              refine g_icmp_ne (tgt := 84) dX12_both_77 (by decide) (fun c15 => ?_) (fun c16 => ?_)
              · skip
                refine g_iconst (v := 0) dX12_both_84 (by decide) ?_
                exact g_iret rfl dX12_both_85 rfl (Nat.le_refl _) (q7 c13 c15)
              · skip
                refine g_iconst (v := 1) dX12_both_80 (by decide) ?_
                refine g_goto (tgt := 85) dX12_both_81 (by decide) ?_
                exact g_iret rfl dX12_both_85 rfl (Nat.le_refl _) (q8 c13 c16)
            · skip
              rcases Decidable.em (a1 = 19) with c17 | c18
              · skip
                refine g_tableIn (off := 85) (tgt := 86) dX12_both_1 (by rw [c17]; decide) (by rw [c17]; decide) (by rw [c17]; rfl) (by decide) ?_
                refine g_iload_n dX12_both_86 rfl rfl ?_
                refine g_iload_n dX12_both_87 rfl rfl ?_
                refine g_icmp_le (tgt := 95) dX12_both_88 (by decide) (fun c19 => ?_) (fun c20 => ?_)
                · skip
                  refine g_iconst (v := 0) dX12_both_95 (by decide) ?_
                  exact g_iret rfl dX12_both_96 rfl (Nat.le_refl _) (q9 c17 c19)
                · skip
                  refine g_iconst (v := 1) dX12_both_91 (by decide) ?_
                  refine g_goto (tgt := 96) dX12_both_92 (by decide) ?_
                  exact g_iret rfl dX12_both_96 rfl (Nat.le_refl _) (q10 c17 c20)
              · skip
                rcases Decidable.em (a1 = 20) with c21 | c22
                · skip
                  refine g_tableIn (off := 100) (tgt := 101) dX12_both_1 (by rw [c21]; decide) (by rw [c21]; decide) (by rw [c21]; rfl) (by decide) ?_
                  refine g_iload_n dX12_both_101 rfl rfl ?_
                  refine g_iload_n dX12_both_102 rfl rfl ?_
                  refine g_ior dX12_both_103 ?_
                  exact g_iret rfl dX12_both_104 rfl (Nat.le_refl _) (q11 c21)
                · skip
                  rcases Decidable.em (a1 = 21) with c23 | c24
                  · skip
                    refine g_tableIn (off := 96) (tgt := 97) dX12_both_1 (by rw [c23]; decide) (by rw [c23]; decide) (by rw [c23]; rfl) (by decide) ?_
                    refine g_iload_n dX12_both_97 rfl rfl ?_
                    refine g_iload_n dX12_both_98 rfl rfl ?_
                    refine g_iand dX12_both_99 ?_
                    exact g_iret rfl dX12_both_100 rfl (Nat.le_refl _) (q12 c23)
                  · skip
                    refine g_tableOut (tgt := 101) dX12_both_1 (by have q2 := mx_i32 (n := 13) (by decide) c2; have q4 := mx_i32 (n := 14) (by decide) c4; have q6 := mx_i32 (n := 15) (by decide) c6; have q8 := mx_i32 (n := 16) (by decide) c8; have q10 := mx_i32 (n := 17) (by decide) c10; have q14 := mx_i32 (n := 18) (by decide) c14; have q18 := mx_i32 (n := 19) (by decide) c18; have q22 := mx_i32 (n := 20) (by decide) c22; have q24 := mx_i32 (n := 21) (by decide) c24; omega) (by decide) ?_
                    refine g_iload_n dX12_both_101 rfl rfl ?_
                    refine g_iload_n dX12_both_102 rfl rfl ?_
                    refine g_ior dX12_both_103 ?_
                    exact g_iret rfl dX12_both_104 rfl (Nat.le_refl _) (q13 c2 c4 c6 c8 c10 c14 c18 c22 c24)
set_option maxRecDepth 10000 in
set_option maxHeartbeats 1000000 in
theorem sn_X12_comesTo {l : Launch} {d : Nat} {Q : Option Value → mx_H → Prop} {c : Nat} {I : mx_I} (a1 : Int32) (a2 : Int32)
    (e1 : mx_Go l (mx_rm (d + 1) 0 0) mX12_comesTo (mx_Z Q 0 0) 0 0 5 [.ref 120, .int a1, .int a2, .int 0, .int a1, .retAddr 0, .retAddr 0] [] (sk0 c, I)) :
    mx_Spec l mX12_comesTo (d + 1) 0 0 [.ref 120, .int a1, .int a2] (sk0 c, I) Q := by
  refine mx_enter rfl (by simp [Value.category]) (Nat.le_of_ble_eq_true rfl) ?_
  change mx_Go l (mx_rm (d + 1) 0 0) mX12_comesTo (mx_Z Q 0 0) 0 0 0 [.ref 120, .int a1, .int a2, .retAddr 0, .retAddr 0, .retAddr 0, .retAddr 0] [] (sk0 c, I)
  refine g_iconst (v := 0) dX12_comesTo_0 (by decide) ?_
  refine s_istore_n (L' := [.ref 120, .int a1, .int a2, .int 0, .retAddr 0, .retAddr 0, .retAddr 0]) dX12_comesTo_1 rfl (by decide) rfl rfl ?_
  refine g_iload_n dX12_comesTo_2 rfl rfl ?_
  refine s_istore (L' := [.ref 120, .int a1, .int a2, .int 0, .int a1, .retAddr 0, .retAddr 0]) dX12_comesTo_3 (by decide) rfl rfl ?_
  exact e1
set_option maxRecDepth 10000 in
set_option maxHeartbeats 1000000 in
theorem sg_X12_comesTo_5 {l : Launch} {d : Nat} {Q : Option Value → mx_H → Prop} {c : Nat} {I : mx_I} (x1 : Int32) (x2 : Int32) (x3 : Int32) (x4 : Int32)
    (q1 : (x2 ≤ x4) → Q (some (.int (I 127 0))) (sk0 c, I))
    (b2 : (¬ x2 ≤ x4) → vp_in (1665 + (2 * x4)) 2490)
    (b3 : (¬ x2 ≤ x4) → vp_in ((1665 + (2 * x4)) + 1) 2490)
    (b4 : (¬ x2 ≤ x4) → (13 ≤ (I 121 (1665 + (2 * x4)).toNatClampNeg)) → (¬ (I 121 (1665 + (2 * x4)).toNatClampNeg) = 16) → (¬ (I 121 (1665 + (2 * x4)).toNatClampNeg) = 20) → vp_in ((x3 + (-1)) - 1) 420)
    (b5 : (¬ x2 ≤ x4) → (13 ≤ (I 121 (1665 + (2 * x4)).toNatClampNeg)) → (¬ (I 121 (1665 + (2 * x4)).toNatClampNeg) = 16) → (¬ (I 121 (1665 + (2 * x4)).toNatClampNeg) = 20) → vp_in (x3 + (-1)) 420)
    (k6 : (¬ x2 ≤ x4) → (13 ≤ (I 121 (1665 + (2 * x4)).toNatClampNeg)) → (¬ (I 121 (1665 + (2 * x4)).toNatClampNeg) = 16) → (¬ (I 121 (1665 + (2 * x4)).toNatClampNeg) = 20) → mx_K1 l mX12_both d [.int (I 121 (1665 + (2 * x4)).toNatClampNeg), .int (I 127 ((x3 + (-1)) - 1).toNatClampNeg), .int (I 127 (x3 + (-1)).toNatClampNeg)] (sk0 c, I) (fun r h' => mx_Go l (mx_rm (d + 1) 0 0) mX12_comesTo (mx_Z Q 0 0) 0 0 159 [.ref 120, .int x1, .int x2, .int (x3 + (-1)), .int x4, .int (I 121 (1665 + (2 * x4)).toNatClampNeg), .int (I 121 ((1665 + (2 * x4)) + 1).toNatClampNeg)] (r.toList ++ [.int ((x3 + (-1)) - 1), .ref 127]) h'))
    (b7 : (¬ x2 ≤ x4) → (13 ≤ (I 121 (1665 + (2 * x4)).toNatClampNeg)) → (¬ (I 121 (1665 + (2 * x4)).toNatClampNeg) = 16) → ((I 121 (1665 + (2 * x4)).toNatClampNeg) = 20) → vp_in (x3 - 1) 420)
    (b8 : (¬ x2 ≤ x4) → (13 ≤ (I 121 (1665 + (2 * x4)).toNatClampNeg)) → (¬ (I 121 (1665 + (2 * x4)).toNatClampNeg) = 16) → ((I 121 (1665 + (2 * x4)).toNatClampNeg) = 20) → vp_in (x3 - 1) 420)
    (e9 : (¬ x2 ≤ x4) → (13 ≤ (I 121 (1665 + (2 * x4)).toNatClampNeg)) → (¬ (I 121 (1665 + (2 * x4)).toNatClampNeg) = 16) → ((I 121 (1665 + (2 * x4)).toNatClampNeg) = 20) → mx_Go l (mx_rm (d + 1) 0 0) mX12_comesTo (mx_Z Q 0 0) 0 0 5 [.ref 120, .int x1, .int x2, .int x3, .int (x4 + 1), .int (I 121 (1665 + (2 * x4)).toNatClampNeg), .int (I 121 ((1665 + (2 * x4)) + 1).toNatClampNeg)] [] (sk0 c, (mx_set I 127 (x3 - 1).toNatClampNeg (1 - (I 127 (x3 - 1).toNatClampNeg)))))
    (b10 : (¬ x2 ≤ x4) → (13 ≤ (I 121 (1665 + (2 * x4)).toNatClampNeg)) → ((I 121 (1665 + (2 * x4)).toNatClampNeg) = 16) → vp_in (x3 - 1) 420)
    (z11 : (¬ x2 ≤ x4) → (13 ≤ (I 121 (1665 + (2 * x4)).toNatClampNeg)) → ((I 121 (1665 + (2 * x4)).toNatClampNeg) = 16) → ¬ (I 121 ((1665 + (2 * x4)) + 1).toNatClampNeg) = 0)
    (b12 : (¬ x2 ≤ x4) → (13 ≤ (I 121 (1665 + (2 * x4)).toNatClampNeg)) → ((I 121 (1665 + (2 * x4)).toNatClampNeg) = 16) → vp_in (x3 - 1) 420)
    (e13 : (¬ x2 ≤ x4) → (13 ≤ (I 121 (1665 + (2 * x4)).toNatClampNeg)) → ((I 121 (1665 + (2 * x4)).toNatClampNeg) = 16) → mx_Go l (mx_rm (d + 1) 0 0) mX12_comesTo (mx_Z Q 0 0) 0 0 5 [.ref 120, .int x1, .int x2, .int x3, .int (x4 + 1), .int (I 121 (1665 + (2 * x4)).toNatClampNeg), .int (I 121 ((1665 + (2 * x4)) + 1).toNatClampNeg)] [] (sk0 c, (mx_set I 127 (x3 - 1).toNatClampNeg ((I 127 (x3 - 1).toNatClampNeg) / (I 121 ((1665 + (2 * x4)) + 1).toNatClampNeg)))))
    (b14 : (¬ x2 ≤ x4) → (¬ 13 ≤ (I 121 (1665 + (2 * x4)).toNatClampNeg)) → (¬ (I 121 (1665 + (2 * x4)).toNatClampNeg) = 0) → vp_in (I 121 (1665 + (2 * x4)).toNatClampNeg) 8)
    (b15 : (¬ x2 ≤ x4) → (¬ 13 ≤ (I 121 (1665 + (2 * x4)).toNatClampNeg)) → (¬ (I 121 (1665 + (2 * x4)).toNatClampNeg) = 0) → vp_in x3 420)
    (e16 : (¬ x2 ≤ x4) → (¬ 13 ≤ (I 121 (1665 + (2 * x4)).toNatClampNeg)) → (¬ (I 121 (1665 + (2 * x4)).toNatClampNeg) = 0) → mx_Go l (mx_rm (d + 1) 0 0) mX12_comesTo (mx_Z Q 0 0) 0 0 5 [.ref 120, .int x1, .int x2, .int (x3 + 1), .int (x4 + 1), .int (I 121 (1665 + (2 * x4)).toNatClampNeg), .int (I 121 ((1665 + (2 * x4)) + 1).toNatClampNeg)] [] (sk0 c, (mx_set I 127 x3.toNatClampNeg (I 128 (I 121 (1665 + (2 * x4)).toNatClampNeg).toNatClampNeg))))
    (b17 : (¬ x2 ≤ x4) → (¬ 13 ≤ (I 121 (1665 + (2 * x4)).toNatClampNeg)) → ((I 121 (1665 + (2 * x4)).toNatClampNeg) = 0) → vp_in x3 420)
    (e18 : (¬ x2 ≤ x4) → (¬ 13 ≤ (I 121 (1665 + (2 * x4)).toNatClampNeg)) → ((I 121 (1665 + (2 * x4)).toNatClampNeg) = 0) → mx_Go l (mx_rm (d + 1) 0 0) mX12_comesTo (mx_Z Q 0 0) 0 0 5 [.ref 120, .int x1, .int x2, .int (x3 + 1), .int (x4 + 1), .int (I 121 (1665 + (2 * x4)).toNatClampNeg), .int (I 121 ((1665 + (2 * x4)) + 1).toNatClampNeg)] [] (sk0 c, (mx_set I 127 x3.toNatClampNeg (I 121 ((1665 + (2 * x4)) + 1).toNatClampNeg)))) :
    mx_Go l (mx_rm (d + 1) 0 0) mX12_comesTo (mx_Z Q 0 0) 0 0 5 [.ref 120, .int x1, .int x2, .int x3, .int x4, .retAddr 0, .retAddr 0] [] (sk0 c, I) := by
  refine g_iload dX12_comesTo_5 rfl ?_
  refine g_iload_n dX12_comesTo_7 rfl rfl ?_
  refine g_icmp_ge (tgt := 166) dX12_comesTo_8 (by decide) (fun c1 => ?_) (fun c2 => ?_)
  · skip
    refine g_aload_n dX12_comesTo_166 rfl rfl ?_
    refine rg_X12_7 (r := 127) dX12_comesTo_167 lf_X12_28 (sk_120 _) rfl ?_
    refine g_iconst (v := 0) dX12_comesTo_170 (by decide) ?_
    refine s_iald (j := 0) (v := (I 127 0)) dX12_comesTo_171 (sk_127 _) (by unfold vp_in; decide) (by decide) rfl ?_
    exact g_iret rfl dX12_comesTo_172 rfl (Nat.le_refl _) (q1 c1)
  · skip
    refine g_aload_n dX12_comesTo_11 rfl rfl ?_
    refine rg_X12_0 (r := 121) dX12_comesTo_12 lf_X12_7 (sk_120 _) rfl ?_
    refine g_sipush (v := 1665) dX12_comesTo_15 (by decide) ?_
    refine g_iconst (v := 2) dX12_comesTo_18 (by decide) ?_
    refine g_iload dX12_comesTo_19 rfl ?_
    refine g_imul dX12_comesTo_21 ?_
    refine g_iadd dX12_comesTo_22 ?_
    refine s_iald (j := (1665 + (2 * x4)).toNatClampNeg) (v := (I 121 (1665 + (2 * x4)).toNatClampNeg)) dX12_comesTo_23 (sk_121 _) (b2 c2) rfl rfl ?_
    refine s_istore (L' := [.ref 120, .int x1, .int x2, .int x3, .int x4, .int (I 121 (1665 + (2 * x4)).toNatClampNeg), .retAddr 0]) dX12_comesTo_24 (by decide) rfl rfl ?_
    refine g_aload_n dX12_comesTo_26 rfl rfl ?_
    refine rg_X12_0 (r := 121) dX12_comesTo_27 lf_X12_7 (sk_120 _) rfl ?_
    refine g_sipush (v := 1665) dX12_comesTo_30 (by decide) ?_
    refine g_iconst (v := 2) dX12_comesTo_33 (by decide) ?_
    refine g_iload dX12_comesTo_34 rfl ?_
    refine g_imul dX12_comesTo_36 ?_
    refine g_iadd dX12_comesTo_37 ?_
    refine g_iconst (v := 1) dX12_comesTo_38 (by decide) ?_
    refine g_iadd dX12_comesTo_39 ?_
    refine s_iald (j := ((1665 + (2 * x4)) + 1).toNatClampNeg) (v := (I 121 ((1665 + (2 * x4)) + 1).toNatClampNeg)) dX12_comesTo_40 (sk_121 _) (b3 c2) rfl rfl ?_
    refine s_istore (L' := [.ref 120, .int x1, .int x2, .int x3, .int x4, .int (I 121 (1665 + (2 * x4)).toNatClampNeg), .int (I 121 ((1665 + (2 * x4)) + 1).toNatClampNeg)]) dX12_comesTo_41 (by decide) rfl rfl ?_
    refine g_iload dX12_comesTo_43 rfl ?_
    refine g_bipush (v := 13) dX12_comesTo_45 (by decide) ?_
    refine g_icmp_ge (tgt := 79) dX12_comesTo_47 (by decide) (fun c3 => ?_) (fun c4 => ?_)
    · skip
      refine g_iload dX12_comesTo_79 rfl ?_
      refine g_bipush (v := 16) dX12_comesTo_81 (by decide) ?_
      refine g_icmp_ne (tgt := 102) dX12_comesTo_83 (by decide) (fun c5 => ?_) (fun c6 => ?_)
      · skip
        refine g_iload dX12_comesTo_102 rfl ?_
        refine g_bipush (v := 20) dX12_comesTo_104 (by decide) ?_
        refine g_icmp_ne (tgt := 130) dX12_comesTo_106 (by decide) (fun c7 => ?_) (fun c8 => ?_)
        · skip
          refine s_iinc (v := (x3 + (-1))) (L' := [.ref 120, .int x1, .int x2, .int (x3 + (-1)), .int x4, .int (I 121 (1665 + (2 * x4)).toNatClampNeg), .int (I 121 ((1665 + (2 * x4)) + 1).toNatClampNeg)]) dX12_comesTo_130 rfl (by decide) rfl rfl rfl ?_
          refine g_aload_n dX12_comesTo_133 rfl rfl ?_
          refine rg_X12_7 (r := 127) dX12_comesTo_134 lf_X12_28 (sk_120 _) rfl ?_
          refine g_iload_n dX12_comesTo_137 rfl rfl ?_
          refine g_iconst (v := 1) dX12_comesTo_138 (by decide) ?_
          refine g_isub dX12_comesTo_139 ?_
          refine g_iload dX12_comesTo_140 rfl ?_
          refine g_aload_n dX12_comesTo_142 rfl rfl ?_
          refine rg_X12_7 (r := 127) dX12_comesTo_143 lf_X12_28 (sk_120 _) rfl ?_
          refine g_iload_n dX12_comesTo_146 rfl rfl ?_
          refine g_iconst (v := 1) dX12_comesTo_147 (by decide) ?_
          refine g_isub dX12_comesTo_148 ?_
          refine s_iald (j := ((x3 + (-1)) - 1).toNatClampNeg) (v := (I 127 ((x3 + (-1)) - 1).toNatClampNeg)) dX12_comesTo_149 (sk_127 _) (b4 c2 c3 c5 c7) rfl rfl ?_
          refine g_aload_n dX12_comesTo_150 rfl rfl ?_
          refine rg_X12_7 (r := 127) dX12_comesTo_151 lf_X12_28 (sk_120 _) rfl ?_
          refine g_iload_n dX12_comesTo_154 rfl rfl ?_
          refine s_iald (j := (x3 + (-1)).toNatClampNeg) (v := (I 127 (x3 + (-1)).toNatClampNeg)) dX12_comesTo_155 (sk_127 _) (b5 c2 c3 c5 c7) rfl rfl ?_
          exact s_callS (M' := mX12_both) (As := [.int (I 121 (1665 + (2 * x4)).toNatClampNeg), .int (I 127 ((x3 + (-1)) - 1).toNatClampNeg), .int (I 127 (x3 + (-1)).toNatClampNeg)]) (st := [.int ((x3 + (-1)) - 1), .ref 127]) dX12_comesTo_156 lm_X12_210 okX12_both osX12_both (by simp [Value.category]) (by decide) rfl (k6 c2 c3 c5 c7)
        · skip
          refine g_aload_n dX12_comesTo_109 rfl rfl ?_
          refine rg_X12_7 (r := 127) dX12_comesTo_110 lf_X12_28 (sk_120 _) rfl ?_
          refine g_iload_n dX12_comesTo_113 rfl rfl ?_
          refine g_iconst (v := 1) dX12_comesTo_114 (by decide) ?_
          refine g_isub dX12_comesTo_115 ?_
          refine g_iconst (v := 1) dX12_comesTo_116 (by decide) ?_
          refine g_aload_n dX12_comesTo_117 rfl rfl ?_
          refine rg_X12_7 (r := 127) dX12_comesTo_118 lf_X12_28 (sk_120 _) rfl ?_
          refine g_iload_n dX12_comesTo_121 rfl rfl ?_
          refine g_iconst (v := 1) dX12_comesTo_122 (by decide) ?_
          refine g_isub dX12_comesTo_123 ?_
          refine s_iald (j := (x3 - 1).toNatClampNeg) (v := (I 127 (x3 - 1).toNatClampNeg)) dX12_comesTo_124 (sk_127 _) (b7 c2 c3 c5 c8) rfl rfl ?_
          refine g_isub dX12_comesTo_125 ?_
          refine s_iast (j := (x3 - 1).toNatClampNeg) dX12_comesTo_126 (sk_127 _) (b8 c2 c3 c5 c8) rfl ?_
          refine g_goto (tgt := 160) dX12_comesTo_127 (by decide) ?_
          refine s_iinc (v := (x4 + 1)) (L' := [.ref 120, .int x1, .int x2, .int x3, .int (x4 + 1), .int (I 121 (1665 + (2 * x4)).toNatClampNeg), .int (I 121 ((1665 + (2 * x4)) + 1).toNatClampNeg)]) dX12_comesTo_160 rfl (by decide) rfl rfl rfl ?_
          refine g_goto (tgt := 5) dX12_comesTo_163 (by decide) ?_
          exact e9 c2 c3 c5 c8
      · skip
        refine g_aload_n dX12_comesTo_86 rfl rfl ?_
        refine rg_X12_7 (r := 127) dX12_comesTo_87 lf_X12_28 (sk_120 _) rfl ?_
        refine g_iload_n dX12_comesTo_90 rfl rfl ?_
        refine g_iconst (v := 1) dX12_comesTo_91 (by decide) ?_
        refine g_isub dX12_comesTo_92 ?_
        refine g_dup2 dX12_comesTo_93 rfl rfl ?_
        refine s_iald (j := (x3 - 1).toNatClampNeg) (v := (I 127 (x3 - 1).toNatClampNeg)) dX12_comesTo_94 (sk_127 _) (b10 c2 c3 c6) rfl rfl ?_
        refine g_iload dX12_comesTo_95 rfl ?_
        refine g_idiv dX12_comesTo_97 (z11 c2 c3 c6) ?_
        refine s_iast (j := (x3 - 1).toNatClampNeg) dX12_comesTo_98 (sk_127 _) (b12 c2 c3 c6) rfl ?_
        refine g_goto (tgt := 160) dX12_comesTo_99 (by decide) ?_
        refine s_iinc (v := (x4 + 1)) (L' := [.ref 120, .int x1, .int x2, .int x3, .int (x4 + 1), .int (I 121 (1665 + (2 * x4)).toNatClampNeg), .int (I 121 ((1665 + (2 * x4)) + 1).toNatClampNeg)]) dX12_comesTo_160 rfl (by decide) rfl rfl rfl ?_
        refine g_goto (tgt := 5) dX12_comesTo_163 (by decide) ?_
        exact e13 c2 c3 c6
    · skip
      refine g_aload_n dX12_comesTo_50 rfl rfl ?_
      refine rg_X12_7 (r := 127) dX12_comesTo_51 lf_X12_28 (sk_120 _) rfl ?_
      refine g_iload_n dX12_comesTo_54 rfl rfl ?_
      refine g_iload dX12_comesTo_55 rfl ?_
      refine g_if_ne (tgt := 65) dX12_comesTo_57 (by decide) (fun c9 => ?_) (fun c10 => ?_)
      · skip
        refine g_aload_n dX12_comesTo_65 rfl rfl ?_
        refine rg_X12_8 (r := 128) dX12_comesTo_66 lf_X12_31 (sk_120 _) rfl ?_
        refine g_iload dX12_comesTo_69 rfl ?_
        refine s_iald (j := (I 121 (1665 + (2 * x4)).toNatClampNeg).toNatClampNeg) (v := (I 128 (I 121 (1665 + (2 * x4)).toNatClampNeg).toNatClampNeg)) dX12_comesTo_71 (sk_128 _) (b14 c2 c4 c9) rfl rfl ?_
        refine s_iast (j := x3.toNatClampNeg) dX12_comesTo_72 (sk_127 _) (b15 c2 c4 c9) rfl ?_
        refine s_iinc (v := (x3 + 1)) (L' := [.ref 120, .int x1, .int x2, .int (x3 + 1), .int x4, .int (I 121 (1665 + (2 * x4)).toNatClampNeg), .int (I 121 ((1665 + (2 * x4)) + 1).toNatClampNeg)]) dX12_comesTo_73 rfl (by decide) rfl rfl rfl ?_
        refine g_goto (tgt := 160) dX12_comesTo_76 (by decide) ?_
        refine s_iinc (v := (x4 + 1)) (L' := [.ref 120, .int x1, .int x2, .int (x3 + 1), .int (x4 + 1), .int (I 121 (1665 + (2 * x4)).toNatClampNeg), .int (I 121 ((1665 + (2 * x4)) + 1).toNatClampNeg)]) dX12_comesTo_160 rfl (by decide) rfl rfl rfl ?_
        refine g_goto (tgt := 5) dX12_comesTo_163 (by decide) ?_
        exact e16 c2 c4 c9
      · skip
        refine g_iload dX12_comesTo_60 rfl ?_
        refine g_goto (tgt := 72) dX12_comesTo_62 (by decide) ?_
        refine s_iast (j := x3.toNatClampNeg) dX12_comesTo_72 (sk_127 _) (b17 c2 c4 c10) rfl ?_
        refine s_iinc (v := (x3 + 1)) (L' := [.ref 120, .int x1, .int x2, .int (x3 + 1), .int x4, .int (I 121 (1665 + (2 * x4)).toNatClampNeg), .int (I 121 ((1665 + (2 * x4)) + 1).toNatClampNeg)]) dX12_comesTo_73 rfl (by decide) rfl rfl rfl ?_
        refine g_goto (tgt := 160) dX12_comesTo_76 (by decide) ?_
        refine s_iinc (v := (x4 + 1)) (L' := [.ref 120, .int x1, .int x2, .int (x3 + 1), .int (x4 + 1), .int (I 121 (1665 + (2 * x4)).toNatClampNeg), .int (I 121 ((1665 + (2 * x4)) + 1).toNatClampNeg)]) dX12_comesTo_160 rfl (by decide) rfl rfl rfl ?_
        refine g_goto (tgt := 5) dX12_comesTo_163 (by decide) ?_
        exact e18 c2 c4 c10
set_option maxRecDepth 10000 in
set_option maxHeartbeats 1000000 in
theorem sg_X12_comesTo_159 {l : Launch} {d : Nat} {Q : Option Value → mx_H → Prop} {c : Nat} {I : mx_I} (x1 : Int32) (x2 : Int32) (x3 : Int32) (x4 : Int32) (x5 : Int32) (x6 : Int32) (x7 : Int32) (x8 : Int32)
    (b1 : vp_in x8 420)
    (e2 : mx_Go l (mx_rm (d + 1) 0 0) mX12_comesTo (mx_Z Q 0 0) 0 0 5 [.ref 120, .int x1, .int x2, .int x3, .int (x4 + 1), .int x5, .int x6] [] (sk0 c, (mx_set I 127 x8.toNatClampNeg x7))) :
    mx_Go l (mx_rm (d + 1) 0 0) mX12_comesTo (mx_Z Q 0 0) 0 0 159 [.ref 120, .int x1, .int x2, .int x3, .int x4, .int x5, .int x6] [.int x7, .int x8, .ref 127] (sk0 c, I) := by
  refine s_iast (j := x8.toNatClampNeg) dX12_comesTo_159 (sk_127 _) (b1) rfl ?_
  refine s_iinc (v := (x4 + 1)) (L' := [.ref 120, .int x1, .int x2, .int x3, .int (x4 + 1), .int x5, .int x6]) dX12_comesTo_160 rfl (by decide) rfl rfl rfl ?_
  refine g_goto (tgt := 5) dX12_comesTo_163 (by decide) ?_
  exact e2
set_option maxRecDepth 10000 in
set_option maxHeartbeats 1000000 in
theorem sn_X12_comes {l : Launch} {d : Nat} {Q : Option Value → mx_H → Prop} {c : Nat} {I : mx_I} (a1 : Int32) (a2 : Int32) (a3 : Int32)
    (k1 : mx_K1 l mX12_loads d [.ref 120, .int a1, .int 5, .int a2] (sk0 c, I) (fun r h' => mx_Go l (mx_rm (d + 1) 0 0) mX12_comes (mx_Z Q 0 0) 0 0 7 [.ref 120, .int a1, .int a2, .int a3] (r.toList ++ []) h')) :
    mx_Spec l mX12_comes (d + 1) 0 0 [.ref 120, .int a1, .int a2, .int a3] (sk0 c, I) Q := by
  refine mx_enter rfl (by simp [Value.category]) (Nat.le_of_ble_eq_true rfl) ?_
  change mx_Go l (mx_rm (d + 1) 0 0) mX12_comes (mx_Z Q 0 0) 0 0 0 [.ref 120, .int a1, .int a2, .int a3] [] (sk0 c, I)
  refine g_aload_n dX12_comes_0 rfl rfl ?_
  refine g_iload_n dX12_comes_1 rfl rfl ?_
  refine g_iconst (v := 5) dX12_comes_2 (by decide) ?_
  refine g_iload_n dX12_comes_3 rfl rfl ?_
  exact s_callV (M' := mX12_loads) (As := [.int a1, .int 5, .int a2]) (st := []) dX12_comes_4 lm_X12_54 ovX12_loads (h := (sk0 c, I)) (sk_120 _) (show vwCl[12]? = some _ from rfl) rfl (by simp [Value.category]) (by decide) rfl (k1)
set_option maxRecDepth 10000 in
set_option maxHeartbeats 1000000 in
theorem sg_X12_comes_7 {l : Launch} {d : Nat} {Q : Option Value → mx_H → Prop} {c : Nat} {I : mx_I} (x1 : Int32) (x2 : Int32) (x3 : Int32)
    (k1 : mx_K1 l mX12_loads d [.ref 120, .int x1, .int 6, .int x3] (sk0 c, I) (fun r h' => mx_Go l (mx_rm (d + 1) 0 0) mX12_comes (mx_Z Q 0 0) 0 0 15 [.ref 120, .int x1, .int x2, .int x3] (r.toList ++ []) h')) :
    mx_Go l (mx_rm (d + 1) 0 0) mX12_comes (mx_Z Q 0 0) 0 0 7 [.ref 120, .int x1, .int x2, .int x3] [] (sk0 c, I) := by
  refine g_aload_n dX12_comes_7 rfl rfl ?_
  refine g_iload_n dX12_comes_8 rfl rfl ?_
  refine g_bipush (v := 6) dX12_comes_9 (by decide) ?_
  refine g_iload_n dX12_comes_11 rfl rfl ?_
  exact s_callV (M' := mX12_loads) (As := [.int x1, .int 6, .int x3]) (st := []) dX12_comes_12 lm_X12_54 ovX12_loads (h := (sk0 c, I)) (sk_120 _) (show vwCl[12]? = some _ from rfl) rfl (by simp [Value.category]) (by decide) rfl (k1)
set_option maxRecDepth 10000 in
set_option maxHeartbeats 1000000 in
theorem sg_X12_comes_15 {l : Launch} {d : Nat} {Q : Option Value → mx_H → Prop} {c : Nat} {I : mx_I} (x1 : Int32) (x2 : Int32) (x3 : Int32)
    (k1 : mx_K1 l mX12_loads d [.ref 120, .int x1, .int 9, .int (I 121 10)] (sk0 c, I) (fun r h' => mx_Go l (mx_rm (d + 1) 0 0) mX12_comes (mx_Z Q 0 0) 0 0 29 [.ref 120, .int x1, .int x2, .int x3] (r.toList ++ []) h')) :
    mx_Go l (mx_rm (d + 1) 0 0) mX12_comes (mx_Z Q 0 0) 0 0 15 [.ref 120, .int x1, .int x2, .int x3] [] (sk0 c, I) := by
  refine g_aload_n dX12_comes_15 rfl rfl ?_
  refine g_iload_n dX12_comes_16 rfl rfl ?_
  refine g_bipush (v := 9) dX12_comes_17 (by decide) ?_
  refine g_aload_n dX12_comes_19 rfl rfl ?_
  refine rg_X12_0 (r := 121) dX12_comes_20 lf_X12_7 (sk_120 _) rfl ?_
  refine g_bipush (v := 10) dX12_comes_23 (by decide) ?_
  refine s_iald (j := 10) (v := (I 121 10)) dX12_comes_25 (sk_121 _) (by unfold vp_in; decide) (by decide) rfl ?_
  exact s_callV (M' := mX12_loads) (As := [.int x1, .int 9, .int (I 121 10)]) (st := []) dX12_comes_26 lm_X12_54 ovX12_loads (h := (sk0 c, I)) (sk_120 _) (show vwCl[12]? = some _ from rfl) rfl (by simp [Value.category]) (by decide) rfl (k1)
set_option maxRecDepth 10000 in
set_option maxHeartbeats 1000000 in
theorem sg_X12_comes_29 {l : Launch} {d : Nat} {Q : Option Value → mx_H → Prop} {c : Nat} {I : mx_I} (x1 : Int32) (x2 : Int32) (x3 : Int32)
    (q1 : (¬ x1 = (I 120 22)) → Q none (sk0 c, (mx_set I 121 10 ((I 121 10) + 1))))
    (q2 : (x1 = (I 120 22)) → (¬ x2 = (I 120 23)) → Q none (sk0 c, (mx_set I 121 10 ((I 121 10) + 1))))
    (q3 : (x1 = (I 120 22)) → (x2 = (I 120 23)) → (¬ (I 120 24) = (-1)) → Q none (sk0 c, (mx_set I 121 10 ((I 121 10) + 1))))
    (q4 : (x1 = (I 120 22)) → (x2 = (I 120 23)) → ((I 120 24) = (-1)) → Q none (sk0 c, (mx_set (mx_set I 121 10 ((I 121 10) + 1)) 120 24 x3))) :
    mx_Go l (mx_rm (d + 1) 0 0) mX12_comes (mx_Z Q 0 0) 0 0 29 [.ref 120, .int x1, .int x2, .int x3] [] (sk0 c, I) := by
  refine g_aload_n dX12_comes_29 rfl rfl ?_
  refine rg_X12_0 (r := 121) dX12_comes_30 lf_X12_7 (sk_120 _) rfl ?_
  refine g_bipush (v := 10) dX12_comes_33 (by decide) ?_
  refine g_dup2 dX12_comes_35 rfl rfl ?_
  refine s_iald (j := 10) (v := (I 121 10)) dX12_comes_36 (sk_121 _) (by unfold vp_in; decide) (by decide) rfl ?_
  refine g_iconst (v := 1) dX12_comes_37 (by decide) ?_
  refine g_iadd dX12_comes_38 ?_
  refine s_iast (j := 10) dX12_comes_39 (sk_121 _) (by unfold vp_in; decide) (by decide) ?_
  refine g_iload_n dX12_comes_40 rfl rfl ?_
  refine g_aload_n dX12_comes_41 rfl rfl ?_
  refine rg_X12_22 (v := (I 120 22)) dX12_comes_42 lf_X12_38 (sk_120 _) (rd_ne (by decide) rfl) ?_
  refine g_icmp_ne (tgt := 69) dX12_comes_45 (by decide) (fun c1 => ?_) (fun c2 => ?_)
  · skip
    exact g_vret rfl dX12_comes_69 rfl (Nat.le_refl _) (q1 c1)
  · skip
    refine g_iload_n dX12_comes_48 rfl rfl ?_
    refine g_aload_n dX12_comes_49 rfl rfl ?_
    refine rg_X12_23 (v := (I 120 23)) dX12_comes_50 lf_X12_214 (sk_120 _) (rd_ne (by decide) rfl) ?_
    refine g_icmp_ne (tgt := 69) dX12_comes_53 (by decide) (fun c3 => ?_) (fun c4 => ?_)
    · skip
      exact g_vret rfl dX12_comes_69 rfl (Nat.le_refl _) (q2 c2 c3)
    · skip
      refine g_aload_n dX12_comes_56 rfl rfl ?_
      refine rg_X12_24 (v := (I 120 24)) dX12_comes_57 lf_X12_217 (sk_120 _) (rd_ne (by decide) rfl) ?_
      refine g_iconst (v := (-1)) dX12_comes_60 (by decide) ?_
      refine g_icmp_ne (tgt := 69) dX12_comes_61 (by decide) (fun c5 => ?_) (fun c6 => ?_)
      · skip
        exact g_vret rfl dX12_comes_69 rfl (Nat.le_refl _) (q3 c2 c4 c5)
      · skip
        refine g_aload_n dX12_comes_64 rfl rfl ?_
        refine g_iload_n dX12_comes_65 rfl rfl ?_
        refine rp_X12_24 dX12_comes_66 lf_X12_217 (sk_120 _) ?_
        exact g_vret rfl dX12_comes_69 rfl (Nat.le_refl _) (q4 c2 c4 c6)
set_option maxRecDepth 10000 in
set_option maxHeartbeats 1000000 in
theorem sn_X12_isThere {l : Launch} {d : Nat} {Q : Option Value → mx_H → Prop} {c : Nat} {I : mx_I} (a1 : Int32) (a2 : Int32)
    (k1 : mx_K1 l mX12_ofLoad d [.ref 120, .int a1, .int 5] (sk0 c, I) (fun r h' => mx_Go l (mx_rm (d + 1) 0 0) mX12_isThere (mx_Z Q 0 0) 0 0 6 [.ref 120, .int a1, .int a2] (r.toList ++ []) h')) :
    mx_Spec l mX12_isThere (d + 1) 0 0 [.ref 120, .int a1, .int a2] (sk0 c, I) Q := by
  refine mx_enter rfl (by simp [Value.category]) (Nat.le_of_ble_eq_true rfl) ?_
  change mx_Go l (mx_rm (d + 1) 0 0) mX12_isThere (mx_Z Q 0 0) 0 0 0 [.ref 120, .int a1, .int a2] [] (sk0 c, I)
  refine g_aload_n dX12_isThere_0 rfl rfl ?_
  refine g_iload_n dX12_isThere_1 rfl rfl ?_
  refine g_iconst (v := 5) dX12_isThere_2 (by decide) ?_
  exact s_callV (M' := mX12_ofLoad) (As := [.int a1, .int 5]) (st := []) dX12_isThere_3 lm_X12_220 ovX12_ofLoad (h := (sk0 c, I)) (sk_120 _) (show vwCl[12]? = some _ from rfl) rfl (by simp [Value.category]) (by decide) rfl (k1)
set_option maxRecDepth 10000 in
set_option maxHeartbeats 1000000 in
theorem sg_X12_isThere_6 {l : Launch} {d : Nat} {Q : Option Value → mx_H → Prop} {c : Nat} {I : mx_I} (x1 : Int32) (x2 : Int32) (x3 : Int32)
    (q1 : (¬ x3 = x2) → Q (some (.int 0)) (sk0 c, I))
    (k2 : (x3 = x2) → mx_K1 l mX12_ofLoad d [.ref 120, .int x1, .int 8] (sk0 c, I) (fun r h' => mx_Go l (mx_rm (d + 1) 0 0) mX12_isThere (mx_Z Q 0 0) 0 0 17 [.ref 120, .int x1, .int x2] (r.toList ++ []) h')) :
    mx_Go l (mx_rm (d + 1) 0 0) mX12_isThere (mx_Z Q 0 0) 0 0 6 [.ref 120, .int x1, .int x2] [.int x3] (sk0 c, I) := by
  refine g_iload_n dX12_isThere_6 rfl rfl ?_
  refine g_icmp_ne (tgt := 24) dX12_isThere_7 (by decide) (fun c1 => ?_) (fun c2 => ?_)
  · skip
    refine g_iconst (v := 0) dX12_isThere_24 (by decide) ?_
    exact g_zret (ty := .boolean) rfl rfl dX12_isThere_25 rfl (Nat.le_refl _) (q1 c1)
  · skip
    refine g_aload_n dX12_isThere_10 rfl rfl ?_
    refine g_iload_n dX12_isThere_11 rfl rfl ?_
    refine g_bipush (v := 8) dX12_isThere_12 (by decide) ?_
    exact s_callV (M' := mX12_ofLoad) (As := [.int x1, .int 8]) (st := []) dX12_isThere_14 lm_X12_220 ovX12_ofLoad (h := (sk0 c, I)) (sk_120 _) (show vwCl[12]? = some _ from rfl) rfl (by simp [Value.category]) (by decide) rfl (k2 c2)
set_option maxRecDepth 10000 in
set_option maxHeartbeats 1000000 in
theorem sg_X12_isThere_17 {l : Launch} {d : Nat} {Q : Option Value → mx_H → Prop} {c : Nat} {I : mx_I} (x1 : Int32) (x2 : Int32) (x3 : Int32)
    (q1 : (¬ x3 = 0) → Q (some (.int 0)) (sk0 c, I))
    (q2 : (x3 = 0) → Q (some (.int 1)) (sk0 c, I)) :
    mx_Go l (mx_rm (d + 1) 0 0) mX12_isThere (mx_Z Q 0 0) 0 0 17 [.ref 120, .int x1, .int x2] [.int x3] (sk0 c, I) := by
  refine g_if_ne (tgt := 24) dX12_isThere_17 (by decide) (fun c1 => ?_) (fun c2 => ?_)
  · skip
    refine g_iconst (v := 0) dX12_isThere_24 (by decide) ?_
    exact g_zret (ty := .boolean) rfl rfl dX12_isThere_25 rfl (Nat.le_refl _) (q1 c1)
  · skip
    refine g_iconst (v := 1) dX12_isThere_20 (by decide) ?_
    refine g_goto (tgt := 25) dX12_isThere_21 (by decide) ?_
    exact g_zret (ty := .boolean) rfl rfl dX12_isThere_25 rfl (Nat.le_refl _) (q2 c2)
set_option maxRecDepth 10000 in
set_option maxHeartbeats 1000000 in
theorem sn_X12_laysHeap {l : Launch} {d : Nat} {Q : Option Value → mx_H → Prop} {c : Nat} {I : mx_I} (a1 : Int32)
    (e1 : mx_Go l (mx_rm (d + 1) 0 0) mX12_laysHeap (mx_Z Q 0 0) 0 0 7 [.ref 120, .int a1, .int 0, .retAddr 0] [] (sk0 c, (mx_set I 120 29 0))) :
    mx_Spec l mX12_laysHeap (d + 1) 0 0 [.ref 120, .int a1] (sk0 c, I) Q := by
  refine mx_enter rfl (by simp [Value.category]) (Nat.le_of_ble_eq_true rfl) ?_
  change mx_Go l (mx_rm (d + 1) 0 0) mX12_laysHeap (mx_Z Q 0 0) 0 0 0 [.ref 120, .int a1, .retAddr 0, .retAddr 0] [] (sk0 c, I)
  refine g_aload_n dX12_laysHeap_0 rfl rfl ?_
  refine g_iconst (v := 0) dX12_laysHeap_1 (by decide) ?_
  refine rp_X12_29 dX12_laysHeap_2 lf_X12_223 (sk_120 _) ?_
  refine g_iconst (v := 0) dX12_laysHeap_5 (by decide) ?_
  refine s_istore_n (L' := [.ref 120, .int a1, .int 0, .retAddr 0]) dX12_laysHeap_6 rfl (by decide) rfl rfl ?_
  exact e1
set_option maxRecDepth 10000 in
set_option maxHeartbeats 1000000 in
theorem sg_X12_laysHeap_7 {l : Launch} {d : Nat} {Q : Option Value → mx_H → Prop} {c : Nat} {I : mx_I} (x1 : Int32) (x2 : Int32)
    (q1 : ((I 121 2) ≤ x2) → Q none (sk0 c, I))
    (k2 : (¬ (I 121 2) ≤ x2) → mx_K1 l mX12_isThere d [.ref 120, .int x2, .int x1] (sk0 c, I) (fun r h' => mx_Go l (mx_rm (d + 1) 0 0) mX12_laysHeap (mx_Z Q 0 0) 0 0 23 [.ref 120, .int x1, .int x2, .retAddr 0] (r.toList ++ []) h')) :
    mx_Go l (mx_rm (d + 1) 0 0) mX12_laysHeap (mx_Z Q 0 0) 0 0 7 [.ref 120, .int x1, .int x2, .retAddr 0] [] (sk0 c, I) := by
  refine g_iload_n dX12_laysHeap_7 rfl rfl ?_
  refine g_aload_n dX12_laysHeap_8 rfl rfl ?_
  refine rg_X12_0 (r := 121) dX12_laysHeap_9 lf_X12_7 (sk_120 _) rfl ?_
  refine g_iconst (v := 2) dX12_laysHeap_12 (by decide) ?_
  refine s_iald (j := 2) (v := (I 121 2)) dX12_laysHeap_13 (sk_121 _) (by unfold vp_in; decide) (by decide) rfl ?_
  refine g_icmp_ge (tgt := 105) dX12_laysHeap_14 (by decide) (fun c1 => ?_) (fun c2 => ?_)
  · skip
    exact g_vret rfl dX12_laysHeap_105 rfl (Nat.le_refl _) (q1 c1)
  · skip
    refine g_aload_n dX12_laysHeap_17 rfl rfl ?_
    refine g_iload_n dX12_laysHeap_18 rfl rfl ?_
    refine g_iload_n dX12_laysHeap_19 rfl rfl ?_
    exact s_callV (M' := mX12_isThere) (As := [.int x2, .int x1]) (st := []) dX12_laysHeap_20 lm_X12_226 ovX12_isThere (h := (sk0 c, I)) (sk_120 _) (show vwCl[12]? = some _ from rfl) rfl (by simp [Value.category]) (by decide) rfl (k2 c2)
set_option maxRecDepth 10000 in
set_option maxHeartbeats 1000000 in
theorem sg_X12_laysHeap_23 {l : Launch} {d : Nat} {Q : Option Value → mx_H → Prop} {c : Nat} {I : mx_I} (x1 : Int32) (x2 : Int32) (x3 : Int32)
    (e1 : (¬ x3 = 0) → mx_Go l (mx_rm (d + 1) 0 0) mX12_laysHeap (mx_Z Q 0 0) 0 0 34 [.ref 120, .int x1, .int x2, .int (I 120 29)] [] (sk0 c, I))
    (e2 : (x3 = 0) → mx_Go l (mx_rm (d + 1) 0 0) mX12_laysHeap (mx_Z Q 0 0) 0 0 7 [.ref 120, .int x1, .int (x2 + 1), .retAddr 0] [] (sk0 c, I)) :
    mx_Go l (mx_rm (d + 1) 0 0) mX12_laysHeap (mx_Z Q 0 0) 0 0 23 [.ref 120, .int x1, .int x2, .retAddr 0] [.int x3] (sk0 c, I) := by
  refine g_if_ne (tgt := 29) dX12_laysHeap_23 (by decide) (fun c1 => ?_) (fun c2 => ?_)
  · skip
    refine g_aload_n dX12_laysHeap_29 rfl rfl ?_
    refine rg_X12_29 (v := (I 120 29)) dX12_laysHeap_30 lf_X12_223 (sk_120 _) rfl ?_
    refine s_istore_n (L' := [.ref 120, .int x1, .int x2, .int (I 120 29)]) dX12_laysHeap_33 rfl (by decide) rfl rfl ?_
    exact e1 c1
  · skip
    refine g_goto (tgt := 99) dX12_laysHeap_26 (by decide) ?_
    refine s_iinc (v := (x2 + 1)) (L' := [.ref 120, .int x1, .int (x2 + 1), .retAddr 0]) dX12_laysHeap_99 rfl (by decide) rfl rfl rfl ?_
    refine g_goto (tgt := 7) dX12_laysHeap_102 (by decide) ?_
    exact e2 c2
set_option maxRecDepth 10000 in
set_option maxHeartbeats 1000000 in
theorem sg_X12_laysHeap_34 {l : Launch} {d : Nat} {Q : Option Value → mx_H → Prop} {c : Nat} {I : mx_I} (x1 : Int32) (x2 : Int32) (x3 : Int32)
    (b1 : (x3 ≤ 0) → vp_in x3 30)
    (e2 : (x3 ≤ 0) → mx_Go l (mx_rm (d + 1) 0 0) mX12_laysHeap (mx_Z Q 0 0) 0 0 7 [.ref 120, .int x1, .int (x2 + 1), .int x3] [] (sk0 c, (mx_set (mx_set I 129 x3.toNatClampNeg x2) 120 29 ((I 120 29) + 1))))
    (b3 : (¬ x3 ≤ 0) → vp_in (x3 - 1) 30)
    (k4 : (¬ x3 ≤ 0) → mx_K1 l mX12_ofLoad d [.ref 120, .int (I 129 (x3 - 1).toNatClampNeg), .int 9] (sk0 c, I) (fun r h' => mx_Go l (mx_rm (d + 1) 0 0) mX12_laysHeap (mx_Z Q 0 0) 0 0 52 [.ref 120, .int x1, .int x2, .int x3] (r.toList ++ []) h')) :
    mx_Go l (mx_rm (d + 1) 0 0) mX12_laysHeap (mx_Z Q 0 0) 0 0 34 [.ref 120, .int x1, .int x2, .int x3] [] (sk0 c, I) := by
  refine g_iload_n dX12_laysHeap_34 rfl rfl ?_
  refine g_if_le (tgt := 82) dX12_laysHeap_35 (by decide) (fun c1 => ?_) (fun c2 => ?_)
  · skip
    refine g_aload_n dX12_laysHeap_82 rfl rfl ?_
    refine rg_X12_27 (r := 129) dX12_laysHeap_83 lf_X12_41 (sk_120 _) rfl ?_
    refine g_iload_n dX12_laysHeap_86 rfl rfl ?_
    refine g_iload_n dX12_laysHeap_87 rfl rfl ?_
    refine s_iast (j := x3.toNatClampNeg) dX12_laysHeap_88 (sk_129 _) (b1 c1) rfl ?_
    refine g_aload_n dX12_laysHeap_89 rfl rfl ?_
    refine g_dup dX12_laysHeap_90 rfl ?_
    refine rg_X12_29 (v := (I 120 29)) dX12_laysHeap_91 lf_X12_223 (sk_120 _) (rd_ne (by decide) rfl) ?_
    refine g_iconst (v := 1) dX12_laysHeap_94 (by decide) ?_
    refine g_iadd dX12_laysHeap_95 ?_
    refine rp_X12_29 dX12_laysHeap_96 lf_X12_223 (sk_120 _) ?_
    refine s_iinc (v := (x2 + 1)) (L' := [.ref 120, .int x1, .int (x2 + 1), .int x3]) dX12_laysHeap_99 rfl (by decide) rfl rfl rfl ?_
    refine g_goto (tgt := 7) dX12_laysHeap_102 (by decide) ?_
    exact e2 c1
  · skip
    refine g_aload_n dX12_laysHeap_38 rfl rfl ?_
    refine g_aload_n dX12_laysHeap_39 rfl rfl ?_
    refine rg_X12_27 (r := 129) dX12_laysHeap_40 lf_X12_41 (sk_120 _) rfl ?_
    refine g_iload_n dX12_laysHeap_43 rfl rfl ?_
    refine g_iconst (v := 1) dX12_laysHeap_44 (by decide) ?_
    refine g_isub dX12_laysHeap_45 ?_
    refine s_iald (j := (x3 - 1).toNatClampNeg) (v := (I 129 (x3 - 1).toNatClampNeg)) dX12_laysHeap_46 (sk_129 _) (b3 c2) rfl rfl ?_
    refine g_bipush (v := 9) dX12_laysHeap_47 (by decide) ?_
    exact s_callV (M' := mX12_ofLoad) (As := [.int (I 129 (x3 - 1).toNatClampNeg), .int 9]) (st := []) dX12_laysHeap_49 lm_X12_220 ovX12_ofLoad (h := (sk0 c, I)) (sk_120 _) (show vwCl[12]? = some _ from rfl) rfl (by simp [Value.category]) (by decide) rfl (k4 c2)
set_option maxRecDepth 10000 in
set_option maxHeartbeats 1000000 in
theorem sg_X12_laysHeap_52 {l : Launch} {d : Nat} {Q : Option Value → mx_H → Prop} {c : Nat} {I : mx_I} (x1 : Int32) (x2 : Int32) (x3 : Int32) (x4 : Int32)
    (k1 : mx_K1 l mX12_ofLoad d [.ref 120, .int x2, .int 9] (sk0 c, I) (fun r h' => mx_Go l (mx_rm (d + 1) 0 0) mX12_laysHeap (mx_Z Q 0 0) 0 0 59 [.ref 120, .int x1, .int x2, .int x3] (r.toList ++ [.int x4]) h')) :
    mx_Go l (mx_rm (d + 1) 0 0) mX12_laysHeap (mx_Z Q 0 0) 0 0 52 [.ref 120, .int x1, .int x2, .int x3] [.int x4] (sk0 c, I) := by
  refine g_aload_n dX12_laysHeap_52 rfl rfl ?_
  refine g_iload_n dX12_laysHeap_53 rfl rfl ?_
  refine g_bipush (v := 9) dX12_laysHeap_54 (by decide) ?_
  exact s_callV (M' := mX12_ofLoad) (As := [.int x2, .int 9]) (st := [.int x4]) dX12_laysHeap_56 lm_X12_220 ovX12_ofLoad (h := (sk0 c, I)) (sk_120 _) (show vwCl[12]? = some _ from rfl) rfl (by simp [Value.category]) (by decide) rfl (k1)
set_option maxRecDepth 10000 in
set_option maxHeartbeats 1000000 in
theorem sg_X12_laysHeap_59 {l : Launch} {d : Nat} {Q : Option Value → mx_H → Prop} {c : Nat} {I : mx_I} (x1 : Int32) (x2 : Int32) (x3 : Int32) (x4 : Int32) (x5 : Int32)
    (b1 : (x5 ≤ x4) → vp_in x3 30)
    (e2 : (x5 ≤ x4) → mx_Go l (mx_rm (d + 1) 0 0) mX12_laysHeap (mx_Z Q 0 0) 0 0 7 [.ref 120, .int x1, .int (x2 + 1), .int x3] [] (sk0 c, (mx_set (mx_set I 129 x3.toNatClampNeg x2) 120 29 ((I 120 29) + 1))))
    (b3 : (¬ x5 ≤ x4) → vp_in (x3 - 1) 30)
    (b4 : (¬ x5 ≤ x4) → vp_in x3 30)
    (e5 : (¬ x5 ≤ x4) → mx_Go l (mx_rm (d + 1) 0 0) mX12_laysHeap (mx_Z Q 0 0) 0 0 34 [.ref 120, .int x1, .int x2, .int (x3 + (-1))] [] (sk0 c, (mx_set I 129 x3.toNatClampNeg (I 129 (x3 - 1).toNatClampNeg)))) :
    mx_Go l (mx_rm (d + 1) 0 0) mX12_laysHeap (mx_Z Q 0 0) 0 0 59 [.ref 120, .int x1, .int x2, .int x3] [.int x4, .int x5] (sk0 c, I) := by
  refine g_icmp_le (tgt := 82) dX12_laysHeap_59 (by decide) (fun c1 => ?_) (fun c2 => ?_)
  · skip
    refine g_aload_n dX12_laysHeap_82 rfl rfl ?_
    refine rg_X12_27 (r := 129) dX12_laysHeap_83 lf_X12_41 (sk_120 _) rfl ?_
    refine g_iload_n dX12_laysHeap_86 rfl rfl ?_
    refine g_iload_n dX12_laysHeap_87 rfl rfl ?_
    refine s_iast (j := x3.toNatClampNeg) dX12_laysHeap_88 (sk_129 _) (b1 c1) rfl ?_
    refine g_aload_n dX12_laysHeap_89 rfl rfl ?_
    refine g_dup dX12_laysHeap_90 rfl ?_
    refine rg_X12_29 (v := (I 120 29)) dX12_laysHeap_91 lf_X12_223 (sk_120 _) (rd_ne (by decide) rfl) ?_
    refine g_iconst (v := 1) dX12_laysHeap_94 (by decide) ?_
    refine g_iadd dX12_laysHeap_95 ?_
    refine rp_X12_29 dX12_laysHeap_96 lf_X12_223 (sk_120 _) ?_
    refine s_iinc (v := (x2 + 1)) (L' := [.ref 120, .int x1, .int (x2 + 1), .int x3]) dX12_laysHeap_99 rfl (by decide) rfl rfl rfl ?_
    refine g_goto (tgt := 7) dX12_laysHeap_102 (by decide) ?_
    exact e2 c1
  · skip
    refine g_aload_n dX12_laysHeap_62 rfl rfl ?_
    refine rg_X12_27 (r := 129) dX12_laysHeap_63 lf_X12_41 (sk_120 _) rfl ?_
    refine g_iload_n dX12_laysHeap_66 rfl rfl ?_
    refine g_aload_n dX12_laysHeap_67 rfl rfl ?_
    refine rg_X12_27 (r := 129) dX12_laysHeap_68 lf_X12_41 (sk_120 _) rfl ?_
    refine g_iload_n dX12_laysHeap_71 rfl rfl ?_
    refine g_iconst (v := 1) dX12_laysHeap_72 (by decide) ?_
    refine g_isub dX12_laysHeap_73 ?_
    refine s_iald (j := (x3 - 1).toNatClampNeg) (v := (I 129 (x3 - 1).toNatClampNeg)) dX12_laysHeap_74 (sk_129 _) (b3 c2) rfl rfl ?_
    refine s_iast (j := x3.toNatClampNeg) dX12_laysHeap_75 (sk_129 _) (b4 c2) rfl ?_
    refine s_iinc (v := (x3 + (-1))) (L' := [.ref 120, .int x1, .int x2, .int (x3 + (-1))]) dX12_laysHeap_76 rfl (by decide) rfl rfl rfl ?_
    refine g_goto (tgt := 34) dX12_laysHeap_79 (by decide) ?_
    exact e5 c2
set_option maxRecDepth 10000 in
set_option maxHeartbeats 1000000 in
theorem sn_X12_isTaken {l : Launch} {d : Nat} {Q : Option Value → mx_H → Prop} {c : Nat} {I : mx_I} (a1 : Int32) (a2 : Int32) (a3 : Int32) (a4 : Int32)
    (k1 : mx_K1 l mX12_ofLoad d [.ref 120, .int a1, .int 0] (sk0 c, I) (fun r h' => mx_Go l (mx_rm (d + 1) 0 0) mX12_isTaken (mx_Z Q 0 0) 0 0 11 [.ref 120, .int a1, .int a2, .int a3, .int a4, .retAddr 0] (r.toList ++ [.int 1, .ref 128]) h')) :
    mx_Spec l mX12_isTaken (d + 1) 0 0 [.ref 120, .int a1, .int a2, .int a3, .int a4] (sk0 c, I) Q := by
  refine mx_enter rfl (by simp [Value.category]) (Nat.le_of_ble_eq_true rfl) ?_
  change mx_Go l (mx_rm (d + 1) 0 0) mX12_isTaken (mx_Z Q 0 0) 0 0 0 [.ref 120, .int a1, .int a2, .int a3, .int a4, .retAddr 0] [] (sk0 c, I)
  refine g_aload_n dX12_isTaken_0 rfl rfl ?_
  refine rg_X12_8 (r := 128) dX12_isTaken_1 lf_X12_31 (sk_120 _) rfl ?_
  refine g_iconst (v := 1) dX12_isTaken_4 (by decide) ?_
  refine g_aload_n dX12_isTaken_5 rfl rfl ?_
  refine g_iload_n dX12_isTaken_6 rfl rfl ?_
  refine g_iconst (v := 0) dX12_isTaken_7 (by decide) ?_
  exact s_callV (M' := mX12_ofLoad) (As := [.int a1, .int 0]) (st := [.int 1, .ref 128]) dX12_isTaken_8 lm_X12_220 ovX12_ofLoad (h := (sk0 c, I)) (sk_120 _) (show vwCl[12]? = some _ from rfl) rfl (by simp [Value.category]) (by decide) rfl (k1)
set_option maxRecDepth 10000 in
set_option maxHeartbeats 1000000 in
theorem sg_X12_isTaken_11 {l : Launch} {d : Nat} {Q : Option Value → mx_H → Prop} {c : Nat} {I : mx_I} (x1 : Int32) (x2 : Int32) (x3 : Int32) (x4 : Int32) (x5 : Int32) (x6 : Int32)
    (b1 : vp_in x6 8)
    (k2 : mx_K1 l mX12_ofLoad d [.ref 120, .int x1, .int 6] (sk0 c, (mx_set (mx_set I 128 x6.toNatClampNeg x5) 128 2 x2)) (fun r h' => mx_Go l (mx_rm (d + 1) 0 0) mX12_isTaken (mx_Z Q 0 0) 0 0 33 [.ref 120, .int x1, .int x2, .int x3, .int x4, .retAddr 0] (r.toList ++ [.int x4, .int 3, .ref 128]) h')) :
    mx_Go l (mx_rm (d + 1) 0 0) mX12_isTaken (mx_Z Q 0 0) 0 0 11 [.ref 120, .int x1, .int x2, .int x3, .int x4, .retAddr 0] [.int x5, .int x6, .ref 128] (sk0 c, I) := by
  refine s_iast (j := x6.toNatClampNeg) dX12_isTaken_11 (sk_128 _) (b1) rfl ?_
  refine g_aload_n dX12_isTaken_12 rfl rfl ?_
  refine rg_X12_8 (r := 128) dX12_isTaken_13 lf_X12_31 (sk_120 _) rfl ?_
  refine g_iconst (v := 2) dX12_isTaken_16 (by decide) ?_
  refine g_iload_n dX12_isTaken_17 rfl rfl ?_
  refine s_iast (j := 2) dX12_isTaken_18 (sk_128 _) (by unfold vp_in; decide) (by decide) ?_
  refine g_aload_n dX12_isTaken_19 rfl rfl ?_
  refine rg_X12_8 (r := 128) dX12_isTaken_20 lf_X12_31 (sk_120 _) rfl ?_
  refine g_iconst (v := 3) dX12_isTaken_23 (by decide) ?_
  refine g_iload dX12_isTaken_24 rfl ?_
  refine g_aload_n dX12_isTaken_26 rfl rfl ?_
  refine g_iload_n dX12_isTaken_27 rfl rfl ?_
  refine g_bipush (v := 6) dX12_isTaken_28 (by decide) ?_
  exact s_callV (M' := mX12_ofLoad) (As := [.int x1, .int 6]) (st := [.int x4, .int 3, .ref 128]) dX12_isTaken_30 lm_X12_220 ovX12_ofLoad (h := (sk0 c, (mx_set (mx_set I 128 x6.toNatClampNeg x5) 128 2 x2))) (sk_120 _) (show vwCl[12]? = some _ from rfl) rfl (by simp [Value.category]) (by decide) rfl (k2)
set_option maxRecDepth 10000 in
set_option maxHeartbeats 1000000 in
theorem sg_X12_isTaken_33 {l : Launch} {d : Nat} {Q : Option Value → mx_H → Prop} {c : Nat} {I : mx_I} (x1 : Int32) (x2 : Int32) (x3 : Int32) (x4 : Int32) (x5 : Int32) (x6 : Int32) (x7 : Int32)
    (b1 : vp_in x7 8)
    (k2 : mx_K1 l mX12_ofLoad d [.ref 120, .int x1, .int 7] (sk0 c, (mx_set (mx_set (mx_set (mx_set I 128 x7.toNatClampNeg (x6 - x5)) 128 4 (I 120 29)) 128 5 x3) 128 6 x4)) (fun r h' => mx_Go l (mx_rm (d + 1) 0 0) mX12_isTaken (mx_Z Q 0 0) 0 0 74 [.ref 120, .int x1, .int x2, .int x3, .int x4, .retAddr 0] (r.toList ++ [.int 7, .ref 128]) h')) :
    mx_Go l (mx_rm (d + 1) 0 0) mX12_isTaken (mx_Z Q 0 0) 0 0 33 [.ref 120, .int x1, .int x2, .int x3, .int x4, .retAddr 0] [.int x5, .int x6, .int x7, .ref 128] (sk0 c, I) := by
  refine g_isub dX12_isTaken_33 ?_
  refine s_iast (j := x7.toNatClampNeg) dX12_isTaken_34 (sk_128 _) (b1) rfl ?_
  refine g_aload_n dX12_isTaken_35 rfl rfl ?_
  refine rg_X12_8 (r := 128) dX12_isTaken_36 lf_X12_31 (sk_120 _) rfl ?_
  refine g_iconst (v := 4) dX12_isTaken_39 (by decide) ?_
  refine g_aload_n dX12_isTaken_40 rfl rfl ?_
  refine rg_X12_29 (v := (I 120 29)) dX12_isTaken_41 lf_X12_223 (sk_120 _) (rd_ne (by decide) rfl) ?_
  refine s_iast (j := 4) dX12_isTaken_44 (sk_128 _) (by unfold vp_in; decide) (by decide) ?_
  refine g_aload_n dX12_isTaken_45 rfl rfl ?_
  refine rg_X12_8 (r := 128) dX12_isTaken_46 lf_X12_31 (sk_120 _) rfl ?_
  refine g_iconst (v := 5) dX12_isTaken_49 (by decide) ?_
  refine g_iload_n dX12_isTaken_50 rfl rfl ?_
  refine s_iast (j := 5) dX12_isTaken_51 (sk_128 _) (by unfold vp_in; decide) (by decide) ?_
  refine g_aload_n dX12_isTaken_52 rfl rfl ?_
  refine rg_X12_8 (r := 128) dX12_isTaken_53 lf_X12_31 (sk_120 _) rfl ?_
  refine g_bipush (v := 6) dX12_isTaken_56 (by decide) ?_
  refine g_iload dX12_isTaken_58 rfl ?_
  refine s_iast (j := 6) dX12_isTaken_60 (sk_128 _) (by unfold vp_in; decide) (by decide) ?_
  refine g_aload_n dX12_isTaken_61 rfl rfl ?_
  refine rg_X12_8 (r := 128) dX12_isTaken_62 lf_X12_31 (sk_120 _) rfl ?_
  refine g_bipush (v := 7) dX12_isTaken_65 (by decide) ?_
  refine g_aload_n dX12_isTaken_67 rfl rfl ?_
  refine g_iload_n dX12_isTaken_68 rfl rfl ?_
  refine g_bipush (v := 7) dX12_isTaken_69 (by decide) ?_
  exact s_callV (M' := mX12_ofLoad) (As := [.int x1, .int 7]) (st := [.int 7, .ref 128]) dX12_isTaken_71 lm_X12_220 ovX12_ofLoad (h := (sk0 c, (mx_set (mx_set (mx_set (mx_set I 128 x7.toNatClampNeg (x6 - x5)) 128 4 (I 120 29)) 128 5 x3) 128 6 x4))) (sk_120 _) (show vwCl[12]? = some _ from rfl) rfl (by simp [Value.category]) (by decide) rfl (k2)
set_option maxRecDepth 10000 in
set_option maxHeartbeats 1000000 in
theorem sg_X12_isTaken_74 {l : Launch} {d : Nat} {Q : Option Value → mx_H → Prop} {c : Nat} {I : mx_I} (x1 : Int32) (x2 : Int32) (x3 : Int32) (x4 : Int32) (x5 : Int32) (x6 : Int32)
    (b1 : vp_in x6 8)
    (e2 : mx_Go l (mx_rm (d + 1) 0 0) mX12_isTaken (mx_Z Q 0 0) 0 0 78 [.ref 120, .int x1, .int x2, .int x3, .int x4, .int 0] [] (sk0 c, (mx_set I 128 x6.toNatClampNeg x5))) :
    mx_Go l (mx_rm (d + 1) 0 0) mX12_isTaken (mx_Z Q 0 0) 0 0 74 [.ref 120, .int x1, .int x2, .int x3, .int x4, .retAddr 0] [.int x5, .int x6, .ref 128] (sk0 c, I) := by
  refine s_iast (j := x6.toNatClampNeg) dX12_isTaken_74 (sk_128 _) (b1) rfl ?_
  refine g_iconst (v := 0) dX12_isTaken_75 (by decide) ?_
  refine s_istore (L' := [.ref 120, .int x1, .int x2, .int x3, .int x4, .int 0]) dX12_isTaken_76 (by decide) rfl rfl ?_
  exact e2
set_option maxRecDepth 10000 in
set_option maxHeartbeats 1000000 in
theorem sg_X12_isTaken_78 {l : Launch} {d : Nat} {Q : Option Value → mx_H → Prop} {c : Nat} {I : mx_I} (x1 : Int32) (x2 : Int32) (x3 : Int32) (x4 : Int32) (x5 : Int32)
    (q1 : ((I 121 1600) ≤ x5) → Q (some (.int 1)) (sk0 c, I))
    (b2 : (¬ (I 121 1600) ≤ x5) → vp_in (1645 + x5) 2490)
    (b3 : (¬ (I 121 1600) ≤ x5) → vp_in (1625 + x5) 2490)
    (b4 : (¬ (I 121 1600) ≤ x5) → ((I 121 (1645 + x5).toNatClampNeg) = (I 121 (1625 + x5).toNatClampNeg)) → vp_in (1605 + x5) 2490)
    (q5 : (¬ (I 121 1600) ≤ x5) → ((I 121 (1645 + x5).toNatClampNeg) = (I 121 (1625 + x5).toNatClampNeg)) → (¬ (I 121 (1605 + x5).toNatClampNeg) = 0) → Q (some (.int 0)) (sk0 c, I))
    (q6 : (¬ (I 121 1600) ≤ x5) → ((I 121 (1645 + x5).toNatClampNeg) = (I 121 (1625 + x5).toNatClampNeg)) → ((I 121 (1605 + x5).toNatClampNeg) = 0) → Q (some (.int 1)) (sk0 c, I))
    (b7 : (¬ (I 121 1600) ≤ x5) → (¬ (I 121 (1645 + x5).toNatClampNeg) = (I 121 (1625 + x5).toNatClampNeg)) → vp_in (1625 + x5) 2490)
    (b8 : (¬ (I 121 1600) ≤ x5) → (¬ (I 121 (1645 + x5).toNatClampNeg) = (I 121 (1625 + x5).toNatClampNeg)) → vp_in (1645 + x5) 2490)
    (k9 : (¬ (I 121 1600) ≤ x5) → (¬ (I 121 (1645 + x5).toNatClampNeg) = (I 121 (1625 + x5).toNatClampNeg)) → mx_K1 l mX12_comesTo d [.ref 120, .int (I 121 (1625 + x5).toNatClampNeg), .int (I 121 (1645 + x5).toNatClampNeg)] (sk0 c, I) (fun r h' => mx_Go l (mx_rm (d + 1) 0 0) mX12_isTaken (mx_Z Q 0 0) 0 0 142 [.ref 120, .int x1, .int x2, .int x3, .int x4, .int x5] (r.toList ++ []) h')) :
    mx_Go l (mx_rm (d + 1) 0 0) mX12_isTaken (mx_Z Q 0 0) 0 0 78 [.ref 120, .int x1, .int x2, .int x3, .int x4, .int x5] [] (sk0 c, I) := by
  refine g_iload dX12_isTaken_78 rfl ?_
  refine g_aload_n dX12_isTaken_80 rfl rfl ?_
  refine rg_X12_0 (r := 121) dX12_isTaken_81 lf_X12_7 (sk_120 _) rfl ?_
  refine g_sipush (v := 1600) dX12_isTaken_84 (by decide) ?_
  refine s_iald (j := 1600) (v := (I 121 1600)) dX12_isTaken_87 (sk_121 _) (by unfold vp_in; decide) (by decide) rfl ?_
  refine g_icmp_ge (tgt := 172) dX12_isTaken_88 (by decide) (fun c1 => ?_) (fun c2 => ?_)
  · skip
    refine g_iconst (v := 1) dX12_isTaken_172 (by decide) ?_
    exact g_zret (ty := .boolean) rfl rfl dX12_isTaken_173 rfl (Nat.le_refl _) (q1 c1)
  · skip
    refine g_aload_n dX12_isTaken_91 rfl rfl ?_
    refine rg_X12_0 (r := 121) dX12_isTaken_92 lf_X12_7 (sk_120 _) rfl ?_
    refine g_sipush (v := 1645) dX12_isTaken_95 (by decide) ?_
    refine g_iload dX12_isTaken_98 rfl ?_
    refine g_iadd dX12_isTaken_100 ?_
    refine s_iald (j := (1645 + x5).toNatClampNeg) (v := (I 121 (1645 + x5).toNatClampNeg)) dX12_isTaken_101 (sk_121 _) (b2 c2) rfl rfl ?_
    refine g_aload_n dX12_isTaken_102 rfl rfl ?_
    refine rg_X12_0 (r := 121) dX12_isTaken_103 lf_X12_7 (sk_120 _) rfl ?_
    refine g_sipush (v := 1625) dX12_isTaken_106 (by decide) ?_
    refine g_iload dX12_isTaken_109 rfl ?_
    refine g_iadd dX12_isTaken_111 ?_
    refine s_iald (j := (1625 + x5).toNatClampNeg) (v := (I 121 (1625 + x5).toNatClampNeg)) dX12_isTaken_112 (sk_121 _) (b3 c2) rfl rfl ?_
    refine g_icmp_eq (tgt := 146) dX12_isTaken_113 (by decide) (fun c3 => ?_) (fun c4 => ?_)
    · skip
      refine g_aload_n dX12_isTaken_146 rfl rfl ?_
      refine rg_X12_0 (r := 121) dX12_isTaken_147 lf_X12_7 (sk_120 _) rfl ?_
      refine g_sipush (v := 1605) dX12_isTaken_150 (by decide) ?_
      refine g_iload dX12_isTaken_153 rfl ?_
      refine g_iadd dX12_isTaken_155 ?_
      refine s_iald (j := (1605 + x5).toNatClampNeg) (v := (I 121 (1605 + x5).toNatClampNeg)) dX12_isTaken_156 (sk_121 _) (b4 c2 c3) rfl rfl ?_
      refine g_if_ne (tgt := 164) dX12_isTaken_157 (by decide) (fun c5 => ?_) (fun c6 => ?_)
      · skip
        refine g_iconst (v := 0) dX12_isTaken_164 (by decide) ?_
        exact g_zret (ty := .boolean) rfl rfl dX12_isTaken_165 rfl (Nat.le_refl _) (q5 c2 c3 c5)
      · skip
        refine g_iconst (v := 1) dX12_isTaken_160 (by decide) ?_
        refine g_goto (tgt := 165) dX12_isTaken_161 (by decide) ?_
        exact g_zret (ty := .boolean) rfl rfl dX12_isTaken_165 rfl (Nat.le_refl _) (q6 c2 c3 c6)
    · skip
      refine g_aload_n dX12_isTaken_116 rfl rfl ?_
      refine g_aload_n dX12_isTaken_117 rfl rfl ?_
      refine rg_X12_0 (r := 121) dX12_isTaken_118 lf_X12_7 (sk_120 _) rfl ?_
      refine g_sipush (v := 1625) dX12_isTaken_121 (by decide) ?_
      refine g_iload dX12_isTaken_124 rfl ?_
      refine g_iadd dX12_isTaken_126 ?_
      refine s_iald (j := (1625 + x5).toNatClampNeg) (v := (I 121 (1625 + x5).toNatClampNeg)) dX12_isTaken_127 (sk_121 _) (b7 c2 c4) rfl rfl ?_
      refine g_aload_n dX12_isTaken_128 rfl rfl ?_
      refine rg_X12_0 (r := 121) dX12_isTaken_129 lf_X12_7 (sk_120 _) rfl ?_
      refine g_sipush (v := 1645) dX12_isTaken_132 (by decide) ?_
      refine g_iload dX12_isTaken_135 rfl ?_
      refine g_iadd dX12_isTaken_137 ?_
      refine s_iald (j := (1645 + x5).toNatClampNeg) (v := (I 121 (1645 + x5).toNatClampNeg)) dX12_isTaken_138 (sk_121 _) (b8 c2 c4) rfl rfl ?_
      exact s_callV (M' := mX12_comesTo) (As := [.int (I 121 (1625 + x5).toNatClampNeg), .int (I 121 (1645 + x5).toNatClampNeg)]) (st := []) dX12_isTaken_139 lm_X12_230 ovX12_comesTo (h := (sk0 c, I)) (sk_120 _) (show vwCl[12]? = some _ from rfl) rfl (by simp [Value.category]) (by decide) rfl (k9 c2 c4)
set_option maxRecDepth 10000 in
set_option maxHeartbeats 1000000 in
theorem sg_X12_isTaken_142 {l : Launch} {d : Nat} {Q : Option Value → mx_H → Prop} {c : Nat} {I : mx_I} (x1 : Int32) (x2 : Int32) (x3 : Int32) (x4 : Int32) (x5 : Int32) (x6 : Int32)
    (e1 : (¬ x6 = 1) → mx_Go l (mx_rm (d + 1) 0 0) mX12_isTaken (mx_Z Q 0 0) 0 0 78 [.ref 120, .int x1, .int x2, .int x3, .int x4, .int (x5 + 1)] [] (sk0 c, I))
    (b2 : (x6 = 1) → vp_in (1605 + x5) 2490)
    (q3 : (x6 = 1) → (¬ (I 121 (1605 + x5).toNatClampNeg) = 0) → Q (some (.int 0)) (sk0 c, I))
    (q4 : (x6 = 1) → ((I 121 (1605 + x5).toNatClampNeg) = 0) → Q (some (.int 1)) (sk0 c, I)) :
    mx_Go l (mx_rm (d + 1) 0 0) mX12_isTaken (mx_Z Q 0 0) 0 0 142 [.ref 120, .int x1, .int x2, .int x3, .int x4, .int x5] [.int x6] (sk0 c, I) := by
  refine g_iconst (v := 1) dX12_isTaken_142 (by decide) ?_
  refine g_icmp_ne (tgt := 166) dX12_isTaken_143 (by decide) (fun c1 => ?_) (fun c2 => ?_)
  · skip
    refine s_iinc (v := (x5 + 1)) (L' := [.ref 120, .int x1, .int x2, .int x3, .int x4, .int (x5 + 1)]) dX12_isTaken_166 rfl (by decide) rfl rfl rfl ?_
    refine g_goto (tgt := 78) dX12_isTaken_169 (by decide) ?_
    exact e1 c1
  · skip
    refine g_aload_n dX12_isTaken_146 rfl rfl ?_
    refine rg_X12_0 (r := 121) dX12_isTaken_147 lf_X12_7 (sk_120 _) rfl ?_
    refine g_sipush (v := 1605) dX12_isTaken_150 (by decide) ?_
    refine g_iload dX12_isTaken_153 rfl ?_
    refine g_iadd dX12_isTaken_155 ?_
    refine s_iald (j := (1605 + x5).toNatClampNeg) (v := (I 121 (1605 + x5).toNatClampNeg)) dX12_isTaken_156 (sk_121 _) (b2 c2) rfl rfl ?_
    refine g_if_ne (tgt := 164) dX12_isTaken_157 (by decide) (fun c3 => ?_) (fun c4 => ?_)
    · skip
      refine g_iconst (v := 0) dX12_isTaken_164 (by decide) ?_
      exact g_zret (ty := .boolean) rfl rfl dX12_isTaken_165 rfl (Nat.le_refl _) (q3 c2 c3)
    · skip
      refine g_iconst (v := 1) dX12_isTaken_160 (by decide) ?_
      refine g_goto (tgt := 165) dX12_isTaken_161 (by decide) ?_
      exact g_zret (ty := .boolean) rfl rfl dX12_isTaken_165 rfl (Nat.le_refl _) (q4 c2 c4)
set_option maxRecDepth 10000 in
set_option maxHeartbeats 1000000 in
theorem sn_X12_takes {l : Launch} {d : Nat} {Q : Option Value → mx_H → Prop} {c : Nat} {I : mx_I} (a1 : Int32) (a2 : Int32) (a3 : Int32) (a4 : Int32)
    (k1 : mx_K1 l mX12_laysHeap d [.ref 120, .int a1] (sk0 c, I) (fun r h' => mx_Go l (mx_rm (d + 1) 0 0) mX12_takes (mx_Z Q 0 0) 0 0 5 [.ref 120, .int a1, .int a2, .int a3, .int a4, .retAddr 0, .retAddr 0, .retAddr 0, .retAddr 0] (r.toList ++ []) h')) :
    mx_Spec l mX12_takes (d + 1) 0 0 [.ref 120, .int a1, .int a2, .int a3, .int a4] (sk0 c, I) Q := by
  refine mx_enter rfl (by simp [Value.category]) (Nat.le_of_ble_eq_true rfl) ?_
  change mx_Go l (mx_rm (d + 1) 0 0) mX12_takes (mx_Z Q 0 0) 0 0 0 [.ref 120, .int a1, .int a2, .int a3, .int a4, .retAddr 0, .retAddr 0, .retAddr 0, .retAddr 0] [] (sk0 c, I)
  refine g_aload_n dX12_takes_0 rfl rfl ?_
  refine g_iload_n dX12_takes_1 rfl rfl ?_
  exact s_callV (M' := mX12_laysHeap) (As := [.int a1]) (st := []) dX12_takes_2 lm_X12_233 ovX12_laysHeap (h := (sk0 c, I)) (sk_120 _) (show vwCl[12]? = some _ from rfl) rfl (by simp [Value.category]) (by decide) rfl (k1)
set_option maxRecDepth 10000 in
set_option maxHeartbeats 1000000 in
theorem sg_X12_takes_5 {l : Launch} {d : Nat} {Q : Option Value → mx_H → Prop} {c : Nat} {I : mx_I} (x1 : Int32) (x2 : Int32) (x3 : Int32) (x4 : Int32)
    (e1 : mx_Go l (mx_rm (d + 1) 0 0) mX12_takes (mx_Z Q 0 0) 0 0 16 [.ref 120, .int x1, .int x2, .int x3, .int x4, .int 0, .int 0, .retAddr 0, .retAddr 0] [] (sk0 c, (mx_set I 120 30 0))) :
    mx_Go l (mx_rm (d + 1) 0 0) mX12_takes (mx_Z Q 0 0) 0 0 5 [.ref 120, .int x1, .int x2, .int x3, .int x4, .retAddr 0, .retAddr 0, .retAddr 0, .retAddr 0] [] (sk0 c, I) := by
  refine g_aload_n dX12_takes_5 rfl rfl ?_
  refine g_iconst (v := 0) dX12_takes_6 (by decide) ?_
  refine rp_X12_30 dX12_takes_7 lf_X12_237 (sk_120 _) ?_
  refine g_iconst (v := 0) dX12_takes_10 (by decide) ?_
  refine s_istore (L' := [.ref 120, .int x1, .int x2, .int x3, .int x4, .int 0, .retAddr 0, .retAddr 0, .retAddr 0]) dX12_takes_11 (by decide) rfl rfl ?_
  refine g_iconst (v := 0) dX12_takes_13 (by decide) ?_
  refine s_istore (L' := [.ref 120, .int x1, .int x2, .int x3, .int x4, .int 0, .int 0, .retAddr 0, .retAddr 0]) dX12_takes_14 (by decide) rfl rfl ?_
  exact e1
set_option maxRecDepth 10000 in
set_option maxHeartbeats 1000000 in
theorem sg_X12_takes_16 {l : Launch} {d : Nat} {Q : Option Value → mx_H → Prop} {c : Nat} {I : mx_I} (x1 : Int32) (x2 : Int32) (x3 : Int32) (x4 : Int32) (x5 : Int32) (x6 : Int32)
    (q1 : ((I 120 29) ≤ x6) → Q (some (.int x5)) (sk0 c, I))
    (b2 : (¬ (I 120 29) ≤ x6) → vp_in x6 30)
    (k3 : (¬ (I 120 29) ≤ x6) → mx_K1 l mX12_ofLoad d [.ref 120, .int (I 129 x6.toNatClampNeg), .int 0] (sk0 c, I) (fun r h' => mx_Go l (mx_rm (d + 1) 0 0) mX12_takes (mx_Z Q 0 0) 0 0 49 [.ref 120, .int x1, .int x2, .int x3, .int x4, .int x5, .int x6, .int (I 129 x6.toNatClampNeg), .int ((x2 - x3) - x5)] (r.toList ++ []) h')) :
    mx_Go l (mx_rm (d + 1) 0 0) mX12_takes (mx_Z Q 0 0) 0 0 16 [.ref 120, .int x1, .int x2, .int x3, .int x4, .int x5, .int x6, .retAddr 0, .retAddr 0] [] (sk0 c, I) := by
  refine g_iload dX12_takes_16 rfl ?_
  refine g_aload_n dX12_takes_18 rfl rfl ?_
  refine rg_X12_29 (v := (I 120 29)) dX12_takes_19 lf_X12_223 (sk_120 _) rfl ?_
  refine g_icmp_ge (tgt := 123) dX12_takes_22 (by decide) (fun c1 => ?_) (fun c2 => ?_)
  · skip
    refine g_iload dX12_takes_123 rfl ?_
    exact g_iret rfl dX12_takes_125 rfl (Nat.le_refl _) (q1 c1)
  · skip
    refine g_aload_n dX12_takes_25 rfl rfl ?_
    refine rg_X12_27 (r := 129) dX12_takes_26 lf_X12_41 (sk_120 _) rfl ?_
    refine g_iload dX12_takes_29 rfl ?_
    refine s_iald (j := x6.toNatClampNeg) (v := (I 129 x6.toNatClampNeg)) dX12_takes_31 (sk_129 _) (b2 c2) rfl rfl ?_
    refine s_istore (L' := [.ref 120, .int x1, .int x2, .int x3, .int x4, .int x5, .int x6, .int (I 129 x6.toNatClampNeg), .retAddr 0]) dX12_takes_32 (by decide) rfl rfl ?_
    refine g_iload_n dX12_takes_34 rfl rfl ?_
    refine g_iload_n dX12_takes_35 rfl rfl ?_
    refine g_isub dX12_takes_36 ?_
    refine g_iload dX12_takes_37 rfl ?_
    refine g_isub dX12_takes_39 ?_
    refine s_istore (L' := [.ref 120, .int x1, .int x2, .int x3, .int x4, .int x5, .int x6, .int (I 129 x6.toNatClampNeg), .int ((x2 - x3) - x5)]) dX12_takes_40 (by decide) rfl rfl ?_
    refine g_aload_n dX12_takes_42 rfl rfl ?_
    refine g_iload dX12_takes_43 rfl ?_
    refine g_iconst (v := 0) dX12_takes_45 (by decide) ?_
    exact s_callV (M' := mX12_ofLoad) (As := [.int (I 129 x6.toNatClampNeg), .int 0]) (st := []) dX12_takes_46 lm_X12_220 ovX12_ofLoad (h := (sk0 c, I)) (sk_120 _) (show vwCl[12]? = some _ from rfl) rfl (by simp [Value.category]) (by decide) rfl (k3 c2)
set_option maxRecDepth 10000 in
set_option maxHeartbeats 1000000 in
theorem sg_X12_takes_49 {l : Launch} {d : Nat} {Q : Option Value → mx_H → Prop} {c : Nat} {I : mx_I} (x1 : Int32) (x2 : Int32) (x3 : Int32) (x4 : Int32) (x5 : Int32) (x6 : Int32) (x7 : Int32) (x8 : Int32) (x9 : Int32)
    (k1 : (x9 ≤ x8) → mx_K1 l mX12_isTaken d [.ref 120, .int x7, .int x8, .int x3, .int x4] (sk0 c, I) (fun r h' => mx_Go l (mx_rm (d + 1) 0 0) mX12_takes (mx_Z Q 0 0) 0 0 78 [.ref 120, .int x1, .int x2, .int x3, .int x4, .int x5, .int x6, .int x7, .int x8] (r.toList ++ []) h'))
    (e2 : (¬ x9 ≤ x8) → (¬ (I 121 5) = 1) → mx_Go l (mx_rm (d + 1) 0 0) mX12_takes (mx_Z Q 0 0) 0 0 16 [.ref 120, .int x1, .int x2, .int x3, .int x4, .int x5, .int (x6 + 1), .int x7, .int x8] [] (sk0 c, I))
    (q3 : (¬ x9 ≤ x8) → ((I 121 5) = 1) → Q (some (.int x5)) (sk0 c, I)) :
    mx_Go l (mx_rm (d + 1) 0 0) mX12_takes (mx_Z Q 0 0) 0 0 49 [.ref 120, .int x1, .int x2, .int x3, .int x4, .int x5, .int x6, .int x7, .int x8] [.int x9] (sk0 c, I) := by
  refine g_iload dX12_takes_49 rfl ?_
  refine g_icmp_le (tgt := 67) dX12_takes_51 (by decide) (fun c1 => ?_) (fun c2 => ?_)
  · skip
    refine g_aload_n dX12_takes_67 rfl rfl ?_
    refine g_iload dX12_takes_68 rfl ?_
    refine g_iload dX12_takes_70 rfl ?_
    refine g_iload_n dX12_takes_72 rfl rfl ?_
    refine g_iload dX12_takes_73 rfl ?_
    exact s_callV (M' := mX12_isTaken) (As := [.int x7, .int x8, .int x3, .int x4]) (st := []) dX12_takes_75 lm_X12_240 ovX12_isTaken (h := (sk0 c, I)) (sk_120 _) (show vwCl[12]? = some _ from rfl) rfl (by simp [Value.category]) (by decide) rfl (k1 c1)
  · skip
    refine g_aload_n dX12_takes_54 rfl rfl ?_
    refine rg_X12_0 (r := 121) dX12_takes_55 lf_X12_7 (sk_120 _) rfl ?_
    refine g_iconst (v := 5) dX12_takes_58 (by decide) ?_
    refine s_iald (j := 5) (v := (I 121 5)) dX12_takes_59 (sk_121 _) (by unfold vp_in; decide) (by decide) rfl ?_
    refine g_iconst (v := 1) dX12_takes_60 (by decide) ?_
    refine g_icmp_ne (tgt := 117) dX12_takes_61 (by decide) (fun c3 => ?_) (fun c4 => ?_)
    · skip
      refine s_iinc (v := (x6 + 1)) (L' := [.ref 120, .int x1, .int x2, .int x3, .int x4, .int x5, .int (x6 + 1), .int x7, .int x8]) dX12_takes_117 rfl (by decide) rfl rfl rfl ?_
      refine g_goto (tgt := 16) dX12_takes_120 (by decide) ?_
      exact e2 c2 c3
    · skip
      refine g_goto (tgt := 123) dX12_takes_64 (by decide) ?_
      refine g_iload dX12_takes_123 rfl ?_
      exact g_iret rfl dX12_takes_125 rfl (Nat.le_refl _) (q3 c2 c4)
set_option maxRecDepth 10000 in
set_option maxHeartbeats 1000000 in
theorem sg_X12_takes_78 {l : Launch} {d : Nat} {Q : Option Value → mx_H → Prop} {c : Nat} {I : mx_I} (x1 : Int32) (x2 : Int32) (x3 : Int32) (x4 : Int32) (x5 : Int32) (x6 : Int32) (x7 : Int32) (x8 : Int32) (x9 : Int32)
    (b1 : (¬ x9 = 0) → vp_in (I 120 30) 30)
    (k2 : (¬ x9 = 0) → mx_K1 l mX12_ofLoad d [.ref 120, .int x7, .int 0] (sk0 c, (mx_set (mx_set I 130 (I 120 30).toNatClampNeg x7) 120 30 ((I 120 30) + 1))) (fun r h' => mx_Go l (mx_rm (d + 1) 0 0) mX12_takes (mx_Z Q 0 0) 0 0 114 [.ref 120, .int x1, .int x2, .int x3, .int x4, .int x5, .int x6, .int x7, .int x8] (r.toList ++ [.int x5]) h'))
    (e3 : (x9 = 0) → mx_Go l (mx_rm (d + 1) 0 0) mX12_takes (mx_Z Q 0 0) 0 0 16 [.ref 120, .int x1, .int x2, .int x3, .int x4, .int x5, .int (x6 + 1), .int x7, .int x8] [] (sk0 c, I)) :
    mx_Go l (mx_rm (d + 1) 0 0) mX12_takes (mx_Z Q 0 0) 0 0 78 [.ref 120, .int x1, .int x2, .int x3, .int x4, .int x5, .int x6, .int x7, .int x8] [.int x9] (sk0 c, I) := by
  refine g_if_ne (tgt := 84) dX12_takes_78 (by decide) (fun c1 => ?_) (fun c2 => ?_)
  · skip
    refine g_aload_n dX12_takes_84 rfl rfl ?_
    refine rg_X12_28 (r := 130) dX12_takes_85 lf_X12_44 (sk_120 _) rfl ?_
    refine g_aload_n dX12_takes_88 rfl rfl ?_
    refine rg_X12_30 (v := (I 120 30)) dX12_takes_89 lf_X12_237 (sk_120 _) rfl ?_
    refine g_iload dX12_takes_92 rfl ?_
    refine s_iast (j := (I 120 30).toNatClampNeg) dX12_takes_94 (sk_130 _) (b1 c1) rfl ?_
    refine g_aload_n dX12_takes_95 rfl rfl ?_
    refine g_dup dX12_takes_96 rfl ?_
    refine rg_X12_30 (v := (I 120 30)) dX12_takes_97 lf_X12_237 (sk_120 _) (rd_ne (by decide) rfl) ?_
    refine g_iconst (v := 1) dX12_takes_100 (by decide) ?_
    refine g_iadd dX12_takes_101 ?_
    refine rp_X12_30 dX12_takes_102 lf_X12_237 (sk_120 _) ?_
    refine g_iload dX12_takes_105 rfl ?_
    refine g_aload_n dX12_takes_107 rfl rfl ?_
    refine g_iload dX12_takes_108 rfl ?_
    refine g_iconst (v := 0) dX12_takes_110 (by decide) ?_
    exact s_callV (M' := mX12_ofLoad) (As := [.int x7, .int 0]) (st := [.int x5]) dX12_takes_111 lm_X12_220 ovX12_ofLoad (h := (sk0 c, (mx_set (mx_set I 130 (I 120 30).toNatClampNeg x7) 120 30 ((I 120 30) + 1)))) (sk_120 _) (show vwCl[12]? = some _ from rfl) rfl (by simp [Value.category]) (by decide) rfl (k2 c1)
  · skip
    refine g_goto (tgt := 117) dX12_takes_81 (by decide) ?_
    refine s_iinc (v := (x6 + 1)) (L' := [.ref 120, .int x1, .int x2, .int x3, .int x4, .int x5, .int (x6 + 1), .int x7, .int x8]) dX12_takes_117 rfl (by decide) rfl rfl rfl ?_
    refine g_goto (tgt := 16) dX12_takes_120 (by decide) ?_
    exact e3 c2
set_option maxRecDepth 10000 in
set_option maxHeartbeats 1000000 in
theorem sg_X12_takes_114 {l : Launch} {d : Nat} {Q : Option Value → mx_H → Prop} {c : Nat} {I : mx_I} (x1 : Int32) (x2 : Int32) (x3 : Int32) (x4 : Int32) (x5 : Int32) (x6 : Int32) (x7 : Int32) (x8 : Int32) (x9 : Int32) (x10 : Int32)
    (e1 : mx_Go l (mx_rm (d + 1) 0 0) mX12_takes (mx_Z Q 0 0) 0 0 16 [.ref 120, .int x1, .int x2, .int x3, .int x4, .int (x10 + x9), .int (x6 + 1), .int x7, .int x8] [] (sk0 c, I)) :
    mx_Go l (mx_rm (d + 1) 0 0) mX12_takes (mx_Z Q 0 0) 0 0 114 [.ref 120, .int x1, .int x2, .int x3, .int x4, .int x5, .int x6, .int x7, .int x8] [.int x9, .int x10] (sk0 c, I) := by
  refine g_iadd dX12_takes_114 ?_
  refine s_istore (L' := [.ref 120, .int x1, .int x2, .int x3, .int x4, .int (x10 + x9), .int x6, .int x7, .int x8]) dX12_takes_115 (by decide) rfl rfl ?_
  refine s_iinc (v := (x6 + 1)) (L' := [.ref 120, .int x1, .int x2, .int x3, .int x4, .int (x10 + x9), .int (x6 + 1), .int x7, .int x8]) dX12_takes_117 rfl (by decide) rfl rfl rfl ?_
  refine g_goto (tgt := 16) dX12_takes_120 (by decide) ?_
  exact e1
set_option maxRecDepth 10000 in
set_option maxHeartbeats 1000000 in
theorem sn_X12_writes {l : Launch} {d : Nat} {Q : Option Value → mx_H → Prop} {c : Nat} {I : mx_I} (a1 : Int32) (a2 : Int32) (a3 : Int32)
    (q1 : (¬ (I 120 21) = 0) → Q none (sk0 c, I))
    (q2 : ((I 120 21) = 0) → (a2 = (-1)) → Q none (sk0 c, I))
    (b3 : ((I 120 21) = 0) → (¬ a2 = (-1)) → (¬ (I 121 6) = 300) → vp_in (600 + (3 * (I 121 6))) 2490)
    (b4 : ((I 120 21) = 0) → (¬ a2 = (-1)) → (¬ (I 121 6) = 300) → vp_in ((600 + (3 * (I 121 6))) + 1) 2490)
    (b5 : ((I 120 21) = 0) → (¬ a2 = (-1)) → (¬ (I 121 6) = 300) → vp_in ((600 + (3 * (I 121 6))) + 2) 2490)
    (q6 : ((I 120 21) = 0) → (¬ a2 = (-1)) → (¬ (I 121 6) = 300) → Q none (sk0 c, (mx_set (mx_set (mx_set (mx_set I 121 (600 + (3 * (I 121 6))).toNatClampNeg a1) 121 ((600 + (3 * (I 121 6))) + 1).toNatClampNeg a2) 121 ((600 + (3 * (I 121 6))) + 2).toNatClampNeg a3) 121 6 (((mx_set (mx_set (mx_set I 121 (600 + (3 * (I 121 6))).toNatClampNeg a1) 121 ((600 + (3 * (I 121 6))) + 1).toNatClampNeg a2) 121 ((600 + (3 * (I 121 6))) + 2).toNatClampNeg a3) 121 6) + 1))))
    (q7 : ((I 120 21) = 0) → (¬ a2 = (-1)) → ((I 121 6) = 300) → Q none (sk0 c, I)) :
    mx_Spec l mX12_writes (d + 1) 0 0 [.ref 120, .int a1, .int a2, .int a3] (sk0 c, I) Q := by
  refine mx_enter rfl (by simp [Value.category]) (Nat.le_of_ble_eq_true rfl) ?_
  change mx_Go l (mx_rm (d + 1) 0 0) mX12_writes (mx_Z Q 0 0) 0 0 0 [.ref 120, .int a1, .int a2, .int a3, .retAddr 0] [] (sk0 c, I)
  refine g_aload_n dX12_writes_0 rfl rfl ?_
  refine rg_X12_21 (v := (I 120 21)) dX12_writes_1 lf_X12_244 (sk_120 _) rfl ?_
  refine g_if_ne (tgt := 25) dX12_writes_4 (by decide) (fun c1 => ?_) (fun c2 => ?_)
  · skip
    exact g_vret rfl dX12_writes_25 rfl (Nat.le_refl _) (q1 c1)
  · skip
    refine g_iload_n dX12_writes_7 rfl rfl ?_
    refine g_iconst (v := (-1)) dX12_writes_8 (by decide) ?_
    refine g_icmp_eq (tgt := 25) dX12_writes_9 (by decide) (fun c3 => ?_) (fun c4 => ?_)
    · skip
      exact g_vret rfl dX12_writes_25 rfl (Nat.le_refl _) (q2 c2 c3)
    · skip
      refine g_aload_n dX12_writes_12 rfl rfl ?_
      refine rg_X12_0 (r := 121) dX12_writes_13 lf_X12_7 (sk_120 _) rfl ?_
      refine g_bipush (v := 6) dX12_writes_16 (by decide) ?_
      refine s_iald (j := 6) (v := (I 121 6)) dX12_writes_18 (sk_121 _) (by unfold vp_in; decide) (by decide) rfl ?_
      refine g_sipush (v := 300) dX12_writes_19 (by decide) ?_
      refine g_icmp_ne (tgt := 26) dX12_writes_22 (by decide) (fun c5 => ?_) (fun c6 => ?_)
      · skip
        refine g_sipush (v := 600) dX12_writes_26 (by decide) ?_
        refine g_iconst (v := 3) dX12_writes_29 (by decide) ?_
        refine g_aload_n dX12_writes_30 rfl rfl ?_
        refine rg_X12_0 (r := 121) dX12_writes_31 lf_X12_7 (sk_120 _) rfl ?_
        refine g_bipush (v := 6) dX12_writes_34 (by decide) ?_
        refine s_iald (j := 6) (v := (I 121 6)) dX12_writes_36 (sk_121 _) (by unfold vp_in; decide) (by decide) rfl ?_
        refine g_imul dX12_writes_37 ?_
        refine g_iadd dX12_writes_38 ?_
        refine s_istore (L' := [.ref 120, .int a1, .int a2, .int a3, .int (600 + (3 * (I 121 6)))]) dX12_writes_39 (by decide) rfl rfl ?_
        refine g_aload_n dX12_writes_41 rfl rfl ?_
        refine rg_X12_0 (r := 121) dX12_writes_42 lf_X12_7 (sk_120 _) rfl ?_
        refine g_iload dX12_writes_45 rfl ?_
        refine g_iload_n dX12_writes_47 rfl rfl ?_
        refine s_iast (j := (600 + (3 * (I 121 6))).toNatClampNeg) dX12_writes_48 (sk_121 _) (b3 c2 c4 c5) rfl ?_
        refine g_aload_n dX12_writes_49 rfl rfl ?_
        refine rg_X12_0 (r := 121) dX12_writes_50 lf_X12_7 (sk_120 _) rfl ?_
        refine g_iload dX12_writes_53 rfl ?_
        refine g_iconst (v := 1) dX12_writes_55 (by decide) ?_
        refine g_iadd dX12_writes_56 ?_
        refine g_iload_n dX12_writes_57 rfl rfl ?_
        refine s_iast (j := ((600 + (3 * (I 121 6))) + 1).toNatClampNeg) dX12_writes_58 (sk_121 _) (b4 c2 c4 c5) rfl ?_
        refine g_aload_n dX12_writes_59 rfl rfl ?_
        refine rg_X12_0 (r := 121) dX12_writes_60 lf_X12_7 (sk_120 _) rfl ?_
        refine g_iload dX12_writes_63 rfl ?_
        refine g_iconst (v := 2) dX12_writes_65 (by decide) ?_
        refine g_iadd dX12_writes_66 ?_
        refine g_iload_n dX12_writes_67 rfl rfl ?_
        refine s_iast (j := ((600 + (3 * (I 121 6))) + 2).toNatClampNeg) dX12_writes_68 (sk_121 _) (b5 c2 c4 c5) rfl ?_
        refine g_aload_n dX12_writes_69 rfl rfl ?_
        refine rg_X12_0 (r := 121) dX12_writes_70 lf_X12_7 (sk_120 _) rfl ?_
        refine g_bipush (v := 6) dX12_writes_73 (by decide) ?_
        refine g_dup2 dX12_writes_75 rfl rfl ?_
        refine s_iald (j := 6) (v := ((mx_set (mx_set (mx_set I 121 (600 + (3 * (I 121 6))).toNatClampNeg a1) 121 ((600 + (3 * (I 121 6))) + 1).toNatClampNeg a2) 121 ((600 + (3 * (I 121 6))) + 2).toNatClampNeg a3) 121 6)) dX12_writes_76 (sk_121 _) (by unfold vp_in; decide) (by decide) rfl ?_
        refine g_iconst (v := 1) dX12_writes_77 (by decide) ?_
        refine g_iadd dX12_writes_78 ?_
        refine s_iast (j := 6) dX12_writes_79 (sk_121 _) (by unfold vp_in; decide) (by decide) ?_
        exact g_vret rfl dX12_writes_80 rfl (Nat.le_refl _) (q6 c2 c4 c5)
      · skip
        exact g_vret rfl dX12_writes_25 rfl (Nat.le_refl _) (q7 c2 c4 c6)
set_option maxRecDepth 10000 in
set_option maxHeartbeats 1000000 in
theorem sn_X12_setsDown {l : Launch} {d : Nat} {Q : Option Value → mx_H → Prop} {c : Nat} {I : mx_I} (a1 : Int32) (a2 : Int32) (a3 : Int32)
    (e1 : mx_Go l (mx_rm (d + 1) 0 0) mX12_setsDown (mx_Z Q 0 0) 0 0 3 [.ref 120, .int a1, .int a2, .int a3, .int 0, .retAddr 0] [] (sk0 c, I)) :
    mx_Spec l mX12_setsDown (d + 1) 0 0 [.ref 120, .int a1, .int a2, .int a3] (sk0 c, I) Q := by
  refine mx_enter rfl (by simp [Value.category]) (Nat.le_of_ble_eq_true rfl) ?_
  change mx_Go l (mx_rm (d + 1) 0 0) mX12_setsDown (mx_Z Q 0 0) 0 0 0 [.ref 120, .int a1, .int a2, .int a3, .retAddr 0, .retAddr 0] [] (sk0 c, I)
  refine g_iconst (v := 0) dX12_setsDown_0 (by decide) ?_
  refine s_istore (L' := [.ref 120, .int a1, .int a2, .int a3, .int 0, .retAddr 0]) dX12_setsDown_1 (by decide) rfl rfl ?_
  exact e1
set_option maxRecDepth 10000 in
set_option maxHeartbeats 1000000 in
theorem sg_X12_setsDown_3 {l : Launch} {d : Nat} {Q : Option Value → mx_H → Prop} {c : Nat} {I : mx_I} (x1 : Int32) (x2 : Int32) (x3 : Int32) (x4 : Int32)
    (q1 : ((I 120 30) ≤ x4) → Q none (sk0 c, (mx_set I 120 31 ((I 120 31) + (I 120 30)))))
    (b2 : (¬ (I 120 30) ≤ x4) → vp_in x4 30)
    (k3 : (¬ (I 120 30) ≤ x4) → mx_K1 l mX12_ofLoad d [.ref 120, .int (I 130 x4.toNatClampNeg), .int 7] (sk0 c, I) (fun r h' => mx_Go l (mx_rm (d + 1) 0 0) mX12_setsDown (mx_Z Q 0 0) 0 0 34 [.ref 120, .int x1, .int x2, .int x3, .int x4, .int (I 130 x4.toNatClampNeg)] (r.toList ++ [.int 7, .int (I 130 x4.toNatClampNeg), .ref 120]) h')) :
    mx_Go l (mx_rm (d + 1) 0 0) mX12_setsDown (mx_Z Q 0 0) 0 0 3 [.ref 120, .int x1, .int x2, .int x3, .int x4, .retAddr 0] [] (sk0 c, I) := by
  refine g_iload dX12_setsDown_3 rfl ?_
  refine g_aload_n dX12_setsDown_5 rfl rfl ?_
  refine rg_X12_30 (v := (I 120 30)) dX12_setsDown_6 lf_X12_237 (sk_120 _) rfl ?_
  refine g_icmp_ge (tgt := 61) dX12_setsDown_9 (by decide) (fun c1 => ?_) (fun c2 => ?_)
  · skip
    refine g_aload_n dX12_setsDown_61 rfl rfl ?_
    refine g_dup dX12_setsDown_62 rfl ?_
    refine rg_X12_31 (v := (I 120 31)) dX12_setsDown_63 lf_X12_254 (sk_120 _) rfl ?_
    refine g_aload_n dX12_setsDown_66 rfl rfl ?_
    refine rg_X12_30 (v := (I 120 30)) dX12_setsDown_67 lf_X12_237 (sk_120 _) rfl ?_
    refine g_iadd dX12_setsDown_70 ?_
    refine rp_X12_31 dX12_setsDown_71 lf_X12_254 (sk_120 _) ?_
    exact g_vret rfl dX12_setsDown_74 rfl (Nat.le_refl _) (q1 c1)
  · skip
    refine g_aload_n dX12_setsDown_12 rfl rfl ?_
    refine rg_X12_28 (r := 130) dX12_setsDown_13 lf_X12_44 (sk_120 _) rfl ?_
    refine g_iload dX12_setsDown_16 rfl ?_
    refine s_iald (j := x4.toNatClampNeg) (v := (I 130 x4.toNatClampNeg)) dX12_setsDown_18 (sk_130 _) (b2 c2) rfl rfl ?_
    refine s_istore (L' := [.ref 120, .int x1, .int x2, .int x3, .int x4, .int (I 130 x4.toNatClampNeg)]) dX12_setsDown_19 (by decide) rfl rfl ?_
    refine g_aload_n dX12_setsDown_21 rfl rfl ?_
    refine g_iload dX12_setsDown_22 rfl ?_
    refine g_bipush (v := 7) dX12_setsDown_24 (by decide) ?_
    refine g_aload_n dX12_setsDown_26 rfl rfl ?_
    refine g_iload dX12_setsDown_27 rfl ?_
    refine g_bipush (v := 7) dX12_setsDown_29 (by decide) ?_
    exact s_callV (M' := mX12_ofLoad) (As := [.int (I 130 x4.toNatClampNeg), .int 7]) (st := [.int 7, .int (I 130 x4.toNatClampNeg), .ref 120]) dX12_setsDown_31 lm_X12_220 ovX12_ofLoad (h := (sk0 c, I)) (sk_120 _) (show vwCl[12]? = some _ from rfl) rfl (by simp [Value.category]) (by decide) rfl (k3 c2)
set_option maxRecDepth 10000 in
set_option maxHeartbeats 1000000 in
theorem sg_X12_setsDown_34 {l : Launch} {d : Nat} {Q : Option Value → mx_H → Prop} {c : Nat} {I : mx_I} (x1 : Int32) (x2 : Int32) (x3 : Int32) (x4 : Int32) (x5 : Int32) (x6 : Int32) (x7 : Int32) (x8 : Int32)
    (k1 : mx_K1 l mX12_loads d [.ref 120, .int x8, .int x7, .int (x6 + 1)] (sk0 c, I) (fun r h' => mx_Go l (mx_rm (d + 1) 0 0) mX12_setsDown (mx_Z Q 0 0) 0 0 39 [.ref 120, .int x1, .int x2, .int x3, .int x4, .int x5] (r.toList ++ []) h')) :
    mx_Go l (mx_rm (d + 1) 0 0) mX12_setsDown (mx_Z Q 0 0) 0 0 34 [.ref 120, .int x1, .int x2, .int x3, .int x4, .int x5] [.int x6, .int x7, .int x8, .ref 120] (sk0 c, I) := by
  refine g_iconst (v := 1) dX12_setsDown_34 (by decide) ?_
  refine g_iadd dX12_setsDown_35 ?_
  exact s_callV (M' := mX12_loads) (As := [.int x8, .int x7, .int (x6 + 1)]) (st := []) dX12_setsDown_36 lm_X12_54 ovX12_loads (h := (sk0 c, I)) (sk_120 _) (show vwCl[12]? = some _ from rfl) rfl (by simp [Value.category]) (by decide) rfl (k1)
set_option maxRecDepth 10000 in
set_option maxHeartbeats 1000000 in
theorem sg_X12_setsDown_39 {l : Launch} {d : Nat} {Q : Option Value → mx_H → Prop} {c : Nat} {I : mx_I} (x1 : Int32) (x2 : Int32) (x3 : Int32) (x4 : Int32) (x5 : Int32)
    (k1 : mx_K1 l mX12_comes d [.ref 120, .int x5, .int x2, .int x3] (sk0 c, I) (fun r h' => mx_Go l (mx_rm (d + 1) 0 0) mX12_setsDown (mx_Z Q 0 0) 0 0 47 [.ref 120, .int x1, .int x2, .int x3, .int x4, .int x5] (r.toList ++ []) h')) :
    mx_Go l (mx_rm (d + 1) 0 0) mX12_setsDown (mx_Z Q 0 0) 0 0 39 [.ref 120, .int x1, .int x2, .int x3, .int x4, .int x5] [] (sk0 c, I) := by
  refine g_aload_n dX12_setsDown_39 rfl rfl ?_
  refine g_iload dX12_setsDown_40 rfl ?_
  refine g_iload_n dX12_setsDown_42 rfl rfl ?_
  refine g_iload_n dX12_setsDown_43 rfl rfl ?_
  exact s_callV (M' := mX12_comes) (As := [.int x5, .int x2, .int x3]) (st := []) dX12_setsDown_44 lm_X12_248 ovX12_comes (h := (sk0 c, I)) (sk_120 _) (show vwCl[12]? = some _ from rfl) rfl (by simp [Value.category]) (by decide) rfl (k1)
set_option maxRecDepth 10000 in
set_option maxHeartbeats 1000000 in
theorem sg_X12_setsDown_47 {l : Launch} {d : Nat} {Q : Option Value → mx_H → Prop} {c : Nat} {I : mx_I} (x1 : Int32) (x2 : Int32) (x3 : Int32) (x4 : Int32) (x5 : Int32)
    (k1 : mx_K1 l mX12_writes d [.ref 120, .int x5, .int x1, .int x3] (sk0 c, I) (fun r h' => mx_Go l (mx_rm (d + 1) 0 0) mX12_setsDown (mx_Z Q 0 0) 0 0 55 [.ref 120, .int x1, .int x2, .int x3, .int x4, .int x5] (r.toList ++ []) h')) :
    mx_Go l (mx_rm (d + 1) 0 0) mX12_setsDown (mx_Z Q 0 0) 0 0 47 [.ref 120, .int x1, .int x2, .int x3, .int x4, .int x5] [] (sk0 c, I) := by
  refine g_aload_n dX12_setsDown_47 rfl rfl ?_
  refine g_iload dX12_setsDown_48 rfl ?_
  refine g_iload_n dX12_setsDown_50 rfl rfl ?_
  refine g_iload_n dX12_setsDown_51 rfl rfl ?_
  exact s_callV (M' := mX12_writes) (As := [.int x5, .int x1, .int x3]) (st := []) dX12_setsDown_52 lm_X12_251 ovX12_writes (h := (sk0 c, I)) (sk_120 _) (show vwCl[12]? = some _ from rfl) rfl (by simp [Value.category]) (by decide) rfl (k1)
set_option maxRecDepth 10000 in
set_option maxHeartbeats 1000000 in
theorem sg_X12_setsDown_55 {l : Launch} {d : Nat} {Q : Option Value → mx_H → Prop} {c : Nat} {I : mx_I} (x1 : Int32) (x2 : Int32) (x3 : Int32) (x4 : Int32) (x5 : Int32)
    (e1 : mx_Go l (mx_rm (d + 1) 0 0) mX12_setsDown (mx_Z Q 0 0) 0 0 3 [.ref 120, .int x1, .int x2, .int x3, .int (x4 + 1), .int x5] [] (sk0 c, I)) :
    mx_Go l (mx_rm (d + 1) 0 0) mX12_setsDown (mx_Z Q 0 0) 0 0 55 [.ref 120, .int x1, .int x2, .int x3, .int x4, .int x5] [] (sk0 c, I) := by
  refine s_iinc (v := (x4 + 1)) (L' := [.ref 120, .int x1, .int x2, .int x3, .int (x4 + 1), .int x5]) dX12_setsDown_55 rfl (by decide) rfl rfl rfl ?_
  refine g_goto (tgt := 3) dX12_setsDown_58 (by decide) ?_
  exact e1
set_option maxRecDepth 10000 in
set_option maxHeartbeats 1000000 in
theorem sn_X12_crosses {l : Launch} {d : Nat} {Q : Option Value → mx_H → Prop} {c : Nat} {I : mx_I} (a1 : Int32) (a2 : Int32)
    (k1 : mx_K1 l mX12_ofOne d [.ref 120, .int a1, .int 1] (sk0 c, I) (fun r h' => mx_Go l (mx_rm (d + 1) 0 0) mX12_crosses (mx_Z Q 0 0) 0 0 6 [.ref 120, .int a1, .int a2, .retAddr 0, .retAddr 0, .retAddr 0, .retAddr 0] (r.toList ++ []) h')) :
    mx_Spec l mX12_crosses (d + 1) 0 0 [.ref 120, .int a1, .int a2] (sk0 c, I) Q := by
  refine mx_enter rfl (by simp [Value.category]) (Nat.le_of_ble_eq_true rfl) ?_
  change mx_Go l (mx_rm (d + 1) 0 0) mX12_crosses (mx_Z Q 0 0) 0 0 0 [.ref 120, .int a1, .int a2, .retAddr 0, .retAddr 0, .retAddr 0, .retAddr 0] [] (sk0 c, I)
  refine g_aload_n dX12_crosses_0 rfl rfl ?_
  refine g_iload_n dX12_crosses_1 rfl rfl ?_
  refine g_iconst (v := 1) dX12_crosses_2 (by decide) ?_
  exact s_callV (M' := mX12_ofOne) (As := [.int a1, .int 1]) (st := []) dX12_crosses_3 lm_X12_80 ovX12_ofOne (h := (sk0 c, I)) (sk_120 _) (show vwCl[12]? = some _ from rfl) rfl (by simp [Value.category]) (by decide) rfl (k1)
set_option maxRecDepth 10000 in
set_option maxHeartbeats 1000000 in
theorem sg_X12_crosses_6 {l : Launch} {d : Nat} {Q : Option Value → mx_H → Prop} {c : Nat} {I : mx_I} (x1 : Int32) (x2 : Int32) (x3 : Int32)
    (k1 : mx_K1 l mX12_ofOne d [.ref 120, .int x1, .int 2] (sk0 c, I) (fun r h' => mx_Go l (mx_rm (d + 1) 0 0) mX12_crosses (mx_Z Q 0 0) 0 0 12 [.ref 120, .int x1, .int x2, .retAddr 0, .retAddr 0, .retAddr 0, .retAddr 0] (r.toList ++ [.int x3]) h')) :
    mx_Go l (mx_rm (d + 1) 0 0) mX12_crosses (mx_Z Q 0 0) 0 0 6 [.ref 120, .int x1, .int x2, .retAddr 0, .retAddr 0, .retAddr 0, .retAddr 0] [.int x3] (sk0 c, I) := by
  refine g_aload_n dX12_crosses_6 rfl rfl ?_
  refine g_iload_n dX12_crosses_7 rfl rfl ?_
  refine g_iconst (v := 2) dX12_crosses_8 (by decide) ?_
  exact s_callV (M' := mX12_ofOne) (As := [.int x1, .int 2]) (st := [.int x3]) dX12_crosses_9 lm_X12_80 ovX12_ofOne (h := (sk0 c, I)) (sk_120 _) (show vwCl[12]? = some _ from rfl) rfl (by simp [Value.category]) (by decide) rfl (k1)
set_option maxRecDepth 10000 in
set_option maxHeartbeats 1000000 in
theorem sg_X12_crosses_12 {l : Launch} {d : Nat} {Q : Option Value → mx_H → Prop} {c : Nat} {I : mx_I} (x1 : Int32) (x2 : Int32) (x3 : Int32) (x4 : Int32)
    (k1 : mx_K1 l mX12_ofOne d [.ref 120, .int x1, .int 1] (sk0 c, I) (fun r h' => mx_Go l (mx_rm (d + 1) 0 0) mX12_crosses (mx_Z Q 0 0) 0 0 20 [.ref 120, .int x1, .int x2, .int (x4 + x3), .retAddr 0, .retAddr 0, .retAddr 0] (r.toList ++ []) h')) :
    mx_Go l (mx_rm (d + 1) 0 0) mX12_crosses (mx_Z Q 0 0) 0 0 12 [.ref 120, .int x1, .int x2, .retAddr 0, .retAddr 0, .retAddr 0, .retAddr 0] [.int x3, .int x4] (sk0 c, I) := by
  refine g_iadd dX12_crosses_12 ?_
  refine s_istore_n (L' := [.ref 120, .int x1, .int x2, .int (x4 + x3), .retAddr 0, .retAddr 0, .retAddr 0]) dX12_crosses_13 rfl (by decide) rfl rfl ?_
  refine g_aload_n dX12_crosses_14 rfl rfl ?_
  refine g_iload_n dX12_crosses_15 rfl rfl ?_
  refine g_iconst (v := 1) dX12_crosses_16 (by decide) ?_
  exact s_callV (M' := mX12_ofOne) (As := [.int x1, .int 1]) (st := []) dX12_crosses_17 lm_X12_80 ovX12_ofOne (h := (sk0 c, I)) (sk_120 _) (show vwCl[12]? = some _ from rfl) rfl (by simp [Value.category]) (by decide) rfl (k1)
set_option maxRecDepth 10000 in
set_option maxHeartbeats 1000000 in
theorem sg_X12_crosses_20 {l : Launch} {d : Nat} {Q : Option Value → mx_H → Prop} {c : Nat} {I : mx_I} (x1 : Int32) (x2 : Int32) (x3 : Int32) (x4 : Int32)
    (k1 : mx_K1 l mX12_ofOne d [.ref 120, .int x1, .int 2] (sk0 c, I) (fun r h' => mx_Go l (mx_rm (d + 1) 0 0) mX12_crosses (mx_Z Q 0 0) 0 0 28 [.ref 120, .int x1, .int x2, .int x3, .retAddr 0, .retAddr 0, .retAddr 0] (r.toList ++ [.int (x4 + 1)]) h')) :
    mx_Go l (mx_rm (d + 1) 0 0) mX12_crosses (mx_Z Q 0 0) 0 0 20 [.ref 120, .int x1, .int x2, .int x3, .retAddr 0, .retAddr 0, .retAddr 0] [.int x4] (sk0 c, I) := by
  refine g_iconst (v := 1) dX12_crosses_20 (by decide) ?_
  refine g_iadd dX12_crosses_21 ?_
  refine g_aload_n dX12_crosses_22 rfl rfl ?_
  refine g_iload_n dX12_crosses_23 rfl rfl ?_
  refine g_iconst (v := 2) dX12_crosses_24 (by decide) ?_
  exact s_callV (M' := mX12_ofOne) (As := [.int x1, .int 2]) (st := [.int (x4 + 1)]) dX12_crosses_25 lm_X12_80 ovX12_ofOne (h := (sk0 c, I)) (sk_120 _) (show vwCl[12]? = some _ from rfl) rfl (by simp [Value.category]) (by decide) rfl (k1)
set_option maxRecDepth 10000 in
set_option maxHeartbeats 1000000 in
theorem sg_X12_crosses_28 {l : Launch} {d : Nat} {Q : Option Value → mx_H → Prop} {c : Nat} {I : mx_I} (x1 : Int32) (x2 : Int32) (x3 : Int32) (x4 : Int32) (x5 : Int32)
    (k1 : mx_K1 l mX12_gives d [.ref 120, .int x1, .int 8, .int x2] (sk0 c, I) (fun r h' => mx_Go l (mx_rm (d + 1) 0 0) mX12_crosses (mx_Z Q 0 0) 0 0 39 [.ref 120, .int x1, .int x2, .int x3, .int (x5 - x4), .retAddr 0, .retAddr 0] (r.toList ++ []) h')) :
    mx_Go l (mx_rm (d + 1) 0 0) mX12_crosses (mx_Z Q 0 0) 0 0 28 [.ref 120, .int x1, .int x2, .int x3, .retAddr 0, .retAddr 0, .retAddr 0] [.int x4, .int x5] (sk0 c, I) := by
  refine g_isub dX12_crosses_28 ?_
  refine s_istore (L' := [.ref 120, .int x1, .int x2, .int x3, .int (x5 - x4), .retAddr 0, .retAddr 0]) dX12_crosses_29 (by decide) rfl rfl ?_
  refine g_aload_n dX12_crosses_31 rfl rfl ?_
  refine g_iload_n dX12_crosses_32 rfl rfl ?_
  refine g_bipush (v := 8) dX12_crosses_33 (by decide) ?_
  refine g_iload_n dX12_crosses_35 rfl rfl ?_
  exact s_callV (M' := mX12_gives) (As := [.int x1, .int 8, .int x2]) (st := []) dX12_crosses_36 lm_X12_74 ovX12_gives (h := (sk0 c, I)) (sk_120 _) (show vwCl[12]? = some _ from rfl) rfl (by simp [Value.category]) (by decide) rfl (k1)
set_option maxRecDepth 10000 in
set_option maxHeartbeats 1000000 in
theorem sg_X12_crosses_39 {l : Launch} {d : Nat} {Q : Option Value → mx_H → Prop} {c : Nat} {I : mx_I} (x1 : Int32) (x2 : Int32) (x3 : Int32) (x4 : Int32)
    (k1 : mx_K1 l mX12_ofOne d [.ref 120, .int x1, .int 3] (sk0 c, I) (fun r h' => mx_Go l (mx_rm (d + 1) 0 0) mX12_crosses (mx_Z Q 0 0) 0 0 47 [.ref 120, .int x1, .int x2, .int x3, .int x4, .retAddr 0, .retAddr 0] (r.toList ++ [.int x3, .ref 120]) h')) :
    mx_Go l (mx_rm (d + 1) 0 0) mX12_crosses (mx_Z Q 0 0) 0 0 39 [.ref 120, .int x1, .int x2, .int x3, .int x4, .retAddr 0, .retAddr 0] [] (sk0 c, I) := by
  refine g_aload_n dX12_crosses_39 rfl rfl ?_
  refine g_iload_n dX12_crosses_40 rfl rfl ?_
  refine g_aload_n dX12_crosses_41 rfl rfl ?_
  refine g_iload_n dX12_crosses_42 rfl rfl ?_
  refine g_iconst (v := 3) dX12_crosses_43 (by decide) ?_
  exact s_callV (M' := mX12_ofOne) (As := [.int x1, .int 3]) (st := [.int x3, .ref 120]) dX12_crosses_44 lm_X12_80 ovX12_ofOne (h := (sk0 c, I)) (sk_120 _) (show vwCl[12]? = some _ from rfl) rfl (by simp [Value.category]) (by decide) rfl (k1)
set_option maxRecDepth 10000 in
set_option maxHeartbeats 1000000 in
theorem sg_X12_crosses_47 {l : Launch} {d : Nat} {Q : Option Value → mx_H → Prop} {c : Nat} {I : mx_I} (x1 : Int32) (x2 : Int32) (x3 : Int32) (x4 : Int32) (x5 : Int32) (x6 : Int32)
    (k1 : mx_K1 l mX12_ofOne d [.ref 120, .int x1, .int 4] (sk0 c, I) (fun r h' => mx_Go l (mx_rm (d + 1) 0 0) mX12_crosses (mx_Z Q 0 0) 0 0 53 [.ref 120, .int x1, .int x2, .int x3, .int x4, .retAddr 0, .retAddr 0] (r.toList ++ [.int x5, .int x6, .ref 120]) h')) :
    mx_Go l (mx_rm (d + 1) 0 0) mX12_crosses (mx_Z Q 0 0) 0 0 47 [.ref 120, .int x1, .int x2, .int x3, .int x4, .retAddr 0, .retAddr 0] [.int x5, .int x6, .ref 120] (sk0 c, I) := by
  refine g_aload_n dX12_crosses_47 rfl rfl ?_
  refine g_iload_n dX12_crosses_48 rfl rfl ?_
  refine g_iconst (v := 4) dX12_crosses_49 (by decide) ?_
  exact s_callV (M' := mX12_ofOne) (As := [.int x1, .int 4]) (st := [.int x5, .int x6, .ref 120]) dX12_crosses_50 lm_X12_80 ovX12_ofOne (h := (sk0 c, I)) (sk_120 _) (show vwCl[12]? = some _ from rfl) rfl (by simp [Value.category]) (by decide) rfl (k1)
set_option maxRecDepth 10000 in
set_option maxHeartbeats 1000000 in
theorem sg_X12_crosses_53 {l : Launch} {d : Nat} {Q : Option Value → mx_H → Prop} {c : Nat} {I : mx_I} (x1 : Int32) (x2 : Int32) (x3 : Int32) (x4 : Int32) (x5 : Int32) (x6 : Int32) (x7 : Int32)
    (k1 : mx_K1 l mX12_takes d [.ref 120, .int x7, .int x6, .int x5, .int x2] (sk0 c, I) (fun r h' => mx_Go l (mx_rm (d + 1) 0 0) mX12_crosses (mx_Z Q 0 0) 0 0 57 [.ref 120, .int x1, .int x2, .int x3, .int x4, .retAddr 0, .retAddr 0] (r.toList ++ []) h')) :
    mx_Go l (mx_rm (d + 1) 0 0) mX12_crosses (mx_Z Q 0 0) 0 0 53 [.ref 120, .int x1, .int x2, .int x3, .int x4, .retAddr 0, .retAddr 0] [.int x5, .int x6, .int x7, .ref 120] (sk0 c, I) := by
  refine g_iload_n dX12_crosses_53 rfl rfl ?_
  exact s_callV (M' := mX12_takes) (As := [.int x7, .int x6, .int x5, .int x2]) (st := []) dX12_crosses_54 lm_X12_257 ovX12_takes (h := (sk0 c, I)) (sk_120 _) (show vwCl[12]? = some _ from rfl) rfl (by simp [Value.category]) (by decide) rfl (k1)
set_option maxRecDepth 10000 in
set_option maxHeartbeats 1000000 in
theorem sg_X12_crosses_57 {l : Launch} {d : Nat} {Q : Option Value → mx_H → Prop} {c : Nat} {I : mx_I} (x1 : Int32) (x2 : Int32) (x3 : Int32) (x4 : Int32) (x5 : Int32)
    (k1 : ((I 121 4) = (-1)) → mx_K1 l mX12_gives d [.ref 120, .int x1, .int 9, .int x5] (sk0 c, I) (fun r h' => mx_Go l (mx_rm (d + 1) 0 0) mX12_crosses (mx_Z Q 0 0) 0 0 128 [.ref 120, .int x1, .int x2, .int x3, .int x4, .int x5, .retAddr 0] (r.toList ++ []) h'))
    (k2 : (¬ (I 121 4) = (-1)) → mx_K1 l mX12_ofOne d [.ref 120, .int x1, .int 5] (sk0 c, I) (fun r h' => mx_Go l (mx_rm (d + 1) 0 0) mX12_crosses (mx_Z Q 0 0) 0 0 75 [.ref 120, .int x1, .int x2, .int x3, .int x4, .int x5, .retAddr 0] (r.toList ++ []) h')) :
    mx_Go l (mx_rm (d + 1) 0 0) mX12_crosses (mx_Z Q 0 0) 0 0 57 [.ref 120, .int x1, .int x2, .int x3, .int x4, .retAddr 0, .retAddr 0] [.int x5] (sk0 c, I) := by
  refine s_istore (L' := [.ref 120, .int x1, .int x2, .int x3, .int x4, .int x5, .retAddr 0]) dX12_crosses_57 (by decide) rfl rfl ?_
  refine g_aload_n dX12_crosses_59 rfl rfl ?_
  refine rg_X12_0 (r := 121) dX12_crosses_60 lf_X12_7 (sk_120 _) rfl ?_
  refine g_iconst (v := 4) dX12_crosses_63 (by decide) ?_
  refine s_iald (j := 4) (v := (I 121 4)) dX12_crosses_64 (sk_121 _) (by unfold vp_in; decide) (by decide) rfl ?_
  refine g_iconst (v := (-1)) dX12_crosses_65 (by decide) ?_
  refine g_icmp_eq (tgt := 119) dX12_crosses_66 (by decide) (fun c1 => ?_) (fun c2 => ?_)
  · skip
    refine g_aload_n dX12_crosses_119 rfl rfl ?_
    refine g_iload_n dX12_crosses_120 rfl rfl ?_
    refine g_bipush (v := 9) dX12_crosses_121 (by decide) ?_
    refine g_iload dX12_crosses_123 rfl ?_
    exact s_callV (M' := mX12_gives) (As := [.int x1, .int 9, .int x5]) (st := []) dX12_crosses_125 lm_X12_74 ovX12_gives (h := (sk0 c, I)) (sk_120 _) (show vwCl[12]? = some _ from rfl) rfl (by simp [Value.category]) (by decide) rfl (k1 c1)
  · skip
    refine g_aload_n dX12_crosses_69 rfl rfl ?_
    refine g_iload_n dX12_crosses_70 rfl rfl ?_
    refine g_iconst (v := 5) dX12_crosses_71 (by decide) ?_
    exact s_callV (M' := mX12_ofOne) (As := [.int x1, .int 5]) (st := []) dX12_crosses_72 lm_X12_80 ovX12_ofOne (h := (sk0 c, I)) (sk_120 _) (show vwCl[12]? = some _ from rfl) rfl (by simp [Value.category]) (by decide) rfl (k2 c2)
set_option maxRecDepth 10000 in
set_option maxHeartbeats 1000000 in
theorem sg_X12_crosses_128 {l : Launch} {d : Nat} {Q : Option Value → mx_H → Prop} {c : Nat} {I : mx_I} (x1 : Int32) (x2 : Int32) (x3 : Int32) (x4 : Int32) (x5 : Int32)
    (k1 : mx_K1 l mX12_setsDown d [.ref 120, .int x1, .int x4, .int x2] (sk0 c, I) (fun r h' => mx_Go l (mx_rm (d + 1) 0 0) mX12_crosses (mx_Z Q 0 0) 0 0 136 [.ref 120, .int x1, .int x2, .int x3, .int x4, .int x5, .retAddr 0] (r.toList ++ []) h')) :
    mx_Go l (mx_rm (d + 1) 0 0) mX12_crosses (mx_Z Q 0 0) 0 0 128 [.ref 120, .int x1, .int x2, .int x3, .int x4, .int x5, .retAddr 0] [] (sk0 c, I) := by
  refine g_aload_n dX12_crosses_128 rfl rfl ?_
  refine g_iload_n dX12_crosses_129 rfl rfl ?_
  refine g_iload dX12_crosses_130 rfl ?_
  refine g_iload_n dX12_crosses_132 rfl rfl ?_
  exact s_callV (M' := mX12_setsDown) (As := [.int x1, .int x4, .int x2]) (st := []) dX12_crosses_133 lm_X12_261 ovX12_setsDown (h := (sk0 c, I)) (sk_120 _) (show vwCl[12]? = some _ from rfl) rfl (by simp [Value.category]) (by decide) rfl (k1)
set_option maxRecDepth 10000 in
set_option maxHeartbeats 1000000 in
theorem sg_X12_crosses_75 {l : Launch} {d : Nat} {Q : Option Value → mx_H → Prop} {c : Nat} {I : mx_I} (x1 : Int32) (x2 : Int32) (x3 : Int32) (x4 : Int32) (x5 : Int32) (x6 : Int32)
    (k1 : ((x6 * x5) ≤ (I 121 4)) → mx_K1 l mX12_gives d [.ref 120, .int x1, .int 9, .int x5] (sk0 c, I) (fun r h' => mx_Go l (mx_rm (d + 1) 0 0) mX12_crosses (mx_Z Q 0 0) 0 0 128 [.ref 120, .int x1, .int x2, .int x3, .int x4, .int x5, .retAddr 0] (r.toList ++ []) h'))
    (k2 : (¬ (x6 * x5) ≤ (I 121 4)) → mx_K1 l mX12_gives d [.ref 120, .int x1, .int 10, .int (I 121 4)] (sk0 c, I) (fun r h' => mx_Go l (mx_rm (d + 1) 0 0) mX12_crosses (mx_Z Q 0 0) 0 0 100 [.ref 120, .int x1, .int x2, .int x3, .int x4, .int x5, .retAddr 0] (r.toList ++ []) h')) :
    mx_Go l (mx_rm (d + 1) 0 0) mX12_crosses (mx_Z Q 0 0) 0 0 75 [.ref 120, .int x1, .int x2, .int x3, .int x4, .int x5, .retAddr 0] [.int x6] (sk0 c, I) := by
  refine g_iload dX12_crosses_75 rfl ?_
  refine g_imul dX12_crosses_77 ?_
  refine g_aload_n dX12_crosses_78 rfl rfl ?_
  refine rg_X12_0 (r := 121) dX12_crosses_79 lf_X12_7 (sk_120 _) rfl ?_
  refine g_iconst (v := 4) dX12_crosses_82 (by decide) ?_
  refine s_iald (j := 4) (v := (I 121 4)) dX12_crosses_83 (sk_121 _) (by unfold vp_in; decide) (by decide) rfl ?_
  refine g_icmp_le (tgt := 119) dX12_crosses_84 (by decide) (fun c1 => ?_) (fun c2 => ?_)
  · skip
    refine g_aload_n dX12_crosses_119 rfl rfl ?_
    refine g_iload_n dX12_crosses_120 rfl rfl ?_
    refine g_bipush (v := 9) dX12_crosses_121 (by decide) ?_
    refine g_iload dX12_crosses_123 rfl ?_
    exact s_callV (M' := mX12_gives) (As := [.int x1, .int 9, .int x5]) (st := []) dX12_crosses_125 lm_X12_74 ovX12_gives (h := (sk0 c, I)) (sk_120 _) (show vwCl[12]? = some _ from rfl) rfl (by simp [Value.category]) (by decide) rfl (k1 c1)
  · skip
    refine g_aload_n dX12_crosses_87 rfl rfl ?_
    refine g_iload_n dX12_crosses_88 rfl rfl ?_
    refine g_bipush (v := 10) dX12_crosses_89 (by decide) ?_
    refine g_aload_n dX12_crosses_91 rfl rfl ?_
    refine rg_X12_0 (r := 121) dX12_crosses_92 lf_X12_7 (sk_120 _) rfl ?_
    refine g_iconst (v := 4) dX12_crosses_95 (by decide) ?_
    refine s_iald (j := 4) (v := (I 121 4)) dX12_crosses_96 (sk_121 _) (by unfold vp_in; decide) (by decide) rfl ?_
    exact s_callV (M' := mX12_gives) (As := [.int x1, .int 10, .int (I 121 4)]) (st := []) dX12_crosses_97 lm_X12_74 ovX12_gives (h := (sk0 c, I)) (sk_120 _) (show vwCl[12]? = some _ from rfl) rfl (by simp [Value.category]) (by decide) rfl (k2 c2)
set_option maxRecDepth 10000 in
set_option maxHeartbeats 1000000 in
theorem sg_X12_crosses_136 {l : Launch} {d : Nat} {Q : Option Value → mx_H → Prop} {c : Nat} {I : mx_I} (x1 : Int32) (x2 : Int32) (x3 : Int32) (x4 : Int32) (x5 : Int32)
    (e1 : mx_Go l (mx_rm (d + 1) 0 0) mX12_crosses (mx_Z Q 0 0) 0 0 139 [.ref 120, .int x1, .int x2, .int x3, .int x4, .int x5, .int 0] [] (sk0 c, I)) :
    mx_Go l (mx_rm (d + 1) 0 0) mX12_crosses (mx_Z Q 0 0) 0 0 136 [.ref 120, .int x1, .int x2, .int x3, .int x4, .int x5, .retAddr 0] [] (sk0 c, I) := by
  refine g_iconst (v := 0) dX12_crosses_136 (by decide) ?_
  refine s_istore (L' := [.ref 120, .int x1, .int x2, .int x3, .int x4, .int x5, .int 0]) dX12_crosses_137 (by decide) rfl rfl ?_
  exact e1
set_option maxRecDepth 10000 in
set_option maxHeartbeats 1000000 in
theorem sg_X12_crosses_100 {l : Launch} {d : Nat} {Q : Option Value → mx_H → Prop} {c : Nat} {I : mx_I} (x1 : Int32) (x2 : Int32) (x3 : Int32) (x4 : Int32) (x5 : Int32)
    (e1 : mx_Go l (mx_rm (d + 1) 0 0) mX12_crosses (mx_Z Q 0 0) 0 0 139 [.ref 120, .int x1, .int x2, .int x3, .int x4, .int x5, .int 0] [] (sk0 c, (mx_set I 121 9 ((I 121 9) + (I 121 4))))) :
    mx_Go l (mx_rm (d + 1) 0 0) mX12_crosses (mx_Z Q 0 0) 0 0 100 [.ref 120, .int x1, .int x2, .int x3, .int x4, .int x5, .retAddr 0] [] (sk0 c, I) := by
  refine g_aload_n dX12_crosses_100 rfl rfl ?_
  refine rg_X12_0 (r := 121) dX12_crosses_101 lf_X12_7 (sk_120 _) rfl ?_
  refine g_bipush (v := 9) dX12_crosses_104 (by decide) ?_
  refine g_dup2 dX12_crosses_106 rfl rfl ?_
  refine s_iald (j := 9) (v := (I 121 9)) dX12_crosses_107 (sk_121 _) (by unfold vp_in; decide) (by decide) rfl ?_
  refine g_aload_n dX12_crosses_108 rfl rfl ?_
  refine rg_X12_0 (r := 121) dX12_crosses_109 lf_X12_7 (sk_120 _) rfl ?_
  refine g_iconst (v := 4) dX12_crosses_112 (by decide) ?_
  refine s_iald (j := 4) (v := (I 121 4)) dX12_crosses_113 (sk_121 _) (by unfold vp_in; decide) (by decide) rfl ?_
  refine g_iadd dX12_crosses_114 ?_
  refine s_iast (j := 9) dX12_crosses_115 (sk_121 _) (by unfold vp_in; decide) (by decide) ?_
  refine g_goto (tgt := 136) dX12_crosses_116 (by decide) ?_
  refine g_iconst (v := 0) dX12_crosses_136 (by decide) ?_
  refine s_istore (L' := [.ref 120, .int x1, .int x2, .int x3, .int x4, .int x5, .int 0]) dX12_crosses_137 (by decide) rfl rfl ?_
  exact e1
set_option maxRecDepth 10000 in
set_option maxHeartbeats 1000000 in
theorem sg_X12_crosses_139 {l : Launch} {d : Nat} {Q : Option Value → mx_H → Prop} {c : Nat} {I : mx_I} (x1 : Int32) (x2 : Int32) (x3 : Int32) (x4 : Int32) (x5 : Int32) (x6 : Int32)
    (q1 : ((I 121 3) ≤ x6) → Q none (sk0 c, I))
    (k2 : (¬ (I 121 3) ≤ x6) → mx_K1 l mX12_ofOne d [.ref 120, .int x6, .int 6] (sk0 c, I) (fun r h' => mx_Go l (mx_rm (d + 1) 0 0) mX12_crosses (mx_Z Q 0 0) 0 0 158 [.ref 120, .int x1, .int x2, .int x3, .int x4, .int x5, .int x6] (r.toList ++ []) h')) :
    mx_Go l (mx_rm (d + 1) 0 0) mX12_crosses (mx_Z Q 0 0) 0 0 139 [.ref 120, .int x1, .int x2, .int x3, .int x4, .int x5, .int x6] [] (sk0 c, I) := by
  refine g_iload dX12_crosses_139 rfl ?_
  refine g_aload_n dX12_crosses_141 rfl rfl ?_
  refine rg_X12_0 (r := 121) dX12_crosses_142 lf_X12_7 (sk_120 _) rfl ?_
  refine g_iconst (v := 3) dX12_crosses_145 (by decide) ?_
  refine s_iald (j := 3) (v := (I 121 3)) dX12_crosses_146 (sk_121 _) (by unfold vp_in; decide) (by decide) rfl ?_
  refine g_icmp_ge (tgt := 196) dX12_crosses_147 (by decide) (fun c1 => ?_) (fun c2 => ?_)
  · skip
    exact g_vret rfl dX12_crosses_196 rfl (Nat.le_refl _) (q1 c1)
  · skip
    refine g_aload_n dX12_crosses_150 rfl rfl ?_
    refine g_iload dX12_crosses_151 rfl ?_
    refine g_bipush (v := 6) dX12_crosses_153 (by decide) ?_
    exact s_callV (M' := mX12_ofOne) (As := [.int x6, .int 6]) (st := []) dX12_crosses_155 lm_X12_80 ovX12_ofOne (h := (sk0 c, I)) (sk_120 _) (show vwCl[12]? = some _ from rfl) rfl (by simp [Value.category]) (by decide) rfl (k2 c2)
set_option maxRecDepth 10000 in
set_option maxHeartbeats 1000000 in
theorem sg_X12_crosses_158 {l : Launch} {d : Nat} {Q : Option Value → mx_H → Prop} {c : Nat} {I : mx_I} (x1 : Int32) (x2 : Int32) (x3 : Int32) (x4 : Int32) (x5 : Int32) (x6 : Int32) (x7 : Int32)
    (e1 : (¬ x7 = 2) → mx_Go l (mx_rm (d + 1) 0 0) mX12_crosses (mx_Z Q 0 0) 0 0 139 [.ref 120, .int x1, .int x2, .int x3, .int x4, .int x5, .int (x6 + 1)] [] (sk0 c, I))
    (k2 : (x7 = 2) → mx_K1 l mX12_ofOne d [.ref 120, .int x6, .int 7] (sk0 c, I) (fun r h' => mx_Go l (mx_rm (d + 1) 0 0) mX12_crosses (mx_Z Q 0 0) 0 0 170 [.ref 120, .int x1, .int x2, .int x3, .int x4, .int x5, .int x6] (r.toList ++ []) h')) :
    mx_Go l (mx_rm (d + 1) 0 0) mX12_crosses (mx_Z Q 0 0) 0 0 158 [.ref 120, .int x1, .int x2, .int x3, .int x4, .int x5, .int x6] [.int x7] (sk0 c, I) := by
  refine g_iconst (v := 2) dX12_crosses_158 (by decide) ?_
  refine g_icmp_ne (tgt := 190) dX12_crosses_159 (by decide) (fun c1 => ?_) (fun c2 => ?_)
  · skip
    refine s_iinc (v := (x6 + 1)) (L' := [.ref 120, .int x1, .int x2, .int x3, .int x4, .int x5, .int (x6 + 1)]) dX12_crosses_190 rfl (by decide) rfl rfl rfl ?_
    refine g_goto (tgt := 139) dX12_crosses_193 (by decide) ?_
    exact e1 c1
  · skip
    refine g_aload_n dX12_crosses_162 rfl rfl ?_
    refine g_iload dX12_crosses_163 rfl ?_
    refine g_bipush (v := 7) dX12_crosses_165 (by decide) ?_
    exact s_callV (M' := mX12_ofOne) (As := [.int x6, .int 7]) (st := []) dX12_crosses_167 lm_X12_80 ovX12_ofOne (h := (sk0 c, I)) (sk_120 _) (show vwCl[12]? = some _ from rfl) rfl (by simp [Value.category]) (by decide) rfl (k2 c2)
set_option maxRecDepth 10000 in
set_option maxHeartbeats 1000000 in
theorem sg_X12_crosses_170 {l : Launch} {d : Nat} {Q : Option Value → mx_H → Prop} {c : Nat} {I : mx_I} (x1 : Int32) (x2 : Int32) (x3 : Int32) (x4 : Int32) (x5 : Int32) (x6 : Int32) (x7 : Int32)
    (e1 : (¬ x7 = x1) → mx_Go l (mx_rm (d + 1) 0 0) mX12_crosses (mx_Z Q 0 0) 0 0 139 [.ref 120, .int x1, .int x2, .int x3, .int x4, .int x5, .int (x6 + 1)] [] (sk0 c, I))
    (k2 : (x7 = x1) → mx_K1 l mX12_mayCross d [.ref 120, .int x6] (sk0 c, I) (fun r h' => mx_Go l (mx_rm (d + 1) 0 0) mX12_crosses (mx_Z Q 0 0) 0 0 180 [.ref 120, .int x1, .int x2, .int x3, .int x4, .int x5, .int x6] (r.toList ++ []) h')) :
    mx_Go l (mx_rm (d + 1) 0 0) mX12_crosses (mx_Z Q 0 0) 0 0 170 [.ref 120, .int x1, .int x2, .int x3, .int x4, .int x5, .int x6] [.int x7] (sk0 c, I) := by
  refine g_iload_n dX12_crosses_170 rfl rfl ?_
  refine g_icmp_ne (tgt := 190) dX12_crosses_171 (by decide) (fun c1 => ?_) (fun c2 => ?_)
  · skip
    refine s_iinc (v := (x6 + 1)) (L' := [.ref 120, .int x1, .int x2, .int x3, .int x4, .int x5, .int (x6 + 1)]) dX12_crosses_190 rfl (by decide) rfl rfl rfl ?_
    refine g_goto (tgt := 139) dX12_crosses_193 (by decide) ?_
    exact e1 c1
  · skip
    refine g_aload_n dX12_crosses_174 rfl rfl ?_
    refine g_iload dX12_crosses_175 rfl ?_
    exact s_callV (M' := mX12_mayCross) (As := [.int x6]) (st := []) dX12_crosses_177 lm_X12_264 ovX12_mayCross (h := (sk0 c, I)) (sk_120 _) (show vwCl[12]? = some _ from rfl) rfl (by simp [Value.category]) (by decide) rfl (k2 c2)
set_option maxRecDepth 10000 in
set_option maxHeartbeats 1000000 in
theorem sg_X12_crosses_180 {l : Launch} {d : Nat} {Q : Option Value → mx_H → Prop} {c : Nat} {I : mx_I} (x1 : Int32) (x2 : Int32) (x3 : Int32) (x4 : Int32) (x5 : Int32) (x6 : Int32) (x7 : Int32)
    (e1 : (x7 = 0) → mx_Go l (mx_rm (d + 1) 0 0) mX12_crosses (mx_Z Q 0 0) 0 0 139 [.ref 120, .int x1, .int x2, .int x3, .int x4, .int x5, .int (x6 + 1)] [] (sk0 c, I))
    (k2 : (¬ x7 = 0) → mx_K1 l mX12_crosses d [.ref 120, .int x6, .int x2] (sk0 c, I) (fun r h' => mx_Go l (mx_rm (d + 1) 0 0) mX12_crosses (mx_Z Q 0 0) 0 0 190 [.ref 120, .int x1, .int x2, .int x3, .int x4, .int x5, .int x6] (r.toList ++ []) h')) :
    mx_Go l (mx_rm (d + 1) 0 0) mX12_crosses (mx_Z Q 0 0) 0 0 180 [.ref 120, .int x1, .int x2, .int x3, .int x4, .int x5, .int x6] [.int x7] (sk0 c, I) := by
  refine g_if_eq (tgt := 190) dX12_crosses_180 (by decide) (fun c1 => ?_) (fun c2 => ?_)
  · skip
    refine s_iinc (v := (x6 + 1)) (L' := [.ref 120, .int x1, .int x2, .int x3, .int x4, .int x5, .int (x6 + 1)]) dX12_crosses_190 rfl (by decide) rfl rfl rfl ?_
    refine g_goto (tgt := 139) dX12_crosses_193 (by decide) ?_
    exact e1 c1
  · skip
    refine g_aload_n dX12_crosses_183 rfl rfl ?_
    refine g_iload dX12_crosses_184 rfl ?_
    refine g_iload_n dX12_crosses_186 rfl rfl ?_
    exact s_callV (M' := mX12_crosses) (As := [.int x6, .int x2]) (st := []) dX12_crosses_187 lm_X12_267 ovX12_crosses (h := (sk0 c, I)) (sk_120 _) (show vwCl[12]? = some _ from rfl) rfl (by simp [Value.category]) (by decide) rfl (k2 c2)
set_option maxRecDepth 10000 in
set_option maxHeartbeats 1000000 in
theorem sg_X12_crosses_190 {l : Launch} {d : Nat} {Q : Option Value → mx_H → Prop} {c : Nat} {I : mx_I} (x1 : Int32) (x2 : Int32) (x3 : Int32) (x4 : Int32) (x5 : Int32) (x6 : Int32)
    (e1 : mx_Go l (mx_rm (d + 1) 0 0) mX12_crosses (mx_Z Q 0 0) 0 0 139 [.ref 120, .int x1, .int x2, .int x3, .int x4, .int x5, .int (x6 + 1)] [] (sk0 c, I)) :
    mx_Go l (mx_rm (d + 1) 0 0) mX12_crosses (mx_Z Q 0 0) 0 0 190 [.ref 120, .int x1, .int x2, .int x3, .int x4, .int x5, .int x6] [] (sk0 c, I) := by
  refine s_iinc (v := (x6 + 1)) (L' := [.ref 120, .int x1, .int x2, .int x3, .int x4, .int x5, .int (x6 + 1)]) dX12_crosses_190 rfl (by decide) rfl rfl rfl ?_
  refine g_goto (tgt := 139) dX12_crosses_193 (by decide) ?_
  exact e1
set_option maxRecDepth 10000 in
set_option maxHeartbeats 1000000 in
theorem sn_X12_mayCross {l : Launch} {d : Nat} {Q : Option Value → mx_H → Prop} {c : Nat} {I : mx_I} (a1 : Int32)
    (k1 : mx_K1 l mX12_ofOne d [.ref 120, .int a1, .int 8] (sk0 c, I) (fun r h' => mx_Go l (mx_rm (d + 1) 0 0) mX12_mayCross (mx_Z Q 0 0) 0 0 7 [.ref 120, .int a1] (r.toList ++ []) h')) :
    mx_Spec l mX12_mayCross (d + 1) 0 0 [.ref 120, .int a1] (sk0 c, I) Q := by
  refine mx_enter rfl (by simp [Value.category]) (Nat.le_of_ble_eq_true rfl) ?_
  change mx_Go l (mx_rm (d + 1) 0 0) mX12_mayCross (mx_Z Q 0 0) 0 0 0 [.ref 120, .int a1] [] (sk0 c, I)
  refine g_aload_n dX12_mayCross_0 rfl rfl ?_
  refine g_iload_n dX12_mayCross_1 rfl rfl ?_
  refine g_bipush (v := 8) dX12_mayCross_2 (by decide) ?_
  exact s_callV (M' := mX12_ofOne) (As := [.int a1, .int 8]) (st := []) dX12_mayCross_4 lm_X12_80 ovX12_ofOne (h := (sk0 c, I)) (sk_120 _) (show vwCl[12]? = some _ from rfl) rfl (by simp [Value.category]) (by decide) rfl (k1)
set_option maxRecDepth 10000 in
set_option maxHeartbeats 1000000 in
theorem sg_X12_mayCross_7 {l : Launch} {d : Nat} {Q : Option Value → mx_H → Prop} {c : Nat} {I : mx_I} (x1 : Int32) (x2 : Int32)
    (q1 : (¬ x2 = (-1)) → Q (some (.int 0)) (sk0 c, I))
    (q2 : (x2 = (-1)) → (¬ (((I 120 25) >>> (x1 &&& 31)) &&& 1) = 0) → Q (some (.int 0)) (sk0 c, I))
    (q3 : (x2 = (-1)) → ((((I 120 25) >>> (x1 &&& 31)) &&& 1) = 0) → Q (some (.int 1)) (sk0 c, I)) :
    mx_Go l (mx_rm (d + 1) 0 0) mX12_mayCross (mx_Z Q 0 0) 0 0 7 [.ref 120, .int x1] [.int x2] (sk0 c, I) := by
  refine g_iconst (v := (-1)) dX12_mayCross_7 (by decide) ?_
  refine g_icmp_ne (tgt := 26) dX12_mayCross_8 (by decide) (fun c1 => ?_) (fun c2 => ?_)
  · skip
    refine g_iconst (v := 0) dX12_mayCross_26 (by decide) ?_
    exact g_zret (ty := .boolean) rfl rfl dX12_mayCross_27 rfl (Nat.le_refl _) (q1 c1)
  · skip
    refine g_aload_n dX12_mayCross_11 rfl rfl ?_
    refine rg_X12_25 (v := (I 120 25)) dX12_mayCross_12 lf_X12_270 (sk_120 _) rfl ?_
    refine g_iload_n dX12_mayCross_15 rfl rfl ?_
    refine g_ishr dX12_mayCross_16 ?_
    refine g_iconst (v := 1) dX12_mayCross_17 (by decide) ?_
    refine g_iand dX12_mayCross_18 ?_
    refine g_if_ne (tgt := 26) dX12_mayCross_19 (by decide) (fun c3 => ?_) (fun c4 => ?_)
    · skip
      refine g_iconst (v := 0) dX12_mayCross_26 (by decide) ?_
      exact g_zret (ty := .boolean) rfl rfl dX12_mayCross_27 rfl (Nat.le_refl _) (q2 c2 c3)
    · skip
      refine g_iconst (v := 1) dX12_mayCross_22 (by decide) ?_
      refine g_goto (tgt := 27) dX12_mayCross_23 (by decide) ?_
      exact g_zret (ty := .boolean) rfl rfl dX12_mayCross_27 rfl (Nat.le_refl _) (q3 c2 c4)
set_option maxRecDepth 10000 in
set_option maxHeartbeats 1000000 in
theorem sn_X12_isBare {l : Launch} {d : Nat} {Q : Option Value → mx_H → Prop} {c : Nat} {I : mx_I} (a1 : Int32)
    (e1 : mx_Go l (mx_rm (d + 1) 0 0) mX12_isBare (mx_Z Q 0 0) 0 0 2 [.ref 120, .int a1, .int 0] [] (sk0 c, I)) :
    mx_Spec l mX12_isBare (d + 1) 0 0 [.ref 120, .int a1] (sk0 c, I) Q := by
  refine mx_enter rfl (by simp [Value.category]) (Nat.le_of_ble_eq_true rfl) ?_
  change mx_Go l (mx_rm (d + 1) 0 0) mX12_isBare (mx_Z Q 0 0) 0 0 0 [.ref 120, .int a1, .retAddr 0] [] (sk0 c, I)
  refine g_iconst (v := 0) dX12_isBare_0 (by decide) ?_
  refine s_istore_n (L' := [.ref 120, .int a1, .int 0]) dX12_isBare_1 rfl (by decide) rfl rfl ?_
  exact e1
set_option maxRecDepth 10000 in
set_option maxHeartbeats 1000000 in
theorem sg_X12_isBare_2 {l : Launch} {d : Nat} {Q : Option Value → mx_H → Prop} {c : Nat} {I : mx_I} (x1 : Int32) (x2 : Int32)
    (q1 : ((I 121 2) ≤ x2) → Q (some (.int 1)) (sk0 c, I))
    (k2 : (¬ (I 121 2) ≤ x2) → mx_K1 l mX12_isThere d [.ref 120, .int x2, .int x1] (sk0 c, I) (fun r h' => mx_Go l (mx_rm (d + 1) 0 0) mX12_isBare (mx_Z Q 0 0) 0 0 18 [.ref 120, .int x1, .int x2] (r.toList ++ []) h')) :
    mx_Go l (mx_rm (d + 1) 0 0) mX12_isBare (mx_Z Q 0 0) 0 0 2 [.ref 120, .int x1, .int x2] [] (sk0 c, I) := by
  refine g_iload_n dX12_isBare_2 rfl rfl ?_
  refine g_aload_n dX12_isBare_3 rfl rfl ?_
  refine rg_X12_0 (r := 121) dX12_isBare_4 lf_X12_7 (sk_120 _) rfl ?_
  refine g_iconst (v := 2) dX12_isBare_7 (by decide) ?_
  refine s_iald (j := 2) (v := (I 121 2)) dX12_isBare_8 (sk_121 _) (by unfold vp_in; decide) (by decide) rfl ?_
  refine g_icmp_ge (tgt := 29) dX12_isBare_9 (by decide) (fun c1 => ?_) (fun c2 => ?_)
  · skip
    refine g_iconst (v := 1) dX12_isBare_29 (by decide) ?_
    exact g_zret (ty := .boolean) rfl rfl dX12_isBare_30 rfl (Nat.le_refl _) (q1 c1)
  · skip
    refine g_aload_n dX12_isBare_12 rfl rfl ?_
    refine g_iload_n dX12_isBare_13 rfl rfl ?_
    refine g_iload_n dX12_isBare_14 rfl rfl ?_
    exact s_callV (M' := mX12_isThere) (As := [.int x2, .int x1]) (st := []) dX12_isBare_15 lm_X12_226 ovX12_isThere (h := (sk0 c, I)) (sk_120 _) (show vwCl[12]? = some _ from rfl) rfl (by simp [Value.category]) (by decide) rfl (k2 c2)
set_option maxRecDepth 10000 in
set_option maxHeartbeats 1000000 in
theorem sg_X12_isBare_18 {l : Launch} {d : Nat} {Q : Option Value → mx_H → Prop} {c : Nat} {I : mx_I} (x1 : Int32) (x2 : Int32) (x3 : Int32)
    (e1 : (x3 = 0) → mx_Go l (mx_rm (d + 1) 0 0) mX12_isBare (mx_Z Q 0 0) 0 0 2 [.ref 120, .int x1, .int (x2 + 1)] [] (sk0 c, I))
    (q2 : (¬ x3 = 0) → Q (some (.int 0)) (sk0 c, I)) :
    mx_Go l (mx_rm (d + 1) 0 0) mX12_isBare (mx_Z Q 0 0) 0 0 18 [.ref 120, .int x1, .int x2] [.int x3] (sk0 c, I) := by
  refine g_if_eq (tgt := 23) dX12_isBare_18 (by decide) (fun c1 => ?_) (fun c2 => ?_)
  · skip
    refine s_iinc (v := (x2 + 1)) (L' := [.ref 120, .int x1, .int (x2 + 1)]) dX12_isBare_23 rfl (by decide) rfl rfl rfl ?_
    refine g_goto (tgt := 2) dX12_isBare_26 (by decide) ?_
    exact e1 c1
  · skip
    refine g_iconst (v := 0) dX12_isBare_21 (by decide) ?_
    exact g_zret (ty := .boolean) rfl rfl dX12_isBare_22 rfl (Nat.le_refl _) (q2 c2)
set_option maxRecDepth 10000 in
set_option maxHeartbeats 1000000 in
theorem sn_X12_goesNow {l : Launch} {d : Nat} {Q : Option Value → mx_H → Prop} {c : Nat} {I : mx_I} (a1 : Int32) (a2 : Int32)
    (k1 : mx_K1 l mX12_mayCross d [.ref 120, .int a1] (sk0 c, I) (fun r h' => mx_Go l (mx_rm (d + 1) 0 0) mX12_goesNow (mx_Z Q 0 0) 0 0 5 [.ref 120, .int a1, .int a2] (r.toList ++ []) h')) :
    mx_Spec l mX12_goesNow (d + 1) 0 0 [.ref 120, .int a1, .int a2] (sk0 c, I) Q := by
  refine mx_enter rfl (by simp [Value.category]) (Nat.le_of_ble_eq_true rfl) ?_
  change mx_Go l (mx_rm (d + 1) 0 0) mX12_goesNow (mx_Z Q 0 0) 0 0 0 [.ref 120, .int a1, .int a2] [] (sk0 c, I)
  refine g_aload_n dX12_goesNow_0 rfl rfl ?_
  refine g_iload_n dX12_goesNow_1 rfl rfl ?_
  exact s_callV (M' := mX12_mayCross) (As := [.int a1]) (st := []) dX12_goesNow_2 lm_X12_264 ovX12_mayCross (h := (sk0 c, I)) (sk_120 _) (show vwCl[12]? = some _ from rfl) rfl (by simp [Value.category]) (by decide) rfl (k1)
set_option maxRecDepth 10000 in
set_option maxHeartbeats 1000000 in
theorem sg_X12_goesNow_5 {l : Launch} {d : Nat} {Q : Option Value → mx_H → Prop} {c : Nat} {I : mx_I} (x1 : Int32) (x2 : Int32) (x3 : Int32)
    (q1 : (x3 = 0) → Q (some (.int 0)) (sk0 c, I))
    (k2 : (¬ x3 = 0) → mx_K1 l mX12_ofOne d [.ref 120, .int x1, .int 0] (sk0 c, I) (fun r h' => mx_Go l (mx_rm (d + 1) 0 0) mX12_goesNow (mx_Z Q 0 0) 0 0 15 [.ref 120, .int x1, .int x2] (r.toList ++ [.int x2]) h')) :
    mx_Go l (mx_rm (d + 1) 0 0) mX12_goesNow (mx_Z Q 0 0) 0 0 5 [.ref 120, .int x1, .int x2] [.int x3] (sk0 c, I) := by
  refine g_if_eq (tgt := 18) dX12_goesNow_5 (by decide) (fun c1 => ?_) (fun c2 => ?_)
  · skip
    refine g_iconst (v := 0) dX12_goesNow_18 (by decide) ?_
    exact g_zret (ty := .boolean) rfl rfl dX12_goesNow_19 rfl (Nat.le_refl _) (q1 c1)
  · skip
    refine g_iload_n dX12_goesNow_8 rfl rfl ?_
    refine g_aload_n dX12_goesNow_9 rfl rfl ?_
    refine g_iload_n dX12_goesNow_10 rfl rfl ?_
    refine g_iconst (v := 0) dX12_goesNow_11 (by decide) ?_
    exact s_callV (M' := mX12_ofOne) (As := [.int x1, .int 0]) (st := [.int x2]) dX12_goesNow_12 lm_X12_80 ovX12_ofOne (h := (sk0 c, I)) (sk_120 _) (show vwCl[12]? = some _ from rfl) rfl (by simp [Value.category]) (by decide) rfl (k2 c2)
set_option maxRecDepth 10000 in
set_option maxHeartbeats 1000000 in
theorem sg_X12_goesNow_15 {l : Launch} {d : Nat} {Q : Option Value → mx_H → Prop} {c : Nat} {I : mx_I} (x1 : Int32) (x2 : Int32) (x3 : Int32) (x4 : Int32)
    (k1 : (x3 ≤ x4) → mx_K1 l mX12_ofOne d [.ref 120, .int x1, .int 6] (sk0 c, I) (fun r h' => mx_Go l (mx_rm (d + 1) 0 0) mX12_goesNow (mx_Z Q 0 0) 0 0 27 [.ref 120, .int x1, .int x2] (r.toList ++ []) h'))
    (q2 : (¬ x3 ≤ x4) → Q (some (.int 0)) (sk0 c, I)) :
    mx_Go l (mx_rm (d + 1) 0 0) mX12_goesNow (mx_Z Q 0 0) 0 0 15 [.ref 120, .int x1, .int x2] [.int x3, .int x4] (sk0 c, I) := by
  refine g_icmp_ge (tgt := 20) dX12_goesNow_15 (by decide) (fun c1 => ?_) (fun c2 => ?_)
  · skip
    refine g_aload_n dX12_goesNow_20 rfl rfl ?_
    refine g_iload_n dX12_goesNow_21 rfl rfl ?_
    refine g_bipush (v := 6) dX12_goesNow_22 (by decide) ?_
    exact s_callV (M' := mX12_ofOne) (As := [.int x1, .int 6]) (st := []) dX12_goesNow_24 lm_X12_80 ovX12_ofOne (h := (sk0 c, I)) (sk_120 _) (show vwCl[12]? = some _ from rfl) rfl (by simp [Value.category]) (by decide) rfl (k1 c1)
  · skip
    refine g_iconst (v := 0) dX12_goesNow_18 (by decide) ?_
    exact g_zret (ty := .boolean) rfl rfl dX12_goesNow_19 rfl (Nat.le_refl _) (q2 c2)
set_option maxRecDepth 10000 in
set_option maxHeartbeats 1000000 in
theorem sg_X12_goesNow_27 {l : Launch} {d : Nat} {Q : Option Value → mx_H → Prop} {c : Nat} {I : mx_I} (x1 : Int32) (x2 : Int32) (x3 : Int32)
    (k1 : (¬ x3 = 0) → mx_K1 l mX12_ofOne d [.ref 120, .int x1, .int 6] (sk0 c, I) (fun r h' => mx_Go l (mx_rm (d + 1) 0 0) mX12_goesNow (mx_Z Q 0 0) 0 0 53 [.ref 120, .int x1, .int x2] (r.toList ++ []) h'))
    (k2 : (x3 = 0) → mx_K1 l mX12_ofOne d [.ref 120, .int x1, .int 0] (sk0 c, I) (fun r h' => mx_Go l (mx_rm (d + 1) 0 0) mX12_goesNow (mx_Z Q 0 0) 0 0 37 [.ref 120, .int x1, .int x2] (r.toList ++ [.int x2]) h')) :
    mx_Go l (mx_rm (d + 1) 0 0) mX12_goesNow (mx_Z Q 0 0) 0 0 27 [.ref 120, .int x1, .int x2] [.int x3] (sk0 c, I) := by
  refine g_if_ne (tgt := 46) dX12_goesNow_27 (by decide) (fun c1 => ?_) (fun c2 => ?_)
  · skip
    refine g_aload_n dX12_goesNow_46 rfl rfl ?_
    refine g_iload_n dX12_goesNow_47 rfl rfl ?_
    refine g_bipush (v := 6) dX12_goesNow_48 (by decide) ?_
    exact s_callV (M' := mX12_ofOne) (As := [.int x1, .int 6]) (st := []) dX12_goesNow_50 lm_X12_80 ovX12_ofOne (h := (sk0 c, I)) (sk_120 _) (show vwCl[12]? = some _ from rfl) rfl (by simp [Value.category]) (by decide) rfl (k1 c1)
  · skip
    refine g_iload_n dX12_goesNow_30 rfl rfl ?_
    refine g_aload_n dX12_goesNow_31 rfl rfl ?_
    refine g_iload_n dX12_goesNow_32 rfl rfl ?_
    refine g_iconst (v := 0) dX12_goesNow_33 (by decide) ?_
    exact s_callV (M' := mX12_ofOne) (As := [.int x1, .int 0]) (st := [.int x2]) dX12_goesNow_34 lm_X12_80 ovX12_ofOne (h := (sk0 c, I)) (sk_120 _) (show vwCl[12]? = some _ from rfl) rfl (by simp [Value.category]) (by decide) rfl (k2 c2)
set_option maxRecDepth 10000 in
set_option maxHeartbeats 1000000 in
theorem sg_X12_goesNow_53 {l : Launch} {d : Nat} {Q : Option Value → mx_H → Prop} {c : Nat} {I : mx_I} (x1 : Int32) (x2 : Int32) (x3 : Int32)
    (q1 : (¬ x3 = 1) → Q (some (.int 0)) (sk0 c, I))
    (k2 : (x3 = 1) → mx_K1 l mX12_ofOne d [.ref 120, .int x1, .int 0] (sk0 c, I) (fun r h' => mx_Go l (mx_rm (d + 1) 0 0) mX12_goesNow (mx_Z Q 0 0) 0 0 64 [.ref 120, .int x1, .int x2] (r.toList ++ [.int x2]) h')) :
    mx_Go l (mx_rm (d + 1) 0 0) mX12_goesNow (mx_Z Q 0 0) 0 0 53 [.ref 120, .int x1, .int x2] [.int x3] (sk0 c, I) := by
  refine g_iconst (v := 1) dX12_goesNow_53 (by decide) ?_
  refine g_icmp_ne (tgt := 99) dX12_goesNow_54 (by decide) (fun c1 => ?_) (fun c2 => ?_)
  · skip
    refine g_iconst (v := 0) dX12_goesNow_99 (by decide) ?_
    exact g_zret (ty := .boolean) rfl rfl dX12_goesNow_100 rfl (Nat.le_refl _) (q1 c1)
  · skip
    refine g_iload_n dX12_goesNow_57 rfl rfl ?_
    refine g_aload_n dX12_goesNow_58 rfl rfl ?_
    refine g_iload_n dX12_goesNow_59 rfl rfl ?_
    refine g_iconst (v := 0) dX12_goesNow_60 (by decide) ?_
    exact s_callV (M' := mX12_ofOne) (As := [.int x1, .int 0]) (st := [.int x2]) dX12_goesNow_61 lm_X12_80 ovX12_ofOne (h := (sk0 c, I)) (sk_120 _) (show vwCl[12]? = some _ from rfl) rfl (by simp [Value.category]) (by decide) rfl (k2 c2)
set_option maxRecDepth 10000 in
set_option maxHeartbeats 1000000 in
theorem sg_X12_goesNow_37 {l : Launch} {d : Nat} {Q : Option Value → mx_H → Prop} {c : Nat} {I : mx_I} (x1 : Int32) (x2 : Int32) (x3 : Int32) (x4 : Int32)
    (q1 : (¬ x4 = x3) → Q (some (.int 0)) (sk0 c, I))
    (q2 : (x4 = x3) → Q (some (.int 1)) (sk0 c, I)) :
    mx_Go l (mx_rm (d + 1) 0 0) mX12_goesNow (mx_Z Q 0 0) 0 0 37 [.ref 120, .int x1, .int x2] [.int x3, .int x4] (sk0 c, I) := by
  refine g_icmp_ne (tgt := 44) dX12_goesNow_37 (by decide) (fun c1 => ?_) (fun c2 => ?_)
  · skip
    refine g_iconst (v := 0) dX12_goesNow_44 (by decide) ?_
    exact g_zret (ty := .boolean) rfl rfl dX12_goesNow_45 rfl (Nat.le_refl _) (q1 c1)
  · skip
    refine g_iconst (v := 1) dX12_goesNow_40 (by decide) ?_
    refine g_goto (tgt := 45) dX12_goesNow_41 (by decide) ?_
    exact g_zret (ty := .boolean) rfl rfl dX12_goesNow_45 rfl (Nat.le_refl _) (q2 c2)
set_option maxRecDepth 10000 in
set_option maxHeartbeats 1000000 in
theorem sg_X12_goesNow_64 {l : Launch} {d : Nat} {Q : Option Value → mx_H → Prop} {c : Nat} {I : mx_I} (x1 : Int32) (x2 : Int32) (x3 : Int32) (x4 : Int32)
    (k1 : mx_K1 l mX12_ofOne d [.ref 120, .int x1, .int 7] (sk0 c, I) (fun r h' => mx_Go l (mx_rm (d + 1) 0 0) mX12_goesNow (mx_Z Q 0 0) 0 0 71 [.ref 120, .int x1, .int x2] (r.toList ++ [.int x3, .int x4]) h')) :
    mx_Go l (mx_rm (d + 1) 0 0) mX12_goesNow (mx_Z Q 0 0) 0 0 64 [.ref 120, .int x1, .int x2] [.int x3, .int x4] (sk0 c, I) := by
  refine g_aload_n dX12_goesNow_64 rfl rfl ?_
  refine g_iload_n dX12_goesNow_65 rfl rfl ?_
  refine g_bipush (v := 7) dX12_goesNow_66 (by decide) ?_
  exact s_callV (M' := mX12_ofOne) (As := [.int x1, .int 7]) (st := [.int x3, .int x4]) dX12_goesNow_68 lm_X12_80 ovX12_ofOne (h := (sk0 c, I)) (sk_120 _) (show vwCl[12]? = some _ from rfl) rfl (by simp [Value.category]) (by decide) rfl (k1)
set_option maxRecDepth 10000 in
set_option maxHeartbeats 1000000 in
theorem sg_X12_goesNow_71 {l : Launch} {d : Nat} {Q : Option Value → mx_H → Prop} {c : Nat} {I : mx_I} (x1 : Int32) (x2 : Int32) (x3 : Int32) (x4 : Int32) (x5 : Int32)
    (q1 : ((x4 + x3) ≤ x5) → Q (some (.int 1)) (sk0 c, I))
    (k2 : (¬ (x4 + x3) ≤ x5) → mx_K1 l mX12_ofOne d [.ref 120, .int x1, .int 1] (sk0 c, I) (fun r h' => mx_Go l (mx_rm (d + 1) 0 0) mX12_goesNow (mx_Z Q 0 0) 0 0 82 [.ref 120, .int x1, .int x2] (r.toList ++ [.ref 120]) h')) :
    mx_Go l (mx_rm (d + 1) 0 0) mX12_goesNow (mx_Z Q 0 0) 0 0 71 [.ref 120, .int x1, .int x2] [.int x3, .int x4, .int x5] (sk0 c, I) := by
  refine g_iadd dX12_goesNow_71 ?_
  refine g_icmp_ge (tgt := 95) dX12_goesNow_72 (by decide) (fun c1 => ?_) (fun c2 => ?_)
  · skip
    refine g_iconst (v := 1) dX12_goesNow_95 (by decide) ?_
    refine g_goto (tgt := 100) dX12_goesNow_96 (by decide) ?_
    exact g_zret (ty := .boolean) rfl rfl dX12_goesNow_100 rfl (Nat.le_refl _) (q1 c1)
  · skip
    refine g_aload_n dX12_goesNow_75 rfl rfl ?_
    refine g_aload_n dX12_goesNow_76 rfl rfl ?_
    refine g_iload_n dX12_goesNow_77 rfl rfl ?_
    refine g_iconst (v := 1) dX12_goesNow_78 (by decide) ?_
    exact s_callV (M' := mX12_ofOne) (As := [.int x1, .int 1]) (st := [.ref 120]) dX12_goesNow_79 lm_X12_80 ovX12_ofOne (h := (sk0 c, I)) (sk_120 _) (show vwCl[12]? = some _ from rfl) rfl (by simp [Value.category]) (by decide) rfl (k2 c2)
set_option maxRecDepth 10000 in
set_option maxHeartbeats 1000000 in
theorem sg_X12_goesNow_82 {l : Launch} {d : Nat} {Q : Option Value → mx_H → Prop} {c : Nat} {I : mx_I} (x1 : Int32) (x2 : Int32) (x3 : Int32)
    (k1 : mx_K1 l mX12_ofOne d [.ref 120, .int x1, .int 2] (sk0 c, I) (fun r h' => mx_Go l (mx_rm (d + 1) 0 0) mX12_goesNow (mx_Z Q 0 0) 0 0 88 [.ref 120, .int x1, .int x2] (r.toList ++ [.int x3, .ref 120]) h')) :
    mx_Go l (mx_rm (d + 1) 0 0) mX12_goesNow (mx_Z Q 0 0) 0 0 82 [.ref 120, .int x1, .int x2] [.int x3, .ref 120] (sk0 c, I) := by
  refine g_aload_n dX12_goesNow_82 rfl rfl ?_
  refine g_iload_n dX12_goesNow_83 rfl rfl ?_
  refine g_iconst (v := 2) dX12_goesNow_84 (by decide) ?_
  exact s_callV (M' := mX12_ofOne) (As := [.int x1, .int 2]) (st := [.int x3, .ref 120]) dX12_goesNow_85 lm_X12_80 ovX12_ofOne (h := (sk0 c, I)) (sk_120 _) (show vwCl[12]? = some _ from rfl) rfl (by simp [Value.category]) (by decide) rfl (k1)
set_option maxRecDepth 10000 in
set_option maxHeartbeats 1000000 in
theorem sg_X12_goesNow_88 {l : Launch} {d : Nat} {Q : Option Value → mx_H → Prop} {c : Nat} {I : mx_I} (x1 : Int32) (x2 : Int32) (x3 : Int32) (x4 : Int32)
    (k1 : mx_K1 l mX12_isBare d [.ref 120, .int (x4 + x3)] (sk0 c, I) (fun r h' => mx_Go l (mx_rm (d + 1) 0 0) mX12_goesNow (mx_Z Q 0 0) 0 0 92 [.ref 120, .int x1, .int x2] (r.toList ++ []) h')) :
    mx_Go l (mx_rm (d + 1) 0 0) mX12_goesNow (mx_Z Q 0 0) 0 0 88 [.ref 120, .int x1, .int x2] [.int x3, .int x4, .ref 120] (sk0 c, I) := by
  refine g_iadd dX12_goesNow_88 ?_
  exact s_callV (M' := mX12_isBare) (As := [.int (x4 + x3)]) (st := []) dX12_goesNow_89 lm_X12_273 ovX12_isBare (h := (sk0 c, I)) (sk_120 _) (show vwCl[12]? = some _ from rfl) rfl (by simp [Value.category]) (by decide) rfl (k1)
set_option maxRecDepth 10000 in
set_option maxHeartbeats 1000000 in
theorem sg_X12_goesNow_92 {l : Launch} {d : Nat} {Q : Option Value → mx_H → Prop} {c : Nat} {I : mx_I} (x1 : Int32) (x2 : Int32) (x3 : Int32)
    (q1 : (x3 = 0) → Q (some (.int 0)) (sk0 c, I))
    (q2 : (¬ x3 = 0) → Q (some (.int 1)) (sk0 c, I)) :
    mx_Go l (mx_rm (d + 1) 0 0) mX12_goesNow (mx_Z Q 0 0) 0 0 92 [.ref 120, .int x1, .int x2] [.int x3] (sk0 c, I) := by
  refine g_if_eq (tgt := 99) dX12_goesNow_92 (by decide) (fun c1 => ?_) (fun c2 => ?_)
  · skip
    refine g_iconst (v := 0) dX12_goesNow_99 (by decide) ?_
    exact g_zret (ty := .boolean) rfl rfl dX12_goesNow_100 rfl (Nat.le_refl _) (q1 c1)
  · skip
    refine g_iconst (v := 1) dX12_goesNow_95 (by decide) ?_
    refine g_goto (tgt := 100) dX12_goesNow_96 (by decide) ?_
    exact g_zret (ty := .boolean) rfl rfl dX12_goesNow_100 rfl (Nat.le_refl _) (q2 c2)
set_option maxRecDepth 10000 in
set_option maxHeartbeats 1000000 in
theorem sn_X12_anHour {l : Launch} {d : Nat} {Q : Option Value → mx_H → Prop} {c : Nat} {I : mx_I}
    (e1 : mx_Go l (mx_rm (d + 1) 0 0) mX12_anHour (mx_Z Q 0 0) 0 0 9 [.ref 120, .int (I 121 1), .int 0, .retAddr 0] [] (sk0 c, I)) :
    mx_Spec l mX12_anHour (d + 1) 0 0 [.ref 120] (sk0 c, I) Q := by
  refine mx_enter rfl (by simp [Value.category]) (Nat.le_of_ble_eq_true rfl) ?_
  change mx_Go l (mx_rm (d + 1) 0 0) mX12_anHour (mx_Z Q 0 0) 0 0 0 [.ref 120, .retAddr 0, .retAddr 0, .retAddr 0] [] (sk0 c, I)
  refine g_aload_n dX12_anHour_0 rfl rfl ?_
  refine rg_X12_0 (r := 121) dX12_anHour_1 lf_X12_7 (sk_120 _) rfl ?_
  refine g_iconst (v := 1) dX12_anHour_4 (by decide) ?_
  refine s_iald (j := 1) (v := (I 121 1)) dX12_anHour_5 (sk_121 _) (by unfold vp_in; decide) (by decide) rfl ?_
  refine s_istore_n (L' := [.ref 120, .int (I 121 1), .retAddr 0, .retAddr 0]) dX12_anHour_6 rfl (by decide) rfl rfl ?_
  refine g_iconst (v := 0) dX12_anHour_7 (by decide) ?_
  refine s_istore_n (L' := [.ref 120, .int (I 121 1), .int 0, .retAddr 0]) dX12_anHour_8 rfl (by decide) rfl rfl ?_
  exact e1
set_option maxRecDepth 10000 in
set_option maxHeartbeats 1000000 in
theorem sg_X12_anHour_9 {l : Launch} {d : Nat} {Q : Option Value → mx_H → Prop} {c : Nat} {I : mx_I} (x1 : Int32) (x2 : Int32)
    (e1 : ((I 121 2) ≤ x2) → mx_Go l (mx_rm (d + 1) 0 0) mX12_anHour (mx_Z Q 0 0) 0 0 59 [.ref 120, .int x1, .int 0, .retAddr 0] [] (sk0 c, I))
    (k2 : (¬ (I 121 2) ≤ x2) → mx_K1 l mX12_ofLoad d [.ref 120, .int x2, .int 2] (sk0 c, I) (fun r h' => mx_Go l (mx_rm (d + 1) 0 0) mX12_anHour (mx_Z Q 0 0) 0 0 25 [.ref 120, .int x1, .int x2, .retAddr 0] (r.toList ++ []) h')) :
    mx_Go l (mx_rm (d + 1) 0 0) mX12_anHour (mx_Z Q 0 0) 0 0 9 [.ref 120, .int x1, .int x2, .retAddr 0] [] (sk0 c, I) := by
  refine g_iload_n dX12_anHour_9 rfl rfl ?_
  refine g_aload_n dX12_anHour_10 rfl rfl ?_
  refine rg_X12_0 (r := 121) dX12_anHour_11 lf_X12_7 (sk_120 _) rfl ?_
  refine g_iconst (v := 2) dX12_anHour_14 (by decide) ?_
  refine s_iald (j := 2) (v := (I 121 2)) dX12_anHour_15 (sk_121 _) (by unfold vp_in; decide) (by decide) rfl ?_
  refine g_icmp_ge (tgt := 57) dX12_anHour_16 (by decide) (fun c1 => ?_) (fun c2 => ?_)
  · skip
    refine g_iconst (v := 0) dX12_anHour_57 (by decide) ?_
    refine s_istore_n (L' := [.ref 120, .int x1, .int 0, .retAddr 0]) dX12_anHour_58 rfl (by decide) rfl rfl ?_
    exact e1 c1
  · skip
    refine g_aload_n dX12_anHour_19 rfl rfl ?_
    refine g_iload_n dX12_anHour_20 rfl rfl ?_
    refine g_iconst (v := 2) dX12_anHour_21 (by decide) ?_
    exact s_callV (M' := mX12_ofLoad) (As := [.int x2, .int 2]) (st := []) dX12_anHour_22 lm_X12_220 ovX12_ofLoad (h := (sk0 c, I)) (sk_120 _) (show vwCl[12]? = some _ from rfl) rfl (by simp [Value.category]) (by decide) rfl (k2 c2)
set_option maxRecDepth 10000 in
set_option maxHeartbeats 1000000 in
theorem sg_X12_anHour_59 {l : Launch} {d : Nat} {Q : Option Value → mx_H → Prop} {c : Nat} {I : mx_I} (x1 : Int32) (x2 : Int32)
    (e1 : ((I 121 2) ≤ x2) → mx_Go l (mx_rm (d + 1) 0 0) mX12_anHour (mx_Z Q 0 0) 0 0 119 [.ref 120, .int x1, .int 0, .retAddr 0] [] (sk0 c, I))
    (k2 : (¬ (I 121 2) ≤ x2) → mx_K1 l mX12_ofLoad d [.ref 120, .int x2, .int 4] (sk0 c, I) (fun r h' => mx_Go l (mx_rm (d + 1) 0 0) mX12_anHour (mx_Z Q 0 0) 0 0 75 [.ref 120, .int x1, .int x2, .retAddr 0] (r.toList ++ []) h')) :
    mx_Go l (mx_rm (d + 1) 0 0) mX12_anHour (mx_Z Q 0 0) 0 0 59 [.ref 120, .int x1, .int x2, .retAddr 0] [] (sk0 c, I) := by
  refine g_iload_n dX12_anHour_59 rfl rfl ?_
  refine g_aload_n dX12_anHour_60 rfl rfl ?_
  refine rg_X12_0 (r := 121) dX12_anHour_61 lf_X12_7 (sk_120 _) rfl ?_
  refine g_iconst (v := 2) dX12_anHour_64 (by decide) ?_
  refine s_iald (j := 2) (v := (I 121 2)) dX12_anHour_65 (sk_121 _) (by unfold vp_in; decide) (by decide) rfl ?_
  refine g_icmp_ge (tgt := 117) dX12_anHour_66 (by decide) (fun c1 => ?_) (fun c2 => ?_)
  · skip
    refine g_iconst (v := 0) dX12_anHour_117 (by decide) ?_
    refine s_istore_n (L' := [.ref 120, .int x1, .int 0, .retAddr 0]) dX12_anHour_118 rfl (by decide) rfl rfl ?_
    exact e1 c1
  · skip
    refine g_aload_n dX12_anHour_69 rfl rfl ?_
    refine g_iload_n dX12_anHour_70 rfl rfl ?_
    refine g_iconst (v := 4) dX12_anHour_71 (by decide) ?_
    exact s_callV (M' := mX12_ofLoad) (As := [.int x2, .int 4]) (st := []) dX12_anHour_72 lm_X12_220 ovX12_ofLoad (h := (sk0 c, I)) (sk_120 _) (show vwCl[12]? = some _ from rfl) rfl (by simp [Value.category]) (by decide) rfl (k2 c2)
set_option maxRecDepth 10000 in
set_option maxHeartbeats 1000000 in
theorem sg_X12_anHour_25 {l : Launch} {d : Nat} {Q : Option Value → mx_H → Prop} {c : Nat} {I : mx_I} (x1 : Int32) (x2 : Int32) (x3 : Int32)
    (e1 : (¬ x3 = x1) → mx_Go l (mx_rm (d + 1) 0 0) mX12_anHour (mx_Z Q 0 0) 0 0 9 [.ref 120, .int x1, .int (x2 + 1), .retAddr 0] [] (sk0 c, I))
    (k2 : (x3 = x1) → mx_K1 l mX12_ofLoad d [.ref 120, .int x2, .int 5] (sk0 c, I) (fun r h' => mx_Go l (mx_rm (d + 1) 0 0) mX12_anHour (mx_Z Q 0 0) 0 0 35 [.ref 120, .int x1, .int x2, .retAddr 0] (r.toList ++ []) h')) :
    mx_Go l (mx_rm (d + 1) 0 0) mX12_anHour (mx_Z Q 0 0) 0 0 25 [.ref 120, .int x1, .int x2, .retAddr 0] [.int x3] (sk0 c, I) := by
  refine g_iload_n dX12_anHour_25 rfl rfl ?_
  refine g_icmp_ne (tgt := 51) dX12_anHour_26 (by decide) (fun c1 => ?_) (fun c2 => ?_)
  · skip
    refine s_iinc (v := (x2 + 1)) (L' := [.ref 120, .int x1, .int (x2 + 1), .retAddr 0]) dX12_anHour_51 rfl (by decide) rfl rfl rfl ?_
    refine g_goto (tgt := 9) dX12_anHour_54 (by decide) ?_
    exact e1 c1
  · skip
    refine g_aload_n dX12_anHour_29 rfl rfl ?_
    refine g_iload_n dX12_anHour_30 rfl rfl ?_
    refine g_iconst (v := 5) dX12_anHour_31 (by decide) ?_
    exact s_callV (M' := mX12_ofLoad) (As := [.int x2, .int 5]) (st := []) dX12_anHour_32 lm_X12_220 ovX12_ofLoad (h := (sk0 c, I)) (sk_120 _) (show vwCl[12]? = some _ from rfl) rfl (by simp [Value.category]) (by decide) rfl (k2 c2)
set_option maxRecDepth 10000 in
set_option maxHeartbeats 1000000 in
theorem sg_X12_anHour_119 {l : Launch} {d : Nat} {Q : Option Value → mx_H → Prop} {c : Nat} {I : mx_I} (x1 : Int32) (x2 : Int32)
    (e1 : ((I 121 3) ≤ x2) → mx_Go l (mx_rm (d + 1) 0 0) mX12_anHour (mx_Z Q 0 0) 0 0 152 [.ref 120, .int x1, .int 0, .retAddr 0] [] (sk0 c, I))
    (k2 : (¬ (I 121 3) ≤ x2) → mx_K1 l mX12_goesNow d [.ref 120, .int x2, .int x1] (sk0 c, I) (fun r h' => mx_Go l (mx_rm (d + 1) 0 0) mX12_anHour (mx_Z Q 0 0) 0 0 135 [.ref 120, .int x1, .int x2, .retAddr 0] (r.toList ++ []) h')) :
    mx_Go l (mx_rm (d + 1) 0 0) mX12_anHour (mx_Z Q 0 0) 0 0 119 [.ref 120, .int x1, .int x2, .retAddr 0] [] (sk0 c, I) := by
  refine g_iload_n dX12_anHour_119 rfl rfl ?_
  refine g_aload_n dX12_anHour_120 rfl rfl ?_
  refine rg_X12_0 (r := 121) dX12_anHour_121 lf_X12_7 (sk_120 _) rfl ?_
  refine g_iconst (v := 3) dX12_anHour_124 (by decide) ?_
  refine s_iald (j := 3) (v := (I 121 3)) dX12_anHour_125 (sk_121 _) (by unfold vp_in; decide) (by decide) rfl ?_
  refine g_icmp_ge (tgt := 150) dX12_anHour_126 (by decide) (fun c1 => ?_) (fun c2 => ?_)
  · skip
    refine g_iconst (v := 0) dX12_anHour_150 (by decide) ?_
    refine s_istore_n (L' := [.ref 120, .int x1, .int 0, .retAddr 0]) dX12_anHour_151 rfl (by decide) rfl rfl ?_
    exact e1 c1
  · skip
    refine g_aload_n dX12_anHour_129 rfl rfl ?_
    refine g_iload_n dX12_anHour_130 rfl rfl ?_
    refine g_iload_n dX12_anHour_131 rfl rfl ?_
    exact s_callV (M' := mX12_goesNow) (As := [.int x2, .int x1]) (st := []) dX12_anHour_132 lm_X12_276 ovX12_goesNow (h := (sk0 c, I)) (sk_120 _) (show vwCl[12]? = some _ from rfl) rfl (by simp [Value.category]) (by decide) rfl (k2 c2)
set_option maxRecDepth 10000 in
set_option maxHeartbeats 1000000 in
theorem sg_X12_anHour_75 {l : Launch} {d : Nat} {Q : Option Value → mx_H → Prop} {c : Nat} {I : mx_I} (x1 : Int32) (x2 : Int32) (x3 : Int32)
    (e1 : (¬ x3 = x1) → mx_Go l (mx_rm (d + 1) 0 0) mX12_anHour (mx_Z Q 0 0) 0 0 59 [.ref 120, .int x1, .int (x2 + 1), .retAddr 0] [] (sk0 c, I))
    (k2 : (x3 = x1) → mx_K1 l mX12_ofLoad d [.ref 120, .int x2, .int 3] (sk0 c, I) (fun r h' => mx_Go l (mx_rm (d + 1) 0 0) mX12_anHour (mx_Z Q 0 0) 0 0 85 [.ref 120, .int x1, .int x2, .retAddr 0] (r.toList ++ []) h')) :
    mx_Go l (mx_rm (d + 1) 0 0) mX12_anHour (mx_Z Q 0 0) 0 0 75 [.ref 120, .int x1, .int x2, .retAddr 0] [.int x3] (sk0 c, I) := by
  refine g_iload_n dX12_anHour_75 rfl rfl ?_
  refine g_icmp_ne (tgt := 111) dX12_anHour_76 (by decide) (fun c1 => ?_) (fun c2 => ?_)
  · skip
    refine s_iinc (v := (x2 + 1)) (L' := [.ref 120, .int x1, .int (x2 + 1), .retAddr 0]) dX12_anHour_111 rfl (by decide) rfl rfl rfl ?_
    refine g_goto (tgt := 59) dX12_anHour_114 (by decide) ?_
    exact e1 c1
  · skip
    refine g_aload_n dX12_anHour_79 rfl rfl ?_
    refine g_iload_n dX12_anHour_80 rfl rfl ?_
    refine g_iconst (v := 3) dX12_anHour_81 (by decide) ?_
    exact s_callV (M' := mX12_ofLoad) (As := [.int x2, .int 3]) (st := []) dX12_anHour_82 lm_X12_220 ovX12_ofLoad (h := (sk0 c, I)) (sk_120 _) (show vwCl[12]? = some _ from rfl) rfl (by simp [Value.category]) (by decide) rfl (k2 c2)
set_option maxRecDepth 10000 in
set_option maxHeartbeats 1000000 in
theorem sg_X12_anHour_35 {l : Launch} {d : Nat} {Q : Option Value → mx_H → Prop} {c : Nat} {I : mx_I} (x1 : Int32) (x2 : Int32) (x3 : Int32)
    (e1 : (¬ x3 = (-1)) → mx_Go l (mx_rm (d + 1) 0 0) mX12_anHour (mx_Z Q 0 0) 0 0 9 [.ref 120, .int x1, .int (x2 + 1), .retAddr 0] [] (sk0 c, I))
    (k2 : (x3 = (-1)) → mx_K1 l mX12_ofLoad d [.ref 120, .int x2, .int 1] (sk0 c, I) (fun r h' => mx_Go l (mx_rm (d + 1) 0 0) mX12_anHour (mx_Z Q 0 0) 0 0 47 [.ref 120, .int x1, .int x2, .retAddr 0] (r.toList ++ [.int x2, .ref 120]) h')) :
    mx_Go l (mx_rm (d + 1) 0 0) mX12_anHour (mx_Z Q 0 0) 0 0 35 [.ref 120, .int x1, .int x2, .retAddr 0] [.int x3] (sk0 c, I) := by
  refine g_iconst (v := (-1)) dX12_anHour_35 (by decide) ?_
  refine g_icmp_ne (tgt := 51) dX12_anHour_36 (by decide) (fun c1 => ?_) (fun c2 => ?_)
  · skip
    refine s_iinc (v := (x2 + 1)) (L' := [.ref 120, .int x1, .int (x2 + 1), .retAddr 0]) dX12_anHour_51 rfl (by decide) rfl rfl rfl ?_
    refine g_goto (tgt := 9) dX12_anHour_54 (by decide) ?_
    exact e1 c1
  · skip
    refine g_aload_n dX12_anHour_39 rfl rfl ?_
    refine g_iload_n dX12_anHour_40 rfl rfl ?_
    refine g_aload_n dX12_anHour_41 rfl rfl ?_
    refine g_iload_n dX12_anHour_42 rfl rfl ?_
    refine g_iconst (v := 1) dX12_anHour_43 (by decide) ?_
    exact s_callV (M' := mX12_ofLoad) (As := [.int x2, .int 1]) (st := [.int x2, .ref 120]) dX12_anHour_44 lm_X12_220 ovX12_ofLoad (h := (sk0 c, I)) (sk_120 _) (show vwCl[12]? = some _ from rfl) rfl (by simp [Value.category]) (by decide) rfl (k2 c2)
