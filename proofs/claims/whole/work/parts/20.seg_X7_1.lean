set_option maxRecDepth 10000 in
set_option maxHeartbeats 1000000 in
theorem sn_X7_make {l : Launch} {d : Nat} {Q : Option Value → mx_H → Prop} {c : Nat} {I : mx_I} (a1 : Int32)
    (k1 : mx_K1 l mJ7_fill_53178 d [.ref 67, .int 0] (sk0 c, I) (fun r h' => mx_Go l (mx_rm (d + 1) 0 0) mX7_make (mx_Z Q 0 0) 0 0 8 [.ref 66, .ref 1, .int a1, .retAddr 0] (r.toList ++ []) h')) :
    mx_Spec l mX7_make (d + 1) 0 0 [.ref 66, .ref 1, .int a1] (sk0 c, I) Q := by
  refine mx_enter rfl (by simp [Value.category]) (Nat.le_of_ble_eq_true rfl) ?_
  change mx_Go l (mx_rm (d + 1) 0 0) mX7_make (mx_Z Q 0 0) 0 0 0 [.ref 66, .ref 1, .int a1, .retAddr 0] [] (sk0 c, I)
  refine g_aload_n dX7_make_0 rfl rfl ?_
  refine rg_X7_0 (r := 67) dX7_make_1 lf_X7_9 (sk_66 _) rfl ?_
  refine g_iconst (v := 0) dX7_make_4 (by decide) ?_
  exact s_callS (M' := mJ7_fill_53178) (As := [.ref 67, .int 0]) (st := []) dX7_make_5 lm_X7_27 okJ7_fill_53178 osJ7_fill_53178 (by simp [Value.category]) (by decide) rfl (k1)
set_option maxRecDepth 10000 in
set_option maxHeartbeats 1000000 in
theorem sg_X7_make_8 {l : Launch} {d : Nat} {Q : Option Value → mx_H → Prop} {c : Nat} {I : mx_I} (x1 : Int32)
    (k1 : mx_K1 l mJ7_fill_53178 d [.ref 68, .int 0] (sk0 c, I) (fun r h' => mx_Go l (mx_rm (d + 1) 0 0) mX7_make (mx_Z Q 0 0) 0 0 16 [.ref 66, .ref 1, .int x1, .retAddr 0] (r.toList ++ []) h')) :
    mx_Go l (mx_rm (d + 1) 0 0) mX7_make (mx_Z Q 0 0) 0 0 8 [.ref 66, .ref 1, .int x1, .retAddr 0] [] (sk0 c, I) := by
  refine g_aload_n dX7_make_8 rfl rfl ?_
  refine rg_X7_1 (r := 68) dX7_make_9 lf_X7_15 (sk_66 _) rfl ?_
  refine g_iconst (v := 0) dX7_make_12 (by decide) ?_
  exact s_callS (M' := mJ7_fill_53178) (As := [.ref 68, .int 0]) (st := []) dX7_make_13 lm_X7_27 okJ7_fill_53178 osJ7_fill_53178 (by simp [Value.category]) (by decide) rfl (k1)
set_option maxRecDepth 10000 in
set_option maxHeartbeats 1000000 in
theorem sg_X7_make_16 {l : Launch} {d : Nat} {Q : Option Value → mx_H → Prop} {c : Nat} {I : mx_I} (x1 : Int32)
    (k1 : mx_K1 l mJ7_fill_53178 d [.ref 69, .int 0] (sk0 c, I) (fun r h' => mx_Go l (mx_rm (d + 1) 0 0) mX7_make (mx_Z Q 0 0) 0 0 24 [.ref 66, .ref 1, .int x1, .retAddr 0] (r.toList ++ []) h')) :
    mx_Go l (mx_rm (d + 1) 0 0) mX7_make (mx_Z Q 0 0) 0 0 16 [.ref 66, .ref 1, .int x1, .retAddr 0] [] (sk0 c, I) := by
  refine g_aload_n dX7_make_16 rfl rfl ?_
  refine rg_X7_2 (r := 69) dX7_make_17 lf_X7_18 (sk_66 _) rfl ?_
  refine g_iconst (v := 0) dX7_make_20 (by decide) ?_
  exact s_callS (M' := mJ7_fill_53178) (As := [.ref 69, .int 0]) (st := []) dX7_make_21 lm_X7_27 okJ7_fill_53178 osJ7_fill_53178 (by simp [Value.category]) (by decide) rfl (k1)
set_option maxRecDepth 10000 in
set_option maxHeartbeats 1000000 in
theorem sg_X7_make_24 {l : Launch} {d : Nat} {Q : Option Value → mx_H → Prop} {c : Nat} {I : mx_I} (x1 : Int32)
    (k1 : mx_K1 l mJ7_fill_53178 d [.ref 70, .int 0] (sk0 c, I) (fun r h' => mx_Go l (mx_rm (d + 1) 0 0) mX7_make (mx_Z Q 0 0) 0 0 32 [.ref 66, .ref 1, .int x1, .retAddr 0] (r.toList ++ []) h')) :
    mx_Go l (mx_rm (d + 1) 0 0) mX7_make (mx_Z Q 0 0) 0 0 24 [.ref 66, .ref 1, .int x1, .retAddr 0] [] (sk0 c, I) := by
  refine g_aload_n dX7_make_24 rfl rfl ?_
  refine rg_X7_3 (r := 70) dX7_make_25 lf_X7_21 (sk_66 _) rfl ?_
  refine g_iconst (v := 0) dX7_make_28 (by decide) ?_
  exact s_callS (M' := mJ7_fill_53178) (As := [.ref 70, .int 0]) (st := []) dX7_make_29 lm_X7_27 okJ7_fill_53178 osJ7_fill_53178 (by simp [Value.category]) (by decide) rfl (k1)
set_option maxRecDepth 10000 in
set_option maxHeartbeats 1000000 in
theorem sg_X7_make_32 {l : Launch} {d : Nat} {Q : Option Value → mx_H → Prop} {c : Nat} {I : mx_I} (x1 : Int32)
    (k1 : mx_K1 l mJ7_fill_53178 d [.ref 71, .int 0] (sk0 c, I) (fun r h' => mx_Go l (mx_rm (d + 1) 0 0) mX7_make (mx_Z Q 0 0) 0 0 40 [.ref 66, .ref 1, .int x1, .retAddr 0] (r.toList ++ []) h')) :
    mx_Go l (mx_rm (d + 1) 0 0) mX7_make (mx_Z Q 0 0) 0 0 32 [.ref 66, .ref 1, .int x1, .retAddr 0] [] (sk0 c, I) := by
  refine g_aload_n dX7_make_32 rfl rfl ?_
  refine rg_X7_4 (r := 71) dX7_make_33 lf_X7_24 (sk_66 _) rfl ?_
  refine g_iconst (v := 0) dX7_make_36 (by decide) ?_
  exact s_callS (M' := mJ7_fill_53178) (As := [.ref 71, .int 0]) (st := []) dX7_make_37 lm_X7_27 okJ7_fill_53178 osJ7_fill_53178 (by simp [Value.category]) (by decide) rfl (k1)
set_option maxRecDepth 10000 in
set_option maxHeartbeats 1000000 in
theorem sg_X7_make_40 {l : Launch} {d : Nat} {Q : Option Value → mx_H → Prop} {c : Nat} {I : mx_I} (x1 : Int32)
    (e1 : mx_Go l (mx_rm (d + 1) 0 0) mX7_make (mx_Z Q 0 0) 0 0 42 [.ref 66, .ref 1, .int x1, .int 0] [] (sk0 c, I)) :
    mx_Go l (mx_rm (d + 1) 0 0) mX7_make (mx_Z Q 0 0) 0 0 40 [.ref 66, .ref 1, .int x1, .retAddr 0] [] (sk0 c, I) := by
  refine g_iconst (v := 0) dX7_make_40 (by decide) ?_
  refine s_istore_n (L' := [.ref 66, .ref 1, .int x1, .int 0]) dX7_make_41 rfl (by decide) rfl rfl ?_
  exact e1
set_option maxRecDepth 10000 in
set_option maxHeartbeats 1000000 in
theorem sg_X7_make_42 {l : Launch} {d : Nat} {Q : Option Value → mx_H → Prop} {c : Nat} {I : mx_I} (x1 : Int32) (x2 : Int32)
    (e1 : ((I 2 5) ≤ x2) → mx_Go l (mx_rm (d + 1) 0 0) mX7_make (mx_Z Q 0 0) 0 0 114 [.ref 66, .ref 1, .int x1, .int 0] [] (sk0 c, I))
    (b2 : (¬ (I 2 5) ≤ x2) → vp_in x2 30)
    (b3 : (¬ (I 2 5) ≤ x2) → vp_in (I 5 x2.toNatClampNeg) 168)
    (b4 : (¬ (I 2 5) ≤ x2) → vp_in (I 5 x2.toNatClampNeg) 168)
    (b5 : (¬ (I 2 5) ≤ x2) → vp_in x2 30)
    (e6 : (¬ (I 2 5) ≤ x2) → ((I 6 x2.toNatClampNeg) = (-1)) → mx_Go l (mx_rm (d + 1) 0 0) mX7_make (mx_Z Q 0 0) 0 0 42 [.ref 66, .ref 1, .int x1, .int (x2 + 1)] [] (sk0 c, (mx_set I 67 (I 5 x2.toNatClampNeg).toNatClampNeg ((I 67 (I 5 x2.toNatClampNeg).toNatClampNeg) ||| (1 <<< (x2 &&& 31))))))
    (b7 : (¬ (I 2 5) ≤ x2) → (¬ (I 6 x2.toNatClampNeg) = (-1)) → vp_in x2 30)
    (b8 : (¬ (I 2 5) ≤ x2) → (¬ (I 6 x2.toNatClampNeg) = (-1)) → vp_in (I 7 x2.toNatClampNeg) 168)
    (b9 : (¬ (I 2 5) ≤ x2) → (¬ (I 6 x2.toNatClampNeg) = (-1)) → vp_in (I 7 x2.toNatClampNeg) 168)
    (e10 : (¬ (I 2 5) ≤ x2) → (¬ (I 6 x2.toNatClampNeg) = (-1)) → mx_Go l (mx_rm (d + 1) 0 0) mX7_make (mx_Z Q 0 0) 0 0 42 [.ref 66, .ref 1, .int x1, .int (x2 + 1)] [] (sk0 c, (mx_set (mx_set I 67 (I 5 x2.toNatClampNeg).toNatClampNeg ((I 67 (I 5 x2.toNatClampNeg).toNatClampNeg) ||| (1 <<< (x2 &&& 31)))) 68 (I 7 x2.toNatClampNeg).toNatClampNeg ((I 68 (I 7 x2.toNatClampNeg).toNatClampNeg) ||| (1 <<< (x2 &&& 31)))))) :
    mx_Go l (mx_rm (d + 1) 0 0) mX7_make (mx_Z Q 0 0) 0 0 42 [.ref 66, .ref 1, .int x1, .int x2] [] (sk0 c, I) := by
  refine g_iload_n dX7_make_42 rfl rfl ?_
  refine g_aload_n dX7_make_43 rfl rfl ?_
  refine rg_X10_0 (r := 2) dX7_make_44 lf_X7_33 (sk_1 _) rfl ?_
  refine rg_X5_5 (v := (I 2 5)) dX7_make_47 lf_X7_39 (sk_2 _) rfl ?_
  refine g_icmp_ge (tgt := 112) dX7_make_50 (by decide) (fun c1 => ?_) (fun c2 => ?_)
  · skip
    refine g_iconst (v := 0) dX7_make_112 (by decide) ?_
    refine s_istore_n (L' := [.ref 66, .ref 1, .int x1, .int 0]) dX7_make_113 rfl (by decide) rfl rfl ?_
    exact e1 c1
  · skip
    refine g_aload_n dX7_make_53 rfl rfl ?_
    refine rg_X7_0 (r := 67) dX7_make_54 lf_X7_9 (sk_66 _) rfl ?_
    refine g_aload_n dX7_make_57 rfl rfl ?_
    refine rg_X10_0 (r := 2) dX7_make_58 lf_X7_33 (sk_1 _) rfl ?_
    refine rg_X5_2 (r := 5) dX7_make_61 lf_X7_45 (sk_2 _) rfl ?_
    refine g_iload_n dX7_make_64 rfl rfl ?_
    refine s_iald (j := x2.toNatClampNeg) (v := (I 5 x2.toNatClampNeg)) dX7_make_65 (sk_5 _) (b2 c2) rfl rfl ?_
    refine g_dup2 dX7_make_66 rfl rfl ?_
    refine s_iald (j := (I 5 x2.toNatClampNeg).toNatClampNeg) (v := (I 67 (I 5 x2.toNatClampNeg).toNatClampNeg)) dX7_make_67 (sk_67 _) (b3 c2) rfl rfl ?_
    refine g_iconst (v := 1) dX7_make_68 (by decide) ?_
    refine g_iload_n dX7_make_69 rfl rfl ?_
    refine g_ishl dX7_make_70 ?_
    refine g_ior dX7_make_71 ?_
    refine s_iast (j := (I 5 x2.toNatClampNeg).toNatClampNeg) dX7_make_72 (sk_67 _) (b4 c2) rfl ?_
    refine g_aload_n dX7_make_73 rfl rfl ?_
    refine rg_X10_0 (r := 2) dX7_make_74 lf_X7_33 (sk_1 _) rfl ?_
    refine rg_X5_3 (r := 6) dX7_make_77 lf_X7_48 (sk_2 _) rfl ?_
    refine g_iload_n dX7_make_80 rfl rfl ?_
    refine s_iald (j := x2.toNatClampNeg) (v := (I 6 x2.toNatClampNeg)) dX7_make_81 (sk_6 _) (b5 c2) rfl (rd_ne (by decide) rfl) ?_
    refine g_iconst (v := (-1)) dX7_make_82 (by decide) ?_
    refine g_icmp_eq (tgt := 106) dX7_make_83 (by decide) (fun c3 => ?_) (fun c4 => ?_)
    · skip
      refine s_iinc (v := (x2 + 1)) (L' := [.ref 66, .ref 1, .int x1, .int (x2 + 1)]) dX7_make_106 rfl (by decide) rfl rfl rfl ?_
      refine g_goto (tgt := 42) dX7_make_109 (by decide) ?_
      exact e6 c2 c3
    · skip
      refine g_aload_n dX7_make_86 rfl rfl ?_
      refine rg_X7_1 (r := 68) dX7_make_87 lf_X7_15 (sk_66 _) rfl ?_
      refine g_aload_n dX7_make_90 rfl rfl ?_
      refine rg_X10_0 (r := 2) dX7_make_91 lf_X7_33 (sk_1 _) rfl ?_
      refine rg_X5_4 (r := 7) dX7_make_94 lf_X7_51 (sk_2 _) rfl ?_
      refine g_iload_n dX7_make_97 rfl rfl ?_
      refine s_iald (j := x2.toNatClampNeg) (v := (I 7 x2.toNatClampNeg)) dX7_make_98 (sk_7 _) (b7 c2 c4) rfl (rd_ne (by decide) rfl) ?_
      refine g_dup2 dX7_make_99 rfl rfl ?_
      refine s_iald (j := (I 7 x2.toNatClampNeg).toNatClampNeg) (v := (I 68 (I 7 x2.toNatClampNeg).toNatClampNeg)) dX7_make_100 (sk_68 _) (b8 c2 c4) rfl (rd_ne (by decide) rfl) ?_
      refine g_iconst (v := 1) dX7_make_101 (by decide) ?_
      refine g_iload_n dX7_make_102 rfl rfl ?_
      refine g_ishl dX7_make_103 ?_
      refine g_ior dX7_make_104 ?_
      refine s_iast (j := (I 7 x2.toNatClampNeg).toNatClampNeg) dX7_make_105 (sk_68 _) (b9 c2 c4) rfl ?_
      refine s_iinc (v := (x2 + 1)) (L' := [.ref 66, .ref 1, .int x1, .int (x2 + 1)]) dX7_make_106 rfl (by decide) rfl rfl rfl ?_
      refine g_goto (tgt := 42) dX7_make_109 (by decide) ?_
      exact e10 c2 c4
set_option maxRecDepth 10000 in
set_option maxHeartbeats 1000000 in
theorem sg_X7_make_114 {l : Launch} {d : Nat} {Q : Option Value → mx_H → Prop} {c : Nat} {I : mx_I} (x1 : Int32) (x2 : Int32)
    (e1 : ((I 8 9) ≤ x2) → mx_Go l (mx_rm (d + 1) 0 0) mX7_make (mx_Z Q 0 0) 0 0 143 [.ref 66, .ref 1, .int x1, .int 0] [] (sk0 c, I))
    (k2 : (¬ (I 8 9) ≤ x2) → mx_K1 l mX7_planCrosser d [.ref 66, .ref 8, .int x2, .int x1] (sk0 c, I) (fun r h' => mx_Go l (mx_rm (d + 1) 0 0) mX7_make (mx_Z Q 0 0) 0 0 135 [.ref 66, .ref 1, .int x1, .int x2] (r.toList ++ []) h')) :
    mx_Go l (mx_rm (d + 1) 0 0) mX7_make (mx_Z Q 0 0) 0 0 114 [.ref 66, .ref 1, .int x1, .int x2] [] (sk0 c, I) := by
  refine g_iload_n dX7_make_114 rfl rfl ?_
  refine g_aload_n dX7_make_115 rfl rfl ?_
  refine rg_X10_1 (r := 8) dX7_make_116 lf_X7_54 (sk_1 _) rfl ?_
  refine rg_X2_9 (v := (I 8 9)) dX7_make_119 lf_X7_58 (sk_8 _) rfl ?_
  refine g_icmp_ge (tgt := 141) dX7_make_122 (by decide) (fun c1 => ?_) (fun c2 => ?_)
  · skip
    refine g_iconst (v := 0) dX7_make_141 (by decide) ?_
    refine s_istore_n (L' := [.ref 66, .ref 1, .int x1, .int 0]) dX7_make_142 rfl (by decide) rfl rfl ?_
    exact e1 c1
  · skip
    refine g_aload_n dX7_make_125 rfl rfl ?_
    refine g_aload_n dX7_make_126 rfl rfl ?_
    refine rg_X10_1 (r := 8) dX7_make_127 lf_X7_54 (sk_1 _) rfl ?_
    refine g_iload_n dX7_make_130 rfl rfl ?_
    refine g_iload_n dX7_make_131 rfl rfl ?_
    exact s_callV (M' := mX7_planCrosser) (As := [.ref 8, .int x2, .int x1]) (st := []) dX7_make_132 lm_X7_61 ovX7_planCrosser (h := (sk0 c, I)) (sk_66 _) (show vwCl[7]? = some _ from rfl) rfl (by simp [Value.category]) (by decide) rfl (k2 c2)
set_option maxRecDepth 10000 in
set_option maxHeartbeats 1000000 in
theorem sg_X7_make_143 {l : Launch} {d : Nat} {Q : Option Value → mx_H → Prop} {c : Nat} {I : mx_I} (x1 : Int32) (x2 : Int32)
    (e1 : ((I 18 5) ≤ x2) → mx_Go l (mx_rm (d + 1) 0 0) mX7_make (mx_Z Q 0 0) 0 0 182 [.ref 66, .ref 1, .int x1, .int 0] [] (sk0 c, I))
    (b2 : (¬ (I 18 5) ≤ x2) → vp_in x2 8)
    (b3 : (¬ (I 18 5) ≤ x2) → vp_in (I 19 x2.toNatClampNeg) 168)
    (b4 : (¬ (I 18 5) ≤ x2) → vp_in (I 19 x2.toNatClampNeg) 168)
    (e5 : (¬ (I 18 5) ≤ x2) → mx_Go l (mx_rm (d + 1) 0 0) mX7_make (mx_Z Q 0 0) 0 0 143 [.ref 66, .ref 1, .int x1, .int (x2 + 1)] [] (sk0 c, (mx_set I 70 (I 19 x2.toNatClampNeg).toNatClampNeg ((I 70 (I 19 x2.toNatClampNeg).toNatClampNeg) ||| (1 <<< (x2 &&& 31)))))) :
    mx_Go l (mx_rm (d + 1) 0 0) mX7_make (mx_Z Q 0 0) 0 0 143 [.ref 66, .ref 1, .int x1, .int x2] [] (sk0 c, I) := by
  refine g_iload_n dX7_make_143 rfl rfl ?_
  refine g_aload_n dX7_make_144 rfl rfl ?_
  refine rg_X10_2 (r := 18) dX7_make_145 lf_X7_65 (sk_1 _) rfl ?_
  refine rg_X6_5 (v := (I 18 5)) dX7_make_148 lf_X7_69 (sk_18 _) rfl ?_
  refine g_icmp_ge (tgt := 180) dX7_make_151 (by decide) (fun c1 => ?_) (fun c2 => ?_)
  · skip
    refine g_iconst (v := 0) dX7_make_180 (by decide) ?_
    refine s_istore_n (L' := [.ref 66, .ref 1, .int x1, .int 0]) dX7_make_181 rfl (by decide) rfl rfl ?_
    exact e1 c1
  · skip
    refine g_aload_n dX7_make_154 rfl rfl ?_
    refine rg_X7_3 (r := 70) dX7_make_155 lf_X7_21 (sk_66 _) rfl ?_
    refine g_aload_n dX7_make_158 rfl rfl ?_
    refine rg_X10_2 (r := 18) dX7_make_159 lf_X7_65 (sk_1 _) rfl ?_
    refine rg_X6_0 (r := 19) dX7_make_162 lf_X7_72 (sk_18 _) rfl ?_
    refine g_iload_n dX7_make_165 rfl rfl ?_
    refine s_iald (j := x2.toNatClampNeg) (v := (I 19 x2.toNatClampNeg)) dX7_make_166 (sk_19 _) (b2 c2) rfl rfl ?_
    refine g_dup2 dX7_make_167 rfl rfl ?_
    refine s_iald (j := (I 19 x2.toNatClampNeg).toNatClampNeg) (v := (I 70 (I 19 x2.toNatClampNeg).toNatClampNeg)) dX7_make_168 (sk_70 _) (b3 c2) rfl rfl ?_
    refine g_iconst (v := 1) dX7_make_169 (by decide) ?_
    refine g_iload_n dX7_make_170 rfl rfl ?_
    refine g_ishl dX7_make_171 ?_
    refine g_ior dX7_make_172 ?_
    refine s_iast (j := (I 19 x2.toNatClampNeg).toNatClampNeg) dX7_make_173 (sk_70 _) (b4 c2) rfl ?_
    refine s_iinc (v := (x2 + 1)) (L' := [.ref 66, .ref 1, .int x1, .int (x2 + 1)]) dX7_make_174 rfl (by decide) rfl rfl rfl ?_
    refine g_goto (tgt := 143) dX7_make_177 (by decide) ?_
    exact e5 c2
set_option maxRecDepth 10000 in
set_option maxHeartbeats 1000000 in
theorem sg_X7_make_135 {l : Launch} {d : Nat} {Q : Option Value → mx_H → Prop} {c : Nat} {I : mx_I} (x1 : Int32) (x2 : Int32)
    (e1 : mx_Go l (mx_rm (d + 1) 0 0) mX7_make (mx_Z Q 0 0) 0 0 114 [.ref 66, .ref 1, .int x1, .int (x2 + 1)] [] (sk0 c, I)) :
    mx_Go l (mx_rm (d + 1) 0 0) mX7_make (mx_Z Q 0 0) 0 0 135 [.ref 66, .ref 1, .int x1, .int x2] [] (sk0 c, I) := by
  refine s_iinc (v := (x2 + 1)) (L' := [.ref 66, .ref 1, .int x1, .int (x2 + 1)]) dX7_make_135 rfl (by decide) rfl rfl rfl ?_
  refine g_goto (tgt := 114) dX7_make_138 (by decide) ?_
  exact e1
set_option maxRecDepth 10000 in
set_option maxHeartbeats 1000000 in
theorem sg_X7_make_182 {l : Launch} {d : Nat} {Q : Option Value → mx_H → Prop} {c : Nat} {I : mx_I} (x1 : Int32) (x2 : Int32)
    (q1 : ((I 24 3) ≤ x2) → Q none (sk0 c, I))
    (b2 : (¬ (I 24 3) ≤ x2) → vp_in x2 20)
    (b3 : (¬ (I 24 3) ≤ x2) → vp_in (I 25 x2.toNatClampNeg) 168)
    (b4 : (¬ (I 24 3) ≤ x2) → vp_in (I 25 x2.toNatClampNeg) 168)
    (e5 : (¬ (I 24 3) ≤ x2) → mx_Go l (mx_rm (d + 1) 0 0) mX7_make (mx_Z Q 0 0) 0 0 182 [.ref 66, .ref 1, .int x1, .int (x2 + 1)] [] (sk0 c, (mx_set I 71 (I 25 x2.toNatClampNeg).toNatClampNeg ((I 71 (I 25 x2.toNatClampNeg).toNatClampNeg) ||| (1 <<< (x2 &&& 31)))))) :
    mx_Go l (mx_rm (d + 1) 0 0) mX7_make (mx_Z Q 0 0) 0 0 182 [.ref 66, .ref 1, .int x1, .int x2] [] (sk0 c, I) := by
  refine g_iload_n dX7_make_182 rfl rfl ?_
  refine g_aload_n dX7_make_183 rfl rfl ?_
  refine rg_X10_3 (r := 24) dX7_make_184 lf_X7_73 (sk_1 _) rfl ?_
  refine rg_X4_3 (v := (I 24 3)) dX7_make_187 lf_X7_77 (sk_24 _) rfl ?_
  refine g_icmp_ge (tgt := 219) dX7_make_190 (by decide) (fun c1 => ?_) (fun c2 => ?_)
  · skip
    exact g_vret rfl dX7_make_219 rfl (Nat.le_refl _) (q1 c1)
  · skip
    refine g_aload_n dX7_make_193 rfl rfl ?_
    refine rg_X7_4 (r := 71) dX7_make_194 lf_X7_24 (sk_66 _) rfl ?_
    refine g_aload_n dX7_make_197 rfl rfl ?_
    refine rg_X10_3 (r := 24) dX7_make_198 lf_X7_73 (sk_1 _) rfl ?_
    refine rg_X4_0 (r := 25) dX7_make_201 lf_X7_80 (sk_24 _) rfl ?_
    refine g_iload_n dX7_make_204 rfl rfl ?_
    refine s_iald (j := x2.toNatClampNeg) (v := (I 25 x2.toNatClampNeg)) dX7_make_205 (sk_25 _) (b2 c2) rfl rfl ?_
    refine g_dup2 dX7_make_206 rfl rfl ?_
    refine s_iald (j := (I 25 x2.toNatClampNeg).toNatClampNeg) (v := (I 71 (I 25 x2.toNatClampNeg).toNatClampNeg)) dX7_make_207 (sk_71 _) (b3 c2) rfl rfl ?_
    refine g_iconst (v := 1) dX7_make_208 (by decide) ?_
    refine g_iload_n dX7_make_209 rfl rfl ?_
    refine g_ishl dX7_make_210 ?_
    refine g_ior dX7_make_211 ?_
    refine s_iast (j := (I 25 x2.toNatClampNeg).toNatClampNeg) dX7_make_212 (sk_71 _) (b4 c2) rfl ?_
    refine s_iinc (v := (x2 + 1)) (L' := [.ref 66, .ref 1, .int x1, .int (x2 + 1)]) dX7_make_213 rfl (by decide) rfl rfl rfl ?_
    refine g_goto (tgt := 182) dX7_make_216 (by decide) ?_
    exact e5 c2
set_option maxRecDepth 10000 in
set_option maxHeartbeats 1000000 in
theorem sn_X7_planCrosser {l : Launch} {d : Nat} {Q : Option Value → mx_H → Prop} {c : Nat} {I : mx_I} (a1 : Int32) (a2 : Int32)
    (b1 : vp_in a1 20)
    (b2 : vp_in a1 20)
    (b3 : (¬ (I 15 a1.toNatClampNeg) = 0) → vp_in a1 20)
    (q4 : (¬ (I 15 a1.toNatClampNeg) = 0) → (¬ (I 15 a1.toNatClampNeg) = 1) → Q none (sk0 c, I))
    (b5 : (¬ (I 15 a1.toNatClampNeg) = 0) → ((I 15 a1.toNatClampNeg) = 1) → vp_in a1 20)
    (e6 : (¬ (I 15 a1.toNatClampNeg) = 0) → ((I 15 a1.toNatClampNeg) = 1) → mx_Go l (mx_rm (d + 1) 0 0) mX7_planCrosser (mx_Z Q 0 0) 0 0 65 [.ref 66, .ref 8, .int a1, .int a2, .int (I 9 a1.toNatClampNeg), .int (if (if ((I 9 a1.toNatClampNeg) + (I 16 a1.toNatClampNeg)) < a2 then a2 else ((I 9 a1.toNatClampNeg) + (I 16 a1.toNatClampNeg))) < 167 then (if ((I 9 a1.toNatClampNeg) + (I 16 a1.toNatClampNeg)) < a2 then a2 else ((I 9 a1.toNatClampNeg) + (I 16 a1.toNatClampNeg))) else 167), .int (I 9 a1.toNatClampNeg)] [] (sk0 c, I))
    (b7 : ((I 15 a1.toNatClampNeg) = 0) → vp_in (I 9 a1.toNatClampNeg) 168)
    (b8 : ((I 15 a1.toNatClampNeg) = 0) → vp_in (I 9 a1.toNatClampNeg) 168)
    (b9 : ((I 15 a1.toNatClampNeg) = 0) → vp_in a1 20)
    (q10 : ((I 15 a1.toNatClampNeg) = 0) → (¬ (I 15 a1.toNatClampNeg) = 1) → Q none (sk0 c, (mx_set I 69 (I 9 a1.toNatClampNeg).toNatClampNeg ((I 69 (I 9 a1.toNatClampNeg).toNatClampNeg) ||| (1 <<< (a1 &&& 31))))))
    (b11 : ((I 15 a1.toNatClampNeg) = 0) → ((I 15 a1.toNatClampNeg) = 1) → vp_in a1 20)
    (e12 : ((I 15 a1.toNatClampNeg) = 0) → ((I 15 a1.toNatClampNeg) = 1) → mx_Go l (mx_rm (d + 1) 0 0) mX7_planCrosser (mx_Z Q 0 0) 0 0 65 [.ref 66, .ref 8, .int a1, .int a2, .int (I 9 a1.toNatClampNeg), .int (if (if ((I 9 a1.toNatClampNeg) + (I 16 a1.toNatClampNeg)) < a2 then a2 else ((I 9 a1.toNatClampNeg) + (I 16 a1.toNatClampNeg))) < 167 then (if ((I 9 a1.toNatClampNeg) + (I 16 a1.toNatClampNeg)) < a2 then a2 else ((I 9 a1.toNatClampNeg) + (I 16 a1.toNatClampNeg))) else 167), .int (I 9 a1.toNatClampNeg)] [] (sk0 c, (mx_set I 69 (I 9 a1.toNatClampNeg).toNatClampNeg ((I 69 (I 9 a1.toNatClampNeg).toNatClampNeg) ||| (1 <<< (a1 &&& 31)))))) :
    mx_Spec l mX7_planCrosser (d + 1) 0 0 [.ref 66, .ref 8, .int a1, .int a2] (sk0 c, I) Q := by
  refine mx_enter rfl (by simp [Value.category]) (Nat.le_of_ble_eq_true rfl) ?_
  change mx_Go l (mx_rm (d + 1) 0 0) mX7_planCrosser (mx_Z Q 0 0) 0 0 0 [.ref 66, .ref 8, .int a1, .int a2, .retAddr 0, .retAddr 0, .retAddr 0] [] (sk0 c, I)
  refine g_aload_n dX7_planCrosser_0 rfl rfl ?_
  refine rg_X2_0 (r := 9) dX7_planCrosser_1 lf_X7_81 (sk_8 _) rfl ?_
  refine g_iload_n dX7_planCrosser_4 rfl rfl ?_
  refine s_iald (j := a1.toNatClampNeg) (v := (I 9 a1.toNatClampNeg)) dX7_planCrosser_5 (sk_9 _) (b1) rfl rfl ?_
  refine s_istore (L' := [.ref 66, .ref 8, .int a1, .int a2, .int (I 9 a1.toNatClampNeg), .retAddr 0, .retAddr 0]) dX7_planCrosser_6 (by decide) rfl rfl ?_
  refine g_aload_n dX7_planCrosser_8 rfl rfl ?_
  refine rg_X2_6 (r := 15) dX7_planCrosser_9 lf_X7_82 (sk_8 _) rfl ?_
  refine g_iload_n dX7_planCrosser_12 rfl rfl ?_
  refine s_iald (j := a1.toNatClampNeg) (v := (I 15 a1.toNatClampNeg)) dX7_planCrosser_13 (sk_15 _) (b2) rfl rfl ?_
  refine g_if_ne (tgt := 30) dX7_planCrosser_14 (by decide) (fun c1 => ?_) (fun c2 => ?_)
  · skip
    refine g_aload_n dX7_planCrosser_30 rfl rfl ?_
    refine rg_X2_6 (r := 15) dX7_planCrosser_31 lf_X7_82 (sk_8 _) rfl ?_
    refine g_iload_n dX7_planCrosser_34 rfl rfl ?_
    refine s_iald (j := a1.toNatClampNeg) (v := (I 15 a1.toNatClampNeg)) dX7_planCrosser_35 (sk_15 _) (b3 c1) rfl rfl ?_
    refine g_iconst (v := 1) dX7_planCrosser_36 (by decide) ?_
    refine g_icmp_ne (tgt := 91) dX7_planCrosser_37 (by decide) (fun c3 => ?_) (fun c4 => ?_)
    · skip
      exact g_vret rfl dX7_planCrosser_91 rfl (Nat.le_refl _) (q4 c1 c3)
    · skip
      refine g_sipush (v := 167) dX7_planCrosser_40 (by decide) ?_
      refine g_iload dX7_planCrosser_43 rfl ?_
      refine g_aload_n dX7_planCrosser_45 rfl rfl ?_
      refine rg_X2_7 (r := 16) dX7_planCrosser_46 lf_X7_85 (sk_8 _) rfl ?_
      refine g_iload_n dX7_planCrosser_49 rfl rfl ?_
      refine s_iald (j := a1.toNatClampNeg) (v := (I 16 a1.toNatClampNeg)) dX7_planCrosser_50 (sk_16 _) (b5 c1 c4) rfl rfl ?_
      refine g_iadd dX7_planCrosser_51 ?_
      refine g_iload_n dX7_planCrosser_52 rfl rfl ?_
      refine s_max (by simp [Value.category]) dX7_planCrosser_53 lm_X7_88 ?_
      refine s_min (by simp [Value.category]) dX7_planCrosser_56 lm_X7_94 ?_
      refine s_istore (L' := [.ref 66, .ref 8, .int a1, .int a2, .int (I 9 a1.toNatClampNeg), .int (if (if ((I 9 a1.toNatClampNeg) + (I 16 a1.toNatClampNeg)) < a2 then a2 else ((I 9 a1.toNatClampNeg) + (I 16 a1.toNatClampNeg))) < 167 then (if ((I 9 a1.toNatClampNeg) + (I 16 a1.toNatClampNeg)) < a2 then a2 else ((I 9 a1.toNatClampNeg) + (I 16 a1.toNatClampNeg))) else 167), .retAddr 0]) dX7_planCrosser_59 (by decide) rfl rfl ?_
      refine g_iload dX7_planCrosser_61 rfl ?_
      refine s_istore (L' := [.ref 66, .ref 8, .int a1, .int a2, .int (I 9 a1.toNatClampNeg), .int (if (if ((I 9 a1.toNatClampNeg) + (I 16 a1.toNatClampNeg)) < a2 then a2 else ((I 9 a1.toNatClampNeg) + (I 16 a1.toNatClampNeg))) < 167 then (if ((I 9 a1.toNatClampNeg) + (I 16 a1.toNatClampNeg)) < a2 then a2 else ((I 9 a1.toNatClampNeg) + (I 16 a1.toNatClampNeg))) else 167), .int (I 9 a1.toNatClampNeg)]) dX7_planCrosser_63 (by decide) rfl rfl ?_
      exact e6 c1 c4
  · skip
    refine g_aload_n dX7_planCrosser_17 rfl rfl ?_
    refine rg_X7_2 (r := 69) dX7_planCrosser_18 lf_X7_18 (sk_66 _) rfl ?_
    refine g_iload dX7_planCrosser_21 rfl ?_
    refine g_dup2 dX7_planCrosser_23 rfl rfl ?_
    refine s_iald (j := (I 9 a1.toNatClampNeg).toNatClampNeg) (v := (I 69 (I 9 a1.toNatClampNeg).toNatClampNeg)) dX7_planCrosser_24 (sk_69 _) (b7 c2) rfl rfl ?_
    refine g_iconst (v := 1) dX7_planCrosser_25 (by decide) ?_
    refine g_iload_n dX7_planCrosser_26 rfl rfl ?_
    refine g_ishl dX7_planCrosser_27 ?_
    refine g_ior dX7_planCrosser_28 ?_
    refine s_iast (j := (I 9 a1.toNatClampNeg).toNatClampNeg) dX7_planCrosser_29 (sk_69 _) (b8 c2) rfl ?_
    refine g_aload_n dX7_planCrosser_30 rfl rfl ?_
    refine rg_X2_6 (r := 15) dX7_planCrosser_31 lf_X7_82 (sk_8 _) rfl ?_
    refine g_iload_n dX7_planCrosser_34 rfl rfl ?_
    refine s_iald (j := a1.toNatClampNeg) (v := (I 15 a1.toNatClampNeg)) dX7_planCrosser_35 (sk_15 _) (b9 c2) rfl (rd_ne (by decide) rfl) ?_
    refine g_iconst (v := 1) dX7_planCrosser_36 (by decide) ?_
    refine g_icmp_ne (tgt := 91) dX7_planCrosser_37 (by decide) (fun c5 => ?_) (fun c6 => ?_)
    · skip
      exact g_vret rfl dX7_planCrosser_91 rfl (Nat.le_refl _) (q10 c2 c5)
    · skip
      refine g_sipush (v := 167) dX7_planCrosser_40 (by decide) ?_
      refine g_iload dX7_planCrosser_43 rfl ?_
      refine g_aload_n dX7_planCrosser_45 rfl rfl ?_
      refine rg_X2_7 (r := 16) dX7_planCrosser_46 lf_X7_85 (sk_8 _) rfl ?_
      refine g_iload_n dX7_planCrosser_49 rfl rfl ?_
      refine s_iald (j := a1.toNatClampNeg) (v := (I 16 a1.toNatClampNeg)) dX7_planCrosser_50 (sk_16 _) (b11 c2 c6) rfl (rd_ne (by decide) rfl) ?_
      refine g_iadd dX7_planCrosser_51 ?_
      refine g_iload_n dX7_planCrosser_52 rfl rfl ?_
      refine s_max (by simp [Value.category]) dX7_planCrosser_53 lm_X7_88 ?_
      refine s_min (by simp [Value.category]) dX7_planCrosser_56 lm_X7_94 ?_
      refine s_istore (L' := [.ref 66, .ref 8, .int a1, .int a2, .int (I 9 a1.toNatClampNeg), .int (if (if ((I 9 a1.toNatClampNeg) + (I 16 a1.toNatClampNeg)) < a2 then a2 else ((I 9 a1.toNatClampNeg) + (I 16 a1.toNatClampNeg))) < 167 then (if ((I 9 a1.toNatClampNeg) + (I 16 a1.toNatClampNeg)) < a2 then a2 else ((I 9 a1.toNatClampNeg) + (I 16 a1.toNatClampNeg))) else 167), .retAddr 0]) dX7_planCrosser_59 (by decide) rfl rfl ?_
      refine g_iload dX7_planCrosser_61 rfl ?_
      refine s_istore (L' := [.ref 66, .ref 8, .int a1, .int a2, .int (I 9 a1.toNatClampNeg), .int (if (if ((I 9 a1.toNatClampNeg) + (I 16 a1.toNatClampNeg)) < a2 then a2 else ((I 9 a1.toNatClampNeg) + (I 16 a1.toNatClampNeg))) < 167 then (if ((I 9 a1.toNatClampNeg) + (I 16 a1.toNatClampNeg)) < a2 then a2 else ((I 9 a1.toNatClampNeg) + (I 16 a1.toNatClampNeg))) else 167), .int (I 9 a1.toNatClampNeg)]) dX7_planCrosser_63 (by decide) rfl rfl ?_
      exact e12 c2 c6
set_option maxRecDepth 10000 in
set_option maxHeartbeats 1000000 in
theorem sg_X7_planCrosser_65 {l : Launch} {d : Nat} {Q : Option Value → mx_H → Prop} {c : Nat} {I : mx_I} (x1 : Int32) (x2 : Int32) (x3 : Int32) (x4 : Int32) (x5 : Int32)
    (q1 : (x4 < x5) → Q none (sk0 c, I))
    (b2 : (¬ x4 < x5) → vp_in x5 168)
    (b3 : (¬ x4 < x5) → vp_in x5 168)
    (e4 : (¬ x4 < x5) → mx_Go l (mx_rm (d + 1) 0 0) mX7_planCrosser (mx_Z Q 0 0) 0 0 65 [.ref 66, .ref 8, .int x1, .int x2, .int x3, .int x4, .int (x5 + 1)] [] (sk0 c, (mx_set I 69 x5.toNatClampNeg ((I 69 x5.toNatClampNeg) ||| (1 <<< (x1 &&& 31)))))) :
    mx_Go l (mx_rm (d + 1) 0 0) mX7_planCrosser (mx_Z Q 0 0) 0 0 65 [.ref 66, .ref 8, .int x1, .int x2, .int x3, .int x4, .int x5] [] (sk0 c, I) := by
  refine g_iload dX7_planCrosser_65 rfl ?_
  refine g_iload dX7_planCrosser_67 rfl ?_
  refine g_icmp_gt (tgt := 91) dX7_planCrosser_69 (by decide) (fun c1 => ?_) (fun c2 => ?_)
  · skip
    exact g_vret rfl dX7_planCrosser_91 rfl (Nat.le_refl _) (q1 c1)
  · skip
    refine g_aload_n dX7_planCrosser_72 rfl rfl ?_
    refine rg_X7_2 (r := 69) dX7_planCrosser_73 lf_X7_18 (sk_66 _) rfl ?_
    refine g_iload dX7_planCrosser_76 rfl ?_
    refine g_dup2 dX7_planCrosser_78 rfl rfl ?_
    refine s_iald (j := x5.toNatClampNeg) (v := (I 69 x5.toNatClampNeg)) dX7_planCrosser_79 (sk_69 _) (b2 c2) rfl rfl ?_
    refine g_iconst (v := 1) dX7_planCrosser_80 (by decide) ?_
    refine g_iload_n dX7_planCrosser_81 rfl rfl ?_
    refine g_ishl dX7_planCrosser_82 ?_
    refine g_ior dX7_planCrosser_83 ?_
    refine s_iast (j := x5.toNatClampNeg) dX7_planCrosser_84 (sk_69 _) (b3 c2) rfl ?_
    refine s_iinc (v := (x5 + 1)) (L' := [.ref 66, .ref 8, .int x1, .int x2, .int x3, .int x4, .int (x5 + 1)]) dX7_planCrosser_85 rfl (by decide) rfl rfl rfl ?_
    refine g_goto (tgt := 65) dX7_planCrosser_88 (by decide) ?_
    exact e4 c2
