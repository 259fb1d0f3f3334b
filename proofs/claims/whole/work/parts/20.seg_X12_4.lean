set_option maxRecDepth 10000 in
set_option maxHeartbeats 1000000 in
theorem sg_X12_goWith_179 {l : Launch} {d : Nat} {Q : Option Value → mx_H → Prop} {c : Nat} {I : mx_I} (x1 : Int32) (x2 : Int32) (x3 : Int32) (x4 : Int32)
    (b1 : vp_in ((1540 + (3 * x3)) + 2) 2490)
    (e2 : (¬ x4 = (I 121 ((1540 + (3 * x3)) + 2).toNatClampNeg)) → mx_Go l (mx_rm (d + 1) 0 0) mX12_goWith (mx_Z Q 0 0) 0 0 123 [.ref 120, .int x1, .int 0, .int (x3 + 1)] [] (sk0 c, I))
    (e3 : (x4 = (I 121 ((1540 + (3 * x3)) + 2).toNatClampNeg)) → mx_Go l (mx_rm (d + 1) 0 0) mX12_goWith (mx_Z Q 0 0) 0 0 123 [.ref 120, .int x1, .int 1, .int (x3 + 1)] [] (sk0 c, I)) :
    mx_Go l (mx_rm (d + 1) 0 0) mX12_goWith (mx_Z Q 0 0) 0 0 179 [.ref 120, .int x1, .int x2, .int x3] [.int x4] (sk0 c, I) := by
  refine g_aload_n dX12_goWith_179 rfl rfl ?_
  refine rg_X12_0 (r := 121) dX12_goWith_180 lf_X12_7 (sk_120 _) rfl ?_
  refine g_sipush (v := 1540) dX12_goWith_183 (by decide) ?_
  refine g_iconst (v := 3) dX12_goWith_186 (by decide) ?_
  refine g_iload_n dX12_goWith_187 rfl rfl ?_
  refine g_imul dX12_goWith_188 ?_
  refine g_iadd dX12_goWith_189 ?_
  refine g_iconst (v := 2) dX12_goWith_190 (by decide) ?_
  refine g_iadd dX12_goWith_191 ?_
  refine s_iald (j := ((1540 + (3 * x3)) + 2).toNatClampNeg) (v := (I 121 ((1540 + (3 * x3)) + 2).toNatClampNeg)) dX12_goWith_192 (sk_121 _) (b1) rfl rfl ?_
  refine g_icmp_ne (tgt := 200) dX12_goWith_193 (by decide) (fun c1 => ?_) (fun c2 => ?_)
  · skip
    refine g_iconst (v := 0) dX12_goWith_200 (by decide) ?_
    refine s_istore_n (L' := [.ref 120, .int x1, .int 0, .int x3]) dX12_goWith_201 rfl (by decide) rfl rfl ?_
    refine s_iinc (v := (x3 + 1)) (L' := [.ref 120, .int x1, .int 0, .int (x3 + 1)]) dX12_goWith_202 rfl (by decide) rfl rfl rfl ?_
    refine g_goto (tgt := 123) dX12_goWith_205 (by decide) ?_
    exact e2 c1
  · skip
    refine g_iconst (v := 1) dX12_goWith_196 (by decide) ?_
    refine g_goto (tgt := 201) dX12_goWith_197 (by decide) ?_
    refine s_istore_n (L' := [.ref 120, .int x1, .int 1, .int x3]) dX12_goWith_201 rfl (by decide) rfl rfl ?_
    refine s_iinc (v := (x3 + 1)) (L' := [.ref 120, .int x1, .int 1, .int (x3 + 1)]) dX12_goWith_202 rfl (by decide) rfl rfl rfl ?_
    refine g_goto (tgt := 123) dX12_goWith_205 (by decide) ?_
    exact e3 c2
set_option maxRecDepth 10000 in
set_option maxHeartbeats 1000000 in
theorem sn_X12_night {l : Launch} {d : Nat} {Q : Option Value → mx_H → Prop} {c : Nat} {I : mx_I} (a1 : Int32)
    (e1 : mx_Go l (mx_rm (d + 1) 0 0) mX12_night (mx_Z Q 0 0) 0 0 7 [.ref 120, .int a1, .int 0, .int 0, .int 0, .retAddr 0, .retAddr 0, .retAddr 0, .retAddr 0, .retAddr 0] [] (sk0 c, I)) :
    mx_Spec l mX12_night (d + 1) 0 0 [.ref 120, .int a1] (sk0 c, I) Q := by
  refine mx_enter rfl (by simp [Value.category]) (Nat.le_of_ble_eq_true rfl) ?_
  change mx_Go l (mx_rm (d + 1) 0 0) mX12_night (mx_Z Q 0 0) 0 0 0 [.ref 120, .int a1, .retAddr 0, .retAddr 0, .retAddr 0, .retAddr 0, .retAddr 0, .retAddr 0, .retAddr 0, .retAddr 0] [] (sk0 c, I)
  refine g_iconst (v := 0) dX12_night_0 (by decide) ?_
  refine s_istore_n (L' := [.ref 120, .int a1, .int 0, .retAddr 0, .retAddr 0, .retAddr 0, .retAddr 0, .retAddr 0, .retAddr 0, .retAddr 0]) dX12_night_1 rfl (by decide) rfl rfl ?_
  refine g_iconst (v := 0) dX12_night_2 (by decide) ?_
  refine s_istore_n (L' := [.ref 120, .int a1, .int 0, .int 0, .retAddr 0, .retAddr 0, .retAddr 0, .retAddr 0, .retAddr 0, .retAddr 0]) dX12_night_3 rfl (by decide) rfl rfl ?_
  refine g_iconst (v := 0) dX12_night_4 (by decide) ?_
  refine s_istore (L' := [.ref 120, .int a1, .int 0, .int 0, .int 0, .retAddr 0, .retAddr 0, .retAddr 0, .retAddr 0, .retAddr 0]) dX12_night_5 (by decide) rfl rfl ?_
  exact e1
set_option maxRecDepth 10000 in
set_option maxHeartbeats 1000000 in
theorem sg_X12_night_7 {l : Launch} {d : Nat} {Q : Option Value → mx_H → Prop} {c : Nat} {I : mx_I} (x1 : Int32) (x2 : Int32) (x3 : Int32) (x4 : Int32)
    (k1 : ((I 121 3) ≤ x4) → mx_K1 l mX12_isIn d [.int x1, .int 0, .int 2] (sk0 c, I) (fun r h' => mx_Go l (mx_rm (d + 1) 0 0) mX12_night (mx_Z Q 0 0) 0 0 70 [.ref 120, .int x1, .int x2, .int x3, .int x4, .retAddr 0, .retAddr 0, .retAddr 0, .retAddr 0, .retAddr 0] (r.toList ++ []) h'))
    (k2 : (¬ (I 121 3) ≤ x4) → mx_K1 l mX12_ofOne d [.ref 120, .int x4, .int 11] (sk0 c, I) (fun r h' => mx_Go l (mx_rm (d + 1) 0 0) mX12_night (mx_Z Q 0 0) 0 0 26 [.ref 120, .int x1, .int x2, .int x3, .int x4, .retAddr 0, .retAddr 0, .retAddr 0, .retAddr 0, .retAddr 0] (r.toList ++ []) h')) :
    mx_Go l (mx_rm (d + 1) 0 0) mX12_night (mx_Z Q 0 0) 0 0 7 [.ref 120, .int x1, .int x2, .int x3, .int x4, .retAddr 0, .retAddr 0, .retAddr 0, .retAddr 0, .retAddr 0] [] (sk0 c, I) := by
  refine g_iload dX12_night_7 rfl ?_
  refine g_aload_n dX12_night_9 rfl rfl ?_
  refine rg_X12_0 (r := 121) dX12_night_10 lf_X12_7 (sk_120 _) rfl ?_
  refine g_iconst (v := 3) dX12_night_13 (by decide) ?_
  refine s_iald (j := 3) (v := (I 121 3)) dX12_night_14 (sk_121 _) (by unfold vp_in; decide) (by decide) rfl ?_
  refine g_icmp_ge (tgt := 64) dX12_night_15 (by decide) (fun c1 => ?_) (fun c2 => ?_)
  · skip
    refine g_iload_n dX12_night_64 rfl rfl ?_
    refine g_iconst (v := 0) dX12_night_65 (by decide) ?_
    refine g_iconst (v := 2) dX12_night_66 (by decide) ?_
    exact s_callS (M' := mX12_isIn) (As := [.int x1, .int 0, .int 2]) (st := []) dX12_night_67 lm_X12_50 okX12_isIn osX12_isIn (by simp [Value.category]) (by decide) rfl (k1 c1)
  · skip
    refine g_aload_n dX12_night_18 rfl rfl ?_
    refine g_iload dX12_night_19 rfl ?_
    refine g_bipush (v := 11) dX12_night_21 (by decide) ?_
    exact s_callV (M' := mX12_ofOne) (As := [.int x4, .int 11]) (st := []) dX12_night_23 lm_X12_80 ovX12_ofOne (h := (sk0 c, I)) (sk_120 _) (show vwCl[12]? = some _ from rfl) rfl (by simp [Value.category]) (by decide) rfl (k2 c2)
set_option maxRecDepth 10000 in
set_option maxHeartbeats 1000000 in
theorem sg_X12_night_70 {l : Launch} {d : Nat} {Q : Option Value → mx_H → Prop} {c : Nat} {I : mx_I} (x1 : Int32) (x2 : Int32) (x3 : Int32) (x4 : Int32) (x5 : Int32)
    (e1 : (¬ x5 = 0) → mx_Go l (mx_rm (d + 1) 0 0) mX12_night (mx_Z Q 0 0) 0 0 87 [.ref 120, .int x1, .int x2, .int x3, .int 0, .int 0, .int (-1), .int 0, .retAddr 0, .retAddr 0] [] (sk0 c, I))
    (q2 : (x5 = 0) → Q (some (.int (-1))) (sk0 c, I)) :
    mx_Go l (mx_rm (d + 1) 0 0) mX12_night (mx_Z Q 0 0) 0 0 70 [.ref 120, .int x1, .int x2, .int x3, .int x4, .retAddr 0, .retAddr 0, .retAddr 0, .retAddr 0, .retAddr 0] [.int x5] (sk0 c, I) := by
  refine g_if_ne (tgt := 75) dX12_night_70 (by decide) (fun c1 => ?_) (fun c2 => ?_)
  · skip
    refine g_iconst (v := 0) dX12_night_75 (by decide) ?_
    refine s_istore (L' := [.ref 120, .int x1, .int x2, .int x3, .int 0, .retAddr 0, .retAddr 0, .retAddr 0, .retAddr 0, .retAddr 0]) dX12_night_76 (by decide) rfl rfl ?_
    refine g_iconst (v := 0) dX12_night_78 (by decide) ?_
    refine s_istore (L' := [.ref 120, .int x1, .int x2, .int x3, .int 0, .int 0, .retAddr 0, .retAddr 0, .retAddr 0, .retAddr 0]) dX12_night_79 (by decide) rfl rfl ?_
    refine g_iconst (v := (-1)) dX12_night_81 (by decide) ?_
    refine s_istore (L' := [.ref 120, .int x1, .int x2, .int x3, .int 0, .int 0, .int (-1), .retAddr 0, .retAddr 0, .retAddr 0]) dX12_night_82 (by decide) rfl rfl ?_
    refine g_iconst (v := 0) dX12_night_84 (by decide) ?_
    refine s_istore (L' := [.ref 120, .int x1, .int x2, .int x3, .int 0, .int 0, .int (-1), .int 0, .retAddr 0, .retAddr 0]) dX12_night_85 (by decide) rfl rfl ?_
    exact e1 c1
  · skip
    refine g_iconst (v := (-1)) dX12_night_73 (by decide) ?_
    exact g_iret rfl dX12_night_74 rfl (Nat.le_refl _) (q2 c2)
set_option maxRecDepth 10000 in
set_option maxHeartbeats 1000000 in
theorem sg_X12_night_26 {l : Launch} {d : Nat} {Q : Option Value → mx_H → Prop} {c : Nat} {I : mx_I} (x1 : Int32) (x2 : Int32) (x3 : Int32) (x4 : Int32) (x5 : Int32)
    (b1 : (¬ x5 = 0) → (¬ x2 = 8) → vp_in x2 8)
    (e2 : (¬ x5 = 0) → (¬ x2 = 8) → mx_Go l (mx_rm (d + 1) 0 0) mX12_night (mx_Z Q 0 0) 0 0 7 [.ref 120, .int x1, .int (x2 + 1), .int (x3 ||| (1 <<< (x4 &&& 31))), .int (x4 + 1), .retAddr 0, .retAddr 0, .retAddr 0, .retAddr 0, .retAddr 0] [] (sk0 c, (mx_set I 131 x2.toNatClampNeg x4)))
    (q3 : (¬ x5 = 0) → (x2 = 8) → Q (some (.int (-1))) (sk0 c, I))
    (e4 : (x5 = 0) → mx_Go l (mx_rm (d + 1) 0 0) mX12_night (mx_Z Q 0 0) 0 0 7 [.ref 120, .int x1, .int x2, .int x3, .int (x4 + 1), .retAddr 0, .retAddr 0, .retAddr 0, .retAddr 0, .retAddr 0] [] (sk0 c, I)) :
    mx_Go l (mx_rm (d + 1) 0 0) mX12_night (mx_Z Q 0 0) 0 0 26 [.ref 120, .int x1, .int x2, .int x3, .int x4, .retAddr 0, .retAddr 0, .retAddr 0, .retAddr 0, .retAddr 0] [.int x5] (sk0 c, I) := by
  refine g_if_ne (tgt := 32) dX12_night_26 (by decide) (fun c1 => ?_) (fun c2 => ?_)
  · skip
    refine g_iload_n dX12_night_32 rfl rfl ?_
    refine g_bipush (v := 8) dX12_night_33 (by decide) ?_
    refine g_icmp_ne (tgt := 40) dX12_night_35 (by decide) (fun c3 => ?_) (fun c4 => ?_)
    · skip
      refine g_aload_n dX12_night_40 rfl rfl ?_
      refine rg_X12_32 (r := 131) dX12_night_41 lf_X12_47 (sk_120 _) rfl ?_
      refine g_iload_n dX12_night_44 rfl rfl ?_
      refine g_iload dX12_night_45 rfl ?_
      refine s_iast (j := x2.toNatClampNeg) dX12_night_47 (sk_131 _) (b1 c1 c3) rfl ?_
      refine g_iload_n dX12_night_48 rfl rfl ?_
      refine g_iconst (v := 1) dX12_night_49 (by decide) ?_
      refine g_iload dX12_night_50 rfl ?_
      refine g_ishl dX12_night_52 ?_
      refine g_ior dX12_night_53 ?_
      refine s_istore_n (L' := [.ref 120, .int x1, .int x2, .int (x3 ||| (1 <<< (x4 &&& 31))), .int x4, .retAddr 0, .retAddr 0, .retAddr 0, .retAddr 0, .retAddr 0]) dX12_night_54 rfl (by decide) rfl rfl ?_
      refine s_iinc (v := (x2 + 1)) (L' := [.ref 120, .int x1, .int (x2 + 1), .int (x3 ||| (1 <<< (x4 &&& 31))), .int x4, .retAddr 0, .retAddr 0, .retAddr 0, .retAddr 0, .retAddr 0]) dX12_night_55 rfl (by decide) rfl rfl rfl ?_
      refine s_iinc (v := (x4 + 1)) (L' := [.ref 120, .int x1, .int (x2 + 1), .int (x3 ||| (1 <<< (x4 &&& 31))), .int (x4 + 1), .retAddr 0, .retAddr 0, .retAddr 0, .retAddr 0, .retAddr 0]) dX12_night_58 rfl (by decide) rfl rfl rfl ?_
      refine g_goto (tgt := 7) dX12_night_61 (by decide) ?_
      exact e2 c1 c3
    · skip
      refine g_iconst (v := (-1)) dX12_night_38 (by decide) ?_
      exact g_iret rfl dX12_night_39 rfl (Nat.le_refl _) (q3 c1 c4)
  · skip
    refine g_goto (tgt := 58) dX12_night_29 (by decide) ?_
    refine s_iinc (v := (x4 + 1)) (L' := [.ref 120, .int x1, .int x2, .int x3, .int (x4 + 1), .retAddr 0, .retAddr 0, .retAddr 0, .retAddr 0, .retAddr 0]) dX12_night_58 rfl (by decide) rfl rfl rfl ?_
    refine g_goto (tgt := 7) dX12_night_61 (by decide) ?_
    exact e4 c2
set_option maxRecDepth 10000 in
set_option maxHeartbeats 1000000 in
theorem sg_X12_night_87 {l : Launch} {d : Nat} {Q : Option Value → mx_H → Prop} {c : Nat} {I : mx_I} (x1 : Int32) (x2 : Int32) (x3 : Int32) (x4 : Int32) (x5 : Int32) (x6 : Int32) (x7 : Int32)
    (q1 : ((1 <<< (x2 &&& 31)) ≤ x7) → (¬ x1 = 0) → (¬ x1 = 1) → Q (some (.int x6)) (sk0 c, I))
    (q2 : ((1 <<< (x2 &&& 31)) ≤ x7) → (¬ x1 = 0) → (x1 = 1) → Q (some (.int x5)) (sk0 c, I))
    (q3 : ((1 <<< (x2 &&& 31)) ≤ x7) → (x1 = 0) → Q (some (.int x4)) (sk0 c, I))
    (e4 : (¬ (1 <<< (x2 &&& 31)) ≤ x7) → mx_Go l (mx_rm (d + 1) 0 0) mX12_night (mx_Z Q 0 0) 0 0 101 [.ref 120, .int x1, .int x2, .int x3, .int x4, .int x5, .int x6, .int x7, .int 0, .int 0] [] (sk0 c, I)) :
    mx_Go l (mx_rm (d + 1) 0 0) mX12_night (mx_Z Q 0 0) 0 0 87 [.ref 120, .int x1, .int x2, .int x3, .int x4, .int x5, .int x6, .int x7, .retAddr 0, .retAddr 0] [] (sk0 c, I) := by
  refine g_iload dX12_night_87 rfl ?_
  refine g_iconst (v := 1) dX12_night_89 (by decide) ?_
  refine g_iload_n dX12_night_90 rfl rfl ?_
  refine g_ishl dX12_night_91 ?_
  refine g_icmp_ge (tgt := 198) dX12_night_92 (by decide) (fun c1 => ?_) (fun c2 => ?_)
  · skip
    refine g_iload_n dX12_night_198 rfl rfl ?_
    refine g_if_ne (tgt := 207) dX12_night_199 (by decide) (fun c3 => ?_) (fun c4 => ?_)
    · skip
      refine g_iload_n dX12_night_207 rfl rfl ?_
      refine g_iconst (v := 1) dX12_night_208 (by decide) ?_
      refine g_icmp_ne (tgt := 217) dX12_night_209 (by decide) (fun c5 => ?_) (fun c6 => ?_)
      · skip
        refine g_iload dX12_night_217 rfl ?_
        exact g_iret rfl dX12_night_219 rfl (Nat.le_refl _) (q1 c1 c3 c5)
      · skip
        refine g_iload dX12_night_212 rfl ?_
        refine g_goto (tgt := 219) dX12_night_214 (by decide) ?_
        exact g_iret rfl dX12_night_219 rfl (Nat.le_refl _) (q2 c1 c3 c6)
    · skip
      refine g_iload dX12_night_202 rfl ?_
      refine g_goto (tgt := 219) dX12_night_204 (by decide) ?_
      exact g_iret rfl dX12_night_219 rfl (Nat.le_refl _) (q3 c1 c4)
  · skip
    refine g_iconst (v := 0) dX12_night_95 (by decide) ?_
    refine s_istore (L' := [.ref 120, .int x1, .int x2, .int x3, .int x4, .int x5, .int x6, .int x7, .int 0, .retAddr 0]) dX12_night_96 (by decide) rfl rfl ?_
    refine g_iconst (v := 0) dX12_night_98 (by decide) ?_
    refine s_istore (L' := [.ref 120, .int x1, .int x2, .int x3, .int x4, .int x5, .int x6, .int x7, .int 0, .int 0]) dX12_night_99 (by decide) rfl rfl ?_
    exact e4 c2
set_option maxRecDepth 10000 in
set_option maxHeartbeats 1000000 in
theorem sg_X12_night_101 {l : Launch} {d : Nat} {Q : Option Value → mx_H → Prop} {c : Nat} {I : mx_I} (x1 : Int32) (x2 : Int32) (x3 : Int32) (x4 : Int32) (x5 : Int32) (x6 : Int32) (x7 : Int32) (x8 : Int32) (x9 : Int32)
    (k1 : (x2 ≤ x9) → mx_K1 l mX12_goWith d [.ref 120, .int (x3 &&& (x8 ^^^ (-1)))] (sk0 c, I) (fun r h' => mx_Go l (mx_rm (d + 1) 0 0) mX12_night (mx_Z Q 0 0) 0 0 152 [.ref 120, .int x1, .int x2, .int x3, .int x4, .int x5, .int x6, .int x7, .int x8, .int x9] (r.toList ++ []) h'))
    (e2 : (¬ x2 ≤ x9) → (¬ ((x7 >>> (x9 &&& 31)) &&& 1) = 1) → mx_Go l (mx_rm (d + 1) 0 0) mX12_night (mx_Z Q 0 0) 0 0 101 [.ref 120, .int x1, .int x2, .int x3, .int x4, .int x5, .int x6, .int x7, .int (x8 ||| 0), .int (x9 + 1)] [] (sk0 c, I))
    (b3 : (¬ x2 ≤ x9) → (((x7 >>> (x9 &&& 31)) &&& 1) = 1) → vp_in x9 8)
    (e4 : (¬ x2 ≤ x9) → (((x7 >>> (x9 &&& 31)) &&& 1) = 1) → mx_Go l (mx_rm (d + 1) 0 0) mX12_night (mx_Z Q 0 0) 0 0 101 [.ref 120, .int x1, .int x2, .int x3, .int x4, .int x5, .int x6, .int x7, .int (x8 ||| (1 <<< ((I 131 x9.toNatClampNeg) &&& 31))), .int (x9 + 1)] [] (sk0 c, I)) :
    mx_Go l (mx_rm (d + 1) 0 0) mX12_night (mx_Z Q 0 0) 0 0 101 [.ref 120, .int x1, .int x2, .int x3, .int x4, .int x5, .int x6, .int x7, .int x8, .int x9] [] (sk0 c, I) := by
  refine g_iload dX12_night_101 rfl ?_
  refine g_iload_n dX12_night_103 rfl rfl ?_
  refine g_icmp_ge (tgt := 142) dX12_night_104 (by decide) (fun c1 => ?_) (fun c2 => ?_)
  · skip
    refine g_aload_n dX12_night_142 rfl rfl ?_
    refine g_iload_n dX12_night_143 rfl rfl ?_
    refine g_iload dX12_night_144 rfl ?_
    refine g_iconst (v := (-1)) dX12_night_146 (by decide) ?_
    refine g_ixor dX12_night_147 ?_
    refine g_iand dX12_night_148 ?_
    exact s_callV (M' := mX12_goWith) (As := [.int (x3 &&& (x8 ^^^ (-1)))]) (st := []) dX12_night_149 lm_X12_309 ovX12_goWith (h := (sk0 c, I)) (sk_120 _) (show vwCl[12]? = some _ from rfl) rfl (by simp [Value.category]) (by decide) rfl (k1 c1)
  · skip
    refine g_iload dX12_night_107 rfl ?_
    refine g_iload dX12_night_109 rfl ?_
    refine g_iload dX12_night_111 rfl ?_
    refine g_ishr dX12_night_113 ?_
    refine g_iconst (v := 1) dX12_night_114 (by decide) ?_
    refine g_iand dX12_night_115 ?_
    refine g_iconst (v := 1) dX12_night_116 (by decide) ?_
    refine g_icmp_ne (tgt := 132) dX12_night_117 (by decide) (fun c3 => ?_) (fun c4 => ?_)
    · skip
      refine g_iconst (v := 0) dX12_night_132 (by decide) ?_
      refine g_ior dX12_night_133 ?_
      refine s_istore (L' := [.ref 120, .int x1, .int x2, .int x3, .int x4, .int x5, .int x6, .int x7, .int (x8 ||| 0), .int x9]) dX12_night_134 (by decide) rfl rfl ?_
      refine s_iinc (v := (x9 + 1)) (L' := [.ref 120, .int x1, .int x2, .int x3, .int x4, .int x5, .int x6, .int x7, .int (x8 ||| 0), .int (x9 + 1)]) dX12_night_136 rfl (by decide) rfl rfl rfl ?_
      refine g_goto (tgt := 101) dX12_night_139 (by decide) ?_
      exact e2 c2 c3
    · skip
      refine g_iconst (v := 1) dX12_night_120 (by decide) ?_
      refine g_aload_n dX12_night_121 rfl rfl ?_
      refine rg_X12_32 (r := 131) dX12_night_122 lf_X12_47 (sk_120 _) rfl ?_
      refine g_iload dX12_night_125 rfl ?_
      refine s_iald (j := x9.toNatClampNeg) (v := (I 131 x9.toNatClampNeg)) dX12_night_127 (sk_131 _) (b3 c2 c4) rfl rfl ?_
      refine g_ishl dX12_night_128 ?_
      refine g_goto (tgt := 133) dX12_night_129 (by decide) ?_
      refine g_ior dX12_night_133 ?_
      refine s_istore (L' := [.ref 120, .int x1, .int x2, .int x3, .int x4, .int x5, .int x6, .int x7, .int (x8 ||| (1 <<< ((I 131 x9.toNatClampNeg) &&& 31))), .int x9]) dX12_night_134 (by decide) rfl rfl ?_
      refine s_iinc (v := (x9 + 1)) (L' := [.ref 120, .int x1, .int x2, .int x3, .int x4, .int x5, .int x6, .int x7, .int (x8 ||| (1 <<< ((I 131 x9.toNatClampNeg) &&& 31))), .int (x9 + 1)]) dX12_night_136 rfl (by decide) rfl rfl rfl ?_
      refine g_goto (tgt := 101) dX12_night_139 (by decide) ?_
      exact e4 c2 c4
set_option maxRecDepth 10000 in
set_option maxHeartbeats 1000000 in
theorem sg_X12_night_152 {l : Launch} {d : Nat} {Q : Option Value → mx_H → Prop} {c : Nat} {I : mx_I} (x1 : Int32) (x2 : Int32) (x3 : Int32) (x4 : Int32) (x5 : Int32) (x6 : Int32) (x7 : Int32) (x8 : Int32) (x9 : Int32) (x10 : Int32)
    (e1 : (¬ x10 = 0) → (¬ x4 = 0) → (¬ x4 = 0) → mx_Go l (mx_rm (d + 1) 0 0) mX12_night (mx_Z Q 0 0) 0 0 87 [.ref 120, .int x1, .int x2, .int x3, .int (x4 + 1), .int (x5 &&& x8), .int x6, .int (x7 + 1), .int x8, .int x9] [] (sk0 c, I))
    (e2 : (¬ x10 = 0) → (¬ x4 = 0) → (x4 = 0) → mx_Go l (mx_rm (d + 1) 0 0) mX12_night (mx_Z Q 0 0) 0 0 87 [.ref 120, .int x1, .int x2, .int x3, .int (x4 + 1), .int (x5 &&& x8), .int x8, .int (x7 + 1), .int x8, .int x9] [] (sk0 c, I))
    (e3 : (¬ x10 = 0) → (x4 = 0) → (¬ x4 = 0) → mx_Go l (mx_rm (d + 1) 0 0) mX12_night (mx_Z Q 0 0) 0 0 87 [.ref 120, .int x1, .int x2, .int x3, .int (x4 + 1), .int x8, .int x6, .int (x7 + 1), .int x8, .int x9] [] (sk0 c, I))
    (e4 : (¬ x10 = 0) → (x4 = 0) → (x4 = 0) → mx_Go l (mx_rm (d + 1) 0 0) mX12_night (mx_Z Q 0 0) 0 0 87 [.ref 120, .int x1, .int x2, .int x3, .int (x4 + 1), .int x8, .int x8, .int (x7 + 1), .int x8, .int x9] [] (sk0 c, I))
    (e5 : (x10 = 0) → mx_Go l (mx_rm (d + 1) 0 0) mX12_night (mx_Z Q 0 0) 0 0 87 [.ref 120, .int x1, .int x2, .int x3, .int x4, .int x5, .int x6, .int (x7 + 1), .int x8, .int x9] [] (sk0 c, I)) :
    mx_Go l (mx_rm (d + 1) 0 0) mX12_night (mx_Z Q 0 0) 0 0 152 [.ref 120, .int x1, .int x2, .int x3, .int x4, .int x5, .int x6, .int x7, .int x8, .int x9] [.int x10] (sk0 c, I) := by
  refine g_if_ne (tgt := 158) dX12_night_152 (by decide) (fun c1 => ?_) (fun c2 => ?_)
  · skip
    refine g_iload dX12_night_158 rfl ?_
    refine g_if_ne (tgt := 168) dX12_night_160 (by decide) (fun c3 => ?_) (fun c4 => ?_)
    · skip
      refine g_iload dX12_night_168 rfl ?_
      refine g_iload dX12_night_170 rfl ?_
      refine g_iand dX12_night_172 ?_
      refine s_istore (L' := [.ref 120, .int x1, .int x2, .int x3, .int x4, .int (x5 &&& x8), .int x6, .int x7, .int x8, .int x9]) dX12_night_173 (by decide) rfl rfl ?_
      refine g_iload dX12_night_175 rfl ?_
      refine g_if_ne (tgt := 185) dX12_night_177 (by decide) (fun c5 => ?_) (fun c6 => ?_)
      · skip
        refine g_iload dX12_night_185 rfl ?_
        refine s_istore (L' := [.ref 120, .int x1, .int x2, .int x3, .int x4, .int (x5 &&& x8), .int x6, .int x7, .int x8, .int x9]) dX12_night_187 (by decide) rfl rfl ?_
        refine s_iinc (v := (x4 + 1)) (L' := [.ref 120, .int x1, .int x2, .int x3, .int (x4 + 1), .int (x5 &&& x8), .int x6, .int x7, .int x8, .int x9]) dX12_night_189 rfl (by decide) rfl rfl rfl ?_
        refine s_iinc (v := (x7 + 1)) (L' := [.ref 120, .int x1, .int x2, .int x3, .int (x4 + 1), .int (x5 &&& x8), .int x6, .int (x7 + 1), .int x8, .int x9]) dX12_night_192 rfl (by decide) rfl rfl rfl ?_
        refine g_goto (tgt := 87) dX12_night_195 (by decide) ?_
        exact e1 c1 c3 c5
      · skip
        refine g_iload dX12_night_180 rfl ?_
        refine g_goto (tgt := 187) dX12_night_182 (by decide) ?_
        refine s_istore (L' := [.ref 120, .int x1, .int x2, .int x3, .int x4, .int (x5 &&& x8), .int x8, .int x7, .int x8, .int x9]) dX12_night_187 (by decide) rfl rfl ?_
        refine s_iinc (v := (x4 + 1)) (L' := [.ref 120, .int x1, .int x2, .int x3, .int (x4 + 1), .int (x5 &&& x8), .int x8, .int x7, .int x8, .int x9]) dX12_night_189 rfl (by decide) rfl rfl rfl ?_
        refine s_iinc (v := (x7 + 1)) (L' := [.ref 120, .int x1, .int x2, .int x3, .int (x4 + 1), .int (x5 &&& x8), .int x8, .int (x7 + 1), .int x8, .int x9]) dX12_night_192 rfl (by decide) rfl rfl rfl ?_
        refine g_goto (tgt := 87) dX12_night_195 (by decide) ?_
        exact e2 c1 c3 c6
    · skip
      refine g_iload dX12_night_163 rfl ?_
      refine g_goto (tgt := 173) dX12_night_165 (by decide) ?_
      refine s_istore (L' := [.ref 120, .int x1, .int x2, .int x3, .int x4, .int x8, .int x6, .int x7, .int x8, .int x9]) dX12_night_173 (by decide) rfl rfl ?_
      refine g_iload dX12_night_175 rfl ?_
      refine g_if_ne (tgt := 185) dX12_night_177 (by decide) (fun c7 => ?_) (fun c8 => ?_)
      · skip
        refine g_iload dX12_night_185 rfl ?_
        refine s_istore (L' := [.ref 120, .int x1, .int x2, .int x3, .int x4, .int x8, .int x6, .int x7, .int x8, .int x9]) dX12_night_187 (by decide) rfl rfl ?_
        refine s_iinc (v := (x4 + 1)) (L' := [.ref 120, .int x1, .int x2, .int x3, .int (x4 + 1), .int x8, .int x6, .int x7, .int x8, .int x9]) dX12_night_189 rfl (by decide) rfl rfl rfl ?_
        refine s_iinc (v := (x7 + 1)) (L' := [.ref 120, .int x1, .int x2, .int x3, .int (x4 + 1), .int x8, .int x6, .int (x7 + 1), .int x8, .int x9]) dX12_night_192 rfl (by decide) rfl rfl rfl ?_
        refine g_goto (tgt := 87) dX12_night_195 (by decide) ?_
        exact e3 c1 c4 c7
      · skip
        refine g_iload dX12_night_180 rfl ?_
        refine g_goto (tgt := 187) dX12_night_182 (by decide) ?_
        refine s_istore (L' := [.ref 120, .int x1, .int x2, .int x3, .int x4, .int x8, .int x8, .int x7, .int x8, .int x9]) dX12_night_187 (by decide) rfl rfl ?_
        refine s_iinc (v := (x4 + 1)) (L' := [.ref 120, .int x1, .int x2, .int x3, .int (x4 + 1), .int x8, .int x8, .int x7, .int x8, .int x9]) dX12_night_189 rfl (by decide) rfl rfl rfl ?_
        refine s_iinc (v := (x7 + 1)) (L' := [.ref 120, .int x1, .int x2, .int x3, .int (x4 + 1), .int x8, .int x8, .int (x7 + 1), .int x8, .int x9]) dX12_night_192 rfl (by decide) rfl rfl rfl ?_
        refine g_goto (tgt := 87) dX12_night_195 (by decide) ?_
        exact e4 c1 c4 c8
  · skip
    refine g_goto (tgt := 192) dX12_night_155 (by decide) ?_
    refine s_iinc (v := (x7 + 1)) (L' := [.ref 120, .int x1, .int x2, .int x3, .int x4, .int x5, .int x6, .int (x7 + 1), .int x8, .int x9]) dX12_night_192 rfl (by decide) rfl rfl rfl ?_
    refine g_goto (tgt := 87) dX12_night_195 (by decide) ?_
    exact e5 c2
set_option maxRecDepth 10000 in
set_option maxHeartbeats 1000000 in
theorem sn_X12_chance {l : Launch} {d : Nat} {Q : Option Value → mx_H → Prop} {c : Nat} {I : mx_I} (a1 : Int32) (a2 : Int32) (a3 : Int32) (a4 : Int32)
    (k1 : mx_K1 l mX12_isIn d [.int a1, .int 0, .int 10] (sk0 c, I) (fun r h' => mx_Go l (mx_rm (d + 1) 0 0) mX12_chance (mx_Z Q 0 0) 0 0 7 [.ref 120, .int a1, .int a2, .int a3, .int a4, .retAddr 0, .retAddr 0, .retAddr 0, .retAddr 0, .retAddr 0, .retAddr 0, .retAddr 0, .retAddr 0] (r.toList ++ []) h')) :
    mx_Spec l mX12_chance (d + 1) 0 0 [.ref 120, .int a1, .int a2, .int a3, .int a4] (sk0 c, I) Q := by
  refine mx_enter rfl (by simp [Value.category]) (Nat.le_of_ble_eq_true rfl) ?_
  change mx_Go l (mx_rm (d + 1) 0 0) mX12_chance (mx_Z Q 0 0) 0 0 0 [.ref 120, .int a1, .int a2, .int a3, .int a4, .retAddr 0, .retAddr 0, .retAddr 0, .retAddr 0, .retAddr 0, .retAddr 0, .retAddr 0, .retAddr 0] [] (sk0 c, I)
  refine g_iload_n dX12_chance_0 rfl rfl ?_
  refine g_iconst (v := 0) dX12_chance_1 (by decide) ?_
  refine g_bipush (v := 10) dX12_chance_2 (by decide) ?_
  exact s_callS (M' := mX12_isIn) (As := [.int a1, .int 0, .int 10]) (st := []) dX12_chance_4 lm_X12_50 okX12_isIn osX12_isIn (by simp [Value.category]) (by decide) rfl (k1)
set_option maxRecDepth 10000 in
set_option maxHeartbeats 1000000 in
theorem sg_X12_chance_7 {l : Launch} {d : Nat} {Q : Option Value → mx_H → Prop} {c : Nat} {I : mx_I} (x1 : Int32) (x2 : Int32) (x3 : Int32) (x4 : Int32) (x5 : Int32)
    (q1 : (x5 = 0) → Q (some (.long (-1))) (sk0 c, I))
    (k2 : (¬ x5 = 0) → mx_K1 l mX12_isIn d [.int x2, .int 0, .int 10] (sk0 c, I) (fun r h' => mx_Go l (mx_rm (d + 1) 0 0) mX12_chance (mx_Z Q 0 0) 0 0 17 [.ref 120, .int x1, .int x2, .int x3, .int x4, .retAddr 0, .retAddr 0, .retAddr 0, .retAddr 0, .retAddr 0, .retAddr 0, .retAddr 0, .retAddr 0] (r.toList ++ []) h')) :
    mx_Go l (mx_rm (d + 1) 0 0) mX12_chance (mx_Z Q 0 0) 0 0 7 [.ref 120, .int x1, .int x2, .int x3, .int x4, .retAddr 0, .retAddr 0, .retAddr 0, .retAddr 0, .retAddr 0, .retAddr 0, .retAddr 0, .retAddr 0] [.int x5] (sk0 c, I) := by
  refine g_if_eq (tgt := 40) dX12_chance_7 (by decide) (fun c1 => ?_) (fun c2 => ?_)
  · skip
    refine g_ldc2 dX12_chance_40 lc_X12_312 ?_
    exact g_lret rfl dX12_chance_43 rfl (Nat.le_refl _) (q1 c1)
  · skip
    refine g_iload_n dX12_chance_10 rfl rfl ?_
    refine g_iconst (v := 0) dX12_chance_11 (by decide) ?_
    refine g_bipush (v := 10) dX12_chance_12 (by decide) ?_
    exact s_callS (M' := mX12_isIn) (As := [.int x2, .int 0, .int 10]) (st := []) dX12_chance_14 lm_X12_50 okX12_isIn osX12_isIn (by simp [Value.category]) (by decide) rfl (k2 c2)
set_option maxRecDepth 10000 in
set_option maxHeartbeats 1000000 in
theorem sg_X12_chance_17 {l : Launch} {d : Nat} {Q : Option Value → mx_H → Prop} {c : Nat} {I : mx_I} (x1 : Int32) (x2 : Int32) (x3 : Int32) (x4 : Int32) (x5 : Int32)
    (q1 : (x5 = 0) → Q (some (.long (-1))) (sk0 c, I))
    (k2 : (¬ x5 = 0) → mx_K1 l mX12_isIn d [.int x3, .int 1, .int 8] (sk0 c, I) (fun r h' => mx_Go l (mx_rm (d + 1) 0 0) mX12_chance (mx_Z Q 0 0) 0 0 27 [.ref 120, .int x1, .int x2, .int x3, .int x4, .retAddr 0, .retAddr 0, .retAddr 0, .retAddr 0, .retAddr 0, .retAddr 0, .retAddr 0, .retAddr 0] (r.toList ++ []) h')) :
    mx_Go l (mx_rm (d + 1) 0 0) mX12_chance (mx_Z Q 0 0) 0 0 17 [.ref 120, .int x1, .int x2, .int x3, .int x4, .retAddr 0, .retAddr 0, .retAddr 0, .retAddr 0, .retAddr 0, .retAddr 0, .retAddr 0, .retAddr 0] [.int x5] (sk0 c, I) := by
  refine g_if_eq (tgt := 40) dX12_chance_17 (by decide) (fun c1 => ?_) (fun c2 => ?_)
  · skip
    refine g_ldc2 dX12_chance_40 lc_X12_312 ?_
    exact g_lret rfl dX12_chance_43 rfl (Nat.le_refl _) (q1 c1)
  · skip
    refine g_iload_n dX12_chance_20 rfl rfl ?_
    refine g_iconst (v := 1) dX12_chance_21 (by decide) ?_
    refine g_bipush (v := 8) dX12_chance_22 (by decide) ?_
    exact s_callS (M' := mX12_isIn) (As := [.int x3, .int 1, .int 8]) (st := []) dX12_chance_24 lm_X12_50 okX12_isIn osX12_isIn (by simp [Value.category]) (by decide) rfl (k2 c2)
set_option maxRecDepth 10000 in
set_option maxHeartbeats 1000000 in
theorem sg_X12_chance_27 {l : Launch} {d : Nat} {Q : Option Value → mx_H → Prop} {c : Nat} {I : mx_I} (x1 : Int32) (x2 : Int32) (x3 : Int32) (x4 : Int32) (x5 : Int32)
    (q1 : (x5 = 0) → Q (some (.long (-1))) (sk0 c, I))
    (k2 : (¬ x5 = 0) → mx_K1 l mX12_isIn d [.int x4, .int 0, .int 1] (sk0 c, I) (fun r h' => mx_Go l (mx_rm (d + 1) 0 0) mX12_chance (mx_Z Q 0 0) 0 0 37 [.ref 120, .int x1, .int x2, .int x3, .int x4, .retAddr 0, .retAddr 0, .retAddr 0, .retAddr 0, .retAddr 0, .retAddr 0, .retAddr 0, .retAddr 0] (r.toList ++ []) h')) :
    mx_Go l (mx_rm (d + 1) 0 0) mX12_chance (mx_Z Q 0 0) 0 0 27 [.ref 120, .int x1, .int x2, .int x3, .int x4, .retAddr 0, .retAddr 0, .retAddr 0, .retAddr 0, .retAddr 0, .retAddr 0, .retAddr 0, .retAddr 0] [.int x5] (sk0 c, I) := by
  refine g_if_eq (tgt := 40) dX12_chance_27 (by decide) (fun c1 => ?_) (fun c2 => ?_)
  · skip
    refine g_ldc2 dX12_chance_40 lc_X12_312 ?_
    exact g_lret rfl dX12_chance_43 rfl (Nat.le_refl _) (q1 c1)
  · skip
    refine g_iload dX12_chance_30 rfl ?_
    refine g_iconst (v := 0) dX12_chance_32 (by decide) ?_
    refine g_iconst (v := 1) dX12_chance_33 (by decide) ?_
    exact s_callS (M' := mX12_isIn) (As := [.int x4, .int 0, .int 1]) (st := []) dX12_chance_34 lm_X12_50 okX12_isIn osX12_isIn (by simp [Value.category]) (by decide) rfl (k2 c2)
set_option maxRecDepth 10000 in
set_option maxHeartbeats 1000000 in
theorem sg_X12_chance_37 {l : Launch} {d : Nat} {Q : Option Value → mx_H → Prop} {c : Nat} {I : mx_I} (x1 : Int32) (x2 : Int32) (x3 : Int32) (x4 : Int32) (x5 : Int32)
    (e1 : (¬ x5 = 0) → mx_Go l (mx_rm (d + 1) 0 0) mX12_chance (mx_Z Q 0 0) 0 0 59 [.ref 120, .int x1, .int x2, .int x3, .int x4, .long 0, .retAddr 0, .long 1, .retAddr 0, .long 0, .retAddr 0, .int 0, .int 1] [] (sk0 c, I))
    (q2 : (x5 = 0) → Q (some (.long (-1))) (sk0 c, I)) :
    mx_Go l (mx_rm (d + 1) 0 0) mX12_chance (mx_Z Q 0 0) 0 0 37 [.ref 120, .int x1, .int x2, .int x3, .int x4, .retAddr 0, .retAddr 0, .retAddr 0, .retAddr 0, .retAddr 0, .retAddr 0, .retAddr 0, .retAddr 0] [.int x5] (sk0 c, I) := by
  refine g_if_ne (tgt := 44) dX12_chance_37 (by decide) (fun c1 => ?_) (fun c2 => ?_)
  · skip
    refine g_lconst (v := 0) dX12_chance_44 (by decide) ?_
    refine s_lstore (L' := [.ref 120, .int x1, .int x2, .int x3, .int x4, .long 0, .retAddr 0, .retAddr 0, .retAddr 0, .retAddr 0, .retAddr 0, .retAddr 0, .retAddr 0]) dX12_chance_45 (by decide) rfl rfl ?_
    refine g_lconst (v := 1) dX12_chance_47 (by decide) ?_
    refine s_lstore (L' := [.ref 120, .int x1, .int x2, .int x3, .int x4, .long 0, .retAddr 0, .long 1, .retAddr 0, .retAddr 0, .retAddr 0, .retAddr 0, .retAddr 0]) dX12_chance_48 (by decide) rfl rfl ?_
    refine g_lconst (v := 0) dX12_chance_50 (by decide) ?_
    refine s_lstore (L' := [.ref 120, .int x1, .int x2, .int x3, .int x4, .long 0, .retAddr 0, .long 1, .retAddr 0, .long 0, .retAddr 0, .retAddr 0, .retAddr 0]) dX12_chance_51 (by decide) rfl rfl ?_
    refine g_iconst (v := 0) dX12_chance_53 (by decide) ?_
    refine s_istore (L' := [.ref 120, .int x1, .int x2, .int x3, .int x4, .long 0, .retAddr 0, .long 1, .retAddr 0, .long 0, .retAddr 0, .int 0, .retAddr 0]) dX12_chance_54 (by decide) rfl rfl ?_
    refine g_iconst (v := 1) dX12_chance_56 (by decide) ?_
    refine s_istore (L' := [.ref 120, .int x1, .int x2, .int x3, .int x4, .long 0, .retAddr 0, .long 1, .retAddr 0, .long 0, .retAddr 0, .int 0, .int 1]) dX12_chance_57 (by decide) rfl rfl ?_
    exact e1 c1
  · skip
    refine g_ldc2 dX12_chance_40 lc_X12_312 ?_
    exact g_lret rfl dX12_chance_43 rfl (Nat.le_refl _) (q2 c2)
set_option maxRecDepth 10000 in
set_option maxHeartbeats 1000000 in
theorem sg_X12_chance_59 {l : Launch} {d : Nat} {Q : Option Value → mx_H → Prop} {c : Nat} {I : mx_I} (x1 : Int32) (x2 : Int32) (x3 : Int32) (x4 : Int32) (x5 : Int64) (x6 : Int64) (x7 : Int64) (x8 : Int32) (x9 : Int32)
    (q1 : (x3 < x9) → (¬ x4 = 0) → Q (some (.long ((x8).toInt64))) (sk0 c, I))
    (q2 : (x3 < x9) → (x4 = 0) → Q (some (.long x5)) (sk0 c, I))
    (e3 : (¬ x3 < x9) → (x8 ≤ 0) → mx_Go l (mx_rm (d + 1) 0 0) mX12_chance (mx_Z Q 0 0) 0 0 59 [.ref 120, .int x1, .int x2, .int x3, .int x4, .long (((10 * x5) + ((x6 - x5) * ((x1).toInt64))) * (10 - ((x2).toInt64))), .retAddr 0, .long (x6 * 100), .retAddr 0, .long (((10 * x5) + ((x6 - x5) * ((x1).toInt64))) * (10 - ((x2).toInt64))), .retAddr 0, .int x9, .int (x9 + 1)] [] (sk0 c, I))
    (e4 : (¬ x3 < x9) → (¬ x8 ≤ 0) → (0 < (lg_cmp (((10 * x5) + ((x6 - x5) * ((x1).toInt64))) * (10 - ((x2).toInt64))) (x7 * 100))) → mx_Go l (mx_rm (d + 1) 0 0) mX12_chance (mx_Z Q 0 0) 0 0 59 [.ref 120, .int x1, .int x2, .int x3, .int x4, .long (((10 * x5) + ((x6 - x5) * ((x1).toInt64))) * (10 - ((x2).toInt64))), .retAddr 0, .long (x6 * 100), .retAddr 0, .long (((10 * x5) + ((x6 - x5) * ((x1).toInt64))) * (10 - ((x2).toInt64))), .retAddr 0, .int x9, .int (x9 + 1)] [] (sk0 c, I))
    (e5 : (¬ x3 < x9) → (¬ x8 ≤ 0) → (¬ 0 < (lg_cmp (((10 * x5) + ((x6 - x5) * ((x1).toInt64))) * (10 - ((x2).toInt64))) (x7 * 100))) → mx_Go l (mx_rm (d + 1) 0 0) mX12_chance (mx_Z Q 0 0) 0 0 59 [.ref 120, .int x1, .int x2, .int x3, .int x4, .long (((10 * x5) + ((x6 - x5) * ((x1).toInt64))) * (10 - ((x2).toInt64))), .retAddr 0, .long (x6 * 100), .retAddr 0, .long (x7 * 100), .retAddr 0, .int x8, .int (x9 + 1)] [] (sk0 c, I)) :
    mx_Go l (mx_rm (d + 1) 0 0) mX12_chance (mx_Z Q 0 0) 0 0 59 [.ref 120, .int x1, .int x2, .int x3, .int x4, .long x5, .retAddr 0, .long x6, .retAddr 0, .long x7, .retAddr 0, .int x8, .int x9] [] (sk0 c, I) := by
  refine g_iload dX12_chance_59 rfl ?_
  refine g_iload_n dX12_chance_61 rfl rfl ?_
  refine g_icmp_gt (tgt := 135) dX12_chance_62 (by decide) (fun c1 => ?_) (fun c2 => ?_)
  · skip
    refine g_iload dX12_chance_135 rfl ?_
    refine g_if_ne (tgt := 145) dX12_chance_137 (by decide) (fun c3 => ?_) (fun c4 => ?_)
    · skip
      refine g_iload dX12_chance_145 rfl ?_
      refine g_i2l dX12_chance_147 ?_
      exact g_lret rfl dX12_chance_148 rfl (Nat.le_refl _) (q1 c1 c3)
    · skip
      refine g_lload dX12_chance_140 rfl ?_
      refine g_goto (tgt := 148) dX12_chance_142 (by decide) ?_
      exact g_lret rfl dX12_chance_148 rfl (Nat.le_refl _) (q2 c1 c4)
  · skip
    refine g_ldc2 dX12_chance_65 lc_X12_314 ?_
    refine g_lload dX12_chance_68 rfl ?_
    refine g_lmul dX12_chance_70 ?_
    refine g_lload dX12_chance_71 rfl ?_
    refine g_lload dX12_chance_73 rfl ?_
    refine g_lsub dX12_chance_75 ?_
    refine g_iload_n dX12_chance_76 rfl rfl ?_
    refine g_i2l dX12_chance_77 ?_
    refine g_lmul dX12_chance_78 ?_
    refine g_ladd dX12_chance_79 ?_
    refine g_ldc2 dX12_chance_80 lc_X12_314 ?_
    refine g_iload_n dX12_chance_83 rfl rfl ?_
    refine g_i2l dX12_chance_84 ?_
    refine g_lsub dX12_chance_85 ?_
    refine g_lmul dX12_chance_86 ?_
    refine s_lstore (L' := [.ref 120, .int x1, .int x2, .int x3, .int x4, .long (((10 * x5) + ((x6 - x5) * ((x1).toInt64))) * (10 - ((x2).toInt64))), .retAddr 0, .long x6, .retAddr 0, .long x7, .retAddr 0, .int x8, .int x9]) dX12_chance_87 (by decide) rfl rfl ?_
    refine g_lload dX12_chance_89 rfl ?_
    refine g_ldc2 dX12_chance_91 lc_X12_316 ?_
    refine g_lmul dX12_chance_94 ?_
    refine s_lstore (L' := [.ref 120, .int x1, .int x2, .int x3, .int x4, .long (((10 * x5) + ((x6 - x5) * ((x1).toInt64))) * (10 - ((x2).toInt64))), .retAddr 0, .long (x6 * 100), .retAddr 0, .long x7, .retAddr 0, .int x8, .int x9]) dX12_chance_95 (by decide) rfl rfl ?_
    refine g_lload dX12_chance_97 rfl ?_
    refine g_ldc2 dX12_chance_99 lc_X12_316 ?_
    refine g_lmul dX12_chance_102 ?_
    refine s_lstore (L' := [.ref 120, .int x1, .int x2, .int x3, .int x4, .long (((10 * x5) + ((x6 - x5) * ((x1).toInt64))) * (10 - ((x2).toInt64))), .retAddr 0, .long (x6 * 100), .retAddr 0, .long (x7 * 100), .retAddr 0, .int x8, .int x9]) dX12_chance_103 (by decide) rfl rfl ?_
    refine g_iload dX12_chance_105 rfl ?_
    refine g_if_le (tgt := 121) dX12_chance_107 (by decide) (fun c5 => ?_) (fun c6 => ?_)
    · skip
      refine g_lload dX12_chance_121 rfl ?_
      refine s_lstore (L' := [.ref 120, .int x1, .int x2, .int x3, .int x4, .long (((10 * x5) + ((x6 - x5) * ((x1).toInt64))) * (10 - ((x2).toInt64))), .retAddr 0, .long (x6 * 100), .retAddr 0, .long (((10 * x5) + ((x6 - x5) * ((x1).toInt64))) * (10 - ((x2).toInt64))), .retAddr 0, .int x8, .int x9]) dX12_chance_123 (by decide) rfl rfl ?_
      refine g_iload dX12_chance_125 rfl ?_
      refine s_istore (L' := [.ref 120, .int x1, .int x2, .int x3, .int x4, .long (((10 * x5) + ((x6 - x5) * ((x1).toInt64))) * (10 - ((x2).toInt64))), .retAddr 0, .long (x6 * 100), .retAddr 0, .long (((10 * x5) + ((x6 - x5) * ((x1).toInt64))) * (10 - ((x2).toInt64))), .retAddr 0, .int x9, .int x9]) dX12_chance_127 (by decide) rfl rfl ?_
      refine s_iinc (v := (x9 + 1)) (L' := [.ref 120, .int x1, .int x2, .int x3, .int x4, .long (((10 * x5) + ((x6 - x5) * ((x1).toInt64))) * (10 - ((x2).toInt64))), .retAddr 0, .long (x6 * 100), .retAddr 0, .long (((10 * x5) + ((x6 - x5) * ((x1).toInt64))) * (10 - ((x2).toInt64))), .retAddr 0, .int x9, .int (x9 + 1)]) dX12_chance_129 rfl (by decide) rfl rfl rfl ?_
      refine g_goto (tgt := 59) dX12_chance_132 (by decide) ?_
      exact e3 c2 c5
    · skip
      refine g_lload dX12_chance_110 rfl ?_
      refine g_lload dX12_chance_112 rfl ?_
      refine g_lcmp dX12_chance_114 ?_
      refine g_if_gt (tgt := 121) dX12_chance_115 (by decide) (fun c7 => ?_) (fun c8 => ?_)
      · skip
        refine g_lload dX12_chance_121 rfl ?_
        refine s_lstore (L' := [.ref 120, .int x1, .int x2, .int x3, .int x4, .long (((10 * x5) + ((x6 - x5) * ((x1).toInt64))) * (10 - ((x2).toInt64))), .retAddr 0, .long (x6 * 100), .retAddr 0, .long (((10 * x5) + ((x6 - x5) * ((x1).toInt64))) * (10 - ((x2).toInt64))), .retAddr 0, .int x8, .int x9]) dX12_chance_123 (by decide) rfl rfl ?_
        refine g_iload dX12_chance_125 rfl ?_
        refine s_istore (L' := [.ref 120, .int x1, .int x2, .int x3, .int x4, .long (((10 * x5) + ((x6 - x5) * ((x1).toInt64))) * (10 - ((x2).toInt64))), .retAddr 0, .long (x6 * 100), .retAddr 0, .long (((10 * x5) + ((x6 - x5) * ((x1).toInt64))) * (10 - ((x2).toInt64))), .retAddr 0, .int x9, .int x9]) dX12_chance_127 (by decide) rfl rfl ?_
        refine s_iinc (v := (x9 + 1)) (L' := [.ref 120, .int x1, .int x2, .int x3, .int x4, .long (((10 * x5) + ((x6 - x5) * ((x1).toInt64))) * (10 - ((x2).toInt64))), .retAddr 0, .long (x6 * 100), .retAddr 0, .long (((10 * x5) + ((x6 - x5) * ((x1).toInt64))) * (10 - ((x2).toInt64))), .retAddr 0, .int x9, .int (x9 + 1)]) dX12_chance_129 rfl (by decide) rfl rfl rfl ?_
        refine g_goto (tgt := 59) dX12_chance_132 (by decide) ?_
        exact e4 c2 c6 c7
      · skip
        refine g_goto (tgt := 129) dX12_chance_118 (by decide) ?_
        refine s_iinc (v := (x9 + 1)) (L' := [.ref 120, .int x1, .int x2, .int x3, .int x4, .long (((10 * x5) + ((x6 - x5) * ((x1).toInt64))) * (10 - ((x2).toInt64))), .retAddr 0, .long (x6 * 100), .retAddr 0, .long (x7 * 100), .retAddr 0, .int x8, .int (x9 + 1)]) dX12_chance_129 rfl (by decide) rfl rfl rfl ?_
        refine g_goto (tgt := 59) dX12_chance_132 (by decide) ?_
        exact e5 c2 c6 c8
set_option maxRecDepth 10000 in
set_option maxHeartbeats 1000000 in
theorem sn_X12_image {l : Launch} {d : Nat} {Q : Option Value → mx_H → Prop} {c : Nat} {I : mx_I} (a1 : Int32)
    (e1 : (¬ a1 = 0) → mx_Go l (mx_rm (d + 1) 0 0) mX12_image (mx_Z Q 0 0) 0 0 15 [.ref 120, .int a1, .int 0] [] (sk0 c, I))
    (e2 : (a1 = 0) → (¬ (I 120 3) = 0) → mx_Go l (mx_rm (d + 1) 0 0) mX12_image (mx_Z Q 0 0) 0 0 15 [.ref 120, .int a1, .int 0] [] (sk0 c, I))
    (q3 : (a1 = 0) → ((I 120 3) = 0) → Q (some (.int 0)) (sk0 c, I)) :
    mx_Spec l mX12_image (d + 1) 0 0 [.ref 120, .int a1] (sk0 c, I) Q := by
  refine mx_enter rfl (by simp [Value.category]) (Nat.le_of_ble_eq_true rfl) ?_
  change mx_Go l (mx_rm (d + 1) 0 0) mX12_image (mx_Z Q 0 0) 0 0 0 [.ref 120, .int a1, .retAddr 0] [] (sk0 c, I)
  refine g_iload_n dX12_image_0 rfl rfl ?_
  refine g_if_ne (tgt := 13) dX12_image_1 (by decide) (fun c1 => ?_) (fun c2 => ?_)
  · skip
    refine g_iconst (v := 0) dX12_image_13 (by decide) ?_
    refine s_istore_n (L' := [.ref 120, .int a1, .int 0]) dX12_image_14 rfl (by decide) rfl rfl ?_
    exact e1 c1
  · skip
    refine g_aload_n dX12_image_4 rfl rfl ?_
    refine rg_X12_3 (v := (I 120 3)) dX12_image_5 lf_X12_318 (sk_120 _) rfl ?_
    refine g_if_ne (tgt := 13) dX12_image_8 (by decide) (fun c3 => ?_) (fun c4 => ?_)
    · skip
      refine g_iconst (v := 0) dX12_image_13 (by decide) ?_
      refine s_istore_n (L' := [.ref 120, .int a1, .int 0]) dX12_image_14 rfl (by decide) rfl rfl ?_
      exact e2 c2 c3
    · skip
      refine g_iconst (v := 0) dX12_image_11 (by decide) ?_
      exact g_zret (ty := .boolean) rfl rfl dX12_image_12 rfl (Nat.le_refl _) (q3 c2 c4)
set_option maxRecDepth 10000 in
set_option maxHeartbeats 1000000 in
theorem sg_X12_image_15 {l : Launch} {d : Nat} {Q : Option Value → mx_H → Prop} {c : Nat} {I : mx_I} (x1 : Int32) (x2 : Int32)
    (q1 : (2490 ≤ x2) → Q (some (.int 1)) (sk0 c, (mx_set I 120 3 1)))
    (b2 : (¬ 2490 ≤ x2) → (x1 = 0) → vp_in x2 2490)
    (b3 : (¬ 2490 ≤ x2) → (x1 = 0) → vp_in x2 2490)
    (e4 : (¬ 2490 ≤ x2) → (x1 = 0) → mx_Go l (mx_rm (d + 1) 0 0) mX12_image (mx_Z Q 0 0) 0 0 15 [.ref 120, .int x1, .int (x2 + 1)] [] (sk0 c, (mx_set I 121 x2.toNatClampNeg (I 122 x2.toNatClampNeg))))
    (b5 : (¬ 2490 ≤ x2) → (¬ x1 = 0) → vp_in x2 2490)
    (b6 : (¬ 2490 ≤ x2) → (¬ x1 = 0) → vp_in x2 2490)
    (e7 : (¬ 2490 ≤ x2) → (¬ x1 = 0) → mx_Go l (mx_rm (d + 1) 0 0) mX12_image (mx_Z Q 0 0) 0 0 15 [.ref 120, .int x1, .int (x2 + 1)] [] (sk0 c, (mx_set I 122 x2.toNatClampNeg (I 121 x2.toNatClampNeg)))) :
    mx_Go l (mx_rm (d + 1) 0 0) mX12_image (mx_Z Q 0 0) 0 0 15 [.ref 120, .int x1, .int x2] [] (sk0 c, I) := by
  refine g_iload_n dX12_image_15 rfl rfl ?_
  refine g_sipush (v := 2490) dX12_image_16 (by decide) ?_
  refine g_icmp_ge (tgt := 59) dX12_image_19 (by decide) (fun c1 => ?_) (fun c2 => ?_)
  · skip
    refine g_aload_n dX12_image_59 rfl rfl ?_
    refine g_iconst (v := 1) dX12_image_60 (by decide) ?_
    refine rp_X12_3 (by decide) dX12_image_61 lf_X12_318 (sk_120 _) ?_
    refine g_iconst (v := 1) dX12_image_64 (by decide) ?_
    exact g_zret (ty := .boolean) rfl rfl dX12_image_65 rfl (Nat.le_refl _) (q1 c1)
  · skip
    refine g_iload_n dX12_image_22 rfl rfl ?_
    refine g_if_eq (tgt := 41) dX12_image_23 (by decide) (fun c3 => ?_) (fun c4 => ?_)
    · skip
      refine g_aload_n dX12_image_41 rfl rfl ?_
      refine rg_X12_0 (r := 121) dX12_image_42 lf_X12_7 (sk_120 _) rfl ?_
      refine g_iload_n dX12_image_45 rfl rfl ?_
      refine g_aload_n dX12_image_46 rfl rfl ?_
      refine rg_X12_1 (r := 122) dX12_image_47 lf_X12_13 (sk_120 _) rfl ?_
      refine g_iload_n dX12_image_50 rfl rfl ?_
      refine s_iald (j := x2.toNatClampNeg) (v := (I 122 x2.toNatClampNeg)) dX12_image_51 (sk_122 _) (b2 c2 c3) rfl rfl ?_
      refine s_iast (j := x2.toNatClampNeg) dX12_image_52 (sk_121 _) (b3 c2 c3) rfl ?_
      refine s_iinc (v := (x2 + 1)) (L' := [.ref 120, .int x1, .int (x2 + 1)]) dX12_image_53 rfl (by decide) rfl rfl rfl ?_
      refine g_goto (tgt := 15) dX12_image_56 (by decide) ?_
      exact e4 c2 c3
    · skip
      refine g_aload_n dX12_image_26 rfl rfl ?_
      refine rg_X12_1 (r := 122) dX12_image_27 lf_X12_13 (sk_120 _) rfl ?_
      refine g_iload_n dX12_image_30 rfl rfl ?_
      refine g_aload_n dX12_image_31 rfl rfl ?_
      refine rg_X12_0 (r := 121) dX12_image_32 lf_X12_7 (sk_120 _) rfl ?_
      refine g_iload_n dX12_image_35 rfl rfl ?_
      refine s_iald (j := x2.toNatClampNeg) (v := (I 121 x2.toNatClampNeg)) dX12_image_36 (sk_121 _) (b5 c2 c4) rfl rfl ?_
      refine s_iast (j := x2.toNatClampNeg) dX12_image_37 (sk_122 _) (b6 c2 c4) rfl ?_
      refine g_goto (tgt := 53) dX12_image_38 (by decide) ?_
      refine s_iinc (v := (x2 + 1)) (L' := [.ref 120, .int x1, .int (x2 + 1)]) dX12_image_53 rfl (by decide) rfl rfl rfl ?_
      refine g_goto (tgt := 15) dX12_image_56 (by decide) ?_
      exact e7 c2 c4
set_option maxRecDepth 10000 in
set_option maxHeartbeats 1000000 in
theorem sn_X12_look {l : Launch} {d : Nat} {Q : Option Value → mx_H → Prop} {c : Nat} {I : mx_I} (a1 : Int32)
    (q1 : (a1 = 0) → Q (some (.int (I 121 0))) (sk0 c, I))
    (q2 : (a1 = 1) → Q (some (.int (I 121 1))) (sk0 c, I))
    (q3 : (a1 = 2) → Q (some (.int (I 121 2))) (sk0 c, I))
    (q4 : (a1 = 3) → Q (some (.int (I 121 3))) (sk0 c, I))
    (q5 : (a1 = 4) → Q (some (.int (I 121 6))) (sk0 c, I))
    (q6 : (a1 = 5) → Q (some (.int (I 121 4))) (sk0 c, I))
    (q7 : (a1 = 6) → Q (some (.int (I 121 5))) (sk0 c, I))
    (q8 : (a1 = 7) → Q (some (.int (I 121 1600))) (sk0 c, I))
    (q9 : (a1 = 8) → Q (some (.int (I 121 7))) (sk0 c, I))
    (q10 : (a1 = 9) → Q (some (.int (I 121 8))) (sk0 c, I))
    (q11 : (a1 = 10) → Q (some (.int (I 121 9))) (sk0 c, I))
    (q12 : (¬ a1 = 0) → (¬ a1 = 1) → (¬ a1 = 2) → (¬ a1 = 3) → (¬ a1 = 4) → (¬ a1 = 5) → (¬ a1 = 6) → (¬ a1 = 7) → (¬ a1 = 8) → (¬ a1 = 9) → (¬ a1 = 10) → Q (some (.int (-2))) (sk0 c, I)) :
    mx_Spec l mX12_look (d + 1) 0 0 [.ref 120, .int a1] (sk0 c, I) Q := by
  refine mx_enter rfl (by simp [Value.category]) (Nat.le_of_ble_eq_true rfl) ?_
  change mx_Go l (mx_rm (d + 1) 0 0) mX12_look (mx_Z Q 0 0) 0 0 0 [.ref 120, .int a1] [] (sk0 c, I)
  refine g_iload_n dX12_look_0 rfl rfl ?_
  rcases Decidable.em (a1 = 0) with c1 | c2
  · skip
    refine g_tableIn (off := 59) (tgt := 60) dX12_look_1 (by rw [c1]; decide) (by rw [c1]; decide) (by rw [c1]; rfl) (by decide) ?_
    refine g_aload_n dX12_look_60 rfl rfl ?_
    refine rg_X12_0 (r := 121) dX12_look_61 lf_X12_7 (sk_120 _) rfl ?_
    refine g_iconst (v := 0) dX12_look_64 (by decide) ?_
    refine s_iald (j := 0) (v := (I 121 0)) dX12_look_65 (sk_121 _) (by unfold vp_in; decide) (by decide) rfl ?_
    exact g_iret rfl dX12_look_66 rfl (Nat.le_refl _) (q1 c1)
  · skip
    rcases Decidable.em (a1 = 1) with c3 | c4
    · skip
      refine g_tableIn (off := 66) (tgt := 67) dX12_look_1 (by rw [c3]; decide) (by rw [c3]; decide) (by rw [c3]; rfl) (by decide) ?_
      refine g_aload_n dX12_look_67 rfl rfl ?_
      refine rg_X12_0 (r := 121) dX12_look_68 lf_X12_7 (sk_120 _) rfl ?_
      refine g_iconst (v := 1) dX12_look_71 (by decide) ?_
      refine s_iald (j := 1) (v := (I 121 1)) dX12_look_72 (sk_121 _) (by unfold vp_in; decide) (by decide) rfl ?_
      exact g_iret rfl dX12_look_73 rfl (Nat.le_refl _) (q2 c3)
    · skip
      rcases Decidable.em (a1 = 2) with c5 | c6
      · skip
        refine g_tableIn (off := 73) (tgt := 74) dX12_look_1 (by rw [c5]; decide) (by rw [c5]; decide) (by rw [c5]; rfl) (by decide) ?_
        refine g_aload_n dX12_look_74 rfl rfl ?_
        refine rg_X12_0 (r := 121) dX12_look_75 lf_X12_7 (sk_120 _) rfl ?_
        refine g_iconst (v := 2) dX12_look_78 (by decide) ?_
        refine s_iald (j := 2) (v := (I 121 2)) dX12_look_79 (sk_121 _) (by unfold vp_in; decide) (by decide) rfl ?_
        exact g_iret rfl dX12_look_80 rfl (Nat.le_refl _) (q3 c5)
      · skip
        rcases Decidable.em (a1 = 3) with c7 | c8
        · skip
          refine g_tableIn (off := 80) (tgt := 81) dX12_look_1 (by rw [c7]; decide) (by rw [c7]; decide) (by rw [c7]; rfl) (by decide) ?_
          refine g_aload_n dX12_look_81 rfl rfl ?_
          refine rg_X12_0 (r := 121) dX12_look_82 lf_X12_7 (sk_120 _) rfl ?_
          refine g_iconst (v := 3) dX12_look_85 (by decide) ?_
          refine s_iald (j := 3) (v := (I 121 3)) dX12_look_86 (sk_121 _) (by unfold vp_in; decide) (by decide) rfl ?_
          exact g_iret rfl dX12_look_87 rfl (Nat.le_refl _) (q4 c7)
        · skip
          rcases Decidable.em (a1 = 4) with c9 | c10
          · skip
            refine g_tableIn (off := 87) (tgt := 88) dX12_look_1 (by rw [c9]; decide) (by rw [c9]; decide) (by rw [c9]; rfl) (by decide) ?_
            refine g_aload_n dX12_look_88 rfl rfl ?_
            refine rg_X12_0 (r := 121) dX12_look_89 lf_X12_7 (sk_120 _) rfl ?_
            refine g_bipush (v := 6) dX12_look_92 (by decide) ?_
            refine s_iald (j := 6) (v := (I 121 6)) dX12_look_94 (sk_121 _) (by unfold vp_in; decide) (by decide) rfl ?_
            exact g_iret rfl dX12_look_95 rfl (Nat.le_refl _) (q5 c9)
          · skip
            rcases Decidable.em (a1 = 5) with c11 | c12
            · skip
              refine g_tableIn (off := 95) (tgt := 96) dX12_look_1 (by rw [c11]; decide) (by rw [c11]; decide) (by rw [c11]; rfl) (by decide) ?_
              refine g_aload_n dX12_look_96 rfl rfl ?_
              refine rg_X12_0 (r := 121) dX12_look_97 lf_X12_7 (sk_120 _) rfl ?_
              refine g_iconst (v := 4) dX12_look_100 (by decide) ?_
              refine s_iald (j := 4) (v := (I 121 4)) dX12_look_101 (sk_121 _) (by unfold vp_in; decide) (by decide) rfl ?_
              exact g_iret rfl dX12_look_102 rfl (Nat.le_refl _) (q6 c11)
            · skip
              rcases Decidable.em (a1 = 6) with c13 | c14
              · skip
                refine g_tableIn (off := 102) (tgt := 103) dX12_look_1 (by rw [c13]; decide) (by rw [c13]; decide) (by rw [c13]; rfl) (by decide) ?_
                refine g_aload_n dX12_look_103 rfl rfl ?_
                refine rg_X12_0 (r := 121) dX12_look_104 lf_X12_7 (sk_120 _) rfl ?_
                refine g_iconst (v := 5) dX12_look_107 (by decide) ?_
                refine s_iald (j := 5) (v := (I 121 5)) dX12_look_108 (sk_121 _) (by unfold vp_in; decide) (by decide) rfl ?_
                exact g_iret rfl dX12_look_109 rfl (Nat.le_refl _) (q7 c13)
              · skip
                rcases Decidable.em (a1 = 7) with c15 | c16
                · skip
                  refine g_tableIn (off := 109) (tgt := 110) dX12_look_1 (by rw [c15]; decide) (by rw [c15]; decide) (by rw [c15]; rfl) (by decide) ?_
                  refine g_aload_n dX12_look_110 rfl rfl ?_
                  refine rg_X12_0 (r := 121) dX12_look_111 lf_X12_7 (sk_120 _) rfl ?_
                  refine g_sipush (v := 1600) dX12_look_114 (by decide) ?_
                  refine s_iald (j := 1600) (v := (I 121 1600)) dX12_look_117 (sk_121 _) (by unfold vp_in; decide) (by decide) rfl ?_
                  exact g_iret rfl dX12_look_118 rfl (Nat.le_refl _) (q8 c15)
                · skip
                  rcases Decidable.em (a1 = 8) with c17 | c18
                  · skip
                    refine g_tableIn (off := 118) (tgt := 119) dX12_look_1 (by rw [c17]; decide) (by rw [c17]; decide) (by rw [c17]; rfl) (by decide) ?_
                    refine g_aload_n dX12_look_119 rfl rfl ?_
                    refine rg_X12_0 (r := 121) dX12_look_120 lf_X12_7 (sk_120 _) rfl ?_
                    refine g_bipush (v := 7) dX12_look_123 (by decide) ?_
                    refine s_iald (j := 7) (v := (I 121 7)) dX12_look_125 (sk_121 _) (by unfold vp_in; decide) (by decide) rfl ?_
                    exact g_iret rfl dX12_look_126 rfl (Nat.le_refl _) (q9 c17)
                  · skip
                    rcases Decidable.em (a1 = 9) with c19 | c20
                    · skip
                      refine g_tableIn (off := 126) (tgt := 127) dX12_look_1 (by rw [c19]; decide) (by rw [c19]; decide) (by rw [c19]; rfl) (by decide) ?_
                      refine g_aload_n dX12_look_127 rfl rfl ?_
                      refine rg_X12_0 (r := 121) dX12_look_128 lf_X12_7 (sk_120 _) rfl ?_
                      refine g_bipush (v := 8) dX12_look_131 (by decide) ?_
                      refine s_iald (j := 8) (v := (I 121 8)) dX12_look_133 (sk_121 _) (by unfold vp_in; decide) (by decide) rfl ?_
                      exact g_iret rfl dX12_look_134 rfl (Nat.le_refl _) (q10 c19)
                    · skip
                      rcases Decidable.em (a1 = 10) with c21 | c22
                      · skip
                        refine g_tableIn (off := 134) (tgt := 135) dX12_look_1 (by rw [c21]; decide) (by rw [c21]; decide) (by rw [c21]; rfl) (by decide) ?_
                        refine g_aload_n dX12_look_135 rfl rfl ?_
                        refine rg_X12_0 (r := 121) dX12_look_136 lf_X12_7 (sk_120 _) rfl ?_
                        refine g_bipush (v := 9) dX12_look_139 (by decide) ?_
                        refine s_iald (j := 9) (v := (I 121 9)) dX12_look_141 (sk_121 _) (by unfold vp_in; decide) (by decide) rfl ?_
                        exact g_iret rfl dX12_look_142 rfl (Nat.le_refl _) (q11 c21)
                      · skip
                        refine g_tableOut (tgt := 143) dX12_look_1 (by have q2 := mx_i32 (n := 0) (by decide) c2; have q4 := mx_i32 (n := 1) (by decide) c4; have q6 := mx_i32 (n := 2) (by decide) c6; have q8 := mx_i32 (n := 3) (by decide) c8; have q10 := mx_i32 (n := 4) (by decide) c10; have q12 := mx_i32 (n := 5) (by decide) c12; have q14 := mx_i32 (n := 6) (by decide) c14; have q16 := mx_i32 (n := 7) (by decide) c16; have q18 := mx_i32 (n := 8) (by decide) c18; have q20 := mx_i32 (n := 9) (by decide) c20; have q22 := mx_i32 (n := 10) (by decide) c22; omega) (by decide) ?_
                        refine g_bipush (v := (-2)) dX12_look_143 (by decide) ?_
                        exact g_iret rfl dX12_look_145 rfl (Nat.le_refl _) (q12 c2 c4 c6 c8 c10 c12 c14 c16 c18 c20 c22)
