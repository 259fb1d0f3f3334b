set_option maxRecDepth 10000 in
set_option maxHeartbeats 1000000 in
theorem sn_X11_image {l : Launch} {d : Nat} {Q : Option Value → mx_H → Prop} {c : Nat} {I : mx_I} (a1 : Int32)
    (q1 : (a1 = 0) → ((I 0 9) = 0) → Q (some (.int (I 0 9))) (sk0 c, I))
    (n2 : (a1 = 0) → ((I 0 9) = 0) → (I 0 9) = 0 ∨ (I 0 9) = 1)
    (k3 : (a1 = 0) → (¬ (I 0 9) = 0) → mx_K1 l mX10_copyFrom d [.ref 1, .ref 74] (sk0 c, I) (fun r h' => mx_Go l (mx_rm (d + 1) 0 0) mX11_image (mx_Z Q 0 0) 0 0 63 [.ref 0, .int a1] (r.toList ++ []) h'))
    (k4 : (¬ a1 = 0) → mx_K1 l mX10_copyFrom d [.ref 74, .ref 1] (sk0 c, I) (fun r h' => mx_Go l (mx_rm (d + 1) 0 0) mX11_image (mx_Z Q 0 0) 0 0 15 [.ref 0, .int a1] (r.toList ++ []) h')) :
    mx_Spec l mX11_image (d + 1) 0 0 [.ref 0, .int a1] (sk0 c, I) Q := by
  refine mx_enter rfl (by simp [Value.category]) (Nat.le_of_ble_eq_true rfl) ?_
  change mx_Go l (mx_rm (d + 1) 0 0) mX11_image (mx_Z Q 0 0) 0 0 0 [.ref 0, .int a1] [] (sk0 c, I)
  refine g_iload_n dX11_image_0 rfl rfl ?_
  refine g_if_eq (tgt := 45) dX11_image_1 (by decide) (fun c1 => ?_) (fun c2 => ?_)
  · skip
    refine g_aload_n dX11_image_45 rfl rfl ?_
    refine rg_X11_9 (v := (I 0 9)) dX11_image_46 lf_X11_58 (sk_0 _) rfl ?_
    refine g_if_eq (tgt := 85) dX11_image_49 (by decide) (fun c3 => ?_) (fun c4 => ?_)
    · skip
      refine g_aload_n dX11_image_85 rfl rfl ?_
      refine rg_X11_9 (v := (I 0 9)) dX11_image_86 lf_X11_58 (sk_0 _) rfl ?_
      exact g_zret (ty := .boolean) rfl (nb_01 (n2 c1 c3)) dX11_image_89 rfl (Nat.le_refl _) (q1 c1 c3)
    · skip
      refine g_aload_n dX11_image_52 rfl rfl ?_
      refine rg_X11_0 (r := 1) dX11_image_53 lf_X11_12 (sk_0 _) rfl ?_
      refine g_aload_n dX11_image_56 rfl rfl ?_
      refine rg_X11_6 (r := 74) dX11_image_57 lf_X11_49 (sk_0 _) rfl ?_
      exact s_callV (M' := mX10_copyFrom) (As := [.ref 74]) (st := []) dX11_image_60 lm_X11_319 ovX10_copyFrom (h := (sk0 c, I)) (sk_1 _) (show vwCl[10]? = some _ from rfl) rfl (by simp [Value.category]) (by decide) rfl (k3 c1 c4)
  · skip
    refine g_aload_n dX11_image_4 rfl rfl ?_
    refine rg_X11_6 (r := 74) dX11_image_5 lf_X11_49 (sk_0 _) rfl ?_
    refine g_aload_n dX11_image_8 rfl rfl ?_
    refine rg_X11_0 (r := 1) dX11_image_9 lf_X11_12 (sk_0 _) rfl ?_
    exact s_callV (M' := mX10_copyFrom) (As := [.ref 1]) (st := []) dX11_image_12 lm_X11_319 ovX10_copyFrom (h := (sk0 c, I)) (sk_74 _) (show vwCl[10]? = some _ from rfl) rfl (by simp [Value.category]) (by decide) rfl (k4 c2)
set_option maxRecDepth 10000 in
set_option maxHeartbeats 1000000 in
theorem sg_X11_image_63 {l : Launch} {d : Nat} {Q : Option Value → mx_H → Prop} {c : Nat} {I : mx_I} (x1 : Int32)
    (k1 : mx_K1 l mX9_copyFrom d [.ref 33, .ref 106] (sk0 c, I) (fun r h' => mx_Go l (mx_rm (d + 1) 0 0) mX11_image (mx_Z Q 0 0) 0 0 74 [.ref 0, .int x1] (r.toList ++ []) h')) :
    mx_Go l (mx_rm (d + 1) 0 0) mX11_image (mx_Z Q 0 0) 0 0 63 [.ref 0, .int x1] [] (sk0 c, I) := by
  refine g_aload_n dX11_image_63 rfl rfl ?_
  refine rg_X11_1 (r := 33) dX11_image_64 lf_X11_19 (sk_0 _) rfl ?_
  refine g_aload_n dX11_image_67 rfl rfl ?_
  refine rg_X11_7 (r := 106) dX11_image_68 lf_X11_52 (sk_0 _) rfl ?_
  exact s_callV (M' := mX9_copyFrom) (As := [.ref 106]) (st := []) dX11_image_71 lm_X11_322 ovX9_copyFrom (h := (sk0 c, I)) (sk_33 _) (show vwCl[9]? = some _ from rfl) rfl (by simp [Value.category]) (by decide) rfl (k1)
set_option maxRecDepth 10000 in
set_option maxHeartbeats 1000000 in
theorem sg_X11_image_15 {l : Launch} {d : Nat} {Q : Option Value → mx_H → Prop} {c : Nat} {I : mx_I} (x1 : Int32)
    (k1 : mx_K1 l mX9_copyFrom d [.ref 106, .ref 33] (sk0 c, I) (fun r h' => mx_Go l (mx_rm (d + 1) 0 0) mX11_image (mx_Z Q 0 0) 0 0 26 [.ref 0, .int x1] (r.toList ++ []) h')) :
    mx_Go l (mx_rm (d + 1) 0 0) mX11_image (mx_Z Q 0 0) 0 0 15 [.ref 0, .int x1] [] (sk0 c, I) := by
  refine g_aload_n dX11_image_15 rfl rfl ?_
  refine rg_X11_7 (r := 106) dX11_image_16 lf_X11_52 (sk_0 _) rfl ?_
  refine g_aload_n dX11_image_19 rfl rfl ?_
  refine rg_X11_1 (r := 33) dX11_image_20 lf_X11_19 (sk_0 _) rfl ?_
  exact s_callV (M' := mX9_copyFrom) (As := [.ref 33]) (st := []) dX11_image_23 lm_X11_322 ovX9_copyFrom (h := (sk0 c, I)) (sk_106 _) (show vwCl[9]? = some _ from rfl) rfl (by simp [Value.category]) (by decide) rfl (k1)
set_option maxRecDepth 10000 in
set_option maxHeartbeats 1000000 in
theorem sg_X11_image_74 {l : Launch} {d : Nat} {Q : Option Value → mx_H → Prop} {c : Nat} {I : mx_I} (x1 : Int32)
    (k1 : mx_K1 l mX0_copyFrom d [.ref 43, .ref 116] (sk0 c, I) (fun r h' => mx_Go l (mx_rm (d + 1) 0 0) mX11_image (mx_Z Q 0 0) 0 0 85 [.ref 0, .int x1] (r.toList ++ []) h')) :
    mx_Go l (mx_rm (d + 1) 0 0) mX11_image (mx_Z Q 0 0) 0 0 74 [.ref 0, .int x1] [] (sk0 c, I) := by
  refine g_aload_n dX11_image_74 rfl rfl ?_
  refine rg_X11_2 (r := 43) dX11_image_75 lf_X11_26 (sk_0 _) rfl ?_
  refine g_aload_n dX11_image_78 rfl rfl ?_
  refine rg_X11_8 (r := 116) dX11_image_79 lf_X11_55 (sk_0 _) rfl ?_
  exact s_callV (M' := mX0_copyFrom) (As := [.ref 116]) (st := []) dX11_image_82 lm_X11_324 ovX0_copyFrom (h := (sk0 c, I)) (sk_43 _) (show vwCl[0]? = some _ from rfl) rfl (by simp [Value.category]) (by decide) rfl (k1)
set_option maxRecDepth 10000 in
set_option maxHeartbeats 1000000 in
theorem sg_X11_image_26 {l : Launch} {d : Nat} {Q : Option Value → mx_H → Prop} {c : Nat} {I : mx_I} (x1 : Int32)
    (k1 : mx_K1 l mX0_copyFrom d [.ref 116, .ref 43] (sk0 c, I) (fun r h' => mx_Go l (mx_rm (d + 1) 0 0) mX11_image (mx_Z Q 0 0) 0 0 37 [.ref 0, .int x1] (r.toList ++ []) h')) :
    mx_Go l (mx_rm (d + 1) 0 0) mX11_image (mx_Z Q 0 0) 0 0 26 [.ref 0, .int x1] [] (sk0 c, I) := by
  refine g_aload_n dX11_image_26 rfl rfl ?_
  refine rg_X11_8 (r := 116) dX11_image_27 lf_X11_55 (sk_0 _) rfl ?_
  refine g_aload_n dX11_image_30 rfl rfl ?_
  refine rg_X11_2 (r := 43) dX11_image_31 lf_X11_26 (sk_0 _) rfl ?_
  exact s_callV (M' := mX0_copyFrom) (As := [.ref 43]) (st := []) dX11_image_34 lm_X11_324 ovX0_copyFrom (h := (sk0 c, I)) (sk_116 _) (show vwCl[0]? = some _ from rfl) rfl (by simp [Value.category]) (by decide) rfl (k1)
set_option maxRecDepth 10000 in
set_option maxHeartbeats 1000000 in
theorem sg_X11_image_85 {l : Launch} {d : Nat} {Q : Option Value → mx_H → Prop} {c : Nat} {I : mx_I} (x1 : Int32)
    (q1 : Q (some (.int (I 0 9))) (sk0 c, I))
    (n2 : (I 0 9) = 0 ∨ (I 0 9) = 1) :
    mx_Go l (mx_rm (d + 1) 0 0) mX11_image (mx_Z Q 0 0) 0 0 85 [.ref 0, .int x1] [] (sk0 c, I) := by
  refine g_aload_n dX11_image_85 rfl rfl ?_
  refine rg_X11_9 (v := (I 0 9)) dX11_image_86 lf_X11_58 (sk_0 _) rfl ?_
  exact g_zret (ty := .boolean) rfl (nb_01 (n2)) dX11_image_89 rfl (Nat.le_refl _) (q1)
set_option maxRecDepth 10000 in
set_option maxHeartbeats 1000000 in
theorem sg_X11_image_37 {l : Launch} {d : Nat} {Q : Option Value → mx_H → Prop} {c : Nat} {I : mx_I} (x1 : Int32)
    (q1 : Q (some (.int 1)) (sk0 c, (mx_set I 0 9 1))) :
    mx_Go l (mx_rm (d + 1) 0 0) mX11_image (mx_Z Q 0 0) 0 0 37 [.ref 0, .int x1] [] (sk0 c, I) := by
  refine g_aload_n dX11_image_37 rfl rfl ?_
  refine g_iconst (v := 1) dX11_image_38 (by decide) ?_
  refine rp_X11_9 (by decide) dX11_image_39 lf_X11_58 (sk_0 _) ?_
  refine g_goto (tgt := 85) dX11_image_42 (by decide) ?_
  refine g_aload_n dX11_image_85 rfl rfl ?_
  refine rg_X11_9 (v := 1) dX11_image_86 lf_X11_58 (sk_0 _) rd_eq ?_
  exact g_zret (ty := .boolean) rfl rfl dX11_image_89 rfl (Nat.le_refl _) (q1)
set_option maxRecDepth 10000 in
set_option maxHeartbeats 1000000 in
theorem sn_X11_look {l : Launch} {d : Nat} {Q : Option Value → mx_H → Prop} {c : Nat} {I : mx_I} (a1 : Int32)
    (q1 : (a1 = 0) → Q (some (.int (I 1 5))) (sk0 c, I))
    (q2 : (a1 = 1) → Q (some (.int (I 33 9))) (sk0 c, I))
    (q3 : (a1 = 2) → Q (some (.int (I 2 5))) (sk0 c, I))
    (q4 : (a1 = 3) → Q (some (.int (I 8 9))) (sk0 c, I))
    (q5 : (a1 = 4) → Q (some (.int (I 43 3))) (sk0 c, I))
    (q6 : (a1 = 5) → Q (some (.int (I 1 6))) (sk0 c, I))
    (q7 : (a1 = 6) → Q (some (.int (I 1 7))) (sk0 c, I))
    (q8 : (a1 = 7) → Q (some (.int (I 28 4))) (sk0 c, I))
    (q9 : (a1 = 8) → Q (some (.int (I 18 5))) (sk0 c, I))
    (q10 : (a1 = 9) → Q (some (.int (I 24 3))) (sk0 c, I))
    (q11 : (a1 = 10) → Q (some (.int (I 33 10))) (sk0 c, I))
    (q12 : (¬ a1 = 0) → (¬ a1 = 1) → (¬ a1 = 2) → (¬ a1 = 3) → (¬ a1 = 4) → (¬ a1 = 5) → (¬ a1 = 6) → (¬ a1 = 7) → (¬ a1 = 8) → (¬ a1 = 9) → (¬ a1 = 10) → Q (some (.int (-2))) (sk0 c, I)) :
    mx_Spec l mX11_look (d + 1) 0 0 [.ref 0, .int a1] (sk0 c, I) Q := by
  refine mx_enter rfl (by simp [Value.category]) (Nat.le_of_ble_eq_true rfl) ?_
  change mx_Go l (mx_rm (d + 1) 0 0) mX11_look (mx_Z Q 0 0) 0 0 0 [.ref 0, .int a1] [] (sk0 c, I)
  refine g_iload_n dX11_look_0 rfl rfl ?_
  rcases Decidable.em (a1 = 0) with c1 | c2
  · skip
    refine g_tableIn (off := 59) (tgt := 60) dX11_look_1 (by rw [c1]; decide) (by rw [c1]; decide) (by rw [c1]; rfl) (by decide) ?_
    refine g_aload_n dX11_look_60 rfl rfl ?_
    refine rg_X11_0 (r := 1) dX11_look_61 lf_X11_12 (sk_0 _) rfl ?_
    refine rg_X10_5 (v := (I 1 5)) dX11_look_64 lf_X11_327 (sk_1 _) rfl ?_
    exact g_iret rfl dX11_look_67 rfl (Nat.le_refl _) (q1 c1)
  · skip
    rcases Decidable.em (a1 = 1) with c3 | c4
    · skip
      refine g_tableIn (off := 67) (tgt := 68) dX11_look_1 (by rw [c3]; decide) (by rw [c3]; decide) (by rw [c3]; rfl) (by decide) ?_
      refine g_aload_n dX11_look_68 rfl rfl ?_
      refine rg_X11_1 (r := 33) dX11_look_69 lf_X11_19 (sk_0 _) rfl ?_
      refine rg_X9_9 (v := (I 33 9)) dX11_look_72 lf_X11_163 (sk_33 _) rfl ?_
      exact g_iret rfl dX11_look_75 rfl (Nat.le_refl _) (q2 c3)
    · skip
      rcases Decidable.em (a1 = 2) with c5 | c6
      · skip
        refine g_tableIn (off := 75) (tgt := 76) dX11_look_1 (by rw [c5]; decide) (by rw [c5]; decide) (by rw [c5]; rfl) (by decide) ?_
        refine g_aload_n dX11_look_76 rfl rfl ?_
        refine rg_X11_0 (r := 1) dX11_look_77 lf_X11_12 (sk_0 _) rfl ?_
        refine rg_X10_0 (r := 2) dX11_look_80 lf_X11_79 (sk_1 _) rfl ?_
        refine rg_X5_5 (v := (I 2 5)) dX11_look_83 lf_X11_330 (sk_2 _) rfl ?_
        exact g_iret rfl dX11_look_86 rfl (Nat.le_refl _) (q3 c5)
      · skip
        rcases Decidable.em (a1 = 3) with c7 | c8
        · skip
          refine g_tableIn (off := 86) (tgt := 87) dX11_look_1 (by rw [c7]; decide) (by rw [c7]; decide) (by rw [c7]; rfl) (by decide) ?_
          refine g_aload_n dX11_look_87 rfl rfl ?_
          refine rg_X11_0 (r := 1) dX11_look_88 lf_X11_12 (sk_0 _) rfl ?_
          refine rg_X10_1 (r := 8) dX11_look_91 lf_X11_103 (sk_1 _) rfl ?_
          refine rg_X2_9 (v := (I 8 9)) dX11_look_94 lf_X11_293 (sk_8 _) rfl ?_
          exact g_iret rfl dX11_look_97 rfl (Nat.le_refl _) (q4 c7)
        · skip
          rcases Decidable.em (a1 = 4) with c9 | c10
          · skip
            refine g_tableIn (off := 97) (tgt := 98) dX11_look_1 (by rw [c9]; decide) (by rw [c9]; decide) (by rw [c9]; rfl) (by decide) ?_
            refine g_aload_n dX11_look_98 rfl rfl ?_
            refine rg_X11_2 (r := 43) dX11_look_99 lf_X11_26 (sk_0 _) rfl ?_
            refine rg_X0_3 (v := (I 43 3)) dX11_look_102 lf_X11_68 (sk_43 _) rfl ?_
            exact g_iret rfl dX11_look_105 rfl (Nat.le_refl _) (q5 c9)
          · skip
            rcases Decidable.em (a1 = 5) with c11 | c12
            · skip
              refine g_tableIn (off := 105) (tgt := 106) dX11_look_1 (by rw [c11]; decide) (by rw [c11]; decide) (by rw [c11]; rfl) (by decide) ?_
              refine g_aload_n dX11_look_106 rfl rfl ?_
              refine rg_X11_0 (r := 1) dX11_look_107 lf_X11_12 (sk_0 _) rfl ?_
              refine rg_X10_6 (v := (I 1 6)) dX11_look_110 lf_X11_124 (sk_1 _) rfl ?_
              exact g_iret rfl dX11_look_113 rfl (Nat.le_refl _) (q6 c11)
            · skip
              rcases Decidable.em (a1 = 6) with c13 | c14
              · skip
                refine g_tableIn (off := 113) (tgt := 114) dX11_look_1 (by rw [c13]; decide) (by rw [c13]; decide) (by rw [c13]; rfl) (by decide) ?_
                refine g_aload_n dX11_look_114 rfl rfl ?_
                refine rg_X11_0 (r := 1) dX11_look_115 lf_X11_12 (sk_0 _) rfl ?_
                refine rg_X10_7 (v := (I 1 7)) dX11_look_118 lf_X11_127 (sk_1 _) rfl ?_
                exact g_iret rfl dX11_look_121 rfl (Nat.le_refl _) (q7 c13)
              · skip
                rcases Decidable.em (a1 = 7) with c15 | c16
                · skip
                  refine g_tableIn (off := 121) (tgt := 122) dX11_look_1 (by rw [c15]; decide) (by rw [c15]; decide) (by rw [c15]; rfl) (by decide) ?_
                  refine g_aload_n dX11_look_122 rfl rfl ?_
                  refine rg_X11_0 (r := 1) dX11_look_123 lf_X11_12 (sk_0 _) rfl ?_
                  refine rg_X10_4 (r := 28) dX11_look_126 lf_X11_146 (sk_1 _) rfl ?_
                  refine rg_X3_4 (v := (I 28 4)) dX11_look_129 lf_X11_159 (sk_28 _) rfl ?_
                  exact g_iret rfl dX11_look_132 rfl (Nat.le_refl _) (q8 c15)
                · skip
                  rcases Decidable.em (a1 = 8) with c17 | c18
                  · skip
                    refine g_tableIn (off := 132) (tgt := 133) dX11_look_1 (by rw [c17]; decide) (by rw [c17]; decide) (by rw [c17]; rfl) (by decide) ?_
                    refine g_aload_n dX11_look_133 rfl rfl ?_
                    refine rg_X11_0 (r := 1) dX11_look_134 lf_X11_12 (sk_0 _) rfl ?_
                    refine rg_X10_2 (r := 18) dX11_look_137 lf_X11_265 (sk_1 _) rfl ?_
                    refine rg_X6_5 (v := (I 18 5)) dX11_look_140 lf_X11_276 (sk_18 _) rfl ?_
                    exact g_iret rfl dX11_look_143 rfl (Nat.le_refl _) (q9 c17)
                  · skip
                    rcases Decidable.em (a1 = 9) with c19 | c20
                    · skip
                      refine g_tableIn (off := 143) (tgt := 144) dX11_look_1 (by rw [c19]; decide) (by rw [c19]; decide) (by rw [c19]; rfl) (by decide) ?_
                      refine g_aload_n dX11_look_144 rfl rfl ?_
                      refine rg_X11_0 (r := 1) dX11_look_145 lf_X11_12 (sk_0 _) rfl ?_
                      refine rg_X10_3 (r := 24) dX11_look_148 lf_X11_300 (sk_1 _) rfl ?_
                      refine rg_X4_3 (v := (I 24 3)) dX11_look_151 lf_X11_331 (sk_24 _) rfl ?_
                      exact g_iret rfl dX11_look_154 rfl (Nat.le_refl _) (q10 c19)
                    · skip
                      rcases Decidable.em (a1 = 10) with c21 | c22
                      · skip
                        refine g_tableIn (off := 154) (tgt := 155) dX11_look_1 (by rw [c21]; decide) (by rw [c21]; decide) (by rw [c21]; rfl) (by decide) ?_
                        refine g_aload_n dX11_look_155 rfl rfl ?_
                        refine rg_X11_1 (r := 33) dX11_look_156 lf_X11_19 (sk_0 _) rfl ?_
                        refine rg_X9_10 (v := (I 33 10)) dX11_look_159 lf_X11_332 (sk_33 _) rfl ?_
                        exact g_iret rfl dX11_look_162 rfl (Nat.le_refl _) (q11 c21)
                      · skip
                        refine g_tableOut (tgt := 163) dX11_look_1 (by have q2 := mx_i32 (n := 0) (by decide) c2; have q4 := mx_i32 (n := 1) (by decide) c4; have q6 := mx_i32 (n := 2) (by decide) c6; have q8 := mx_i32 (n := 3) (by decide) c8; have q10 := mx_i32 (n := 4) (by decide) c10; have q12 := mx_i32 (n := 5) (by decide) c12; have q14 := mx_i32 (n := 6) (by decide) c14; have q16 := mx_i32 (n := 7) (by decide) c16; have q18 := mx_i32 (n := 8) (by decide) c18; have q20 := mx_i32 (n := 9) (by decide) c20; have q22 := mx_i32 (n := 10) (by decide) c22; omega) (by decide) ?_
                        refine g_bipush (v := (-2)) dX11_look_163 (by decide) ?_
                        exact g_iret rfl dX11_look_165 rfl (Nat.le_refl _) (q12 c2 c4 c6 c8 c10 c12 c14 c16 c18 c20 c22)
set_option maxRecDepth 10000 in
set_option maxHeartbeats 1000000 in
theorem sn_X11_isAhead {l : Launch} {d : Nat} {Q : Option Value → mx_H → Prop} {c : Nat} {I : mx_I} (a1 : Int32)
    (q1 : (a1 < (I 33 9)) → Q (some (.int 0)) (sk0 c, I))
    (q2 : (¬ a1 < (I 33 9)) → (167 < a1) → Q (some (.int 0)) (sk0 c, I))
    (q3 : (¬ a1 < (I 33 9)) → (¬ 167 < a1) → Q (some (.int 1)) (sk0 c, I)) :
    mx_Spec l mX11_isAhead (d + 1) 0 0 [.ref 0, .int a1] (sk0 c, I) Q := by
  refine mx_enter rfl (by simp [Value.category]) (Nat.le_of_ble_eq_true rfl) ?_
  change mx_Go l (mx_rm (d + 1) 0 0) mX11_isAhead (mx_Z Q 0 0) 0 0 0 [.ref 0, .int a1] [] (sk0 c, I)
  refine g_iload_n dX11_isAhead_0 rfl rfl ?_
  refine g_aload_n dX11_isAhead_1 rfl rfl ?_
  refine rg_X11_1 (r := 33) dX11_isAhead_2 lf_X11_19 (sk_0 _) rfl ?_
  refine rg_X9_9 (v := (I 33 9)) dX11_isAhead_5 lf_X11_163 (sk_33 _) rfl ?_
  refine g_icmp_lt (tgt := 22) dX11_isAhead_8 (by decide) (fun c1 => ?_) (fun c2 => ?_)
  · skip
    refine g_iconst (v := 0) dX11_isAhead_22 (by decide) ?_
    exact g_zret (ty := .boolean) rfl rfl dX11_isAhead_23 rfl (Nat.le_refl _) (q1 c1)
  · skip
    refine g_iload_n dX11_isAhead_11 rfl rfl ?_
    refine g_sipush (v := 167) dX11_isAhead_12 (by decide) ?_
    refine g_icmp_gt (tgt := 22) dX11_isAhead_15 (by decide) (fun c3 => ?_) (fun c4 => ?_)
    · skip
      refine g_iconst (v := 0) dX11_isAhead_22 (by decide) ?_
      exact g_zret (ty := .boolean) rfl rfl dX11_isAhead_23 rfl (Nat.le_refl _) (q2 c2 c3)
    · skip
      refine g_iconst (v := 1) dX11_isAhead_18 (by decide) ?_
      refine g_goto (tgt := 23) dX11_isAhead_19 (by decide) ?_
      exact g_zret (ty := .boolean) rfl rfl dX11_isAhead_23 rfl (Nat.le_refl _) (q3 c2 c4)
set_option maxRecDepth 10000 in
set_option maxHeartbeats 1000000 in
theorem sn_X11_isSpan {l : Launch} {d : Nat} {Q : Option Value → mx_H → Prop} {c : Nat} {I : mx_I} (a1 : Int32) (a2 : Int32)
    (q1 : (a2 < a1) → Q (some (.int 0)) (sk0 c, I))
    (k2 : (¬ a2 < a1) → mx_K1 l mX11_isAhead d [.ref 0, .int a1] (sk0 c, I) (fun r h' => mx_Go l (mx_rm (d + 1) 0 0) mX11_isSpan (mx_Z Q 0 0) 0 0 10 [.ref 0, .int a1, .int a2] (r.toList ++ []) h')) :
    mx_Spec l mX11_isSpan (d + 1) 0 0 [.ref 0, .int a1, .int a2] (sk0 c, I) Q := by
  refine mx_enter rfl (by simp [Value.category]) (Nat.le_of_ble_eq_true rfl) ?_
  change mx_Go l (mx_rm (d + 1) 0 0) mX11_isSpan (mx_Z Q 0 0) 0 0 0 [.ref 0, .int a1, .int a2] [] (sk0 c, I)
  refine g_iload_n dX11_isSpan_0 rfl rfl ?_
  refine g_iload_n dX11_isSpan_1 rfl rfl ?_
  refine g_icmp_gt (tgt := 25) dX11_isSpan_2 (by decide) (fun c1 => ?_) (fun c2 => ?_)
  · skip
    refine g_iconst (v := 0) dX11_isSpan_25 (by decide) ?_
    exact g_zret (ty := .boolean) rfl rfl dX11_isSpan_26 rfl (Nat.le_refl _) (q1 c1)
  · skip
    refine g_aload_n dX11_isSpan_5 rfl rfl ?_
    refine g_iload_n dX11_isSpan_6 rfl rfl ?_
    exact s_callV (M' := mX11_isAhead) (As := [.int a1]) (st := []) dX11_isSpan_7 lm_X11_76 ovX11_isAhead (h := (sk0 c, I)) (sk_0 _) (show vwCl[11]? = some _ from rfl) rfl (by simp [Value.category]) (by decide) rfl (k2 c2)
set_option maxRecDepth 10000 in
set_option maxHeartbeats 1000000 in
theorem sg_X11_isSpan_10 {l : Launch} {d : Nat} {Q : Option Value → mx_H → Prop} {c : Nat} {I : mx_I} (x1 : Int32) (x2 : Int32) (x3 : Int32)
    (q1 : (x3 = 0) → Q (some (.int 0)) (sk0 c, I))
    (k2 : (¬ x3 = 0) → mx_K1 l mX11_isAhead d [.ref 0, .int x2] (sk0 c, I) (fun r h' => mx_Go l (mx_rm (d + 1) 0 0) mX11_isSpan (mx_Z Q 0 0) 0 0 18 [.ref 0, .int x1, .int x2] (r.toList ++ []) h')) :
    mx_Go l (mx_rm (d + 1) 0 0) mX11_isSpan (mx_Z Q 0 0) 0 0 10 [.ref 0, .int x1, .int x2] [.int x3] (sk0 c, I) := by
  refine g_if_eq (tgt := 25) dX11_isSpan_10 (by decide) (fun c1 => ?_) (fun c2 => ?_)
  · skip
    refine g_iconst (v := 0) dX11_isSpan_25 (by decide) ?_
    exact g_zret (ty := .boolean) rfl rfl dX11_isSpan_26 rfl (Nat.le_refl _) (q1 c1)
  · skip
    refine g_aload_n dX11_isSpan_13 rfl rfl ?_
    refine g_iload_n dX11_isSpan_14 rfl rfl ?_
    exact s_callV (M' := mX11_isAhead) (As := [.int x2]) (st := []) dX11_isSpan_15 lm_X11_76 ovX11_isAhead (h := (sk0 c, I)) (sk_0 _) (show vwCl[11]? = some _ from rfl) rfl (by simp [Value.category]) (by decide) rfl (k2 c2)
set_option maxRecDepth 10000 in
set_option maxHeartbeats 1000000 in
theorem sg_X11_isSpan_18 {l : Launch} {d : Nat} {Q : Option Value → mx_H → Prop} {c : Nat} {I : mx_I} (x1 : Int32) (x2 : Int32) (x3 : Int32)
    (q1 : (x3 = 0) → Q (some (.int 0)) (sk0 c, I))
    (q2 : (¬ x3 = 0) → Q (some (.int 1)) (sk0 c, I)) :
    mx_Go l (mx_rm (d + 1) 0 0) mX11_isSpan (mx_Z Q 0 0) 0 0 18 [.ref 0, .int x1, .int x2] [.int x3] (sk0 c, I) := by
  refine g_if_eq (tgt := 25) dX11_isSpan_18 (by decide) (fun c1 => ?_) (fun c2 => ?_)
  · skip
    refine g_iconst (v := 0) dX11_isSpan_25 (by decide) ?_
    exact g_zret (ty := .boolean) rfl rfl dX11_isSpan_26 rfl (Nat.le_refl _) (q1 c1)
  · skip
    refine g_iconst (v := 1) dX11_isSpan_21 (by decide) ?_
    refine g_goto (tgt := 26) dX11_isSpan_22 (by decide) ?_
    exact g_zret (ty := .boolean) rfl rfl dX11_isSpan_26 rfl (Nat.le_refl _) (q2 c2)
set_option maxRecDepth 10000 in
set_option maxHeartbeats 1000000 in
theorem sn_X11_isWalk {l : Launch} {d : Nat} {Q : Option Value → mx_H → Prop} {c : Nat} {I : mx_I} (a1 : Int32) (a2 : Int32) (a3 : Int32)
    (q1 : (a1 < 0) → Q (some (.int 0)) (sk0 c, I))
    (q2 : (¬ a1 < 0) → ((I 1 5) ≤ a1) → Q (some (.int 0)) (sk0 c, I))
    (q3 : (¬ a1 < 0) → (¬ (I 1 5) ≤ a1) → (a2 = 0) → (a3 < 0) → Q (some (.int 0)) (sk0 c, I))
    (q4 : (¬ a1 < 0) → (¬ (I 1 5) ≤ a1) → (a2 = 0) → (¬ a3 < 0) → (99 < a3) → Q (some (.int 0)) (sk0 c, I))
    (q5 : (¬ a1 < 0) → (¬ (I 1 5) ≤ a1) → (a2 = 0) → (¬ a3 < 0) → (¬ 99 < a3) → Q (some (.int 1)) (sk0 c, I))
    (q6 : (¬ a1 < 0) → (¬ (I 1 5) ≤ a1) → (¬ a2 = 0) → (¬ a2 = 1) → Q (some (.int 0)) (sk0 c, I))
    (q7 : (¬ a1 < 0) → (¬ (I 1 5) ≤ a1) → (¬ a2 = 0) → (a2 = 1) → (a3 < 0) → Q (some (.int 0)) (sk0 c, I))
    (q8 : (¬ a1 < 0) → (¬ (I 1 5) ≤ a1) → (¬ a2 = 0) → (a2 = 1) → (¬ a3 < 0) → (99 < a3) → Q (some (.int 0)) (sk0 c, I))
    (q9 : (¬ a1 < 0) → (¬ (I 1 5) ≤ a1) → (¬ a2 = 0) → (a2 = 1) → (¬ a3 < 0) → (¬ 99 < a3) → Q (some (.int 1)) (sk0 c, I)) :
    mx_Spec l mX11_isWalk (d + 1) 0 0 [.ref 0, .int a1, .int a2, .int a3] (sk0 c, I) Q := by
  refine mx_enter rfl (by simp [Value.category]) (Nat.le_of_ble_eq_true rfl) ?_
  change mx_Go l (mx_rm (d + 1) 0 0) mX11_isWalk (mx_Z Q 0 0) 0 0 0 [.ref 0, .int a1, .int a2, .int a3] [] (sk0 c, I)
  refine g_iload_n dX11_isWalk_0 rfl rfl ?_
  refine g_if_lt (tgt := 38) dX11_isWalk_1 (by decide) (fun c1 => ?_) (fun c2 => ?_)
  · skip
    refine g_iconst (v := 0) dX11_isWalk_38 (by decide) ?_
    exact g_zret (ty := .boolean) rfl rfl dX11_isWalk_39 rfl (Nat.le_refl _) (q1 c1)
  · skip
    refine g_iload_n dX11_isWalk_4 rfl rfl ?_
    refine g_aload_n dX11_isWalk_5 rfl rfl ?_
    refine rg_X11_0 (r := 1) dX11_isWalk_6 lf_X11_12 (sk_0 _) rfl ?_
    refine rg_X10_5 (v := (I 1 5)) dX11_isWalk_9 lf_X11_327 (sk_1 _) rfl ?_
    refine g_icmp_ge (tgt := 38) dX11_isWalk_12 (by decide) (fun c3 => ?_) (fun c4 => ?_)
    · skip
      refine g_iconst (v := 0) dX11_isWalk_38 (by decide) ?_
      exact g_zret (ty := .boolean) rfl rfl dX11_isWalk_39 rfl (Nat.le_refl _) (q2 c2 c3)
    · skip
      refine g_iload_n dX11_isWalk_15 rfl rfl ?_
      refine g_if_eq (tgt := 24) dX11_isWalk_16 (by decide) (fun c5 => ?_) (fun c6 => ?_)
      · skip
        refine g_iload_n dX11_isWalk_24 rfl rfl ?_
        refine g_if_lt (tgt := 38) dX11_isWalk_25 (by decide) (fun c7 => ?_) (fun c8 => ?_)
        · skip
          refine g_iconst (v := 0) dX11_isWalk_38 (by decide) ?_
          exact g_zret (ty := .boolean) rfl rfl dX11_isWalk_39 rfl (Nat.le_refl _) (q3 c2 c4 c5 c7)
        · skip
          refine g_iload_n dX11_isWalk_28 rfl rfl ?_
          refine g_bipush (v := 99) dX11_isWalk_29 (by decide) ?_
          refine g_icmp_gt (tgt := 38) dX11_isWalk_31 (by decide) (fun c9 => ?_) (fun c10 => ?_)
          · skip
            refine g_iconst (v := 0) dX11_isWalk_38 (by decide) ?_
            exact g_zret (ty := .boolean) rfl rfl dX11_isWalk_39 rfl (Nat.le_refl _) (q4 c2 c4 c5 c8 c9)
          · skip
            refine g_iconst (v := 1) dX11_isWalk_34 (by decide) ?_
            refine g_goto (tgt := 39) dX11_isWalk_35 (by decide) ?_
            exact g_zret (ty := .boolean) rfl rfl dX11_isWalk_39 rfl (Nat.le_refl _) (q5 c2 c4 c5 c8 c10)
      · skip
        refine g_iload_n dX11_isWalk_19 rfl rfl ?_
        refine g_iconst (v := 1) dX11_isWalk_20 (by decide) ?_
        refine g_icmp_ne (tgt := 38) dX11_isWalk_21 (by decide) (fun c11 => ?_) (fun c12 => ?_)
        · skip
          refine g_iconst (v := 0) dX11_isWalk_38 (by decide) ?_
          exact g_zret (ty := .boolean) rfl rfl dX11_isWalk_39 rfl (Nat.le_refl _) (q6 c2 c4 c6 c11)
        · skip
          refine g_iload_n dX11_isWalk_24 rfl rfl ?_
          refine g_if_lt (tgt := 38) dX11_isWalk_25 (by decide) (fun c13 => ?_) (fun c14 => ?_)
          · skip
            refine g_iconst (v := 0) dX11_isWalk_38 (by decide) ?_
            exact g_zret (ty := .boolean) rfl rfl dX11_isWalk_39 rfl (Nat.le_refl _) (q7 c2 c4 c6 c12 c13)
          · skip
            refine g_iload_n dX11_isWalk_28 rfl rfl ?_
            refine g_bipush (v := 99) dX11_isWalk_29 (by decide) ?_
            refine g_icmp_gt (tgt := 38) dX11_isWalk_31 (by decide) (fun c15 => ?_) (fun c16 => ?_)
            · skip
              refine g_iconst (v := 0) dX11_isWalk_38 (by decide) ?_
              exact g_zret (ty := .boolean) rfl rfl dX11_isWalk_39 rfl (Nat.le_refl _) (q8 c2 c4 c6 c12 c14 c15)
            · skip
              refine g_iconst (v := 1) dX11_isWalk_34 (by decide) ?_
              refine g_goto (tgt := 39) dX11_isWalk_35 (by decide) ?_
              exact g_zret (ty := .boolean) rfl rfl dX11_isWalk_39 rfl (Nat.le_refl _) (q9 c2 c4 c6 c12 c14 c16)
set_option maxRecDepth 10000 in
set_option maxHeartbeats 1000000 in
theorem sn_X11_think {l : Launch} {d : Nat} {Q : Option Value → mx_H → Prop} {c : Nat} {I : mx_I}
    (k1 : mx_K1 l mX9_copyFrom d [.ref 55, .ref 33] (sk0 c, I) (fun r h' => mx_Go l (mx_rm (d + 1) 0 0) mX11_think (mx_Z Q 0 0) 0 0 11 [.ref 0] (r.toList ++ []) h')) :
    mx_Spec l mX11_think (d + 1) 0 0 [.ref 0] (sk0 c, I) Q := by
  refine mx_enter rfl (by simp [Value.category]) (Nat.le_of_ble_eq_true rfl) ?_
  change mx_Go l (mx_rm (d + 1) 0 0) mX11_think (mx_Z Q 0 0) 0 0 0 [.ref 0] [] (sk0 c, I)
  refine g_aload_n dX11_think_0 rfl rfl ?_
  refine rg_X11_5 (r := 55) dX11_think_1 lf_X11_37 (sk_0 _) rfl ?_
  refine g_aload_n dX11_think_4 rfl rfl ?_
  refine rg_X11_1 (r := 33) dX11_think_5 lf_X11_19 (sk_0 _) rfl ?_
  exact s_callV (M' := mX9_copyFrom) (As := [.ref 33]) (st := []) dX11_think_8 lm_X11_322 ovX9_copyFrom (h := (sk0 c, I)) (sk_55 _) (show vwCl[9]? = some _ from rfl) rfl (by simp [Value.category]) (by decide) rfl (k1)
set_option maxRecDepth 10000 in
set_option maxHeartbeats 1000000 in
theorem sg_X11_think_11 {l : Launch} {d : Nat} {Q : Option Value → mx_H → Prop} {c : Nat} {I : mx_I}
    (k1 : mx_K1 l mX1_begin d [.ref 65, .ref 55] (sk0 c, I) (fun r h' => mx_Go l (mx_rm (d + 1) 0 0) mX11_think (mx_Z Q 0 0) 0 0 22 [.ref 0] (r.toList ++ []) h')) :
    mx_Go l (mx_rm (d + 1) 0 0) mX11_think (mx_Z Q 0 0) 0 0 11 [.ref 0] [] (sk0 c, I) := by
  refine g_aload_n dX11_think_11 rfl rfl ?_
  refine rg_X11_4 (r := 65) dX11_think_12 lf_X11_45 (sk_0 _) rfl ?_
  refine g_aload_n dX11_think_15 rfl rfl ?_
  refine rg_X11_5 (r := 55) dX11_think_16 lf_X11_37 (sk_0 _) rfl ?_
  exact s_callV (M' := mX1_begin) (As := [.ref 55]) (st := []) dX11_think_19 lm_X11_176 ovX1_begin (h := (sk0 c, I)) (sk_65 _) (show vwCl[1]? = some _ from rfl) rfl (by simp [Value.category]) (by decide) rfl (k1)
set_option maxRecDepth 10000 in
set_option maxHeartbeats 1000000 in
theorem sg_X11_think_22 {l : Launch} {d : Nat} {Q : Option Value → mx_H → Prop} {c : Nat} {I : mx_I}
    (q1 : Q none (sk0 c, I)) :
    mx_Go l (mx_rm (d + 1) 0 0) mX11_think (mx_Z Q 0 0) 0 0 22 [.ref 0] [] (sk0 c, I) := by
  exact g_vret rfl dX11_think_22 rfl (Nat.le_refl _) (q1)
set_option maxRecDepth 10000 in
set_option maxHeartbeats 1000000 in
theorem sn_X11_arrival {l : Launch} {d : Nat} {Q : Option Value → mx_H → Prop} {c : Nat} {I : mx_I} (a1 : Int32) (a2 : Int32) (a3 : Int32) (a4 : Int32)
    (b1 : vp_in a3 168)
    (b2 : vp_in a3 168)
    (k3 : mx_K1 l mX11_think d [.ref 0] (sk0 c, (mx_set I 67 a3.toNatClampNeg ((I 67 a3.toNatClampNeg) ||| (1 <<< (a1 &&& 31))))) (fun r h' => mx_Go l (mx_rm (d + 1) 0 0) mX11_arrival (mx_Z Q 0 0) 0 0 22 [.ref 0, .int a1, .int a2, .int a3, .int a4] (r.toList ++ []) h')) :
    mx_Spec l mX11_arrival (d + 1) 0 0 [.ref 0, .int a1, .int a2, .int a3, .int a4] (sk0 c, I) Q := by
  refine mx_enter rfl (by simp [Value.category]) (Nat.le_of_ble_eq_true rfl) ?_
  change mx_Go l (mx_rm (d + 1) 0 0) mX11_arrival (mx_Z Q 0 0) 0 0 0 [.ref 0, .int a1, .int a2, .int a3, .int a4] [] (sk0 c, I)
  refine g_aload_n dX11_arrival_0 rfl rfl ?_
  refine rg_X11_4 (r := 65) dX11_arrival_1 lf_X11_45 (sk_0 _) rfl ?_
  refine rg_X1_2 (r := 66) dX11_arrival_4 lf_X11_166 (sk_65 _) rfl ?_
  refine rg_X7_0 (r := 67) dX11_arrival_7 lf_X11_335 (sk_66 _) rfl ?_
  refine g_iload_n dX11_arrival_10 rfl rfl ?_
  refine g_dup2 dX11_arrival_11 rfl rfl ?_
  refine s_iald (j := a3.toNatClampNeg) (v := (I 67 a3.toNatClampNeg)) dX11_arrival_12 (sk_67 _) (b1) rfl rfl ?_
  refine g_iconst (v := 1) dX11_arrival_13 (by decide) ?_
  refine g_iload_n dX11_arrival_14 rfl rfl ?_
  refine g_ishl dX11_arrival_15 ?_
  refine g_ior dX11_arrival_16 ?_
  refine s_iast (j := a3.toNatClampNeg) dX11_arrival_17 (sk_67 _) (b2) rfl ?_
  refine g_aload_n dX11_arrival_18 rfl rfl ?_
  exact s_callV (M' := mX11_think) (As := []) (st := []) dX11_arrival_19 lm_X11_233 ovX11_think (h := (sk0 c, (mx_set I 67 a3.toNatClampNeg ((I 67 a3.toNatClampNeg) ||| (1 <<< (a1 &&& 31)))))) (sk_0 _) (show vwCl[11]? = some _ from rfl) rfl (by simp [Value.category]) (by decide) rfl (k3)
set_option maxRecDepth 10000 in
set_option maxHeartbeats 1000000 in
theorem sg_X11_arrival_22 {l : Launch} {d : Nat} {Q : Option Value → mx_H → Prop} {c : Nat} {I : mx_I} (x1 : Int32) (x2 : Int32) (x3 : Int32) (x4 : Int32)
    (k1 : mx_K1 l mX1_watch d [.ref 65, .int x1, .int x2] (sk0 c, I) (fun r h' => mx_Go l (mx_rm (d + 1) 0 0) mX11_arrival (mx_Z Q 0 0) 0 0 31 [.ref 0, .int x1, .int x2, .int x3, .int x4] (r.toList ++ []) h')) :
    mx_Go l (mx_rm (d + 1) 0 0) mX11_arrival (mx_Z Q 0 0) 0 0 22 [.ref 0, .int x1, .int x2, .int x3, .int x4] [] (sk0 c, I) := by
  refine g_aload_n dX11_arrival_22 rfl rfl ?_
  refine rg_X11_4 (r := 65) dX11_arrival_23 lf_X11_45 (sk_0 _) rfl ?_
  refine g_iload_n dX11_arrival_26 rfl rfl ?_
  refine g_iload_n dX11_arrival_27 rfl rfl ?_
  exact s_callV (M' := mX1_watch) (As := [.int x1, .int x2]) (st := []) dX11_arrival_28 lm_X11_236 ovX1_watch (h := (sk0 c, I)) (sk_65 _) (show vwCl[1]? = some _ from rfl) rfl (by simp [Value.category]) (by decide) rfl (k1)
set_option maxRecDepth 10000 in
set_option maxHeartbeats 1000000 in
theorem sg_X11_arrival_31 {l : Launch} {d : Nat} {Q : Option Value → mx_H → Prop} {c : Nat} {I : mx_I} (x1 : Int32) (x2 : Int32) (x3 : Int32) (x4 : Int32)
    (k1 : mx_K1 l mX1_goOn d [.ref 65, .int x4] (sk0 c, I) (fun r h' => mx_Go l (mx_rm (d + 1) 0 0) mX11_arrival (mx_Z Q 0 0) 0 0 40 [.ref 0, .int x1, .int x2, .int x3, .int x4] (r.toList ++ []) h')) :
    mx_Go l (mx_rm (d + 1) 0 0) mX11_arrival (mx_Z Q 0 0) 0 0 31 [.ref 0, .int x1, .int x2, .int x3, .int x4] [] (sk0 c, I) := by
  refine g_aload_n dX11_arrival_31 rfl rfl ?_
  refine rg_X11_4 (r := 65) dX11_arrival_32 lf_X11_45 (sk_0 _) rfl ?_
  refine g_iload dX11_arrival_35 rfl ?_
  exact s_callV (M' := mX1_goOn) (As := [.int x4]) (st := []) dX11_arrival_37 lm_X11_183 ovX1_goOn (h := (sk0 c, I)) (sk_65 _) (show vwCl[1]? = some _ from rfl) rfl (by simp [Value.category]) (by decide) rfl (k1)
set_option maxRecDepth 10000 in
set_option maxHeartbeats 1000000 in
theorem sg_X11_arrival_40 {l : Launch} {d : Nat} {Q : Option Value → mx_H → Prop} {c : Nat} {I : mx_I} (x1 : Int32) (x2 : Int32) (x3 : Int32) (x4 : Int32)
    (b1 : vp_in x3 168)
    (b2 : vp_in x3 168)
    (q3 : Q (some (.int (I 65 13))) (sk0 c, (mx_set I 67 x3.toNatClampNeg ((I 67 x3.toNatClampNeg) &&& ((1 <<< (x1 &&& 31)) ^^^ (-1)))))) :
    mx_Go l (mx_rm (d + 1) 0 0) mX11_arrival (mx_Z Q 0 0) 0 0 40 [.ref 0, .int x1, .int x2, .int x3, .int x4] [] (sk0 c, I) := by
  refine g_aload_n dX11_arrival_40 rfl rfl ?_
  refine rg_X11_4 (r := 65) dX11_arrival_41 lf_X11_45 (sk_0 _) rfl ?_
  refine rg_X1_2 (r := 66) dX11_arrival_44 lf_X11_166 (sk_65 _) rfl ?_
  refine rg_X7_0 (r := 67) dX11_arrival_47 lf_X11_335 (sk_66 _) rfl ?_
  refine g_iload_n dX11_arrival_50 rfl rfl ?_
  refine g_dup2 dX11_arrival_51 rfl rfl ?_
  refine s_iald (j := x3.toNatClampNeg) (v := (I 67 x3.toNatClampNeg)) dX11_arrival_52 (sk_67 _) (b1) rfl rfl ?_
  refine g_iconst (v := 1) dX11_arrival_53 (by decide) ?_
  refine g_iload_n dX11_arrival_54 rfl rfl ?_
  refine g_ishl dX11_arrival_55 ?_
  refine g_iconst (v := (-1)) dX11_arrival_56 (by decide) ?_
  refine g_ixor dX11_arrival_57 ?_
  refine g_iand dX11_arrival_58 ?_
  refine s_iast (j := x3.toNatClampNeg) dX11_arrival_59 (sk_67 _) (b2) rfl ?_
  refine g_aload_n dX11_arrival_60 rfl rfl ?_
  refine rg_X11_4 (r := 65) dX11_arrival_61 lf_X11_45 (sk_0 _) rfl ?_
  refine rg_X1_13 (v := (I 65 13)) dX11_arrival_64 lf_X11_240 (sk_65 _) (rd_ne (by decide) rfl) ?_
  exact g_iret rfl dX11_arrival_67 rfl (Nat.le_refl _) (q3)
set_option maxRecDepth 10000 in
set_option maxHeartbeats 1000000 in
theorem sn_X11_isEnough {l : Launch} {d : Nat} {Q : Option Value → mx_H → Prop} {c : Nat} {I : mx_I} (a1 : Int32) (a2 : Int32) (a3 : Int32) (a4 : Int32)
    (k1 : mx_K1 l mX11_think d [.ref 0] (sk0 c, I) (fun r h' => mx_Go l (mx_rm (d + 1) 0 0) mX11_isEnough (mx_Z Q 0 0) 0 0 4 [.ref 0, .int a1, .int a2, .int a3, .int a4, .retAddr 0, .retAddr 0] (r.toList ++ []) h')) :
    mx_Spec l mX11_isEnough (d + 1) 0 0 [.ref 0, .int a1, .int a2, .int a3, .int a4] (sk0 c, I) Q := by
  refine mx_enter rfl (by simp [Value.category]) (Nat.le_of_ble_eq_true rfl) ?_
  change mx_Go l (mx_rm (d + 1) 0 0) mX11_isEnough (mx_Z Q 0 0) 0 0 0 [.ref 0, .int a1, .int a2, .int a3, .int a4, .retAddr 0, .retAddr 0] [] (sk0 c, I)
  refine g_aload_n dX11_isEnough_0 rfl rfl ?_
  exact s_callV (M' := mX11_think) (As := []) (st := []) dX11_isEnough_1 lm_X11_233 ovX11_think (h := (sk0 c, I)) (sk_0 _) (show vwCl[11]? = some _ from rfl) rfl (by simp [Value.category]) (by decide) rfl (k1)
set_option maxRecDepth 10000 in
set_option maxHeartbeats 1000000 in
theorem sg_X11_isEnough_4 {l : Launch} {d : Nat} {Q : Option Value → mx_H → Prop} {c : Nat} {I : mx_I} (x1 : Int32) (x2 : Int32) (x3 : Int32) (x4 : Int32)
    (k1 : mx_K1 l mX1_goOn d [.ref 65, .int x4] (sk0 c, (mx_set I 65 9 x1)) (fun r h' => mx_Go l (mx_rm (d + 1) 0 0) mX11_isEnough (mx_Z Q 0 0) 0 0 21 [.ref 0, .int x1, .int x2, .int x3, .int x4, .retAddr 0, .retAddr 0] (r.toList ++ []) h')) :
    mx_Go l (mx_rm (d + 1) 0 0) mX11_isEnough (mx_Z Q 0 0) 0 0 4 [.ref 0, .int x1, .int x2, .int x3, .int x4, .retAddr 0, .retAddr 0] [] (sk0 c, I) := by
  refine g_aload_n dX11_isEnough_4 rfl rfl ?_
  refine rg_X11_4 (r := 65) dX11_isEnough_5 lf_X11_45 (sk_0 _) rfl ?_
  refine g_iload_n dX11_isEnough_8 rfl rfl ?_
  refine rp_X1_9 dX11_isEnough_9 lf_X11_338 (sk_65 _) ?_
  refine g_aload_n dX11_isEnough_12 rfl rfl ?_
  refine rg_X11_4 (r := 65) dX11_isEnough_13 lf_X11_45 (sk_0 _) rfl ?_
  refine g_iload dX11_isEnough_16 rfl ?_
  exact s_callV (M' := mX1_goOn) (As := [.int x4]) (st := []) dX11_isEnough_18 lm_X11_183 ovX1_goOn (h := (sk0 c, (mx_set I 65 9 x1))) (sk_65 _) (show vwCl[1]? = some _ from rfl) rfl (by simp [Value.category]) (by decide) rfl (k1)
set_option maxRecDepth 10000 in
set_option maxHeartbeats 1000000 in
theorem sg_X11_isEnough_21 {l : Launch} {d : Nat} {Q : Option Value → mx_H → Prop} {c : Nat} {I : mx_I} (x1 : Int32) (x2 : Int32) (x3 : Int32) (x4 : Int32)
    (e1 : mx_Go l (mx_rm (d + 1) 0 0) mX11_isEnough (mx_Z Q 0 0) 0 0 24 [.ref 0, .int x1, .int x2, .int x3, .int x4, .int 0, .retAddr 0] [] (sk0 c, I)) :
    mx_Go l (mx_rm (d + 1) 0 0) mX11_isEnough (mx_Z Q 0 0) 0 0 21 [.ref 0, .int x1, .int x2, .int x3, .int x4, .retAddr 0, .retAddr 0] [] (sk0 c, I) := by
  refine g_iconst (v := 0) dX11_isEnough_21 (by decide) ?_
  refine s_istore (L' := [.ref 0, .int x1, .int x2, .int x3, .int x4, .int 0, .retAddr 0]) dX11_isEnough_22 (by decide) rfl rfl ?_
  exact e1
set_option maxRecDepth 10000 in
set_option maxHeartbeats 1000000 in
theorem sg_X11_isEnough_24 {l : Launch} {d : Nat} {Q : Option Value → mx_H → Prop} {c : Nat} {I : mx_I} (x1 : Int32) (x2 : Int32) (x3 : Int32) (x4 : Int32) (x5 : Int32)
    (q1 : ((I 2 5) ≤ x5) → Q (some (.int 1)) (sk0 c, I))
    (e2 : (¬ (I 2 5) ≤ x5) → (¬ ((x2 >>> (x5 &&& 31)) &&& 1) = 1) → mx_Go l (mx_rm (d + 1) 0 0) mX11_isEnough (mx_Z Q 0 0) 0 0 24 [.ref 0, .int x1, .int x2, .int x3, .int x4, .int (x5 + 1), .int 0] [] (sk0 c, I))
    (b3 : (¬ (I 2 5) ≤ x5) → (((x2 >>> (x5 &&& 31)) &&& 1) = 1) → vp_in x5 30)
    (e4 : (¬ (I 2 5) ≤ x5) → (((x2 >>> (x5 &&& 31)) &&& 1) = 1) → (¬ (I 59 x5.toNatClampNeg) = 0) → mx_Go l (mx_rm (d + 1) 0 0) mX11_isEnough (mx_Z Q 0 0) 0 0 24 [.ref 0, .int x1, .int x2, .int x3, .int x4, .int (x5 + 1), .int 1] [] (sk0 c, I))
    (b5 : (¬ (I 2 5) ≤ x5) → (((x2 >>> (x5 &&& 31)) &&& 1) = 1) → ((I 59 x5.toNatClampNeg) = 0) → vp_in x5 30)
    (e6 : (¬ (I 2 5) ≤ x5) → (((x2 >>> (x5 &&& 31)) &&& 1) = 1) → ((I 59 x5.toNatClampNeg) = 0) → ((I 56 x5.toNatClampNeg) = x3) → mx_Go l (mx_rm (d + 1) 0 0) mX11_isEnough (mx_Z Q 0 0) 0 0 24 [.ref 0, .int x1, .int x2, .int x3, .int x4, .int (x5 + 1), .int 1] [] (sk0 c, I))
    (q7 : (¬ (I 2 5) ≤ x5) → (((x2 >>> (x5 &&& 31)) &&& 1) = 1) → ((I 59 x5.toNatClampNeg) = 0) → (¬ (I 56 x5.toNatClampNeg) = x3) → Q (some (.int 0)) (sk0 c, I)) :
    mx_Go l (mx_rm (d + 1) 0 0) mX11_isEnough (mx_Z Q 0 0) 0 0 24 [.ref 0, .int x1, .int x2, .int x3, .int x4, .int x5, .retAddr 0] [] (sk0 c, I) := by
  refine g_iload dX11_isEnough_24 rfl ?_
  refine g_aload_n dX11_isEnough_26 rfl rfl ?_
  refine rg_X11_0 (r := 1) dX11_isEnough_27 lf_X11_12 (sk_0 _) rfl ?_
  refine rg_X10_0 (r := 2) dX11_isEnough_30 lf_X11_79 (sk_1 _) rfl ?_
  refine rg_X5_5 (v := (I 2 5)) dX11_isEnough_33 lf_X11_330 (sk_2 _) rfl ?_
  refine g_icmp_ge (tgt := 96) dX11_isEnough_36 (by decide) (fun c1 => ?_) (fun c2 => ?_)
  · skip
    refine g_iconst (v := 1) dX11_isEnough_96 (by decide) ?_
    exact g_zret (ty := .boolean) rfl rfl dX11_isEnough_97 rfl (Nat.le_refl _) (q1 c1)
  · skip
    refine g_iload_n dX11_isEnough_39 rfl rfl ?_
    refine g_iload dX11_isEnough_40 rfl ?_
    refine g_ishr dX11_isEnough_42 ?_
    refine g_iconst (v := 1) dX11_isEnough_43 (by decide) ?_
    refine g_iand dX11_isEnough_44 ?_
    refine g_iconst (v := 1) dX11_isEnough_45 (by decide) ?_
    refine g_icmp_ne (tgt := 53) dX11_isEnough_46 (by decide) (fun c3 => ?_) (fun c4 => ?_)
    · skip
      refine g_iconst (v := 0) dX11_isEnough_53 (by decide) ?_
      refine s_istore (L' := [.ref 0, .int x1, .int x2, .int x3, .int x4, .int x5, .int 0]) dX11_isEnough_54 (by decide) rfl rfl ?_
      refine g_iload dX11_isEnough_56 rfl ?_
      refine g_if_eq (tgt := 90) dX11_isEnough_58 (by decide) (fun _ => ?_) (fun hh => absurd hh (by decide))
      refine s_iinc (v := (x5 + 1)) (L' := [.ref 0, .int x1, .int x2, .int x3, .int x4, .int (x5 + 1), .int 0]) dX11_isEnough_90 rfl (by decide) rfl rfl rfl ?_
      refine g_goto (tgt := 24) dX11_isEnough_93 (by decide) ?_
      exact e2 c2 c3
    · skip
      refine g_iconst (v := 1) dX11_isEnough_49 (by decide) ?_
      refine g_goto (tgt := 54) dX11_isEnough_50 (by decide) ?_
      refine s_istore (L' := [.ref 0, .int x1, .int x2, .int x3, .int x4, .int x5, .int 1]) dX11_isEnough_54 (by decide) rfl rfl ?_
      refine g_iload dX11_isEnough_56 rfl ?_
      refine g_if_eq (tgt := 90) dX11_isEnough_58 (by decide) (fun hh => absurd hh (by decide)) (fun _ => ?_)
      refine g_aload_n dX11_isEnough_61 rfl rfl ?_
      refine rg_X11_5 (r := 55) dX11_isEnough_62 lf_X11_37 (sk_0 _) rfl ?_
      refine rg_X9_3 (r := 59) dX11_isEnough_65 lf_X11_204 (sk_55 _) rfl ?_
      refine g_iload dX11_isEnough_68 rfl ?_
      refine s_iald (j := x5.toNatClampNeg) (v := (I 59 x5.toNatClampNeg)) dX11_isEnough_70 (sk_59 _) (b3 c2 c4) rfl rfl ?_
      refine g_if_ne (tgt := 90) dX11_isEnough_71 (by decide) (fun c5 => ?_) (fun c6 => ?_)
      · skip
        refine s_iinc (v := (x5 + 1)) (L' := [.ref 0, .int x1, .int x2, .int x3, .int x4, .int (x5 + 1), .int 1]) dX11_isEnough_90 rfl (by decide) rfl rfl rfl ?_
        refine g_goto (tgt := 24) dX11_isEnough_93 (by decide) ?_
        exact e4 c2 c4 c5
      · skip
        refine g_aload_n dX11_isEnough_74 rfl rfl ?_
        refine rg_X11_5 (r := 55) dX11_isEnough_75 lf_X11_37 (sk_0 _) rfl ?_
        refine rg_X9_0 (r := 56) dX11_isEnough_78 lf_X11_192 (sk_55 _) rfl ?_
        refine g_iload dX11_isEnough_81 rfl ?_
        refine s_iald (j := x5.toNatClampNeg) (v := (I 56 x5.toNatClampNeg)) dX11_isEnough_83 (sk_56 _) (b5 c2 c4 c6) rfl rfl ?_
        refine g_iload_n dX11_isEnough_84 rfl rfl ?_
        refine g_icmp_eq (tgt := 90) dX11_isEnough_85 (by decide) (fun c7 => ?_) (fun c8 => ?_)
        · skip
          refine s_iinc (v := (x5 + 1)) (L' := [.ref 0, .int x1, .int x2, .int x3, .int x4, .int (x5 + 1), .int 1]) dX11_isEnough_90 rfl (by decide) rfl rfl rfl ?_
          refine g_goto (tgt := 24) dX11_isEnough_93 (by decide) ?_
          exact e6 c2 c4 c6 c7
        · skip
          refine g_iconst (v := 0) dX11_isEnough_88 (by decide) ?_
          exact g_zret (ty := .boolean) rfl rfl dX11_isEnough_89 rfl (Nat.le_refl _) (q7 c2 c4 c6 c8)
set_option maxRecDepth 10000 in
set_option maxHeartbeats 1000000 in
theorem sn_X11_goesWithLists {l : Launch} {d : Nat} {Q : Option Value → mx_H → Prop} {c : Nat} {I : mx_I} (a1 : Int32)
    (k1 : mx_K1 l mX9_clear d [.ref 55] (sk0 c, I) (fun r h' => mx_Go l (mx_rm (d + 1) 0 0) mX11_goesWithLists (mx_Z Q 0 0) 0 0 7 [.ref 0, .int a1, .retAddr 0, .retAddr 0] (r.toList ++ []) h')) :
    mx_Spec l mX11_goesWithLists (d + 1) 0 0 [.ref 0, .int a1] (sk0 c, I) Q := by
  refine mx_enter rfl (by simp [Value.category]) (Nat.le_of_ble_eq_true rfl) ?_
  change mx_Go l (mx_rm (d + 1) 0 0) mX11_goesWithLists (mx_Z Q 0 0) 0 0 0 [.ref 0, .int a1, .retAddr 0, .retAddr 0] [] (sk0 c, I)
  refine g_aload_n dX11_goesWithLists_0 rfl rfl ?_
  refine rg_X11_5 (r := 55) dX11_goesWithLists_1 lf_X11_37 (sk_0 _) rfl ?_
  exact s_callV (M' := mX9_clear) (As := []) (st := []) dX11_goesWithLists_4 lm_X11_66 ovX9_clear (h := (sk0 c, I)) (sk_55 _) (show vwCl[9]? = some _ from rfl) rfl (by simp [Value.category]) (by decide) rfl (k1)
set_option maxRecDepth 10000 in
set_option maxHeartbeats 1000000 in
theorem sg_X11_goesWithLists_7 {l : Launch} {d : Nat} {Q : Option Value → mx_H → Prop} {c : Nat} {I : mx_I} (x1 : Int32)
    (k1 : mx_K1 l mX1_begin d [.ref 65, .ref 55] (sk0 c, I) (fun r h' => mx_Go l (mx_rm (d + 1) 0 0) mX11_goesWithLists (mx_Z Q 0 0) 0 0 18 [.ref 0, .int x1, .retAddr 0, .retAddr 0] (r.toList ++ []) h')) :
    mx_Go l (mx_rm (d + 1) 0 0) mX11_goesWithLists (mx_Z Q 0 0) 0 0 7 [.ref 0, .int x1, .retAddr 0, .retAddr 0] [] (sk0 c, I) := by
  refine g_aload_n dX11_goesWithLists_7 rfl rfl ?_
  refine rg_X11_4 (r := 65) dX11_goesWithLists_8 lf_X11_45 (sk_0 _) rfl ?_
  refine g_aload_n dX11_goesWithLists_11 rfl rfl ?_
  refine rg_X11_5 (r := 55) dX11_goesWithLists_12 lf_X11_37 (sk_0 _) rfl ?_
  exact s_callV (M' := mX1_begin) (As := [.ref 55]) (st := []) dX11_goesWithLists_15 lm_X11_176 ovX1_begin (h := (sk0 c, I)) (sk_65 _) (show vwCl[1]? = some _ from rfl) rfl (by simp [Value.category]) (by decide) rfl (k1)
set_option maxRecDepth 10000 in
set_option maxHeartbeats 1000000 in
theorem sg_X11_goesWithLists_18 {l : Launch} {d : Nat} {Q : Option Value → mx_H → Prop} {c : Nat} {I : mx_I} (x1 : Int32)
    (k1 : mx_K1 l mX4_lastHour d [.ref 24] (sk0 c, (mx_set I 65 10 x1)) (fun r h' => mx_Go l (mx_rm (d + 1) 0 0) mX11_goesWithLists (mx_Z Q 0 0) 0 0 36 [.ref 0, .int x1, .retAddr 0, .retAddr 0] (r.toList ++ []) h')) :
    mx_Go l (mx_rm (d + 1) 0 0) mX11_goesWithLists (mx_Z Q 0 0) 0 0 18 [.ref 0, .int x1, .retAddr 0, .retAddr 0] [] (sk0 c, I) := by
  refine g_aload_n dX11_goesWithLists_18 rfl rfl ?_
  refine rg_X11_4 (r := 65) dX11_goesWithLists_19 lf_X11_45 (sk_0 _) rfl ?_
  refine g_iload_n dX11_goesWithLists_22 rfl rfl ?_
  refine rp_X1_10 dX11_goesWithLists_23 lf_X11_341 (sk_65 _) ?_
  refine g_aload_n dX11_goesWithLists_26 rfl rfl ?_
  refine rg_X11_0 (r := 1) dX11_goesWithLists_27 lf_X11_12 (sk_0 _) rfl ?_
  refine rg_X10_3 (r := 24) dX11_goesWithLists_30 lf_X11_300 (sk_1 _) rfl ?_
  exact s_callV (M' := mX4_lastHour) (As := []) (st := []) dX11_goesWithLists_33 lm_X11_344 ovX4_lastHour (h := (sk0 c, (mx_set I 65 10 x1))) (sk_24 _) (show vwCl[4]? = some _ from rfl) rfl (by simp [Value.category]) (by decide) rfl (k1)
set_option maxRecDepth 10000 in
set_option maxHeartbeats 1000000 in
theorem sg_X11_goesWithLists_36 {l : Launch} {d : Nat} {Q : Option Value → mx_H → Prop} {c : Nat} {I : mx_I} (x1 : Int32) (x2 : Int32)
    (e1 : mx_Go l (mx_rm (d + 1) 0 0) mX11_goesWithLists (mx_Z Q 0 0) 0 0 39 [.ref 0, .int x1, .int x2, .int 0] [] (sk0 c, I)) :
    mx_Go l (mx_rm (d + 1) 0 0) mX11_goesWithLists (mx_Z Q 0 0) 0 0 36 [.ref 0, .int x1, .retAddr 0, .retAddr 0] [.int x2] (sk0 c, I) := by
  refine s_istore_n (L' := [.ref 0, .int x1, .int x2, .retAddr 0]) dX11_goesWithLists_36 rfl (by decide) rfl rfl ?_
  refine g_iconst (v := 0) dX11_goesWithLists_37 (by decide) ?_
  refine s_istore_n (L' := [.ref 0, .int x1, .int x2, .int 0]) dX11_goesWithLists_38 rfl (by decide) rfl rfl ?_
  exact e1
set_option maxRecDepth 10000 in
set_option maxHeartbeats 1000000 in
theorem sg_X11_goesWithLists_39 {l : Launch} {d : Nat} {Q : Option Value → mx_H → Prop} {c : Nat} {I : mx_I} (x1 : Int32) (x2 : Int32) (x3 : Int32)
    (q1 : (x2 < x3) → Q (some (.int 1)) (sk0 c, I))
    (k2 : (¬ x2 < x3) → mx_K1 l mX1_goOn d [.ref 65, .int x3] (sk0 c, I) (fun r h' => mx_Go l (mx_rm (d + 1) 0 0) mX11_goesWithLists (mx_Z Q 0 0) 0 0 52 [.ref 0, .int x1, .int x2, .int x3] (r.toList ++ []) h')) :
    mx_Go l (mx_rm (d + 1) 0 0) mX11_goesWithLists (mx_Z Q 0 0) 0 0 39 [.ref 0, .int x1, .int x2, .int x3] [] (sk0 c, I) := by
  refine g_iload_n dX11_goesWithLists_39 rfl rfl ?_
  refine g_iload_n dX11_goesWithLists_40 rfl rfl ?_
  refine g_icmp_gt (tgt := 93) dX11_goesWithLists_41 (by decide) (fun c1 => ?_) (fun c2 => ?_)
  · skip
    refine g_iconst (v := 1) dX11_goesWithLists_93 (by decide) ?_
    exact g_zret (ty := .boolean) rfl rfl dX11_goesWithLists_94 rfl (Nat.le_refl _) (q1 c1)
  · skip
    refine g_aload_n dX11_goesWithLists_44 rfl rfl ?_
    refine rg_X11_4 (r := 65) dX11_goesWithLists_45 lf_X11_45 (sk_0 _) rfl ?_
    refine g_iload_n dX11_goesWithLists_48 rfl rfl ?_
    exact s_callV (M' := mX1_goOn) (As := [.int x3]) (st := []) dX11_goesWithLists_49 lm_X11_183 ovX1_goOn (h := (sk0 c, I)) (sk_65 _) (show vwCl[1]? = some _ from rfl) rfl (by simp [Value.category]) (by decide) rfl (k2 c2)
set_option maxRecDepth 10000 in
set_option maxHeartbeats 1000000 in
theorem sg_X11_goesWithLists_52 {l : Launch} {d : Nat} {Q : Option Value → mx_H → Prop} {c : Nat} {I : mx_I} (x1 : Int32) (x2 : Int32) (x3 : Int32)
    (b1 : vp_in x3 168)
    (e2 : ((I 71 x3.toNatClampNeg) = 0) → mx_Go l (mx_rm (d + 1) 0 0) mX11_goesWithLists (mx_Z Q 0 0) 0 0 39 [.ref 0, .int x1, .int x2, .int (x3 + 1)] [] (sk0 c, I))
    (k3 : (¬ (I 71 x3.toNatClampNeg) = 0) → mx_K1 l mX4_agree d [.ref 24, .int x3, .ref 55] (sk0 c, I) (fun r h' => mx_Go l (mx_rm (d + 1) 0 0) mX11_goesWithLists (mx_Z Q 0 0) 0 0 82 [.ref 0, .int x1, .int x2, .int x3] (r.toList ++ []) h')) :
    mx_Go l (mx_rm (d + 1) 0 0) mX11_goesWithLists (mx_Z Q 0 0) 0 0 52 [.ref 0, .int x1, .int x2, .int x3] [] (sk0 c, I) := by
  refine g_aload_n dX11_goesWithLists_52 rfl rfl ?_
  refine rg_X11_4 (r := 65) dX11_goesWithLists_53 lf_X11_45 (sk_0 _) rfl ?_
  refine rg_X1_2 (r := 66) dX11_goesWithLists_56 lf_X11_166 (sk_65 _) rfl ?_
  refine rg_X7_4 (r := 71) dX11_goesWithLists_59 lf_X11_347 (sk_66 _) rfl ?_
  refine g_iload_n dX11_goesWithLists_62 rfl rfl ?_
  refine s_iald (j := x3.toNatClampNeg) (v := (I 71 x3.toNatClampNeg)) dX11_goesWithLists_63 (sk_71 _) (b1) rfl rfl ?_
  refine g_if_eq (tgt := 87) dX11_goesWithLists_64 (by decide) (fun c1 => ?_) (fun c2 => ?_)
  · skip
    refine s_iinc (v := (x3 + 1)) (L' := [.ref 0, .int x1, .int x2, .int (x3 + 1)]) dX11_goesWithLists_87 rfl (by decide) rfl rfl rfl ?_
    refine g_goto (tgt := 39) dX11_goesWithLists_90 (by decide) ?_
    exact e2 c1
  · skip
    refine g_aload_n dX11_goesWithLists_67 rfl rfl ?_
    refine rg_X11_0 (r := 1) dX11_goesWithLists_68 lf_X11_12 (sk_0 _) rfl ?_
    refine rg_X10_3 (r := 24) dX11_goesWithLists_71 lf_X11_300 (sk_1 _) rfl ?_
    refine g_iload_n dX11_goesWithLists_74 rfl rfl ?_
    refine g_aload_n dX11_goesWithLists_75 rfl rfl ?_
    refine rg_X11_5 (r := 55) dX11_goesWithLists_76 lf_X11_37 (sk_0 _) rfl ?_
    exact s_callV (M' := mX4_agree) (As := [.int x3, .ref 55]) (st := []) dX11_goesWithLists_79 lm_X11_350 ovX4_agree (h := (sk0 c, I)) (sk_24 _) (show vwCl[4]? = some _ from rfl) rfl (by simp [Value.category]) (by decide) rfl (k3 c2)
set_option maxRecDepth 10000 in
set_option maxHeartbeats 1000000 in
theorem sg_X11_goesWithLists_82 {l : Launch} {d : Nat} {Q : Option Value → mx_H → Prop} {c : Nat} {I : mx_I} (x1 : Int32) (x2 : Int32) (x3 : Int32) (x4 : Int32)
    (e1 : (¬ x4 = 0) → mx_Go l (mx_rm (d + 1) 0 0) mX11_goesWithLists (mx_Z Q 0 0) 0 0 39 [.ref 0, .int x1, .int x2, .int (x3 + 1)] [] (sk0 c, I))
    (q2 : (x4 = 0) → Q (some (.int 0)) (sk0 c, I)) :
    mx_Go l (mx_rm (d + 1) 0 0) mX11_goesWithLists (mx_Z Q 0 0) 0 0 82 [.ref 0, .int x1, .int x2, .int x3] [.int x4] (sk0 c, I) := by
  refine g_if_ne (tgt := 87) dX11_goesWithLists_82 (by decide) (fun c1 => ?_) (fun c2 => ?_)
  · skip
    refine s_iinc (v := (x3 + 1)) (L' := [.ref 0, .int x1, .int x2, .int (x3 + 1)]) dX11_goesWithLists_87 rfl (by decide) rfl rfl rfl ?_
    refine g_goto (tgt := 39) dX11_goesWithLists_90 (by decide) ?_
    exact e1 c1
  · skip
    refine g_iconst (v := 0) dX11_goesWithLists_85 (by decide) ?_
    exact g_zret (ty := .boolean) rfl rfl dX11_goesWithLists_86 rfl (Nat.le_refl _) (q2 c2)
