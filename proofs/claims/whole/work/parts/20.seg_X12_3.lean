set_option maxRecDepth 10000 in
set_option maxHeartbeats 1000000 in
theorem sg_X12_anHour_152 {l : Launch} {d : Nat} {Q : Option Value → mx_H → Prop} {c : Nat} {I : mx_I} (x1 : Int32) (x2 : Int32)
    (q1 : ((I 121 7) ≤ x2) → Q none (sk0 c, (mx_set I 121 1 ((I 121 1) + 1))))
    (e2 : (¬ (I 121 7) ≤ x2) → ((((I 120 26) >>> (x2 &&& 31)) &&& 1) = 0) → mx_Go l (mx_rm (d + 1) 0 0) mX12_anHour (mx_Z Q 0 0) 0 0 152 [.ref 120, .int x1, .int (x2 + 1), .int (1500 + (5 * x2))] [] (sk0 c, I))
    (b3 : (¬ (I 121 7) ≤ x2) → (¬ (((I 120 26) >>> (x2 &&& 31)) &&& 1) = 0) → vp_in (1500 + (5 * x2)) 2490)
    (b4 : (¬ (I 121 7) ≤ x2) → (¬ (((I 120 26) >>> (x2 &&& 31)) &&& 1) = 0) → ((I 121 (1500 + (5 * x2)).toNatClampNeg) = x1) → vp_in ((1500 + (5 * x2)) + 1) 2490)
    (b5 : (¬ (I 121 7) ≤ x2) → (¬ (((I 120 26) >>> (x2 &&& 31)) &&& 1) = 0) → ((I 121 (1500 + (5 * x2)).toNatClampNeg) = x1) → vp_in ((1500 + (5 * x2)) + 2) 2490)
    (b6 : (¬ (I 121 7) ≤ x2) → (¬ (((I 120 26) >>> (x2 &&& 31)) &&& 1) = 0) → ((I 121 (1500 + (5 * x2)).toNatClampNeg) = x1) → vp_in ((1500 + (5 * x2)) + 3) 2490)
    (k7 : (¬ (I 121 7) ≤ x2) → (¬ (((I 120 26) >>> (x2 &&& 31)) &&& 1) = 0) → ((I 121 (1500 + (5 * x2)).toNatClampNeg) = x1) → mx_K1 l mX12_takes d [.ref 120, .int ((I 121 ((1500 + (5 * x2)) + 1).toNatClampNeg) + (I 121 ((1500 + (5 * x2)) + 2).toNatClampNeg)), .int (I 121 ((1500 + (5 * x2)) + 3).toNatClampNeg), .int 0, .int x1] (sk0 c, I) (fun r h' => mx_Go l (mx_rm (d + 1) 0 0) mX12_anHour (mx_Z Q 0 0) 0 0 226 [.ref 120, .int x1, .int x2, .int (1500 + (5 * x2))] (r.toList ++ []) h'))
    (e8 : (¬ (I 121 7) ≤ x2) → (¬ (((I 120 26) >>> (x2 &&& 31)) &&& 1) = 0) → (¬ (I 121 (1500 + (5 * x2)).toNatClampNeg) = x1) → mx_Go l (mx_rm (d + 1) 0 0) mX12_anHour (mx_Z Q 0 0) 0 0 152 [.ref 120, .int x1, .int (x2 + 1), .int (1500 + (5 * x2))] [] (sk0 c, I)) :
    mx_Go l (mx_rm (d + 1) 0 0) mX12_anHour (mx_Z Q 0 0) 0 0 152 [.ref 120, .int x1, .int x2, .retAddr 0] [] (sk0 c, I) := by
  refine g_iload_n dX12_anHour_152 rfl rfl ?_
  refine g_aload_n dX12_anHour_153 rfl rfl ?_
  refine rg_X12_0 (r := 121) dX12_anHour_154 lf_X12_7 (sk_120 _) rfl ?_
  refine g_bipush (v := 7) dX12_anHour_157 (by decide) ?_
  refine s_iald (j := 7) (v := (I 121 7)) dX12_anHour_159 (sk_121 _) (by unfold vp_in; decide) (by decide) rfl ?_
  refine g_icmp_ge (tgt := 258) dX12_anHour_160 (by decide) (fun c1 => ?_) (fun c2 => ?_)
  · skip
    refine g_aload_n dX12_anHour_258 rfl rfl ?_
    refine rg_X12_0 (r := 121) dX12_anHour_259 lf_X12_7 (sk_120 _) rfl ?_
    refine g_iconst (v := 1) dX12_anHour_262 (by decide) ?_
    refine g_dup2 dX12_anHour_263 rfl rfl ?_
    refine s_iald (j := 1) (v := (I 121 1)) dX12_anHour_264 (sk_121 _) (by unfold vp_in; decide) (by decide) rfl ?_
    refine g_iconst (v := 1) dX12_anHour_265 (by decide) ?_
    refine g_iadd dX12_anHour_266 ?_
    refine s_iast (j := 1) dX12_anHour_267 (sk_121 _) (by unfold vp_in; decide) (by decide) ?_
    exact g_vret rfl dX12_anHour_268 rfl (Nat.le_refl _) (q1 c1)
  · skip
    refine g_sipush (v := 1500) dX12_anHour_163 (by decide) ?_
    refine g_iconst (v := 5) dX12_anHour_166 (by decide) ?_
    refine g_iload_n dX12_anHour_167 rfl rfl ?_
    refine g_imul dX12_anHour_168 ?_
    refine g_iadd dX12_anHour_169 ?_
    refine s_istore_n (L' := [.ref 120, .int x1, .int x2, .int (1500 + (5 * x2))]) dX12_anHour_170 rfl (by decide) rfl rfl ?_
    refine g_aload_n dX12_anHour_171 rfl rfl ?_
    refine rg_X12_26 (v := (I 120 26)) dX12_anHour_172 lf_X12_279 (sk_120 _) rfl ?_
    refine g_iload_n dX12_anHour_175 rfl rfl ?_
    refine g_ishr dX12_anHour_176 ?_
    refine g_iconst (v := 1) dX12_anHour_177 (by decide) ?_
    refine g_iand dX12_anHour_178 ?_
    refine g_if_eq (tgt := 252) dX12_anHour_179 (by decide) (fun c3 => ?_) (fun c4 => ?_)
    · skip
      refine s_iinc (v := (x2 + 1)) (L' := [.ref 120, .int x1, .int (x2 + 1), .int (1500 + (5 * x2))]) dX12_anHour_252 rfl (by decide) rfl rfl rfl ?_
      refine g_goto (tgt := 152) dX12_anHour_255 (by decide) ?_
      exact e2 c2 c3
    · skip
      refine g_aload_n dX12_anHour_182 rfl rfl ?_
      refine rg_X12_0 (r := 121) dX12_anHour_183 lf_X12_7 (sk_120 _) rfl ?_
      refine g_iload_n dX12_anHour_186 rfl rfl ?_
      refine s_iald (j := (1500 + (5 * x2)).toNatClampNeg) (v := (I 121 (1500 + (5 * x2)).toNatClampNeg)) dX12_anHour_187 (sk_121 _) (b3 c2 c4) rfl rfl ?_
      refine g_iload_n dX12_anHour_188 rfl rfl ?_
      refine g_icmp_eq (tgt := 195) dX12_anHour_189 (by decide) (fun c5 => ?_) (fun c6 => ?_)
      · skip
        refine g_aload_n dX12_anHour_195 rfl rfl ?_
        refine g_aload_n dX12_anHour_196 rfl rfl ?_
        refine rg_X12_0 (r := 121) dX12_anHour_197 lf_X12_7 (sk_120 _) rfl ?_
        refine g_iload_n dX12_anHour_200 rfl rfl ?_
        refine g_iconst (v := 1) dX12_anHour_201 (by decide) ?_
        refine g_iadd dX12_anHour_202 ?_
        refine s_iald (j := ((1500 + (5 * x2)) + 1).toNatClampNeg) (v := (I 121 ((1500 + (5 * x2)) + 1).toNatClampNeg)) dX12_anHour_203 (sk_121 _) (b4 c2 c4 c5) rfl rfl ?_
        refine g_aload_n dX12_anHour_204 rfl rfl ?_
        refine rg_X12_0 (r := 121) dX12_anHour_205 lf_X12_7 (sk_120 _) rfl ?_
        refine g_iload_n dX12_anHour_208 rfl rfl ?_
        refine g_iconst (v := 2) dX12_anHour_209 (by decide) ?_
        refine g_iadd dX12_anHour_210 ?_
        refine s_iald (j := ((1500 + (5 * x2)) + 2).toNatClampNeg) (v := (I 121 ((1500 + (5 * x2)) + 2).toNatClampNeg)) dX12_anHour_211 (sk_121 _) (b5 c2 c4 c5) rfl rfl ?_
        refine g_iadd dX12_anHour_212 ?_
        refine g_aload_n dX12_anHour_213 rfl rfl ?_
        refine rg_X12_0 (r := 121) dX12_anHour_214 lf_X12_7 (sk_120 _) rfl ?_
        refine g_iload_n dX12_anHour_217 rfl rfl ?_
        refine g_iconst (v := 3) dX12_anHour_218 (by decide) ?_
        refine g_iadd dX12_anHour_219 ?_
        refine s_iald (j := ((1500 + (5 * x2)) + 3).toNatClampNeg) (v := (I 121 ((1500 + (5 * x2)) + 3).toNatClampNeg)) dX12_anHour_220 (sk_121 _) (b6 c2 c4 c5) rfl rfl ?_
        refine g_iconst (v := 0) dX12_anHour_221 (by decide) ?_
        refine g_iload_n dX12_anHour_222 rfl rfl ?_
        exact s_callV (M' := mX12_takes) (As := [.int ((I 121 ((1500 + (5 * x2)) + 1).toNatClampNeg) + (I 121 ((1500 + (5 * x2)) + 2).toNatClampNeg)), .int (I 121 ((1500 + (5 * x2)) + 3).toNatClampNeg), .int 0, .int x1]) (st := []) dX12_anHour_223 lm_X12_257 ovX12_takes (h := (sk0 c, I)) (sk_120 _) (show vwCl[12]? = some _ from rfl) rfl (by simp [Value.category]) (by decide) rfl (k7 c2 c4 c5)
      · skip
        refine g_goto (tgt := 252) dX12_anHour_192 (by decide) ?_
        refine s_iinc (v := (x2 + 1)) (L' := [.ref 120, .int x1, .int (x2 + 1), .int (1500 + (5 * x2))]) dX12_anHour_252 rfl (by decide) rfl rfl rfl ?_
        refine g_goto (tgt := 152) dX12_anHour_255 (by decide) ?_
        exact e8 c2 c4 c6
set_option maxRecDepth 10000 in
set_option maxHeartbeats 1000000 in
theorem sg_X12_anHour_135 {l : Launch} {d : Nat} {Q : Option Value → mx_H → Prop} {c : Nat} {I : mx_I} (x1 : Int32) (x2 : Int32) (x3 : Int32)
    (e1 : (x3 = 0) → mx_Go l (mx_rm (d + 1) 0 0) mX12_anHour (mx_Z Q 0 0) 0 0 119 [.ref 120, .int x1, .int (x2 + 1), .retAddr 0] [] (sk0 c, I))
    (k2 : (¬ x3 = 0) → mx_K1 l mX12_crosses d [.ref 120, .int x2, .int x1] (sk0 c, I) (fun r h' => mx_Go l (mx_rm (d + 1) 0 0) mX12_anHour (mx_Z Q 0 0) 0 0 144 [.ref 120, .int x1, .int x2, .retAddr 0] (r.toList ++ []) h')) :
    mx_Go l (mx_rm (d + 1) 0 0) mX12_anHour (mx_Z Q 0 0) 0 0 135 [.ref 120, .int x1, .int x2, .retAddr 0] [.int x3] (sk0 c, I) := by
  refine g_if_eq (tgt := 144) dX12_anHour_135 (by decide) (fun c1 => ?_) (fun c2 => ?_)
  · skip
    refine s_iinc (v := (x2 + 1)) (L' := [.ref 120, .int x1, .int (x2 + 1), .retAddr 0]) dX12_anHour_144 rfl (by decide) rfl rfl rfl ?_
    refine g_goto (tgt := 119) dX12_anHour_147 (by decide) ?_
    exact e1 c1
  · skip
    refine g_aload_n dX12_anHour_138 rfl rfl ?_
    refine g_iload_n dX12_anHour_139 rfl rfl ?_
    refine g_iload_n dX12_anHour_140 rfl rfl ?_
    exact s_callV (M' := mX12_crosses) (As := [.int x2, .int x1]) (st := []) dX12_anHour_141 lm_X12_267 ovX12_crosses (h := (sk0 c, I)) (sk_120 _) (show vwCl[12]? = some _ from rfl) rfl (by simp [Value.category]) (by decide) rfl (k2 c2)
set_option maxRecDepth 10000 in
set_option maxHeartbeats 1000000 in
theorem sg_X12_anHour_85 {l : Launch} {d : Nat} {Q : Option Value → mx_H → Prop} {c : Nat} {I : mx_I} (x1 : Int32) (x2 : Int32) (x3 : Int32)
    (e1 : (x3 = (-1)) → mx_Go l (mx_rm (d + 1) 0 0) mX12_anHour (mx_Z Q 0 0) 0 0 59 [.ref 120, .int x1, .int (x2 + 1), .retAddr 0] [] (sk0 c, I))
    (k2 : (¬ x3 = (-1)) → mx_K1 l mX12_ofLoad d [.ref 120, .int x2, .int 3] (sk0 c, I) (fun r h' => mx_Go l (mx_rm (d + 1) 0 0) mX12_anHour (mx_Z Q 0 0) 0 0 97 [.ref 120, .int x1, .int x2, .retAddr 0] (r.toList ++ [.int x2, .ref 120]) h')) :
    mx_Go l (mx_rm (d + 1) 0 0) mX12_anHour (mx_Z Q 0 0) 0 0 85 [.ref 120, .int x1, .int x2, .retAddr 0] [.int x3] (sk0 c, I) := by
  refine g_iconst (v := (-1)) dX12_anHour_85 (by decide) ?_
  refine g_icmp_eq (tgt := 111) dX12_anHour_86 (by decide) (fun c1 => ?_) (fun c2 => ?_)
  · skip
    refine s_iinc (v := (x2 + 1)) (L' := [.ref 120, .int x1, .int (x2 + 1), .retAddr 0]) dX12_anHour_111 rfl (by decide) rfl rfl rfl ?_
    refine g_goto (tgt := 59) dX12_anHour_114 (by decide) ?_
    exact e1 c1
  · skip
    refine g_aload_n dX12_anHour_89 rfl rfl ?_
    refine g_iload_n dX12_anHour_90 rfl rfl ?_
    refine g_aload_n dX12_anHour_91 rfl rfl ?_
    refine g_iload_n dX12_anHour_92 rfl rfl ?_
    refine g_iconst (v := 3) dX12_anHour_93 (by decide) ?_
    exact s_callV (M' := mX12_ofLoad) (As := [.int x2, .int 3]) (st := [.int x2, .ref 120]) dX12_anHour_94 lm_X12_220 ovX12_ofLoad (h := (sk0 c, I)) (sk_120 _) (show vwCl[12]? = some _ from rfl) rfl (by simp [Value.category]) (by decide) rfl (k2 c2)
set_option maxRecDepth 10000 in
set_option maxHeartbeats 1000000 in
theorem sg_X12_anHour_47 {l : Launch} {d : Nat} {Q : Option Value → mx_H → Prop} {c : Nat} {I : mx_I} (x1 : Int32) (x2 : Int32) (x3 : Int32) (x4 : Int32)
    (k1 : mx_K1 l mX12_comes d [.ref 120, .int x4, .int x3, .int x1] (sk0 c, I) (fun r h' => mx_Go l (mx_rm (d + 1) 0 0) mX12_anHour (mx_Z Q 0 0) 0 0 51 [.ref 120, .int x1, .int x2, .retAddr 0] (r.toList ++ []) h')) :
    mx_Go l (mx_rm (d + 1) 0 0) mX12_anHour (mx_Z Q 0 0) 0 0 47 [.ref 120, .int x1, .int x2, .retAddr 0] [.int x3, .int x4, .ref 120] (sk0 c, I) := by
  refine g_iload_n dX12_anHour_47 rfl rfl ?_
  exact s_callV (M' := mX12_comes) (As := [.int x4, .int x3, .int x1]) (st := []) dX12_anHour_48 lm_X12_248 ovX12_comes (h := (sk0 c, I)) (sk_120 _) (show vwCl[12]? = some _ from rfl) rfl (by simp [Value.category]) (by decide) rfl (k1)
set_option maxRecDepth 10000 in
set_option maxHeartbeats 1000000 in
theorem sg_X12_anHour_226 {l : Launch} {d : Nat} {Q : Option Value → mx_H → Prop} {c : Nat} {I : mx_I} (x1 : Int32) (x2 : Int32) (x3 : Int32) (x4 : Int32)
    (b1 : vp_in (x3 + 1) 2490)
    (b2 : vp_in (x3 + 2) 2490)
    (k3 : mx_K1 l mX12_setsDown d [.ref 120, .int (-1), .int (((I 121 (x3 + 1).toNatClampNeg) + 1) - (I 121 (x3 + 2).toNatClampNeg)), .int x1] (sk0 c, I) (fun r h' => mx_Go l (mx_rm (d + 1) 0 0) mX12_anHour (mx_Z Q 0 0) 0 0 252 [.ref 120, .int x1, .int x2, .int x3] (r.toList ++ []) h')) :
    mx_Go l (mx_rm (d + 1) 0 0) mX12_anHour (mx_Z Q 0 0) 0 0 226 [.ref 120, .int x1, .int x2, .int x3] [.int x4] (sk0 c, I) := by
  refine g_pop dX12_anHour_226 rfl ?_
  refine g_aload_n dX12_anHour_227 rfl rfl ?_
  refine g_iconst (v := (-1)) dX12_anHour_228 (by decide) ?_
  refine g_aload_n dX12_anHour_229 rfl rfl ?_
  refine rg_X12_0 (r := 121) dX12_anHour_230 lf_X12_7 (sk_120 _) rfl ?_
  refine g_iload_n dX12_anHour_233 rfl rfl ?_
  refine g_iconst (v := 1) dX12_anHour_234 (by decide) ?_
  refine g_iadd dX12_anHour_235 ?_
  refine s_iald (j := (x3 + 1).toNatClampNeg) (v := (I 121 (x3 + 1).toNatClampNeg)) dX12_anHour_236 (sk_121 _) (b1) rfl rfl ?_
  refine g_iconst (v := 1) dX12_anHour_237 (by decide) ?_
  refine g_iadd dX12_anHour_238 ?_
  refine g_aload_n dX12_anHour_239 rfl rfl ?_
  refine rg_X12_0 (r := 121) dX12_anHour_240 lf_X12_7 (sk_120 _) rfl ?_
  refine g_iload_n dX12_anHour_243 rfl rfl ?_
  refine g_iconst (v := 2) dX12_anHour_244 (by decide) ?_
  refine g_iadd dX12_anHour_245 ?_
  refine s_iald (j := (x3 + 2).toNatClampNeg) (v := (I 121 (x3 + 2).toNatClampNeg)) dX12_anHour_246 (sk_121 _) (b2) rfl rfl ?_
  refine g_isub dX12_anHour_247 ?_
  refine g_iload_n dX12_anHour_248 rfl rfl ?_
  exact s_callV (M' := mX12_setsDown) (As := [.int (-1), .int (((I 121 (x3 + 1).toNatClampNeg) + 1) - (I 121 (x3 + 2).toNatClampNeg)), .int x1]) (st := []) dX12_anHour_249 lm_X12_261 ovX12_setsDown (h := (sk0 c, I)) (sk_120 _) (show vwCl[12]? = some _ from rfl) rfl (by simp [Value.category]) (by decide) rfl (k3)
set_option maxRecDepth 10000 in
set_option maxHeartbeats 1000000 in
theorem sg_X12_anHour_144 {l : Launch} {d : Nat} {Q : Option Value → mx_H → Prop} {c : Nat} {I : mx_I} (x1 : Int32) (x2 : Int32)
    (e1 : mx_Go l (mx_rm (d + 1) 0 0) mX12_anHour (mx_Z Q 0 0) 0 0 119 [.ref 120, .int x1, .int (x2 + 1), .retAddr 0] [] (sk0 c, I)) :
    mx_Go l (mx_rm (d + 1) 0 0) mX12_anHour (mx_Z Q 0 0) 0 0 144 [.ref 120, .int x1, .int x2, .retAddr 0] [] (sk0 c, I) := by
  refine s_iinc (v := (x2 + 1)) (L' := [.ref 120, .int x1, .int (x2 + 1), .retAddr 0]) dX12_anHour_144 rfl (by decide) rfl rfl rfl ?_
  refine g_goto (tgt := 119) dX12_anHour_147 (by decide) ?_
  exact e1
set_option maxRecDepth 10000 in
set_option maxHeartbeats 1000000 in
theorem sg_X12_anHour_97 {l : Launch} {d : Nat} {Q : Option Value → mx_H → Prop} {c : Nat} {I : mx_I} (x1 : Int32) (x2 : Int32) (x3 : Int32) (x4 : Int32)
    (k1 : mx_K1 l mX12_isThere d [.ref 120, .int x4, .int x3] (sk0 c, I) (fun r h' => mx_Go l (mx_rm (d + 1) 0 0) mX12_anHour (mx_Z Q 0 0) 0 0 100 [.ref 120, .int x1, .int x2, .retAddr 0] (r.toList ++ []) h')) :
    mx_Go l (mx_rm (d + 1) 0 0) mX12_anHour (mx_Z Q 0 0) 0 0 97 [.ref 120, .int x1, .int x2, .retAddr 0] [.int x3, .int x4, .ref 120] (sk0 c, I) := by
  exact s_callV (M' := mX12_isThere) (As := [.int x4, .int x3]) (st := []) dX12_anHour_97 lm_X12_226 ovX12_isThere (h := (sk0 c, I)) (sk_120 _) (show vwCl[12]? = some _ from rfl) rfl (by simp [Value.category]) (by decide) rfl (k1)
set_option maxRecDepth 10000 in
set_option maxHeartbeats 1000000 in
theorem sg_X12_anHour_51 {l : Launch} {d : Nat} {Q : Option Value → mx_H → Prop} {c : Nat} {I : mx_I} (x1 : Int32) (x2 : Int32)
    (e1 : mx_Go l (mx_rm (d + 1) 0 0) mX12_anHour (mx_Z Q 0 0) 0 0 9 [.ref 120, .int x1, .int (x2 + 1), .retAddr 0] [] (sk0 c, I)) :
    mx_Go l (mx_rm (d + 1) 0 0) mX12_anHour (mx_Z Q 0 0) 0 0 51 [.ref 120, .int x1, .int x2, .retAddr 0] [] (sk0 c, I) := by
  refine s_iinc (v := (x2 + 1)) (L' := [.ref 120, .int x1, .int (x2 + 1), .retAddr 0]) dX12_anHour_51 rfl (by decide) rfl rfl rfl ?_
  refine g_goto (tgt := 9) dX12_anHour_54 (by decide) ?_
  exact e1
set_option maxRecDepth 10000 in
set_option maxHeartbeats 1000000 in
theorem sg_X12_anHour_252 {l : Launch} {d : Nat} {Q : Option Value → mx_H → Prop} {c : Nat} {I : mx_I} (x1 : Int32) (x2 : Int32) (x3 : Int32)
    (e1 : mx_Go l (mx_rm (d + 1) 0 0) mX12_anHour (mx_Z Q 0 0) 0 0 152 [.ref 120, .int x1, .int (x2 + 1), .int x3] [] (sk0 c, I)) :
    mx_Go l (mx_rm (d + 1) 0 0) mX12_anHour (mx_Z Q 0 0) 0 0 252 [.ref 120, .int x1, .int x2, .int x3] [] (sk0 c, I) := by
  refine s_iinc (v := (x2 + 1)) (L' := [.ref 120, .int x1, .int (x2 + 1), .int x3]) dX12_anHour_252 rfl (by decide) rfl rfl rfl ?_
  refine g_goto (tgt := 152) dX12_anHour_255 (by decide) ?_
  exact e1
set_option maxRecDepth 10000 in
set_option maxHeartbeats 1000000 in
theorem sg_X12_anHour_100 {l : Launch} {d : Nat} {Q : Option Value → mx_H → Prop} {c : Nat} {I : mx_I} (x1 : Int32) (x2 : Int32) (x3 : Int32)
    (e1 : (x3 = 0) → mx_Go l (mx_rm (d + 1) 0 0) mX12_anHour (mx_Z Q 0 0) 0 0 59 [.ref 120, .int x1, .int (x2 + 1), .retAddr 0] [] (sk0 c, I))
    (k2 : (¬ x3 = 0) → mx_K1 l mX12_loads d [.ref 120, .int x2, .int 8, .int 1] (sk0 c, I) (fun r h' => mx_Go l (mx_rm (d + 1) 0 0) mX12_anHour (mx_Z Q 0 0) 0 0 111 [.ref 120, .int x1, .int x2, .retAddr 0] (r.toList ++ []) h')) :
    mx_Go l (mx_rm (d + 1) 0 0) mX12_anHour (mx_Z Q 0 0) 0 0 100 [.ref 120, .int x1, .int x2, .retAddr 0] [.int x3] (sk0 c, I) := by
  refine g_if_eq (tgt := 111) dX12_anHour_100 (by decide) (fun c1 => ?_) (fun c2 => ?_)
  · skip
    refine s_iinc (v := (x2 + 1)) (L' := [.ref 120, .int x1, .int (x2 + 1), .retAddr 0]) dX12_anHour_111 rfl (by decide) rfl rfl rfl ?_
    refine g_goto (tgt := 59) dX12_anHour_114 (by decide) ?_
    exact e1 c1
  · skip
    refine g_aload_n dX12_anHour_103 rfl rfl ?_
    refine g_iload_n dX12_anHour_104 rfl rfl ?_
    refine g_bipush (v := 8) dX12_anHour_105 (by decide) ?_
    refine g_iconst (v := 1) dX12_anHour_107 (by decide) ?_
    exact s_callV (M' := mX12_loads) (As := [.int x2, .int 8, .int 1]) (st := []) dX12_anHour_108 lm_X12_54 ovX12_loads (h := (sk0 c, I)) (sk_120 _) (show vwCl[12]? = some _ from rfl) rfl (by simp [Value.category]) (by decide) rfl (k2 c2)
set_option maxRecDepth 10000 in
set_option maxHeartbeats 1000000 in
theorem sg_X12_anHour_111 {l : Launch} {d : Nat} {Q : Option Value → mx_H → Prop} {c : Nat} {I : mx_I} (x1 : Int32) (x2 : Int32)
    (e1 : mx_Go l (mx_rm (d + 1) 0 0) mX12_anHour (mx_Z Q 0 0) 0 0 59 [.ref 120, .int x1, .int (x2 + 1), .retAddr 0] [] (sk0 c, I)) :
    mx_Go l (mx_rm (d + 1) 0 0) mX12_anHour (mx_Z Q 0 0) 0 0 111 [.ref 120, .int x1, .int x2, .retAddr 0] [] (sk0 c, I) := by
  refine s_iinc (v := (x2 + 1)) (L' := [.ref 120, .int x1, .int (x2 + 1), .retAddr 0]) dX12_anHour_111 rfl (by decide) rfl rfl rfl ?_
  refine g_goto (tgt := 59) dX12_anHour_114 (by decide) ?_
  exact e1
set_option maxRecDepth 10000 in
set_option maxHeartbeats 1000000 in
theorem sn_X12_hours {l : Launch} {d : Nat} {Q : Option Value → mx_H → Prop} {c : Nat} {I : mx_I} (a1 : Int32)
    (q1 : (a1 < 1) → Q (some (.int (-1))) (sk0 c, I))
    (e2 : (¬ a1 < 1) → (a1 ≤ (168 - (I 121 1))) → mx_Go l (mx_rm (d + 1) 0 0) mX12_hours (mx_Z Q 0 0) 0 0 28 [.ref 120, .int a1, .int 0] [] (sk0 c, (mx_set I 120 31 0)))
    (q3 : (¬ a1 < 1) → (¬ a1 ≤ (168 - (I 121 1))) → Q (some (.int (-1))) (sk0 c, I)) :
    mx_Spec l mX12_hours (d + 1) 0 0 [.ref 120, .int a1] (sk0 c, I) Q := by
  refine mx_enter rfl (by simp [Value.category]) (Nat.le_of_ble_eq_true rfl) ?_
  change mx_Go l (mx_rm (d + 1) 0 0) mX12_hours (mx_Z Q 0 0) 0 0 0 [.ref 120, .int a1, .retAddr 0] [] (sk0 c, I)
  refine g_iload_n dX12_hours_0 rfl rfl ?_
  refine g_iconst (v := 1) dX12_hours_1 (by decide) ?_
  refine g_icmp_lt (tgt := 19) dX12_hours_2 (by decide) (fun c1 => ?_) (fun c2 => ?_)
  · skip
    refine g_iconst (v := (-1)) dX12_hours_19 (by decide) ?_
    exact g_iret rfl dX12_hours_20 rfl (Nat.le_refl _) (q1 c1)
  · skip
    refine g_iload_n dX12_hours_5 rfl rfl ?_
    refine g_sipush (v := 168) dX12_hours_6 (by decide) ?_
    refine g_aload_n dX12_hours_9 rfl rfl ?_
    refine rg_X12_0 (r := 121) dX12_hours_10 lf_X12_7 (sk_120 _) rfl ?_
    refine g_iconst (v := 1) dX12_hours_13 (by decide) ?_
    refine s_iald (j := 1) (v := (I 121 1)) dX12_hours_14 (sk_121 _) (by unfold vp_in; decide) (by decide) rfl ?_
    refine g_isub dX12_hours_15 ?_
    refine g_icmp_le (tgt := 21) dX12_hours_16 (by decide) (fun c3 => ?_) (fun c4 => ?_)
    · skip
      refine g_aload_n dX12_hours_21 rfl rfl ?_
      refine g_iconst (v := 0) dX12_hours_22 (by decide) ?_
      refine rp_X12_31 dX12_hours_23 lf_X12_254 (sk_120 _) ?_
      refine g_iconst (v := 0) dX12_hours_26 (by decide) ?_
      refine s_istore_n (L' := [.ref 120, .int a1, .int 0]) dX12_hours_27 rfl (by decide) rfl rfl ?_
      exact e2 c2 c3
    · skip
      refine g_iconst (v := (-1)) dX12_hours_19 (by decide) ?_
      exact g_iret rfl dX12_hours_20 rfl (Nat.le_refl _) (q3 c2 c4)
set_option maxRecDepth 10000 in
set_option maxHeartbeats 1000000 in
theorem sg_X12_hours_28 {l : Launch} {d : Nat} {Q : Option Value → mx_H → Prop} {c : Nat} {I : mx_I} (x1 : Int32) (x2 : Int32)
    (q1 : (x1 ≤ x2) → Q (some (.int (I 120 31))) (sk0 c, I))
    (k2 : (¬ x1 ≤ x2) → mx_K1 l mX12_anHour d [.ref 120] (sk0 c, I) (fun r h' => mx_Go l (mx_rm (d + 1) 0 0) mX12_hours (mx_Z Q 0 0) 0 0 37 [.ref 120, .int x1, .int x2] (r.toList ++ []) h')) :
    mx_Go l (mx_rm (d + 1) 0 0) mX12_hours (mx_Z Q 0 0) 0 0 28 [.ref 120, .int x1, .int x2] [] (sk0 c, I) := by
  refine g_iload_n dX12_hours_28 rfl rfl ?_
  refine g_iload_n dX12_hours_29 rfl rfl ?_
  refine g_icmp_ge (tgt := 43) dX12_hours_30 (by decide) (fun c1 => ?_) (fun c2 => ?_)
  · skip
    refine g_aload_n dX12_hours_43 rfl rfl ?_
    refine rg_X12_31 (v := (I 120 31)) dX12_hours_44 lf_X12_254 (sk_120 _) rfl ?_
    exact g_iret rfl dX12_hours_47 rfl (Nat.le_refl _) (q1 c1)
  · skip
    refine g_aload_n dX12_hours_33 rfl rfl ?_
    exact s_callV (M' := mX12_anHour) (As := []) (st := []) dX12_hours_34 lm_X12_282 ovX12_anHour (h := (sk0 c, I)) (sk_120 _) (show vwCl[12]? = some _ from rfl) rfl (by simp [Value.category]) (by decide) rfl (k2 c2)
set_option maxRecDepth 10000 in
set_option maxHeartbeats 1000000 in
theorem sg_X12_hours_37 {l : Launch} {d : Nat} {Q : Option Value → mx_H → Prop} {c : Nat} {I : mx_I} (x1 : Int32) (x2 : Int32)
    (e1 : mx_Go l (mx_rm (d + 1) 0 0) mX12_hours (mx_Z Q 0 0) 0 0 28 [.ref 120, .int x1, .int (x2 + 1)] [] (sk0 c, I)) :
    mx_Go l (mx_rm (d + 1) 0 0) mX12_hours (mx_Z Q 0 0) 0 0 37 [.ref 120, .int x1, .int x2] [] (sk0 c, I) := by
  refine s_iinc (v := (x2 + 1)) (L' := [.ref 120, .int x1, .int (x2 + 1)]) dX12_hours_37 rfl (by decide) rfl rfl rfl ?_
  refine g_goto (tgt := 28) dX12_hours_40 (by decide) ?_
  exact e1
set_option maxRecDepth 10000 in
set_option maxHeartbeats 1000000 in
theorem sn_X12_of {l : Launch} {d : Nat} {Q : Option Value → mx_H → Prop} {c : Nat} {I : mx_I} (a1 : Int32) (a2 : Int32)
    (k1 : mx_K1 l mX12_isLoad d [.ref 120, .int a1] (sk0 c, I) (fun r h' => mx_Go l (mx_rm (d + 1) 0 0) mX12_of (mx_Z Q 0 0) 0 0 5 [.ref 120, .int a1, .int a2] (r.toList ++ []) h')) :
    mx_Spec l mX12_of (d + 1) 0 0 [.ref 120, .int a1, .int a2] (sk0 c, I) Q := by
  refine mx_enter rfl (by simp [Value.category]) (Nat.le_of_ble_eq_true rfl) ?_
  change mx_Go l (mx_rm (d + 1) 0 0) mX12_of (mx_Z Q 0 0) 0 0 0 [.ref 120, .int a1, .int a2] [] (sk0 c, I)
  refine g_aload_n dX12_of_0 rfl rfl ?_
  refine g_iload_n dX12_of_1 rfl rfl ?_
  exact s_callV (M' := mX12_isLoad) (As := [.int a1]) (st := []) dX12_of_2 lm_X12_68 ovX12_isLoad (h := (sk0 c, I)) (sk_120 _) (show vwCl[12]? = some _ from rfl) rfl (by simp [Value.category]) (by decide) rfl (k1)
set_option maxRecDepth 10000 in
set_option maxHeartbeats 1000000 in
theorem sg_X12_of_5 {l : Launch} {d : Nat} {Q : Option Value → mx_H → Prop} {c : Nat} {I : mx_I} (x1 : Int32) (x2 : Int32) (x3 : Int32)
    (k1 : (¬ x3 = 0) → (x2 = 0) → mx_K1 l mX12_ofLoad d [.ref 120, .int x1, .int 0] (sk0 c, I) (fun r h' => mx_Go l (mx_rm (d + 1) 0 0) mX12_of (mx_Z Q 0 0) 0 0 58 [.ref 120, .int x1, .int x2] (r.toList ++ []) h'))
    (k2 : (¬ x3 = 0) → (x2 = 1) → mx_K1 l mX12_ofLoad d [.ref 120, .int x1, .int 5] (sk0 c, I) (fun r h' => mx_Go l (mx_rm (d + 1) 0 0) mX12_of (mx_Z Q 0 0) 0 0 65 [.ref 120, .int x1, .int x2] (r.toList ++ []) h'))
    (k3 : (¬ x3 = 0) → (x2 = 2) → mx_K1 l mX12_ofLoad d [.ref 120, .int x1, .int 6] (sk0 c, I) (fun r h' => mx_Go l (mx_rm (d + 1) 0 0) mX12_of (mx_Z Q 0 0) 0 0 73 [.ref 120, .int x1, .int x2] (r.toList ++ []) h'))
    (k4 : (¬ x3 = 0) → (x2 = 3) → mx_K1 l mX12_ofLoad d [.ref 120, .int x1, .int 7] (sk0 c, I) (fun r h' => mx_Go l (mx_rm (d + 1) 0 0) mX12_of (mx_Z Q 0 0) 0 0 81 [.ref 120, .int x1, .int x2] (r.toList ++ []) h'))
    (k5 : (¬ x3 = 0) → (x2 = 4) → mx_K1 l mX12_ofLoad d [.ref 120, .int x1, .int 2] (sk0 c, I) (fun r h' => mx_Go l (mx_rm (d + 1) 0 0) mX12_of (mx_Z Q 0 0) 0 0 88 [.ref 120, .int x1, .int x2] (r.toList ++ []) h'))
    (k6 : (¬ x3 = 0) → (x2 = 5) → mx_K1 l mX12_ofLoad d [.ref 120, .int x1, .int 8] (sk0 c, I) (fun r h' => mx_Go l (mx_rm (d + 1) 0 0) mX12_of (mx_Z Q 0 0) 0 0 96 [.ref 120, .int x1, .int x2] (r.toList ++ []) h'))
    (q7 : (¬ x3 = 0) → (¬ x2 = 0) → (¬ x2 = 1) → (¬ x2 = 2) → (¬ x2 = 3) → (¬ x2 = 4) → (¬ x2 = 5) → Q (some (.int (-2))) (sk0 c, I))
    (q8 : (x3 = 0) → Q (some (.int (-2))) (sk0 c, I)) :
    mx_Go l (mx_rm (d + 1) 0 0) mX12_of (mx_Z Q 0 0) 0 0 5 [.ref 120, .int x1, .int x2] [.int x3] (sk0 c, I) := by
  refine g_if_ne (tgt := 11) dX12_of_5 (by decide) (fun c1 => ?_) (fun c2 => ?_)
  · skip
    refine g_iload_n dX12_of_11 rfl rfl ?_
    rcases Decidable.em (x2 = 0) with c3 | c4
    · skip
      refine g_tableIn (off := 40) (tgt := 52) dX12_of_12 (by rw [c3]; decide) (by rw [c3]; decide) (by rw [c3]; rfl) (by decide) ?_
      refine g_aload_n dX12_of_52 rfl rfl ?_
      refine g_iload_n dX12_of_53 rfl rfl ?_
      refine g_iconst (v := 0) dX12_of_54 (by decide) ?_
      exact s_callV (M' := mX12_ofLoad) (As := [.int x1, .int 0]) (st := []) dX12_of_55 lm_X12_220 ovX12_ofLoad (h := (sk0 c, I)) (sk_120 _) (show vwCl[12]? = some _ from rfl) rfl (by simp [Value.category]) (by decide) rfl (k1 c1 c3)
    · skip
      rcases Decidable.em (x2 = 1) with c5 | c6
      · skip
        refine g_tableIn (off := 47) (tgt := 59) dX12_of_12 (by rw [c5]; decide) (by rw [c5]; decide) (by rw [c5]; rfl) (by decide) ?_
        refine g_aload_n dX12_of_59 rfl rfl ?_
        refine g_iload_n dX12_of_60 rfl rfl ?_
        refine g_iconst (v := 5) dX12_of_61 (by decide) ?_
        exact s_callV (M' := mX12_ofLoad) (As := [.int x1, .int 5]) (st := []) dX12_of_62 lm_X12_220 ovX12_ofLoad (h := (sk0 c, I)) (sk_120 _) (show vwCl[12]? = some _ from rfl) rfl (by simp [Value.category]) (by decide) rfl (k2 c1 c5)
      · skip
        rcases Decidable.em (x2 = 2) with c7 | c8
        · skip
          refine g_tableIn (off := 54) (tgt := 66) dX12_of_12 (by rw [c7]; decide) (by rw [c7]; decide) (by rw [c7]; rfl) (by decide) ?_
          refine g_aload_n dX12_of_66 rfl rfl ?_
          refine g_iload_n dX12_of_67 rfl rfl ?_
          refine g_bipush (v := 6) dX12_of_68 (by decide) ?_
          exact s_callV (M' := mX12_ofLoad) (As := [.int x1, .int 6]) (st := []) dX12_of_70 lm_X12_220 ovX12_ofLoad (h := (sk0 c, I)) (sk_120 _) (show vwCl[12]? = some _ from rfl) rfl (by simp [Value.category]) (by decide) rfl (k3 c1 c7)
        · skip
          rcases Decidable.em (x2 = 3) with c9 | c10
          · skip
            refine g_tableIn (off := 62) (tgt := 74) dX12_of_12 (by rw [c9]; decide) (by rw [c9]; decide) (by rw [c9]; rfl) (by decide) ?_
            refine g_aload_n dX12_of_74 rfl rfl ?_
            refine g_iload_n dX12_of_75 rfl rfl ?_
            refine g_bipush (v := 7) dX12_of_76 (by decide) ?_
            exact s_callV (M' := mX12_ofLoad) (As := [.int x1, .int 7]) (st := []) dX12_of_78 lm_X12_220 ovX12_ofLoad (h := (sk0 c, I)) (sk_120 _) (show vwCl[12]? = some _ from rfl) rfl (by simp [Value.category]) (by decide) rfl (k4 c1 c9)
          · skip
            rcases Decidable.em (x2 = 4) with c11 | c12
            · skip
              refine g_tableIn (off := 70) (tgt := 82) dX12_of_12 (by rw [c11]; decide) (by rw [c11]; decide) (by rw [c11]; rfl) (by decide) ?_
              refine g_aload_n dX12_of_82 rfl rfl ?_
              refine g_iload_n dX12_of_83 rfl rfl ?_
              refine g_iconst (v := 2) dX12_of_84 (by decide) ?_
              exact s_callV (M' := mX12_ofLoad) (As := [.int x1, .int 2]) (st := []) dX12_of_85 lm_X12_220 ovX12_ofLoad (h := (sk0 c, I)) (sk_120 _) (show vwCl[12]? = some _ from rfl) rfl (by simp [Value.category]) (by decide) rfl (k5 c1 c11)
            · skip
              rcases Decidable.em (x2 = 5) with c13 | c14
              · skip
                refine g_tableIn (off := 77) (tgt := 89) dX12_of_12 (by rw [c13]; decide) (by rw [c13]; decide) (by rw [c13]; rfl) (by decide) ?_
                refine g_aload_n dX12_of_89 rfl rfl ?_
                refine g_iload_n dX12_of_90 rfl rfl ?_
                refine g_bipush (v := 8) dX12_of_91 (by decide) ?_
                exact s_callV (M' := mX12_ofLoad) (As := [.int x1, .int 8]) (st := []) dX12_of_93 lm_X12_220 ovX12_ofLoad (h := (sk0 c, I)) (sk_120 _) (show vwCl[12]? = some _ from rfl) rfl (by simp [Value.category]) (by decide) rfl (k6 c1 c13)
              · skip
                refine g_tableOut (tgt := 97) dX12_of_12 (by have q4 := mx_i32 (n := 0) (by decide) c4; have q6 := mx_i32 (n := 1) (by decide) c6; have q8 := mx_i32 (n := 2) (by decide) c8; have q10 := mx_i32 (n := 3) (by decide) c10; have q12 := mx_i32 (n := 4) (by decide) c12; have q14 := mx_i32 (n := 5) (by decide) c14; omega) (by decide) ?_
                refine g_bipush (v := (-2)) dX12_of_97 (by decide) ?_
                exact g_iret rfl dX12_of_99 rfl (Nat.le_refl _) (q7 c1 c4 c6 c8 c10 c12 c14)
  · skip
    refine g_bipush (v := (-2)) dX12_of_8 (by decide) ?_
    exact g_iret rfl dX12_of_10 rfl (Nat.le_refl _) (q8 c2)
set_option maxRecDepth 10000 in
set_option maxHeartbeats 1000000 in
theorem sg_X12_of_58 {l : Launch} {d : Nat} {Q : Option Value → mx_H → Prop} {c : Nat} {I : mx_I} (x1 : Int32) (x2 : Int32) (x3 : Int32)
    (q1 : Q (some (.int x3)) (sk0 c, I)) :
    mx_Go l (mx_rm (d + 1) 0 0) mX12_of (mx_Z Q 0 0) 0 0 58 [.ref 120, .int x1, .int x2] [.int x3] (sk0 c, I) := by
  exact g_iret rfl dX12_of_58 rfl (Nat.le_refl _) (q1)
set_option maxRecDepth 10000 in
set_option maxHeartbeats 1000000 in
theorem sg_X12_of_65 {l : Launch} {d : Nat} {Q : Option Value → mx_H → Prop} {c : Nat} {I : mx_I} (x1 : Int32) (x2 : Int32) (x3 : Int32)
    (q1 : Q (some (.int x3)) (sk0 c, I)) :
    mx_Go l (mx_rm (d + 1) 0 0) mX12_of (mx_Z Q 0 0) 0 0 65 [.ref 120, .int x1, .int x2] [.int x3] (sk0 c, I) := by
  exact g_iret rfl dX12_of_65 rfl (Nat.le_refl _) (q1)
set_option maxRecDepth 10000 in
set_option maxHeartbeats 1000000 in
theorem sg_X12_of_73 {l : Launch} {d : Nat} {Q : Option Value → mx_H → Prop} {c : Nat} {I : mx_I} (x1 : Int32) (x2 : Int32) (x3 : Int32)
    (q1 : Q (some (.int x3)) (sk0 c, I)) :
    mx_Go l (mx_rm (d + 1) 0 0) mX12_of (mx_Z Q 0 0) 0 0 73 [.ref 120, .int x1, .int x2] [.int x3] (sk0 c, I) := by
  exact g_iret rfl dX12_of_73 rfl (Nat.le_refl _) (q1)
set_option maxRecDepth 10000 in
set_option maxHeartbeats 1000000 in
theorem sg_X12_of_81 {l : Launch} {d : Nat} {Q : Option Value → mx_H → Prop} {c : Nat} {I : mx_I} (x1 : Int32) (x2 : Int32) (x3 : Int32)
    (q1 : Q (some (.int x3)) (sk0 c, I)) :
    mx_Go l (mx_rm (d + 1) 0 0) mX12_of (mx_Z Q 0 0) 0 0 81 [.ref 120, .int x1, .int x2] [.int x3] (sk0 c, I) := by
  exact g_iret rfl dX12_of_81 rfl (Nat.le_refl _) (q1)
set_option maxRecDepth 10000 in
set_option maxHeartbeats 1000000 in
theorem sg_X12_of_88 {l : Launch} {d : Nat} {Q : Option Value → mx_H → Prop} {c : Nat} {I : mx_I} (x1 : Int32) (x2 : Int32) (x3 : Int32)
    (q1 : Q (some (.int x3)) (sk0 c, I)) :
    mx_Go l (mx_rm (d + 1) 0 0) mX12_of (mx_Z Q 0 0) 0 0 88 [.ref 120, .int x1, .int x2] [.int x3] (sk0 c, I) := by
  exact g_iret rfl dX12_of_88 rfl (Nat.le_refl _) (q1)
set_option maxRecDepth 10000 in
set_option maxHeartbeats 1000000 in
theorem sg_X12_of_96 {l : Launch} {d : Nat} {Q : Option Value → mx_H → Prop} {c : Nat} {I : mx_I} (x1 : Int32) (x2 : Int32) (x3 : Int32)
    (q1 : Q (some (.int x3)) (sk0 c, I)) :
    mx_Go l (mx_rm (d + 1) 0 0) mX12_of (mx_Z Q 0 0) 0 0 96 [.ref 120, .int x1, .int x2] [.int x3] (sk0 c, I) := by
  exact g_iret rfl dX12_of_96 rfl (Nat.le_refl _) (q1)
set_option maxRecDepth 10000 in
set_option maxHeartbeats 1000000 in
theorem sn_X12_who {l : Launch} {d : Nat} {Q : Option Value → mx_H → Prop} {c : Nat} {I : mx_I} (a1 : Int32) (a2 : Int32)
    (k1 : mx_K1 l mX12_isOne d [.ref 120, .int a1] (sk0 c, I) (fun r h' => mx_Go l (mx_rm (d + 1) 0 0) mX12_who (mx_Z Q 0 0) 0 0 5 [.ref 120, .int a1, .int a2] (r.toList ++ []) h')) :
    mx_Spec l mX12_who (d + 1) 0 0 [.ref 120, .int a1, .int a2] (sk0 c, I) Q := by
  refine mx_enter rfl (by simp [Value.category]) (Nat.le_of_ble_eq_true rfl) ?_
  change mx_Go l (mx_rm (d + 1) 0 0) mX12_who (mx_Z Q 0 0) 0 0 0 [.ref 120, .int a1, .int a2] [] (sk0 c, I)
  refine g_aload_n dX12_who_0 rfl rfl ?_
  refine g_iload_n dX12_who_1 rfl rfl ?_
  exact s_callV (M' := mX12_isOne) (As := [.int a1]) (st := []) dX12_who_2 lm_X12_77 ovX12_isOne (h := (sk0 c, I)) (sk_120 _) (show vwCl[12]? = some _ from rfl) rfl (by simp [Value.category]) (by decide) rfl (k1)
set_option maxRecDepth 10000 in
set_option maxHeartbeats 1000000 in
theorem sg_X12_who_5 {l : Launch} {d : Nat} {Q : Option Value → mx_H → Prop} {c : Nat} {I : mx_I} (x1 : Int32) (x2 : Int32) (x3 : Int32)
    (q1 : (x3 = 0) → Q (some (.int (-2))) (sk0 c, I))
    (k2 : (¬ x3 = 0) → mx_K1 l mX12_isIn d [.int x2, .int 0, .int 11] (sk0 c, I) (fun r h' => mx_Go l (mx_rm (d + 1) 0 0) mX12_who (mx_Z Q 0 0) 0 0 15 [.ref 120, .int x1, .int x2] (r.toList ++ []) h')) :
    mx_Go l (mx_rm (d + 1) 0 0) mX12_who (mx_Z Q 0 0) 0 0 5 [.ref 120, .int x1, .int x2] [.int x3] (sk0 c, I) := by
  refine g_if_eq (tgt := 27) dX12_who_5 (by decide) (fun c1 => ?_) (fun c2 => ?_)
  · skip
    refine g_bipush (v := (-2)) dX12_who_27 (by decide) ?_
    exact g_iret rfl dX12_who_29 rfl (Nat.le_refl _) (q1 c1)
  · skip
    refine g_iload_n dX12_who_8 rfl rfl ?_
    refine g_iconst (v := 0) dX12_who_9 (by decide) ?_
    refine g_bipush (v := 11) dX12_who_10 (by decide) ?_
    exact s_callS (M' := mX12_isIn) (As := [.int x2, .int 0, .int 11]) (st := []) dX12_who_12 lm_X12_50 okX12_isIn osX12_isIn (by simp [Value.category]) (by decide) rfl (k2 c2)
set_option maxRecDepth 10000 in
set_option maxHeartbeats 1000000 in
theorem sg_X12_who_15 {l : Launch} {d : Nat} {Q : Option Value → mx_H → Prop} {c : Nat} {I : mx_I} (x1 : Int32) (x2 : Int32) (x3 : Int32)
    (q1 : (x3 = 0) → Q (some (.int (-2))) (sk0 c, I))
    (k2 : (¬ x3 = 0) → mx_K1 l mX12_ofOne d [.ref 120, .int x1, .int x2] (sk0 c, I) (fun r h' => mx_Go l (mx_rm (d + 1) 0 0) mX12_who (mx_Z Q 0 0) 0 0 24 [.ref 120, .int x1, .int x2] (r.toList ++ []) h')) :
    mx_Go l (mx_rm (d + 1) 0 0) mX12_who (mx_Z Q 0 0) 0 0 15 [.ref 120, .int x1, .int x2] [.int x3] (sk0 c, I) := by
  refine g_if_eq (tgt := 27) dX12_who_15 (by decide) (fun c1 => ?_) (fun c2 => ?_)
  · skip
    refine g_bipush (v := (-2)) dX12_who_27 (by decide) ?_
    exact g_iret rfl dX12_who_29 rfl (Nat.le_refl _) (q1 c1)
  · skip
    refine g_aload_n dX12_who_18 rfl rfl ?_
    refine g_iload_n dX12_who_19 rfl rfl ?_
    refine g_iload_n dX12_who_20 rfl rfl ?_
    exact s_callV (M' := mX12_ofOne) (As := [.int x1, .int x2]) (st := []) dX12_who_21 lm_X12_80 ovX12_ofOne (h := (sk0 c, I)) (sk_120 _) (show vwCl[12]? = some _ from rfl) rfl (by simp [Value.category]) (by decide) rfl (k2 c2)
set_option maxRecDepth 10000 in
set_option maxHeartbeats 1000000 in
theorem sg_X12_who_24 {l : Launch} {d : Nat} {Q : Option Value → mx_H → Prop} {c : Nat} {I : mx_I} (x1 : Int32) (x2 : Int32) (x3 : Int32)
    (q1 : Q (some (.int x3)) (sk0 c, I)) :
    mx_Go l (mx_rm (d + 1) 0 0) mX12_who (mx_Z Q 0 0) 0 0 24 [.ref 120, .int x1, .int x2] [.int x3] (sk0 c, I) := by
  refine g_goto (tgt := 29) dX12_who_24 (by decide) ?_
  exact g_iret rfl dX12_who_29 rfl (Nat.le_refl _) (q1)
set_option maxRecDepth 10000 in
set_option maxHeartbeats 1000000 in
theorem sn_X12_waits {l : Launch} {d : Nat} {Q : Option Value → mx_H → Prop} {c : Nat} {I : mx_I} (a1 : Int32) (a2 : Int32)
    (k1 : mx_K1 l mX12_isEnd d [.ref 120, .int a1] (sk0 c, I) (fun r h' => mx_Go l (mx_rm (d + 1) 0 0) mX12_waits (mx_Z Q 0 0) 0 0 5 [.ref 120, .int a1, .int a2] (r.toList ++ []) h')) :
    mx_Spec l mX12_waits (d + 1) 0 0 [.ref 120, .int a1, .int a2] (sk0 c, I) Q := by
  refine mx_enter rfl (by simp [Value.category]) (Nat.le_of_ble_eq_true rfl) ?_
  change mx_Go l (mx_rm (d + 1) 0 0) mX12_waits (mx_Z Q 0 0) 0 0 0 [.ref 120, .int a1, .int a2] [] (sk0 c, I)
  refine g_aload_n dX12_waits_0 rfl rfl ?_
  refine g_iload_n dX12_waits_1 rfl rfl ?_
  exact s_callV (M' := mX12_isEnd) (As := [.int a1]) (st := []) dX12_waits_2 lm_X12_58 ovX12_isEnd (h := (sk0 c, I)) (sk_120 _) (show vwCl[12]? = some _ from rfl) rfl (by simp [Value.category]) (by decide) rfl (k1)
set_option maxRecDepth 10000 in
set_option maxHeartbeats 1000000 in
theorem sg_X12_waits_5 {l : Launch} {d : Nat} {Q : Option Value → mx_H → Prop} {c : Nat} {I : mx_I} (x1 : Int32) (x2 : Int32) (x3 : Int32)
    (k1 : (¬ x3 = 0) → mx_K1 l mX12_laysHeap d [.ref 120, .int x1] (sk0 c, I) (fun r h' => mx_Go l (mx_rm (d + 1) 0 0) mX12_waits (mx_Z Q 0 0) 0 0 15 [.ref 120, .int x1, .int x2] (r.toList ++ []) h'))
    (q2 : (x3 = 0) → Q (some (.int (-1))) (sk0 c, I)) :
    mx_Go l (mx_rm (d + 1) 0 0) mX12_waits (mx_Z Q 0 0) 0 0 5 [.ref 120, .int x1, .int x2] [.int x3] (sk0 c, I) := by
  refine g_if_ne (tgt := 10) dX12_waits_5 (by decide) (fun c1 => ?_) (fun c2 => ?_)
  · skip
    refine g_aload_n dX12_waits_10 rfl rfl ?_
    refine g_iload_n dX12_waits_11 rfl rfl ?_
    exact s_callV (M' := mX12_laysHeap) (As := [.int x1]) (st := []) dX12_waits_12 lm_X12_233 ovX12_laysHeap (h := (sk0 c, I)) (sk_120 _) (show vwCl[12]? = some _ from rfl) rfl (by simp [Value.category]) (by decide) rfl (k1 c1)
  · skip
    refine g_iconst (v := (-1)) dX12_waits_8 (by decide) ?_
    exact g_iret rfl dX12_waits_9 rfl (Nat.le_refl _) (q2 c2)
set_option maxRecDepth 10000 in
set_option maxHeartbeats 1000000 in
theorem sg_X12_waits_15 {l : Launch} {d : Nat} {Q : Option Value → mx_H → Prop} {c : Nat} {I : mx_I} (x1 : Int32) (x2 : Int32)
    (k1 : mx_K1 l mX12_isIn d [.int x2, .int 0, .int ((I 120 29) - 1)] (sk0 c, I) (fun r h' => mx_Go l (mx_rm (d + 1) 0 0) mX12_waits (mx_Z Q 0 0) 0 0 26 [.ref 120, .int x1, .int x2] (r.toList ++ []) h')) :
    mx_Go l (mx_rm (d + 1) 0 0) mX12_waits (mx_Z Q 0 0) 0 0 15 [.ref 120, .int x1, .int x2] [] (sk0 c, I) := by
  refine g_iload_n dX12_waits_15 rfl rfl ?_
  refine g_iconst (v := 0) dX12_waits_16 (by decide) ?_
  refine g_aload_n dX12_waits_17 rfl rfl ?_
  refine rg_X12_29 (v := (I 120 29)) dX12_waits_18 lf_X12_223 (sk_120 _) rfl ?_
  refine g_iconst (v := 1) dX12_waits_21 (by decide) ?_
  refine g_isub dX12_waits_22 ?_
  exact s_callS (M' := mX12_isIn) (As := [.int x2, .int 0, .int ((I 120 29) - 1)]) (st := []) dX12_waits_23 lm_X12_50 okX12_isIn osX12_isIn (by simp [Value.category]) (by decide) rfl (k1)
set_option maxRecDepth 10000 in
set_option maxHeartbeats 1000000 in
theorem sg_X12_waits_26 {l : Launch} {d : Nat} {Q : Option Value → mx_H → Prop} {c : Nat} {I : mx_I} (x1 : Int32) (x2 : Int32) (x3 : Int32)
    (q1 : (x3 = 0) → Q (some (.int (-1))) (sk0 c, I))
    (b2 : (¬ x3 = 0) → vp_in x2 30)
    (q3 : (¬ x3 = 0) → Q (some (.int (I 129 x2.toNatClampNeg))) (sk0 c, I)) :
    mx_Go l (mx_rm (d + 1) 0 0) mX12_waits (mx_Z Q 0 0) 0 0 26 [.ref 120, .int x1, .int x2] [.int x3] (sk0 c, I) := by
  refine g_if_eq (tgt := 38) dX12_waits_26 (by decide) (fun c1 => ?_) (fun c2 => ?_)
  · skip
    refine g_iconst (v := (-1)) dX12_waits_38 (by decide) ?_
    exact g_iret rfl dX12_waits_39 rfl (Nat.le_refl _) (q1 c1)
  · skip
    refine g_aload_n dX12_waits_29 rfl rfl ?_
    refine rg_X12_27 (r := 129) dX12_waits_30 lf_X12_41 (sk_120 _) rfl ?_
    refine g_iload_n dX12_waits_33 rfl rfl ?_
    refine s_iald (j := x2.toNatClampNeg) (v := (I 129 x2.toNatClampNeg)) dX12_waits_34 (sk_129 _) (b2 c2) rfl rfl ?_
    refine g_goto (tgt := 39) dX12_waits_35 (by decide) ?_
    exact g_iret rfl dX12_waits_39 rfl (Nat.le_refl _) (q3 c2)
set_option maxRecDepth 10000 in
set_option maxHeartbeats 1000000 in
theorem sn_X12_book {l : Launch} {d : Nat} {Q : Option Value → mx_H → Prop} {c : Nat} {I : mx_I} (a1 : Int32) (a2 : Int32)
    (k1 : mx_K1 l mX12_isIn d [.int a1, .int 0, .int ((I 121 6) - 1)] (sk0 c, I) (fun r h' => mx_Go l (mx_rm (d + 1) 0 0) mX12_book (mx_Z Q 0 0) 0 0 14 [.ref 120, .int a1, .int a2] (r.toList ++ []) h')) :
    mx_Spec l mX12_book (d + 1) 0 0 [.ref 120, .int a1, .int a2] (sk0 c, I) Q := by
  refine mx_enter rfl (by simp [Value.category]) (Nat.le_of_ble_eq_true rfl) ?_
  change mx_Go l (mx_rm (d + 1) 0 0) mX12_book (mx_Z Q 0 0) 0 0 0 [.ref 120, .int a1, .int a2] [] (sk0 c, I)
  refine g_iload_n dX12_book_0 rfl rfl ?_
  refine g_iconst (v := 0) dX12_book_1 (by decide) ?_
  refine g_aload_n dX12_book_2 rfl rfl ?_
  refine rg_X12_0 (r := 121) dX12_book_3 lf_X12_7 (sk_120 _) rfl ?_
  refine g_bipush (v := 6) dX12_book_6 (by decide) ?_
  refine s_iald (j := 6) (v := (I 121 6)) dX12_book_8 (sk_121 _) (by unfold vp_in; decide) (by decide) rfl ?_
  refine g_iconst (v := 1) dX12_book_9 (by decide) ?_
  refine g_isub dX12_book_10 ?_
  exact s_callS (M' := mX12_isIn) (As := [.int a1, .int 0, .int ((I 121 6) - 1)]) (st := []) dX12_book_11 lm_X12_50 okX12_isIn osX12_isIn (by simp [Value.category]) (by decide) rfl (k1)
set_option maxRecDepth 10000 in
set_option maxHeartbeats 1000000 in
theorem sg_X12_book_14 {l : Launch} {d : Nat} {Q : Option Value → mx_H → Prop} {c : Nat} {I : mx_I} (x1 : Int32) (x2 : Int32) (x3 : Int32)
    (q1 : (x3 = 0) → Q (some (.int (-1))) (sk0 c, I))
    (k2 : (¬ x3 = 0) → mx_K1 l mX12_isIn d [.int x2, .int 0, .int 2] (sk0 c, I) (fun r h' => mx_Go l (mx_rm (d + 1) 0 0) mX12_book (mx_Z Q 0 0) 0 0 23 [.ref 120, .int x1, .int x2] (r.toList ++ []) h')) :
    mx_Go l (mx_rm (d + 1) 0 0) mX12_book (mx_Z Q 0 0) 0 0 14 [.ref 120, .int x1, .int x2] [.int x3] (sk0 c, I) := by
  refine g_if_eq (tgt := 43) dX12_book_14 (by decide) (fun c1 => ?_) (fun c2 => ?_)
  · skip
    refine g_iconst (v := (-1)) dX12_book_43 (by decide) ?_
    exact g_iret rfl dX12_book_44 rfl (Nat.le_refl _) (q1 c1)
  · skip
    refine g_iload_n dX12_book_17 rfl rfl ?_
    refine g_iconst (v := 0) dX12_book_18 (by decide) ?_
    refine g_iconst (v := 2) dX12_book_19 (by decide) ?_
    exact s_callS (M' := mX12_isIn) (As := [.int x2, .int 0, .int 2]) (st := []) dX12_book_20 lm_X12_50 okX12_isIn osX12_isIn (by simp [Value.category]) (by decide) rfl (k2 c2)
set_option maxRecDepth 10000 in
set_option maxHeartbeats 1000000 in
theorem sg_X12_book_23 {l : Launch} {d : Nat} {Q : Option Value → mx_H → Prop} {c : Nat} {I : mx_I} (x1 : Int32) (x2 : Int32) (x3 : Int32)
    (q1 : (x3 = 0) → Q (some (.int (-1))) (sk0 c, I))
    (b2 : (¬ x3 = 0) → vp_in ((600 + (3 * x1)) + x2) 2490)
    (q3 : (¬ x3 = 0) → Q (some (.int (I 121 ((600 + (3 * x1)) + x2).toNatClampNeg))) (sk0 c, I)) :
    mx_Go l (mx_rm (d + 1) 0 0) mX12_book (mx_Z Q 0 0) 0 0 23 [.ref 120, .int x1, .int x2] [.int x3] (sk0 c, I) := by
  refine g_if_eq (tgt := 43) dX12_book_23 (by decide) (fun c1 => ?_) (fun c2 => ?_)
  · skip
    refine g_iconst (v := (-1)) dX12_book_43 (by decide) ?_
    exact g_iret rfl dX12_book_44 rfl (Nat.le_refl _) (q1 c1)
  · skip
    refine g_aload_n dX12_book_26 rfl rfl ?_
    refine rg_X12_0 (r := 121) dX12_book_27 lf_X12_7 (sk_120 _) rfl ?_
    refine g_sipush (v := 600) dX12_book_30 (by decide) ?_
    refine g_iconst (v := 3) dX12_book_33 (by decide) ?_
    refine g_iload_n dX12_book_34 rfl rfl ?_
    refine g_imul dX12_book_35 ?_
    refine g_iadd dX12_book_36 ?_
    refine g_iload_n dX12_book_37 rfl rfl ?_
    refine g_iadd dX12_book_38 ?_
    refine s_iald (j := ((600 + (3 * x1)) + x2).toNatClampNeg) (v := (I 121 ((600 + (3 * x1)) + x2).toNatClampNeg)) dX12_book_39 (sk_121 _) (b2 c2) rfl rfl ?_
    refine g_goto (tgt := 44) dX12_book_40 (by decide) ?_
    exact g_iret rfl dX12_book_44 rfl (Nat.le_refl _) (q3 c2)
set_option maxRecDepth 10000 in
set_option maxHeartbeats 1000000 in
theorem sn_X12_begins {l : Launch} {d : Nat} {Q : Option Value → mx_H → Prop} {c : Nat} {I : mx_I}
    (e1 : mx_Go l (mx_rm (d + 1) 0 0) mX12_begins (mx_Z Q 0 0) 0 0 2 [.ref 120, .int 0] [] (sk0 c, I)) :
    mx_Spec l mX12_begins (d + 1) 0 0 [.ref 120] (sk0 c, I) Q := by
  refine mx_enter rfl (by simp [Value.category]) (Nat.le_of_ble_eq_true rfl) ?_
  change mx_Go l (mx_rm (d + 1) 0 0) mX12_begins (mx_Z Q 0 0) 0 0 0 [.ref 120, .retAddr 0] [] (sk0 c, I)
  refine g_iconst (v := 0) dX12_begins_0 (by decide) ?_
  refine s_istore_n (L' := [.ref 120, .int 0]) dX12_begins_1 rfl (by decide) rfl rfl ?_
  exact e1
set_option maxRecDepth 10000 in
set_option maxHeartbeats 1000000 in
theorem sg_X12_begins_2 {l : Launch} {d : Nat} {Q : Option Value → mx_H → Prop} {c : Nat} {I : mx_I} (x1 : Int32)
    (q1 : (600 ≤ x1) → Q none (sk0 c, (mx_set I 120 21 1)))
    (b2 : (¬ 600 ≤ x1) → vp_in x1 2490)
    (b3 : (¬ 600 ≤ x1) → vp_in x1 600)
    (e4 : (¬ 600 ≤ x1) → mx_Go l (mx_rm (d + 1) 0 0) mX12_begins (mx_Z Q 0 0) 0 0 2 [.ref 120, .int (x1 + 1)] [] (sk0 c, (mx_set I 123 x1.toNatClampNeg (I 121 x1.toNatClampNeg)))) :
    mx_Go l (mx_rm (d + 1) 0 0) mX12_begins (mx_Z Q 0 0) 0 0 2 [.ref 120, .int x1] [] (sk0 c, I) := by
  refine g_iload_n dX12_begins_2 rfl rfl ?_
  refine g_sipush (v := 600) dX12_begins_3 (by decide) ?_
  refine g_icmp_ge (tgt := 27) dX12_begins_6 (by decide) (fun c1 => ?_) (fun c2 => ?_)
  · skip
    refine g_aload_n dX12_begins_27 rfl rfl ?_
    refine g_iconst (v := 1) dX12_begins_28 (by decide) ?_
    refine rp_X12_21 (by decide) dX12_begins_29 lf_X12_244 (sk_120 _) ?_
    exact g_vret rfl dX12_begins_32 rfl (Nat.le_refl _) (q1 c1)
  · skip
    refine g_aload_n dX12_begins_9 rfl rfl ?_
    refine rg_X12_2 (r := 123) dX12_begins_10 lf_X12_16 (sk_120 _) rfl ?_
    refine g_iload_n dX12_begins_13 rfl rfl ?_
    refine g_aload_n dX12_begins_14 rfl rfl ?_
    refine rg_X12_0 (r := 121) dX12_begins_15 lf_X12_7 (sk_120 _) rfl ?_
    refine g_iload_n dX12_begins_18 rfl rfl ?_
    refine s_iald (j := x1.toNatClampNeg) (v := (I 121 x1.toNatClampNeg)) dX12_begins_19 (sk_121 _) (b2 c2) rfl rfl ?_
    refine s_iast (j := x1.toNatClampNeg) dX12_begins_20 (sk_123 _) (b3 c2) rfl ?_
    refine s_iinc (v := (x1 + 1)) (L' := [.ref 120, .int (x1 + 1)]) dX12_begins_21 rfl (by decide) rfl rfl rfl ?_
    refine g_goto (tgt := 2) dX12_begins_24 (by decide) ?_
    exact e4 c2
set_option maxRecDepth 10000 in
set_option maxHeartbeats 1000000 in
theorem sn_X12_comesBack {l : Launch} {d : Nat} {Q : Option Value → mx_H → Prop} {c : Nat} {I : mx_I}
    (e1 : mx_Go l (mx_rm (d + 1) 0 0) mX12_comesBack (mx_Z Q 0 0) 0 0 2 [.ref 120, .int 0] [] (sk0 c, I)) :
    mx_Spec l mX12_comesBack (d + 1) 0 0 [.ref 120] (sk0 c, I) Q := by
  refine mx_enter rfl (by simp [Value.category]) (Nat.le_of_ble_eq_true rfl) ?_
  change mx_Go l (mx_rm (d + 1) 0 0) mX12_comesBack (mx_Z Q 0 0) 0 0 0 [.ref 120, .retAddr 0] [] (sk0 c, I)
  refine g_iconst (v := 0) dX12_comesBack_0 (by decide) ?_
  refine s_istore_n (L' := [.ref 120, .int 0]) dX12_comesBack_1 rfl (by decide) rfl rfl ?_
  exact e1
set_option maxRecDepth 10000 in
set_option maxHeartbeats 1000000 in
theorem sg_X12_comesBack_2 {l : Launch} {d : Nat} {Q : Option Value → mx_H → Prop} {c : Nat} {I : mx_I} (x1 : Int32)
    (q1 : (600 ≤ x1) → Q none (sk0 c, (mx_set (mx_set (mx_set (mx_set I 120 21 0) 120 22 (-1)) 120 25 0) 120 26 0)))
    (b2 : (¬ 600 ≤ x1) → vp_in x1 600)
    (b3 : (¬ 600 ≤ x1) → vp_in x1 2490)
    (e4 : (¬ 600 ≤ x1) → mx_Go l (mx_rm (d + 1) 0 0) mX12_comesBack (mx_Z Q 0 0) 0 0 2 [.ref 120, .int (x1 + 1)] [] (sk0 c, (mx_set I 121 x1.toNatClampNeg (I 123 x1.toNatClampNeg)))) :
    mx_Go l (mx_rm (d + 1) 0 0) mX12_comesBack (mx_Z Q 0 0) 0 0 2 [.ref 120, .int x1] [] (sk0 c, I) := by
  refine g_iload_n dX12_comesBack_2 rfl rfl ?_
  refine g_sipush (v := 600) dX12_comesBack_3 (by decide) ?_
  refine g_icmp_ge (tgt := 27) dX12_comesBack_6 (by decide) (fun c1 => ?_) (fun c2 => ?_)
  · skip
    refine g_aload_n dX12_comesBack_27 rfl rfl ?_
    refine g_iconst (v := 0) dX12_comesBack_28 (by decide) ?_
    refine rp_X12_21 (by decide) dX12_comesBack_29 lf_X12_244 (sk_120 _) ?_
    refine g_aload_n dX12_comesBack_32 rfl rfl ?_
    refine g_iconst (v := (-1)) dX12_comesBack_33 (by decide) ?_
    refine rp_X12_22 dX12_comesBack_34 lf_X12_38 (sk_120 _) ?_
    refine g_aload_n dX12_comesBack_37 rfl rfl ?_
    refine g_iconst (v := 0) dX12_comesBack_38 (by decide) ?_
    refine rp_X12_25 dX12_comesBack_39 lf_X12_270 (sk_120 _) ?_
    refine g_aload_n dX12_comesBack_42 rfl rfl ?_
    refine g_iconst (v := 0) dX12_comesBack_43 (by decide) ?_
    refine rp_X12_26 dX12_comesBack_44 lf_X12_279 (sk_120 _) ?_
    exact g_vret rfl dX12_comesBack_47 rfl (Nat.le_refl _) (q1 c1)
  · skip
    refine g_aload_n dX12_comesBack_9 rfl rfl ?_
    refine rg_X12_0 (r := 121) dX12_comesBack_10 lf_X12_7 (sk_120 _) rfl ?_
    refine g_iload_n dX12_comesBack_13 rfl rfl ?_
    refine g_aload_n dX12_comesBack_14 rfl rfl ?_
    refine rg_X12_2 (r := 123) dX12_comesBack_15 lf_X12_16 (sk_120 _) rfl ?_
    refine g_iload_n dX12_comesBack_18 rfl rfl ?_
    refine s_iald (j := x1.toNatClampNeg) (v := (I 123 x1.toNatClampNeg)) dX12_comesBack_19 (sk_123 _) (b2 c2) rfl rfl ?_
    refine s_iast (j := x1.toNatClampNeg) dX12_comesBack_20 (sk_121 _) (b3 c2) rfl ?_
    refine s_iinc (v := (x1 + 1)) (L' := [.ref 120, .int (x1 + 1)]) dX12_comesBack_21 rfl (by decide) rfl rfl rfl ?_
    refine g_goto (tgt := 2) dX12_comesBack_24 (by decide) ?_
    exact e4 c2
set_option maxRecDepth 10000 in
set_option maxHeartbeats 1000000 in
theorem sn_X12_watches {l : Launch} {d : Nat} {Q : Option Value → mx_H → Prop} {c : Nat} {I : mx_I} (a1 : Int32) (a2 : Int32)
    (q1 : Q none (sk0 c, (mx_set (mx_set (mx_set I 120 22 a1) 120 23 a2) 120 24 (-1)))) :
    mx_Spec l mX12_watches (d + 1) 0 0 [.ref 120, .int a1, .int a2] (sk0 c, I) Q := by
  refine mx_enter rfl (by simp [Value.category]) (Nat.le_of_ble_eq_true rfl) ?_
  change mx_Go l (mx_rm (d + 1) 0 0) mX12_watches (mx_Z Q 0 0) 0 0 0 [.ref 120, .int a1, .int a2] [] (sk0 c, I)
  refine g_aload_n dX12_watches_0 rfl rfl ?_
  refine g_iload_n dX12_watches_1 rfl rfl ?_
  refine rp_X12_22 dX12_watches_2 lf_X12_38 (sk_120 _) ?_
  refine g_aload_n dX12_watches_5 rfl rfl ?_
  refine g_iload_n dX12_watches_6 rfl rfl ?_
  refine rp_X12_23 dX12_watches_7 lf_X12_214 (sk_120 _) ?_
  refine g_aload_n dX12_watches_10 rfl rfl ?_
  refine g_iconst (v := (-1)) dX12_watches_11 (by decide) ?_
  refine rp_X12_24 dX12_watches_12 lf_X12_217 (sk_120 _) ?_
  exact g_vret rfl dX12_watches_15 rfl (Nat.le_refl _) (q1)
set_option maxRecDepth 10000 in
set_option maxHeartbeats 1000000 in
theorem sn_X12_over {l : Launch} {d : Nat} {Q : Option Value → mx_H → Prop} {c : Nat} {I : mx_I} (a1 : Int32) (a2 : Int32)
    (k1 : mx_K1 l mX12_isLoad d [.ref 120, .int a1] (sk0 c, I) (fun r h' => mx_Go l (mx_rm (d + 1) 0 0) mX12_over (mx_Z Q 0 0) 0 0 5 [.ref 120, .int a1, .int a2, .retAddr 0] (r.toList ++ []) h')) :
    mx_Spec l mX12_over (d + 1) 0 0 [.ref 120, .int a1, .int a2] (sk0 c, I) Q := by
  refine mx_enter rfl (by simp [Value.category]) (Nat.le_of_ble_eq_true rfl) ?_
  change mx_Go l (mx_rm (d + 1) 0 0) mX12_over (mx_Z Q 0 0) 0 0 0 [.ref 120, .int a1, .int a2, .retAddr 0] [] (sk0 c, I)
  refine g_aload_n dX12_over_0 rfl rfl ?_
  refine g_iload_n dX12_over_1 rfl rfl ?_
  exact s_callV (M' := mX12_isLoad) (As := [.int a1]) (st := []) dX12_over_2 lm_X12_68 ovX12_isLoad (h := (sk0 c, I)) (sk_120 _) (show vwCl[12]? = some _ from rfl) rfl (by simp [Value.category]) (by decide) rfl (k1)
set_option maxRecDepth 10000 in
set_option maxHeartbeats 1000000 in
theorem sg_X12_over_5 {l : Launch} {d : Nat} {Q : Option Value → mx_H → Prop} {c : Nat} {I : mx_I} (x1 : Int32) (x2 : Int32) (x3 : Int32)
    (q1 : (x3 = 0) → Q (some (.int (-1))) (sk0 c, I))
    (k2 : (¬ x3 = 0) → mx_K1 l mX12_isEnd d [.ref 120, .int x2] (sk0 c, I) (fun r h' => mx_Go l (mx_rm (d + 1) 0 0) mX12_over (mx_Z Q 0 0) 0 0 13 [.ref 120, .int x1, .int x2, .retAddr 0] (r.toList ++ []) h')) :
    mx_Go l (mx_rm (d + 1) 0 0) mX12_over (mx_Z Q 0 0) 0 0 5 [.ref 120, .int x1, .int x2, .retAddr 0] [.int x3] (sk0 c, I) := by
  refine g_if_eq (tgt := 16) dX12_over_5 (by decide) (fun c1 => ?_) (fun c2 => ?_)
  · skip
    refine g_iconst (v := (-1)) dX12_over_16 (by decide) ?_
    exact g_iret rfl dX12_over_17 rfl (Nat.le_refl _) (q1 c1)
  · skip
    refine g_aload_n dX12_over_8 rfl rfl ?_
    refine g_iload_n dX12_over_9 rfl rfl ?_
    exact s_callV (M' := mX12_isEnd) (As := [.int x2]) (st := []) dX12_over_10 lm_X12_58 ovX12_isEnd (h := (sk0 c, I)) (sk_120 _) (show vwCl[12]? = some _ from rfl) rfl (by simp [Value.category]) (by decide) rfl (k2 c2)
set_option maxRecDepth 10000 in
set_option maxHeartbeats 1000000 in
theorem sg_X12_over_13 {l : Launch} {d : Nat} {Q : Option Value → mx_H → Prop} {c : Nat} {I : mx_I} (x1 : Int32) (x2 : Int32) (x3 : Int32)
    (k1 : (¬ x3 = 0) → mx_K1 l mX12_isThere d [.ref 120, .int x1, .int x2] (sk0 c, I) (fun r h' => mx_Go l (mx_rm (d + 1) 0 0) mX12_over (mx_Z Q 0 0) 0 0 24 [.ref 120, .int x1, .int x2, .retAddr 0] (r.toList ++ []) h'))
    (q2 : (x3 = 0) → Q (some (.int (-1))) (sk0 c, I)) :
    mx_Go l (mx_rm (d + 1) 0 0) mX12_over (mx_Z Q 0 0) 0 0 13 [.ref 120, .int x1, .int x2, .retAddr 0] [.int x3] (sk0 c, I) := by
  refine g_if_ne (tgt := 18) dX12_over_13 (by decide) (fun c1 => ?_) (fun c2 => ?_)
  · skip
    refine g_aload_n dX12_over_18 rfl rfl ?_
    refine g_iload_n dX12_over_19 rfl rfl ?_
    refine g_iload_n dX12_over_20 rfl rfl ?_
    exact s_callV (M' := mX12_isThere) (As := [.int x1, .int x2]) (st := []) dX12_over_21 lm_X12_226 ovX12_isThere (h := (sk0 c, I)) (sk_120 _) (show vwCl[12]? = some _ from rfl) rfl (by simp [Value.category]) (by decide) rfl (k1 c1)
  · skip
    refine g_iconst (v := (-1)) dX12_over_16 (by decide) ?_
    exact g_iret rfl dX12_over_17 rfl (Nat.le_refl _) (q2 c2)
set_option maxRecDepth 10000 in
set_option maxHeartbeats 1000000 in
theorem sg_X12_over_24 {l : Launch} {d : Nat} {Q : Option Value → mx_H → Prop} {c : Nat} {I : mx_I} (x1 : Int32) (x2 : Int32) (x3 : Int32)
    (k1 : (x3 = 0) → mx_K1 l mX12_begins d [.ref 120] (sk0 c, I) (fun r h' => mx_Go l (mx_rm (d + 1) 0 0) mX12_over (mx_Z Q 0 0) 0 0 38 [.ref 120, .int x1, .int x2, .retAddr 0] (r.toList ++ []) h'))
    (q2 : (¬ x3 = 0) → Q (some (.int (I 121 1))) (sk0 c, I)) :
    mx_Go l (mx_rm (d + 1) 0 0) mX12_over (mx_Z Q 0 0) 0 0 24 [.ref 120, .int x1, .int x2, .retAddr 0] [.int x3] (sk0 c, I) := by
  refine g_if_eq (tgt := 34) dX12_over_24 (by decide) (fun c1 => ?_) (fun c2 => ?_)
  · skip
    refine g_aload_n dX12_over_34 rfl rfl ?_
    exact s_callV (M' := mX12_begins) (As := []) (st := []) dX12_over_35 lm_X12_285 ovX12_begins (h := (sk0 c, I)) (sk_120 _) (show vwCl[12]? = some _ from rfl) rfl (by simp [Value.category]) (by decide) rfl (k1 c1)
  · skip
    refine g_aload_n dX12_over_27 rfl rfl ?_
    refine rg_X12_0 (r := 121) dX12_over_28 lf_X12_7 (sk_120 _) rfl ?_
    refine g_iconst (v := 1) dX12_over_31 (by decide) ?_
    refine s_iald (j := 1) (v := (I 121 1)) dX12_over_32 (sk_121 _) (by unfold vp_in; decide) (by decide) rfl ?_
    exact g_iret rfl dX12_over_33 rfl (Nat.le_refl _) (q2 c2)
set_option maxRecDepth 10000 in
set_option maxHeartbeats 1000000 in
theorem sg_X12_over_38 {l : Launch} {d : Nat} {Q : Option Value → mx_H → Prop} {c : Nat} {I : mx_I} (x1 : Int32) (x2 : Int32)
    (k1 : mx_K1 l mX12_watches d [.ref 120, .int x1, .int x2] (sk0 c, I) (fun r h' => mx_Go l (mx_rm (d + 1) 0 0) mX12_over (mx_Z Q 0 0) 0 0 44 [.ref 120, .int x1, .int x2, .retAddr 0] (r.toList ++ []) h')) :
    mx_Go l (mx_rm (d + 1) 0 0) mX12_over (mx_Z Q 0 0) 0 0 38 [.ref 120, .int x1, .int x2, .retAddr 0] [] (sk0 c, I) := by
  refine g_aload_n dX12_over_38 rfl rfl ?_
  refine g_iload_n dX12_over_39 rfl rfl ?_
  refine g_iload_n dX12_over_40 rfl rfl ?_
  exact s_callV (M' := mX12_watches) (As := [.int x1, .int x2]) (st := []) dX12_over_41 lm_X12_288 ovX12_watches (h := (sk0 c, I)) (sk_120 _) (show vwCl[12]? = some _ from rfl) rfl (by simp [Value.category]) (by decide) rfl (k1)
set_option maxRecDepth 10000 in
set_option maxHeartbeats 1000000 in
theorem sg_X12_over_44 {l : Launch} {d : Nat} {Q : Option Value → mx_H → Prop} {c : Nat} {I : mx_I} (x1 : Int32) (x2 : Int32)
    (k1 : (167 < (I 121 1)) → mx_K1 l mX12_comesBack d [.ref 120] (sk0 c, I) (fun r h' => mx_Go l (mx_rm (d + 1) 0 0) mX12_over (mx_Z Q 0 0) 0 0 80 [.ref 120, .int x1, .int x2, .int (I 120 24)] (r.toList ++ []) h'))
    (k2 : (¬ 167 < (I 121 1)) → (¬ (I 120 24) = (-1)) → mx_K1 l mX12_comesBack d [.ref 120] (sk0 c, I) (fun r h' => mx_Go l (mx_rm (d + 1) 0 0) mX12_over (mx_Z Q 0 0) 0 0 80 [.ref 120, .int x1, .int x2, .int (I 120 24)] (r.toList ++ []) h'))
    (k3 : (¬ 167 < (I 121 1)) → ((I 120 24) = (-1)) → mx_K1 l mX12_anHour d [.ref 120] (sk0 c, I) (fun r h' => mx_Go l (mx_rm (d + 1) 0 0) mX12_over (mx_Z Q 0 0) 0 0 68 [.ref 120, .int x1, .int x2, .retAddr 0] (r.toList ++ []) h')) :
    mx_Go l (mx_rm (d + 1) 0 0) mX12_over (mx_Z Q 0 0) 0 0 44 [.ref 120, .int x1, .int x2, .retAddr 0] [] (sk0 c, I) := by
  refine g_aload_n dX12_over_44 rfl rfl ?_
  refine rg_X12_0 (r := 121) dX12_over_45 lf_X12_7 (sk_120 _) rfl ?_
  refine g_iconst (v := 1) dX12_over_48 (by decide) ?_
  refine s_iald (j := 1) (v := (I 121 1)) dX12_over_49 (sk_121 _) (by unfold vp_in; decide) (by decide) rfl ?_
  refine g_sipush (v := 167) dX12_over_50 (by decide) ?_
  refine g_icmp_gt (tgt := 71) dX12_over_53 (by decide) (fun c1 => ?_) (fun c2 => ?_)
  · skip
    refine g_aload_n dX12_over_71 rfl rfl ?_
    refine rg_X12_24 (v := (I 120 24)) dX12_over_72 lf_X12_217 (sk_120 _) rfl ?_
    refine s_istore_n (L' := [.ref 120, .int x1, .int x2, .int (I 120 24)]) dX12_over_75 rfl (by decide) rfl rfl ?_
    refine g_aload_n dX12_over_76 rfl rfl ?_
    exact s_callV (M' := mX12_comesBack) (As := []) (st := []) dX12_over_77 lm_X12_291 ovX12_comesBack (h := (sk0 c, I)) (sk_120 _) (show vwCl[12]? = some _ from rfl) rfl (by simp [Value.category]) (by decide) rfl (k1 c1)
  · skip
    refine g_aload_n dX12_over_56 rfl rfl ?_
    refine rg_X12_24 (v := (I 120 24)) dX12_over_57 lf_X12_217 (sk_120 _) rfl ?_
    refine g_iconst (v := (-1)) dX12_over_60 (by decide) ?_
    refine g_icmp_ne (tgt := 71) dX12_over_61 (by decide) (fun c3 => ?_) (fun c4 => ?_)
    · skip
      refine g_aload_n dX12_over_71 rfl rfl ?_
      refine rg_X12_24 (v := (I 120 24)) dX12_over_72 lf_X12_217 (sk_120 _) rfl ?_
      refine s_istore_n (L' := [.ref 120, .int x1, .int x2, .int (I 120 24)]) dX12_over_75 rfl (by decide) rfl rfl ?_
      refine g_aload_n dX12_over_76 rfl rfl ?_
      exact s_callV (M' := mX12_comesBack) (As := []) (st := []) dX12_over_77 lm_X12_291 ovX12_comesBack (h := (sk0 c, I)) (sk_120 _) (show vwCl[12]? = some _ from rfl) rfl (by simp [Value.category]) (by decide) rfl (k2 c2 c3)
    · skip
      refine g_aload_n dX12_over_64 rfl rfl ?_
      exact s_callV (M' := mX12_anHour) (As := []) (st := []) dX12_over_65 lm_X12_282 ovX12_anHour (h := (sk0 c, I)) (sk_120 _) (show vwCl[12]? = some _ from rfl) rfl (by simp [Value.category]) (by decide) rfl (k3 c2 c4)
set_option maxRecDepth 10000 in
set_option maxHeartbeats 1000000 in
theorem sg_X12_over_80 {l : Launch} {d : Nat} {Q : Option Value → mx_H → Prop} {c : Nat} {I : mx_I} (x1 : Int32) (x2 : Int32) (x3 : Int32)
    (q1 : Q (some (.int x3)) (sk0 c, I)) :
    mx_Go l (mx_rm (d + 1) 0 0) mX12_over (mx_Z Q 0 0) 0 0 80 [.ref 120, .int x1, .int x2, .int x3] [] (sk0 c, I) := by
  refine g_iload_n dX12_over_80 rfl rfl ?_
  exact g_iret rfl dX12_over_81 rfl (Nat.le_refl _) (q1)
set_option maxRecDepth 10000 in
set_option maxHeartbeats 1000000 in
theorem sg_X12_over_68 {l : Launch} {d : Nat} {Q : Option Value → mx_H → Prop} {c : Nat} {I : mx_I} (x1 : Int32) (x2 : Int32)
    (e1 : mx_Go l (mx_rm (d + 1) 0 0) mX12_over (mx_Z Q 0 0) 0 0 44 [.ref 120, .int x1, .int x2, .retAddr 0] [] (sk0 c, I)) :
    mx_Go l (mx_rm (d + 1) 0 0) mX12_over (mx_Z Q 0 0) 0 0 68 [.ref 120, .int x1, .int x2, .retAddr 0] [] (sk0 c, I) := by
  refine g_goto (tgt := 44) dX12_over_68 (by decide) ?_
  exact e1
set_option maxRecDepth 10000 in
set_option maxHeartbeats 1000000 in
theorem sn_X12_back {l : Launch} {d : Nat} {Q : Option Value → mx_H → Prop} {c : Nat} {I : mx_I} (a1 : Int32)
    (k1 : mx_K1 l mX12_isLoad d [.ref 120, .int a1] (sk0 c, I) (fun r h' => mx_Go l (mx_rm (d + 1) 0 0) mX12_back (mx_Z Q 0 0) 0 0 5 [.ref 120, .int a1, .retAddr 0] (r.toList ++ []) h')) :
    mx_Spec l mX12_back (d + 1) 0 0 [.ref 120, .int a1] (sk0 c, I) Q := by
  refine mx_enter rfl (by simp [Value.category]) (Nat.le_of_ble_eq_true rfl) ?_
  change mx_Go l (mx_rm (d + 1) 0 0) mX12_back (mx_Z Q 0 0) 0 0 0 [.ref 120, .int a1, .retAddr 0] [] (sk0 c, I)
  refine g_aload_n dX12_back_0 rfl rfl ?_
  refine g_iload_n dX12_back_1 rfl rfl ?_
  exact s_callV (M' := mX12_isLoad) (As := [.int a1]) (st := []) dX12_back_2 lm_X12_68 ovX12_isLoad (h := (sk0 c, I)) (sk_120 _) (show vwCl[12]? = some _ from rfl) rfl (by simp [Value.category]) (by decide) rfl (k1)
set_option maxRecDepth 10000 in
set_option maxHeartbeats 1000000 in
theorem sg_X12_back_5 {l : Launch} {d : Nat} {Q : Option Value → mx_H → Prop} {c : Nat} {I : mx_I} (x1 : Int32) (x2 : Int32)
    (k1 : (¬ x2 = 0) → mx_K1 l mX12_begins d [.ref 120] (sk0 c, I) (fun r h' => mx_Go l (mx_rm (d + 1) 0 0) mX12_back (mx_Z Q 0 0) 0 0 14 [.ref 120, .int x1, .retAddr 0] (r.toList ++ []) h'))
    (q2 : (x2 = 0) → Q (some (.int (-1))) (sk0 c, I)) :
    mx_Go l (mx_rm (d + 1) 0 0) mX12_back (mx_Z Q 0 0) 0 0 5 [.ref 120, .int x1, .retAddr 0] [.int x2] (sk0 c, I) := by
  refine g_if_ne (tgt := 10) dX12_back_5 (by decide) (fun c1 => ?_) (fun c2 => ?_)
  · skip
    refine g_aload_n dX12_back_10 rfl rfl ?_
    exact s_callV (M' := mX12_begins) (As := []) (st := []) dX12_back_11 lm_X12_285 ovX12_begins (h := (sk0 c, I)) (sk_120 _) (show vwCl[12]? = some _ from rfl) rfl (by simp [Value.category]) (by decide) rfl (k1 c1)
  · skip
    refine g_iconst (v := (-1)) dX12_back_8 (by decide) ?_
    exact g_iret rfl dX12_back_9 rfl (Nat.le_refl _) (q2 c2)
set_option maxRecDepth 10000 in
set_option maxHeartbeats 1000000 in
theorem sg_X12_back_14 {l : Launch} {d : Nat} {Q : Option Value → mx_H → Prop} {c : Nat} {I : mx_I} (x1 : Int32)
    (k1 : (167 < (I 121 1)) → mx_K1 l mX12_ofLoad d [.ref 120, .int x1, .int 7] (sk0 c, I) (fun r h' => mx_Go l (mx_rm (d + 1) 0 0) mX12_back (mx_Z Q 0 0) 0 0 40 [.ref 120, .int x1, .retAddr 0] (r.toList ++ []) h'))
    (k2 : (¬ 167 < (I 121 1)) → mx_K1 l mX12_anHour d [.ref 120] (sk0 c, I) (fun r h' => mx_Go l (mx_rm (d + 1) 0 0) mX12_back (mx_Z Q 0 0) 0 0 30 [.ref 120, .int x1, .retAddr 0] (r.toList ++ []) h')) :
    mx_Go l (mx_rm (d + 1) 0 0) mX12_back (mx_Z Q 0 0) 0 0 14 [.ref 120, .int x1, .retAddr 0] [] (sk0 c, I) := by
  refine g_aload_n dX12_back_14 rfl rfl ?_
  refine rg_X12_0 (r := 121) dX12_back_15 lf_X12_7 (sk_120 _) rfl ?_
  refine g_iconst (v := 1) dX12_back_18 (by decide) ?_
  refine s_iald (j := 1) (v := (I 121 1)) dX12_back_19 (sk_121 _) (by unfold vp_in; decide) (by decide) rfl ?_
  refine g_sipush (v := 167) dX12_back_20 (by decide) ?_
  refine g_icmp_gt (tgt := 33) dX12_back_23 (by decide) (fun c1 => ?_) (fun c2 => ?_)
  · skip
    refine g_aload_n dX12_back_33 rfl rfl ?_
    refine g_iload_n dX12_back_34 rfl rfl ?_
    refine g_bipush (v := 7) dX12_back_35 (by decide) ?_
    exact s_callV (M' := mX12_ofLoad) (As := [.int x1, .int 7]) (st := []) dX12_back_37 lm_X12_220 ovX12_ofLoad (h := (sk0 c, I)) (sk_120 _) (show vwCl[12]? = some _ from rfl) rfl (by simp [Value.category]) (by decide) rfl (k1 c1)
  · skip
    refine g_aload_n dX12_back_26 rfl rfl ?_
    exact s_callV (M' := mX12_anHour) (As := []) (st := []) dX12_back_27 lm_X12_282 ovX12_anHour (h := (sk0 c, I)) (sk_120 _) (show vwCl[12]? = some _ from rfl) rfl (by simp [Value.category]) (by decide) rfl (k2 c2)
set_option maxRecDepth 10000 in
set_option maxHeartbeats 1000000 in
theorem sg_X12_back_40 {l : Launch} {d : Nat} {Q : Option Value → mx_H → Prop} {c : Nat} {I : mx_I} (x1 : Int32) (x2 : Int32)
    (k1 : mx_K1 l mX12_comesBack d [.ref 120] (sk0 c, I) (fun r h' => mx_Go l (mx_rm (d + 1) 0 0) mX12_back (mx_Z Q 0 0) 0 0 45 [.ref 120, .int x1, .int x2] (r.toList ++ []) h')) :
    mx_Go l (mx_rm (d + 1) 0 0) mX12_back (mx_Z Q 0 0) 0 0 40 [.ref 120, .int x1, .retAddr 0] [.int x2] (sk0 c, I) := by
  refine s_istore_n (L' := [.ref 120, .int x1, .int x2]) dX12_back_40 rfl (by decide) rfl rfl ?_
  refine g_aload_n dX12_back_41 rfl rfl ?_
  exact s_callV (M' := mX12_comesBack) (As := []) (st := []) dX12_back_42 lm_X12_291 ovX12_comesBack (h := (sk0 c, I)) (sk_120 _) (show vwCl[12]? = some _ from rfl) rfl (by simp [Value.category]) (by decide) rfl (k1)
set_option maxRecDepth 10000 in
set_option maxHeartbeats 1000000 in
theorem sg_X12_back_30 {l : Launch} {d : Nat} {Q : Option Value → mx_H → Prop} {c : Nat} {I : mx_I} (x1 : Int32)
    (e1 : mx_Go l (mx_rm (d + 1) 0 0) mX12_back (mx_Z Q 0 0) 0 0 14 [.ref 120, .int x1, .retAddr 0] [] (sk0 c, I)) :
    mx_Go l (mx_rm (d + 1) 0 0) mX12_back (mx_Z Q 0 0) 0 0 30 [.ref 120, .int x1, .retAddr 0] [] (sk0 c, I) := by
  refine g_goto (tgt := 14) dX12_back_30 (by decide) ?_
  exact e1
set_option maxRecDepth 10000 in
set_option maxHeartbeats 1000000 in
theorem sg_X12_back_45 {l : Launch} {d : Nat} {Q : Option Value → mx_H → Prop} {c : Nat} {I : mx_I} (x1 : Int32) (x2 : Int32)
    (q1 : Q (some (.int x2)) (sk0 c, I)) :
    mx_Go l (mx_rm (d + 1) 0 0) mX12_back (mx_Z Q 0 0) 0 0 45 [.ref 120, .int x1, .int x2] [] (sk0 c, I) := by
  refine g_iload_n dX12_back_45 rfl rfl ?_
  exact g_iret rfl dX12_back_46 rfl (Nat.le_refl _) (q1)
set_option maxRecDepth 10000 in
set_option maxHeartbeats 1000000 in
theorem sn_X12_gathers {l : Launch} {d : Nat} {Q : Option Value → mx_H → Prop} {c : Nat} {I : mx_I} (a1 : Int32) (a2 : Int32) (a3 : Int32)
    (k1 : mx_K1 l mX12_isEnd d [.ref 120, .int a1] (sk0 c, I) (fun r h' => mx_Go l (mx_rm (d + 1) 0 0) mX12_gathers (mx_Z Q 0 0) 0 0 5 [.ref 120, .int a1, .int a2, .int a3, .retAddr 0, .retAddr 0] (r.toList ++ []) h')) :
    mx_Spec l mX12_gathers (d + 1) 0 0 [.ref 120, .int a1, .int a2, .int a3] (sk0 c, I) Q := by
  refine mx_enter rfl (by simp [Value.category]) (Nat.le_of_ble_eq_true rfl) ?_
  change mx_Go l (mx_rm (d + 1) 0 0) mX12_gathers (mx_Z Q 0 0) 0 0 0 [.ref 120, .int a1, .int a2, .int a3, .retAddr 0, .retAddr 0] [] (sk0 c, I)
  refine g_aload_n dX12_gathers_0 rfl rfl ?_
  refine g_iload_n dX12_gathers_1 rfl rfl ?_
  exact s_callV (M' := mX12_isEnd) (As := [.int a1]) (st := []) dX12_gathers_2 lm_X12_58 ovX12_isEnd (h := (sk0 c, I)) (sk_120 _) (show vwCl[12]? = some _ from rfl) rfl (by simp [Value.category]) (by decide) rfl (k1)
set_option maxRecDepth 10000 in
set_option maxHeartbeats 1000000 in
theorem sg_X12_gathers_5 {l : Launch} {d : Nat} {Q : Option Value → mx_H → Prop} {c : Nat} {I : mx_I} (x1 : Int32) (x2 : Int32) (x3 : Int32) (x4 : Int32)
    (q1 : (x4 = 0) → Q (some (.int (-1))) (sk0 c, I))
    (k2 : (¬ x4 = 0) → mx_K1 l mX12_isHour d [.ref 120, .int x2] (sk0 c, I) (fun r h' => mx_Go l (mx_rm (d + 1) 0 0) mX12_gathers (mx_Z Q 0 0) 0 0 13 [.ref 120, .int x1, .int x2, .int x3, .retAddr 0, .retAddr 0] (r.toList ++ []) h')) :
    mx_Go l (mx_rm (d + 1) 0 0) mX12_gathers (mx_Z Q 0 0) 0 0 5 [.ref 120, .int x1, .int x2, .int x3, .retAddr 0, .retAddr 0] [.int x4] (sk0 c, I) := by
  refine g_if_eq (tgt := 25) dX12_gathers_5 (by decide) (fun c1 => ?_) (fun c2 => ?_)
  · skip
    refine g_iconst (v := (-1)) dX12_gathers_25 (by decide) ?_
    exact g_iret rfl dX12_gathers_26 rfl (Nat.le_refl _) (q1 c1)
  · skip
    refine g_aload_n dX12_gathers_8 rfl rfl ?_
    refine g_iload_n dX12_gathers_9 rfl rfl ?_
    exact s_callV (M' := mX12_isHour) (As := [.int x2]) (st := []) dX12_gathers_10 lm_X12_62 ovX12_isHour (h := (sk0 c, I)) (sk_120 _) (show vwCl[12]? = some _ from rfl) rfl (by simp [Value.category]) (by decide) rfl (k2 c2)
set_option maxRecDepth 10000 in
set_option maxHeartbeats 1000000 in
theorem sg_X12_gathers_13 {l : Launch} {d : Nat} {Q : Option Value → mx_H → Prop} {c : Nat} {I : mx_I} (x1 : Int32) (x2 : Int32) (x3 : Int32) (x4 : Int32)
    (q1 : (x4 = 0) → Q (some (.int (-1))) (sk0 c, I))
    (k2 : (¬ x4 = 0) → mx_K1 l mX12_isIn d [.int x3, .int 0, .int 1] (sk0 c, I) (fun r h' => mx_Go l (mx_rm (d + 1) 0 0) mX12_gathers (mx_Z Q 0 0) 0 0 22 [.ref 120, .int x1, .int x2, .int x3, .retAddr 0, .retAddr 0] (r.toList ++ []) h')) :
    mx_Go l (mx_rm (d + 1) 0 0) mX12_gathers (mx_Z Q 0 0) 0 0 13 [.ref 120, .int x1, .int x2, .int x3, .retAddr 0, .retAddr 0] [.int x4] (sk0 c, I) := by
  refine g_if_eq (tgt := 25) dX12_gathers_13 (by decide) (fun c1 => ?_) (fun c2 => ?_)
  · skip
    refine g_iconst (v := (-1)) dX12_gathers_25 (by decide) ?_
    exact g_iret rfl dX12_gathers_26 rfl (Nat.le_refl _) (q1 c1)
  · skip
    refine g_iload_n dX12_gathers_16 rfl rfl ?_
    refine g_iconst (v := 0) dX12_gathers_17 (by decide) ?_
    refine g_iconst (v := 1) dX12_gathers_18 (by decide) ?_
    exact s_callS (M' := mX12_isIn) (As := [.int x3, .int 0, .int 1]) (st := []) dX12_gathers_19 lm_X12_50 okX12_isIn osX12_isIn (by simp [Value.category]) (by decide) rfl (k2 c2)
set_option maxRecDepth 10000 in
set_option maxHeartbeats 1000000 in
theorem sg_X12_gathers_22 {l : Launch} {d : Nat} {Q : Option Value → mx_H → Prop} {c : Nat} {I : mx_I} (x1 : Int32) (x2 : Int32) (x3 : Int32) (x4 : Int32)
    (k1 : (¬ x4 = 0) → mx_K1 l mX12_begins d [.ref 120] (sk0 c, I) (fun r h' => mx_Go l (mx_rm (d + 1) 0 0) mX12_gathers (mx_Z Q 0 0) 0 0 31 [.ref 120, .int x1, .int x2, .int x3, .retAddr 0, .retAddr 0] (r.toList ++ []) h'))
    (q2 : (x4 = 0) → Q (some (.int (-1))) (sk0 c, I)) :
    mx_Go l (mx_rm (d + 1) 0 0) mX12_gathers (mx_Z Q 0 0) 0 0 22 [.ref 120, .int x1, .int x2, .int x3, .retAddr 0, .retAddr 0] [.int x4] (sk0 c, I) := by
  refine g_if_ne (tgt := 27) dX12_gathers_22 (by decide) (fun c1 => ?_) (fun c2 => ?_)
  · skip
    refine g_aload_n dX12_gathers_27 rfl rfl ?_
    exact s_callV (M' := mX12_begins) (As := []) (st := []) dX12_gathers_28 lm_X12_285 ovX12_begins (h := (sk0 c, I)) (sk_120 _) (show vwCl[12]? = some _ from rfl) rfl (by simp [Value.category]) (by decide) rfl (k1 c1)
  · skip
    refine g_iconst (v := (-1)) dX12_gathers_25 (by decide) ?_
    exact g_iret rfl dX12_gathers_26 rfl (Nat.le_refl _) (q2 c2)
set_option maxRecDepth 10000 in
set_option maxHeartbeats 1000000 in
theorem sg_X12_gathers_31 {l : Launch} {d : Nat} {Q : Option Value → mx_H → Prop} {c : Nat} {I : mx_I} (x1 : Int32) (x2 : Int32) (x3 : Int32)
    (e1 : (x2 < (I 121 1)) → mx_Go l (mx_rm (d + 1) 0 0) mX12_gathers (mx_Z Q 0 0) 0 0 54 [.ref 120, .int x1, .int x2, .int x3, .int 0, .int 0] [] (sk0 c, I))
    (k2 : (¬ x2 < (I 121 1)) → mx_K1 l mX12_anHour d [.ref 120] (sk0 c, I) (fun r h' => mx_Go l (mx_rm (d + 1) 0 0) mX12_gathers (mx_Z Q 0 0) 0 0 45 [.ref 120, .int x1, .int x2, .int x3, .retAddr 0, .retAddr 0] (r.toList ++ []) h')) :
    mx_Go l (mx_rm (d + 1) 0 0) mX12_gathers (mx_Z Q 0 0) 0 0 31 [.ref 120, .int x1, .int x2, .int x3, .retAddr 0, .retAddr 0] [] (sk0 c, I) := by
  refine g_aload_n dX12_gathers_31 rfl rfl ?_
  refine rg_X12_0 (r := 121) dX12_gathers_32 lf_X12_7 (sk_120 _) rfl ?_
  refine g_iconst (v := 1) dX12_gathers_35 (by decide) ?_
  refine s_iald (j := 1) (v := (I 121 1)) dX12_gathers_36 (sk_121 _) (by unfold vp_in; decide) (by decide) rfl ?_
  refine g_iload_n dX12_gathers_37 rfl rfl ?_
  refine g_icmp_gt (tgt := 48) dX12_gathers_38 (by decide) (fun c1 => ?_) (fun c2 => ?_)
  · skip
    refine g_iconst (v := 0) dX12_gathers_48 (by decide) ?_
    refine s_istore (L' := [.ref 120, .int x1, .int x2, .int x3, .int 0, .retAddr 0]) dX12_gathers_49 (by decide) rfl rfl ?_
    refine g_iconst (v := 0) dX12_gathers_51 (by decide) ?_
    refine s_istore (L' := [.ref 120, .int x1, .int x2, .int x3, .int 0, .int 0]) dX12_gathers_52 (by decide) rfl rfl ?_
    exact e1 c1
  · skip
    refine g_aload_n dX12_gathers_41 rfl rfl ?_
    exact s_callV (M' := mX12_anHour) (As := []) (st := []) dX12_gathers_42 lm_X12_282 ovX12_anHour (h := (sk0 c, I)) (sk_120 _) (show vwCl[12]? = some _ from rfl) rfl (by simp [Value.category]) (by decide) rfl (k2 c2)
set_option maxRecDepth 10000 in
set_option maxHeartbeats 1000000 in
theorem sg_X12_gathers_54 {l : Launch} {d : Nat} {Q : Option Value → mx_H → Prop} {c : Nat} {I : mx_I} (x1 : Int32) (x2 : Int32) (x3 : Int32) (x4 : Int32) (x5 : Int32)
    (k1 : ((I 121 2) ≤ x5) → mx_K1 l mX12_comesBack d [.ref 120] (sk0 c, I) (fun r h' => mx_Go l (mx_rm (d + 1) 0 0) mX12_gathers (mx_Z Q 0 0) 0 0 105 [.ref 120, .int x1, .int x2, .int x3, .int x4, .int x5] (r.toList ++ []) h'))
    (k2 : (¬ (I 121 2) ≤ x5) → mx_K1 l mX12_isThere d [.ref 120, .int x5, .int x1] (sk0 c, I) (fun r h' => mx_Go l (mx_rm (d + 1) 0 0) mX12_gathers (mx_Z Q 0 0) 0 0 72 [.ref 120, .int x1, .int x2, .int x3, .int x4, .int x5] (r.toList ++ []) h')) :
    mx_Go l (mx_rm (d + 1) 0 0) mX12_gathers (mx_Z Q 0 0) 0 0 54 [.ref 120, .int x1, .int x2, .int x3, .int x4, .int x5] [] (sk0 c, I) := by
  refine g_iload dX12_gathers_54 rfl ?_
  refine g_aload_n dX12_gathers_56 rfl rfl ?_
  refine rg_X12_0 (r := 121) dX12_gathers_57 lf_X12_7 (sk_120 _) rfl ?_
  refine g_iconst (v := 2) dX12_gathers_60 (by decide) ?_
  refine s_iald (j := 2) (v := (I 121 2)) dX12_gathers_61 (sk_121 _) (by unfold vp_in; decide) (by decide) rfl ?_
  refine g_icmp_ge (tgt := 101) dX12_gathers_62 (by decide) (fun c1 => ?_) (fun c2 => ?_)
  · skip
    refine g_aload_n dX12_gathers_101 rfl rfl ?_
    exact s_callV (M' := mX12_comesBack) (As := []) (st := []) dX12_gathers_102 lm_X12_291 ovX12_comesBack (h := (sk0 c, I)) (sk_120 _) (show vwCl[12]? = some _ from rfl) rfl (by simp [Value.category]) (by decide) rfl (k1 c1)
  · skip
    refine g_aload_n dX12_gathers_65 rfl rfl ?_
    refine g_iload dX12_gathers_66 rfl ?_
    refine g_iload_n dX12_gathers_68 rfl rfl ?_
    exact s_callV (M' := mX12_isThere) (As := [.int x5, .int x1]) (st := []) dX12_gathers_69 lm_X12_226 ovX12_isThere (h := (sk0 c, I)) (sk_120 _) (show vwCl[12]? = some _ from rfl) rfl (by simp [Value.category]) (by decide) rfl (k2 c2)
set_option maxRecDepth 10000 in
set_option maxHeartbeats 1000000 in
theorem sg_X12_gathers_45 {l : Launch} {d : Nat} {Q : Option Value → mx_H → Prop} {c : Nat} {I : mx_I} (x1 : Int32) (x2 : Int32) (x3 : Int32)
    (e1 : mx_Go l (mx_rm (d + 1) 0 0) mX12_gathers (mx_Z Q 0 0) 0 0 31 [.ref 120, .int x1, .int x2, .int x3, .retAddr 0, .retAddr 0] [] (sk0 c, I)) :
    mx_Go l (mx_rm (d + 1) 0 0) mX12_gathers (mx_Z Q 0 0) 0 0 45 [.ref 120, .int x1, .int x2, .int x3, .retAddr 0, .retAddr 0] [] (sk0 c, I) := by
  refine g_goto (tgt := 31) dX12_gathers_45 (by decide) ?_
  exact e1
set_option maxRecDepth 10000 in
set_option maxHeartbeats 1000000 in
theorem sg_X12_gathers_105 {l : Launch} {d : Nat} {Q : Option Value → mx_H → Prop} {c : Nat} {I : mx_I} (x1 : Int32) (x2 : Int32) (x3 : Int32) (x4 : Int32) (x5 : Int32)
    (q1 : Q (some (.int x4)) (sk0 c, I)) :
    mx_Go l (mx_rm (d + 1) 0 0) mX12_gathers (mx_Z Q 0 0) 0 0 105 [.ref 120, .int x1, .int x2, .int x3, .int x4, .int x5] [] (sk0 c, I) := by
  refine g_iload dX12_gathers_105 rfl ?_
  exact g_iret rfl dX12_gathers_107 rfl (Nat.le_refl _) (q1)
set_option maxRecDepth 10000 in
set_option maxHeartbeats 1000000 in
theorem sg_X12_gathers_72 {l : Launch} {d : Nat} {Q : Option Value → mx_H → Prop} {c : Nat} {I : mx_I} (x1 : Int32) (x2 : Int32) (x3 : Int32) (x4 : Int32) (x5 : Int32) (x6 : Int32)
    (e1 : (x6 = 0) → mx_Go l (mx_rm (d + 1) 0 0) mX12_gathers (mx_Z Q 0 0) 0 0 54 [.ref 120, .int x1, .int x2, .int x3, .int x4, .int (x5 + 1)] [] (sk0 c, I))
    (k2 : (¬ x6 = 0) → (¬ x3 = 0) → mx_K1 l mX12_ofLoad d [.ref 120, .int x5, .int 0] (sk0 c, I) (fun r h' => mx_Go l (mx_rm (d + 1) 0 0) mX12_gathers (mx_Z Q 0 0) 0 0 92 [.ref 120, .int x1, .int x2, .int x3, .int x4, .int x5] (r.toList ++ [.int x4]) h'))
    (e3 : (¬ x6 = 0) → (x3 = 0) → mx_Go l (mx_rm (d + 1) 0 0) mX12_gathers (mx_Z Q 0 0) 0 0 54 [.ref 120, .int x1, .int x2, .int x3, .int (x4 + 1), .int (x5 + 1)] [] (sk0 c, I)) :
    mx_Go l (mx_rm (d + 1) 0 0) mX12_gathers (mx_Z Q 0 0) 0 0 72 [.ref 120, .int x1, .int x2, .int x3, .int x4, .int x5] [.int x6] (sk0 c, I) := by
  refine g_if_eq (tgt := 95) dX12_gathers_72 (by decide) (fun c1 => ?_) (fun c2 => ?_)
  · skip
    refine s_iinc (v := (x5 + 1)) (L' := [.ref 120, .int x1, .int x2, .int x3, .int x4, .int (x5 + 1)]) dX12_gathers_95 rfl (by decide) rfl rfl rfl ?_
    refine g_goto (tgt := 54) dX12_gathers_98 (by decide) ?_
    exact e1 c1
  · skip
    refine g_iload dX12_gathers_75 rfl ?_
    refine g_iload_n dX12_gathers_77 rfl rfl ?_
    refine g_if_ne (tgt := 85) dX12_gathers_78 (by decide) (fun c3 => ?_) (fun c4 => ?_)
    · skip
      refine g_aload_n dX12_gathers_85 rfl rfl ?_
      refine g_iload dX12_gathers_86 rfl ?_
      refine g_iconst (v := 0) dX12_gathers_88 (by decide) ?_
      exact s_callV (M' := mX12_ofLoad) (As := [.int x5, .int 0]) (st := [.int x4]) dX12_gathers_89 lm_X12_220 ovX12_ofLoad (h := (sk0 c, I)) (sk_120 _) (show vwCl[12]? = some _ from rfl) rfl (by simp [Value.category]) (by decide) rfl (k2 c2 c3)
    · skip
      refine g_iconst (v := 1) dX12_gathers_81 (by decide) ?_
      refine g_goto (tgt := 92) dX12_gathers_82 (by decide) ?_
      refine g_iadd dX12_gathers_92 ?_
      refine s_istore (L' := [.ref 120, .int x1, .int x2, .int x3, .int (x4 + 1), .int x5]) dX12_gathers_93 (by decide) rfl rfl ?_
      refine s_iinc (v := (x5 + 1)) (L' := [.ref 120, .int x1, .int x2, .int x3, .int (x4 + 1), .int (x5 + 1)]) dX12_gathers_95 rfl (by decide) rfl rfl rfl ?_
      refine g_goto (tgt := 54) dX12_gathers_98 (by decide) ?_
      exact e3 c2 c4
set_option maxRecDepth 10000 in
set_option maxHeartbeats 1000000 in
theorem sg_X12_gathers_92 {l : Launch} {d : Nat} {Q : Option Value → mx_H → Prop} {c : Nat} {I : mx_I} (x1 : Int32) (x2 : Int32) (x3 : Int32) (x4 : Int32) (x5 : Int32) (x6 : Int32) (x7 : Int32)
    (e1 : mx_Go l (mx_rm (d + 1) 0 0) mX12_gathers (mx_Z Q 0 0) 0 0 54 [.ref 120, .int x1, .int x2, .int x3, .int (x7 + x6), .int (x5 + 1)] [] (sk0 c, I)) :
    mx_Go l (mx_rm (d + 1) 0 0) mX12_gathers (mx_Z Q 0 0) 0 0 92 [.ref 120, .int x1, .int x2, .int x3, .int x4, .int x5] [.int x6, .int x7] (sk0 c, I) := by
  refine g_iadd dX12_gathers_92 ?_
  refine s_istore (L' := [.ref 120, .int x1, .int x2, .int x3, .int (x7 + x6), .int x5]) dX12_gathers_93 (by decide) rfl rfl ?_
  refine s_iinc (v := (x5 + 1)) (L' := [.ref 120, .int x1, .int x2, .int x3, .int (x7 + x6), .int (x5 + 1)]) dX12_gathers_95 rfl (by decide) rfl rfl rfl ?_
  refine g_goto (tgt := 54) dX12_gathers_98 (by decide) ?_
  exact e1
set_option maxRecDepth 10000 in
set_option maxHeartbeats 1000000 in
theorem sn_X12_areHours {l : Launch} {d : Nat} {Q : Option Value → mx_H → Prop} {c : Nat} {I : mx_I} (a1 : Int32) (a2 : Int32)
    (k1 : mx_K1 l mX12_isIn d [.int a1, .int (I 121 1), .int a2] (sk0 c, I) (fun r h' => mx_Go l (mx_rm (d + 1) 0 0) mX12_areHours (mx_Z Q 0 0) 0 0 11 [.ref 120, .int a1, .int a2] (r.toList ++ []) h')) :
    mx_Spec l mX12_areHours (d + 1) 0 0 [.ref 120, .int a1, .int a2] (sk0 c, I) Q := by
  refine mx_enter rfl (by simp [Value.category]) (Nat.le_of_ble_eq_true rfl) ?_
  change mx_Go l (mx_rm (d + 1) 0 0) mX12_areHours (mx_Z Q 0 0) 0 0 0 [.ref 120, .int a1, .int a2] [] (sk0 c, I)
  refine g_iload_n dX12_areHours_0 rfl rfl ?_
  refine g_aload_n dX12_areHours_1 rfl rfl ?_
  refine rg_X12_0 (r := 121) dX12_areHours_2 lf_X12_7 (sk_120 _) rfl ?_
  refine g_iconst (v := 1) dX12_areHours_5 (by decide) ?_
  refine s_iald (j := 1) (v := (I 121 1)) dX12_areHours_6 (sk_121 _) (by unfold vp_in; decide) (by decide) rfl ?_
  refine g_iload_n dX12_areHours_7 rfl rfl ?_
  exact s_callS (M' := mX12_isIn) (As := [.int a1, .int (I 121 1), .int a2]) (st := []) dX12_areHours_8 lm_X12_50 okX12_isIn osX12_isIn (by simp [Value.category]) (by decide) rfl (k1)
set_option maxRecDepth 10000 in
set_option maxHeartbeats 1000000 in
theorem sg_X12_areHours_11 {l : Launch} {d : Nat} {Q : Option Value → mx_H → Prop} {c : Nat} {I : mx_I} (x1 : Int32) (x2 : Int32) (x3 : Int32)
    (q1 : (x3 = 0) → Q (some (.int 0)) (sk0 c, I))
    (q2 : (¬ x3 = 0) → (167 < x2) → Q (some (.int 0)) (sk0 c, I))
    (q3 : (¬ x3 = 0) → (¬ 167 < x2) → Q (some (.int 1)) (sk0 c, I)) :
    mx_Go l (mx_rm (d + 1) 0 0) mX12_areHours (mx_Z Q 0 0) 0 0 11 [.ref 120, .int x1, .int x2] [.int x3] (sk0 c, I) := by
  refine g_if_eq (tgt := 25) dX12_areHours_11 (by decide) (fun c1 => ?_) (fun c2 => ?_)
  · skip
    refine g_iconst (v := 0) dX12_areHours_25 (by decide) ?_
    exact g_zret (ty := .boolean) rfl rfl dX12_areHours_26 rfl (Nat.le_refl _) (q1 c1)
  · skip
    refine g_iload_n dX12_areHours_14 rfl rfl ?_
    refine g_sipush (v := 167) dX12_areHours_15 (by decide) ?_
    refine g_icmp_gt (tgt := 25) dX12_areHours_18 (by decide) (fun c3 => ?_) (fun c4 => ?_)
    · skip
      refine g_iconst (v := 0) dX12_areHours_25 (by decide) ?_
      exact g_zret (ty := .boolean) rfl rfl dX12_areHours_26 rfl (Nat.le_refl _) (q2 c2 c3)
    · skip
      refine g_iconst (v := 1) dX12_areHours_21 (by decide) ?_
      refine g_goto (tgt := 26) dX12_areHours_22 (by decide) ?_
      exact g_zret (ty := .boolean) rfl rfl dX12_areHours_26 rfl (Nat.le_refl _) (q3 c2 c4)
set_option maxRecDepth 10000 in
set_option maxHeartbeats 1000000 in
theorem sn_X12_best {l : Launch} {d : Nat} {Q : Option Value → mx_H → Prop} {c : Nat} {I : mx_I} (a1 : Int32) (a2 : Int32) (a3 : Int32) (a4 : Int32) (a5 : Int32) (a6 : Int32)
    (k1 : mx_K1 l mX12_isCrossing d [.ref 120, .int a1, .int a2, .int a3] (sk0 c, I) (fun r h' => mx_Go l (mx_rm (d + 1) 0 0) mX12_best (mx_Z Q 0 0) 0 0 7 [.ref 120, .int a1, .int a2, .int a3, .int a4, .int a5, .int a6, .retAddr 0, .retAddr 0, .retAddr 0, .retAddr 0] (r.toList ++ []) h')) :
    mx_Spec l mX12_best (d + 1) 0 0 [.ref 120, .int a1, .int a2, .int a3, .int a4, .int a5, .int a6] (sk0 c, I) Q := by
  refine mx_enter rfl (by simp [Value.category]) (Nat.le_of_ble_eq_true rfl) ?_
  change mx_Go l (mx_rm (d + 1) 0 0) mX12_best (mx_Z Q 0 0) 0 0 0 [.ref 120, .int a1, .int a2, .int a3, .int a4, .int a5, .int a6, .retAddr 0, .retAddr 0, .retAddr 0, .retAddr 0] [] (sk0 c, I)
  refine g_aload_n dX12_best_0 rfl rfl ?_
  refine g_iload_n dX12_best_1 rfl rfl ?_
  refine g_iload_n dX12_best_2 rfl rfl ?_
  refine g_iload_n dX12_best_3 rfl rfl ?_
  exact s_callV (M' := mX12_isCrossing) (As := [.int a1, .int a2, .int a3]) (st := []) dX12_best_4 lm_X12_71 ovX12_isCrossing (h := (sk0 c, I)) (sk_120 _) (show vwCl[12]? = some _ from rfl) rfl (by simp [Value.category]) (by decide) rfl (k1)
set_option maxRecDepth 10000 in
set_option maxHeartbeats 1000000 in
theorem sg_X12_best_7 {l : Launch} {d : Nat} {Q : Option Value → mx_H → Prop} {c : Nat} {I : mx_I} (x1 : Int32) (x2 : Int32) (x3 : Int32) (x4 : Int32) (x5 : Int32) (x6 : Int32) (x7 : Int32)
    (q1 : (x7 = 0) → Q (some (.int (-1))) (sk0 c, I))
    (k2 : (¬ x7 = 0) → mx_K1 l mX12_areHours d [.ref 120, .int x4, .int x5] (sk0 c, I) (fun r h' => mx_Go l (mx_rm (d + 1) 0 0) mX12_best (mx_Z Q 0 0) 0 0 18 [.ref 120, .int x1, .int x2, .int x3, .int x4, .int x5, .int x6, .retAddr 0, .retAddr 0, .retAddr 0, .retAddr 0] (r.toList ++ []) h')) :
    mx_Go l (mx_rm (d + 1) 0 0) mX12_best (mx_Z Q 0 0) 0 0 7 [.ref 120, .int x1, .int x2, .int x3, .int x4, .int x5, .int x6, .retAddr 0, .retAddr 0, .retAddr 0, .retAddr 0] [.int x7] (sk0 c, I) := by
  refine g_if_eq (tgt := 31) dX12_best_7 (by decide) (fun c1 => ?_) (fun c2 => ?_)
  · skip
    refine g_iconst (v := (-1)) dX12_best_31 (by decide) ?_
    exact g_iret rfl dX12_best_32 rfl (Nat.le_refl _) (q1 c1)
  · skip
    refine g_aload_n dX12_best_10 rfl rfl ?_
    refine g_iload dX12_best_11 rfl ?_
    refine g_iload dX12_best_13 rfl ?_
    exact s_callV (M' := mX12_areHours) (As := [.int x4, .int x5]) (st := []) dX12_best_15 lm_X12_294 ovX12_areHours (h := (sk0 c, I)) (sk_120 _) (show vwCl[12]? = some _ from rfl) rfl (by simp [Value.category]) (by decide) rfl (k2 c2)
set_option maxRecDepth 10000 in
set_option maxHeartbeats 1000000 in
theorem sg_X12_best_18 {l : Launch} {d : Nat} {Q : Option Value → mx_H → Prop} {c : Nat} {I : mx_I} (x1 : Int32) (x2 : Int32) (x3 : Int32) (x4 : Int32) (x5 : Int32) (x6 : Int32) (x7 : Int32)
    (q1 : (x7 = 0) → Q (some (.int (-1))) (sk0 c, I))
    (k2 : (¬ x7 = 0) → mx_K1 l mX12_isIn d [.int x6, .int 0, .int 1] (sk0 c, I) (fun r h' => mx_Go l (mx_rm (d + 1) 0 0) mX12_best (mx_Z Q 0 0) 0 0 28 [.ref 120, .int x1, .int x2, .int x3, .int x4, .int x5, .int x6, .retAddr 0, .retAddr 0, .retAddr 0, .retAddr 0] (r.toList ++ []) h')) :
    mx_Go l (mx_rm (d + 1) 0 0) mX12_best (mx_Z Q 0 0) 0 0 18 [.ref 120, .int x1, .int x2, .int x3, .int x4, .int x5, .int x6, .retAddr 0, .retAddr 0, .retAddr 0, .retAddr 0] [.int x7] (sk0 c, I) := by
  refine g_if_eq (tgt := 31) dX12_best_18 (by decide) (fun c1 => ?_) (fun c2 => ?_)
  · skip
    refine g_iconst (v := (-1)) dX12_best_31 (by decide) ?_
    exact g_iret rfl dX12_best_32 rfl (Nat.le_refl _) (q1 c1)
  · skip
    refine g_iload dX12_best_21 rfl ?_
    refine g_iconst (v := 0) dX12_best_23 (by decide) ?_
    refine g_iconst (v := 1) dX12_best_24 (by decide) ?_
    exact s_callS (M' := mX12_isIn) (As := [.int x6, .int 0, .int 1]) (st := []) dX12_best_25 lm_X12_50 okX12_isIn osX12_isIn (by simp [Value.category]) (by decide) rfl (k2 c2)
set_option maxRecDepth 10000 in
set_option maxHeartbeats 1000000 in
theorem sg_X12_best_28 {l : Launch} {d : Nat} {Q : Option Value → mx_H → Prop} {c : Nat} {I : mx_I} (x1 : Int32) (x2 : Int32) (x3 : Int32) (x4 : Int32) (x5 : Int32) (x6 : Int32) (x7 : Int32)
    (k1 : (¬ x7 = 0) → mx_K1 l mX12_begins d [.ref 120] (sk0 c, I) (fun r h' => mx_Go l (mx_rm (d + 1) 0 0) mX12_best (mx_Z Q 0 0) 0 0 43 [.ref 120, .int x1, .int x2, .int x3, .int x4, .int x5, .int x6, .int (-1), .int 0, .retAddr 0, .retAddr 0] (r.toList ++ []) h'))
    (q2 : (x7 = 0) → Q (some (.int (-1))) (sk0 c, I)) :
    mx_Go l (mx_rm (d + 1) 0 0) mX12_best (mx_Z Q 0 0) 0 0 28 [.ref 120, .int x1, .int x2, .int x3, .int x4, .int x5, .int x6, .retAddr 0, .retAddr 0, .retAddr 0, .retAddr 0] [.int x7] (sk0 c, I) := by
  refine g_if_ne (tgt := 33) dX12_best_28 (by decide) (fun c1 => ?_) (fun c2 => ?_)
  · skip
    refine g_iconst (v := (-1)) dX12_best_33 (by decide) ?_
    refine s_istore (L' := [.ref 120, .int x1, .int x2, .int x3, .int x4, .int x5, .int x6, .int (-1), .retAddr 0, .retAddr 0, .retAddr 0]) dX12_best_34 (by decide) rfl rfl ?_
    refine g_iconst (v := 0) dX12_best_36 (by decide) ?_
    refine s_istore (L' := [.ref 120, .int x1, .int x2, .int x3, .int x4, .int x5, .int x6, .int (-1), .int 0, .retAddr 0, .retAddr 0]) dX12_best_37 (by decide) rfl rfl ?_
    refine g_aload_n dX12_best_39 rfl rfl ?_
    exact s_callV (M' := mX12_begins) (As := []) (st := []) dX12_best_40 lm_X12_285 ovX12_begins (h := (sk0 c, I)) (sk_120 _) (show vwCl[12]? = some _ from rfl) rfl (by simp [Value.category]) (by decide) rfl (k1 c1)
  · skip
    refine g_iconst (v := (-1)) dX12_best_31 (by decide) ?_
    exact g_iret rfl dX12_best_32 rfl (Nat.le_refl _) (q2 c2)
set_option maxRecDepth 10000 in
set_option maxHeartbeats 1000000 in
theorem sg_X12_best_43 {l : Launch} {d : Nat} {Q : Option Value → mx_H → Prop} {c : Nat} {I : mx_I} (x1 : Int32) (x2 : Int32) (x3 : Int32) (x4 : Int32) (x5 : Int32) (x6 : Int32) (x7 : Int32) (x8 : Int32)
    (k1 : (x5 < (I 121 1)) → mx_K1 l mX12_comesBack d [.ref 120] (sk0 c, I) (fun r h' => mx_Go l (mx_rm (d + 1) 0 0) mX12_best (mx_Z Q 0 0) 0 0 122 [.ref 120, .int x1, .int x2, .int x3, .int x4, .int x5, .int x6, .int x7, .int x8, .retAddr 0, .retAddr 0] (r.toList ++ []) h'))
    (k2 : (¬ x5 < (I 121 1)) → mx_K1 l mX12_anHour d [.ref 120] (sk0 c, I) (fun r h' => mx_Go l (mx_rm (d + 1) 0 0) mX12_best (mx_Z Q 0 0) 0 0 58 [.ref 120, .int x1, .int x2, .int x3, .int x4, .int x5, .int x6, .int x7, .int x8, .retAddr 0, .retAddr 0] (r.toList ++ []) h')) :
    mx_Go l (mx_rm (d + 1) 0 0) mX12_best (mx_Z Q 0 0) 0 0 43 [.ref 120, .int x1, .int x2, .int x3, .int x4, .int x5, .int x6, .int x7, .int x8, .retAddr 0, .retAddr 0] [] (sk0 c, I) := by
  refine g_aload_n dX12_best_43 rfl rfl ?_
  refine rg_X12_0 (r := 121) dX12_best_44 lf_X12_7 (sk_120 _) rfl ?_
  refine g_iconst (v := 1) dX12_best_47 (by decide) ?_
  refine s_iald (j := 1) (v := (I 121 1)) dX12_best_48 (sk_121 _) (by unfold vp_in; decide) (by decide) rfl ?_
  refine g_iload dX12_best_49 rfl ?_
  refine g_icmp_gt (tgt := 118) dX12_best_51 (by decide) (fun c1 => ?_) (fun c2 => ?_)
  · skip
    refine g_aload_n dX12_best_118 rfl rfl ?_
    exact s_callV (M' := mX12_comesBack) (As := []) (st := []) dX12_best_119 lm_X12_291 ovX12_comesBack (h := (sk0 c, I)) (sk_120 _) (show vwCl[12]? = some _ from rfl) rfl (by simp [Value.category]) (by decide) rfl (k1 c1)
  · skip
    refine g_aload_n dX12_best_54 rfl rfl ?_
    exact s_callV (M' := mX12_anHour) (As := []) (st := []) dX12_best_55 lm_X12_282 ovX12_anHour (h := (sk0 c, I)) (sk_120 _) (show vwCl[12]? = some _ from rfl) rfl (by simp [Value.category]) (by decide) rfl (k2 c2)
set_option maxRecDepth 10000 in
set_option maxHeartbeats 1000000 in
theorem sg_X12_best_122 {l : Launch} {d : Nat} {Q : Option Value → mx_H → Prop} {c : Nat} {I : mx_I} (x1 : Int32) (x2 : Int32) (x3 : Int32) (x4 : Int32) (x5 : Int32) (x6 : Int32) (x7 : Int32) (x8 : Int32)
    (q1 : (¬ x6 = 0) → Q (some (.int x8)) (sk0 c, I))
    (q2 : (x6 = 0) → Q (some (.int x7)) (sk0 c, I)) :
    mx_Go l (mx_rm (d + 1) 0 0) mX12_best (mx_Z Q 0 0) 0 0 122 [.ref 120, .int x1, .int x2, .int x3, .int x4, .int x5, .int x6, .int x7, .int x8, .retAddr 0, .retAddr 0] [] (sk0 c, I) := by
  refine g_iload dX12_best_122 rfl ?_
  refine g_if_ne (tgt := 132) dX12_best_124 (by decide) (fun c1 => ?_) (fun c2 => ?_)
  · skip
    refine g_iload dX12_best_132 rfl ?_
    exact g_iret rfl dX12_best_134 rfl (Nat.le_refl _) (q1 c1)
  · skip
    refine g_iload dX12_best_127 rfl ?_
    refine g_goto (tgt := 134) dX12_best_129 (by decide) ?_
    exact g_iret rfl dX12_best_134 rfl (Nat.le_refl _) (q2 c2)
set_option maxRecDepth 10000 in
set_option maxHeartbeats 1000000 in
theorem sg_X12_best_58 {l : Launch} {d : Nat} {Q : Option Value → mx_H → Prop} {c : Nat} {I : mx_I} (x1 : Int32) (x2 : Int32) (x3 : Int32) (x4 : Int32) (x5 : Int32) (x6 : Int32) (x7 : Int32) (x8 : Int32)
    (k1 : (x4 ≤ ((I 121 1) - 1)) → mx_K1 l mX12_takes d [.ref 120, .int (x1 + x2), .int x3, .int 0, .int ((I 121 1) - 1)] (sk0 c, I) (fun r h' => mx_Go l (mx_rm (d + 1) 0 0) mX12_best (mx_Z Q 0 0) 0 0 89 [.ref 120, .int x1, .int x2, .int x3, .int x4, .int x5, .int x6, .int x7, .int x8, .int ((I 121 1) - 1), .retAddr 0] (r.toList ++ []) h'))
    (e2 : (¬ x4 ≤ ((I 121 1) - 1)) → mx_Go l (mx_rm (d + 1) 0 0) mX12_best (mx_Z Q 0 0) 0 0 43 [.ref 120, .int x1, .int x2, .int x3, .int x4, .int x5, .int x6, .int x7, .int x8, .int ((I 121 1) - 1), .retAddr 0] [] (sk0 c, I)) :
    mx_Go l (mx_rm (d + 1) 0 0) mX12_best (mx_Z Q 0 0) 0 0 58 [.ref 120, .int x1, .int x2, .int x3, .int x4, .int x5, .int x6, .int x7, .int x8, .retAddr 0, .retAddr 0] [] (sk0 c, I) := by
  refine g_aload_n dX12_best_58 rfl rfl ?_
  refine rg_X12_0 (r := 121) dX12_best_59 lf_X12_7 (sk_120 _) rfl ?_
  refine g_iconst (v := 1) dX12_best_62 (by decide) ?_
  refine s_iald (j := 1) (v := (I 121 1)) dX12_best_63 (sk_121 _) (by unfold vp_in; decide) (by decide) rfl ?_
  refine g_iconst (v := 1) dX12_best_64 (by decide) ?_
  refine g_isub dX12_best_65 ?_
  refine s_istore (L' := [.ref 120, .int x1, .int x2, .int x3, .int x4, .int x5, .int x6, .int x7, .int x8, .int ((I 121 1) - 1), .retAddr 0]) dX12_best_66 (by decide) rfl rfl ?_
  refine g_iload dX12_best_68 rfl ?_
  refine g_iload dX12_best_70 rfl ?_
  refine g_icmp_ge (tgt := 78) dX12_best_72 (by decide) (fun c1 => ?_) (fun c2 => ?_)
  · skip
    refine g_aload_n dX12_best_78 rfl rfl ?_
    refine g_iload_n dX12_best_79 rfl rfl ?_
    refine g_iload_n dX12_best_80 rfl rfl ?_
    refine g_iadd dX12_best_81 ?_
    refine g_iload_n dX12_best_82 rfl rfl ?_
    refine g_iconst (v := 0) dX12_best_83 (by decide) ?_
    refine g_iload dX12_best_84 rfl ?_
    exact s_callV (M' := mX12_takes) (As := [.int (x1 + x2), .int x3, .int 0, .int ((I 121 1) - 1)]) (st := []) dX12_best_86 lm_X12_257 ovX12_takes (h := (sk0 c, I)) (sk_120 _) (show vwCl[12]? = some _ from rfl) rfl (by simp [Value.category]) (by decide) rfl (k1 c1)
  · skip
    refine g_goto (tgt := 43) dX12_best_75 (by decide) ?_
    exact e2 c2
set_option maxRecDepth 10000 in
set_option maxHeartbeats 1000000 in
theorem sg_X12_best_89 {l : Launch} {d : Nat} {Q : Option Value → mx_H → Prop} {c : Nat} {I : mx_I} (x1 : Int32) (x2 : Int32) (x3 : Int32) (x4 : Int32) (x5 : Int32) (x6 : Int32) (x7 : Int32) (x8 : Int32) (x9 : Int32) (x10 : Int32)
    (e1 : (x7 = (-1)) → mx_Go l (mx_rm (d + 1) 0 0) mX12_best (mx_Z Q 0 0) 0 0 43 [.ref 120, .int x1, .int x2, .int x3, .int x4, .int x5, .int x6, .int x9, .int x10, .int x9, .int x10] [] (sk0 c, I))
    (e2 : (¬ x7 = (-1)) → (x10 < x8) → mx_Go l (mx_rm (d + 1) 0 0) mX12_best (mx_Z Q 0 0) 0 0 43 [.ref 120, .int x1, .int x2, .int x3, .int x4, .int x5, .int x6, .int x9, .int x10, .int x9, .int x10] [] (sk0 c, I))
    (e3 : (¬ x7 = (-1)) → (¬ x10 < x8) → mx_Go l (mx_rm (d + 1) 0 0) mX12_best (mx_Z Q 0 0) 0 0 43 [.ref 120, .int x1, .int x2, .int x3, .int x4, .int x5, .int x6, .int x7, .int x8, .int x9, .int x10] [] (sk0 c, I)) :
    mx_Go l (mx_rm (d + 1) 0 0) mX12_best (mx_Z Q 0 0) 0 0 89 [.ref 120, .int x1, .int x2, .int x3, .int x4, .int x5, .int x6, .int x7, .int x8, .int x9, .retAddr 0] [.int x10] (sk0 c, I) := by
  refine s_istore (L' := [.ref 120, .int x1, .int x2, .int x3, .int x4, .int x5, .int x6, .int x7, .int x8, .int x9, .int x10]) dX12_best_89 (by decide) rfl rfl ?_
  refine g_iload dX12_best_91 rfl ?_
  refine g_iconst (v := (-1)) dX12_best_93 (by decide) ?_
  refine g_icmp_eq (tgt := 107) dX12_best_94 (by decide) (fun c1 => ?_) (fun c2 => ?_)
  · skip
    refine g_iload dX12_best_107 rfl ?_
    refine s_istore (L' := [.ref 120, .int x1, .int x2, .int x3, .int x4, .int x5, .int x6, .int x9, .int x8, .int x9, .int x10]) dX12_best_109 (by decide) rfl rfl ?_
    refine g_iload dX12_best_111 rfl ?_
    refine s_istore (L' := [.ref 120, .int x1, .int x2, .int x3, .int x4, .int x5, .int x6, .int x9, .int x10, .int x9, .int x10]) dX12_best_113 (by decide) rfl rfl ?_
    refine g_goto (tgt := 43) dX12_best_115 (by decide) ?_
    exact e1 c1
  · skip
    refine g_iload dX12_best_97 rfl ?_
    refine g_iload dX12_best_99 rfl ?_
    refine g_icmp_lt (tgt := 107) dX12_best_101 (by decide) (fun c3 => ?_) (fun c4 => ?_)
    · skip
      refine g_iload dX12_best_107 rfl ?_
      refine s_istore (L' := [.ref 120, .int x1, .int x2, .int x3, .int x4, .int x5, .int x6, .int x9, .int x8, .int x9, .int x10]) dX12_best_109 (by decide) rfl rfl ?_
      refine g_iload dX12_best_111 rfl ?_
      refine s_istore (L' := [.ref 120, .int x1, .int x2, .int x3, .int x4, .int x5, .int x6, .int x9, .int x10, .int x9, .int x10]) dX12_best_113 (by decide) rfl rfl ?_
      refine g_goto (tgt := 43) dX12_best_115 (by decide) ?_
      exact e2 c2 c3
    · skip
      refine g_goto (tgt := 43) dX12_best_104 (by decide) ?_
      exact e3 c2 c4
set_option maxRecDepth 10000 in
set_option maxHeartbeats 1000000 in
theorem sn_X12_send {l : Launch} {d : Nat} {Q : Option Value → mx_H → Prop} {c : Nat} {I : mx_I} (a1 : Int32) (a2 : Int32) (a3 : Int32) (a4 : Int32) (a5 : Int32) (a6 : Int32)
    (k1 : mx_K1 l mX12_isIn d [.int a1, .int 1, .int 99] (sk0 c, I) (fun r h' => mx_Go l (mx_rm (d + 1) 0 0) mX12_send (mx_Z Q 0 0) 0 0 7 [.ref 120, .int a1, .int a2, .int a3, .int a4, .int a5, .int a6, .retAddr 0, .retAddr 0, .retAddr 0, .retAddr 0] (r.toList ++ []) h')) :
    mx_Spec l mX12_send (d + 1) 0 0 [.ref 120, .int a1, .int a2, .int a3, .int a4, .int a5, .int a6] (sk0 c, I) Q := by
  refine mx_enter rfl (by simp [Value.category]) (Nat.le_of_ble_eq_true rfl) ?_
  change mx_Go l (mx_rm (d + 1) 0 0) mX12_send (mx_Z Q 0 0) 0 0 0 [.ref 120, .int a1, .int a2, .int a3, .int a4, .int a5, .int a6, .retAddr 0, .retAddr 0, .retAddr 0, .retAddr 0] [] (sk0 c, I)
  refine g_iload_n dX12_send_0 rfl rfl ?_
  refine g_iconst (v := 1) dX12_send_1 (by decide) ?_
  refine g_bipush (v := 99) dX12_send_2 (by decide) ?_
  exact s_callS (M' := mX12_isIn) (As := [.int a1, .int 1, .int 99]) (st := []) dX12_send_4 lm_X12_50 okX12_isIn osX12_isIn (by simp [Value.category]) (by decide) rfl (k1)
set_option maxRecDepth 10000 in
set_option maxHeartbeats 1000000 in
theorem sg_X12_send_7 {l : Launch} {d : Nat} {Q : Option Value → mx_H → Prop} {c : Nat} {I : mx_I} (x1 : Int32) (x2 : Int32) (x3 : Int32) (x4 : Int32) (x5 : Int32) (x6 : Int32) (x7 : Int32)
    (q1 : (x7 = 0) → Q (some (.int (-1))) (sk0 c, I))
    (k2 : (¬ x7 = 0) → mx_K1 l mX12_isEnd d [.ref 120, .int x2] (sk0 c, I) (fun r h' => mx_Go l (mx_rm (d + 1) 0 0) mX12_send (mx_Z Q 0 0) 0 0 15 [.ref 120, .int x1, .int x2, .int x3, .int x4, .int x5, .int x6, .retAddr 0, .retAddr 0, .retAddr 0, .retAddr 0] (r.toList ++ []) h')) :
    mx_Go l (mx_rm (d + 1) 0 0) mX12_send (mx_Z Q 0 0) 0 0 7 [.ref 120, .int x1, .int x2, .int x3, .int x4, .int x5, .int x6, .retAddr 0, .retAddr 0, .retAddr 0, .retAddr 0] [.int x7] (sk0 c, I) := by
  refine g_if_eq (tgt := 63) dX12_send_7 (by decide) (fun c1 => ?_) (fun c2 => ?_)
  · skip
    refine g_iconst (v := (-1)) dX12_send_63 (by decide) ?_
    exact g_iret rfl dX12_send_64 rfl (Nat.le_refl _) (q1 c1)
  · skip
    refine g_aload_n dX12_send_10 rfl rfl ?_
    refine g_iload_n dX12_send_11 rfl rfl ?_
    exact s_callV (M' := mX12_isEnd) (As := [.int x2]) (st := []) dX12_send_12 lm_X12_58 ovX12_isEnd (h := (sk0 c, I)) (sk_120 _) (show vwCl[12]? = some _ from rfl) rfl (by simp [Value.category]) (by decide) rfl (k2 c2)
set_option maxRecDepth 10000 in
set_option maxHeartbeats 1000000 in
theorem sg_X12_send_15 {l : Launch} {d : Nat} {Q : Option Value → mx_H → Prop} {c : Nat} {I : mx_I} (x1 : Int32) (x2 : Int32) (x3 : Int32) (x4 : Int32) (x5 : Int32) (x6 : Int32) (x7 : Int32)
    (q1 : (x7 = 0) → Q (some (.int (-1))) (sk0 c, I))
    (k2 : (¬ x7 = 0) → mx_K1 l mX12_isEnd d [.ref 120, .int x3] (sk0 c, I) (fun r h' => mx_Go l (mx_rm (d + 1) 0 0) mX12_send (mx_Z Q 0 0) 0 0 23 [.ref 120, .int x1, .int x2, .int x3, .int x4, .int x5, .int x6, .retAddr 0, .retAddr 0, .retAddr 0, .retAddr 0] (r.toList ++ []) h')) :
    mx_Go l (mx_rm (d + 1) 0 0) mX12_send (mx_Z Q 0 0) 0 0 15 [.ref 120, .int x1, .int x2, .int x3, .int x4, .int x5, .int x6, .retAddr 0, .retAddr 0, .retAddr 0, .retAddr 0] [.int x7] (sk0 c, I) := by
  refine g_if_eq (tgt := 63) dX12_send_15 (by decide) (fun c1 => ?_) (fun c2 => ?_)
  · skip
    refine g_iconst (v := (-1)) dX12_send_63 (by decide) ?_
    exact g_iret rfl dX12_send_64 rfl (Nat.le_refl _) (q1 c1)
  · skip
    refine g_aload_n dX12_send_18 rfl rfl ?_
    refine g_iload_n dX12_send_19 rfl rfl ?_
    exact s_callV (M' := mX12_isEnd) (As := [.int x3]) (st := []) dX12_send_20 lm_X12_58 ovX12_isEnd (h := (sk0 c, I)) (sk_120 _) (show vwCl[12]? = some _ from rfl) rfl (by simp [Value.category]) (by decide) rfl (k2 c2)
set_option maxRecDepth 10000 in
set_option maxHeartbeats 1000000 in
theorem sg_X12_send_23 {l : Launch} {d : Nat} {Q : Option Value → mx_H → Prop} {c : Nat} {I : mx_I} (x1 : Int32) (x2 : Int32) (x3 : Int32) (x4 : Int32) (x5 : Int32) (x6 : Int32) (x7 : Int32)
    (q1 : (x7 = 0) → Q (some (.int (-1))) (sk0 c, I))
    (q2 : (¬ x7 = 0) → (x2 = x3) → Q (some (.int (-1))) (sk0 c, I))
    (q3 : (¬ x7 = 0) → (¬ x2 = x3) → ((I 121 2) = 30) → Q (some (.int (-1))) (sk0 c, I))
    (k4 : (¬ x7 = 0) → (¬ x2 = x3) → (¬ (I 121 2) = 30) → mx_K1 l mX12_areHours d [.ref 120, .int x4, .int x5] (sk0 c, I) (fun r h' => mx_Go l (mx_rm (d + 1) 0 0) mX12_send (mx_Z Q 0 0) 0 0 50 [.ref 120, .int x1, .int x2, .int x3, .int x4, .int x5, .int x6, .retAddr 0, .retAddr 0, .retAddr 0, .retAddr 0] (r.toList ++ []) h')) :
    mx_Go l (mx_rm (d + 1) 0 0) mX12_send (mx_Z Q 0 0) 0 0 23 [.ref 120, .int x1, .int x2, .int x3, .int x4, .int x5, .int x6, .retAddr 0, .retAddr 0, .retAddr 0, .retAddr 0] [.int x7] (sk0 c, I) := by
  refine g_if_eq (tgt := 63) dX12_send_23 (by decide) (fun c1 => ?_) (fun c2 => ?_)
  · skip
    refine g_iconst (v := (-1)) dX12_send_63 (by decide) ?_
    exact g_iret rfl dX12_send_64 rfl (Nat.le_refl _) (q1 c1)
  · skip
    refine g_iload_n dX12_send_26 rfl rfl ?_
    refine g_iload_n dX12_send_27 rfl rfl ?_
    refine g_icmp_eq (tgt := 63) dX12_send_28 (by decide) (fun c3 => ?_) (fun c4 => ?_)
    · skip
      refine g_iconst (v := (-1)) dX12_send_63 (by decide) ?_
      exact g_iret rfl dX12_send_64 rfl (Nat.le_refl _) (q2 c2 c3)
    · skip
      refine g_aload_n dX12_send_31 rfl rfl ?_
      refine rg_X12_0 (r := 121) dX12_send_32 lf_X12_7 (sk_120 _) rfl ?_
      refine g_iconst (v := 2) dX12_send_35 (by decide) ?_
      refine s_iald (j := 2) (v := (I 121 2)) dX12_send_36 (sk_121 _) (by unfold vp_in; decide) (by decide) rfl ?_
      refine g_bipush (v := 30) dX12_send_37 (by decide) ?_
      refine g_icmp_eq (tgt := 63) dX12_send_39 (by decide) (fun c5 => ?_) (fun c6 => ?_)
      · skip
        refine g_iconst (v := (-1)) dX12_send_63 (by decide) ?_
        exact g_iret rfl dX12_send_64 rfl (Nat.le_refl _) (q3 c2 c4 c5)
      · skip
        refine g_aload_n dX12_send_42 rfl rfl ?_
        refine g_iload dX12_send_43 rfl ?_
        refine g_iload dX12_send_45 rfl ?_
        exact s_callV (M' := mX12_areHours) (As := [.int x4, .int x5]) (st := []) dX12_send_47 lm_X12_294 ovX12_areHours (h := (sk0 c, I)) (sk_120 _) (show vwCl[12]? = some _ from rfl) rfl (by simp [Value.category]) (by decide) rfl (k4 c2 c4 c6)
set_option maxRecDepth 10000 in
set_option maxHeartbeats 1000000 in
theorem sg_X12_send_50 {l : Launch} {d : Nat} {Q : Option Value → mx_H → Prop} {c : Nat} {I : mx_I} (x1 : Int32) (x2 : Int32) (x3 : Int32) (x4 : Int32) (x5 : Int32) (x6 : Int32) (x7 : Int32)
    (q1 : (x7 = 0) → Q (some (.int (-1))) (sk0 c, I))
    (k2 : (¬ x7 = 0) → mx_K1 l mX12_isIn d [.int x6, .int 0, .int 1] (sk0 c, I) (fun r h' => mx_Go l (mx_rm (d + 1) 0 0) mX12_send (mx_Z Q 0 0) 0 0 60 [.ref 120, .int x1, .int x2, .int x3, .int x4, .int x5, .int x6, .retAddr 0, .retAddr 0, .retAddr 0, .retAddr 0] (r.toList ++ []) h')) :
    mx_Go l (mx_rm (d + 1) 0 0) mX12_send (mx_Z Q 0 0) 0 0 50 [.ref 120, .int x1, .int x2, .int x3, .int x4, .int x5, .int x6, .retAddr 0, .retAddr 0, .retAddr 0, .retAddr 0] [.int x7] (sk0 c, I) := by
  refine g_if_eq (tgt := 63) dX12_send_50 (by decide) (fun c1 => ?_) (fun c2 => ?_)
  · skip
    refine g_iconst (v := (-1)) dX12_send_63 (by decide) ?_
    exact g_iret rfl dX12_send_64 rfl (Nat.le_refl _) (q1 c1)
  · skip
    refine g_iload dX12_send_53 rfl ?_
    refine g_iconst (v := 0) dX12_send_55 (by decide) ?_
    refine g_iconst (v := 1) dX12_send_56 (by decide) ?_
    exact s_callS (M' := mX12_isIn) (As := [.int x6, .int 0, .int 1]) (st := []) dX12_send_57 lm_X12_50 okX12_isIn osX12_isIn (by simp [Value.category]) (by decide) rfl (k2 c2)
set_option maxRecDepth 10000 in
set_option maxHeartbeats 1000000 in
theorem sg_X12_send_60 {l : Launch} {d : Nat} {Q : Option Value → mx_H → Prop} {c : Nat} {I : mx_I} (x1 : Int32) (x2 : Int32) (x3 : Int32) (x4 : Int32) (x5 : Int32) (x6 : Int32) (x7 : Int32)
    (e1 : (¬ x7 = 0) → mx_Go l (mx_rm (d + 1) 0 0) mX12_send (mx_Z Q 0 0) 0 0 75 [.ref 120, .int x1, .int x2, .int x3, .int x4, .int x5, .int x6, .int (-1), .int (-1), .int x4, .retAddr 0] [] (sk0 c, I))
    (q2 : (x7 = 0) → Q (some (.int (-1))) (sk0 c, I)) :
    mx_Go l (mx_rm (d + 1) 0 0) mX12_send (mx_Z Q 0 0) 0 0 60 [.ref 120, .int x1, .int x2, .int x3, .int x4, .int x5, .int x6, .retAddr 0, .retAddr 0, .retAddr 0, .retAddr 0] [.int x7] (sk0 c, I) := by
  refine g_if_ne (tgt := 65) dX12_send_60 (by decide) (fun c1 => ?_) (fun c2 => ?_)
  · skip
    refine g_iconst (v := (-1)) dX12_send_65 (by decide) ?_
    refine s_istore (L' := [.ref 120, .int x1, .int x2, .int x3, .int x4, .int x5, .int x6, .int (-1), .retAddr 0, .retAddr 0, .retAddr 0]) dX12_send_66 (by decide) rfl rfl ?_
    refine g_iconst (v := (-1)) dX12_send_68 (by decide) ?_
    refine s_istore (L' := [.ref 120, .int x1, .int x2, .int x3, .int x4, .int x5, .int x6, .int (-1), .int (-1), .retAddr 0, .retAddr 0]) dX12_send_69 (by decide) rfl rfl ?_
    refine g_iload dX12_send_71 rfl ?_
    refine s_istore (L' := [.ref 120, .int x1, .int x2, .int x3, .int x4, .int x5, .int x6, .int (-1), .int (-1), .int x4, .retAddr 0]) dX12_send_73 (by decide) rfl rfl ?_
    exact e1 c1
  · skip
    refine g_iconst (v := (-1)) dX12_send_63 (by decide) ?_
    exact g_iret rfl dX12_send_64 rfl (Nat.le_refl _) (q2 c2)
set_option maxRecDepth 10000 in
set_option maxHeartbeats 1000000 in
theorem sg_X12_send_75 {l : Launch} {d : Nat} {Q : Option Value → mx_H → Prop} {c : Nat} {I : mx_I} (x1 : Int32) (x2 : Int32) (x3 : Int32) (x4 : Int32) (x5 : Int32) (x6 : Int32) (x7 : Int32) (x8 : Int32) (x9 : Int32)
    (q1 : (x5 < x9) → (¬ x6 = 0) → Q (some (.int x8)) (sk0 c, I))
    (q2 : (x5 < x9) → (x6 = 0) → Q (some (.int x7)) (sk0 c, I))
    (k3 : (¬ x5 < x9) → mx_K1 l mX12_begins d [.ref 120] (sk0 c, I) (fun r h' => mx_Go l (mx_rm (d + 1) 0 0) mX12_send (mx_Z Q 0 0) 0 0 86 [.ref 120, .int x1, .int x2, .int x3, .int x4, .int x5, .int x6, .int x7, .int x8, .int x9, .retAddr 0] (r.toList ++ []) h')) :
    mx_Go l (mx_rm (d + 1) 0 0) mX12_send (mx_Z Q 0 0) 0 0 75 [.ref 120, .int x1, .int x2, .int x3, .int x4, .int x5, .int x6, .int x7, .int x8, .int x9, .retAddr 0] [] (sk0 c, I) := by
  refine g_iload dX12_send_75 rfl ?_
  refine g_iload dX12_send_77 rfl ?_
  refine g_icmp_gt (tgt := 178) dX12_send_79 (by decide) (fun c1 => ?_) (fun c2 => ?_)
  · skip
    refine g_iload dX12_send_178 rfl ?_
    refine g_if_ne (tgt := 188) dX12_send_180 (by decide) (fun c3 => ?_) (fun c4 => ?_)
    · skip
      refine g_iload dX12_send_188 rfl ?_
      exact g_iret rfl dX12_send_190 rfl (Nat.le_refl _) (q1 c1 c3)
    · skip
      refine g_iload dX12_send_183 rfl ?_
      refine g_goto (tgt := 190) dX12_send_185 (by decide) ?_
      exact g_iret rfl dX12_send_190 rfl (Nat.le_refl _) (q2 c1 c4)
  · skip
    refine g_aload_n dX12_send_82 rfl rfl ?_
    exact s_callV (M' := mX12_begins) (As := []) (st := []) dX12_send_83 lm_X12_285 ovX12_begins (h := (sk0 c, I)) (sk_120 _) (show vwCl[12]? = some _ from rfl) rfl (by simp [Value.category]) (by decide) rfl (k3 c2)
set_option maxRecDepth 10000 in
set_option maxHeartbeats 1000000 in
theorem sg_X12_send_86 {l : Launch} {d : Nat} {Q : Option Value → mx_H → Prop} {c : Nat} {I : mx_I} (x1 : Int32) (x2 : Int32) (x3 : Int32) (x4 : Int32) (x5 : Int32) (x6 : Int32) (x7 : Int32) (x8 : Int32) (x9 : Int32)
    (k1 : mx_K1 l mX12_watches d [.ref 120, .int (I 121 2), .int x3] (sk0 c, I) (fun r h' => mx_Go l (mx_rm (d + 1) 0 0) mX12_send (mx_Z Q 0 0) 0 0 97 [.ref 120, .int x1, .int x2, .int x3, .int x4, .int x5, .int x6, .int x7, .int x8, .int x9, .retAddr 0] (r.toList ++ []) h')) :
    mx_Go l (mx_rm (d + 1) 0 0) mX12_send (mx_Z Q 0 0) 0 0 86 [.ref 120, .int x1, .int x2, .int x3, .int x4, .int x5, .int x6, .int x7, .int x8, .int x9, .retAddr 0] [] (sk0 c, I) := by
  refine g_aload_n dX12_send_86 rfl rfl ?_
  refine g_aload_n dX12_send_87 rfl rfl ?_
  refine rg_X12_0 (r := 121) dX12_send_88 lf_X12_7 (sk_120 _) rfl ?_
  refine g_iconst (v := 2) dX12_send_91 (by decide) ?_
  refine s_iald (j := 2) (v := (I 121 2)) dX12_send_92 (sk_121 _) (by unfold vp_in; decide) (by decide) rfl ?_
  refine g_iload_n dX12_send_93 rfl rfl ?_
  exact s_callV (M' := mX12_watches) (As := [.int (I 121 2), .int x3]) (st := []) dX12_send_94 lm_X12_288 ovX12_watches (h := (sk0 c, I)) (sk_120 _) (show vwCl[12]? = some _ from rfl) rfl (by simp [Value.category]) (by decide) rfl (k1)
set_option maxRecDepth 10000 in
set_option maxHeartbeats 1000000 in
theorem sg_X12_send_97 {l : Launch} {d : Nat} {Q : Option Value → mx_H → Prop} {c : Nat} {I : mx_I} (x1 : Int32) (x2 : Int32) (x3 : Int32) (x4 : Int32) (x5 : Int32) (x6 : Int32) (x7 : Int32) (x8 : Int32) (x9 : Int32)
    (k1 : mx_K1 l mX12_newLoad d [.ref 120, .int x1, .int x2, .int x9] (sk0 c, I) (fun r h' => mx_Go l (mx_rm (d + 1) 0 0) mX12_send (mx_Z Q 0 0) 0 0 105 [.ref 120, .int x1, .int x2, .int x3, .int x4, .int x5, .int x6, .int x7, .int x8, .int x9, .retAddr 0] (r.toList ++ []) h')) :
    mx_Go l (mx_rm (d + 1) 0 0) mX12_send (mx_Z Q 0 0) 0 0 97 [.ref 120, .int x1, .int x2, .int x3, .int x4, .int x5, .int x6, .int x7, .int x8, .int x9, .retAddr 0] [] (sk0 c, I) := by
  refine g_aload_n dX12_send_97 rfl rfl ?_
  refine g_iload_n dX12_send_98 rfl rfl ?_
  refine g_iload_n dX12_send_99 rfl rfl ?_
  refine g_iload dX12_send_100 rfl ?_
  exact s_callV (M' := mX12_newLoad) (As := [.int x1, .int x2, .int x9]) (st := []) dX12_send_102 lm_X12_65 ovX12_newLoad (h := (sk0 c, I)) (sk_120 _) (show vwCl[12]? = some _ from rfl) rfl (by simp [Value.category]) (by decide) rfl (k1)
set_option maxRecDepth 10000 in
set_option maxHeartbeats 1000000 in
theorem sg_X12_send_105 {l : Launch} {d : Nat} {Q : Option Value → mx_H → Prop} {c : Nat} {I : mx_I} (x1 : Int32) (x2 : Int32) (x3 : Int32) (x4 : Int32) (x5 : Int32) (x6 : Int32) (x7 : Int32) (x8 : Int32) (x9 : Int32)
    (k1 : (167 < (I 121 1)) → mx_K1 l mX12_comesBack d [.ref 120] (sk0 c, I) (fun r h' => mx_Go l (mx_rm (d + 1) 0 0) mX12_send (mx_Z Q 0 0) 0 0 142 [.ref 120, .int x1, .int x2, .int x3, .int x4, .int x5, .int x6, .int x7, .int x8, .int x9, .int (I 120 24)] (r.toList ++ []) h'))
    (k2 : (¬ 167 < (I 121 1)) → (¬ (I 120 24) = (-1)) → mx_K1 l mX12_comesBack d [.ref 120] (sk0 c, I) (fun r h' => mx_Go l (mx_rm (d + 1) 0 0) mX12_send (mx_Z Q 0 0) 0 0 142 [.ref 120, .int x1, .int x2, .int x3, .int x4, .int x5, .int x6, .int x7, .int x8, .int x9, .int (I 120 24)] (r.toList ++ []) h'))
    (k3 : (¬ 167 < (I 121 1)) → ((I 120 24) = (-1)) → mx_K1 l mX12_anHour d [.ref 120] (sk0 c, I) (fun r h' => mx_Go l (mx_rm (d + 1) 0 0) mX12_send (mx_Z Q 0 0) 0 0 129 [.ref 120, .int x1, .int x2, .int x3, .int x4, .int x5, .int x6, .int x7, .int x8, .int x9, .retAddr 0] (r.toList ++ []) h')) :
    mx_Go l (mx_rm (d + 1) 0 0) mX12_send (mx_Z Q 0 0) 0 0 105 [.ref 120, .int x1, .int x2, .int x3, .int x4, .int x5, .int x6, .int x7, .int x8, .int x9, .retAddr 0] [] (sk0 c, I) := by
  refine g_aload_n dX12_send_105 rfl rfl ?_
  refine rg_X12_0 (r := 121) dX12_send_106 lf_X12_7 (sk_120 _) rfl ?_
  refine g_iconst (v := 1) dX12_send_109 (by decide) ?_
  refine s_iald (j := 1) (v := (I 121 1)) dX12_send_110 (sk_121 _) (by unfold vp_in; decide) (by decide) rfl ?_
  refine g_sipush (v := 167) dX12_send_111 (by decide) ?_
  refine g_icmp_gt (tgt := 132) dX12_send_114 (by decide) (fun c1 => ?_) (fun c2 => ?_)
  · skip
    refine g_aload_n dX12_send_132 rfl rfl ?_
    refine rg_X12_24 (v := (I 120 24)) dX12_send_133 lf_X12_217 (sk_120 _) rfl ?_
    refine s_istore (L' := [.ref 120, .int x1, .int x2, .int x3, .int x4, .int x5, .int x6, .int x7, .int x8, .int x9, .int (I 120 24)]) dX12_send_136 (by decide) rfl rfl ?_
    refine g_aload_n dX12_send_138 rfl rfl ?_
    exact s_callV (M' := mX12_comesBack) (As := []) (st := []) dX12_send_139 lm_X12_291 ovX12_comesBack (h := (sk0 c, I)) (sk_120 _) (show vwCl[12]? = some _ from rfl) rfl (by simp [Value.category]) (by decide) rfl (k1 c1)
  · skip
    refine g_aload_n dX12_send_117 rfl rfl ?_
    refine rg_X12_24 (v := (I 120 24)) dX12_send_118 lf_X12_217 (sk_120 _) rfl ?_
    refine g_iconst (v := (-1)) dX12_send_121 (by decide) ?_
    refine g_icmp_ne (tgt := 132) dX12_send_122 (by decide) (fun c3 => ?_) (fun c4 => ?_)
    · skip
      refine g_aload_n dX12_send_132 rfl rfl ?_
      refine rg_X12_24 (v := (I 120 24)) dX12_send_133 lf_X12_217 (sk_120 _) rfl ?_
      refine s_istore (L' := [.ref 120, .int x1, .int x2, .int x3, .int x4, .int x5, .int x6, .int x7, .int x8, .int x9, .int (I 120 24)]) dX12_send_136 (by decide) rfl rfl ?_
      refine g_aload_n dX12_send_138 rfl rfl ?_
      exact s_callV (M' := mX12_comesBack) (As := []) (st := []) dX12_send_139 lm_X12_291 ovX12_comesBack (h := (sk0 c, I)) (sk_120 _) (show vwCl[12]? = some _ from rfl) rfl (by simp [Value.category]) (by decide) rfl (k2 c2 c3)
    · skip
      refine g_aload_n dX12_send_125 rfl rfl ?_
      exact s_callV (M' := mX12_anHour) (As := []) (st := []) dX12_send_126 lm_X12_282 ovX12_anHour (h := (sk0 c, I)) (sk_120 _) (show vwCl[12]? = some _ from rfl) rfl (by simp [Value.category]) (by decide) rfl (k3 c2 c4)
set_option maxRecDepth 10000 in
set_option maxHeartbeats 1000000 in
theorem sg_X12_send_142 {l : Launch} {d : Nat} {Q : Option Value → mx_H → Prop} {c : Nat} {I : mx_I} (x1 : Int32) (x2 : Int32) (x3 : Int32) (x4 : Int32) (x5 : Int32) (x6 : Int32) (x7 : Int32) (x8 : Int32) (x9 : Int32) (x10 : Int32)
    (e1 : (x10 = (-1)) → mx_Go l (mx_rm (d + 1) 0 0) mX12_send (mx_Z Q 0 0) 0 0 75 [.ref 120, .int x1, .int x2, .int x3, .int x4, .int x5, .int x6, .int x7, .int x8, .int (x9 + 1), .int x10] [] (sk0 c, I))
    (e2 : (¬ x10 = (-1)) → (x8 = (-1)) → mx_Go l (mx_rm (d + 1) 0 0) mX12_send (mx_Z Q 0 0) 0 0 75 [.ref 120, .int x1, .int x2, .int x3, .int x4, .int x5, .int x6, .int x9, .int x10, .int (x9 + 1), .int x10] [] (sk0 c, I))
    (e3 : (¬ x10 = (-1)) → (¬ x8 = (-1)) → (x10 ≤ x8) → mx_Go l (mx_rm (d + 1) 0 0) mX12_send (mx_Z Q 0 0) 0 0 75 [.ref 120, .int x1, .int x2, .int x3, .int x4, .int x5, .int x6, .int x9, .int x10, .int (x9 + 1), .int x10] [] (sk0 c, I))
    (e4 : (¬ x10 = (-1)) → (¬ x8 = (-1)) → (¬ x10 ≤ x8) → mx_Go l (mx_rm (d + 1) 0 0) mX12_send (mx_Z Q 0 0) 0 0 75 [.ref 120, .int x1, .int x2, .int x3, .int x4, .int x5, .int x6, .int x7, .int x8, .int (x9 + 1), .int x10] [] (sk0 c, I)) :
    mx_Go l (mx_rm (d + 1) 0 0) mX12_send (mx_Z Q 0 0) 0 0 142 [.ref 120, .int x1, .int x2, .int x3, .int x4, .int x5, .int x6, .int x7, .int x8, .int x9, .int x10] [] (sk0 c, I) := by
  refine g_iload dX12_send_142 rfl ?_
  refine g_iconst (v := (-1)) dX12_send_144 (by decide) ?_
  refine g_icmp_eq (tgt := 172) dX12_send_145 (by decide) (fun c1 => ?_) (fun c2 => ?_)
  · skip
    refine s_iinc (v := (x9 + 1)) (L' := [.ref 120, .int x1, .int x2, .int x3, .int x4, .int x5, .int x6, .int x7, .int x8, .int (x9 + 1), .int x10]) dX12_send_172 rfl (by decide) rfl rfl rfl ?_
    refine g_goto (tgt := 75) dX12_send_175 (by decide) ?_
    exact e1 c1
  · skip
    refine g_iload dX12_send_148 rfl ?_
    refine g_iconst (v := (-1)) dX12_send_150 (by decide) ?_
    refine g_icmp_eq (tgt := 164) dX12_send_151 (by decide) (fun c3 => ?_) (fun c4 => ?_)
    · skip
      refine g_iload dX12_send_164 rfl ?_
      refine s_istore (L' := [.ref 120, .int x1, .int x2, .int x3, .int x4, .int x5, .int x6, .int x9, .int x8, .int x9, .int x10]) dX12_send_166 (by decide) rfl rfl ?_
      refine g_iload dX12_send_168 rfl ?_
      refine s_istore (L' := [.ref 120, .int x1, .int x2, .int x3, .int x4, .int x5, .int x6, .int x9, .int x10, .int x9, .int x10]) dX12_send_170 (by decide) rfl rfl ?_
      refine s_iinc (v := (x9 + 1)) (L' := [.ref 120, .int x1, .int x2, .int x3, .int x4, .int x5, .int x6, .int x9, .int x10, .int (x9 + 1), .int x10]) dX12_send_172 rfl (by decide) rfl rfl rfl ?_
      refine g_goto (tgt := 75) dX12_send_175 (by decide) ?_
      exact e2 c2 c3
    · skip
      refine g_iload dX12_send_154 rfl ?_
      refine g_iload dX12_send_156 rfl ?_
      refine g_icmp_le (tgt := 164) dX12_send_158 (by decide) (fun c5 => ?_) (fun c6 => ?_)
      · skip
        refine g_iload dX12_send_164 rfl ?_
        refine s_istore (L' := [.ref 120, .int x1, .int x2, .int x3, .int x4, .int x5, .int x6, .int x9, .int x8, .int x9, .int x10]) dX12_send_166 (by decide) rfl rfl ?_
        refine g_iload dX12_send_168 rfl ?_
        refine s_istore (L' := [.ref 120, .int x1, .int x2, .int x3, .int x4, .int x5, .int x6, .int x9, .int x10, .int x9, .int x10]) dX12_send_170 (by decide) rfl rfl ?_
        refine s_iinc (v := (x9 + 1)) (L' := [.ref 120, .int x1, .int x2, .int x3, .int x4, .int x5, .int x6, .int x9, .int x10, .int (x9 + 1), .int x10]) dX12_send_172 rfl (by decide) rfl rfl rfl ?_
        refine g_goto (tgt := 75) dX12_send_175 (by decide) ?_
        exact e3 c2 c4 c5
      · skip
        refine g_goto (tgt := 172) dX12_send_161 (by decide) ?_
        refine s_iinc (v := (x9 + 1)) (L' := [.ref 120, .int x1, .int x2, .int x3, .int x4, .int x5, .int x6, .int x7, .int x8, .int (x9 + 1), .int x10]) dX12_send_172 rfl (by decide) rfl rfl rfl ?_
        refine g_goto (tgt := 75) dX12_send_175 (by decide) ?_
        exact e4 c2 c4 c6
set_option maxRecDepth 10000 in
set_option maxHeartbeats 1000000 in
theorem sg_X12_send_129 {l : Launch} {d : Nat} {Q : Option Value → mx_H → Prop} {c : Nat} {I : mx_I} (x1 : Int32) (x2 : Int32) (x3 : Int32) (x4 : Int32) (x5 : Int32) (x6 : Int32) (x7 : Int32) (x8 : Int32) (x9 : Int32)
    (e1 : mx_Go l (mx_rm (d + 1) 0 0) mX12_send (mx_Z Q 0 0) 0 0 105 [.ref 120, .int x1, .int x2, .int x3, .int x4, .int x5, .int x6, .int x7, .int x8, .int x9, .retAddr 0] [] (sk0 c, I)) :
    mx_Go l (mx_rm (d + 1) 0 0) mX12_send (mx_Z Q 0 0) 0 0 129 [.ref 120, .int x1, .int x2, .int x3, .int x4, .int x5, .int x6, .int x7, .int x8, .int x9, .retAddr 0] [] (sk0 c, I) := by
  refine g_goto (tgt := 105) dX12_send_129 (by decide) ?_
  exact e1
set_option maxRecDepth 10000 in
set_option maxHeartbeats 1000000 in
theorem sn_X12_offer {l : Launch} {d : Nat} {Q : Option Value → mx_H → Prop} {c : Nat} {I : mx_I} (a1 : Int32) (a2 : Int32) (a3 : Int32) (a4 : Int32) (a5 : Int32)
    (k1 : mx_K1 l mX12_isHour d [.ref 120, .int a1] (sk0 c, I) (fun r h' => mx_Go l (mx_rm (d + 1) 0 0) mX12_offer (mx_Z Q 0 0) 0 0 5 [.ref 120, .int a1, .int a2, .int a3, .int a4, .int a5, .retAddr 0] (r.toList ++ []) h')) :
    mx_Spec l mX12_offer (d + 1) 0 0 [.ref 120, .int a1, .int a2, .int a3, .int a4, .int a5] (sk0 c, I) Q := by
  refine mx_enter rfl (by simp [Value.category]) (Nat.le_of_ble_eq_true rfl) ?_
  change mx_Go l (mx_rm (d + 1) 0 0) mX12_offer (mx_Z Q 0 0) 0 0 0 [.ref 120, .int a1, .int a2, .int a3, .int a4, .int a5, .retAddr 0] [] (sk0 c, I)
  refine g_aload_n dX12_offer_0 rfl rfl ?_
  refine g_iload_n dX12_offer_1 rfl rfl ?_
  exact s_callV (M' := mX12_isHour) (As := [.int a1]) (st := []) dX12_offer_2 lm_X12_62 ovX12_isHour (h := (sk0 c, I)) (sk_120 _) (show vwCl[12]? = some _ from rfl) rfl (by simp [Value.category]) (by decide) rfl (k1)
set_option maxRecDepth 10000 in
set_option maxHeartbeats 1000000 in
theorem sg_X12_offer_5 {l : Launch} {d : Nat} {Q : Option Value → mx_H → Prop} {c : Nat} {I : mx_I} (x1 : Int32) (x2 : Int32) (x3 : Int32) (x4 : Int32) (x5 : Int32) (x6 : Int32)
    (q1 : (x6 = 0) → Q (some (.int (-1))) (sk0 c, I))
    (k2 : (¬ x6 = 0) → mx_K1 l mX12_isCrossing d [.ref 120, .int x2, .int x3, .int x4] (sk0 c, I) (fun r h' => mx_Go l (mx_rm (d + 1) 0 0) mX12_offer (mx_Z Q 0 0) 0 0 16 [.ref 120, .int x1, .int x2, .int x3, .int x4, .int x5, .retAddr 0] (r.toList ++ []) h')) :
    mx_Go l (mx_rm (d + 1) 0 0) mX12_offer (mx_Z Q 0 0) 0 0 5 [.ref 120, .int x1, .int x2, .int x3, .int x4, .int x5, .retAddr 0] [.int x6] (sk0 c, I) := by
  refine g_if_eq (tgt := 43) dX12_offer_5 (by decide) (fun c1 => ?_) (fun c2 => ?_)
  · skip
    refine g_iconst (v := (-1)) dX12_offer_43 (by decide) ?_
    exact g_iret rfl dX12_offer_44 rfl (Nat.le_refl _) (q1 c1)
  · skip
    refine g_aload_n dX12_offer_8 rfl rfl ?_
    refine g_iload_n dX12_offer_9 rfl rfl ?_
    refine g_iload_n dX12_offer_10 rfl rfl ?_
    refine g_iload dX12_offer_11 rfl ?_
    exact s_callV (M' := mX12_isCrossing) (As := [.int x2, .int x3, .int x4]) (st := []) dX12_offer_13 lm_X12_71 ovX12_isCrossing (h := (sk0 c, I)) (sk_120 _) (show vwCl[12]? = some _ from rfl) rfl (by simp [Value.category]) (by decide) rfl (k2 c2)
set_option maxRecDepth 10000 in
set_option maxHeartbeats 1000000 in
theorem sg_X12_offer_16 {l : Launch} {d : Nat} {Q : Option Value → mx_H → Prop} {c : Nat} {I : mx_I} (x1 : Int32) (x2 : Int32) (x3 : Int32) (x4 : Int32) (x5 : Int32) (x6 : Int32)
    (q1 : (x6 = 0) → Q (some (.int (-1))) (sk0 c, I))
    (k2 : (¬ x6 = 0) → mx_K1 l mX12_isIn d [.int x5, .int 0, .int 999] (sk0 c, I) (fun r h' => mx_Go l (mx_rm (d + 1) 0 0) mX12_offer (mx_Z Q 0 0) 0 0 28 [.ref 120, .int x1, .int x2, .int x3, .int x4, .int x5, .retAddr 0] (r.toList ++ []) h')) :
    mx_Go l (mx_rm (d + 1) 0 0) mX12_offer (mx_Z Q 0 0) 0 0 16 [.ref 120, .int x1, .int x2, .int x3, .int x4, .int x5, .retAddr 0] [.int x6] (sk0 c, I) := by
  refine g_if_eq (tgt := 43) dX12_offer_16 (by decide) (fun c1 => ?_) (fun c2 => ?_)
  · skip
    refine g_iconst (v := (-1)) dX12_offer_43 (by decide) ?_
    exact g_iret rfl dX12_offer_44 rfl (Nat.le_refl _) (q1 c1)
  · skip
    refine g_iload dX12_offer_19 rfl ?_
    refine g_iconst (v := 0) dX12_offer_21 (by decide) ?_
    refine g_sipush (v := 999) dX12_offer_22 (by decide) ?_
    exact s_callS (M' := mX12_isIn) (As := [.int x5, .int 0, .int 999]) (st := []) dX12_offer_25 lm_X12_50 okX12_isIn osX12_isIn (by simp [Value.category]) (by decide) rfl (k2 c2)
set_option maxRecDepth 10000 in
set_option maxHeartbeats 1000000 in
theorem sg_X12_offer_28 {l : Launch} {d : Nat} {Q : Option Value → mx_H → Prop} {c : Nat} {I : mx_I} (x1 : Int32) (x2 : Int32) (x3 : Int32) (x4 : Int32) (x5 : Int32) (x6 : Int32)
    (q1 : (x6 = 0) → Q (some (.int (-1))) (sk0 c, I))
    (b2 : (¬ x6 = 0) → (¬ (I 121 7) = 8) → vp_in (1500 + (5 * (I 121 7))) 2490)
    (b3 : (¬ x6 = 0) → (¬ (I 121 7) = 8) → vp_in ((1500 + (5 * (I 121 7))) + 1) 2490)
    (b4 : (¬ x6 = 0) → (¬ (I 121 7) = 8) → vp_in ((1500 + (5 * (I 121 7))) + 2) 2490)
    (b5 : (¬ x6 = 0) → (¬ (I 121 7) = 8) → vp_in ((1500 + (5 * (I 121 7))) + 3) 2490)
    (b6 : (¬ x6 = 0) → (¬ (I 121 7) = 8) → vp_in ((1500 + (5 * (I 121 7))) + 4) 2490)
    (q7 : (¬ x6 = 0) → (¬ (I 121 7) = 8) → Q (some (.int ((((mx_set (mx_set (mx_set (mx_set (mx_set I 121 (1500 + (5 * (I 121 7))).toNatClampNeg x1) 121 ((1500 + (5 * (I 121 7))) + 1).toNatClampNeg x2) 121 ((1500 + (5 * (I 121 7))) + 2).toNatClampNeg x3) 121 ((1500 + (5 * (I 121 7))) + 3).toNatClampNeg x4) 121 ((1500 + (5 * (I 121 7))) + 4).toNatClampNeg x5) 121 7) + 1) - 1))) (sk0 c, (mx_set (mx_set (mx_set (mx_set (mx_set (mx_set I 121 (1500 + (5 * (I 121 7))).toNatClampNeg x1) 121 ((1500 + (5 * (I 121 7))) + 1).toNatClampNeg x2) 121 ((1500 + (5 * (I 121 7))) + 2).toNatClampNeg x3) 121 ((1500 + (5 * (I 121 7))) + 3).toNatClampNeg x4) 121 ((1500 + (5 * (I 121 7))) + 4).toNatClampNeg x5) 121 7 (((mx_set (mx_set (mx_set (mx_set (mx_set I 121 (1500 + (5 * (I 121 7))).toNatClampNeg x1) 121 ((1500 + (5 * (I 121 7))) + 1).toNatClampNeg x2) 121 ((1500 + (5 * (I 121 7))) + 2).toNatClampNeg x3) 121 ((1500 + (5 * (I 121 7))) + 3).toNatClampNeg x4) 121 ((1500 + (5 * (I 121 7))) + 4).toNatClampNeg x5) 121 7) + 1))))
    (q8 : (¬ x6 = 0) → ((I 121 7) = 8) → Q (some (.int (-1))) (sk0 c, I)) :
    mx_Go l (mx_rm (d + 1) 0 0) mX12_offer (mx_Z Q 0 0) 0 0 28 [.ref 120, .int x1, .int x2, .int x3, .int x4, .int x5, .retAddr 0] [.int x6] (sk0 c, I) := by
  refine g_if_eq (tgt := 43) dX12_offer_28 (by decide) (fun c1 => ?_) (fun c2 => ?_)
  · skip
    refine g_iconst (v := (-1)) dX12_offer_43 (by decide) ?_
    exact g_iret rfl dX12_offer_44 rfl (Nat.le_refl _) (q1 c1)
  · skip
    refine g_aload_n dX12_offer_31 rfl rfl ?_
    refine rg_X12_0 (r := 121) dX12_offer_32 lf_X12_7 (sk_120 _) rfl ?_
    refine g_bipush (v := 7) dX12_offer_35 (by decide) ?_
    refine s_iald (j := 7) (v := (I 121 7)) dX12_offer_37 (sk_121 _) (by unfold vp_in; decide) (by decide) rfl ?_
    refine g_bipush (v := 8) dX12_offer_38 (by decide) ?_
    refine g_icmp_ne (tgt := 45) dX12_offer_40 (by decide) (fun c3 => ?_) (fun c4 => ?_)
    · skip
      refine g_sipush (v := 1500) dX12_offer_45 (by decide) ?_
      refine g_iconst (v := 5) dX12_offer_48 (by decide) ?_
      refine g_aload_n dX12_offer_49 rfl rfl ?_
      refine rg_X12_0 (r := 121) dX12_offer_50 lf_X12_7 (sk_120 _) rfl ?_
      refine g_bipush (v := 7) dX12_offer_53 (by decide) ?_
      refine s_iald (j := 7) (v := (I 121 7)) dX12_offer_55 (sk_121 _) (by unfold vp_in; decide) (by decide) rfl ?_
      refine g_imul dX12_offer_56 ?_
      refine g_iadd dX12_offer_57 ?_
      refine s_istore (L' := [.ref 120, .int x1, .int x2, .int x3, .int x4, .int x5, .int (1500 + (5 * (I 121 7)))]) dX12_offer_58 (by decide) rfl rfl ?_
      refine g_aload_n dX12_offer_60 rfl rfl ?_
      refine rg_X12_0 (r := 121) dX12_offer_61 lf_X12_7 (sk_120 _) rfl ?_
      refine g_iload dX12_offer_64 rfl ?_
      refine g_iload_n dX12_offer_66 rfl rfl ?_
      refine s_iast (j := (1500 + (5 * (I 121 7))).toNatClampNeg) dX12_offer_67 (sk_121 _) (b2 c2 c3) rfl ?_
      refine g_aload_n dX12_offer_68 rfl rfl ?_
      refine rg_X12_0 (r := 121) dX12_offer_69 lf_X12_7 (sk_120 _) rfl ?_
      refine g_iload dX12_offer_72 rfl ?_
      refine g_iconst (v := 1) dX12_offer_74 (by decide) ?_
      refine g_iadd dX12_offer_75 ?_
      refine g_iload_n dX12_offer_76 rfl rfl ?_
      refine s_iast (j := ((1500 + (5 * (I 121 7))) + 1).toNatClampNeg) dX12_offer_77 (sk_121 _) (b3 c2 c3) rfl ?_
      refine g_aload_n dX12_offer_78 rfl rfl ?_
      refine rg_X12_0 (r := 121) dX12_offer_79 lf_X12_7 (sk_120 _) rfl ?_
      refine g_iload dX12_offer_82 rfl ?_
      refine g_iconst (v := 2) dX12_offer_84 (by decide) ?_
      refine g_iadd dX12_offer_85 ?_
      refine g_iload_n dX12_offer_86 rfl rfl ?_
      refine s_iast (j := ((1500 + (5 * (I 121 7))) + 2).toNatClampNeg) dX12_offer_87 (sk_121 _) (b4 c2 c3) rfl ?_
      refine g_aload_n dX12_offer_88 rfl rfl ?_
      refine rg_X12_0 (r := 121) dX12_offer_89 lf_X12_7 (sk_120 _) rfl ?_
      refine g_iload dX12_offer_92 rfl ?_
      refine g_iconst (v := 3) dX12_offer_94 (by decide) ?_
      refine g_iadd dX12_offer_95 ?_
      refine g_iload dX12_offer_96 rfl ?_
      refine s_iast (j := ((1500 + (5 * (I 121 7))) + 3).toNatClampNeg) dX12_offer_98 (sk_121 _) (b5 c2 c3) rfl ?_
      refine g_aload_n dX12_offer_99 rfl rfl ?_
      refine rg_X12_0 (r := 121) dX12_offer_100 lf_X12_7 (sk_120 _) rfl ?_
      refine g_iload dX12_offer_103 rfl ?_
      refine g_iconst (v := 4) dX12_offer_105 (by decide) ?_
      refine g_iadd dX12_offer_106 ?_
      refine g_iload dX12_offer_107 rfl ?_
      refine s_iast (j := ((1500 + (5 * (I 121 7))) + 4).toNatClampNeg) dX12_offer_109 (sk_121 _) (b6 c2 c3) rfl ?_
      refine g_aload_n dX12_offer_110 rfl rfl ?_
      refine rg_X12_0 (r := 121) dX12_offer_111 lf_X12_7 (sk_120 _) rfl ?_
      refine g_bipush (v := 7) dX12_offer_114 (by decide) ?_
      refine g_dup2 dX12_offer_116 rfl rfl ?_
      refine s_iald (j := 7) (v := ((mx_set (mx_set (mx_set (mx_set (mx_set I 121 (1500 + (5 * (I 121 7))).toNatClampNeg x1) 121 ((1500 + (5 * (I 121 7))) + 1).toNatClampNeg x2) 121 ((1500 + (5 * (I 121 7))) + 2).toNatClampNeg x3) 121 ((1500 + (5 * (I 121 7))) + 3).toNatClampNeg x4) 121 ((1500 + (5 * (I 121 7))) + 4).toNatClampNeg x5) 121 7)) dX12_offer_117 (sk_121 _) (by unfold vp_in; decide) (by decide) rfl ?_
      refine g_iconst (v := 1) dX12_offer_118 (by decide) ?_
      refine g_iadd dX12_offer_119 ?_
      refine s_iast (j := 7) dX12_offer_120 (sk_121 _) (by unfold vp_in; decide) (by decide) ?_
      refine g_aload_n dX12_offer_121 rfl rfl ?_
      refine rg_X12_0 (r := 121) dX12_offer_122 lf_X12_7 (sk_120 _) rfl ?_
      refine g_bipush (v := 7) dX12_offer_125 (by decide) ?_
      refine s_iald (j := 7) (v := (((mx_set (mx_set (mx_set (mx_set (mx_set I 121 (1500 + (5 * (I 121 7))).toNatClampNeg x1) 121 ((1500 + (5 * (I 121 7))) + 1).toNatClampNeg x2) 121 ((1500 + (5 * (I 121 7))) + 2).toNatClampNeg x3) 121 ((1500 + (5 * (I 121 7))) + 3).toNatClampNeg x4) 121 ((1500 + (5 * (I 121 7))) + 4).toNatClampNeg x5) 121 7) + 1)) dX12_offer_127 (sk_121 _) (by unfold vp_in; decide) (by decide) rd_eq ?_
      refine g_iconst (v := 1) dX12_offer_128 (by decide) ?_
      refine g_isub dX12_offer_129 ?_
      exact g_iret rfl dX12_offer_130 rfl (Nat.le_refl _) (q7 c2 c3)
    · skip
      refine g_iconst (v := (-1)) dX12_offer_43 (by decide) ?_
      exact g_iret rfl dX12_offer_44 rfl (Nat.le_refl _) (q8 c2 c4)
set_option maxRecDepth 10000 in
set_option maxHeartbeats 1000000 in
theorem sn_X12_count {l : Launch} {d : Nat} {Q : Option Value → mx_H → Prop} {c : Nat} {I : mx_I} (a1 : Int32)
    (e1 : mx_Go l (mx_rm (d + 1) 0 0) mX12_count (mx_Z Q 0 0) 0 0 4 [.int a1, .int 0, .int 0] [] (sk0 c, I)) :
    mx_Spec l mX12_count (d + 1) 0 0 [.int a1] (sk0 c, I) Q := by
  refine mx_enter rfl (by simp [Value.category]) (Nat.le_of_ble_eq_true rfl) ?_
  change mx_Go l (mx_rm (d + 1) 0 0) mX12_count (mx_Z Q 0 0) 0 0 0 [.int a1, .retAddr 0, .retAddr 0] [] (sk0 c, I)
  refine g_iconst (v := 0) dX12_count_0 (by decide) ?_
  refine s_istore_n (L' := [.int a1, .int 0, .retAddr 0]) dX12_count_1 rfl (by decide) rfl rfl ?_
  refine g_iconst (v := 0) dX12_count_2 (by decide) ?_
  refine s_istore_n (L' := [.int a1, .int 0, .int 0]) dX12_count_3 rfl (by decide) rfl rfl ?_
  exact e1
set_option maxRecDepth 10000 in
set_option maxHeartbeats 1000000 in
theorem sg_X12_count_4 {l : Launch} {d : Nat} {Q : Option Value → mx_H → Prop} {c : Nat} {I : mx_I} (x1 : Int32) (x2 : Int32) (x3 : Int32)
    (q1 : (30 ≤ x3) → Q (some (.int x2)) (sk0 c, I))
    (e2 : (¬ 30 ≤ x3) → mx_Go l (mx_rm (d + 1) 0 0) mX12_count (mx_Z Q 0 0) 0 0 4 [.int x1, .int (x2 + ((x1 >>> (x3 &&& 31)) &&& 1)), .int (x3 + 1)] [] (sk0 c, I)) :
    mx_Go l (mx_rm (d + 1) 0 0) mX12_count (mx_Z Q 0 0) 0 0 4 [.int x1, .int x2, .int x3] [] (sk0 c, I) := by
  refine g_iload_n dX12_count_4 rfl rfl ?_
  refine g_bipush (v := 30) dX12_count_5 (by decide) ?_
  refine g_icmp_ge (tgt := 24) dX12_count_7 (by decide) (fun c1 => ?_) (fun c2 => ?_)
  · skip
    refine g_iload_n dX12_count_24 rfl rfl ?_
    exact g_iret rfl dX12_count_25 rfl (Nat.le_refl _) (q1 c1)
  · skip
    refine g_iload_n dX12_count_10 rfl rfl ?_
    refine g_iload_n dX12_count_11 rfl rfl ?_
    refine g_iload_n dX12_count_12 rfl rfl ?_
    refine g_ishr dX12_count_13 ?_
    refine g_iconst (v := 1) dX12_count_14 (by decide) ?_
    refine g_iand dX12_count_15 ?_
    refine g_iadd dX12_count_16 ?_
    refine s_istore_n (L' := [.int x1, .int (x2 + ((x1 >>> (x3 &&& 31)) &&& 1)), .int x3]) dX12_count_17 rfl (by decide) rfl rfl ?_
    refine s_iinc (v := (x3 + 1)) (L' := [.int x1, .int (x2 + ((x1 >>> (x3 &&& 31)) &&& 1)), .int (x3 + 1)]) dX12_count_18 rfl (by decide) rfl rfl rfl ?_
    refine g_goto (tgt := 4) dX12_count_21 (by decide) ?_
    exact e2 c2
set_option maxRecDepth 10000 in
set_option maxHeartbeats 1000000 in
theorem sn_X12_priceOf {l : Launch} {d : Nat} {Q : Option Value → mx_H → Prop} {c : Nat} {I : mx_I} (a1 : Int32)
    (e1 : mx_Go l (mx_rm (d + 1) 0 0) mX12_priceOf (mx_Z Q 0 0) 0 0 4 [.ref 120, .int a1, .int 0, .int 0] [] (sk0 c, I)) :
    mx_Spec l mX12_priceOf (d + 1) 0 0 [.ref 120, .int a1] (sk0 c, I) Q := by
  refine mx_enter rfl (by simp [Value.category]) (Nat.le_of_ble_eq_true rfl) ?_
  change mx_Go l (mx_rm (d + 1) 0 0) mX12_priceOf (mx_Z Q 0 0) 0 0 0 [.ref 120, .int a1, .retAddr 0, .retAddr 0] [] (sk0 c, I)
  refine g_iconst (v := 0) dX12_priceOf_0 (by decide) ?_
  refine s_istore_n (L' := [.ref 120, .int a1, .int 0, .retAddr 0]) dX12_priceOf_1 rfl (by decide) rfl rfl ?_
  refine g_iconst (v := 0) dX12_priceOf_2 (by decide) ?_
  refine s_istore_n (L' := [.ref 120, .int a1, .int 0, .int 0]) dX12_priceOf_3 rfl (by decide) rfl rfl ?_
  exact e1
set_option maxRecDepth 10000 in
set_option maxHeartbeats 1000000 in
theorem sg_X12_priceOf_4 {l : Launch} {d : Nat} {Q : Option Value → mx_H → Prop} {c : Nat} {I : mx_I} (x1 : Int32) (x2 : Int32) (x3 : Int32)
    (q1 : ((I 121 7) ≤ x3) → Q (some (.int x2)) (sk0 c, I))
    (b2 : (¬ (I 121 7) ≤ x3) → vp_in ((1500 + (5 * x3)) + 4) 2490)
    (e3 : (¬ (I 121 7) ≤ x3) → mx_Go l (mx_rm (d + 1) 0 0) mX12_priceOf (mx_Z Q 0 0) 0 0 4 [.ref 120, .int x1, .int (x2 + (((x1 >>> (x3 &&& 31)) &&& 1) * (I 121 ((1500 + (5 * x3)) + 4).toNatClampNeg))), .int (x3 + 1)] [] (sk0 c, I)) :
    mx_Go l (mx_rm (d + 1) 0 0) mX12_priceOf (mx_Z Q 0 0) 0 0 4 [.ref 120, .int x1, .int x2, .int x3] [] (sk0 c, I) := by
  refine g_iload_n dX12_priceOf_4 rfl rfl ?_
  refine g_aload_n dX12_priceOf_5 rfl rfl ?_
  refine rg_X12_0 (r := 121) dX12_priceOf_6 lf_X12_7 (sk_120 _) rfl ?_
  refine g_bipush (v := 7) dX12_priceOf_9 (by decide) ?_
  refine s_iald (j := 7) (v := (I 121 7)) dX12_priceOf_11 (sk_121 _) (by unfold vp_in; decide) (by decide) rfl ?_
  refine g_icmp_ge (tgt := 44) dX12_priceOf_12 (by decide) (fun c1 => ?_) (fun c2 => ?_)
  · skip
    refine g_iload_n dX12_priceOf_44 rfl rfl ?_
    exact g_iret rfl dX12_priceOf_45 rfl (Nat.le_refl _) (q1 c1)
  · skip
    refine g_iload_n dX12_priceOf_15 rfl rfl ?_
    refine g_iload_n dX12_priceOf_16 rfl rfl ?_
    refine g_iload_n dX12_priceOf_17 rfl rfl ?_
    refine g_ishr dX12_priceOf_18 ?_
    refine g_iconst (v := 1) dX12_priceOf_19 (by decide) ?_
    refine g_iand dX12_priceOf_20 ?_
    refine g_aload_n dX12_priceOf_21 rfl rfl ?_
    refine rg_X12_0 (r := 121) dX12_priceOf_22 lf_X12_7 (sk_120 _) rfl ?_
    refine g_sipush (v := 1500) dX12_priceOf_25 (by decide) ?_
    refine g_iconst (v := 5) dX12_priceOf_28 (by decide) ?_
    refine g_iload_n dX12_priceOf_29 rfl rfl ?_
    refine g_imul dX12_priceOf_30 ?_
    refine g_iadd dX12_priceOf_31 ?_
    refine g_iconst (v := 4) dX12_priceOf_32 (by decide) ?_
    refine g_iadd dX12_priceOf_33 ?_
    refine s_iald (j := ((1500 + (5 * x3)) + 4).toNatClampNeg) (v := (I 121 ((1500 + (5 * x3)) + 4).toNatClampNeg)) dX12_priceOf_34 (sk_121 _) (b2 c2) rfl rfl ?_
    refine g_imul dX12_priceOf_35 ?_
    refine g_iadd dX12_priceOf_36 ?_
    refine s_istore_n (L' := [.ref 120, .int x1, .int (x2 + (((x1 >>> (x3 &&& 31)) &&& 1) * (I 121 ((1500 + (5 * x3)) + 4).toNatClampNeg))), .int x3]) dX12_priceOf_37 rfl (by decide) rfl rfl ?_
    refine s_iinc (v := (x3 + 1)) (L' := [.ref 120, .int x1, .int (x2 + (((x1 >>> (x3 &&& 31)) &&& 1) * (I 121 ((1500 + (5 * x3)) + 4).toNatClampNeg))), .int (x3 + 1)]) dX12_priceOf_38 rfl (by decide) rfl rfl rfl ?_
    refine g_goto (tgt := 4) dX12_priceOf_41 (by decide) ?_
    exact e3 c2
set_option maxRecDepth 10000 in
set_option maxHeartbeats 1000000 in
theorem sn_X12_brings {l : Launch} {d : Nat} {Q : Option Value → mx_H → Prop} {c : Nat} {I : mx_I} (a1 : Int32) (a2 : Int32) (a3 : Int32) (a4 : Int32)
    (k1 : mx_K1 l mX12_begins d [.ref 120] (sk0 c, I) (fun r h' => mx_Go l (mx_rm (d + 1) 0 0) mX12_brings (mx_Z Q 0 0) 0 0 4 [.ref 120, .int a1, .int a2, .int a3, .int a4, .retAddr 0, .retAddr 0] (r.toList ++ []) h')) :
    mx_Spec l mX12_brings (d + 1) 0 0 [.ref 120, .int a1, .int a2, .int a3, .int a4] (sk0 c, I) Q := by
  refine mx_enter rfl (by simp [Value.category]) (Nat.le_of_ble_eq_true rfl) ?_
  change mx_Go l (mx_rm (d + 1) 0 0) mX12_brings (mx_Z Q 0 0) 0 0 0 [.ref 120, .int a1, .int a2, .int a3, .int a4, .retAddr 0, .retAddr 0] [] (sk0 c, I)
  refine g_aload_n dX12_brings_0 rfl rfl ?_
  exact s_callV (M' := mX12_begins) (As := []) (st := []) dX12_brings_1 lm_X12_285 ovX12_begins (h := (sk0 c, I)) (sk_120 _) (show vwCl[12]? = some _ from rfl) rfl (by simp [Value.category]) (by decide) rfl (k1)
set_option maxRecDepth 10000 in
set_option maxHeartbeats 1000000 in
theorem sg_X12_brings_4 {l : Launch} {d : Nat} {Q : Option Value → mx_H → Prop} {c : Nat} {I : mx_I} (x1 : Int32) (x2 : Int32) (x3 : Int32) (x4 : Int32)
    (e1 : mx_Go l (mx_rm (d + 1) 0 0) mX12_brings (mx_Z Q 0 0) 0 0 9 [.ref 120, .int x1, .int x2, .int x3, .int x4, .retAddr 0, .retAddr 0] [] (sk0 c, (mx_set I 120 26 x1))) :
    mx_Go l (mx_rm (d + 1) 0 0) mX12_brings (mx_Z Q 0 0) 0 0 4 [.ref 120, .int x1, .int x2, .int x3, .int x4, .retAddr 0, .retAddr 0] [] (sk0 c, I) := by
  refine g_aload_n dX12_brings_4 rfl rfl ?_
  refine g_iload_n dX12_brings_5 rfl rfl ?_
  refine rp_X12_26 dX12_brings_6 lf_X12_279 (sk_120 _) ?_
  exact e1
set_option maxRecDepth 10000 in
set_option maxHeartbeats 1000000 in
theorem sg_X12_brings_9 {l : Launch} {d : Nat} {Q : Option Value → mx_H → Prop} {c : Nat} {I : mx_I} (x1 : Int32) (x2 : Int32) (x3 : Int32) (x4 : Int32)
    (e1 : (x4 < (I 121 1)) → mx_Go l (mx_rm (d + 1) 0 0) mX12_brings (mx_Z Q 0 0) 0 0 33 [.ref 120, .int x1, .int x2, .int x3, .int x4, .int 1, .int 0] [] (sk0 c, I))
    (k2 : (¬ x4 < (I 121 1)) → mx_K1 l mX12_anHour d [.ref 120] (sk0 c, I) (fun r h' => mx_Go l (mx_rm (d + 1) 0 0) mX12_brings (mx_Z Q 0 0) 0 0 24 [.ref 120, .int x1, .int x2, .int x3, .int x4, .retAddr 0, .retAddr 0] (r.toList ++ []) h')) :
    mx_Go l (mx_rm (d + 1) 0 0) mX12_brings (mx_Z Q 0 0) 0 0 9 [.ref 120, .int x1, .int x2, .int x3, .int x4, .retAddr 0, .retAddr 0] [] (sk0 c, I) := by
  refine g_aload_n dX12_brings_9 rfl rfl ?_
  refine rg_X12_0 (r := 121) dX12_brings_10 lf_X12_7 (sk_120 _) rfl ?_
  refine g_iconst (v := 1) dX12_brings_13 (by decide) ?_
  refine s_iald (j := 1) (v := (I 121 1)) dX12_brings_14 (sk_121 _) (by unfold vp_in; decide) (by decide) rfl ?_
  refine g_iload dX12_brings_15 rfl ?_
  refine g_icmp_gt (tgt := 27) dX12_brings_17 (by decide) (fun c1 => ?_) (fun c2 => ?_)
  · skip
    refine g_iconst (v := 1) dX12_brings_27 (by decide) ?_
    refine s_istore (L' := [.ref 120, .int x1, .int x2, .int x3, .int x4, .int 1, .retAddr 0]) dX12_brings_28 (by decide) rfl rfl ?_
    refine g_iconst (v := 0) dX12_brings_30 (by decide) ?_
    refine s_istore (L' := [.ref 120, .int x1, .int x2, .int x3, .int x4, .int 1, .int 0]) dX12_brings_31 (by decide) rfl rfl ?_
    exact e1 c1
  · skip
    refine g_aload_n dX12_brings_20 rfl rfl ?_
    exact s_callV (M' := mX12_anHour) (As := []) (st := []) dX12_brings_21 lm_X12_282 ovX12_anHour (h := (sk0 c, I)) (sk_120 _) (show vwCl[12]? = some _ from rfl) rfl (by simp [Value.category]) (by decide) rfl (k2 c2)
set_option maxRecDepth 10000 in
set_option maxHeartbeats 1000000 in
theorem sg_X12_brings_33 {l : Launch} {d : Nat} {Q : Option Value → mx_H → Prop} {c : Nat} {I : mx_I} (x1 : Int32) (x2 : Int32) (x3 : Int32) (x4 : Int32) (x5 : Int32) (x6 : Int32)
    (k1 : ((I 121 2) ≤ x6) → mx_K1 l mX12_comesBack d [.ref 120] (sk0 c, I) (fun r h' => mx_Go l (mx_rm (d + 1) 0 0) mX12_brings (mx_Z Q 0 0) 0 0 97 [.ref 120, .int x1, .int x2, .int x3, .int x4, .int x5, .int x6] (r.toList ++ []) h'))
    (e2 : (¬ (I 121 2) ≤ x6) → (x5 = 0) → mx_Go l (mx_rm (d + 1) 0 0) mX12_brings (mx_Z Q 0 0) 0 0 33 [.ref 120, .int x1, .int x2, .int x3, .int x4, .int 0, .int (x6 + 1)] [] (sk0 c, I))
    (e3 : (¬ (I 121 2) ≤ x6) → (¬ x5 = 0) → (((x2 >>> (x6 &&& 31)) &&& 1) = 0) → mx_Go l (mx_rm (d + 1) 0 0) mX12_brings (mx_Z Q 0 0) 0 0 33 [.ref 120, .int x1, .int x2, .int x3, .int x4, .int 1, .int (x6 + 1)] [] (sk0 c, I))
    (k4 : (¬ (I 121 2) ≤ x6) → (¬ x5 = 0) → (¬ ((x2 >>> (x6 &&& 31)) &&& 1) = 0) → mx_K1 l mX12_isThere d [.ref 120, .int x6, .int x3] (sk0 c, I) (fun r h' => mx_Go l (mx_rm (d + 1) 0 0) mX12_brings (mx_Z Q 0 0) 0 0 65 [.ref 120, .int x1, .int x2, .int x3, .int x4, .int x5, .int x6] (r.toList ++ []) h')) :
    mx_Go l (mx_rm (d + 1) 0 0) mX12_brings (mx_Z Q 0 0) 0 0 33 [.ref 120, .int x1, .int x2, .int x3, .int x4, .int x5, .int x6] [] (sk0 c, I) := by
  refine g_iload dX12_brings_33 rfl ?_
  refine g_aload_n dX12_brings_35 rfl rfl ?_
  refine rg_X12_0 (r := 121) dX12_brings_36 lf_X12_7 (sk_120 _) rfl ?_
  refine g_iconst (v := 2) dX12_brings_39 (by decide) ?_
  refine s_iald (j := 2) (v := (I 121 2)) dX12_brings_40 (sk_121 _) (by unfold vp_in; decide) (by decide) rfl ?_
  refine g_icmp_ge (tgt := 93) dX12_brings_41 (by decide) (fun c1 => ?_) (fun c2 => ?_)
  · skip
    refine g_aload_n dX12_brings_93 rfl rfl ?_
    exact s_callV (M' := mX12_comesBack) (As := []) (st := []) dX12_brings_94 lm_X12_291 ovX12_comesBack (h := (sk0 c, I)) (sk_120 _) (show vwCl[12]? = some _ from rfl) rfl (by simp [Value.category]) (by decide) rfl (k1 c1)
  · skip
    refine g_iload dX12_brings_44 rfl ?_
    refine g_if_eq (tgt := 84) dX12_brings_46 (by decide) (fun c3 => ?_) (fun c4 => ?_)
    · skip
      refine g_iconst (v := 0) dX12_brings_84 (by decide) ?_
      refine s_istore (L' := [.ref 120, .int x1, .int x2, .int x3, .int x4, .int 0, .int x6]) dX12_brings_85 (by decide) rfl rfl ?_
      refine s_iinc (v := (x6 + 1)) (L' := [.ref 120, .int x1, .int x2, .int x3, .int x4, .int 0, .int (x6 + 1)]) dX12_brings_87 rfl (by decide) rfl rfl rfl ?_
      refine g_goto (tgt := 33) dX12_brings_90 (by decide) ?_
      exact e2 c2 c3
    · skip
      refine g_iload_n dX12_brings_49 rfl rfl ?_
      refine g_iload dX12_brings_50 rfl ?_
      refine g_ishr dX12_brings_52 ?_
      refine g_iconst (v := 1) dX12_brings_53 (by decide) ?_
      refine g_iand dX12_brings_54 ?_
      refine g_if_eq (tgt := 80) dX12_brings_55 (by decide) (fun c5 => ?_) (fun c6 => ?_)
      · skip
        refine g_iconst (v := 1) dX12_brings_80 (by decide) ?_
        refine g_goto (tgt := 85) dX12_brings_81 (by decide) ?_
        refine s_istore (L' := [.ref 120, .int x1, .int x2, .int x3, .int x4, .int 1, .int x6]) dX12_brings_85 (by decide) rfl rfl ?_
        refine s_iinc (v := (x6 + 1)) (L' := [.ref 120, .int x1, .int x2, .int x3, .int x4, .int 1, .int (x6 + 1)]) dX12_brings_87 rfl (by decide) rfl rfl rfl ?_
        refine g_goto (tgt := 33) dX12_brings_90 (by decide) ?_
        exact e3 c2 c4 c5
      · skip
        refine g_aload_n dX12_brings_58 rfl rfl ?_
        refine g_iload dX12_brings_59 rfl ?_
        refine g_iload_n dX12_brings_61 rfl rfl ?_
        exact s_callV (M' := mX12_isThere) (As := [.int x6, .int x3]) (st := []) dX12_brings_62 lm_X12_226 ovX12_isThere (h := (sk0 c, I)) (sk_120 _) (show vwCl[12]? = some _ from rfl) rfl (by simp [Value.category]) (by decide) rfl (k4 c2 c4 c6)
set_option maxRecDepth 10000 in
set_option maxHeartbeats 1000000 in
theorem sg_X12_brings_24 {l : Launch} {d : Nat} {Q : Option Value → mx_H → Prop} {c : Nat} {I : mx_I} (x1 : Int32) (x2 : Int32) (x3 : Int32) (x4 : Int32)
    (e1 : mx_Go l (mx_rm (d + 1) 0 0) mX12_brings (mx_Z Q 0 0) 0 0 9 [.ref 120, .int x1, .int x2, .int x3, .int x4, .retAddr 0, .retAddr 0] [] (sk0 c, I)) :
    mx_Go l (mx_rm (d + 1) 0 0) mX12_brings (mx_Z Q 0 0) 0 0 24 [.ref 120, .int x1, .int x2, .int x3, .int x4, .retAddr 0, .retAddr 0] [] (sk0 c, I) := by
  refine g_goto (tgt := 9) dX12_brings_24 (by decide) ?_
  exact e1
set_option maxRecDepth 10000 in
set_option maxHeartbeats 1000000 in
theorem sg_X12_brings_97 {l : Launch} {d : Nat} {Q : Option Value → mx_H → Prop} {c : Nat} {I : mx_I} (x1 : Int32) (x2 : Int32) (x3 : Int32) (x4 : Int32) (x5 : Int32) (x6 : Int32)
    (q1 : Q (some (.int x5)) (sk0 c, I))
    (n2 : x5 = 0 ∨ x5 = 1) :
    mx_Go l (mx_rm (d + 1) 0 0) mX12_brings (mx_Z Q 0 0) 0 0 97 [.ref 120, .int x1, .int x2, .int x3, .int x4, .int x5, .int x6] [] (sk0 c, I) := by
  refine g_iload dX12_brings_97 rfl ?_
  exact g_zret (ty := .boolean) rfl (nb_01 (n2)) dX12_brings_99 rfl (Nat.le_refl _) (q1)
set_option maxRecDepth 10000 in
set_option maxHeartbeats 1000000 in
theorem sg_X12_brings_65 {l : Launch} {d : Nat} {Q : Option Value → mx_H → Prop} {c : Nat} {I : mx_I} (x1 : Int32) (x2 : Int32) (x3 : Int32) (x4 : Int32) (x5 : Int32) (x6 : Int32) (x7 : Int32)
    (e1 : (¬ x7 = 0) → mx_Go l (mx_rm (d + 1) 0 0) mX12_brings (mx_Z Q 0 0) 0 0 33 [.ref 120, .int x1, .int x2, .int x3, .int x4, .int 1, .int (x6 + 1)] [] (sk0 c, I))
    (k2 : (x7 = 0) → mx_K1 l mX12_ofLoad d [.ref 120, .int x6, .int 8] (sk0 c, I) (fun r h' => mx_Go l (mx_rm (d + 1) 0 0) mX12_brings (mx_Z Q 0 0) 0 0 76 [.ref 120, .int x1, .int x2, .int x3, .int x4, .int x5, .int x6] (r.toList ++ []) h')) :
    mx_Go l (mx_rm (d + 1) 0 0) mX12_brings (mx_Z Q 0 0) 0 0 65 [.ref 120, .int x1, .int x2, .int x3, .int x4, .int x5, .int x6] [.int x7] (sk0 c, I) := by
  refine g_if_ne (tgt := 80) dX12_brings_65 (by decide) (fun c1 => ?_) (fun c2 => ?_)
  · skip
    refine g_iconst (v := 1) dX12_brings_80 (by decide) ?_
    refine g_goto (tgt := 85) dX12_brings_81 (by decide) ?_
    refine s_istore (L' := [.ref 120, .int x1, .int x2, .int x3, .int x4, .int 1, .int x6]) dX12_brings_85 (by decide) rfl rfl ?_
    refine s_iinc (v := (x6 + 1)) (L' := [.ref 120, .int x1, .int x2, .int x3, .int x4, .int 1, .int (x6 + 1)]) dX12_brings_87 rfl (by decide) rfl rfl rfl ?_
    refine g_goto (tgt := 33) dX12_brings_90 (by decide) ?_
    exact e1 c1
  · skip
    refine g_aload_n dX12_brings_68 rfl rfl ?_
    refine g_iload dX12_brings_69 rfl ?_
    refine g_bipush (v := 8) dX12_brings_71 (by decide) ?_
    exact s_callV (M' := mX12_ofLoad) (As := [.int x6, .int 8]) (st := []) dX12_brings_73 lm_X12_220 ovX12_ofLoad (h := (sk0 c, I)) (sk_120 _) (show vwCl[12]? = some _ from rfl) rfl (by simp [Value.category]) (by decide) rfl (k2 c2)
set_option maxRecDepth 10000 in
set_option maxHeartbeats 1000000 in
theorem sg_X12_brings_76 {l : Launch} {d : Nat} {Q : Option Value → mx_H → Prop} {c : Nat} {I : mx_I} (x1 : Int32) (x2 : Int32) (x3 : Int32) (x4 : Int32) (x5 : Int32) (x6 : Int32) (x7 : Int32)
    (e1 : (¬ x7 = 1) → mx_Go l (mx_rm (d + 1) 0 0) mX12_brings (mx_Z Q 0 0) 0 0 33 [.ref 120, .int x1, .int x2, .int x3, .int x4, .int 0, .int (x6 + 1)] [] (sk0 c, I))
    (e2 : (x7 = 1) → mx_Go l (mx_rm (d + 1) 0 0) mX12_brings (mx_Z Q 0 0) 0 0 33 [.ref 120, .int x1, .int x2, .int x3, .int x4, .int 1, .int (x6 + 1)] [] (sk0 c, I)) :
    mx_Go l (mx_rm (d + 1) 0 0) mX12_brings (mx_Z Q 0 0) 0 0 76 [.ref 120, .int x1, .int x2, .int x3, .int x4, .int x5, .int x6] [.int x7] (sk0 c, I) := by
  refine g_iconst (v := 1) dX12_brings_76 (by decide) ?_
  refine g_icmp_ne (tgt := 84) dX12_brings_77 (by decide) (fun c1 => ?_) (fun c2 => ?_)
  · skip
    refine g_iconst (v := 0) dX12_brings_84 (by decide) ?_
    refine s_istore (L' := [.ref 120, .int x1, .int x2, .int x3, .int x4, .int 0, .int x6]) dX12_brings_85 (by decide) rfl rfl ?_
    refine s_iinc (v := (x6 + 1)) (L' := [.ref 120, .int x1, .int x2, .int x3, .int x4, .int 0, .int (x6 + 1)]) dX12_brings_87 rfl (by decide) rfl rfl rfl ?_
    refine g_goto (tgt := 33) dX12_brings_90 (by decide) ?_
    exact e1 c1
  · skip
    refine g_iconst (v := 1) dX12_brings_80 (by decide) ?_
    refine g_goto (tgt := 85) dX12_brings_81 (by decide) ?_
    refine s_istore (L' := [.ref 120, .int x1, .int x2, .int x3, .int x4, .int 1, .int x6]) dX12_brings_85 (by decide) rfl rfl ?_
    refine s_iinc (v := (x6 + 1)) (L' := [.ref 120, .int x1, .int x2, .int x3, .int x4, .int 1, .int (x6 + 1)]) dX12_brings_87 rfl (by decide) rfl rfl rfl ?_
    refine g_goto (tgt := 33) dX12_brings_90 (by decide) ?_
    exact e2 c2
set_option maxRecDepth 10000 in
set_option maxHeartbeats 1000000 in
theorem sn_X12_fewest {l : Launch} {d : Nat} {Q : Option Value → mx_H → Prop} {c : Nat} {I : mx_I} (a1 : Int32) (a2 : Int32) (a3 : Int32) (a4 : Int32)
    (k1 : mx_K1 l mX12_isIn d [.int a1, .int 1, .int ((1 <<< ((I 121 2) &&& 31)) - 1)] (sk0 c, I) (fun r h' => mx_Go l (mx_rm (d + 1) 0 0) mX12_fewest (mx_Z Q 0 0) 0 0 15 [.ref 120, .int a1, .int a2, .int a3, .int a4, .retAddr 0, .retAddr 0, .retAddr 0] (r.toList ++ []) h')) :
    mx_Spec l mX12_fewest (d + 1) 0 0 [.ref 120, .int a1, .int a2, .int a3, .int a4] (sk0 c, I) Q := by
  refine mx_enter rfl (by simp [Value.category]) (Nat.le_of_ble_eq_true rfl) ?_
  change mx_Go l (mx_rm (d + 1) 0 0) mX12_fewest (mx_Z Q 0 0) 0 0 0 [.ref 120, .int a1, .int a2, .int a3, .int a4, .retAddr 0, .retAddr 0, .retAddr 0] [] (sk0 c, I)
  refine g_iload_n dX12_fewest_0 rfl rfl ?_
  refine g_iconst (v := 1) dX12_fewest_1 (by decide) ?_
  refine g_iconst (v := 1) dX12_fewest_2 (by decide) ?_
  refine g_aload_n dX12_fewest_3 rfl rfl ?_
  refine rg_X12_0 (r := 121) dX12_fewest_4 lf_X12_7 (sk_120 _) rfl ?_
  refine g_iconst (v := 2) dX12_fewest_7 (by decide) ?_
  refine s_iald (j := 2) (v := (I 121 2)) dX12_fewest_8 (sk_121 _) (by unfold vp_in; decide) (by decide) rfl ?_
  refine g_ishl dX12_fewest_9 ?_
  refine g_iconst (v := 1) dX12_fewest_10 (by decide) ?_
  refine g_isub dX12_fewest_11 ?_
  exact s_callS (M' := mX12_isIn) (As := [.int a1, .int 1, .int ((1 <<< ((I 121 2) &&& 31)) - 1)]) (st := []) dX12_fewest_12 lm_X12_50 okX12_isIn osX12_isIn (by simp [Value.category]) (by decide) rfl (k1)
set_option maxRecDepth 10000 in
set_option maxHeartbeats 1000000 in
theorem sg_X12_fewest_15 {l : Launch} {d : Nat} {Q : Option Value → mx_H → Prop} {c : Nat} {I : mx_I} (x1 : Int32) (x2 : Int32) (x3 : Int32) (x4 : Int32) (x5 : Int32)
    (q1 : (x5 = 0) → Q (some (.int (-1))) (sk0 c, I))
    (k2 : (¬ x5 = 0) → mx_K1 l mX12_isEnd d [.ref 120, .int x2] (sk0 c, I) (fun r h' => mx_Go l (mx_rm (d + 1) 0 0) mX12_fewest (mx_Z Q 0 0) 0 0 23 [.ref 120, .int x1, .int x2, .int x3, .int x4, .retAddr 0, .retAddr 0, .retAddr 0] (r.toList ++ []) h')) :
    mx_Go l (mx_rm (d + 1) 0 0) mX12_fewest (mx_Z Q 0 0) 0 0 15 [.ref 120, .int x1, .int x2, .int x3, .int x4, .retAddr 0, .retAddr 0, .retAddr 0] [.int x5] (sk0 c, I) := by
  refine g_if_eq (tgt := 44) dX12_fewest_15 (by decide) (fun c1 => ?_) (fun c2 => ?_)
  · skip
    refine g_iconst (v := (-1)) dX12_fewest_44 (by decide) ?_
    exact g_iret rfl dX12_fewest_45 rfl (Nat.le_refl _) (q1 c1)
  · skip
    refine g_aload_n dX12_fewest_18 rfl rfl ?_
    refine g_iload_n dX12_fewest_19 rfl rfl ?_
    exact s_callV (M' := mX12_isEnd) (As := [.int x2]) (st := []) dX12_fewest_20 lm_X12_58 ovX12_isEnd (h := (sk0 c, I)) (sk_120 _) (show vwCl[12]? = some _ from rfl) rfl (by simp [Value.category]) (by decide) rfl (k2 c2)
set_option maxRecDepth 10000 in
set_option maxHeartbeats 1000000 in
theorem sg_X12_fewest_23 {l : Launch} {d : Nat} {Q : Option Value → mx_H → Prop} {c : Nat} {I : mx_I} (x1 : Int32) (x2 : Int32) (x3 : Int32) (x4 : Int32) (x5 : Int32)
    (q1 : (x5 = 0) → Q (some (.int (-1))) (sk0 c, I))
    (k2 : (¬ x5 = 0) → mx_K1 l mX12_isHour d [.ref 120, .int x3] (sk0 c, I) (fun r h' => mx_Go l (mx_rm (d + 1) 0 0) mX12_fewest (mx_Z Q 0 0) 0 0 31 [.ref 120, .int x1, .int x2, .int x3, .int x4, .retAddr 0, .retAddr 0, .retAddr 0] (r.toList ++ []) h')) :
    mx_Go l (mx_rm (d + 1) 0 0) mX12_fewest (mx_Z Q 0 0) 0 0 23 [.ref 120, .int x1, .int x2, .int x3, .int x4, .retAddr 0, .retAddr 0, .retAddr 0] [.int x5] (sk0 c, I) := by
  refine g_if_eq (tgt := 44) dX12_fewest_23 (by decide) (fun c1 => ?_) (fun c2 => ?_)
  · skip
    refine g_iconst (v := (-1)) dX12_fewest_44 (by decide) ?_
    exact g_iret rfl dX12_fewest_45 rfl (Nat.le_refl _) (q1 c1)
  · skip
    refine g_aload_n dX12_fewest_26 rfl rfl ?_
    refine g_iload_n dX12_fewest_27 rfl rfl ?_
    exact s_callV (M' := mX12_isHour) (As := [.int x3]) (st := []) dX12_fewest_28 lm_X12_62 ovX12_isHour (h := (sk0 c, I)) (sk_120 _) (show vwCl[12]? = some _ from rfl) rfl (by simp [Value.category]) (by decide) rfl (k2 c2)
set_option maxRecDepth 10000 in
set_option maxHeartbeats 1000000 in
theorem sg_X12_fewest_31 {l : Launch} {d : Nat} {Q : Option Value → mx_H → Prop} {c : Nat} {I : mx_I} (x1 : Int32) (x2 : Int32) (x3 : Int32) (x4 : Int32) (x5 : Int32)
    (q1 : (x5 = 0) → Q (some (.int (-1))) (sk0 c, I))
    (k2 : (¬ x5 = 0) → mx_K1 l mX12_isIn d [.int x4, .int 0, .int 1] (sk0 c, I) (fun r h' => mx_Go l (mx_rm (d + 1) 0 0) mX12_fewest (mx_Z Q 0 0) 0 0 41 [.ref 120, .int x1, .int x2, .int x3, .int x4, .retAddr 0, .retAddr 0, .retAddr 0] (r.toList ++ []) h')) :
    mx_Go l (mx_rm (d + 1) 0 0) mX12_fewest (mx_Z Q 0 0) 0 0 31 [.ref 120, .int x1, .int x2, .int x3, .int x4, .retAddr 0, .retAddr 0, .retAddr 0] [.int x5] (sk0 c, I) := by
  refine g_if_eq (tgt := 44) dX12_fewest_31 (by decide) (fun c1 => ?_) (fun c2 => ?_)
  · skip
    refine g_iconst (v := (-1)) dX12_fewest_44 (by decide) ?_
    exact g_iret rfl dX12_fewest_45 rfl (Nat.le_refl _) (q1 c1)
  · skip
    refine g_iload dX12_fewest_34 rfl ?_
    refine g_iconst (v := 0) dX12_fewest_36 (by decide) ?_
    refine g_iconst (v := 1) dX12_fewest_37 (by decide) ?_
    exact s_callS (M' := mX12_isIn) (As := [.int x4, .int 0, .int 1]) (st := []) dX12_fewest_38 lm_X12_50 okX12_isIn osX12_isIn (by simp [Value.category]) (by decide) rfl (k2 c2)
set_option maxRecDepth 10000 in
set_option maxHeartbeats 1000000 in
theorem sg_X12_fewest_41 {l : Launch} {d : Nat} {Q : Option Value → mx_H → Prop} {c : Nat} {I : mx_I} (x1 : Int32) (x2 : Int32) (x3 : Int32) (x4 : Int32) (x5 : Int32)
    (e1 : (¬ x5 = 0) → mx_Go l (mx_rm (d + 1) 0 0) mX12_fewest (mx_Z Q 0 0) 0 0 52 [.ref 120, .int x1, .int x2, .int x3, .int x4, .int (-1), .int 0, .retAddr 0] [] (sk0 c, I))
    (q2 : (x5 = 0) → Q (some (.int (-1))) (sk0 c, I)) :
    mx_Go l (mx_rm (d + 1) 0 0) mX12_fewest (mx_Z Q 0 0) 0 0 41 [.ref 120, .int x1, .int x2, .int x3, .int x4, .retAddr 0, .retAddr 0, .retAddr 0] [.int x5] (sk0 c, I) := by
  refine g_if_ne (tgt := 46) dX12_fewest_41 (by decide) (fun c1 => ?_) (fun c2 => ?_)
  · skip
    refine g_iconst (v := (-1)) dX12_fewest_46 (by decide) ?_
    refine s_istore (L' := [.ref 120, .int x1, .int x2, .int x3, .int x4, .int (-1), .retAddr 0, .retAddr 0]) dX12_fewest_47 (by decide) rfl rfl ?_
    refine g_iconst (v := 0) dX12_fewest_49 (by decide) ?_
    refine s_istore (L' := [.ref 120, .int x1, .int x2, .int x3, .int x4, .int (-1), .int 0, .retAddr 0]) dX12_fewest_50 (by decide) rfl rfl ?_
    exact e1 c1
  · skip
    refine g_iconst (v := (-1)) dX12_fewest_44 (by decide) ?_
    exact g_iret rfl dX12_fewest_45 rfl (Nat.le_refl _) (q2 c2)
set_option maxRecDepth 10000 in
set_option maxHeartbeats 1000000 in
theorem sg_X12_fewest_52 {l : Launch} {d : Nat} {Q : Option Value → mx_H → Prop} {c : Nat} {I : mx_I} (x1 : Int32) (x2 : Int32) (x3 : Int32) (x4 : Int32) (x5 : Int32) (x6 : Int32)
    (q1 : ((1 <<< ((I 121 7) &&& 31)) ≤ x6) → (x5 = (-1)) → Q (some (.int x5)) (sk0 c, I))
    (k2 : ((1 <<< ((I 121 7) &&& 31)) ≤ x6) → (¬ x5 = (-1)) → (¬ x4 = 0) → mx_K1 l mX12_priceOf d [.ref 120, .int x5] (sk0 c, I) (fun r h' => mx_Go l (mx_rm (d + 1) 0 0) mX12_fewest (mx_Z Q 0 0) 0 0 158 [.ref 120, .int x1, .int x2, .int x3, .int x4, .int x5, .int x6, .retAddr 0] (r.toList ++ []) h'))
    (q3 : ((1 <<< ((I 121 7) &&& 31)) ≤ x6) → (¬ x5 = (-1)) → (x4 = 0) → Q (some (.int x5)) (sk0 c, I))
    (k4 : (¬ (1 <<< ((I 121 7) &&& 31)) ≤ x6) → (¬ x5 = (-1)) → mx_K1 l mX12_count d [.int x6] (sk0 c, I) (fun r h' => mx_Go l (mx_rm (d + 1) 0 0) mX12_fewest (mx_Z Q 0 0) 0 0 81 [.ref 120, .int x1, .int x2, .int x3, .int x4, .int x5, .int x6, .retAddr 0] (r.toList ++ []) h'))
    (k5 : (¬ (1 <<< ((I 121 7) &&& 31)) ≤ x6) → (x5 = (-1)) → mx_K1 l mX12_brings d [.ref 120, .int x6, .int x1, .int x2, .int x3] (sk0 c, I) (fun r h' => mx_Go l (mx_rm (d + 1) 0 0) mX12_fewest (mx_Z Q 0 0) 0 0 123 [.ref 120, .int x1, .int x2, .int x3, .int x4, .int x5, .int x6, .int (-1)] (r.toList ++ []) h')) :
    mx_Go l (mx_rm (d + 1) 0 0) mX12_fewest (mx_Z Q 0 0) 0 0 52 [.ref 120, .int x1, .int x2, .int x3, .int x4, .int x5, .int x6, .retAddr 0] [] (sk0 c, I) := by
  refine g_iload dX12_fewest_52 rfl ?_
  refine g_iconst (v := 1) dX12_fewest_54 (by decide) ?_
  refine g_aload_n dX12_fewest_55 rfl rfl ?_
  refine rg_X12_0 (r := 121) dX12_fewest_56 lf_X12_7 (sk_120 _) rfl ?_
  refine g_bipush (v := 7) dX12_fewest_59 (by decide) ?_
  refine s_iald (j := 7) (v := (I 121 7)) dX12_fewest_61 (sk_121 _) (by unfold vp_in; decide) (by decide) rfl ?_
  refine g_ishl dX12_fewest_62 ?_
  refine g_icmp_ge (tgt := 136) dX12_fewest_63 (by decide) (fun c1 => ?_) (fun c2 => ?_)
  · skip
    refine g_iload dX12_fewest_136 rfl ?_
    refine g_iconst (v := (-1)) dX12_fewest_138 (by decide) ?_
    refine g_icmp_eq (tgt := 147) dX12_fewest_139 (by decide) (fun c3 => ?_) (fun c4 => ?_)
    · skip
      refine g_iload dX12_fewest_147 rfl ?_
      refine g_goto (tgt := 158) dX12_fewest_149 (by decide) ?_
      exact g_iret rfl dX12_fewest_158 rfl (Nat.le_refl _) (q1 c1 c3)
    · skip
      refine g_iload dX12_fewest_142 rfl ?_
      refine g_if_ne (tgt := 152) dX12_fewest_144 (by decide) (fun c5 => ?_) (fun c6 => ?_)
      · skip
        refine g_aload_n dX12_fewest_152 rfl rfl ?_
        refine g_iload dX12_fewest_153 rfl ?_
        exact s_callV (M' := mX12_priceOf) (As := [.int x5]) (st := []) dX12_fewest_155 lm_X12_300 ovX12_priceOf (h := (sk0 c, I)) (sk_120 _) (show vwCl[12]? = some _ from rfl) rfl (by simp [Value.category]) (by decide) rfl (k2 c1 c4 c5)
      · skip
        refine g_iload dX12_fewest_147 rfl ?_
        refine g_goto (tgt := 158) dX12_fewest_149 (by decide) ?_
        exact g_iret rfl dX12_fewest_158 rfl (Nat.le_refl _) (q3 c1 c4 c6)
  · skip
    refine g_iload dX12_fewest_66 rfl ?_
    refine g_iconst (v := (-1)) dX12_fewest_68 (by decide) ?_
    refine g_icmp_ne (tgt := 76) dX12_fewest_69 (by decide) (fun c7 => ?_) (fun c8 => ?_)
    · skip
      refine g_iload dX12_fewest_76 rfl ?_
      exact s_callS (M' := mX12_count) (As := [.int x6]) (st := []) dX12_fewest_78 lm_X12_297 okX12_count osX12_count (by simp [Value.category]) (by decide) rfl (k4 c2 c7)
    · skip
      refine g_iconst (v := (-1)) dX12_fewest_72 (by decide) ?_
      refine g_goto (tgt := 87) dX12_fewest_73 (by decide) ?_
      refine s_istore (L' := [.ref 120, .int x1, .int x2, .int x3, .int x4, .int x5, .int x6, .int (-1)]) dX12_fewest_87 (by decide) rfl rfl ?_
      refine g_iload dX12_fewest_89 rfl ?_
      refine g_if_ne (tgt := 109) dX12_fewest_91 (by decide) (fun _ => ?_) (fun hh => absurd hh (by decide))
      refine g_iload dX12_fewest_109 rfl ?_
      refine g_if_ge (tgt := 130) dX12_fewest_111 (by decide) (fun hh => absurd hh (by decide)) (fun _ => ?_)
      refine g_aload_n dX12_fewest_114 rfl rfl ?_
      refine g_iload dX12_fewest_115 rfl ?_
      refine g_iload_n dX12_fewest_117 rfl rfl ?_
      refine g_iload_n dX12_fewest_118 rfl rfl ?_
      refine g_iload_n dX12_fewest_119 rfl rfl ?_
      exact s_callV (M' := mX12_brings) (As := [.int x6, .int x1, .int x2, .int x3]) (st := []) dX12_fewest_120 lm_X12_303 ovX12_brings (h := (sk0 c, I)) (sk_120 _) (show vwCl[12]? = some _ from rfl) rfl (by simp [Value.category]) (by decide) rfl (k5 c2 c8)
set_option maxRecDepth 10000 in
set_option maxHeartbeats 1000000 in
theorem sg_X12_fewest_158 {l : Launch} {d : Nat} {Q : Option Value → mx_H → Prop} {c : Nat} {I : mx_I} (x1 : Int32) (x2 : Int32) (x3 : Int32) (x4 : Int32) (x5 : Int32) (x6 : Int32) (x7 : Int32)
    (q1 : Q (some (.int x7)) (sk0 c, I)) :
    mx_Go l (mx_rm (d + 1) 0 0) mX12_fewest (mx_Z Q 0 0) 0 0 158 [.ref 120, .int x1, .int x2, .int x3, .int x4, .int x5, .int x6, .retAddr 0] [.int x7] (sk0 c, I) := by
  exact g_iret rfl dX12_fewest_158 rfl (Nat.le_refl _) (q1)
set_option maxRecDepth 10000 in
set_option maxHeartbeats 1000000 in
theorem sg_X12_fewest_81 {l : Launch} {d : Nat} {Q : Option Value → mx_H → Prop} {c : Nat} {I : mx_I} (x1 : Int32) (x2 : Int32) (x3 : Int32) (x4 : Int32) (x5 : Int32) (x6 : Int32) (x7 : Int32)
    (k1 : mx_K1 l mX12_count d [.int x5] (sk0 c, I) (fun r h' => mx_Go l (mx_rm (d + 1) 0 0) mX12_fewest (mx_Z Q 0 0) 0 0 86 [.ref 120, .int x1, .int x2, .int x3, .int x4, .int x5, .int x6, .retAddr 0] (r.toList ++ [.int x7]) h')) :
    mx_Go l (mx_rm (d + 1) 0 0) mX12_fewest (mx_Z Q 0 0) 0 0 81 [.ref 120, .int x1, .int x2, .int x3, .int x4, .int x5, .int x6, .retAddr 0] [.int x7] (sk0 c, I) := by
  refine g_iload dX12_fewest_81 rfl ?_
  exact s_callS (M' := mX12_count) (As := [.int x5]) (st := [.int x7]) dX12_fewest_83 lm_X12_297 okX12_count osX12_count (by simp [Value.category]) (by decide) rfl (k1)
set_option maxRecDepth 10000 in
set_option maxHeartbeats 1000000 in
theorem sg_X12_fewest_123 {l : Launch} {d : Nat} {Q : Option Value → mx_H → Prop} {c : Nat} {I : mx_I} (x1 : Int32) (x2 : Int32) (x3 : Int32) (x4 : Int32) (x5 : Int32) (x6 : Int32) (x7 : Int32) (x8 : Int32)
    (e1 : (x8 = 0) → mx_Go l (mx_rm (d + 1) 0 0) mX12_fewest (mx_Z Q 0 0) 0 0 52 [.ref 120, .int x1, .int x2, .int x3, .int x4, .int x5, .int (x6 + 1), .int x7] [] (sk0 c, I))
    (e2 : (¬ x8 = 0) → mx_Go l (mx_rm (d + 1) 0 0) mX12_fewest (mx_Z Q 0 0) 0 0 52 [.ref 120, .int x1, .int x2, .int x3, .int x4, .int x6, .int (x6 + 1), .int x7] [] (sk0 c, I)) :
    mx_Go l (mx_rm (d + 1) 0 0) mX12_fewest (mx_Z Q 0 0) 0 0 123 [.ref 120, .int x1, .int x2, .int x3, .int x4, .int x5, .int x6, .int x7] [.int x8] (sk0 c, I) := by
  refine g_if_eq (tgt := 130) dX12_fewest_123 (by decide) (fun c1 => ?_) (fun c2 => ?_)
  · skip
    refine s_iinc (v := (x6 + 1)) (L' := [.ref 120, .int x1, .int x2, .int x3, .int x4, .int x5, .int (x6 + 1), .int x7]) dX12_fewest_130 rfl (by decide) rfl rfl rfl ?_
    refine g_goto (tgt := 52) dX12_fewest_133 (by decide) ?_
    exact e1 c1
  · skip
    refine g_iload dX12_fewest_126 rfl ?_
    refine s_istore (L' := [.ref 120, .int x1, .int x2, .int x3, .int x4, .int x6, .int x6, .int x7]) dX12_fewest_128 (by decide) rfl rfl ?_
    refine s_iinc (v := (x6 + 1)) (L' := [.ref 120, .int x1, .int x2, .int x3, .int x4, .int x6, .int (x6 + 1), .int x7]) dX12_fewest_130 rfl (by decide) rfl rfl rfl ?_
    refine g_goto (tgt := 52) dX12_fewest_133 (by decide) ?_
    exact e2 c2
set_option maxRecDepth 10000 in
set_option maxHeartbeats 1000000 in
theorem sg_X12_fewest_86 {l : Launch} {d : Nat} {Q : Option Value → mx_H → Prop} {c : Nat} {I : mx_I} (x1 : Int32) (x2 : Int32) (x3 : Int32) (x4 : Int32) (x5 : Int32) (x6 : Int32) (x7 : Int32) (x8 : Int32)
    (e1 : (¬ (x8 - x7) = 0) → (0 ≤ (x8 - x7)) → mx_Go l (mx_rm (d + 1) 0 0) mX12_fewest (mx_Z Q 0 0) 0 0 52 [.ref 120, .int x1, .int x2, .int x3, .int x4, .int x5, .int (x6 + 1), .int (x8 - x7)] [] (sk0 c, I))
    (k2 : (¬ (x8 - x7) = 0) → (¬ 0 ≤ (x8 - x7)) → mx_K1 l mX12_brings d [.ref 120, .int x6, .int x1, .int x2, .int x3] (sk0 c, I) (fun r h' => mx_Go l (mx_rm (d + 1) 0 0) mX12_fewest (mx_Z Q 0 0) 0 0 123 [.ref 120, .int x1, .int x2, .int x3, .int x4, .int x5, .int x6, .int (x8 - x7)] (r.toList ++ []) h'))
    (k3 : ((x8 - x7) = 0) → mx_K1 l mX12_priceOf d [.ref 120, .int x6] (sk0 c, I) (fun r h' => mx_Go l (mx_rm (d + 1) 0 0) mX12_fewest (mx_Z Q 0 0) 0 0 100 [.ref 120, .int x1, .int x2, .int x3, .int x4, .int x5, .int x6, .int (x8 - x7)] (r.toList ++ []) h')) :
    mx_Go l (mx_rm (d + 1) 0 0) mX12_fewest (mx_Z Q 0 0) 0 0 86 [.ref 120, .int x1, .int x2, .int x3, .int x4, .int x5, .int x6, .retAddr 0] [.int x7, .int x8] (sk0 c, I) := by
  refine g_isub dX12_fewest_86 ?_
  refine s_istore (L' := [.ref 120, .int x1, .int x2, .int x3, .int x4, .int x5, .int x6, .int (x8 - x7)]) dX12_fewest_87 (by decide) rfl rfl ?_
  refine g_iload dX12_fewest_89 rfl ?_
  refine g_if_ne (tgt := 109) dX12_fewest_91 (by decide) (fun c1 => ?_) (fun c2 => ?_)
  · skip
    refine g_iload dX12_fewest_109 rfl ?_
    refine g_if_ge (tgt := 130) dX12_fewest_111 (by decide) (fun c3 => ?_) (fun c4 => ?_)
    · skip
      refine s_iinc (v := (x6 + 1)) (L' := [.ref 120, .int x1, .int x2, .int x3, .int x4, .int x5, .int (x6 + 1), .int (x8 - x7)]) dX12_fewest_130 rfl (by decide) rfl rfl rfl ?_
      refine g_goto (tgt := 52) dX12_fewest_133 (by decide) ?_
      exact e1 c1 c3
    · skip
      refine g_aload_n dX12_fewest_114 rfl rfl ?_
      refine g_iload dX12_fewest_115 rfl ?_
      refine g_iload_n dX12_fewest_117 rfl rfl ?_
      refine g_iload_n dX12_fewest_118 rfl rfl ?_
      refine g_iload_n dX12_fewest_119 rfl rfl ?_
      exact s_callV (M' := mX12_brings) (As := [.int x6, .int x1, .int x2, .int x3]) (st := []) dX12_fewest_120 lm_X12_303 ovX12_brings (h := (sk0 c, I)) (sk_120 _) (show vwCl[12]? = some _ from rfl) rfl (by simp [Value.category]) (by decide) rfl (k2 c1 c4)
  · skip
    refine g_aload_n dX12_fewest_94 rfl rfl ?_
    refine g_iload dX12_fewest_95 rfl ?_
    exact s_callV (M' := mX12_priceOf) (As := [.int x6]) (st := []) dX12_fewest_97 lm_X12_300 ovX12_priceOf (h := (sk0 c, I)) (sk_120 _) (show vwCl[12]? = some _ from rfl) rfl (by simp [Value.category]) (by decide) rfl (k3 c2)
set_option maxRecDepth 10000 in
set_option maxHeartbeats 1000000 in
theorem sg_X12_fewest_100 {l : Launch} {d : Nat} {Q : Option Value → mx_H → Prop} {c : Nat} {I : mx_I} (x1 : Int32) (x2 : Int32) (x3 : Int32) (x4 : Int32) (x5 : Int32) (x6 : Int32) (x7 : Int32) (x8 : Int32)
    (k1 : mx_K1 l mX12_priceOf d [.ref 120, .int x5] (sk0 c, I) (fun r h' => mx_Go l (mx_rm (d + 1) 0 0) mX12_fewest (mx_Z Q 0 0) 0 0 106 [.ref 120, .int x1, .int x2, .int x3, .int x4, .int x5, .int x6, .int x7] (r.toList ++ [.int x8]) h')) :
    mx_Go l (mx_rm (d + 1) 0 0) mX12_fewest (mx_Z Q 0 0) 0 0 100 [.ref 120, .int x1, .int x2, .int x3, .int x4, .int x5, .int x6, .int x7] [.int x8] (sk0 c, I) := by
  refine g_aload_n dX12_fewest_100 rfl rfl ?_
  refine g_iload dX12_fewest_101 rfl ?_
  exact s_callV (M' := mX12_priceOf) (As := [.int x5]) (st := [.int x8]) dX12_fewest_103 lm_X12_300 ovX12_priceOf (h := (sk0 c, I)) (sk_120 _) (show vwCl[12]? = some _ from rfl) rfl (by simp [Value.category]) (by decide) rfl (k1)
set_option maxRecDepth 10000 in
set_option maxHeartbeats 1000000 in
theorem sg_X12_fewest_106 {l : Launch} {d : Nat} {Q : Option Value → mx_H → Prop} {c : Nat} {I : mx_I} (x1 : Int32) (x2 : Int32) (x3 : Int32) (x4 : Int32) (x5 : Int32) (x6 : Int32) (x7 : Int32) (x8 : Int32) (x9 : Int32)
    (e1 : (0 ≤ (x9 - x8)) → mx_Go l (mx_rm (d + 1) 0 0) mX12_fewest (mx_Z Q 0 0) 0 0 52 [.ref 120, .int x1, .int x2, .int x3, .int x4, .int x5, .int (x6 + 1), .int (x9 - x8)] [] (sk0 c, I))
    (k2 : (¬ 0 ≤ (x9 - x8)) → mx_K1 l mX12_brings d [.ref 120, .int x6, .int x1, .int x2, .int x3] (sk0 c, I) (fun r h' => mx_Go l (mx_rm (d + 1) 0 0) mX12_fewest (mx_Z Q 0 0) 0 0 123 [.ref 120, .int x1, .int x2, .int x3, .int x4, .int x5, .int x6, .int (x9 - x8)] (r.toList ++ []) h')) :
    mx_Go l (mx_rm (d + 1) 0 0) mX12_fewest (mx_Z Q 0 0) 0 0 106 [.ref 120, .int x1, .int x2, .int x3, .int x4, .int x5, .int x6, .int x7] [.int x8, .int x9] (sk0 c, I) := by
  refine g_isub dX12_fewest_106 ?_
  refine s_istore (L' := [.ref 120, .int x1, .int x2, .int x3, .int x4, .int x5, .int x6, .int (x9 - x8)]) dX12_fewest_107 (by decide) rfl rfl ?_
  refine g_iload dX12_fewest_109 rfl ?_
  refine g_if_ge (tgt := 130) dX12_fewest_111 (by decide) (fun c1 => ?_) (fun c2 => ?_)
  · skip
    refine s_iinc (v := (x6 + 1)) (L' := [.ref 120, .int x1, .int x2, .int x3, .int x4, .int x5, .int (x6 + 1), .int (x9 - x8)]) dX12_fewest_130 rfl (by decide) rfl rfl rfl ?_
    refine g_goto (tgt := 52) dX12_fewest_133 (by decide) ?_
    exact e1 c1
  · skip
    refine g_aload_n dX12_fewest_114 rfl rfl ?_
    refine g_iload dX12_fewest_115 rfl ?_
    refine g_iload_n dX12_fewest_117 rfl rfl ?_
    refine g_iload_n dX12_fewest_118 rfl rfl ?_
    refine g_iload_n dX12_fewest_119 rfl rfl ?_
    exact s_callV (M' := mX12_brings) (As := [.int x6, .int x1, .int x2, .int x3]) (st := []) dX12_fewest_120 lm_X12_303 ovX12_brings (h := (sk0 c, I)) (sk_120 _) (show vwCl[12]? = some _ from rfl) rfl (by simp [Value.category]) (by decide) rfl (k2 c2)
set_option maxRecDepth 10000 in
set_option maxHeartbeats 1000000 in
theorem sn_X12_right {l : Launch} {d : Nat} {Q : Option Value → mx_H → Prop} {c : Nat} {I : mx_I} (a1 : Int32)
    (k1 : mx_K1 l mX12_isIn d [.int a1, .int 1, .int 20] (sk0 c, I) (fun r h' => mx_Go l (mx_rm (d + 1) 0 0) mX12_right (mx_Z Q 0 0) 0 0 7 [.ref 120, .int a1, .retAddr 0, .retAddr 0, .retAddr 0, .retAddr 0] (r.toList ++ []) h')) :
    mx_Spec l mX12_right (d + 1) 0 0 [.ref 120, .int a1] (sk0 c, I) Q := by
  refine mx_enter rfl (by simp [Value.category]) (Nat.le_of_ble_eq_true rfl) ?_
  change mx_Go l (mx_rm (d + 1) 0 0) mX12_right (mx_Z Q 0 0) 0 0 0 [.ref 120, .int a1, .retAddr 0, .retAddr 0, .retAddr 0, .retAddr 0] [] (sk0 c, I)
  refine g_iload_n dX12_right_0 rfl rfl ?_
  refine g_iconst (v := 1) dX12_right_1 (by decide) ?_
  refine g_bipush (v := 20) dX12_right_2 (by decide) ?_
  exact s_callS (M' := mX12_isIn) (As := [.int a1, .int 1, .int 20]) (st := []) dX12_right_4 lm_X12_50 okX12_isIn osX12_isIn (by simp [Value.category]) (by decide) rfl (k1)
set_option maxRecDepth 10000 in
set_option maxHeartbeats 1000000 in
theorem sg_X12_right_7 {l : Launch} {d : Nat} {Q : Option Value → mx_H → Prop} {c : Nat} {I : mx_I} (x1 : Int32) (x2 : Int32)
    (e1 : (¬ x2 = 0) → mx_Go l (mx_rm (d + 1) 0 0) mX12_right (mx_Z Q 0 0) 0 0 14 [.ref 120, .int x1, .int 0, .retAddr 0, .retAddr 0, .retAddr 0] [] (sk0 c, I))
    (q2 : (x2 = 0) → Q (some (.int (-1))) (sk0 c, I)) :
    mx_Go l (mx_rm (d + 1) 0 0) mX12_right (mx_Z Q 0 0) 0 0 7 [.ref 120, .int x1, .retAddr 0, .retAddr 0, .retAddr 0, .retAddr 0] [.int x2] (sk0 c, I) := by
  refine g_if_ne (tgt := 12) dX12_right_7 (by decide) (fun c1 => ?_) (fun c2 => ?_)
  · skip
    refine g_iconst (v := 0) dX12_right_12 (by decide) ?_
    refine s_istore_n (L' := [.ref 120, .int x1, .int 0, .retAddr 0, .retAddr 0, .retAddr 0]) dX12_right_13 rfl (by decide) rfl rfl ?_
    exact e1 c1
  · skip
    refine g_iconst (v := (-1)) dX12_right_10 (by decide) ?_
    exact g_iret rfl dX12_right_11 rfl (Nat.le_refl _) (q2 c2)
set_option maxRecDepth 10000 in
set_option maxHeartbeats 1000000 in
theorem sg_X12_right_14 {l : Launch} {d : Nat} {Q : Option Value → mx_H → Prop} {c : Nat} {I : mx_I} (x1 : Int32) (x2 : Int32)
    (q1 : (300 < x2) → Q (some (.int (-1))) (sk0 c, I))
    (k2 : (¬ 300 < x2) → mx_K1 l mX12_begins d [.ref 120] (sk0 c, I) (fun r h' => mx_Go l (mx_rm (d + 1) 0 0) mX12_right (mx_Z Q 0 0) 0 0 25 [.ref 120, .int x1, .int x2, .retAddr 0, .retAddr 0, .retAddr 0] (r.toList ++ []) h')) :
    mx_Go l (mx_rm (d + 1) 0 0) mX12_right (mx_Z Q 0 0) 0 0 14 [.ref 120, .int x1, .int x2, .retAddr 0, .retAddr 0, .retAddr 0] [] (sk0 c, I) := by
  refine g_iload_n dX12_right_14 rfl rfl ?_
  refine g_sipush (v := 300) dX12_right_15 (by decide) ?_
  refine g_icmp_gt (tgt := 132) dX12_right_18 (by decide) (fun c1 => ?_) (fun c2 => ?_)
  · skip
    refine g_iconst (v := (-1)) dX12_right_132 (by decide) ?_
    exact g_iret rfl dX12_right_133 rfl (Nat.le_refl _) (q1 c1)
  · skip
    refine g_aload_n dX12_right_21 rfl rfl ?_
    exact s_callV (M' := mX12_begins) (As := []) (st := []) dX12_right_22 lm_X12_285 ovX12_begins (h := (sk0 c, I)) (sk_120 _) (show vwCl[12]? = some _ from rfl) rfl (by simp [Value.category]) (by decide) rfl (k2 c2)
set_option maxRecDepth 10000 in
set_option maxHeartbeats 1000000 in
theorem sg_X12_right_25 {l : Launch} {d : Nat} {Q : Option Value → mx_H → Prop} {c : Nat} {I : mx_I} (x1 : Int32) (x2 : Int32)
    (e1 : mx_Go l (mx_rm (d + 1) 0 0) mX12_right (mx_Z Q 0 0) 0 0 39 [.ref 120, .int x1, .int x2, .int (I 121 1), .retAddr 0, .retAddr 0] [] (sk0 c, (mx_set I 121 4 x2))) :
    mx_Go l (mx_rm (d + 1) 0 0) mX12_right (mx_Z Q 0 0) 0 0 25 [.ref 120, .int x1, .int x2, .retAddr 0, .retAddr 0, .retAddr 0] [] (sk0 c, I) := by
  refine g_aload_n dX12_right_25 rfl rfl ?_
  refine rg_X12_0 (r := 121) dX12_right_26 lf_X12_7 (sk_120 _) rfl ?_
  refine g_iconst (v := 1) dX12_right_29 (by decide) ?_
  refine s_iald (j := 1) (v := (I 121 1)) dX12_right_30 (sk_121 _) (by unfold vp_in; decide) (by decide) rfl ?_
  refine s_istore_n (L' := [.ref 120, .int x1, .int x2, .int (I 121 1), .retAddr 0, .retAddr 0]) dX12_right_31 rfl (by decide) rfl rfl ?_
  refine g_aload_n dX12_right_32 rfl rfl ?_
  refine rg_X12_0 (r := 121) dX12_right_33 lf_X12_7 (sk_120 _) rfl ?_
  refine g_iconst (v := 4) dX12_right_36 (by decide) ?_
  refine g_iload_n dX12_right_37 rfl rfl ?_
  refine s_iast (j := 4) dX12_right_38 (sk_121 _) (by unfold vp_in; decide) (by decide) ?_
  exact e1
set_option maxRecDepth 10000 in
set_option maxHeartbeats 1000000 in
theorem sg_X12_right_39 {l : Launch} {d : Nat} {Q : Option Value → mx_H → Prop} {c : Nat} {I : mx_I} (x1 : Int32) (x2 : Int32) (x3 : Int32)
    (e1 : (167 < (I 121 1)) → mx_Go l (mx_rm (d + 1) 0 0) mX12_right (mx_Z Q 0 0) 0 0 64 [.ref 120, .int x1, .int x2, .int x3, .int 0, .int 0] [] (sk0 c, I))
    (k2 : (¬ 167 < (I 121 1)) → mx_K1 l mX12_anHour d [.ref 120] (sk0 c, I) (fun r h' => mx_Go l (mx_rm (d + 1) 0 0) mX12_right (mx_Z Q 0 0) 0 0 55 [.ref 120, .int x1, .int x2, .int x3, .retAddr 0, .retAddr 0] (r.toList ++ []) h')) :
    mx_Go l (mx_rm (d + 1) 0 0) mX12_right (mx_Z Q 0 0) 0 0 39 [.ref 120, .int x1, .int x2, .int x3, .retAddr 0, .retAddr 0] [] (sk0 c, I) := by
  refine g_aload_n dX12_right_39 rfl rfl ?_
  refine rg_X12_0 (r := 121) dX12_right_40 lf_X12_7 (sk_120 _) rfl ?_
  refine g_iconst (v := 1) dX12_right_43 (by decide) ?_
  refine s_iald (j := 1) (v := (I 121 1)) dX12_right_44 (sk_121 _) (by unfold vp_in; decide) (by decide) rfl ?_
  refine g_sipush (v := 167) dX12_right_45 (by decide) ?_
  refine g_icmp_gt (tgt := 58) dX12_right_48 (by decide) (fun c1 => ?_) (fun c2 => ?_)
  · skip
    refine g_iconst (v := 0) dX12_right_58 (by decide) ?_
    refine s_istore (L' := [.ref 120, .int x1, .int x2, .int x3, .int 0, .retAddr 0]) dX12_right_59 (by decide) rfl rfl ?_
    refine g_iconst (v := 0) dX12_right_61 (by decide) ?_
    refine s_istore (L' := [.ref 120, .int x1, .int x2, .int x3, .int 0, .int 0]) dX12_right_62 (by decide) rfl rfl ?_
    exact e1 c1
  · skip
    refine g_aload_n dX12_right_51 rfl rfl ?_
    exact s_callV (M' := mX12_anHour) (As := []) (st := []) dX12_right_52 lm_X12_282 ovX12_anHour (h := (sk0 c, I)) (sk_120 _) (show vwCl[12]? = some _ from rfl) rfl (by simp [Value.category]) (by decide) rfl (k2 c2)
set_option maxRecDepth 10000 in
set_option maxHeartbeats 1000000 in
theorem sg_X12_right_64 {l : Launch} {d : Nat} {Q : Option Value → mx_H → Prop} {c : Nat} {I : mx_I} (x1 : Int32) (x2 : Int32) (x3 : Int32) (x4 : Int32) (x5 : Int32)
    (k1 : ((I 121 3) ≤ x5) → mx_K1 l mX12_comesBack d [.ref 120] (sk0 c, I) (fun r h' => mx_Go l (mx_rm (d + 1) 0 0) mX12_right (mx_Z Q 0 0) 0 0 118 [.ref 120, .int x1, .int x2, .int x3, .int x4, .int x5] (r.toList ++ []) h'))
    (k2 : (¬ (I 121 3) ≤ x5) → mx_K1 l mX12_ofOne d [.ref 120, .int x5, .int 8] (sk0 c, I) (fun r h' => mx_Go l (mx_rm (d + 1) 0 0) mX12_right (mx_Z Q 0 0) 0 0 85 [.ref 120, .int x1, .int x2, .int x3, .int x4, .int x5] (r.toList ++ [.int x4]) h')) :
    mx_Go l (mx_rm (d + 1) 0 0) mX12_right (mx_Z Q 0 0) 0 0 64 [.ref 120, .int x1, .int x2, .int x3, .int x4, .int x5] [] (sk0 c, I) := by
  refine g_iload dX12_right_64 rfl ?_
  refine g_aload_n dX12_right_66 rfl rfl ?_
  refine rg_X12_0 (r := 121) dX12_right_67 lf_X12_7 (sk_120 _) rfl ?_
  refine g_iconst (v := 3) dX12_right_70 (by decide) ?_
  refine s_iald (j := 3) (v := (I 121 3)) dX12_right_71 (sk_121 _) (by unfold vp_in; decide) (by decide) rfl ?_
  refine g_icmp_ge (tgt := 114) dX12_right_72 (by decide) (fun c1 => ?_) (fun c2 => ?_)
  · skip
    refine g_aload_n dX12_right_114 rfl rfl ?_
    exact s_callV (M' := mX12_comesBack) (As := []) (st := []) dX12_right_115 lm_X12_291 ovX12_comesBack (h := (sk0 c, I)) (sk_120 _) (show vwCl[12]? = some _ from rfl) rfl (by simp [Value.category]) (by decide) rfl (k1 c1)
  · skip
    refine g_iload dX12_right_75 rfl ?_
    refine g_aload_n dX12_right_77 rfl rfl ?_
    refine g_iload dX12_right_78 rfl ?_
    refine g_bipush (v := 8) dX12_right_80 (by decide) ?_
    exact s_callV (M' := mX12_ofOne) (As := [.int x5, .int 8]) (st := [.int x4]) dX12_right_82 lm_X12_80 ovX12_ofOne (h := (sk0 c, I)) (sk_120 _) (show vwCl[12]? = some _ from rfl) rfl (by simp [Value.category]) (by decide) rfl (k2 c2)
set_option maxRecDepth 10000 in
set_option maxHeartbeats 1000000 in
theorem sg_X12_right_55 {l : Launch} {d : Nat} {Q : Option Value → mx_H → Prop} {c : Nat} {I : mx_I} (x1 : Int32) (x2 : Int32) (x3 : Int32)
    (e1 : mx_Go l (mx_rm (d + 1) 0 0) mX12_right (mx_Z Q 0 0) 0 0 39 [.ref 120, .int x1, .int x2, .int x3, .retAddr 0, .retAddr 0] [] (sk0 c, I)) :
    mx_Go l (mx_rm (d + 1) 0 0) mX12_right (mx_Z Q 0 0) 0 0 55 [.ref 120, .int x1, .int x2, .int x3, .retAddr 0, .retAddr 0] [] (sk0 c, I) := by
  refine g_goto (tgt := 39) dX12_right_55 (by decide) ?_
  exact e1
set_option maxRecDepth 10000 in
set_option maxHeartbeats 1000000 in
theorem sg_X12_right_118 {l : Launch} {d : Nat} {Q : Option Value → mx_H → Prop} {c : Nat} {I : mx_I} (x1 : Int32) (x2 : Int32) (x3 : Int32) (x4 : Int32) (x5 : Int32)
    (e1 : (x4 < x1) → mx_Go l (mx_rm (d + 1) 0 0) mX12_right (mx_Z Q 0 0) 0 0 14 [.ref 120, .int x1, .int (x2 + 1), .int x3, .int x4, .int x5] [] (sk0 c, I))
    (q2 : (¬ x4 < x1) → Q (some (.int x2)) (sk0 c, I)) :
    mx_Go l (mx_rm (d + 1) 0 0) mX12_right (mx_Z Q 0 0) 0 0 118 [.ref 120, .int x1, .int x2, .int x3, .int x4, .int x5] [] (sk0 c, I) := by
  refine g_iload dX12_right_118 rfl ?_
  refine g_iload_n dX12_right_120 rfl rfl ?_
  refine g_icmp_lt (tgt := 126) dX12_right_121 (by decide) (fun c1 => ?_) (fun c2 => ?_)
  · skip
    refine s_iinc (v := (x2 + 1)) (L' := [.ref 120, .int x1, .int (x2 + 1), .int x3, .int x4, .int x5]) dX12_right_126 rfl (by decide) rfl rfl rfl ?_
    refine g_goto (tgt := 14) dX12_right_129 (by decide) ?_
    exact e1 c1
  · skip
    refine g_iload_n dX12_right_124 rfl rfl ?_
    exact g_iret rfl dX12_right_125 rfl (Nat.le_refl _) (q2 c2)
set_option maxRecDepth 10000 in
set_option maxHeartbeats 1000000 in
theorem sg_X12_right_85 {l : Launch} {d : Nat} {Q : Option Value → mx_H → Prop} {c : Nat} {I : mx_I} (x1 : Int32) (x2 : Int32) (x3 : Int32) (x4 : Int32) (x5 : Int32) (x6 : Int32) (x7 : Int32)
    (e1 : (x6 < x3) → mx_Go l (mx_rm (d + 1) 0 0) mX12_right (mx_Z Q 0 0) 0 0 64 [.ref 120, .int x1, .int x2, .int x3, .int (x7 + 0), .int (x5 + 1)] [] (sk0 c, I))
    (k2 : (¬ x6 < x3) → mx_K1 l mX12_ofOne d [.ref 120, .int x5, .int 9] (sk0 c, I) (fun r h' => mx_Go l (mx_rm (d + 1) 0 0) mX12_right (mx_Z Q 0 0) 0 0 97 [.ref 120, .int x1, .int x2, .int x3, .int x4, .int x5] (r.toList ++ [.int x7]) h')) :
    mx_Go l (mx_rm (d + 1) 0 0) mX12_right (mx_Z Q 0 0) 0 0 85 [.ref 120, .int x1, .int x2, .int x3, .int x4, .int x5] [.int x6, .int x7] (sk0 c, I) := by
  refine g_iload_n dX12_right_85 rfl rfl ?_
  refine g_icmp_lt (tgt := 104) dX12_right_86 (by decide) (fun c1 => ?_) (fun c2 => ?_)
  · skip
    refine g_iconst (v := 0) dX12_right_104 (by decide) ?_
    refine g_iadd dX12_right_105 ?_
    refine s_istore (L' := [.ref 120, .int x1, .int x2, .int x3, .int (x7 + 0), .int x5]) dX12_right_106 (by decide) rfl rfl ?_
    refine s_iinc (v := (x5 + 1)) (L' := [.ref 120, .int x1, .int x2, .int x3, .int (x7 + 0), .int (x5 + 1)]) dX12_right_108 rfl (by decide) rfl rfl rfl ?_
    refine g_goto (tgt := 64) dX12_right_111 (by decide) ?_
    exact e1 c1
  · skip
    refine g_aload_n dX12_right_89 rfl rfl ?_
    refine g_iload dX12_right_90 rfl ?_
    refine g_bipush (v := 9) dX12_right_92 (by decide) ?_
    exact s_callV (M' := mX12_ofOne) (As := [.int x5, .int 9]) (st := [.int x7]) dX12_right_94 lm_X12_80 ovX12_ofOne (h := (sk0 c, I)) (sk_120 _) (show vwCl[12]? = some _ from rfl) rfl (by simp [Value.category]) (by decide) rfl (k2 c2)
set_option maxRecDepth 10000 in
set_option maxHeartbeats 1000000 in
theorem sg_X12_right_97 {l : Launch} {d : Nat} {Q : Option Value → mx_H → Prop} {c : Nat} {I : mx_I} (x1 : Int32) (x2 : Int32) (x3 : Int32) (x4 : Int32) (x5 : Int32) (x6 : Int32) (x7 : Int32)
    (e1 : (x6 ≤ 0) → mx_Go l (mx_rm (d + 1) 0 0) mX12_right (mx_Z Q 0 0) 0 0 64 [.ref 120, .int x1, .int x2, .int x3, .int (x7 + 0), .int (x5 + 1)] [] (sk0 c, I))
    (e2 : (¬ x6 ≤ 0) → mx_Go l (mx_rm (d + 1) 0 0) mX12_right (mx_Z Q 0 0) 0 0 64 [.ref 120, .int x1, .int x2, .int x3, .int (x7 + 1), .int (x5 + 1)] [] (sk0 c, I)) :
    mx_Go l (mx_rm (d + 1) 0 0) mX12_right (mx_Z Q 0 0) 0 0 97 [.ref 120, .int x1, .int x2, .int x3, .int x4, .int x5] [.int x6, .int x7] (sk0 c, I) := by
  refine g_if_le (tgt := 104) dX12_right_97 (by decide) (fun c1 => ?_) (fun c2 => ?_)
  · skip
    refine g_iconst (v := 0) dX12_right_104 (by decide) ?_
    refine g_iadd dX12_right_105 ?_
    refine s_istore (L' := [.ref 120, .int x1, .int x2, .int x3, .int (x7 + 0), .int x5]) dX12_right_106 (by decide) rfl rfl ?_
    refine s_iinc (v := (x5 + 1)) (L' := [.ref 120, .int x1, .int x2, .int x3, .int (x7 + 0), .int (x5 + 1)]) dX12_right_108 rfl (by decide) rfl rfl rfl ?_
    refine g_goto (tgt := 64) dX12_right_111 (by decide) ?_
    exact e1 c1
  · skip
    refine g_iconst (v := 1) dX12_right_100 (by decide) ?_
    refine g_goto (tgt := 105) dX12_right_101 (by decide) ?_
    refine g_iadd dX12_right_105 ?_
    refine s_istore (L' := [.ref 120, .int x1, .int x2, .int x3, .int (x7 + 1), .int x5]) dX12_right_106 (by decide) rfl rfl ?_
    refine s_iinc (v := (x5 + 1)) (L' := [.ref 120, .int x1, .int x2, .int x3, .int (x7 + 1), .int (x5 + 1)]) dX12_right_108 rfl (by decide) rfl rfl rfl ?_
    refine g_goto (tgt := 64) dX12_right_111 (by decide) ?_
    exact e2 c2
set_option maxRecDepth 10000 in
set_option maxHeartbeats 1000000 in
theorem sn_X12_list {l : Launch} {d : Nat} {Q : Option Value → mx_H → Prop} {c : Nat} {I : mx_I} (a1 : Int32) (a2 : Int32) (a3 : Int32)
    (k1 : mx_K1 l mX12_isIn d [.int a1, .int 0, .int 167] (sk0 c, I) (fun r h' => mx_Go l (mx_rm (d + 1) 0 0) mX12_list (mx_Z Q 0 0) 0 0 8 [.ref 120, .int a1, .int a2, .int a3, .retAddr 0] (r.toList ++ []) h')) :
    mx_Spec l mX12_list (d + 1) 0 0 [.ref 120, .int a1, .int a2, .int a3] (sk0 c, I) Q := by
  refine mx_enter rfl (by simp [Value.category]) (Nat.le_of_ble_eq_true rfl) ?_
  change mx_Go l (mx_rm (d + 1) 0 0) mX12_list (mx_Z Q 0 0) 0 0 0 [.ref 120, .int a1, .int a2, .int a3, .retAddr 0] [] (sk0 c, I)
  refine g_iload_n dX12_list_0 rfl rfl ?_
  refine g_iconst (v := 0) dX12_list_1 (by decide) ?_
  refine g_sipush (v := 167) dX12_list_2 (by decide) ?_
  exact s_callS (M' := mX12_isIn) (As := [.int a1, .int 0, .int 167]) (st := []) dX12_list_5 lm_X12_50 okX12_isIn osX12_isIn (by simp [Value.category]) (by decide) rfl (k1)
set_option maxRecDepth 10000 in
set_option maxHeartbeats 1000000 in
theorem sg_X12_list_8 {l : Launch} {d : Nat} {Q : Option Value → mx_H → Prop} {c : Nat} {I : mx_I} (x1 : Int32) (x2 : Int32) (x3 : Int32) (x4 : Int32)
    (q1 : (x4 = 0) → Q (some (.int 0)) (sk0 c, I))
    (k2 : (¬ x4 = 0) → mx_K1 l mX12_isEnd d [.ref 120, .int x2] (sk0 c, I) (fun r h' => mx_Go l (mx_rm (d + 1) 0 0) mX12_list (mx_Z Q 0 0) 0 0 16 [.ref 120, .int x1, .int x2, .int x3, .retAddr 0] (r.toList ++ []) h')) :
    mx_Go l (mx_rm (d + 1) 0 0) mX12_list (mx_Z Q 0 0) 0 0 8 [.ref 120, .int x1, .int x2, .int x3, .retAddr 0] [.int x4] (sk0 c, I) := by
  refine g_if_eq (tgt := 49) dX12_list_8 (by decide) (fun c1 => ?_) (fun c2 => ?_)
  · skip
    refine g_iconst (v := 0) dX12_list_49 (by decide) ?_
    exact g_zret (ty := .boolean) rfl rfl dX12_list_50 rfl (Nat.le_refl _) (q1 c1)
  · skip
    refine g_aload_n dX12_list_11 rfl rfl ?_
    refine g_iload_n dX12_list_12 rfl rfl ?_
    exact s_callV (M' := mX12_isEnd) (As := [.int x2]) (st := []) dX12_list_13 lm_X12_58 ovX12_isEnd (h := (sk0 c, I)) (sk_120 _) (show vwCl[12]? = some _ from rfl) rfl (by simp [Value.category]) (by decide) rfl (k2 c2)
set_option maxRecDepth 10000 in
set_option maxHeartbeats 1000000 in
theorem sg_X12_list_16 {l : Launch} {d : Nat} {Q : Option Value → mx_H → Prop} {c : Nat} {I : mx_I} (x1 : Int32) (x2 : Int32) (x3 : Int32) (x4 : Int32)
    (q1 : (x4 = 0) → Q (some (.int 0)) (sk0 c, I))
    (k2 : (¬ x4 = 0) → mx_K1 l mX12_isIn d [.int x3, .int 0, .int ((1 <<< ((I 121 2) &&& 31)) - 1)] (sk0 c, I) (fun r h' => mx_Go l (mx_rm (d + 1) 0 0) mX12_list (mx_Z Q 0 0) 0 0 34 [.ref 120, .int x1, .int x2, .int x3, .retAddr 0] (r.toList ++ []) h')) :
    mx_Go l (mx_rm (d + 1) 0 0) mX12_list (mx_Z Q 0 0) 0 0 16 [.ref 120, .int x1, .int x2, .int x3, .retAddr 0] [.int x4] (sk0 c, I) := by
  refine g_if_eq (tgt := 49) dX12_list_16 (by decide) (fun c1 => ?_) (fun c2 => ?_)
  · skip
    refine g_iconst (v := 0) dX12_list_49 (by decide) ?_
    exact g_zret (ty := .boolean) rfl rfl dX12_list_50 rfl (Nat.le_refl _) (q1 c1)
  · skip
    refine g_iload_n dX12_list_19 rfl rfl ?_
    refine g_iconst (v := 0) dX12_list_20 (by decide) ?_
    refine g_iconst (v := 1) dX12_list_21 (by decide) ?_
    refine g_aload_n dX12_list_22 rfl rfl ?_
    refine rg_X12_0 (r := 121) dX12_list_23 lf_X12_7 (sk_120 _) rfl ?_
    refine g_iconst (v := 2) dX12_list_26 (by decide) ?_
    refine s_iald (j := 2) (v := (I 121 2)) dX12_list_27 (sk_121 _) (by unfold vp_in; decide) (by decide) rfl ?_
    refine g_ishl dX12_list_28 ?_
    refine g_iconst (v := 1) dX12_list_29 (by decide) ?_
    refine g_isub dX12_list_30 ?_
    exact s_callS (M' := mX12_isIn) (As := [.int x3, .int 0, .int ((1 <<< ((I 121 2) &&& 31)) - 1)]) (st := []) dX12_list_31 lm_X12_50 okX12_isIn osX12_isIn (by simp [Value.category]) (by decide) rfl (k2 c2)
set_option maxRecDepth 10000 in
set_option maxHeartbeats 1000000 in
theorem sg_X12_list_34 {l : Launch} {d : Nat} {Q : Option Value → mx_H → Prop} {c : Nat} {I : mx_I} (x1 : Int32) (x2 : Int32) (x3 : Int32) (x4 : Int32)
    (q1 : (x4 = 0) → Q (some (.int 0)) (sk0 c, I))
    (b2 : (¬ x4 = 0) → (¬ (I 121 8) = 20) → vp_in (1540 + (3 * (I 121 8))) 2490)
    (b3 : (¬ x4 = 0) → (¬ (I 121 8) = 20) → vp_in ((1540 + (3 * (I 121 8))) + 1) 2490)
    (b4 : (¬ x4 = 0) → (¬ (I 121 8) = 20) → vp_in ((1540 + (3 * (I 121 8))) + 2) 2490)
    (q5 : (¬ x4 = 0) → (¬ (I 121 8) = 20) → Q (some (.int 1)) (sk0 c, (mx_set (mx_set (mx_set (mx_set I 121 (1540 + (3 * (I 121 8))).toNatClampNeg x1) 121 ((1540 + (3 * (I 121 8))) + 1).toNatClampNeg x2) 121 ((1540 + (3 * (I 121 8))) + 2).toNatClampNeg x3) 121 8 (((mx_set (mx_set (mx_set I 121 (1540 + (3 * (I 121 8))).toNatClampNeg x1) 121 ((1540 + (3 * (I 121 8))) + 1).toNatClampNeg x2) 121 ((1540 + (3 * (I 121 8))) + 2).toNatClampNeg x3) 121 8) + 1))))
    (q6 : (¬ x4 = 0) → ((I 121 8) = 20) → Q (some (.int 0)) (sk0 c, I)) :
    mx_Go l (mx_rm (d + 1) 0 0) mX12_list (mx_Z Q 0 0) 0 0 34 [.ref 120, .int x1, .int x2, .int x3, .retAddr 0] [.int x4] (sk0 c, I) := by
  refine g_if_eq (tgt := 49) dX12_list_34 (by decide) (fun c1 => ?_) (fun c2 => ?_)
  · skip
    refine g_iconst (v := 0) dX12_list_49 (by decide) ?_
    exact g_zret (ty := .boolean) rfl rfl dX12_list_50 rfl (Nat.le_refl _) (q1 c1)
  · skip
    refine g_aload_n dX12_list_37 rfl rfl ?_
    refine rg_X12_0 (r := 121) dX12_list_38 lf_X12_7 (sk_120 _) rfl ?_
    refine g_bipush (v := 8) dX12_list_41 (by decide) ?_
    refine s_iald (j := 8) (v := (I 121 8)) dX12_list_43 (sk_121 _) (by unfold vp_in; decide) (by decide) rfl ?_
    refine g_bipush (v := 20) dX12_list_44 (by decide) ?_
    refine g_icmp_ne (tgt := 51) dX12_list_46 (by decide) (fun c3 => ?_) (fun c4 => ?_)
    · skip
      refine g_sipush (v := 1540) dX12_list_51 (by decide) ?_
      refine g_iconst (v := 3) dX12_list_54 (by decide) ?_
      refine g_aload_n dX12_list_55 rfl rfl ?_
      refine rg_X12_0 (r := 121) dX12_list_56 lf_X12_7 (sk_120 _) rfl ?_
      refine g_bipush (v := 8) dX12_list_59 (by decide) ?_
      refine s_iald (j := 8) (v := (I 121 8)) dX12_list_61 (sk_121 _) (by unfold vp_in; decide) (by decide) rfl ?_
      refine g_imul dX12_list_62 ?_
      refine g_iadd dX12_list_63 ?_
      refine s_istore (L' := [.ref 120, .int x1, .int x2, .int x3, .int (1540 + (3 * (I 121 8)))]) dX12_list_64 (by decide) rfl rfl ?_
      refine g_aload_n dX12_list_66 rfl rfl ?_
      refine rg_X12_0 (r := 121) dX12_list_67 lf_X12_7 (sk_120 _) rfl ?_
      refine g_iload dX12_list_70 rfl ?_
      refine g_iload_n dX12_list_72 rfl rfl ?_
      refine s_iast (j := (1540 + (3 * (I 121 8))).toNatClampNeg) dX12_list_73 (sk_121 _) (b2 c2 c3) rfl ?_
      refine g_aload_n dX12_list_74 rfl rfl ?_
      refine rg_X12_0 (r := 121) dX12_list_75 lf_X12_7 (sk_120 _) rfl ?_
      refine g_iload dX12_list_78 rfl ?_
      refine g_iconst (v := 1) dX12_list_80 (by decide) ?_
      refine g_iadd dX12_list_81 ?_
      refine g_iload_n dX12_list_82 rfl rfl ?_
      refine s_iast (j := ((1540 + (3 * (I 121 8))) + 1).toNatClampNeg) dX12_list_83 (sk_121 _) (b3 c2 c3) rfl ?_
      refine g_aload_n dX12_list_84 rfl rfl ?_
      refine rg_X12_0 (r := 121) dX12_list_85 lf_X12_7 (sk_120 _) rfl ?_
      refine g_iload dX12_list_88 rfl ?_
      refine g_iconst (v := 2) dX12_list_90 (by decide) ?_
      refine g_iadd dX12_list_91 ?_
      refine g_iload_n dX12_list_92 rfl rfl ?_
      refine s_iast (j := ((1540 + (3 * (I 121 8))) + 2).toNatClampNeg) dX12_list_93 (sk_121 _) (b4 c2 c3) rfl ?_
      refine g_aload_n dX12_list_94 rfl rfl ?_
      refine rg_X12_0 (r := 121) dX12_list_95 lf_X12_7 (sk_120 _) rfl ?_
      refine g_bipush (v := 8) dX12_list_98 (by decide) ?_
      refine g_dup2 dX12_list_100 rfl rfl ?_
      refine s_iald (j := 8) (v := ((mx_set (mx_set (mx_set I 121 (1540 + (3 * (I 121 8))).toNatClampNeg x1) 121 ((1540 + (3 * (I 121 8))) + 1).toNatClampNeg x2) 121 ((1540 + (3 * (I 121 8))) + 2).toNatClampNeg x3) 121 8)) dX12_list_101 (sk_121 _) (by unfold vp_in; decide) (by decide) rfl ?_
      refine g_iconst (v := 1) dX12_list_102 (by decide) ?_
      refine g_iadd dX12_list_103 ?_
      refine s_iast (j := 8) dX12_list_104 (sk_121 _) (by unfold vp_in; decide) (by decide) ?_
      refine g_iconst (v := 1) dX12_list_105 (by decide) ?_
      exact g_zret (ty := .boolean) rfl rfl dX12_list_106 rfl (Nat.le_refl _) (q5 c2 c3)
    · skip
      refine g_iconst (v := 0) dX12_list_49 (by decide) ?_
      exact g_zret (ty := .boolean) rfl rfl dX12_list_50 rfl (Nat.le_refl _) (q6 c2 c4)
set_option maxRecDepth 10000 in
set_option maxHeartbeats 1000000 in
theorem sn_X12_setAt {l : Launch} {d : Nat} {Q : Option Value → mx_H → Prop} {c : Nat} {I : mx_I} (a1 : Int32)
    (e1 : mx_Go l (mx_rm (d + 1) 0 0) mX12_setAt (mx_Z Q 0 0) 0 0 4 [.ref 120, .int a1, .int 0, .int 0] [] (sk0 c, I)) :
    mx_Spec l mX12_setAt (d + 1) 0 0 [.ref 120, .int a1] (sk0 c, I) Q := by
  refine mx_enter rfl (by simp [Value.category]) (Nat.le_of_ble_eq_true rfl) ?_
  change mx_Go l (mx_rm (d + 1) 0 0) mX12_setAt (mx_Z Q 0 0) 0 0 0 [.ref 120, .int a1, .retAddr 0, .retAddr 0] [] (sk0 c, I)
  refine g_iconst (v := 0) dX12_setAt_0 (by decide) ?_
  refine s_istore_n (L' := [.ref 120, .int a1, .int 0, .retAddr 0]) dX12_setAt_1 rfl (by decide) rfl rfl ?_
  refine g_iconst (v := 0) dX12_setAt_2 (by decide) ?_
  refine s_istore_n (L' := [.ref 120, .int a1, .int 0, .int 0]) dX12_setAt_3 rfl (by decide) rfl rfl ?_
  exact e1
set_option maxRecDepth 10000 in
set_option maxHeartbeats 1000000 in
theorem sg_X12_setAt_4 {l : Launch} {d : Nat} {Q : Option Value → mx_H → Prop} {c : Nat} {I : mx_I} (x1 : Int32) (x2 : Int32) (x3 : Int32)
    (q1 : ((I 121 2) ≤ x3) → Q (some (.int x2)) (sk0 c, I))
    (k2 : (¬ (I 121 2) ≤ x3) → mx_K1 l mX12_isThere d [.ref 120, .int x3, .int x1] (sk0 c, I) (fun r h' => mx_Go l (mx_rm (d + 1) 0 0) mX12_setAt (mx_Z Q 0 0) 0 0 21 [.ref 120, .int x1, .int x2, .int x3] (r.toList ++ [.int x2]) h')) :
    mx_Go l (mx_rm (d + 1) 0 0) mX12_setAt (mx_Z Q 0 0) 0 0 4 [.ref 120, .int x1, .int x2, .int x3] [] (sk0 c, I) := by
  refine g_iload_n dX12_setAt_4 rfl rfl ?_
  refine g_aload_n dX12_setAt_5 rfl rfl ?_
  refine rg_X12_0 (r := 121) dX12_setAt_6 lf_X12_7 (sk_120 _) rfl ?_
  refine g_iconst (v := 2) dX12_setAt_9 (by decide) ?_
  refine s_iald (j := 2) (v := (I 121 2)) dX12_setAt_10 (sk_121 _) (by unfold vp_in; decide) (by decide) rfl ?_
  refine g_icmp_ge (tgt := 39) dX12_setAt_11 (by decide) (fun c1 => ?_) (fun c2 => ?_)
  · skip
    refine g_iload_n dX12_setAt_39 rfl rfl ?_
    exact g_iret rfl dX12_setAt_40 rfl (Nat.le_refl _) (q1 c1)
  · skip
    refine g_iload_n dX12_setAt_14 rfl rfl ?_
    refine g_aload_n dX12_setAt_15 rfl rfl ?_
    refine g_iload_n dX12_setAt_16 rfl rfl ?_
    refine g_iload_n dX12_setAt_17 rfl rfl ?_
    exact s_callV (M' := mX12_isThere) (As := [.int x3, .int x1]) (st := [.int x2]) dX12_setAt_18 lm_X12_226 ovX12_isThere (h := (sk0 c, I)) (sk_120 _) (show vwCl[12]? = some _ from rfl) rfl (by simp [Value.category]) (by decide) rfl (k2 c2)
set_option maxRecDepth 10000 in
set_option maxHeartbeats 1000000 in
theorem sg_X12_setAt_21 {l : Launch} {d : Nat} {Q : Option Value → mx_H → Prop} {c : Nat} {I : mx_I} (x1 : Int32) (x2 : Int32) (x3 : Int32) (x4 : Int32) (x5 : Int32)
    (e1 : (x4 = 0) → mx_Go l (mx_rm (d + 1) 0 0) mX12_setAt (mx_Z Q 0 0) 0 0 4 [.ref 120, .int x1, .int (x5 ||| 0), .int (x3 + 1)] [] (sk0 c, I))
    (e2 : (¬ x4 = 0) → mx_Go l (mx_rm (d + 1) 0 0) mX12_setAt (mx_Z Q 0 0) 0 0 4 [.ref 120, .int x1, .int (x5 ||| (1 <<< (x3 &&& 31))), .int (x3 + 1)] [] (sk0 c, I)) :
    mx_Go l (mx_rm (d + 1) 0 0) mX12_setAt (mx_Z Q 0 0) 0 0 21 [.ref 120, .int x1, .int x2, .int x3] [.int x4, .int x5] (sk0 c, I) := by
  refine g_if_eq (tgt := 30) dX12_setAt_21 (by decide) (fun c1 => ?_) (fun c2 => ?_)
  · skip
    refine g_iconst (v := 0) dX12_setAt_30 (by decide) ?_
    refine g_ior dX12_setAt_31 ?_
    refine s_istore_n (L' := [.ref 120, .int x1, .int (x5 ||| 0), .int x3]) dX12_setAt_32 rfl (by decide) rfl rfl ?_
    refine s_iinc (v := (x3 + 1)) (L' := [.ref 120, .int x1, .int (x5 ||| 0), .int (x3 + 1)]) dX12_setAt_33 rfl (by decide) rfl rfl rfl ?_
    refine g_goto (tgt := 4) dX12_setAt_36 (by decide) ?_
    exact e1 c1
  · skip
    refine g_iconst (v := 1) dX12_setAt_24 (by decide) ?_
    refine g_iload_n dX12_setAt_25 rfl rfl ?_
    refine g_ishl dX12_setAt_26 ?_
    refine g_goto (tgt := 31) dX12_setAt_27 (by decide) ?_
    refine g_ior dX12_setAt_31 ?_
    refine s_istore_n (L' := [.ref 120, .int x1, .int (x5 ||| (1 <<< (x3 &&& 31))), .int x3]) dX12_setAt_32 rfl (by decide) rfl rfl ?_
    refine s_iinc (v := (x3 + 1)) (L' := [.ref 120, .int x1, .int (x5 ||| (1 <<< (x3 &&& 31))), .int (x3 + 1)]) dX12_setAt_33 rfl (by decide) rfl rfl rfl ?_
    refine g_goto (tgt := 4) dX12_setAt_36 (by decide) ?_
    exact e2 c2
set_option maxRecDepth 10000 in
set_option maxHeartbeats 1000000 in
theorem sn_X12_goWith {l : Launch} {d : Nat} {Q : Option Value → mx_H → Prop} {c : Nat} {I : mx_I} (a1 : Int32)
    (k1 : mx_K1 l mX12_begins d [.ref 120] (sk0 c, I) (fun r h' => mx_Go l (mx_rm (d + 1) 0 0) mX12_goWith (mx_Z Q 0 0) 0 0 4 [.ref 120, .int a1, .retAddr 0, .retAddr 0] (r.toList ++ []) h')) :
    mx_Spec l mX12_goWith (d + 1) 0 0 [.ref 120, .int a1] (sk0 c, I) Q := by
  refine mx_enter rfl (by simp [Value.category]) (Nat.le_of_ble_eq_true rfl) ?_
  change mx_Go l (mx_rm (d + 1) 0 0) mX12_goWith (mx_Z Q 0 0) 0 0 0 [.ref 120, .int a1, .retAddr 0, .retAddr 0] [] (sk0 c, I)
  refine g_aload_n dX12_goWith_0 rfl rfl ?_
  exact s_callV (M' := mX12_begins) (As := []) (st := []) dX12_goWith_1 lm_X12_285 ovX12_begins (h := (sk0 c, I)) (sk_120 _) (show vwCl[12]? = some _ from rfl) rfl (by simp [Value.category]) (by decide) rfl (k1)
set_option maxRecDepth 10000 in
set_option maxHeartbeats 1000000 in
theorem sg_X12_goWith_4 {l : Launch} {d : Nat} {Q : Option Value → mx_H → Prop} {c : Nat} {I : mx_I} (x1 : Int32)
    (e1 : mx_Go l (mx_rm (d + 1) 0 0) mX12_goWith (mx_Z Q 0 0) 0 0 26 [.ref 120, .int x1, .int 0, .retAddr 0] [] (sk0 c, (mx_set (mx_set (mx_set I 120 25 x1) 121 1 0) 121 10 0))) :
    mx_Go l (mx_rm (d + 1) 0 0) mX12_goWith (mx_Z Q 0 0) 0 0 4 [.ref 120, .int x1, .retAddr 0, .retAddr 0] [] (sk0 c, I) := by
  refine g_aload_n dX12_goWith_4 rfl rfl ?_
  refine g_iload_n dX12_goWith_5 rfl rfl ?_
  refine rp_X12_25 dX12_goWith_6 lf_X12_270 (sk_120 _) ?_
  refine g_aload_n dX12_goWith_9 rfl rfl ?_
  refine rg_X12_0 (r := 121) dX12_goWith_10 lf_X12_7 (sk_120 _) rfl ?_
  refine g_iconst (v := 1) dX12_goWith_13 (by decide) ?_
  refine g_iconst (v := 0) dX12_goWith_14 (by decide) ?_
  refine s_iast (j := 1) dX12_goWith_15 (sk_121 _) (by unfold vp_in; decide) (by decide) ?_
  refine g_aload_n dX12_goWith_16 rfl rfl ?_
  refine rg_X12_0 (r := 121) dX12_goWith_17 lf_X12_7 (sk_120 _) rfl ?_
  refine g_bipush (v := 10) dX12_goWith_20 (by decide) ?_
  refine g_iconst (v := 0) dX12_goWith_22 (by decide) ?_
  refine s_iast (j := 10) dX12_goWith_23 (sk_121 _) (by unfold vp_in; decide) (by decide) ?_
  refine g_iconst (v := 0) dX12_goWith_24 (by decide) ?_
  refine s_istore_n (L' := [.ref 120, .int x1, .int 0, .retAddr 0]) dX12_goWith_25 rfl (by decide) rfl rfl ?_
  exact e1
set_option maxRecDepth 10000 in
set_option maxHeartbeats 1000000 in
theorem sg_X12_goWith_26 {l : Launch} {d : Nat} {Q : Option Value → mx_H → Prop} {c : Nat} {I : mx_I} (x1 : Int32) (x2 : Int32)
    (e1 : ((I 121 2) ≤ x2) → mx_Go l (mx_rm (d + 1) 0 0) mX12_goWith (mx_Z Q 0 0) 0 0 75 [.ref 120, .int x1, .int 0, .retAddr 0] [] (sk0 c, I))
    (k2 : (¬ (I 121 2) ≤ x2) → mx_K1 l mX12_loads d [.ref 120, .int x2, .int 5, .int (-1)] (sk0 c, I) (fun r h' => mx_Go l (mx_rm (d + 1) 0 0) mX12_goWith (mx_Z Q 0 0) 0 0 43 [.ref 120, .int x1, .int x2, .retAddr 0] (r.toList ++ []) h')) :
    mx_Go l (mx_rm (d + 1) 0 0) mX12_goWith (mx_Z Q 0 0) 0 0 26 [.ref 120, .int x1, .int x2, .retAddr 0] [] (sk0 c, I) := by
  refine g_iload_n dX12_goWith_26 rfl rfl ?_
  refine g_aload_n dX12_goWith_27 rfl rfl ?_
  refine rg_X12_0 (r := 121) dX12_goWith_28 lf_X12_7 (sk_120 _) rfl ?_
  refine g_iconst (v := 2) dX12_goWith_31 (by decide) ?_
  refine s_iald (j := 2) (v := (I 121 2)) dX12_goWith_32 (sk_121 _) (by unfold vp_in; decide) (by decide) rfl ?_
  refine g_icmp_ge (tgt := 73) dX12_goWith_33 (by decide) (fun c1 => ?_) (fun c2 => ?_)
  · skip
    refine g_iconst (v := 0) dX12_goWith_73 (by decide) ?_
    refine s_istore_n (L' := [.ref 120, .int x1, .int 0, .retAddr 0]) dX12_goWith_74 rfl (by decide) rfl rfl ?_
    exact e1 c1
  · skip
    refine g_aload_n dX12_goWith_36 rfl rfl ?_
    refine g_iload_n dX12_goWith_37 rfl rfl ?_
    refine g_iconst (v := 5) dX12_goWith_38 (by decide) ?_
    refine g_iconst (v := (-1)) dX12_goWith_39 (by decide) ?_
    exact s_callV (M' := mX12_loads) (As := [.int x2, .int 5, .int (-1)]) (st := []) dX12_goWith_40 lm_X12_54 ovX12_loads (h := (sk0 c, I)) (sk_120 _) (show vwCl[12]? = some _ from rfl) rfl (by simp [Value.category]) (by decide) rfl (k2 c2)
set_option maxRecDepth 10000 in
set_option maxHeartbeats 1000000 in
theorem sg_X12_goWith_75 {l : Launch} {d : Nat} {Q : Option Value → mx_H → Prop} {c : Nat} {I : mx_I} (x1 : Int32) (x2 : Int32)
    (e1 : ((I 121 3) ≤ x2) → mx_Go l (mx_rm (d + 1) 0 0) mX12_goWith (mx_Z Q 0 0) 0 0 101 [.ref 120, .int x1, .int 1, .retAddr 0] [] (sk0 c, I))
    (k2 : (¬ (I 121 3) ≤ x2) → mx_K1 l mX12_gives d [.ref 120, .int x2, .int 8, .int (-1)] (sk0 c, I) (fun r h' => mx_Go l (mx_rm (d + 1) 0 0) mX12_goWith (mx_Z Q 0 0) 0 0 93 [.ref 120, .int x1, .int x2, .retAddr 0] (r.toList ++ []) h')) :
    mx_Go l (mx_rm (d + 1) 0 0) mX12_goWith (mx_Z Q 0 0) 0 0 75 [.ref 120, .int x1, .int x2, .retAddr 0] [] (sk0 c, I) := by
  refine g_iload_n dX12_goWith_75 rfl rfl ?_
  refine g_aload_n dX12_goWith_76 rfl rfl ?_
  refine rg_X12_0 (r := 121) dX12_goWith_77 lf_X12_7 (sk_120 _) rfl ?_
  refine g_iconst (v := 3) dX12_goWith_80 (by decide) ?_
  refine s_iald (j := 3) (v := (I 121 3)) dX12_goWith_81 (sk_121 _) (by unfold vp_in; decide) (by decide) rfl ?_
  refine g_icmp_ge (tgt := 99) dX12_goWith_82 (by decide) (fun c1 => ?_) (fun c2 => ?_)
  · skip
    refine g_iconst (v := 1) dX12_goWith_99 (by decide) ?_
    refine s_istore_n (L' := [.ref 120, .int x1, .int 1, .retAddr 0]) dX12_goWith_100 rfl (by decide) rfl rfl ?_
    exact e1 c1
  · skip
    refine g_aload_n dX12_goWith_85 rfl rfl ?_
    refine g_iload_n dX12_goWith_86 rfl rfl ?_
    refine g_bipush (v := 8) dX12_goWith_87 (by decide) ?_
    refine g_iconst (v := (-1)) dX12_goWith_89 (by decide) ?_
    exact s_callV (M' := mX12_gives) (As := [.int x2, .int 8, .int (-1)]) (st := []) dX12_goWith_90 lm_X12_74 ovX12_gives (h := (sk0 c, I)) (sk_120 _) (show vwCl[12]? = some _ from rfl) rfl (by simp [Value.category]) (by decide) rfl (k2 c2)
set_option maxRecDepth 10000 in
set_option maxHeartbeats 1000000 in
theorem sg_X12_goWith_43 {l : Launch} {d : Nat} {Q : Option Value → mx_H → Prop} {c : Nat} {I : mx_I} (x1 : Int32) (x2 : Int32)
    (k1 : mx_K1 l mX12_loads d [.ref 120, .int x2, .int 6, .int (-1)] (sk0 c, I) (fun r h' => mx_Go l (mx_rm (d + 1) 0 0) mX12_goWith (mx_Z Q 0 0) 0 0 51 [.ref 120, .int x1, .int x2, .retAddr 0] (r.toList ++ []) h')) :
    mx_Go l (mx_rm (d + 1) 0 0) mX12_goWith (mx_Z Q 0 0) 0 0 43 [.ref 120, .int x1, .int x2, .retAddr 0] [] (sk0 c, I) := by
  refine g_aload_n dX12_goWith_43 rfl rfl ?_
  refine g_iload_n dX12_goWith_44 rfl rfl ?_
  refine g_bipush (v := 6) dX12_goWith_45 (by decide) ?_
  refine g_iconst (v := (-1)) dX12_goWith_47 (by decide) ?_
  exact s_callV (M' := mX12_loads) (As := [.int x2, .int 6, .int (-1)]) (st := []) dX12_goWith_48 lm_X12_54 ovX12_loads (h := (sk0 c, I)) (sk_120 _) (show vwCl[12]? = some _ from rfl) rfl (by simp [Value.category]) (by decide) rfl (k1)
set_option maxRecDepth 10000 in
set_option maxHeartbeats 1000000 in
theorem sg_X12_goWith_101 {l : Launch} {d : Nat} {Q : Option Value → mx_H → Prop} {c : Nat} {I : mx_I} (x1 : Int32) (x2 : Int32)
    (k1 : (x2 = 0) → mx_K1 l mX12_comesBack d [.ref 120] (sk0 c, I) (fun r h' => mx_Go l (mx_rm (d + 1) 0 0) mX12_goWith (mx_Z Q 0 0) 0 0 215 [.ref 120, .int x1, .int x2, .retAddr 0] (r.toList ++ []) h'))
    (k2 : (¬ x2 = 0) → (167 < (I 121 1)) → mx_K1 l mX12_comesBack d [.ref 120] (sk0 c, I) (fun r h' => mx_Go l (mx_rm (d + 1) 0 0) mX12_goWith (mx_Z Q 0 0) 0 0 215 [.ref 120, .int x1, .int x2, .retAddr 0] (r.toList ++ []) h'))
    (k3 : (¬ x2 = 0) → (¬ 167 < (I 121 1)) → mx_K1 l mX12_anHour d [.ref 120] (sk0 c, I) (fun r h' => mx_Go l (mx_rm (d + 1) 0 0) mX12_goWith (mx_Z Q 0 0) 0 0 121 [.ref 120, .int x1, .int x2, .retAddr 0] (r.toList ++ []) h')) :
    mx_Go l (mx_rm (d + 1) 0 0) mX12_goWith (mx_Z Q 0 0) 0 0 101 [.ref 120, .int x1, .int x2, .retAddr 0] [] (sk0 c, I) := by
  refine g_iload_n dX12_goWith_101 rfl rfl ?_
  refine g_if_eq (tgt := 211) dX12_goWith_102 (by decide) (fun c1 => ?_) (fun c2 => ?_)
  · skip
    refine g_aload_n dX12_goWith_211 rfl rfl ?_
    exact s_callV (M' := mX12_comesBack) (As := []) (st := []) dX12_goWith_212 lm_X12_291 ovX12_comesBack (h := (sk0 c, I)) (sk_120 _) (show vwCl[12]? = some _ from rfl) rfl (by simp [Value.category]) (by decide) rfl (k1 c1)
  · skip
    refine g_aload_n dX12_goWith_105 rfl rfl ?_
    refine rg_X12_0 (r := 121) dX12_goWith_106 lf_X12_7 (sk_120 _) rfl ?_
    refine g_iconst (v := 1) dX12_goWith_109 (by decide) ?_
    refine s_iald (j := 1) (v := (I 121 1)) dX12_goWith_110 (sk_121 _) (by unfold vp_in; decide) (by decide) rfl ?_
    refine g_sipush (v := 167) dX12_goWith_111 (by decide) ?_
    refine g_icmp_gt (tgt := 211) dX12_goWith_114 (by decide) (fun c3 => ?_) (fun c4 => ?_)
    · skip
      refine g_aload_n dX12_goWith_211 rfl rfl ?_
      exact s_callV (M' := mX12_comesBack) (As := []) (st := []) dX12_goWith_212 lm_X12_291 ovX12_comesBack (h := (sk0 c, I)) (sk_120 _) (show vwCl[12]? = some _ from rfl) rfl (by simp [Value.category]) (by decide) rfl (k2 c2 c3)
    · skip
      refine g_aload_n dX12_goWith_117 rfl rfl ?_
      exact s_callV (M' := mX12_anHour) (As := []) (st := []) dX12_goWith_118 lm_X12_282 ovX12_anHour (h := (sk0 c, I)) (sk_120 _) (show vwCl[12]? = some _ from rfl) rfl (by simp [Value.category]) (by decide) rfl (k3 c2 c4)
set_option maxRecDepth 10000 in
set_option maxHeartbeats 1000000 in
theorem sg_X12_goWith_93 {l : Launch} {d : Nat} {Q : Option Value → mx_H → Prop} {c : Nat} {I : mx_I} (x1 : Int32) (x2 : Int32)
    (e1 : mx_Go l (mx_rm (d + 1) 0 0) mX12_goWith (mx_Z Q 0 0) 0 0 75 [.ref 120, .int x1, .int (x2 + 1), .retAddr 0] [] (sk0 c, I)) :
    mx_Go l (mx_rm (d + 1) 0 0) mX12_goWith (mx_Z Q 0 0) 0 0 93 [.ref 120, .int x1, .int x2, .retAddr 0] [] (sk0 c, I) := by
  refine s_iinc (v := (x2 + 1)) (L' := [.ref 120, .int x1, .int (x2 + 1), .retAddr 0]) dX12_goWith_93 rfl (by decide) rfl rfl rfl ?_
  refine g_goto (tgt := 75) dX12_goWith_96 (by decide) ?_
  exact e1
set_option maxRecDepth 10000 in
set_option maxHeartbeats 1000000 in
theorem sg_X12_goWith_51 {l : Launch} {d : Nat} {Q : Option Value → mx_H → Prop} {c : Nat} {I : mx_I} (x1 : Int32) (x2 : Int32)
    (k1 : mx_K1 l mX12_loads d [.ref 120, .int x2, .int 7, .int 0] (sk0 c, I) (fun r h' => mx_Go l (mx_rm (d + 1) 0 0) mX12_goWith (mx_Z Q 0 0) 0 0 59 [.ref 120, .int x1, .int x2, .retAddr 0] (r.toList ++ []) h')) :
    mx_Go l (mx_rm (d + 1) 0 0) mX12_goWith (mx_Z Q 0 0) 0 0 51 [.ref 120, .int x1, .int x2, .retAddr 0] [] (sk0 c, I) := by
  refine g_aload_n dX12_goWith_51 rfl rfl ?_
  refine g_iload_n dX12_goWith_52 rfl rfl ?_
  refine g_bipush (v := 7) dX12_goWith_53 (by decide) ?_
  refine g_iconst (v := 0) dX12_goWith_55 (by decide) ?_
  exact s_callV (M' := mX12_loads) (As := [.int x2, .int 7, .int 0]) (st := []) dX12_goWith_56 lm_X12_54 ovX12_loads (h := (sk0 c, I)) (sk_120 _) (show vwCl[12]? = some _ from rfl) rfl (by simp [Value.category]) (by decide) rfl (k1)
set_option maxRecDepth 10000 in
set_option maxHeartbeats 1000000 in
theorem sg_X12_goWith_215 {l : Launch} {d : Nat} {Q : Option Value → mx_H → Prop} {c : Nat} {I : mx_I} (x1 : Int32) (x2 : Int32)
    (q1 : Q (some (.int x2)) (sk0 c, I))
    (n2 : x2 = 0 ∨ x2 = 1) :
    mx_Go l (mx_rm (d + 1) 0 0) mX12_goWith (mx_Z Q 0 0) 0 0 215 [.ref 120, .int x1, .int x2, .retAddr 0] [] (sk0 c, I) := by
  refine g_iload_n dX12_goWith_215 rfl rfl ?_
  exact g_zret (ty := .boolean) rfl (nb_01 (n2)) dX12_goWith_216 rfl (Nat.le_refl _) (q1)
set_option maxRecDepth 10000 in
set_option maxHeartbeats 1000000 in
theorem sg_X12_goWith_121 {l : Launch} {d : Nat} {Q : Option Value → mx_H → Prop} {c : Nat} {I : mx_I} (x1 : Int32) (x2 : Int32)
    (e1 : mx_Go l (mx_rm (d + 1) 0 0) mX12_goWith (mx_Z Q 0 0) 0 0 123 [.ref 120, .int x1, .int x2, .int 0] [] (sk0 c, I)) :
    mx_Go l (mx_rm (d + 1) 0 0) mX12_goWith (mx_Z Q 0 0) 0 0 121 [.ref 120, .int x1, .int x2, .retAddr 0] [] (sk0 c, I) := by
  refine g_iconst (v := 0) dX12_goWith_121 (by decide) ?_
  refine s_istore_n (L' := [.ref 120, .int x1, .int x2, .int 0]) dX12_goWith_122 rfl (by decide) rfl rfl ?_
  exact e1
set_option maxRecDepth 10000 in
set_option maxHeartbeats 1000000 in
theorem sg_X12_goWith_59 {l : Launch} {d : Nat} {Q : Option Value → mx_H → Prop} {c : Nat} {I : mx_I} (x1 : Int32) (x2 : Int32)
    (k1 : mx_K1 l mX12_loads d [.ref 120, .int x2, .int 8, .int 0] (sk0 c, I) (fun r h' => mx_Go l (mx_rm (d + 1) 0 0) mX12_goWith (mx_Z Q 0 0) 0 0 67 [.ref 120, .int x1, .int x2, .retAddr 0] (r.toList ++ []) h')) :
    mx_Go l (mx_rm (d + 1) 0 0) mX12_goWith (mx_Z Q 0 0) 0 0 59 [.ref 120, .int x1, .int x2, .retAddr 0] [] (sk0 c, I) := by
  refine g_aload_n dX12_goWith_59 rfl rfl ?_
  refine g_iload_n dX12_goWith_60 rfl rfl ?_
  refine g_bipush (v := 8) dX12_goWith_61 (by decide) ?_
  refine g_iconst (v := 0) dX12_goWith_63 (by decide) ?_
  exact s_callV (M' := mX12_loads) (As := [.int x2, .int 8, .int 0]) (st := []) dX12_goWith_64 lm_X12_54 ovX12_loads (h := (sk0 c, I)) (sk_120 _) (show vwCl[12]? = some _ from rfl) rfl (by simp [Value.category]) (by decide) rfl (k1)
set_option maxRecDepth 10000 in
set_option maxHeartbeats 1000000 in
theorem sg_X12_goWith_123 {l : Launch} {d : Nat} {Q : Option Value → mx_H → Prop} {c : Nat} {I : mx_I} (x1 : Int32) (x2 : Int32) (x3 : Int32)
    (e1 : ((I 121 8) ≤ x3) → mx_Go l (mx_rm (d + 1) 0 0) mX12_goWith (mx_Z Q 0 0) 0 0 101 [.ref 120, .int x1, .int x2, .int x3] [] (sk0 c, I))
    (e2 : (¬ (I 121 8) ≤ x3) → (x2 = 0) → mx_Go l (mx_rm (d + 1) 0 0) mX12_goWith (mx_Z Q 0 0) 0 0 101 [.ref 120, .int x1, .int x2, .int x3] [] (sk0 c, I))
    (b3 : (¬ (I 121 8) ≤ x3) → (¬ x2 = 0) → vp_in (1540 + (3 * x3)) 2490)
    (e4 : (¬ (I 121 8) ≤ x3) → (¬ x2 = 0) → (¬ (I 121 (1540 + (3 * x3)).toNatClampNeg) = ((I 121 1) - 1)) → mx_Go l (mx_rm (d + 1) 0 0) mX12_goWith (mx_Z Q 0 0) 0 0 123 [.ref 120, .int x1, .int 1, .int (x3 + 1)] [] (sk0 c, I))
    (b5 : (¬ (I 121 8) ≤ x3) → (¬ x2 = 0) → ((I 121 (1540 + (3 * x3)).toNatClampNeg) = ((I 121 1) - 1)) → vp_in ((1540 + (3 * x3)) + 1) 2490)
    (k6 : (¬ (I 121 8) ≤ x3) → (¬ x2 = 0) → ((I 121 (1540 + (3 * x3)).toNatClampNeg) = ((I 121 1) - 1)) → mx_K1 l mX12_setAt d [.ref 120, .int (I 121 ((1540 + (3 * x3)) + 1).toNatClampNeg)] (sk0 c, I) (fun r h' => mx_Go l (mx_rm (d + 1) 0 0) mX12_goWith (mx_Z Q 0 0) 0 0 179 [.ref 120, .int x1, .int x2, .int x3] (r.toList ++ []) h')) :
    mx_Go l (mx_rm (d + 1) 0 0) mX12_goWith (mx_Z Q 0 0) 0 0 123 [.ref 120, .int x1, .int x2, .int x3] [] (sk0 c, I) := by
  refine g_iload_n dX12_goWith_123 rfl rfl ?_
  refine g_aload_n dX12_goWith_124 rfl rfl ?_
  refine rg_X12_0 (r := 121) dX12_goWith_125 lf_X12_7 (sk_120 _) rfl ?_
  refine g_bipush (v := 8) dX12_goWith_128 (by decide) ?_
  refine s_iald (j := 8) (v := (I 121 8)) dX12_goWith_130 (sk_121 _) (by unfold vp_in; decide) (by decide) rfl ?_
  refine g_icmp_ge (tgt := 208) dX12_goWith_131 (by decide) (fun c1 => ?_) (fun c2 => ?_)
  · skip
    refine g_goto (tgt := 101) dX12_goWith_208 (by decide) ?_
    exact e1 c1
  · skip
    refine g_iload_n dX12_goWith_134 rfl rfl ?_
    refine g_if_eq (tgt := 208) dX12_goWith_135 (by decide) (fun c3 => ?_) (fun c4 => ?_)
    · skip
      refine g_goto (tgt := 101) dX12_goWith_208 (by decide) ?_
      exact e2 c2 c3
    · skip
      refine g_aload_n dX12_goWith_138 rfl rfl ?_
      refine rg_X12_0 (r := 121) dX12_goWith_139 lf_X12_7 (sk_120 _) rfl ?_
      refine g_sipush (v := 1540) dX12_goWith_142 (by decide) ?_
      refine g_iconst (v := 3) dX12_goWith_145 (by decide) ?_
      refine g_iload_n dX12_goWith_146 rfl rfl ?_
      refine g_imul dX12_goWith_147 ?_
      refine g_iadd dX12_goWith_148 ?_
      refine s_iald (j := (1540 + (3 * x3)).toNatClampNeg) (v := (I 121 (1540 + (3 * x3)).toNatClampNeg)) dX12_goWith_149 (sk_121 _) (b3 c2 c4) rfl rfl ?_
      refine g_aload_n dX12_goWith_150 rfl rfl ?_
      refine rg_X12_0 (r := 121) dX12_goWith_151 lf_X12_7 (sk_120 _) rfl ?_
      refine g_iconst (v := 1) dX12_goWith_154 (by decide) ?_
      refine s_iald (j := 1) (v := (I 121 1)) dX12_goWith_155 (sk_121 _) (by unfold vp_in; decide) (by decide) rfl ?_
      refine g_iconst (v := 1) dX12_goWith_156 (by decide) ?_
      refine g_isub dX12_goWith_157 ?_
      refine g_icmp_ne (tgt := 196) dX12_goWith_158 (by decide) (fun c5 => ?_) (fun c6 => ?_)
      · skip
        refine g_iconst (v := 1) dX12_goWith_196 (by decide) ?_
        refine g_goto (tgt := 201) dX12_goWith_197 (by decide) ?_
        refine s_istore_n (L' := [.ref 120, .int x1, .int 1, .int x3]) dX12_goWith_201 rfl (by decide) rfl rfl ?_
        refine s_iinc (v := (x3 + 1)) (L' := [.ref 120, .int x1, .int 1, .int (x3 + 1)]) dX12_goWith_202 rfl (by decide) rfl rfl rfl ?_
        refine g_goto (tgt := 123) dX12_goWith_205 (by decide) ?_
        exact e4 c2 c4 c5
      · skip
        refine g_aload_n dX12_goWith_161 rfl rfl ?_
        refine g_aload_n dX12_goWith_162 rfl rfl ?_
        refine rg_X12_0 (r := 121) dX12_goWith_163 lf_X12_7 (sk_120 _) rfl ?_
        refine g_sipush (v := 1540) dX12_goWith_166 (by decide) ?_
        refine g_iconst (v := 3) dX12_goWith_169 (by decide) ?_
        refine g_iload_n dX12_goWith_170 rfl rfl ?_
        refine g_imul dX12_goWith_171 ?_
        refine g_iadd dX12_goWith_172 ?_
        refine g_iconst (v := 1) dX12_goWith_173 (by decide) ?_
        refine g_iadd dX12_goWith_174 ?_
        refine s_iald (j := ((1540 + (3 * x3)) + 1).toNatClampNeg) (v := (I 121 ((1540 + (3 * x3)) + 1).toNatClampNeg)) dX12_goWith_175 (sk_121 _) (b5 c2 c4 c6) rfl rfl ?_
        exact s_callV (M' := mX12_setAt) (As := [.int (I 121 ((1540 + (3 * x3)) + 1).toNatClampNeg)]) (st := []) dX12_goWith_176 lm_X12_306 ovX12_setAt (h := (sk0 c, I)) (sk_120 _) (show vwCl[12]? = some _ from rfl) rfl (by simp [Value.category]) (by decide) rfl (k6 c2 c4 c6)
set_option maxRecDepth 10000 in
set_option maxHeartbeats 1000000 in
theorem sg_X12_goWith_67 {l : Launch} {d : Nat} {Q : Option Value → mx_H → Prop} {c : Nat} {I : mx_I} (x1 : Int32) (x2 : Int32)
    (e1 : mx_Go l (mx_rm (d + 1) 0 0) mX12_goWith (mx_Z Q 0 0) 0 0 26 [.ref 120, .int x1, .int (x2 + 1), .retAddr 0] [] (sk0 c, I)) :
    mx_Go l (mx_rm (d + 1) 0 0) mX12_goWith (mx_Z Q 0 0) 0 0 67 [.ref 120, .int x1, .int x2, .retAddr 0] [] (sk0 c, I) := by
  refine s_iinc (v := (x2 + 1)) (L' := [.ref 120, .int x1, .int (x2 + 1), .retAddr 0]) dX12_goWith_67 rfl (by decide) rfl rfl rfl ?_
  refine g_goto (tgt := 26) dX12_goWith_70 (by decide) ?_
  exact e1
