/-! the String constants: length and charAt -/
section STR
variable {l : Launch} {R : Room} {M : mx_M} {Z : mx_G → List Frame → Array Value → State → State → Prop} {uc us pc : Nat} {L st : List Value} {h : mx_H}
theorem mx_ro {G : mx_G} {k : Nat} (hk : 1000 ≤ k) : mx_ad G k = G.2.2.2.1 k := by unfold mx_ad; rw [if_neg (by omega)]
theorem g_sval {i idx : Nat} (hi : i < 27) (hd : decode M.2.1 pc = .ok (.getfield idx, 3)) (hw : Cond.fieldLink M.1.cls idx "java/lang/String" "value" "[B" ∈ mx_g)
    (kk : mx_Go l R M Z uc us (pc + 3) L (.ref (2001 + i) :: st) h) : mx_Go l R M Z uc us pc L (.ref (1001 + i) :: st) h := by
  intro G p e s m args below meth c H locs ls C hz hW hS hl
  have k9 := kk G p e s m args below meth c H locs ls C hz hW hS hl
  have e1 : mx_ad G (1001 + i) = G.2.2.2.1 (1001 + i) := mx_ro (by omega)
  have e2 : mx_ad G (2001 + i) = G.2.2.2.1 (2001 + i) := mx_ro (by omega)
  show W p l e R s m args below meth c H locs uc us (Z G below args s) (F0 m pc ls (.ref (mx_ad G (1001 + i)) :: st.map (mx_cv G)))
  simp only [List.map_cons, mx_cv, e2] at k9
  rw [e1]
  exact vk_getf (o := "java/lang/String") C.1 C.2.1 ((C.K.2.2.2.2.1 i hi).1 0 (by decide)).2.2.1 hS C.own (C.wd _ hw) (fun _ q => q) hd k9
theorem g_scod {i idx : Nat} (hi : i < 27) (hd : decode M.2.1 pc = .ok (.getfield idx, 3)) (hw : Cond.fieldLink M.1.cls idx "java/lang/String" "coder" "B" ∈ mx_g)
    (kk : mx_Go l R M Z uc us (pc + 3) L (.int 0 :: st) h) : mx_Go l R M Z uc us pc L (.ref (1001 + i) :: st) h := by
  intro G p e s m args below meth c H locs ls C hz hW hS hl
  have k9 := kk G p e s m args below meth c H locs ls C hz hW hS hl
  have e1 : mx_ad G (1001 + i) = G.2.2.2.1 (1001 + i) := mx_ro (by omega)
  show W p l e R s m args below meth c H locs uc us (Z G below args s) (F0 m pc ls (.ref (mx_ad G (1001 + i)) :: st.map (mx_cv G)))
  rw [e1]
  exact vk_getf (o := "java/lang/String") C.1 C.2.1 ((C.K.2.2.2.2.1 i hi).1 0 (by decide)).2.1 hS C.own (C.wd _ hw) (fun _ q => q) hd k9
theorem g_sblen {i : Nat} (hi : i < 27) (hd : decode M.2.1 pc = .ok (.arraylength, 1))
    (kk : mx_Go l R M Z uc us (pc + 1) L (.int (nI (mx_slen.getD i 0)) :: st) h) : mx_Go l R M Z uc us pc L (.ref (2001 + i) :: st) h := by
  intro G p e s m args below meth c H locs ls C hz hW hS hl
  have k9 := kk G p e s m args below meth c H locs ls C hz hW hS hl
  have e2 : mx_ad G (2001 + i) = G.2.2.2.1 (2001 + i) := mx_ro (by omega)
  show W p l e R s m args below meth c H locs uc us (Z G below args s) (F0 m pc ls (.ref (mx_ad G (2001 + i)) :: st.map (mx_cv G)))
  rw [e2]
  exact va_tlen C.1 C.2.1 ((C.K.2.2.2.2.1 i hi).1 0 (by decide)).2.2.2 hS rfl hd k9
theorem g_sbald {i : Nat} {j : Int32} (hi : i < 27) (hd : decode M.2.1 pc = .ok (.baload, 1)) (hj : vp_in j (mx_slen.getD i 0))
    (kk : mx_Go l R M Z uc us (pc + 1) L (.int ((mx_sbyt.getD i []).getD j.toNatClampNeg 0) :: st) h) : mx_Go l R M Z uc us pc L (.int j :: .ref (2001 + i) :: st) h := by
  intro G p e s m args below meth c H locs ls C hz hW hS hl
  have k9 := kk G p e s m args below meth c H locs ls C hz hW hS hl
  have e2 : mx_ad G (2001 + i) = G.2.2.2.1 (2001 + i) := mx_ro (by omega)
  show W p l e R s m args below meth c H locs uc us (Z G below args s) (F0 m pc ls (.int j :: .ref (mx_ad G (2001 + i)) :: st.map (mx_cv G)))
  rw [e2]
  exact va_tb C.1 C.2.1 ((C.K.2.2.2.2.1 i hi).1 0 (by decide)).2.2.2 hS hj rfl hd k9
theorem g_scs {idx : Nat} (hd : decode M.2.1 pc = .ok (.getstatic idx, 3)) (hw : Cond.fieldLink M.1.cls idx "java/lang/String" "COMPACT_STRINGS" "Z" ∈ mx_g)
    (kk : mx_Go l R M Z uc us (pc + 3) L (.int 1 :: st) h) : mx_Go l R M Z uc us pc L st h := by
  intro G p e s m args below meth c H locs ls C hz hW hS hl
  have k9 := kk G p e s m args below meth c H locs ls C hz hW hS hl
  exact va_gets C.1 C.2.1 C.K.2.2.2.2.2.2.2.1 hS C.own (C.wd _ hw) (fun _ q => q) hd k9
theorem g_fmt {idx : Nat} (hd : decode M.2.1 pc = .ok (.getstatic idx, 3)) (hw : Cond.fieldLink M.1.cls idx "jdk/internal/util/Preconditions" "SIOOBE_FORMATTER" "Ljava/util/function/BiFunction;" ∈ mx_g)
    (k1 : mx_Go l R M Z uc us (pc + 3) L (.null :: st) h) (k2 : mx_Go l R M Z uc us (pc + 3) L (.ref 3000 :: st) h) : mx_Go l R M Z uc us pc L st h := by
  intro G p e s m args below meth c H locs ls C hz hW hS hl
  rcases C.K.2.2.2.2.2.2.2.2 with hZ | hZ
  · exact va_gets C.1 C.2.1 hZ hS C.own (C.wd _ hw) (fun _ q => q) hd (k1 G p e s m args below meth c H locs ls C hz hW hS hl)
  · have k9 := k2 G p e s m args below meth c H locs ls C hz hW hS hl
    have e2 : mx_ad G 3000 = G.2.2.2.1 3000 := mx_ro (by omega)
    simp only [List.map_cons, mx_cv, e2] at k9
    exact va_gets C.1 C.2.1 hZ hS C.own (C.wd _ hw) (fun _ q => q) hd k9
theorem s_callVS {M' : mx_M} {idx i d : Nat} {As S : List Value} (hi : i < 27) (hd : decode M.2.1 pc = .ok (.invokevirtual idx, 3)) (hw : Cond.methodLink M.1.cls idx M'.1 ∈ mx_g) (hM : mx_okV M' As.length) (hq : M'.1.cls = "java/lang/String")
    (hst : (st.map fun v => v.category).sum ≤ 8) (hm : M'.2.2.1 ≤ 45) (hS : As.reverse ++ .ref (1001 + i) :: st = S) (K : mx_K1 l M' d (.ref (1001 + i) :: As) h (fun r h' => mx_Go l (mx_rm (d + 1) 0 0) M Z 0 0 (pc + 3) L (r.toList ++ st) h')) : mx_Go l (mx_rm (d + 1) 0 0) M Z 0 0 pc L S h := by
  subst hS
  obtain ⟨Q', Sp, kk⟩ := K
  intro G p e s m args below meth c H locs ls C hz hW hS hl
  have e9 : mx_ad G (1001 + i) = G.2.2.2.1 (1001 + i) := mx_ro (by omega)
  have es : (As.reverse ++ .ref (1001 + i) :: st).map (mx_cv G) = (As.map (mx_cv G)).reverse ++ .ref (G.2.2.2.1 (1001 + i)) :: st.map (mx_cv G) := by
    simp [mx_cv, e9]
  rw [es]
  refine mx_after (a := (Value.ref (G.2.2.2.1 (1001 + i)) :: As.map (mx_cv G)).toArray) (nc' := 0) (ns' := 0) C hz hW hS hl (fun _ hsz => ?_) kk
  refine va_runV (C := "java/lang/String") (bytes := M'.2.1) (maxL := M'.2.2.1) (ret := M'.2.2.2) (n := As.length) (Ts := mx_g) (own := M.1.cls) (nL := M.2.2.1) (As := As.map (mx_cv G)) (rest := st.map (mx_cv G)) (b := G.2.2.2.1 (1001 + i)) ⟨C.1, C.2.1, C.2.2.1, C.own, C.wd⟩ (Sp G) (cwV As.length C.wd (mx_goodIn ?_) rfl rfl rfl ⟨hq, hM.1.2.2⟩ ⟨Nat.le_refl _, by simp only [mx_rm]; omega⟩) ⟨mx_blind _ _ _, ?_, ?_⟩ rfl (by simp) hl.1 rfl (lv_room (by rw [mx_cats]; exact hst)) hd ⟨Nat.le_refl _, Nat.le_refl _⟩
  · intro w hw9
    unfold wsV at hw9
    rcases List.mem_append.mp hw9 with h9 | h9
    · simp only [List.mem_cons, List.not_mem_nil, or_false] at h9
      rcases h9 with rfl | rfl | rfl | rfl
      · exact hw
      · exact hM.2.1
      · rw [← hq]; exact hM.2.2
      · rw [← hq]; exact hM.1.2.1
    · exact mx_wsM_in hM.1 w h9
  · exact vk_recv (C.K.2.2.2.2.1 i hi) (i := 0) (by decide) hS
  · intro U hU hW9
    have h9 := mx_pre (M := M) C hW hS hsz (.ref (1001 + i) :: As) U hU hW9
    simpa [mx_cv, e9] using h9
end STR
section STRSP
variable {l : Launch} {d : Nat} {h : mx_H}
theorem sp_coder {i : Nat} (hi : i < 27) : mx_Spec l mJ0_coder_7d493 (d + 1) 0 0 [.ref (1001 + i)] h (fun r h' => r = some (.int 0) ∧ h' = h) := by
  refine mx_enter rfl (by simp [Value.category]) (Nat.le_of_ble_eq_true rfl) ?_
  refine g_scs dJ0_coder_7d493_0 lf_J0_38 ?_
  refine g_if_eq (tgt := 13) dJ0_coder_7d493_3 (by decide) (fun hh => absurd hh (by decide)) (fun _ => ?_)
  refine g_aload_n dJ0_coder_7d493_6 rfl rfl ?_
  refine g_scod hi dJ0_coder_7d493_7 lf_J0_15 ?_
  refine g_goto (tgt := 14) dJ0_coder_7d493_10 (by decide) ?_
  exact g_zret (ty := .byte) rfl rfl dJ0_coder_7d493_14 rfl (Nat.le_refl _) ⟨rfl, rfl⟩
theorem sp_isLatin1 {i : Nat} (hi : i < 27) : mx_Spec l mJ0_isLatin1_aae02 (d + 1) 0 0 [.ref (1001 + i)] h (fun r h' => r = some (.int 1) ∧ h' = h) := by
  refine mx_enter rfl (by simp [Value.category]) (Nat.le_of_ble_eq_true rfl) ?_
  refine g_scs dJ0_isLatin1_aae02_0 lf_J0_38 ?_
  refine g_if_eq (tgt := 17) dJ0_isLatin1_aae02_3 (by decide) (fun hh => absurd hh (by decide)) (fun _ => ?_)
  refine g_aload_n dJ0_isLatin1_aae02_6 rfl rfl ?_
  refine g_scod hi dJ0_isLatin1_aae02_7 lf_J0_15 ?_
  refine g_if_ne (tgt := 17) dJ0_isLatin1_aae02_10 (by decide) (fun hh => absurd rfl hh) (fun _ => ?_)
  refine g_iconst (v := 1) dJ0_isLatin1_aae02_13 (by decide) ?_
  refine g_goto (tgt := 18) dJ0_isLatin1_aae02_14 (by decide) ?_
  exact g_zret (ty := .boolean) rfl rfl dJ0_isLatin1_aae02_18 rfl (Nat.le_refl _) ⟨rfl, rfl⟩
theorem mx_shr0 : ∀ i, i < 27 → (nI (mx_slen.getD i 0)) >>> ((0 : Int32) &&& 31) = nI (mx_slen.getD i 0) := by decide +kernel
theorem sp_strLen {i : Nat} (hi : i < 27) : mx_Spec l mJ0_length_8abf5 (d + 2) 0 0 [.ref (1001 + i)] h (fun r h' => r = some (.int (nI (mx_slen.getD i 0))) ∧ h' = h) := by
  refine mx_enter rfl (by simp [Value.category]) (Nat.le_of_ble_eq_true rfl) ?_
  refine g_aload_n dJ0_length_8abf5_0 rfl rfl ?_
  refine g_sval hi dJ0_length_8abf5_1 lf_J0_9 ?_
  refine g_sblen hi dJ0_length_8abf5_4 ?_
  refine g_aload_n dJ0_length_8abf5_5 rfl rfl ?_
  refine s_callVS (M' := mJ0_coder_7d493) (As := []) (i := i) (d := d + 1) hi dJ0_length_8abf5_6 lm_J0_335 ovJ0_coder_7d493 rfl (by simp [Value.category]) (by decide) rfl ⟨_, sp_coder hi, ?_⟩
  rintro _ _ ⟨rfl, rfl⟩
  refine g_ishr dJ0_length_8abf5_9 ?_
  rw [mx_shr0 i hi]
  exact g_iret rfl dJ0_length_8abf5_10 rfl (Nat.le_refl _) ⟨rfl, rfl⟩
theorem sp_preCheck {x n : Int32} {v : Value} (hv : v.category = 1) (h0 : ¬ x < 0) (h1 : x < n) : mx_Spec l mJ3_checkIndex_8e157 (d + 1) 0 0 [.int x, .int n, v] h (fun r h' => r = some (.int x) ∧ h' = h) := by
  refine mx_enter rfl (fun w hw => by simp only [List.mem_cons, List.not_mem_nil, or_false] at hw; rcases hw with rfl | rfl | rfl <;> first | rfl | exact hv) (Nat.le_of_ble_eq_true rfl) ?_
  refine g_iload_n dJ3_checkIndex_8e157_0 rfl rfl ?_
  refine g_if_lt (tgt := 9) dJ3_checkIndex_8e157_1 (by decide) (fun hh => absurd hh h0) (fun _ => ?_)
  refine g_iload_n dJ3_checkIndex_8e157_4 rfl rfl ?_
  refine g_iload_n dJ3_checkIndex_8e157_5 rfl rfl ?_
  refine g_icmp_lt (tgt := 16) dJ3_checkIndex_8e157_6 (by decide) (fun _ => ?_) (fun hh => absurd h1 hh)
  refine g_iload_n dJ3_checkIndex_8e157_16 rfl rfl ?_
  exact g_iret rfl dJ3_checkIndex_8e157_17 rfl (Nat.le_refl _) ⟨rfl, rfl⟩
theorem sp_checkIndex {x n : Int32} (h0 : ¬ x < 0) (h1 : x < n) : mx_Spec l mJ0_checkIndex_df160 (d + 2) 0 0 [.int x, .int n] h (fun r h' => r = none ∧ h' = h) := by
  refine mx_enter rfl (by simp [Value.category]) (Nat.le_of_ble_eq_true rfl) ?_
  refine g_iload_n dJ0_checkIndex_df160_0 rfl rfl ?_
  refine g_iload_n dJ0_checkIndex_df160_1 rfl rfl ?_
  refine g_fmt dJ0_checkIndex_df160_2 lf_J0_1053 ?_ ?_
  · refine s_callS (M' := mJ3_checkIndex_8e157) (As := [.int x, .int n, .null]) (st := []) (d := d + 1) dJ0_checkIndex_df160_5 lm_J0_1059 okJ3_checkIndex_8e157 osJ3_checkIndex_8e157 (by simp [Value.category]) (by decide) rfl ⟨_, sp_preCheck rfl h0 h1, ?_⟩
    rintro _ _ ⟨rfl, rfl⟩
    refine g_pop dJ0_checkIndex_df160_8 rfl ?_
    exact g_vret rfl dJ0_checkIndex_df160_9 rfl (Nat.le_refl _) ⟨rfl, rfl⟩
  · refine s_callS (M' := mJ3_checkIndex_8e157) (As := [.int x, .int n, .ref 3000]) (st := []) (d := d + 1) dJ0_checkIndex_df160_5 lm_J0_1059 okJ3_checkIndex_8e157 osJ3_checkIndex_8e157 (by simp [Value.category]) (by decide) rfl ⟨_, sp_preCheck rfl h0 h1, ?_⟩
    rintro _ _ ⟨rfl, rfl⟩
    refine g_pop dJ0_checkIndex_df160_8 rfl ?_
    exact g_vret rfl dJ0_checkIndex_df160_9 rfl (Nat.le_refl _) ⟨rfl, rfl⟩
theorem mx_schr : ∀ i, i < 27 → ∀ j, j < mx_slen.getD i 0 → ((((mx_sbyt.getD i []).getD j 0 &&& 255).toUInt32 % 65536).toInt32 = (mx_sbyt.getD i []).getD j 0 ∧ narrow .char (.int ((mx_sbyt.getD i []).getD j 0)) = .int ((mx_sbyt.getD i []).getD j 0)) ∧ mx_slen.getD i 0 < 100 := by decide +kernel
theorem sp_charAt1 {i j : Nat} (hi : i < 27) (hj : j < mx_slen.getD i 0) : mx_Spec l mJ1_charAt_3b067 (d + 3) 0 0 [.ref (2001 + i), .int (nI j)] h (fun r h' => r = some (.int ((mx_sbyt.getD i []).getD j 0)) ∧ h' = h) := by
  have hl := (mx_schr i hi j hj).2
  refine mx_enter rfl (by simp [Value.category]) (Nat.le_of_ble_eq_true rfl) ?_
  refine g_iload_n dJ1_charAt_3b067_0 rfl rfl ?_
  refine g_aload_n dJ1_charAt_3b067_1 rfl rfl ?_
  refine g_sblen hi dJ1_charAt_3b067_2 ?_
  refine s_callS (M' := mJ0_checkIndex_df160) (As := [.int (nI j), .int (nI (mx_slen.getD i 0))]) (st := []) (d := d + 2) dJ1_charAt_3b067_3 lm_J1_9 okJ0_checkIndex_df160 osJ0_checkIndex_df160 (by simp [Value.category]) (by decide) rfl ⟨_, sp_checkIndex (nI_pos (by omega)) (nI_lt hj (by omega)), ?_⟩
  rintro _ _ ⟨rfl, rfl⟩
  refine g_aload_n dJ1_charAt_3b067_6 rfl rfl ?_
  refine g_iload_n dJ1_charAt_3b067_7 rfl rfl ?_
  refine g_sbald hi dJ1_charAt_3b067_8 (vp_in_nI hj (by omega)) ?_
  rw [nI_clamp (by omega)]
  refine g_sipush (v := 255) dJ1_charAt_3b067_9 (by decide) ?_
  refine g_iand dJ1_charAt_3b067_12 ?_
  refine g_i2c dJ1_charAt_3b067_13 ?_
  rw [(mx_schr i hi j hj).1.1]
  exact g_zret (ty := .char) rfl (mx_schr i hi j hj).1.2 dJ1_charAt_3b067_14 rfl (Nat.le_refl _) ⟨rfl, rfl⟩
theorem sp_strChar {i j : Nat} (hi : i < 27) (hj : j < mx_slen.getD i 0) : mx_Spec l mJ0_charAt_5068e (d + 4) 0 0 [.ref (1001 + i), .int (nI j)] h (fun r h' => r = some (.int ((mx_sbyt.getD i []).getD j 0)) ∧ h' = h) := by
  refine mx_enter rfl (by simp [Value.category]) (Nat.le_of_ble_eq_true rfl) ?_
  refine g_aload_n dJ0_charAt_5068e_0 rfl rfl ?_
  refine s_callVS (M' := mJ0_isLatin1_aae02) (As := []) (i := i) (d := d + 3) hi dJ0_charAt_5068e_1 lm_J0_492 ovJ0_isLatin1_aae02 rfl (by simp [Value.category]) (by decide) rfl ⟨_, sp_isLatin1 hi, ?_⟩
  rintro _ _ ⟨rfl, rfl⟩
  refine g_if_eq (tgt := 16) dJ0_charAt_5068e_4 (by decide) (fun hh => absurd hh (by decide)) (fun _ => ?_)
  refine g_aload_n dJ0_charAt_5068e_7 rfl rfl ?_
  refine g_sval hi dJ0_charAt_5068e_8 lf_J0_9 ?_
  refine g_iload_n dJ0_charAt_5068e_11 rfl rfl ?_
  refine s_callS (M' := mJ1_charAt_3b067) (As := [.ref (2001 + i), .int (nI j)]) (st := []) (d := d + 3) dJ0_charAt_5068e_12 lm_J0_495 okJ1_charAt_3b067 osJ1_charAt_3b067 (by simp [Value.category]) (by decide) rfl ⟨_, sp_charAt1 hi hj, ?_⟩
  rintro _ _ ⟨rfl, rfl⟩
  exact g_zret (ty := .char) rfl (mx_schr i hi j hj).1.2 dJ0_charAt_5068e_15 rfl (Nat.le_refl _) ⟨rfl, rfl⟩
end STRSP
