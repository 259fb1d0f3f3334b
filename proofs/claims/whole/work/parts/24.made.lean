theorem mx_lo {M' : mx_M} {d a b : Nat} (h : M'.2.2.1 ≤ 45) : 8 + (M'.2.2.1 + 11) + (64 * d + 200) ≤ (mx_rm (d + 1) a b).locals := by simp only [mx_rm]; omega
def ks_1 : mx_Sk := [.inr (11, [none, none, none, none, none, none, none, none, none, none])]
def ks_2 : mx_Sk := [.inr (11, [none, none, none, none, none, none, none, none, none, none]), .inr (10, [none, none, none, none, none, none, none, none])]
def ks_3 : mx_Sk := [.inr (11, [none, none, none, none, none, none, none, none, none, none]), .inr (10, [none, none, none, none, none, none, none, none]), .inr (5, [none, none, none, none, none, none])]
def ks_4 : mx_Sk := [.inr (11, [none, none, none, none, none, none, none, none, none, none]), .inr (10, [none, none, none, none, none, none, none, none]), .inr (5, [some 3, some 4, some 5, some 6, some 7, none]), .inl 30, .inl 30, .inl 30, .inl 30, .inl 30]
def cf_X5_init_2 (I : mx_I) : mx_I := (mx_zero (mx_zero (mx_zero (mx_zero (mx_zero I 3) 4) 5) 6) 7)
set_option maxRecDepth 10000 in
set_option maxHeartbeats 2000000 in
theorem ct_X5_init_2 {l : Launch} {d : Nat} {I : mx_I} : mx_Spec l mX5_init (d + 1) 5 150 [.ref 2] (ks_3, I) (fun r h' => r = none ∧ h' = (ks_4, cf_X5_init_2 I)) := by
  refine mx_enter rfl (by simp [Value.category]) (Nat.le_of_ble_eq_true rfl) ?_
  change mx_Go l (mx_rm (d + 1) 5 150) mX5_init _ 0 0 0 [.ref 2] [] (ks_3, I)
  refine g_aload_n dX5_init_0 rfl rfl ?_
  refine g_objInit dX5_init_1 lm_X5_3 lo_1 lo_2 (by simp [Value.category]) (by simp only [mx_rm]; omega) (by simp only [mx_rm]; omega) ?_
  refine g_aload_n dX5_init_4 rfl rfl ?_
  refine g_bipush (v := 30) dX5_init_5 (by decide) ?_
  refine g_newa (N := 30) (n0 := 3) dX5_init_7 (by decide) (by decide) (by decide) rfl (by decide) (Nat.le_of_ble_eq_true rfl) (Nat.le_of_ble_eq_true rfl) ?_
  refine rp_X5_0 rfl rfl dX5_init_9 lf_X5_9 rfl (Nat.le_of_ble_eq_true rfl) ?_
  refine g_aload_n dX5_init_12 rfl rfl ?_
  refine g_bipush (v := 30) dX5_init_13 (by decide) ?_
  refine g_newa (N := 30) (n0 := 4) dX5_init_15 (by decide) (by decide) (by decide) rfl (by decide) (Nat.le_of_ble_eq_true rfl) (Nat.le_of_ble_eq_true rfl) ?_
  refine rp_X5_1 rfl rfl dX5_init_17 lf_X5_15 rfl (Nat.le_of_ble_eq_true rfl) ?_
  refine g_aload_n dX5_init_20 rfl rfl ?_
  refine g_bipush (v := 30) dX5_init_21 (by decide) ?_
  refine g_newa (N := 30) (n0 := 5) dX5_init_23 (by decide) (by decide) (by decide) rfl (by decide) (Nat.le_of_ble_eq_true rfl) (Nat.le_of_ble_eq_true rfl) ?_
  refine rp_X5_2 rfl rfl dX5_init_25 lf_X5_18 rfl (Nat.le_of_ble_eq_true rfl) ?_
  refine g_aload_n dX5_init_28 rfl rfl ?_
  refine g_bipush (v := 30) dX5_init_29 (by decide) ?_
  refine g_newa (N := 30) (n0 := 6) dX5_init_31 (by decide) (by decide) (by decide) rfl (by decide) (Nat.le_of_ble_eq_true rfl) (Nat.le_of_ble_eq_true rfl) ?_
  refine rp_X5_3 rfl rfl dX5_init_33 lf_X5_21 rfl (Nat.le_of_ble_eq_true rfl) ?_
  refine g_aload_n dX5_init_36 rfl rfl ?_
  refine g_bipush (v := 30) dX5_init_37 (by decide) ?_
  refine g_newa (N := 30) (n0 := 7) dX5_init_39 (by decide) (by decide) (by decide) rfl (by decide) (Nat.le_of_ble_eq_true rfl) (Nat.le_of_ble_eq_true rfl) ?_
  refine rp_X5_4 rfl rfl dX5_init_41 lf_X5_24 rfl (Nat.le_of_ble_eq_true rfl) ?_
  exact g_vret rfl dX5_init_44 rfl (Nat.le_of_ble_eq_true rfl) ⟨rfl, rfl⟩
def ks_5 : mx_Sk := [.inr (11, [none, none, none, none, none, none, none, none, none, none]), .inr (10, [some 2, none, none, none, none, none, none, none]), .inr (5, [some 3, some 4, some 5, some 6, some 7, none]), .inl 30, .inl 30, .inl 30, .inl 30, .inl 30, .inr (2, [none, none, none, none, none, none, none, none, none, none])]
def ks_6 : mx_Sk := [.inr (11, [none, none, none, none, none, none, none, none, none, none]), .inr (10, [some 2, none, none, none, none, none, none, none]), .inr (5, [some 3, some 4, some 5, some 6, some 7, none]), .inl 30, .inl 30, .inl 30, .inl 30, .inl 30, .inr (2, [some 9, some 10, some 11, some 12, some 13, some 14, some 15, some 16, some 17, none]), .inl 20, .inl 20, .inl 20, .inl 20, .inl 20, .inl 20, .inl 20, .inl 20, .inl 20]
def cf_X2_init_8 (I : mx_I) : mx_I := (mx_zero (mx_zero (mx_zero (mx_zero (mx_zero (mx_zero (mx_zero (mx_zero (mx_zero I 9) 10) 11) 12) 13) 14) 15) 16) 17)
set_option maxRecDepth 10000 in
set_option maxHeartbeats 2000000 in
theorem ct_X2_init_8 {l : Launch} {d : Nat} {I : mx_I} : mx_Spec l mX2_init (d + 1) 9 180 [.ref 8] (ks_5, I) (fun r h' => r = none ∧ h' = (ks_6, cf_X2_init_8 I)) := by
  refine mx_enter rfl (by simp [Value.category]) (Nat.le_of_ble_eq_true rfl) ?_
  change mx_Go l (mx_rm (d + 1) 9 180) mX2_init _ 0 0 0 [.ref 8] [] (ks_5, I)
  refine g_aload_n dX2_init_0 rfl rfl ?_
  refine g_objInit dX2_init_1 lm_X2_3 lo_1 lo_2 (by simp [Value.category]) (by simp only [mx_rm]; omega) (by simp only [mx_rm]; omega) ?_
  refine g_aload_n dX2_init_4 rfl rfl ?_
  refine g_bipush (v := 20) dX2_init_5 (by decide) ?_
  refine g_newa (N := 20) (n0 := 9) dX2_init_7 (by decide) (by decide) (by decide) rfl (by decide) (Nat.le_of_ble_eq_true rfl) (Nat.le_of_ble_eq_true rfl) ?_
  refine rp_X2_0 rfl rfl dX2_init_9 lf_X2_9 rfl (Nat.le_of_ble_eq_true rfl) ?_
  refine g_aload_n dX2_init_12 rfl rfl ?_
  refine g_bipush (v := 20) dX2_init_13 (by decide) ?_
  refine g_newa (N := 20) (n0 := 10) dX2_init_15 (by decide) (by decide) (by decide) rfl (by decide) (Nat.le_of_ble_eq_true rfl) (Nat.le_of_ble_eq_true rfl) ?_
  refine rp_X2_1 rfl rfl dX2_init_17 lf_X2_15 rfl (Nat.le_of_ble_eq_true rfl) ?_
  refine g_aload_n dX2_init_20 rfl rfl ?_
  refine g_bipush (v := 20) dX2_init_21 (by decide) ?_
  refine g_newa (N := 20) (n0 := 11) dX2_init_23 (by decide) (by decide) (by decide) rfl (by decide) (Nat.le_of_ble_eq_true rfl) (Nat.le_of_ble_eq_true rfl) ?_
  refine rp_X2_2 rfl rfl dX2_init_25 lf_X2_18 rfl (Nat.le_of_ble_eq_true rfl) ?_
  refine g_aload_n dX2_init_28 rfl rfl ?_
  refine g_bipush (v := 20) dX2_init_29 (by decide) ?_
  refine g_newa (N := 20) (n0 := 12) dX2_init_31 (by decide) (by decide) (by decide) rfl (by decide) (Nat.le_of_ble_eq_true rfl) (Nat.le_of_ble_eq_true rfl) ?_
  refine rp_X2_3 rfl rfl dX2_init_33 lf_X2_21 rfl (Nat.le_of_ble_eq_true rfl) ?_
  refine g_aload_n dX2_init_36 rfl rfl ?_
  refine g_bipush (v := 20) dX2_init_37 (by decide) ?_
  refine g_newa (N := 20) (n0 := 13) dX2_init_39 (by decide) (by decide) (by decide) rfl (by decide) (Nat.le_of_ble_eq_true rfl) (Nat.le_of_ble_eq_true rfl) ?_
  refine rp_X2_4 rfl rfl dX2_init_41 lf_X2_24 rfl (Nat.le_of_ble_eq_true rfl) ?_
  refine g_aload_n dX2_init_44 rfl rfl ?_
  refine g_bipush (v := 20) dX2_init_45 (by decide) ?_
  refine g_newa (N := 20) (n0 := 14) dX2_init_47 (by decide) (by decide) (by decide) rfl (by decide) (Nat.le_of_ble_eq_true rfl) (Nat.le_of_ble_eq_true rfl) ?_
  refine rp_X2_5 rfl rfl dX2_init_49 lf_X2_27 rfl (Nat.le_of_ble_eq_true rfl) ?_
  refine g_aload_n dX2_init_52 rfl rfl ?_
  refine g_bipush (v := 20) dX2_init_53 (by decide) ?_
  refine g_newa (N := 20) (n0 := 15) dX2_init_55 (by decide) (by decide) (by decide) rfl (by decide) (Nat.le_of_ble_eq_true rfl) (Nat.le_of_ble_eq_true rfl) ?_
  refine rp_X2_6 rfl rfl dX2_init_57 lf_X2_30 rfl (Nat.le_of_ble_eq_true rfl) ?_
  refine g_aload_n dX2_init_60 rfl rfl ?_
  refine g_bipush (v := 20) dX2_init_61 (by decide) ?_
  refine g_newa (N := 20) (n0 := 16) dX2_init_63 (by decide) (by decide) (by decide) rfl (by decide) (Nat.le_of_ble_eq_true rfl) (Nat.le_of_ble_eq_true rfl) ?_
  refine rp_X2_7 rfl rfl dX2_init_65 lf_X2_33 rfl (Nat.le_of_ble_eq_true rfl) ?_
  refine g_aload_n dX2_init_68 rfl rfl ?_
  refine g_bipush (v := 20) dX2_init_69 (by decide) ?_
  refine g_newa (N := 20) (n0 := 17) dX2_init_71 (by decide) (by decide) (by decide) rfl (by decide) (Nat.le_of_ble_eq_true rfl) (Nat.le_of_ble_eq_true rfl) ?_
  refine rp_X2_8 rfl rfl dX2_init_73 lf_X2_36 rfl (Nat.le_of_ble_eq_true rfl) ?_
  exact g_vret rfl dX2_init_76 rfl (Nat.le_of_ble_eq_true rfl) ⟨rfl, rfl⟩
def ks_7 : mx_Sk := [.inr (11, [none, none, none, none, none, none, none, none, none, none]), .inr (10, [some 2, some 8, none, none, none, none, none, none]), .inr (5, [some 3, some 4, some 5, some 6, some 7, none]), .inl 30, .inl 30, .inl 30, .inl 30, .inl 30, .inr (2, [some 9, some 10, some 11, some 12, some 13, some 14, some 15, some 16, some 17, none]), .inl 20, .inl 20, .inl 20, .inl 20, .inl 20, .inl 20, .inl 20, .inl 20, .inl 20, .inr (6, [none, none, none, none, none, none])]
def ks_8 : mx_Sk := [.inr (11, [none, none, none, none, none, none, none, none, none, none]), .inr (10, [some 2, some 8, none, none, none, none, none, none]), .inr (5, [some 3, some 4, some 5, some 6, some 7, none]), .inl 30, .inl 30, .inl 30, .inl 30, .inl 30, .inr (2, [some 9, some 10, some 11, some 12, some 13, some 14, some 15, some 16, some 17, none]), .inl 20, .inl 20, .inl 20, .inl 20, .inl 20, .inl 20, .inl 20, .inl 20, .inl 20, .inr (6, [some 19, some 20, some 21, some 22, some 23, none]), .inl 8, .inl 8, .inl 8, .inl 8, .inl 8]
def cf_X6_init_18 (I : mx_I) : mx_I := (mx_zero (mx_zero (mx_zero (mx_zero (mx_zero I 19) 20) 21) 22) 23)
set_option maxRecDepth 10000 in
set_option maxHeartbeats 2000000 in
theorem ct_X6_init_18 {l : Launch} {d : Nat} {I : mx_I} : mx_Spec l mX6_init (d + 1) 5 40 [.ref 18] (ks_7, I) (fun r h' => r = none ∧ h' = (ks_8, cf_X6_init_18 I)) := by
  refine mx_enter rfl (by simp [Value.category]) (Nat.le_of_ble_eq_true rfl) ?_
  change mx_Go l (mx_rm (d + 1) 5 40) mX6_init _ 0 0 0 [.ref 18] [] (ks_7, I)
  refine g_aload_n dX6_init_0 rfl rfl ?_
  refine g_objInit dX6_init_1 lm_X6_3 lo_1 lo_2 (by simp [Value.category]) (by simp only [mx_rm]; omega) (by simp only [mx_rm]; omega) ?_
  refine g_aload_n dX6_init_4 rfl rfl ?_
  refine g_bipush (v := 8) dX6_init_5 (by decide) ?_
  refine g_newa (N := 8) (n0 := 19) dX6_init_7 (by decide) (by decide) (by decide) rfl (by decide) (Nat.le_of_ble_eq_true rfl) (Nat.le_of_ble_eq_true rfl) ?_
  refine rp_X6_0 rfl rfl dX6_init_9 lf_X6_9 rfl (Nat.le_of_ble_eq_true rfl) ?_
  refine g_aload_n dX6_init_12 rfl rfl ?_
  refine g_bipush (v := 8) dX6_init_13 (by decide) ?_
  refine g_newa (N := 8) (n0 := 20) dX6_init_15 (by decide) (by decide) (by decide) rfl (by decide) (Nat.le_of_ble_eq_true rfl) (Nat.le_of_ble_eq_true rfl) ?_
  refine rp_X6_1 rfl rfl dX6_init_17 lf_X6_15 rfl (Nat.le_of_ble_eq_true rfl) ?_
  refine g_aload_n dX6_init_20 rfl rfl ?_
  refine g_bipush (v := 8) dX6_init_21 (by decide) ?_
  refine g_newa (N := 8) (n0 := 21) dX6_init_23 (by decide) (by decide) (by decide) rfl (by decide) (Nat.le_of_ble_eq_true rfl) (Nat.le_of_ble_eq_true rfl) ?_
  refine rp_X6_2 rfl rfl dX6_init_25 lf_X6_18 rfl (Nat.le_of_ble_eq_true rfl) ?_
  refine g_aload_n dX6_init_28 rfl rfl ?_
  refine g_bipush (v := 8) dX6_init_29 (by decide) ?_
  refine g_newa (N := 8) (n0 := 22) dX6_init_31 (by decide) (by decide) (by decide) rfl (by decide) (Nat.le_of_ble_eq_true rfl) (Nat.le_of_ble_eq_true rfl) ?_
  refine rp_X6_3 rfl rfl dX6_init_33 lf_X6_21 rfl (Nat.le_of_ble_eq_true rfl) ?_
  refine g_aload_n dX6_init_36 rfl rfl ?_
  refine g_bipush (v := 8) dX6_init_37 (by decide) ?_
  refine g_newa (N := 8) (n0 := 23) dX6_init_39 (by decide) (by decide) (by decide) rfl (by decide) (Nat.le_of_ble_eq_true rfl) (Nat.le_of_ble_eq_true rfl) ?_
  refine rp_X6_4 rfl rfl dX6_init_41 lf_X6_24 rfl (Nat.le_of_ble_eq_true rfl) ?_
  exact g_vret rfl dX6_init_44 rfl (Nat.le_of_ble_eq_true rfl) ⟨rfl, rfl⟩
def ks_9 : mx_Sk := [.inr (11, [none, none, none, none, none, none, none, none, none, none]), .inr (10, [some 2, some 8, some 18, none, none, none, none, none]), .inr (5, [some 3, some 4, some 5, some 6, some 7, none]), .inl 30, .inl 30, .inl 30, .inl 30, .inl 30, .inr (2, [some 9, some 10, some 11, some 12, some 13, some 14, some 15, some 16, some 17, none]), .inl 20, .inl 20, .inl 20, .inl 20, .inl 20, .inl 20, .inl 20, .inl 20, .inl 20, .inr (6, [some 19, some 20, some 21, some 22, some 23, none]), .inl 8, .inl 8, .inl 8, .inl 8, .inl 8, .inr (4, [none, none, none, none])]
def ks_10 : mx_Sk := [.inr (11, [none, none, none, none, none, none, none, none, none, none]), .inr (10, [some 2, some 8, some 18, none, none, none, none, none]), .inr (5, [some 3, some 4, some 5, some 6, some 7, none]), .inl 30, .inl 30, .inl 30, .inl 30, .inl 30, .inr (2, [some 9, some 10, some 11, some 12, some 13, some 14, some 15, some 16, some 17, none]), .inl 20, .inl 20, .inl 20, .inl 20, .inl 20, .inl 20, .inl 20, .inl 20, .inl 20, .inr (6, [some 19, some 20, some 21, some 22, some 23, none]), .inl 8, .inl 8, .inl 8, .inl 8, .inl 8, .inr (4, [some 25, some 26, some 27, none]), .inl 20, .inl 20, .inl 20]
def cf_X4_init_24 (I : mx_I) : mx_I := (mx_zero (mx_zero (mx_zero I 25) 26) 27)
set_option maxRecDepth 10000 in
set_option maxHeartbeats 2000000 in
theorem ct_X4_init_24 {l : Launch} {d : Nat} {I : mx_I} : mx_Spec l mX4_init (d + 1) 3 60 [.ref 24] (ks_9, I) (fun r h' => r = none ∧ h' = (ks_10, cf_X4_init_24 I)) := by
  refine mx_enter rfl (by simp [Value.category]) (Nat.le_of_ble_eq_true rfl) ?_
  change mx_Go l (mx_rm (d + 1) 3 60) mX4_init _ 0 0 0 [.ref 24] [] (ks_9, I)
  refine g_aload_n dX4_init_0 rfl rfl ?_
  refine g_objInit dX4_init_1 lm_X4_3 lo_1 lo_2 (by simp [Value.category]) (by simp only [mx_rm]; omega) (by simp only [mx_rm]; omega) ?_
  refine g_aload_n dX4_init_4 rfl rfl ?_
  refine g_bipush (v := 20) dX4_init_5 (by decide) ?_
  refine g_newa (N := 20) (n0 := 25) dX4_init_7 (by decide) (by decide) (by decide) rfl (by decide) (Nat.le_of_ble_eq_true rfl) (Nat.le_of_ble_eq_true rfl) ?_
  refine rp_X4_0 rfl rfl dX4_init_9 lf_X4_9 rfl (Nat.le_of_ble_eq_true rfl) ?_
  refine g_aload_n dX4_init_12 rfl rfl ?_
  refine g_bipush (v := 20) dX4_init_13 (by decide) ?_
  refine g_newa (N := 20) (n0 := 26) dX4_init_15 (by decide) (by decide) (by decide) rfl (by decide) (Nat.le_of_ble_eq_true rfl) (Nat.le_of_ble_eq_true rfl) ?_
  refine rp_X4_1 rfl rfl dX4_init_17 lf_X4_15 rfl (Nat.le_of_ble_eq_true rfl) ?_
  refine g_aload_n dX4_init_20 rfl rfl ?_
  refine g_bipush (v := 20) dX4_init_21 (by decide) ?_
  refine g_newa (N := 20) (n0 := 27) dX4_init_23 (by decide) (by decide) (by decide) rfl (by decide) (Nat.le_of_ble_eq_true rfl) (Nat.le_of_ble_eq_true rfl) ?_
  refine rp_X4_2 rfl rfl dX4_init_25 lf_X4_18 rfl (Nat.le_of_ble_eq_true rfl) ?_
  exact g_vret rfl dX4_init_28 rfl (Nat.le_of_ble_eq_true rfl) ⟨rfl, rfl⟩
def ks_11 : mx_Sk := [.inr (11, [none, none, none, none, none, none, none, none, none, none]), .inr (10, [some 2, some 8, some 18, some 24, none, none, none, none]), .inr (5, [some 3, some 4, some 5, some 6, some 7, none]), .inl 30, .inl 30, .inl 30, .inl 30, .inl 30, .inr (2, [some 9, some 10, some 11, some 12, some 13, some 14, some 15, some 16, some 17, none]), .inl 20, .inl 20, .inl 20, .inl 20, .inl 20, .inl 20, .inl 20, .inl 20, .inl 20, .inr (6, [some 19, some 20, some 21, some 22, some 23, none]), .inl 8, .inl 8, .inl 8, .inl 8, .inl 8, .inr (4, [some 25, some 26, some 27, none]), .inl 20, .inl 20, .inl 20, .inr (3, [none, none, none, none, none, none])]
def ks_12 : mx_Sk := [.inr (11, [none, none, none, none, none, none, none, none, none, none]), .inr (10, [some 2, some 8, some 18, some 24, none, none, none, none]), .inr (5, [some 3, some 4, some 5, some 6, some 7, none]), .inl 30, .inl 30, .inl 30, .inl 30, .inl 30, .inr (2, [some 9, some 10, some 11, some 12, some 13, some 14, some 15, some 16, some 17, none]), .inl 20, .inl 20, .inl 20, .inl 20, .inl 20, .inl 20, .inl 20, .inl 20, .inl 20, .inr (6, [some 19, some 20, some 21, some 22, some 23, none]), .inl 8, .inl 8, .inl 8, .inl 8, .inl 8, .inr (4, [some 25, some 26, some 27, none]), .inl 20, .inl 20, .inl 20, .inr (3, [some 29, some 30, some 31, some 32, none, none]), .inl 400, .inl 17, .inl 16, .inl 64]
def cf_X3_init_28 (I : mx_I) : mx_I := (mx_zero (mx_zero (mx_zero (mx_zero I 29) 30) 31) 32)
set_option maxRecDepth 10000 in
set_option maxHeartbeats 2000000 in
theorem ct_X3_init_28 {l : Launch} {d : Nat} {I : mx_I} : mx_Spec l mX3_init (d + 1) 4 497 [.ref 28] (ks_11, I) (fun r h' => r = none ∧ h' = (ks_12, cf_X3_init_28 I)) := by
  refine mx_enter rfl (by simp [Value.category]) (Nat.le_of_ble_eq_true rfl) ?_
  change mx_Go l (mx_rm (d + 1) 4 497) mX3_init _ 0 0 0 [.ref 28] [] (ks_11, I)
  refine g_aload_n dX3_init_0 rfl rfl ?_
  refine g_objInit dX3_init_1 lm_X3_3 lo_1 lo_2 (by simp [Value.category]) (by simp only [mx_rm]; omega) (by simp only [mx_rm]; omega) ?_
  refine g_aload_n dX3_init_4 rfl rfl ?_
  refine g_sipush (v := 400) dX3_init_5 (by decide) ?_
  refine g_newa (N := 400) (n0 := 29) dX3_init_8 (by decide) (by decide) (by decide) rfl (by decide) (Nat.le_of_ble_eq_true rfl) (Nat.le_of_ble_eq_true rfl) ?_
  refine rp_X3_0 rfl rfl dX3_init_10 lf_X3_9 rfl (Nat.le_of_ble_eq_true rfl) ?_
  refine g_aload_n dX3_init_13 rfl rfl ?_
  refine g_bipush (v := 17) dX3_init_14 (by decide) ?_
  refine g_newa (N := 17) (n0 := 30) dX3_init_16 (by decide) (by decide) (by decide) rfl (by decide) (Nat.le_of_ble_eq_true rfl) (Nat.le_of_ble_eq_true rfl) ?_
  refine rp_X3_1 rfl rfl dX3_init_18 lf_X3_15 rfl (Nat.le_of_ble_eq_true rfl) ?_
  refine g_aload_n dX3_init_21 rfl rfl ?_
  refine g_bipush (v := 16) dX3_init_22 (by decide) ?_
  refine g_newa (N := 16) (n0 := 31) dX3_init_24 (by decide) (by decide) (by decide) rfl (by decide) (Nat.le_of_ble_eq_true rfl) (Nat.le_of_ble_eq_true rfl) ?_
  refine rp_X3_2 rfl rfl dX3_init_26 lf_X3_18 rfl (Nat.le_of_ble_eq_true rfl) ?_
  refine g_aload_n dX3_init_29 rfl rfl ?_
  refine g_bipush (v := 64) dX3_init_30 (by decide) ?_
  refine g_newa (N := 64) (n0 := 32) dX3_init_32 (by decide) (by decide) (by decide) rfl (by decide) (Nat.le_of_ble_eq_true rfl) (Nat.le_of_ble_eq_true rfl) ?_
  refine rp_X3_3 rfl rfl dX3_init_34 lf_X3_21 rfl (Nat.le_of_ble_eq_true rfl) ?_
  exact g_vret rfl dX3_init_37 rfl (Nat.le_of_ble_eq_true rfl) ⟨rfl, rfl⟩
def ks_13 : mx_Sk := [.inr (11, [none, none, none, none, none, none, none, none, none, none]), .inr (10, [some 2, some 8, some 18, some 24, some 28, none, none, none]), .inr (5, [some 3, some 4, some 5, some 6, some 7, none]), .inl 30, .inl 30, .inl 30, .inl 30, .inl 30, .inr (2, [some 9, some 10, some 11, some 12, some 13, some 14, some 15, some 16, some 17, none]), .inl 20, .inl 20, .inl 20, .inl 20, .inl 20, .inl 20, .inl 20, .inl 20, .inl 20, .inr (6, [some 19, some 20, some 21, some 22, some 23, none]), .inl 8, .inl 8, .inl 8, .inl 8, .inl 8, .inr (4, [some 25, some 26, some 27, none]), .inl 20, .inl 20, .inl 20, .inr (3, [some 29, some 30, some 31, some 32, none, none]), .inl 400, .inl 17, .inl 16, .inl 64]
def cf_X10_init_1 (I : mx_I) : mx_I := (mx_set (mx_set (cf_X3_init_28 (mx_zero (cf_X4_init_24 (mx_zero (cf_X6_init_18 (mx_zero (cf_X2_init_8 (mx_zero (cf_X5_init_2 (mx_zero I 2)) 8)) 18)) 24)) 28)) 1 5 1) 1 6 (-1))
set_option maxRecDepth 10000 in
set_option maxHeartbeats 2000000 in
theorem ct_X10_init_1 {l : Launch} {d : Nat} {I : mx_I} : mx_Spec l mX10_init (d + 2) 31 959 [.ref 1] (ks_2, I) (fun r h' => r = none ∧ h' = (ks_13, cf_X10_init_1 I)) := by
  refine mx_enter rfl (by simp [Value.category]) (Nat.le_of_ble_eq_true rfl) ?_
  change mx_Go l (mx_rm (d + 2) 31 959) mX10_init _ 0 0 0 [.ref 1] [] (ks_2, I)
  refine g_aload_n dX10_init_0 rfl rfl ?_
  refine g_objInit dX10_init_1 lm_X10_3 lo_1 lo_2 (by simp [Value.category]) (by simp only [mx_rm]; omega) (by simp only [mx_rm]; omega) ?_
  refine g_aload_n dX10_init_4 rfl rfl ?_
  refine g_new (ci := 5) (n0 := 2) (C0 := RX5) (T0 := TX5) (N := 6) (ty0 := tyX5) rfl inX5 tyX5_ok rfl (by decide) dX10_init_5 lcl_X10_9 lin_X5 lii_X5 rfl (by decide) (Nat.le_of_ble_eq_true rfl) (Nat.le_of_ble_eq_true rfl) ?_
  refine g_dup dX10_init_8 rfl ?_
  change mx_Go l (mx_rm (d + 2) 31 959) mX10_init _ 1 6 9 [.ref 1] [.ref 2, .ref 2, .ref 1] (ks_3, (mx_zero I 2))
  refine g_callIN (M' := mX5_init) (As := []) (st := [.ref 2, .ref 1]) (ct_X5_init_2 (d := d + 0)) dX10_init_9 (by decide) okX5_init oiX5_init rfl rfl (by decide) (by simp [Value.category]) (Nat.le_refl _) (mx_lo (by decide)) (Nat.le_of_ble_eq_true rfl) (Nat.le_of_ble_eq_true rfl) rfl ?_
  rintro _ _ ⟨rfl, rfl⟩
  change mx_Go l (mx_rm (d + 2) 31 959) mX10_init _ 6 156 12 [.ref 1] [.ref 2, .ref 1] (ks_4, (cf_X5_init_2 (mx_zero I 2)))
  refine rp_X10_0 rfl rfl dX10_init_12 lf_X10_12 rfl (Nat.le_of_ble_eq_true rfl) ?_
  refine g_aload_n dX10_init_15 rfl rfl ?_
  refine g_new (ci := 2) (n0 := 8) (C0 := RX2) (T0 := TX2) (N := 10) (ty0 := tyX2) rfl inX2 tyX2_ok rfl (by decide) dX10_init_16 lcl_X10_18 lin_X2 lii_X2 rfl (by decide) (Nat.le_of_ble_eq_true rfl) (Nat.le_of_ble_eq_true rfl) ?_
  refine g_dup dX10_init_19 rfl ?_
  change mx_Go l (mx_rm (d + 2) 31 959) mX10_init _ 7 166 20 [.ref 1] [.ref 8, .ref 8, .ref 1] (ks_5, (mx_zero (cf_X5_init_2 (mx_zero I 2)) 8))
  refine g_callIN (M' := mX2_init) (As := []) (st := [.ref 8, .ref 1]) (ct_X2_init_8 (d := d + 0)) dX10_init_20 (by decide) okX2_init oiX2_init rfl rfl (by decide) (by simp [Value.category]) (Nat.le_refl _) (mx_lo (by decide)) (Nat.le_of_ble_eq_true rfl) (Nat.le_of_ble_eq_true rfl) rfl ?_
  rintro _ _ ⟨rfl, rfl⟩
  change mx_Go l (mx_rm (d + 2) 31 959) mX10_init _ 16 346 23 [.ref 1] [.ref 8, .ref 1] (ks_6, (cf_X2_init_8 (mx_zero (cf_X5_init_2 (mx_zero I 2)) 8)))
  refine rp_X10_1 rfl rfl dX10_init_23 lf_X10_21 rfl (Nat.le_of_ble_eq_true rfl) ?_
  refine g_aload_n dX10_init_26 rfl rfl ?_
  refine g_new (ci := 6) (n0 := 18) (C0 := RX6) (T0 := TX6) (N := 6) (ty0 := tyX6) rfl inX6 tyX6_ok rfl (by decide) dX10_init_27 lcl_X10_25 lin_X6 lii_X6 rfl (by decide) (Nat.le_of_ble_eq_true rfl) (Nat.le_of_ble_eq_true rfl) ?_
  refine g_dup dX10_init_30 rfl ?_
  change mx_Go l (mx_rm (d + 2) 31 959) mX10_init _ 17 352 31 [.ref 1] [.ref 18, .ref 18, .ref 1] (ks_7, (mx_zero (cf_X2_init_8 (mx_zero (cf_X5_init_2 (mx_zero I 2)) 8)) 18))
  refine g_callIN (M' := mX6_init) (As := []) (st := [.ref 18, .ref 1]) (ct_X6_init_18 (d := d + 0)) dX10_init_31 (by decide) okX6_init oiX6_init rfl rfl (by decide) (by simp [Value.category]) (Nat.le_refl _) (mx_lo (by decide)) (Nat.le_of_ble_eq_true rfl) (Nat.le_of_ble_eq_true rfl) rfl ?_
  rintro _ _ ⟨rfl, rfl⟩
  change mx_Go l (mx_rm (d + 2) 31 959) mX10_init _ 22 392 34 [.ref 1] [.ref 18, .ref 1] (ks_8, (cf_X6_init_18 (mx_zero (cf_X2_init_8 (mx_zero (cf_X5_init_2 (mx_zero I 2)) 8)) 18)))
  refine rp_X10_2 rfl rfl dX10_init_34 lf_X10_28 rfl (Nat.le_of_ble_eq_true rfl) ?_
  refine g_aload_n dX10_init_37 rfl rfl ?_
  refine g_new (ci := 4) (n0 := 24) (C0 := RX4) (T0 := TX4) (N := 4) (ty0 := tyX4) rfl inX4 tyX4_ok rfl (by decide) dX10_init_38 lcl_X10_32 lin_X4 lii_X4 rfl (by decide) (Nat.le_of_ble_eq_true rfl) (Nat.le_of_ble_eq_true rfl) ?_
  refine g_dup dX10_init_41 rfl ?_
  change mx_Go l (mx_rm (d + 2) 31 959) mX10_init _ 23 396 42 [.ref 1] [.ref 24, .ref 24, .ref 1] (ks_9, (mx_zero (cf_X6_init_18 (mx_zero (cf_X2_init_8 (mx_zero (cf_X5_init_2 (mx_zero I 2)) 8)) 18)) 24))
  refine g_callIN (M' := mX4_init) (As := []) (st := [.ref 24, .ref 1]) (ct_X4_init_24 (d := d + 0)) dX10_init_42 (by decide) okX4_init oiX4_init rfl rfl (by decide) (by simp [Value.category]) (Nat.le_refl _) (mx_lo (by decide)) (Nat.le_of_ble_eq_true rfl) (Nat.le_of_ble_eq_true rfl) rfl ?_
  rintro _ _ ⟨rfl, rfl⟩
  change mx_Go l (mx_rm (d + 2) 31 959) mX10_init _ 26 456 45 [.ref 1] [.ref 24, .ref 1] (ks_10, (cf_X4_init_24 (mx_zero (cf_X6_init_18 (mx_zero (cf_X2_init_8 (mx_zero (cf_X5_init_2 (mx_zero I 2)) 8)) 18)) 24)))
  refine rp_X10_3 rfl rfl dX10_init_45 lf_X10_35 rfl (Nat.le_of_ble_eq_true rfl) ?_
  refine g_aload_n dX10_init_48 rfl rfl ?_
  refine g_new (ci := 3) (n0 := 28) (C0 := RX3) (T0 := TX3) (N := 6) (ty0 := tyX3) rfl inX3 tyX3_ok rfl (by decide) dX10_init_49 lcl_X10_39 lin_X3 lii_X3 rfl (by decide) (Nat.le_of_ble_eq_true rfl) (Nat.le_of_ble_eq_true rfl) ?_
  refine g_dup dX10_init_52 rfl ?_
  change mx_Go l (mx_rm (d + 2) 31 959) mX10_init _ 27 462 53 [.ref 1] [.ref 28, .ref 28, .ref 1] (ks_11, (mx_zero (cf_X4_init_24 (mx_zero (cf_X6_init_18 (mx_zero (cf_X2_init_8 (mx_zero (cf_X5_init_2 (mx_zero I 2)) 8)) 18)) 24)) 28))
  refine g_callIN (M' := mX3_init) (As := []) (st := [.ref 28, .ref 1]) (ct_X3_init_28 (d := d + 0)) dX10_init_53 (by decide) okX3_init oiX3_init rfl rfl (by decide) (by simp [Value.category]) (Nat.le_refl _) (mx_lo (by decide)) (Nat.le_of_ble_eq_true rfl) (Nat.le_of_ble_eq_true rfl) rfl ?_
  rintro _ _ ⟨rfl, rfl⟩
  change mx_Go l (mx_rm (d + 2) 31 959) mX10_init _ 31 959 56 [.ref 1] [.ref 28, .ref 1] (ks_12, (cf_X3_init_28 (mx_zero (cf_X4_init_24 (mx_zero (cf_X6_init_18 (mx_zero (cf_X2_init_8 (mx_zero (cf_X5_init_2 (mx_zero I 2)) 8)) 18)) 24)) 28)))
  refine rp_X10_4 rfl rfl dX10_init_56 lf_X10_42 rfl (Nat.le_of_ble_eq_true rfl) ?_
  refine g_aload_n dX10_init_59 rfl rfl ?_
  refine g_iconst (v := 1) dX10_init_60 (by decide) ?_
  refine rp_X10_5 dX10_init_61 lf_X10_46 rfl ?_
  refine g_aload_n dX10_init_64 rfl rfl ?_
  refine g_iconst (v := (-1)) dX10_init_65 (by decide) ?_
  refine rp_X10_6 dX10_init_66 lf_X10_50 rfl ?_
  exact g_vret rfl dX10_init_69 rfl (Nat.le_of_ble_eq_true rfl) ⟨rfl, rfl⟩
def ks_14 : mx_Sk := [.inr (11, [some 1, none, none, none, none, none, none, none, none, none]), .inr (10, [some 2, some 8, some 18, some 24, some 28, none, none, none]), .inr (5, [some 3, some 4, some 5, some 6, some 7, none]), .inl 30, .inl 30, .inl 30, .inl 30, .inl 30, .inr (2, [some 9, some 10, some 11, some 12, some 13, some 14, some 15, some 16, some 17, none]), .inl 20, .inl 20, .inl 20, .inl 20, .inl 20, .inl 20, .inl 20, .inl 20, .inl 20, .inr (6, [some 19, some 20, some 21, some 22, some 23, none]), .inl 8, .inl 8, .inl 8, .inl 8, .inl 8, .inr (4, [some 25, some 26, some 27, none]), .inl 20, .inl 20, .inl 20, .inr (3, [some 29, some 30, some 31, some 32, none, none]), .inl 400, .inl 17, .inl 16, .inl 64, .inr (9, [none, none, none, none, none, none, none, none, none, none, none])]
def ks_15 : mx_Sk := [.inr (11, [some 1, none, none, none, none, none, none, none, none, none]), .inr (10, [some 2, some 8, some 18, some 24, some 28, none, none, none]), .inr (5, [some 3, some 4, some 5, some 6, some 7, none]), .inl 30, .inl 30, .inl 30, .inl 30, .inl 30, .inr (2, [some 9, some 10, some 11, some 12, some 13, some 14, some 15, some 16, some 17, none]), .inl 20, .inl 20, .inl 20, .inl 20, .inl 20, .inl 20, .inl 20, .inl 20, .inl 20, .inr (6, [some 19, some 20, some 21, some 22, some 23, none]), .inl 8, .inl 8, .inl 8, .inl 8, .inl 8, .inr (4, [some 25, some 26, some 27, none]), .inl 20, .inl 20, .inl 20, .inr (3, [some 29, some 30, some 31, some 32, none, none]), .inl 400, .inl 17, .inl 16, .inl 64, .inr (9, [some 34, some 35, some 36, some 37, some 38, some 39, some 40, some 41, some 42, none, none]), .inl 30, .inl 30, .inl 30, .inl 30, .inl 120, .inl 4, .inl 20, .inl 20, .inl 20]
def cf_X9_init_33 (I : mx_I) : mx_I := (mx_clr (mx_zero (mx_zero (mx_zero (mx_zero (mx_zero (mx_zero (mx_zero (mx_zero (mx_zero I 34) 35) 36) 37) 38) 39) 40) 41) 42) 33)
set_option maxRecDepth 10000 in
set_option maxHeartbeats 2000000 in
theorem ct_X9_init_33 {l : Launch} {d : Nat} {I : mx_I} : mx_Spec l mX9_init (d + 3) 9 304 [.ref 33] (ks_14, I) (fun r h' => r = none ∧ h' = (ks_15, cf_X9_init_33 I)) := by
  refine mx_enter rfl (by simp [Value.category]) (Nat.le_of_ble_eq_true rfl) ?_
  change mx_Go l (mx_rm (d + 3) 9 304) mX9_init _ 0 0 0 [.ref 33] [] (ks_14, I)
  refine g_aload_n dX9_init_0 rfl rfl ?_
  refine g_objInit dX9_init_1 lm_X9_3 lo_1 lo_2 (by simp [Value.category]) (by simp only [mx_rm]; omega) (by simp only [mx_rm]; omega) ?_
  refine g_aload_n dX9_init_4 rfl rfl ?_
  refine g_bipush (v := 30) dX9_init_5 (by decide) ?_
  refine g_newa (N := 30) (n0 := 34) dX9_init_7 (by decide) (by decide) (by decide) rfl (by decide) (Nat.le_of_ble_eq_true rfl) (Nat.le_of_ble_eq_true rfl) ?_
  refine rp_X9_0 rfl rfl dX9_init_9 lf_X9_9 rfl (Nat.le_of_ble_eq_true rfl) ?_
  refine g_aload_n dX9_init_12 rfl rfl ?_
  refine g_bipush (v := 30) dX9_init_13 (by decide) ?_
  refine g_newa (N := 30) (n0 := 35) dX9_init_15 (by decide) (by decide) (by decide) rfl (by decide) (Nat.le_of_ble_eq_true rfl) (Nat.le_of_ble_eq_true rfl) ?_
  refine rp_X9_1 rfl rfl dX9_init_17 lf_X9_15 rfl (Nat.le_of_ble_eq_true rfl) ?_
  refine g_aload_n dX9_init_20 rfl rfl ?_
  refine g_bipush (v := 30) dX9_init_21 (by decide) ?_
  refine g_newa (N := 30) (n0 := 36) dX9_init_23 (by decide) (by decide) (by decide) rfl (by decide) (Nat.le_of_ble_eq_true rfl) (Nat.le_of_ble_eq_true rfl) ?_
  refine rp_X9_2 rfl rfl dX9_init_25 lf_X9_18 rfl (Nat.le_of_ble_eq_true rfl) ?_
  refine g_aload_n dX9_init_28 rfl rfl ?_
  refine g_bipush (v := 30) dX9_init_29 (by decide) ?_
  refine g_newa (N := 30) (n0 := 37) dX9_init_31 (by decide) (by decide) (by decide) rfl (by decide) (Nat.le_of_ble_eq_true rfl) (Nat.le_of_ble_eq_true rfl) ?_
  refine rp_X9_3 rfl rfl dX9_init_33 lf_X9_21 rfl (Nat.le_of_ble_eq_true rfl) ?_
  refine g_aload_n dX9_init_36 rfl rfl ?_
  refine g_bipush (v := 120) dX9_init_37 (by decide) ?_
  refine g_newa (N := 120) (n0 := 38) dX9_init_39 (by decide) (by decide) (by decide) rfl (by decide) (Nat.le_of_ble_eq_true rfl) (Nat.le_of_ble_eq_true rfl) ?_
  refine rp_X9_4 rfl rfl dX9_init_41 lf_X9_24 rfl (Nat.le_of_ble_eq_true rfl) ?_
  refine g_aload_n dX9_init_44 rfl rfl ?_
  refine g_iconst (v := 4) dX9_init_45 (by decide) ?_
  refine g_newa (N := 4) (n0 := 39) dX9_init_46 (by decide) (by decide) (by decide) rfl (by decide) (Nat.le_of_ble_eq_true rfl) (Nat.le_of_ble_eq_true rfl) ?_
  refine rp_X9_5 rfl rfl dX9_init_48 lf_X9_27 rfl (Nat.le_of_ble_eq_true rfl) ?_
  refine g_aload_n dX9_init_51 rfl rfl ?_
  refine g_bipush (v := 20) dX9_init_52 (by decide) ?_
  refine g_newa (N := 20) (n0 := 40) dX9_init_54 (by decide) (by decide) (by decide) rfl (by decide) (Nat.le_of_ble_eq_true rfl) (Nat.le_of_ble_eq_true rfl) ?_
  refine rp_X9_6 rfl rfl dX9_init_56 lf_X9_30 rfl (Nat.le_of_ble_eq_true rfl) ?_
  refine g_aload_n dX9_init_59 rfl rfl ?_
  refine g_bipush (v := 20) dX9_init_60 (by decide) ?_
  refine g_newa (N := 20) (n0 := 41) dX9_init_62 (by decide) (by decide) (by decide) rfl (by decide) (Nat.le_of_ble_eq_true rfl) (Nat.le_of_ble_eq_true rfl) ?_
  refine rp_X9_7 rfl rfl dX9_init_64 lf_X9_33 rfl (Nat.le_of_ble_eq_true rfl) ?_
  refine g_aload_n dX9_init_67 rfl rfl ?_
  refine g_bipush (v := 20) dX9_init_68 (by decide) ?_
  refine g_newa (N := 20) (n0 := 42) dX9_init_70 (by decide) (by decide) (by decide) rfl (by decide) (Nat.le_of_ble_eq_true rfl) (Nat.le_of_ble_eq_true rfl) ?_
  refine rp_X9_8 rfl rfl dX9_init_72 lf_X9_36 rfl (Nat.le_of_ble_eq_true rfl) ?_
  refine g_aload_n dX9_init_75 rfl rfl ?_
  change mx_Go l (mx_rm (d + 3) 9 304) mX9_init _ 9 304 76 [.ref 33] [.ref 33] (ks_15, (mx_zero (mx_zero (mx_zero (mx_zero (mx_zero (mx_zero (mx_zero (mx_zero (mx_zero I 34) 35) 36) 37) 38) 39) 40) 41) 42))
  refine g_callV (M' := mX9_clear) (As := []) (st := []) (sp_clear (d := d + 0) (k := 33) ⟨rfl, rfl, rfl, rfl, rfl, rfl, rfl, rfl, rfl, rfl⟩) dX9_init_76 lm_X9_39 ovX9_clear (ci := 9) rfl rfl rfl (by simp [Value.category]) (Nat.le_refl _) (mx_lo (by decide)) (Nat.le_of_ble_eq_true rfl) (Nat.le_of_ble_eq_true rfl) ?_
  rintro _ _ ⟨rfl, rfl⟩
  change mx_Go l (mx_rm (d + 3) 9 304) mX9_init _ 9 304 79 [.ref 33] [] (ks_15, (mx_clr (mx_zero (mx_zero (mx_zero (mx_zero (mx_zero (mx_zero (mx_zero (mx_zero (mx_zero I 34) 35) 36) 37) 38) 39) 40) 41) 42) 33))
  exact g_vret rfl dX9_init_79 rfl (Nat.le_of_ble_eq_true rfl) ⟨rfl, rfl⟩
def ks_16 : mx_Sk := [.inr (11, [some 1, some 33, none, none, none, none, none, none, none, none]), .inr (10, [some 2, some 8, some 18, some 24, some 28, none, none, none]), .inr (5, [some 3, some 4, some 5, some 6, some 7, none]), .inl 30, .inl 30, .inl 30, .inl 30, .inl 30, .inr (2, [some 9, some 10, some 11, some 12, some 13, some 14, some 15, some 16, some 17, none]), .inl 20, .inl 20, .inl 20, .inl 20, .inl 20, .inl 20, .inl 20, .inl 20, .inl 20, .inr (6, [some 19, some 20, some 21, some 22, some 23, none]), .inl 8, .inl 8, .inl 8, .inl 8, .inl 8, .inr (4, [some 25, some 26, some 27, none]), .inl 20, .inl 20, .inl 20, .inr (3, [some 29, some 30, some 31, some 32, none, none]), .inl 400, .inl 17, .inl 16, .inl 64, .inr (9, [some 34, some 35, some 36, some 37, some 38, some 39, some 40, some 41, some 42, none, none]), .inl 30, .inl 30, .inl 30, .inl 30, .inl 120, .inl 4, .inl 20, .inl 20, .inl 20, .inr (0, [none, none, none, none])]
def ks_17 : mx_Sk := [.inr (11, [some 1, some 33, none, none, none, none, none, none, none, none]), .inr (10, [some 2, some 8, some 18, some 24, some 28, none, none, none]), .inr (5, [some 3, some 4, some 5, some 6, some 7, none]), .inl 30, .inl 30, .inl 30, .inl 30, .inl 30, .inr (2, [some 9, some 10, some 11, some 12, some 13, some 14, some 15, some 16, some 17, none]), .inl 20, .inl 20, .inl 20, .inl 20, .inl 20, .inl 20, .inl 20, .inl 20, .inl 20, .inr (6, [some 19, some 20, some 21, some 22, some 23, none]), .inl 8, .inl 8, .inl 8, .inl 8, .inl 8, .inr (4, [some 25, some 26, some 27, none]), .inl 20, .inl 20, .inl 20, .inr (3, [some 29, some 30, some 31, some 32, none, none]), .inl 400, .inl 17, .inl 16, .inl 64, .inr (9, [some 34, some 35, some 36, some 37, some 38, some 39, some 40, some 41, some 42, none, none]), .inl 30, .inl 30, .inl 30, .inl 30, .inl 120, .inl 4, .inl 20, .inl 20, .inl 20, .inr (0, [some 44, some 45, some 46, none]), .inl 300, .inl 300, .inl 300]
def cf_X0_init_43 (I : mx_I) : mx_I := (mx_zero (mx_zero (mx_zero I 44) 45) 46)
set_option maxRecDepth 10000 in
set_option maxHeartbeats 2000000 in
theorem ct_X0_init_43 {l : Launch} {d : Nat} {I : mx_I} : mx_Spec l mX0_init (d + 1) 3 900 [.ref 43] (ks_16, I) (fun r h' => r = none ∧ h' = (ks_17, cf_X0_init_43 I)) := by
  refine mx_enter rfl (by simp [Value.category]) (Nat.le_of_ble_eq_true rfl) ?_
  change mx_Go l (mx_rm (d + 1) 3 900) mX0_init _ 0 0 0 [.ref 43] [] (ks_16, I)
  refine g_aload_n dX0_init_0 rfl rfl ?_
  refine g_objInit dX0_init_1 lm_X0_3 lo_1 lo_2 (by simp [Value.category]) (by simp only [mx_rm]; omega) (by simp only [mx_rm]; omega) ?_
  refine g_aload_n dX0_init_4 rfl rfl ?_
  refine g_sipush (v := 300) dX0_init_5 (by decide) ?_
  refine g_newa (N := 300) (n0 := 44) dX0_init_8 (by decide) (by decide) (by decide) rfl (by decide) (Nat.le_of_ble_eq_true rfl) (Nat.le_of_ble_eq_true rfl) ?_
  refine rp_X0_0 rfl rfl dX0_init_10 lf_X0_9 rfl (Nat.le_of_ble_eq_true rfl) ?_
  refine g_aload_n dX0_init_13 rfl rfl ?_
  refine g_sipush (v := 300) dX0_init_14 (by decide) ?_
  refine g_newa (N := 300) (n0 := 45) dX0_init_17 (by decide) (by decide) (by decide) rfl (by decide) (Nat.le_of_ble_eq_true rfl) (Nat.le_of_ble_eq_true rfl) ?_
  refine rp_X0_1 rfl rfl dX0_init_19 lf_X0_15 rfl (Nat.le_of_ble_eq_true rfl) ?_
  refine g_aload_n dX0_init_22 rfl rfl ?_
  refine g_sipush (v := 300) dX0_init_23 (by decide) ?_
  refine g_newa (N := 300) (n0 := 46) dX0_init_26 (by decide) (by decide) (by decide) rfl (by decide) (Nat.le_of_ble_eq_true rfl) (Nat.le_of_ble_eq_true rfl) ?_
  refine rp_X0_2 rfl rfl dX0_init_28 lf_X0_18 rfl (Nat.le_of_ble_eq_true rfl) ?_
  exact g_vret rfl dX0_init_31 rfl (Nat.le_of_ble_eq_true rfl) ⟨rfl, rfl⟩
def ks_18 : mx_Sk := [.inr (11, [some 1, some 33, some 43, none, none, none, none, none, none, none]), .inr (10, [some 2, some 8, some 18, some 24, some 28, none, none, none]), .inr (5, [some 3, some 4, some 5, some 6, some 7, none]), .inl 30, .inl 30, .inl 30, .inl 30, .inl 30, .inr (2, [some 9, some 10, some 11, some 12, some 13, some 14, some 15, some 16, some 17, none]), .inl 20, .inl 20, .inl 20, .inl 20, .inl 20, .inl 20, .inl 20, .inl 20, .inl 20, .inr (6, [some 19, some 20, some 21, some 22, some 23, none]), .inl 8, .inl 8, .inl 8, .inl 8, .inl 8, .inr (4, [some 25, some 26, some 27, none]), .inl 20, .inl 20, .inl 20, .inr (3, [some 29, some 30, some 31, some 32, none, none]), .inl 400, .inl 17, .inl 16, .inl 64, .inr (9, [some 34, some 35, some 36, some 37, some 38, some 39, some 40, some 41, some 42, none, none]), .inl 30, .inl 30, .inl 30, .inl 30, .inl 120, .inl 4, .inl 20, .inl 20, .inl 20, .inr (0, [some 44, some 45, some 46, none]), .inl 300, .inl 300, .inl 300, .inr (8, [none, none, none, none, none, none, none, none, none, none, none, none, none, none, none])]
def ks_19 : mx_Sk := [.inr (11, [some 1, some 33, some 43, none, none, none, none, none, none, none]), .inr (10, [some 2, some 8, some 18, some 24, some 28, none, none, none]), .inr (5, [some 3, some 4, some 5, some 6, some 7, none]), .inl 30, .inl 30, .inl 30, .inl 30, .inl 30, .inr (2, [some 9, some 10, some 11, some 12, some 13, some 14, some 15, some 16, some 17, none]), .inl 20, .inl 20, .inl 20, .inl 20, .inl 20, .inl 20, .inl 20, .inl 20, .inl 20, .inr (6, [some 19, some 20, some 21, some 22, some 23, none]), .inl 8, .inl 8, .inl 8, .inl 8, .inl 8, .inr (4, [some 25, some 26, some 27, none]), .inl 20, .inl 20, .inl 20, .inr (3, [some 29, some 30, some 31, some 32, none, none]), .inl 400, .inl 17, .inl 16, .inl 64, .inr (9, [some 34, some 35, some 36, some 37, some 38, some 39, some 40, some 41, some 42, none, none]), .inl 30, .inl 30, .inl 30, .inl 30, .inl 120, .inl 4, .inl 20, .inl 20, .inl 20, .inr (0, [some 44, some 45, some 46, none]), .inl 300, .inl 300, .inl 300, .inr (8, [some 48, none, none, none, none, none, none, none, none, none, none, none, none, none, none]), .inl 400, .inr (3, [none, none, none, none, none, none])]
def ks_20 : mx_Sk := [.inr (11, [some 1, some 33, some 43, none, none, none, none, none, none, none]), .inr (10, [some 2, some 8, some 18, some 24, some 28, none, none, none]), .inr (5, [some 3, some 4, some 5, some 6, some 7, none]), .inl 30, .inl 30, .inl 30, .inl 30, .inl 30, .inr (2, [some 9, some 10, some 11, some 12, some 13, some 14, some 15, some 16, some 17, none]), .inl 20, .inl 20, .inl 20, .inl 20, .inl 20, .inl 20, .inl 20, .inl 20, .inl 20, .inr (6, [some 19, some 20, some 21, some 22, some 23, none]), .inl 8, .inl 8, .inl 8, .inl 8, .inl 8, .inr (4, [some 25, some 26, some 27, none]), .inl 20, .inl 20, .inl 20, .inr (3, [some 29, some 30, some 31, some 32, none, none]), .inl 400, .inl 17, .inl 16, .inl 64, .inr (9, [some 34, some 35, some 36, some 37, some 38, some 39, some 40, some 41, some 42, none, none]), .inl 30, .inl 30, .inl 30, .inl 30, .inl 120, .inl 4, .inl 20, .inl 20, .inl 20, .inr (0, [some 44, some 45, some 46, none]), .inl 300, .inl 300, .inl 300, .inr (8, [some 48, none, none, none, none, none, none, none, none, none, none, none, none, none, none]), .inl 400, .inr (3, [some 50, some 51, some 52, some 53, none, none]), .inl 400, .inl 17, .inl 16, .inl 64]
def cf_X3_init_49 (I : mx_I) : mx_I := (mx_zero (mx_zero (mx_zero (mx_zero I 50) 51) 52) 53)
set_option maxRecDepth 10000 in
set_option maxHeartbeats 2000000 in
theorem ct_X3_init_49 {l : Launch} {d : Nat} {I : mx_I} : mx_Spec l mX3_init (d + 1) 4 497 [.ref 49] (ks_19, I) (fun r h' => r = none ∧ h' = (ks_20, cf_X3_init_49 I)) := by
  refine mx_enter rfl (by simp [Value.category]) (Nat.le_of_ble_eq_true rfl) ?_
  change mx_Go l (mx_rm (d + 1) 4 497) mX3_init _ 0 0 0 [.ref 49] [] (ks_19, I)
  refine g_aload_n dX3_init_0 rfl rfl ?_
  refine g_objInit dX3_init_1 lm_X3_3 lo_1 lo_2 (by simp [Value.category]) (by simp only [mx_rm]; omega) (by simp only [mx_rm]; omega) ?_
  refine g_aload_n dX3_init_4 rfl rfl ?_
  refine g_sipush (v := 400) dX3_init_5 (by decide) ?_
  refine g_newa (N := 400) (n0 := 50) dX3_init_8 (by decide) (by decide) (by decide) rfl (by decide) (Nat.le_of_ble_eq_true rfl) (Nat.le_of_ble_eq_true rfl) ?_
  refine rp_X3_0 rfl rfl dX3_init_10 lf_X3_9 rfl (Nat.le_of_ble_eq_true rfl) ?_
  refine g_aload_n dX3_init_13 rfl rfl ?_
  refine g_bipush (v := 17) dX3_init_14 (by decide) ?_
  refine g_newa (N := 17) (n0 := 51) dX3_init_16 (by decide) (by decide) (by decide) rfl (by decide) (Nat.le_of_ble_eq_true rfl) (Nat.le_of_ble_eq_true rfl) ?_
  refine rp_X3_1 rfl rfl dX3_init_18 lf_X3_15 rfl (Nat.le_of_ble_eq_true rfl) ?_
  refine g_aload_n dX3_init_21 rfl rfl ?_
  refine g_bipush (v := 16) dX3_init_22 (by decide) ?_
  refine g_newa (N := 16) (n0 := 52) dX3_init_24 (by decide) (by decide) (by decide) rfl (by decide) (Nat.le_of_ble_eq_true rfl) (Nat.le_of_ble_eq_true rfl) ?_
  refine rp_X3_2 rfl rfl dX3_init_26 lf_X3_18 rfl (Nat.le_of_ble_eq_true rfl) ?_
  refine g_aload_n dX3_init_29 rfl rfl ?_
  refine g_bipush (v := 64) dX3_init_30 (by decide) ?_
  refine g_newa (N := 64) (n0 := 53) dX3_init_32 (by decide) (by decide) (by decide) rfl (by decide) (Nat.le_of_ble_eq_true rfl) (Nat.le_of_ble_eq_true rfl) ?_
  refine rp_X3_3 rfl rfl dX3_init_34 lf_X3_21 rfl (Nat.le_of_ble_eq_true rfl) ?_
  exact g_vret rfl dX3_init_37 rfl (Nat.le_of_ble_eq_true rfl) ⟨rfl, rfl⟩
def ks_21 : mx_Sk := [.inr (11, [some 1, some 33, some 43, none, none, none, none, none, none, none]), .inr (10, [some 2, some 8, some 18, some 24, some 28, none, none, none]), .inr (5, [some 3, some 4, some 5, some 6, some 7, none]), .inl 30, .inl 30, .inl 30, .inl 30, .inl 30, .inr (2, [some 9, some 10, some 11, some 12, some 13, some 14, some 15, some 16, some 17, none]), .inl 20, .inl 20, .inl 20, .inl 20, .inl 20, .inl 20, .inl 20, .inl 20, .inl 20, .inr (6, [some 19, some 20, some 21, some 22, some 23, none]), .inl 8, .inl 8, .inl 8, .inl 8, .inl 8, .inr (4, [some 25, some 26, some 27, none]), .inl 20, .inl 20, .inl 20, .inr (3, [some 29, some 30, some 31, some 32, none, none]), .inl 400, .inl 17, .inl 16, .inl 64, .inr (9, [some 34, some 35, some 36, some 37, some 38, some 39, some 40, some 41, some 42, none, none]), .inl 30, .inl 30, .inl 30, .inl 30, .inl 120, .inl 4, .inl 20, .inl 20, .inl 20, .inr (0, [some 44, some 45, some 46, none]), .inl 300, .inl 300, .inl 300, .inr (8, [some 48, some 49, some 54, none, none, none, none, none, none, none, none, none, none, none, none]), .inl 400, .inr (3, [some 50, some 51, some 52, some 53, none, none]), .inl 400, .inl 17, .inl 16, .inl 64, .inl 64]
def cf_X8_init_47 (I : mx_I) : mx_I := (mx_set (mx_zero (cf_X3_init_49 (mx_zero (mx_zero I 48) 49)) 54) 47 5 (-1))
set_option maxRecDepth 10000 in
set_option maxHeartbeats 2000000 in
theorem ct_X8_init_47 {l : Launch} {d : Nat} {I : mx_I} : mx_Spec l mX8_init (d + 2) 7 967 [.ref 47] (ks_18, I) (fun r h' => r = none ∧ h' = (ks_21, cf_X8_init_47 I)) := by
  refine mx_enter rfl (by simp [Value.category]) (Nat.le_of_ble_eq_true rfl) ?_
  change mx_Go l (mx_rm (d + 2) 7 967) mX8_init _ 0 0 0 [.ref 47] [] (ks_18, I)
  refine g_aload_n dX8_init_0 rfl rfl ?_
  refine g_objInit dX8_init_1 lm_X8_3 lo_1 lo_2 (by simp [Value.category]) (by simp only [mx_rm]; omega) (by simp only [mx_rm]; omega) ?_
  refine g_aload_n dX8_init_4 rfl rfl ?_
  refine g_sipush (v := 400) dX8_init_5 (by decide) ?_
  refine g_newa (N := 400) (n0 := 48) dX8_init_8 (by decide) (by decide) (by decide) rfl (by decide) (Nat.le_of_ble_eq_true rfl) (Nat.le_of_ble_eq_true rfl) ?_
  refine rp_X8_0 rfl rfl dX8_init_10 lf_X8_9 rfl (Nat.le_of_ble_eq_true rfl) ?_
  refine g_aload_n dX8_init_13 rfl rfl ?_
  refine g_new (ci := 3) (n0 := 49) (C0 := RX3) (T0 := TX3) (N := 6) (ty0 := tyX3) rfl inX3 tyX3_ok rfl (by decide) dX8_init_14 lcl_X8_15 lin_X3 lii_X3 rfl (by decide) (Nat.le_of_ble_eq_true rfl) (Nat.le_of_ble_eq_true rfl) ?_
  refine g_dup dX8_init_17 rfl ?_
  change mx_Go l (mx_rm (d + 2) 7 967) mX8_init _ 2 406 18 [.ref 47] [.ref 49, .ref 49, .ref 47] (ks_19, (mx_zero (mx_zero I 48) 49))
  refine g_callIN (M' := mX3_init) (As := []) (st := [.ref 49, .ref 47]) (ct_X3_init_49 (d := d + 0)) dX8_init_18 (by decide) okX3_init oiX3_init rfl rfl (by decide) (by simp [Value.category]) (Nat.le_refl _) (mx_lo (by decide)) (Nat.le_of_ble_eq_true rfl) (Nat.le_of_ble_eq_true rfl) rfl ?_
  rintro _ _ ⟨rfl, rfl⟩
  change mx_Go l (mx_rm (d + 2) 7 967) mX8_init _ 6 903 21 [.ref 47] [.ref 49, .ref 47] (ks_20, (cf_X3_init_49 (mx_zero (mx_zero I 48) 49)))
  refine rp_X8_1 rfl rfl dX8_init_21 lf_X8_18 rfl (Nat.le_of_ble_eq_true rfl) ?_
  refine g_aload_n dX8_init_24 rfl rfl ?_
  refine g_bipush (v := 64) dX8_init_25 (by decide) ?_
  refine g_newa (N := 64) (n0 := 54) dX8_init_27 (by decide) (by decide) (by decide) rfl (by decide) (Nat.le_of_ble_eq_true rfl) (Nat.le_of_ble_eq_true rfl) ?_
  refine rp_X8_2 rfl rfl dX8_init_29 lf_X8_22 rfl (Nat.le_of_ble_eq_true rfl) ?_
  refine g_aload_n dX8_init_32 rfl rfl ?_
  refine g_iconst (v := (-1)) dX8_init_33 (by decide) ?_
  refine rp_X8_5 dX8_init_34 lf_X8_25 rfl ?_
  exact g_vret rfl dX8_init_37 rfl (Nat.le_of_ble_eq_true rfl) ⟨rfl, rfl⟩
def ks_22 : mx_Sk := [.inr (11, [some 1, some 33, some 43, some 47, none, none, none, none, none, none]), .inr (10, [some 2, some 8, some 18, some 24, some 28, none, none, none]), .inr (5, [some 3, some 4, some 5, some 6, some 7, none]), .inl 30, .inl 30, .inl 30, .inl 30, .inl 30, .inr (2, [some 9, some 10, some 11, some 12, some 13, some 14, some 15, some 16, some 17, none]), .inl 20, .inl 20, .inl 20, .inl 20, .inl 20, .inl 20, .inl 20, .inl 20, .inl 20, .inr (6, [some 19, some 20, some 21, some 22, some 23, none]), .inl 8, .inl 8, .inl 8, .inl 8, .inl 8, .inr (4, [some 25, some 26, some 27, none]), .inl 20, .inl 20, .inl 20, .inr (3, [some 29, some 30, some 31, some 32, none, none]), .inl 400, .inl 17, .inl 16, .inl 64, .inr (9, [some 34, some 35, some 36, some 37, some 38, some 39, some 40, some 41, some 42, none, none]), .inl 30, .inl 30, .inl 30, .inl 30, .inl 120, .inl 4, .inl 20, .inl 20, .inl 20, .inr (0, [some 44, some 45, some 46, none]), .inl 300, .inl 300, .inl 300, .inr (8, [some 48, some 49, some 54, none, none, none, none, none, none, none, none, none, none, none, none]), .inl 400, .inr (3, [some 50, some 51, some 52, some 53, none, none]), .inl 400, .inl 17, .inl 16, .inl 64, .inl 64, .inr (9, [none, none, none, none, none, none, none, none, none, none, none])]
def ks_23 : mx_Sk := [.inr (11, [some 1, some 33, some 43, some 47, none, none, none, none, none, none]), .inr (10, [some 2, some 8, some 18, some 24, some 28, none, none, none]), .inr (5, [some 3, some 4, some 5, some 6, some 7, none]), .inl 30, .inl 30, .inl 30, .inl 30, .inl 30, .inr (2, [some 9, some 10, some 11, some 12, some 13, some 14, some 15, some 16, some 17, none]), .inl 20, .inl 20, .inl 20, .inl 20, .inl 20, .inl 20, .inl 20, .inl 20, .inl 20, .inr (6, [some 19, some 20, some 21, some 22, some 23, none]), .inl 8, .inl 8, .inl 8, .inl 8, .inl 8, .inr (4, [some 25, some 26, some 27, none]), .inl 20, .inl 20, .inl 20, .inr (3, [some 29, some 30, some 31, some 32, none, none]), .inl 400, .inl 17, .inl 16, .inl 64, .inr (9, [some 34, some 35, some 36, some 37, some 38, some 39, some 40, some 41, some 42, none, none]), .inl 30, .inl 30, .inl 30, .inl 30, .inl 120, .inl 4, .inl 20, .inl 20, .inl 20, .inr (0, [some 44, some 45, some 46, none]), .inl 300, .inl 300, .inl 300, .inr (8, [some 48, some 49, some 54, none, none, none, none, none, none, none, none, none, none, none, none]), .inl 400, .inr (3, [some 50, some 51, some 52, some 53, none, none]), .inl 400, .inl 17, .inl 16, .inl 64, .inl 64, .inr (9, [some 56, some 57, some 58, some 59, some 60, some 61, some 62, some 63, some 64, none, none]), .inl 30, .inl 30, .inl 30, .inl 30, .inl 120, .inl 4, .inl 20, .inl 20, .inl 20]
def cf_X9_init_55 (I : mx_I) : mx_I := (mx_clr (mx_zero (mx_zero (mx_zero (mx_zero (mx_zero (mx_zero (mx_zero (mx_zero (mx_zero I 56) 57) 58) 59) 60) 61) 62) 63) 64) 55)
set_option maxRecDepth 10000 in
set_option maxHeartbeats 2000000 in
theorem ct_X9_init_55 {l : Launch} {d : Nat} {I : mx_I} : mx_Spec l mX9_init (d + 3) 9 304 [.ref 55] (ks_22, I) (fun r h' => r = none ∧ h' = (ks_23, cf_X9_init_55 I)) := by
  refine mx_enter rfl (by simp [Value.category]) (Nat.le_of_ble_eq_true rfl) ?_
  change mx_Go l (mx_rm (d + 3) 9 304) mX9_init _ 0 0 0 [.ref 55] [] (ks_22, I)
  refine g_aload_n dX9_init_0 rfl rfl ?_
  refine g_objInit dX9_init_1 lm_X9_3 lo_1 lo_2 (by simp [Value.category]) (by simp only [mx_rm]; omega) (by simp only [mx_rm]; omega) ?_
  refine g_aload_n dX9_init_4 rfl rfl ?_
  refine g_bipush (v := 30) dX9_init_5 (by decide) ?_
  refine g_newa (N := 30) (n0 := 56) dX9_init_7 (by decide) (by decide) (by decide) rfl (by decide) (Nat.le_of_ble_eq_true rfl) (Nat.le_of_ble_eq_true rfl) ?_
  refine rp_X9_0 rfl rfl dX9_init_9 lf_X9_9 rfl (Nat.le_of_ble_eq_true rfl) ?_
  refine g_aload_n dX9_init_12 rfl rfl ?_
  refine g_bipush (v := 30) dX9_init_13 (by decide) ?_
  refine g_newa (N := 30) (n0 := 57) dX9_init_15 (by decide) (by decide) (by decide) rfl (by decide) (Nat.le_of_ble_eq_true rfl) (Nat.le_of_ble_eq_true rfl) ?_
  refine rp_X9_1 rfl rfl dX9_init_17 lf_X9_15 rfl (Nat.le_of_ble_eq_true rfl) ?_
  refine g_aload_n dX9_init_20 rfl rfl ?_
  refine g_bipush (v := 30) dX9_init_21 (by decide) ?_
  refine g_newa (N := 30) (n0 := 58) dX9_init_23 (by decide) (by decide) (by decide) rfl (by decide) (Nat.le_of_ble_eq_true rfl) (Nat.le_of_ble_eq_true rfl) ?_
  refine rp_X9_2 rfl rfl dX9_init_25 lf_X9_18 rfl (Nat.le_of_ble_eq_true rfl) ?_
  refine g_aload_n dX9_init_28 rfl rfl ?_
  refine g_bipush (v := 30) dX9_init_29 (by decide) ?_
  refine g_newa (N := 30) (n0 := 59) dX9_init_31 (by decide) (by decide) (by decide) rfl (by decide) (Nat.le_of_ble_eq_true rfl) (Nat.le_of_ble_eq_true rfl) ?_
  refine rp_X9_3 rfl rfl dX9_init_33 lf_X9_21 rfl (Nat.le_of_ble_eq_true rfl) ?_
  refine g_aload_n dX9_init_36 rfl rfl ?_
  refine g_bipush (v := 120) dX9_init_37 (by decide) ?_
  refine g_newa (N := 120) (n0 := 60) dX9_init_39 (by decide) (by decide) (by decide) rfl (by decide) (Nat.le_of_ble_eq_true rfl) (Nat.le_of_ble_eq_true rfl) ?_
  refine rp_X9_4 rfl rfl dX9_init_41 lf_X9_24 rfl (Nat.le_of_ble_eq_true rfl) ?_
  refine g_aload_n dX9_init_44 rfl rfl ?_
  refine g_iconst (v := 4) dX9_init_45 (by decide) ?_
  refine g_newa (N := 4) (n0 := 61) dX9_init_46 (by decide) (by decide) (by decide) rfl (by decide) (Nat.le_of_ble_eq_true rfl) (Nat.le_of_ble_eq_true rfl) ?_
  refine rp_X9_5 rfl rfl dX9_init_48 lf_X9_27 rfl (Nat.le_of_ble_eq_true rfl) ?_
  refine g_aload_n dX9_init_51 rfl rfl ?_
  refine g_bipush (v := 20) dX9_init_52 (by decide) ?_
  refine g_newa (N := 20) (n0 := 62) dX9_init_54 (by decide) (by decide) (by decide) rfl (by decide) (Nat.le_of_ble_eq_true rfl) (Nat.le_of_ble_eq_true rfl) ?_
  refine rp_X9_6 rfl rfl dX9_init_56 lf_X9_30 rfl (Nat.le_of_ble_eq_true rfl) ?_
  refine g_aload_n dX9_init_59 rfl rfl ?_
  refine g_bipush (v := 20) dX9_init_60 (by decide) ?_
  refine g_newa (N := 20) (n0 := 63) dX9_init_62 (by decide) (by decide) (by decide) rfl (by decide) (Nat.le_of_ble_eq_true rfl) (Nat.le_of_ble_eq_true rfl) ?_
  refine rp_X9_7 rfl rfl dX9_init_64 lf_X9_33 rfl (Nat.le_of_ble_eq_true rfl) ?_
  refine g_aload_n dX9_init_67 rfl rfl ?_
  refine g_bipush (v := 20) dX9_init_68 (by decide) ?_
  refine g_newa (N := 20) (n0 := 64) dX9_init_70 (by decide) (by decide) (by decide) rfl (by decide) (Nat.le_of_ble_eq_true rfl) (Nat.le_of_ble_eq_true rfl) ?_
  refine rp_X9_8 rfl rfl dX9_init_72 lf_X9_36 rfl (Nat.le_of_ble_eq_true rfl) ?_
  refine g_aload_n dX9_init_75 rfl rfl ?_
  change mx_Go l (mx_rm (d + 3) 9 304) mX9_init _ 9 304 76 [.ref 55] [.ref 55] (ks_23, (mx_zero (mx_zero (mx_zero (mx_zero (mx_zero (mx_zero (mx_zero (mx_zero (mx_zero I 56) 57) 58) 59) 60) 61) 62) 63) 64))
  refine g_callV (M' := mX9_clear) (As := []) (st := []) (sp_clear (d := d + 0) (k := 55) ⟨rfl, rfl, rfl, rfl, rfl, rfl, rfl, rfl, rfl, rfl⟩) dX9_init_76 lm_X9_39 ovX9_clear (ci := 9) rfl rfl rfl (by simp [Value.category]) (Nat.le_refl _) (mx_lo (by decide)) (Nat.le_of_ble_eq_true rfl) (Nat.le_of_ble_eq_true rfl) ?_
  rintro _ _ ⟨rfl, rfl⟩
  change mx_Go l (mx_rm (d + 3) 9 304) mX9_init _ 9 304 79 [.ref 55] [] (ks_23, (mx_clr (mx_zero (mx_zero (mx_zero (mx_zero (mx_zero (mx_zero (mx_zero (mx_zero (mx_zero I 56) 57) 58) 59) 60) 61) 62) 63) 64) 55))
  exact g_vret rfl dX9_init_79 rfl (Nat.le_of_ble_eq_true rfl) ⟨rfl, rfl⟩
def ks_24 : mx_Sk := [.inr (11, [some 1, some 33, some 43, some 47, none, some 55, none, none, none, none]), .inr (10, [some 2, some 8, some 18, some 24, some 28, none, none, none]), .inr (5, [some 3, some 4, some 5, some 6, some 7, none]), .inl 30, .inl 30, .inl 30, .inl 30, .inl 30, .inr (2, [some 9, some 10, some 11, some 12, some 13, some 14, some 15, some 16, some 17, none]), .inl 20, .inl 20, .inl 20, .inl 20, .inl 20, .inl 20, .inl 20, .inl 20, .inl 20, .inr (6, [some 19, some 20, some 21, some 22, some 23, none]), .inl 8, .inl 8, .inl 8, .inl 8, .inl 8, .inr (4, [some 25, some 26, some 27, none]), .inl 20, .inl 20, .inl 20, .inr (3, [some 29, some 30, some 31, some 32, none, none]), .inl 400, .inl 17, .inl 16, .inl 64, .inr (9, [some 34, some 35, some 36, some 37, some 38, some 39, some 40, some 41, some 42, none, none]), .inl 30, .inl 30, .inl 30, .inl 30, .inl 120, .inl 4, .inl 20, .inl 20, .inl 20, .inr (0, [some 44, some 45, some 46, none]), .inl 300, .inl 300, .inl 300, .inr (8, [some 48, some 49, some 54, none, none, none, none, none, none, none, none, none, none, none, none]), .inl 400, .inr (3, [some 50, some 51, some 52, some 53, none, none]), .inl 400, .inl 17, .inl 16, .inl 64, .inl 64, .inr (9, [some 56, some 57, some 58, some 59, some 60, some 61, some 62, some 63, some 64, none, none]), .inl 30, .inl 30, .inl 30, .inl 30, .inl 120, .inl 4, .inl 20, .inl 20, .inl 20, .inr (1, [none, none, none, none, none, none, none, none, none, none, none, none, none, none, none, none])]
def ks_25 : mx_Sk := [.inr (11, [some 1, some 33, some 43, some 47, none, some 55, none, none, none, none]), .inr (10, [some 2, some 8, some 18, some 24, some 28, none, none, none]), .inr (5, [some 3, some 4, some 5, some 6, some 7, none]), .inl 30, .inl 30, .inl 30, .inl 30, .inl 30, .inr (2, [some 9, some 10, some 11, some 12, some 13, some 14, some 15, some 16, some 17, none]), .inl 20, .inl 20, .inl 20, .inl 20, .inl 20, .inl 20, .inl 20, .inl 20, .inl 20, .inr (6, [some 19, some 20, some 21, some 22, some 23, none]), .inl 8, .inl 8, .inl 8, .inl 8, .inl 8, .inr (4, [some 25, some 26, some 27, none]), .inl 20, .inl 20, .inl 20, .inr (3, [some 29, some 30, some 31, some 32, none, none]), .inl 400, .inl 17, .inl 16, .inl 64, .inr (9, [some 34, some 35, some 36, some 37, some 38, some 39, some 40, some 41, some 42, none, none]), .inl 30, .inl 30, .inl 30, .inl 30, .inl 120, .inl 4, .inl 20, .inl 20, .inl 20, .inr (0, [some 44, some 45, some 46, none]), .inl 300, .inl 300, .inl 300, .inr (8, [some 48, some 49, some 54, none, none, none, none, none, none, none, none, none, none, none, none]), .inl 400, .inr (3, [some 50, some 51, some 52, some 53, none, none]), .inl 400, .inl 17, .inl 16, .inl 64, .inl 64, .inr (9, [some 56, some 57, some 58, some 59, some 60, some 61, some 62, some 63, some 64, none, none]), .inl 30, .inl 30, .inl 30, .inl 30, .inl 120, .inl 4, .inl 20, .inl 20, .inl 20, .inr (1, [none, none, none, none, none, none, none, none, none, none, none, none, none, none, none, none]), .inr (7, [none, none, none, none, none])]
def ks_26 : mx_Sk := [.inr (11, [some 1, some 33, some 43, some 47, none, some 55, none, none, none, none]), .inr (10, [some 2, some 8, some 18, some 24, some 28, none, none, none]), .inr (5, [some 3, some 4, some 5, some 6, some 7, none]), .inl 30, .inl 30, .inl 30, .inl 30, .inl 30, .inr (2, [some 9, some 10, some 11, some 12, some 13, some 14, some 15, some 16, some 17, none]), .inl 20, .inl 20, .inl 20, .inl 20, .inl 20, .inl 20, .inl 20, .inl 20, .inl 20, .inr (6, [some 19, some 20, some 21, some 22, some 23, none]), .inl 8, .inl 8, .inl 8, .inl 8, .inl 8, .inr (4, [some 25, some 26, some 27, none]), .inl 20, .inl 20, .inl 20, .inr (3, [some 29, some 30, some 31, some 32, none, none]), .inl 400, .inl 17, .inl 16, .inl 64, .inr (9, [some 34, some 35, some 36, some 37, some 38, some 39, some 40, some 41, some 42, none, none]), .inl 30, .inl 30, .inl 30, .inl 30, .inl 120, .inl 4, .inl 20, .inl 20, .inl 20, .inr (0, [some 44, some 45, some 46, none]), .inl 300, .inl 300, .inl 300, .inr (8, [some 48, some 49, some 54, none, none, none, none, none, none, none, none, none, none, none, none]), .inl 400, .inr (3, [some 50, some 51, some 52, some 53, none, none]), .inl 400, .inl 17, .inl 16, .inl 64, .inl 64, .inr (9, [some 56, some 57, some 58, some 59, some 60, some 61, some 62, some 63, some 64, none, none]), .inl 30, .inl 30, .inl 30, .inl 30, .inl 120, .inl 4, .inl 20, .inl 20, .inl 20, .inr (1, [none, none, none, none, none, none, none, none, none, none, none, none, none, none, none, none]), .inr (7, [some 67, some 68, some 69, some 70, some 71]), .inl 168, .inl 168, .inl 168, .inl 168, .inl 168]
def cf_X7_init_66 (I : mx_I) : mx_I := (mx_zero (mx_zero (mx_zero (mx_zero (mx_zero I 67) 68) 69) 70) 71)
set_option maxRecDepth 10000 in
set_option maxHeartbeats 2000000 in
theorem ct_X7_init_66 {l : Launch} {d : Nat} {I : mx_I} : mx_Spec l mX7_init (d + 1) 5 840 [.ref 66] (ks_25, I) (fun r h' => r = none ∧ h' = (ks_26, cf_X7_init_66 I)) := by
  refine mx_enter rfl (by simp [Value.category]) (Nat.le_of_ble_eq_true rfl) ?_
  change mx_Go l (mx_rm (d + 1) 5 840) mX7_init _ 0 0 0 [.ref 66] [] (ks_25, I)
  refine g_aload_n dX7_init_0 rfl rfl ?_
  refine g_objInit dX7_init_1 lm_X7_3 lo_1 lo_2 (by simp [Value.category]) (by simp only [mx_rm]; omega) (by simp only [mx_rm]; omega) ?_
  refine g_aload_n dX7_init_4 rfl rfl ?_
  refine g_sipush (v := 168) dX7_init_5 (by decide) ?_
  refine g_newa (N := 168) (n0 := 67) dX7_init_8 (by decide) (by decide) (by decide) rfl (by decide) (Nat.le_of_ble_eq_true rfl) (Nat.le_of_ble_eq_true rfl) ?_
  refine rp_X7_0 rfl rfl dX7_init_10 lf_X7_9 rfl (Nat.le_of_ble_eq_true rfl) ?_
  refine g_aload_n dX7_init_13 rfl rfl ?_
  refine g_sipush (v := 168) dX7_init_14 (by decide) ?_
  refine g_newa (N := 168) (n0 := 68) dX7_init_17 (by decide) (by decide) (by decide) rfl (by decide) (Nat.le_of_ble_eq_true rfl) (Nat.le_of_ble_eq_true rfl) ?_
  refine rp_X7_1 rfl rfl dX7_init_19 lf_X7_15 rfl (Nat.le_of_ble_eq_true rfl) ?_
  refine g_aload_n dX7_init_22 rfl rfl ?_
  refine g_sipush (v := 168) dX7_init_23 (by decide) ?_
  refine g_newa (N := 168) (n0 := 69) dX7_init_26 (by decide) (by decide) (by decide) rfl (by decide) (Nat.le_of_ble_eq_true rfl) (Nat.le_of_ble_eq_true rfl) ?_
  refine rp_X7_2 rfl rfl dX7_init_28 lf_X7_18 rfl (Nat.le_of_ble_eq_true rfl) ?_
  refine g_aload_n dX7_init_31 rfl rfl ?_
  refine g_sipush (v := 168) dX7_init_32 (by decide) ?_
  refine g_newa (N := 168) (n0 := 70) dX7_init_35 (by decide) (by decide) (by decide) rfl (by decide) (Nat.le_of_ble_eq_true rfl) (Nat.le_of_ble_eq_true rfl) ?_
  refine rp_X7_3 rfl rfl dX7_init_37 lf_X7_21 rfl (Nat.le_of_ble_eq_true rfl) ?_
  refine g_aload_n dX7_init_40 rfl rfl ?_
  refine g_sipush (v := 168) dX7_init_41 (by decide) ?_
  refine g_newa (N := 168) (n0 := 71) dX7_init_44 (by decide) (by decide) (by decide) rfl (by decide) (Nat.le_of_ble_eq_true rfl) (Nat.le_of_ble_eq_true rfl) ?_
  refine rp_X7_4 rfl rfl dX7_init_46 lf_X7_24 rfl (Nat.le_of_ble_eq_true rfl) ?_
  exact g_vret rfl dX7_init_49 rfl (Nat.le_of_ble_eq_true rfl) ⟨rfl, rfl⟩
def ks_27 : mx_Sk := [.inr (11, [some 1, some 33, some 43, some 47, none, some 55, none, none, none, none]), .inr (10, [some 2, some 8, some 18, some 24, some 28, none, none, none]), .inr (5, [some 3, some 4, some 5, some 6, some 7, none]), .inl 30, .inl 30, .inl 30, .inl 30, .inl 30, .inr (2, [some 9, some 10, some 11, some 12, some 13, some 14, some 15, some 16, some 17, none]), .inl 20, .inl 20, .inl 20, .inl 20, .inl 20, .inl 20, .inl 20, .inl 20, .inl 20, .inr (6, [some 19, some 20, some 21, some 22, some 23, none]), .inl 8, .inl 8, .inl 8, .inl 8, .inl 8, .inr (4, [some 25, some 26, some 27, none]), .inl 20, .inl 20, .inl 20, .inr (3, [some 29, some 30, some 31, some 32, none, none]), .inl 400, .inl 17, .inl 16, .inl 64, .inr (9, [some 34, some 35, some 36, some 37, some 38, some 39, some 40, some 41, some 42, none, none]), .inl 30, .inl 30, .inl 30, .inl 30, .inl 120, .inl 4, .inl 20, .inl 20, .inl 20, .inr (0, [some 44, some 45, some 46, none]), .inl 300, .inl 300, .inl 300, .inr (8, [some 48, some 49, some 54, none, none, none, none, none, none, none, none, none, none, none, none]), .inl 400, .inr (3, [some 50, some 51, some 52, some 53, none, none]), .inl 400, .inl 17, .inl 16, .inl 64, .inl 64, .inr (9, [some 56, some 57, some 58, some 59, some 60, some 61, some 62, some 63, some 64, none, none]), .inl 30, .inl 30, .inl 30, .inl 30, .inl 120, .inl 4, .inl 20, .inl 20, .inl 20, .inr (1, [some 1, some 43, some 66, some 72, some 73, none, some 55, none, none, none, none, none, none, none, none, none]), .inr (7, [some 67, some 68, some 69, some 70, some 71]), .inl 168, .inl 168, .inl 168, .inl 168, .inl 168, .inl 30, .inl 7]
def cf_X1_init_65 (I : mx_I) : mx_I := (mx_zero (mx_zero (cf_X7_init_66 (mx_zero I 66)) 72) 73)
set_option maxRecDepth 10000 in
set_option maxHeartbeats 2000000 in
theorem ct_X1_init_65 {l : Launch} {d : Nat} {I : mx_I} : mx_Spec l mX1_init (d + 2) 8 882 [.ref 65, .ref 1, .ref 43, .ref 55] (ks_24, I) (fun r h' => r = none ∧ h' = (ks_27, cf_X1_init_65 I)) := by
  refine mx_enter rfl (by simp [Value.category]) (Nat.le_of_ble_eq_true rfl) ?_
  change mx_Go l (mx_rm (d + 2) 8 882) mX1_init _ 0 0 0 [.ref 65, .ref 1, .ref 43, .ref 55] [] (ks_24, I)
  refine g_aload_n dX1_init_0 rfl rfl ?_
  refine g_objInit dX1_init_1 lm_X1_3 lo_1 lo_2 (by simp [Value.category]) (by simp only [mx_rm]; omega) (by simp only [mx_rm]; omega) ?_
  refine g_aload_n dX1_init_4 rfl rfl ?_
  refine g_new (ci := 7) (n0 := 66) (C0 := RX7) (T0 := TX7) (N := 5) (ty0 := tyX7) rfl inX7 tyX7_ok rfl (by decide) dX1_init_5 lcl_X1_9 lin_X7 lii_X7 rfl (by decide) (Nat.le_of_ble_eq_true rfl) (Nat.le_of_ble_eq_true rfl) ?_
  refine g_dup dX1_init_8 rfl ?_
  change mx_Go l (mx_rm (d + 2) 8 882) mX1_init _ 1 5 9 [.ref 65, .ref 1, .ref 43, .ref 55] [.ref 66, .ref 66, .ref 65] (ks_25, (mx_zero I 66))
  refine g_callIN (M' := mX7_init) (As := []) (st := [.ref 66, .ref 65]) (ct_X7_init_66 (d := d + 0)) dX1_init_9 (by decide) okX7_init oiX7_init rfl rfl (by decide) (by simp [Value.category]) (Nat.le_refl _) (mx_lo (by decide)) (Nat.le_of_ble_eq_true rfl) (Nat.le_of_ble_eq_true rfl) rfl ?_
  rintro _ _ ⟨rfl, rfl⟩
  change mx_Go l (mx_rm (d + 2) 8 882) mX1_init _ 6 845 12 [.ref 65, .ref 1, .ref 43, .ref 55] [.ref 66, .ref 65] (ks_26, (cf_X7_init_66 (mx_zero I 66)))
  refine rp_X1_2 rfl rfl dX1_init_12 lf_X1_12 rfl (Nat.le_of_ble_eq_true rfl) ?_
  refine g_aload_n dX1_init_15 rfl rfl ?_
  refine g_bipush (v := 30) dX1_init_16 (by decide) ?_
  refine g_newa (N := 30) (n0 := 72) dX1_init_18 (by decide) (by decide) (by decide) rfl (by decide) (Nat.le_of_ble_eq_true rfl) (Nat.le_of_ble_eq_true rfl) ?_
  refine rp_X1_3 rfl rfl dX1_init_20 lf_X1_18 rfl (Nat.le_of_ble_eq_true rfl) ?_
  refine g_aload_n dX1_init_23 rfl rfl ?_
  refine g_bipush (v := 7) dX1_init_24 (by decide) ?_
  refine g_newa (N := 7) (n0 := 73) dX1_init_26 (by decide) (by decide) (by decide) rfl (by decide) (Nat.le_of_ble_eq_true rfl) (Nat.le_of_ble_eq_true rfl) ?_
  refine rp_X1_4 rfl rfl dX1_init_28 lf_X1_22 rfl (Nat.le_of_ble_eq_true rfl) ?_
  refine g_aload_n dX1_init_31 rfl rfl ?_
  refine g_aload_n dX1_init_32 rfl rfl ?_
  refine rp_X1_0 rfl rfl dX1_init_33 lf_X1_25 rfl (Nat.le_of_ble_eq_true rfl) ?_
  refine g_aload_n dX1_init_36 rfl rfl ?_
  refine g_aload_n dX1_init_37 rfl rfl ?_
  refine rp_X1_1 rfl rfl dX1_init_38 lf_X1_29 rfl (Nat.le_of_ble_eq_true rfl) ?_
  refine g_aload_n dX1_init_41 rfl rfl ?_
  refine g_aload_n dX1_init_42 rfl rfl ?_
  refine rp_X1_6 dX1_init_43 lf_X1_33 rfl (Nat.le_of_ble_eq_true rfl) ?_
  exact g_vret rfl dX1_init_46 rfl (Nat.le_of_ble_eq_true rfl) ⟨rfl, rfl⟩
def ks_28 : mx_Sk := [.inr (11, [some 1, some 33, some 43, some 47, some 65, some 55, none, none, none, none]), .inr (10, [some 2, some 8, some 18, some 24, some 28, none, none, none]), .inr (5, [some 3, some 4, some 5, some 6, some 7, none]), .inl 30, .inl 30, .inl 30, .inl 30, .inl 30, .inr (2, [some 9, some 10, some 11, some 12, some 13, some 14, some 15, some 16, some 17, none]), .inl 20, .inl 20, .inl 20, .inl 20, .inl 20, .inl 20, .inl 20, .inl 20, .inl 20, .inr (6, [some 19, some 20, some 21, some 22, some 23, none]), .inl 8, .inl 8, .inl 8, .inl 8, .inl 8, .inr (4, [some 25, some 26, some 27, none]), .inl 20, .inl 20, .inl 20, .inr (3, [some 29, some 30, some 31, some 32, none, none]), .inl 400, .inl 17, .inl 16, .inl 64, .inr (9, [some 34, some 35, some 36, some 37, some 38, some 39, some 40, some 41, some 42, none, none]), .inl 30, .inl 30, .inl 30, .inl 30, .inl 120, .inl 4, .inl 20, .inl 20, .inl 20, .inr (0, [some 44, some 45, some 46, none]), .inl 300, .inl 300, .inl 300, .inr (8, [some 48, some 49, some 54, none, none, none, none, none, none, none, none, none, none, none, none]), .inl 400, .inr (3, [some 50, some 51, some 52, some 53, none, none]), .inl 400, .inl 17, .inl 16, .inl 64, .inl 64, .inr (9, [some 56, some 57, some 58, some 59, some 60, some 61, some 62, some 63, some 64, none, none]), .inl 30, .inl 30, .inl 30, .inl 30, .inl 120, .inl 4, .inl 20, .inl 20, .inl 20, .inr (1, [some 1, some 43, some 66, some 72, some 73, none, some 55, none, none, none, none, none, none, none, none, none]), .inr (7, [some 67, some 68, some 69, some 70, some 71]), .inl 168, .inl 168, .inl 168, .inl 168, .inl 168, .inl 30, .inl 7, .inr (10, [none, none, none, none, none, none, none, none])]
def ks_29 : mx_Sk := [.inr (11, [some 1, some 33, some 43, some 47, some 65, some 55, none, none, none, none]), .inr (10, [some 2, some 8, some 18, some 24, some 28, none, none, none]), .inr (5, [some 3, some 4, some 5, some 6, some 7, none]), .inl 30, .inl 30, .inl 30, .inl 30, .inl 30, .inr (2, [some 9, some 10, some 11, some 12, some 13, some 14, some 15, some 16, some 17, none]), .inl 20, .inl 20, .inl 20, .inl 20, .inl 20, .inl 20, .inl 20, .inl 20, .inl 20, .inr (6, [some 19, some 20, some 21, some 22, some 23, none]), .inl 8, .inl 8, .inl 8, .inl 8, .inl 8, .inr (4, [some 25, some 26, some 27, none]), .inl 20, .inl 20, .inl 20, .inr (3, [some 29, some 30, some 31, some 32, none, none]), .inl 400, .inl 17, .inl 16, .inl 64, .inr (9, [some 34, some 35, some 36, some 37, some 38, some 39, some 40, some 41, some 42, none, none]), .inl 30, .inl 30, .inl 30, .inl 30, .inl 120, .inl 4, .inl 20, .inl 20, .inl 20, .inr (0, [some 44, some 45, some 46, none]), .inl 300, .inl 300, .inl 300, .inr (8, [some 48, some 49, some 54, none, none, none, none, none, none, none, none, none, none, none, none]), .inl 400, .inr (3, [some 50, some 51, some 52, some 53, none, none]), .inl 400, .inl 17, .inl 16, .inl 64, .inl 64, .inr (9, [some 56, some 57, some 58, some 59, some 60, some 61, some 62, some 63, some 64, none, none]), .inl 30, .inl 30, .inl 30, .inl 30, .inl 120, .inl 4, .inl 20, .inl 20, .inl 20, .inr (1, [some 1, some 43, some 66, some 72, some 73, none, some 55, none, none, none, none, none, none, none, none, none]), .inr (7, [some 67, some 68, some 69, some 70, some 71]), .inl 168, .inl 168, .inl 168, .inl 168, .inl 168, .inl 30, .inl 7, .inr (10, [none, none, none, none, none, none, none, none]), .inr (5, [none, none, none, none, none, none])]
def ks_30 : mx_Sk := [.inr (11, [some 1, some 33, some 43, some 47, some 65, some 55, none, none, none, none]), .inr (10, [some 2, some 8, some 18, some 24, some 28, none, none, none]), .inr (5, [some 3, some 4, some 5, some 6, some 7, none]), .inl 30, .inl 30, .inl 30, .inl 30, .inl 30, .inr (2, [some 9, some 10, some 11, some 12, some 13, some 14, some 15, some 16, some 17, none]), .inl 20, .inl 20, .inl 20, .inl 20, .inl 20, .inl 20, .inl 20, .inl 20, .inl 20, .inr (6, [some 19, some 20, some 21, some 22, some 23, none]), .inl 8, .inl 8, .inl 8, .inl 8, .inl 8, .inr (4, [some 25, some 26, some 27, none]), .inl 20, .inl 20, .inl 20, .inr (3, [some 29, some 30, some 31, some 32, none, none]), .inl 400, .inl 17, .inl 16, .inl 64, .inr (9, [some 34, some 35, some 36, some 37, some 38, some 39, some 40, some 41, some 42, none, none]), .inl 30, .inl 30, .inl 30, .inl 30, .inl 120, .inl 4, .inl 20, .inl 20, .inl 20, .inr (0, [some 44, some 45, some 46, none]), .inl 300, .inl 300, .inl 300, .inr (8, [some 48, some 49, some 54, none, none, none, none, none, none, none, none, none, none, none, none]), .inl 400, .inr (3, [some 50, some 51, some 52, some 53, none, none]), .inl 400, .inl 17, .inl 16, .inl 64, .inl 64, .inr (9, [some 56, some 57, some 58, some 59, some 60, some 61, some 62, some 63, some 64, none, none]), .inl 30, .inl 30, .inl 30, .inl 30, .inl 120, .inl 4, .inl 20, .inl 20, .inl 20, .inr (1, [some 1, some 43, some 66, some 72, some 73, none, some 55, none, none, none, none, none, none, none, none, none]), .inr (7, [some 67, some 68, some 69, some 70, some 71]), .inl 168, .inl 168, .inl 168, .inl 168, .inl 168, .inl 30, .inl 7, .inr (10, [none, none, none, none, none, none, none, none]), .inr (5, [some 76, some 77, some 78, some 79, some 80, none]), .inl 30, .inl 30, .inl 30, .inl 30, .inl 30]
def cf_X5_init_75 (I : mx_I) : mx_I := (mx_zero (mx_zero (mx_zero (mx_zero (mx_zero I 76) 77) 78) 79) 80)
set_option maxRecDepth 10000 in
set_option maxHeartbeats 2000000 in
theorem ct_X5_init_75 {l : Launch} {d : Nat} {I : mx_I} : mx_Spec l mX5_init (d + 1) 5 150 [.ref 75] (ks_29, I) (fun r h' => r = none ∧ h' = (ks_30, cf_X5_init_75 I)) := by
  refine mx_enter rfl (by simp [Value.category]) (Nat.le_of_ble_eq_true rfl) ?_
  change mx_Go l (mx_rm (d + 1) 5 150) mX5_init _ 0 0 0 [.ref 75] [] (ks_29, I)
  refine g_aload_n dX5_init_0 rfl rfl ?_
  refine g_objInit dX5_init_1 lm_X5_3 lo_1 lo_2 (by simp [Value.category]) (by simp only [mx_rm]; omega) (by simp only [mx_rm]; omega) ?_
  refine g_aload_n dX5_init_4 rfl rfl ?_
  refine g_bipush (v := 30) dX5_init_5 (by decide) ?_
  refine g_newa (N := 30) (n0 := 76) dX5_init_7 (by decide) (by decide) (by decide) rfl (by decide) (Nat.le_of_ble_eq_true rfl) (Nat.le_of_ble_eq_true rfl) ?_
  refine rp_X5_0 rfl rfl dX5_init_9 lf_X5_9 rfl (Nat.le_of_ble_eq_true rfl) ?_
  refine g_aload_n dX5_init_12 rfl rfl ?_
  refine g_bipush (v := 30) dX5_init_13 (by decide) ?_
  refine g_newa (N := 30) (n0 := 77) dX5_init_15 (by decide) (by decide) (by decide) rfl (by decide) (Nat.le_of_ble_eq_true rfl) (Nat.le_of_ble_eq_true rfl) ?_
  refine rp_X5_1 rfl rfl dX5_init_17 lf_X5_15 rfl (Nat.le_of_ble_eq_true rfl) ?_
  refine g_aload_n dX5_init_20 rfl rfl ?_
  refine g_bipush (v := 30) dX5_init_21 (by decide) ?_
  refine g_newa (N := 30) (n0 := 78) dX5_init_23 (by decide) (by decide) (by decide) rfl (by decide) (Nat.le_of_ble_eq_true rfl) (Nat.le_of_ble_eq_true rfl) ?_
  refine rp_X5_2 rfl rfl dX5_init_25 lf_X5_18 rfl (Nat.le_of_ble_eq_true rfl) ?_
  refine g_aload_n dX5_init_28 rfl rfl ?_
  refine g_bipush (v := 30) dX5_init_29 (by decide) ?_
  refine g_newa (N := 30) (n0 := 79) dX5_init_31 (by decide) (by decide) (by decide) rfl (by decide) (Nat.le_of_ble_eq_true rfl) (Nat.le_of_ble_eq_true rfl) ?_
  refine rp_X5_3 rfl rfl dX5_init_33 lf_X5_21 rfl (Nat.le_of_ble_eq_true rfl) ?_
  refine g_aload_n dX5_init_36 rfl rfl ?_
  refine g_bipush (v := 30) dX5_init_37 (by decide) ?_
  refine g_newa (N := 30) (n0 := 80) dX5_init_39 (by decide) (by decide) (by decide) rfl (by decide) (Nat.le_of_ble_eq_true rfl) (Nat.le_of_ble_eq_true rfl) ?_
  refine rp_X5_4 rfl rfl dX5_init_41 lf_X5_24 rfl (Nat.le_of_ble_eq_true rfl) ?_
  exact g_vret rfl dX5_init_44 rfl (Nat.le_of_ble_eq_true rfl) ⟨rfl, rfl⟩
def ks_31 : mx_Sk := [.inr (11, [some 1, some 33, some 43, some 47, some 65, some 55, none, none, none, none]), .inr (10, [some 2, some 8, some 18, some 24, some 28, none, none, none]), .inr (5, [some 3, some 4, some 5, some 6, some 7, none]), .inl 30, .inl 30, .inl 30, .inl 30, .inl 30, .inr (2, [some 9, some 10, some 11, some 12, some 13, some 14, some 15, some 16, some 17, none]), .inl 20, .inl 20, .inl 20, .inl 20, .inl 20, .inl 20, .inl 20, .inl 20, .inl 20, .inr (6, [some 19, some 20, some 21, some 22, some 23, none]), .inl 8, .inl 8, .inl 8, .inl 8, .inl 8, .inr (4, [some 25, some 26, some 27, none]), .inl 20, .inl 20, .inl 20, .inr (3, [some 29, some 30, some 31, some 32, none, none]), .inl 400, .inl 17, .inl 16, .inl 64, .inr (9, [some 34, some 35, some 36, some 37, some 38, some 39, some 40, some 41, some 42, none, none]), .inl 30, .inl 30, .inl 30, .inl 30, .inl 120, .inl 4, .inl 20, .inl 20, .inl 20, .inr (0, [some 44, some 45, some 46, none]), .inl 300, .inl 300, .inl 300, .inr (8, [some 48, some 49, some 54, none, none, none, none, none, none, none, none, none, none, none, none]), .inl 400, .inr (3, [some 50, some 51, some 52, some 53, none, none]), .inl 400, .inl 17, .inl 16, .inl 64, .inl 64, .inr (9, [some 56, some 57, some 58, some 59, some 60, some 61, some 62, some 63, some 64, none, none]), .inl 30, .inl 30, .inl 30, .inl 30, .inl 120, .inl 4, .inl 20, .inl 20, .inl 20, .inr (1, [some 1, some 43, some 66, some 72, some 73, none, some 55, none, none, none, none, none, none, none, none, none]), .inr (7, [some 67, some 68, some 69, some 70, some 71]), .inl 168, .inl 168, .inl 168, .inl 168, .inl 168, .inl 30, .inl 7, .inr (10, [some 75, none, none, none, none, none, none, none]), .inr (5, [some 76, some 77, some 78, some 79, some 80, none]), .inl 30, .inl 30, .inl 30, .inl 30, .inl 30, .inr (2, [none, none, none, none, none, none, none, none, none, none])]
def ks_32 : mx_Sk := [.inr (11, [some 1, some 33, some 43, some 47, some 65, some 55, none, none, none, none]), .inr (10, [some 2, some 8, some 18, some 24, some 28, none, none, none]), .inr (5, [some 3, some 4, some 5, some 6, some 7, none]), .inl 30, .inl 30, .inl 30, .inl 30, .inl 30, .inr (2, [some 9, some 10, some 11, some 12, some 13, some 14, some 15, some 16, some 17, none]), .inl 20, .inl 20, .inl 20, .inl 20, .inl 20, .inl 20, .inl 20, .inl 20, .inl 20, .inr (6, [some 19, some 20, some 21, some 22, some 23, none]), .inl 8, .inl 8, .inl 8, .inl 8, .inl 8, .inr (4, [some 25, some 26, some 27, none]), .inl 20, .inl 20, .inl 20, .inr (3, [some 29, some 30, some 31, some 32, none, none]), .inl 400, .inl 17, .inl 16, .inl 64, .inr (9, [some 34, some 35, some 36, some 37, some 38, some 39, some 40, some 41, some 42, none, none]), .inl 30, .inl 30, .inl 30, .inl 30, .inl 120, .inl 4, .inl 20, .inl 20, .inl 20, .inr (0, [some 44, some 45, some 46, none]), .inl 300, .inl 300, .inl 300, .inr (8, [some 48, some 49, some 54, none, none, none, none, none, none, none, none, none, none, none, none]), .inl 400, .inr (3, [some 50, some 51, some 52, some 53, none, none]), .inl 400, .inl 17, .inl 16, .inl 64, .inl 64, .inr (9, [some 56, some 57, some 58, some 59, some 60, some 61, some 62, some 63, some 64, none, none]), .inl 30, .inl 30, .inl 30, .inl 30, .inl 120, .inl 4, .inl 20, .inl 20, .inl 20, .inr (1, [some 1, some 43, some 66, some 72, some 73, none, some 55, none, none, none, none, none, none, none, none, none]), .inr (7, [some 67, some 68, some 69, some 70, some 71]), .inl 168, .inl 168, .inl 168, .inl 168, .inl 168, .inl 30, .inl 7, .inr (10, [some 75, none, none, none, none, none, none, none]), .inr (5, [some 76, some 77, some 78, some 79, some 80, none]), .inl 30, .inl 30, .inl 30, .inl 30, .inl 30, .inr (2, [some 82, some 83, some 84, some 85, some 86, some 87, some 88, some 89, some 90, none]), .inl 20, .inl 20, .inl 20, .inl 20, .inl 20, .inl 20, .inl 20, .inl 20, .inl 20]
def cf_X2_init_81 (I : mx_I) : mx_I := (mx_zero (mx_zero (mx_zero (mx_zero (mx_zero (mx_zero (mx_zero (mx_zero (mx_zero I 82) 83) 84) 85) 86) 87) 88) 89) 90)
set_option maxRecDepth 10000 in
set_option maxHeartbeats 2000000 in
theorem ct_X2_init_81 {l : Launch} {d : Nat} {I : mx_I} : mx_Spec l mX2_init (d + 1) 9 180 [.ref 81] (ks_31, I) (fun r h' => r = none ∧ h' = (ks_32, cf_X2_init_81 I)) := by
  refine mx_enter rfl (by simp [Value.category]) (Nat.le_of_ble_eq_true rfl) ?_
  change mx_Go l (mx_rm (d + 1) 9 180) mX2_init _ 0 0 0 [.ref 81] [] (ks_31, I)
  refine g_aload_n dX2_init_0 rfl rfl ?_
  refine g_objInit dX2_init_1 lm_X2_3 lo_1 lo_2 (by simp [Value.category]) (by simp only [mx_rm]; omega) (by simp only [mx_rm]; omega) ?_
  refine g_aload_n dX2_init_4 rfl rfl ?_
  refine g_bipush (v := 20) dX2_init_5 (by decide) ?_
  refine g_newa (N := 20) (n0 := 82) dX2_init_7 (by decide) (by decide) (by decide) rfl (by decide) (Nat.le_of_ble_eq_true rfl) (Nat.le_of_ble_eq_true rfl) ?_
  refine rp_X2_0 rfl rfl dX2_init_9 lf_X2_9 rfl (Nat.le_of_ble_eq_true rfl) ?_
  refine g_aload_n dX2_init_12 rfl rfl ?_
  refine g_bipush (v := 20) dX2_init_13 (by decide) ?_
  refine g_newa (N := 20) (n0 := 83) dX2_init_15 (by decide) (by decide) (by decide) rfl (by decide) (Nat.le_of_ble_eq_true rfl) (Nat.le_of_ble_eq_true rfl) ?_
  refine rp_X2_1 rfl rfl dX2_init_17 lf_X2_15 rfl (Nat.le_of_ble_eq_true rfl) ?_
  refine g_aload_n dX2_init_20 rfl rfl ?_
  refine g_bipush (v := 20) dX2_init_21 (by decide) ?_
  refine g_newa (N := 20) (n0 := 84) dX2_init_23 (by decide) (by decide) (by decide) rfl (by decide) (Nat.le_of_ble_eq_true rfl) (Nat.le_of_ble_eq_true rfl) ?_
  refine rp_X2_2 rfl rfl dX2_init_25 lf_X2_18 rfl (Nat.le_of_ble_eq_true rfl) ?_
  refine g_aload_n dX2_init_28 rfl rfl ?_
  refine g_bipush (v := 20) dX2_init_29 (by decide) ?_
  refine g_newa (N := 20) (n0 := 85) dX2_init_31 (by decide) (by decide) (by decide) rfl (by decide) (Nat.le_of_ble_eq_true rfl) (Nat.le_of_ble_eq_true rfl) ?_
  refine rp_X2_3 rfl rfl dX2_init_33 lf_X2_21 rfl (Nat.le_of_ble_eq_true rfl) ?_
  refine g_aload_n dX2_init_36 rfl rfl ?_
  refine g_bipush (v := 20) dX2_init_37 (by decide) ?_
  refine g_newa (N := 20) (n0 := 86) dX2_init_39 (by decide) (by decide) (by decide) rfl (by decide) (Nat.le_of_ble_eq_true rfl) (Nat.le_of_ble_eq_true rfl) ?_
  refine rp_X2_4 rfl rfl dX2_init_41 lf_X2_24 rfl (Nat.le_of_ble_eq_true rfl) ?_
  refine g_aload_n dX2_init_44 rfl rfl ?_
  refine g_bipush (v := 20) dX2_init_45 (by decide) ?_
  refine g_newa (N := 20) (n0 := 87) dX2_init_47 (by decide) (by decide) (by decide) rfl (by decide) (Nat.le_of_ble_eq_true rfl) (Nat.le_of_ble_eq_true rfl) ?_
  refine rp_X2_5 rfl rfl dX2_init_49 lf_X2_27 rfl (Nat.le_of_ble_eq_true rfl) ?_
  refine g_aload_n dX2_init_52 rfl rfl ?_
  refine g_bipush (v := 20) dX2_init_53 (by decide) ?_
  refine g_newa (N := 20) (n0 := 88) dX2_init_55 (by decide) (by decide) (by decide) rfl (by decide) (Nat.le_of_ble_eq_true rfl) (Nat.le_of_ble_eq_true rfl) ?_
  refine rp_X2_6 rfl rfl dX2_init_57 lf_X2_30 rfl (Nat.le_of_ble_eq_true rfl) ?_
  refine g_aload_n dX2_init_60 rfl rfl ?_
  refine g_bipush (v := 20) dX2_init_61 (by decide) ?_
  refine g_newa (N := 20) (n0 := 89) dX2_init_63 (by decide) (by decide) (by decide) rfl (by decide) (Nat.le_of_ble_eq_true rfl) (Nat.le_of_ble_eq_true rfl) ?_
  refine rp_X2_7 rfl rfl dX2_init_65 lf_X2_33 rfl (Nat.le_of_ble_eq_true rfl) ?_
  refine g_aload_n dX2_init_68 rfl rfl ?_
  refine g_bipush (v := 20) dX2_init_69 (by decide) ?_
  refine g_newa (N := 20) (n0 := 90) dX2_init_71 (by decide) (by decide) (by decide) rfl (by decide) (Nat.le_of_ble_eq_true rfl) (Nat.le_of_ble_eq_true rfl) ?_
  refine rp_X2_8 rfl rfl dX2_init_73 lf_X2_36 rfl (Nat.le_of_ble_eq_true rfl) ?_
  exact g_vret rfl dX2_init_76 rfl (Nat.le_of_ble_eq_true rfl) ⟨rfl, rfl⟩
def ks_33 : mx_Sk := [.inr (11, [some 1, some 33, some 43, some 47, some 65, some 55, none, none, none, none]), .inr (10, [some 2, some 8, some 18, some 24, some 28, none, none, none]), .inr (5, [some 3, some 4, some 5, some 6, some 7, none]), .inl 30, .inl 30, .inl 30, .inl 30, .inl 30, .inr (2, [some 9, some 10, some 11, some 12, some 13, some 14, some 15, some 16, some 17, none]), .inl 20, .inl 20, .inl 20, .inl 20, .inl 20, .inl 20, .inl 20, .inl 20, .inl 20, .inr (6, [some 19, some 20, some 21, some 22, some 23, none]), .inl 8, .inl 8, .inl 8, .inl 8, .inl 8, .inr (4, [some 25, some 26, some 27, none]), .inl 20, .inl 20, .inl 20, .inr (3, [some 29, some 30, some 31, some 32, none, none]), .inl 400, .inl 17, .inl 16, .inl 64, .inr (9, [some 34, some 35, some 36, some 37, some 38, some 39, some 40, some 41, some 42, none, none]), .inl 30, .inl 30, .inl 30, .inl 30, .inl 120, .inl 4, .inl 20, .inl 20, .inl 20, .inr (0, [some 44, some 45, some 46, none]), .inl 300, .inl 300, .inl 300, .inr (8, [some 48, some 49, some 54, none, none, none, none, none, none, none, none, none, none, none, none]), .inl 400, .inr (3, [some 50, some 51, some 52, some 53, none, none]), .inl 400, .inl 17, .inl 16, .inl 64, .inl 64, .inr (9, [some 56, some 57, some 58, some 59, some 60, some 61, some 62, some 63, some 64, none, none]), .inl 30, .inl 30, .inl 30, .inl 30, .inl 120, .inl 4, .inl 20, .inl 20, .inl 20, .inr (1, [some 1, some 43, some 66, some 72, some 73, none, some 55, none, none, none, none, none, none, none, none, none]), .inr (7, [some 67, some 68, some 69, some 70, some 71]), .inl 168, .inl 168, .inl 168, .inl 168, .inl 168, .inl 30, .inl 7, .inr (10, [some 75, some 81, none, none, none, none, none, none]), .inr (5, [some 76, some 77, some 78, some 79, some 80, none]), .inl 30, .inl 30, .inl 30, .inl 30, .inl 30, .inr (2, [some 82, some 83, some 84, some 85, some 86, some 87, some 88, some 89, some 90, none]), .inl 20, .inl 20, .inl 20, .inl 20, .inl 20, .inl 20, .inl 20, .inl 20, .inl 20, .inr (6, [none, none, none, none, none, none])]
def ks_34 : mx_Sk := [.inr (11, [some 1, some 33, some 43, some 47, some 65, some 55, none, none, none, none]), .inr (10, [some 2, some 8, some 18, some 24, some 28, none, none, none]), .inr (5, [some 3, some 4, some 5, some 6, some 7, none]), .inl 30, .inl 30, .inl 30, .inl 30, .inl 30, .inr (2, [some 9, some 10, some 11, some 12, some 13, some 14, some 15, some 16, some 17, none]), .inl 20, .inl 20, .inl 20, .inl 20, .inl 20, .inl 20, .inl 20, .inl 20, .inl 20, .inr (6, [some 19, some 20, some 21, some 22, some 23, none]), .inl 8, .inl 8, .inl 8, .inl 8, .inl 8, .inr (4, [some 25, some 26, some 27, none]), .inl 20, .inl 20, .inl 20, .inr (3, [some 29, some 30, some 31, some 32, none, none]), .inl 400, .inl 17, .inl 16, .inl 64, .inr (9, [some 34, some 35, some 36, some 37, some 38, some 39, some 40, some 41, some 42, none, none]), .inl 30, .inl 30, .inl 30, .inl 30, .inl 120, .inl 4, .inl 20, .inl 20, .inl 20, .inr (0, [some 44, some 45, some 46, none]), .inl 300, .inl 300, .inl 300, .inr (8, [some 48, some 49, some 54, none, none, none, none, none, none, none, none, none, none, none, none]), .inl 400, .inr (3, [some 50, some 51, some 52, some 53, none, none]), .inl 400, .inl 17, .inl 16, .inl 64, .inl 64, .inr (9, [some 56, some 57, some 58, some 59, some 60, some 61, some 62, some 63, some 64, none, none]), .inl 30, .inl 30, .inl 30, .inl 30, .inl 120, .inl 4, .inl 20, .inl 20, .inl 20, .inr (1, [some 1, some 43, some 66, some 72, some 73, none, some 55, none, none, none, none, none, none, none, none, none]), .inr (7, [some 67, some 68, some 69, some 70, some 71]), .inl 168, .inl 168, .inl 168, .inl 168, .inl 168, .inl 30, .inl 7, .inr (10, [some 75, some 81, none, none, none, none, none, none]), .inr (5, [some 76, some 77, some 78, some 79, some 80, none]), .inl 30, .inl 30, .inl 30, .inl 30, .inl 30, .inr (2, [some 82, some 83, some 84, some 85, some 86, some 87, some 88, some 89, some 90, none]), .inl 20, .inl 20, .inl 20, .inl 20, .inl 20, .inl 20, .inl 20, .inl 20, .inl 20, .inr (6, [some 92, some 93, some 94, some 95, some 96, none]), .inl 8, .inl 8, .inl 8, .inl 8, .inl 8]
def cf_X6_init_91 (I : mx_I) : mx_I := (mx_zero (mx_zero (mx_zero (mx_zero (mx_zero I 92) 93) 94) 95) 96)
set_option maxRecDepth 10000 in
set_option maxHeartbeats 2000000 in
theorem ct_X6_init_91 {l : Launch} {d : Nat} {I : mx_I} : mx_Spec l mX6_init (d + 1) 5 40 [.ref 91] (ks_33, I) (fun r h' => r = none ∧ h' = (ks_34, cf_X6_init_91 I)) := by
  refine mx_enter rfl (by simp [Value.category]) (Nat.le_of_ble_eq_true rfl) ?_
  change mx_Go l (mx_rm (d + 1) 5 40) mX6_init _ 0 0 0 [.ref 91] [] (ks_33, I)
  refine g_aload_n dX6_init_0 rfl rfl ?_
  refine g_objInit dX6_init_1 lm_X6_3 lo_1 lo_2 (by simp [Value.category]) (by simp only [mx_rm]; omega) (by simp only [mx_rm]; omega) ?_
  refine g_aload_n dX6_init_4 rfl rfl ?_
  refine g_bipush (v := 8) dX6_init_5 (by decide) ?_
  refine g_newa (N := 8) (n0 := 92) dX6_init_7 (by decide) (by decide) (by decide) rfl (by decide) (Nat.le_of_ble_eq_true rfl) (Nat.le_of_ble_eq_true rfl) ?_
  refine rp_X6_0 rfl rfl dX6_init_9 lf_X6_9 rfl (Nat.le_of_ble_eq_true rfl) ?_
  refine g_aload_n dX6_init_12 rfl rfl ?_
  refine g_bipush (v := 8) dX6_init_13 (by decide) ?_
  refine g_newa (N := 8) (n0 := 93) dX6_init_15 (by decide) (by decide) (by decide) rfl (by decide) (Nat.le_of_ble_eq_true rfl) (Nat.le_of_ble_eq_true rfl) ?_
  refine rp_X6_1 rfl rfl dX6_init_17 lf_X6_15 rfl (Nat.le_of_ble_eq_true rfl) ?_
  refine g_aload_n dX6_init_20 rfl rfl ?_
  refine g_bipush (v := 8) dX6_init_21 (by decide) ?_
  refine g_newa (N := 8) (n0 := 94) dX6_init_23 (by decide) (by decide) (by decide) rfl (by decide) (Nat.le_of_ble_eq_true rfl) (Nat.le_of_ble_eq_true rfl) ?_
  refine rp_X6_2 rfl rfl dX6_init_25 lf_X6_18 rfl (Nat.le_of_ble_eq_true rfl) ?_
  refine g_aload_n dX6_init_28 rfl rfl ?_
  refine g_bipush (v := 8) dX6_init_29 (by decide) ?_
  refine g_newa (N := 8) (n0 := 95) dX6_init_31 (by decide) (by decide) (by decide) rfl (by decide) (Nat.le_of_ble_eq_true rfl) (Nat.le_of_ble_eq_true rfl) ?_
  refine rp_X6_3 rfl rfl dX6_init_33 lf_X6_21 rfl (Nat.le_of_ble_eq_true rfl) ?_
  refine g_aload_n dX6_init_36 rfl rfl ?_
  refine g_bipush (v := 8) dX6_init_37 (by decide) ?_
  refine g_newa (N := 8) (n0 := 96) dX6_init_39 (by decide) (by decide) (by decide) rfl (by decide) (Nat.le_of_ble_eq_true rfl) (Nat.le_of_ble_eq_true rfl) ?_
  refine rp_X6_4 rfl rfl dX6_init_41 lf_X6_24 rfl (Nat.le_of_ble_eq_true rfl) ?_
  exact g_vret rfl dX6_init_44 rfl (Nat.le_of_ble_eq_true rfl) ⟨rfl, rfl⟩
def ks_35 : mx_Sk := [.inr (11, [some 1, some 33, some 43, some 47, some 65, some 55, none, none, none, none]), .inr (10, [some 2, some 8, some 18, some 24, some 28, none, none, none]), .inr (5, [some 3, some 4, some 5, some 6, some 7, none]), .inl 30, .inl 30, .inl 30, .inl 30, .inl 30, .inr (2, [some 9, some 10, some 11, some 12, some 13, some 14, some 15, some 16, some 17, none]), .inl 20, .inl 20, .inl 20, .inl 20, .inl 20, .inl 20, .inl 20, .inl 20, .inl 20, .inr (6, [some 19, some 20, some 21, some 22, some 23, none]), .inl 8, .inl 8, .inl 8, .inl 8, .inl 8, .inr (4, [some 25, some 26, some 27, none]), .inl 20, .inl 20, .inl 20, .inr (3, [some 29, some 30, some 31, some 32, none, none]), .inl 400, .inl 17, .inl 16, .inl 64, .inr (9, [some 34, some 35, some 36, some 37, some 38, some 39, some 40, some 41, some 42, none, none]), .inl 30, .inl 30, .inl 30, .inl 30, .inl 120, .inl 4, .inl 20, .inl 20, .inl 20, .inr (0, [some 44, some 45, some 46, none]), .inl 300, .inl 300, .inl 300, .inr (8, [some 48, some 49, some 54, none, none, none, none, none, none, none, none, none, none, none, none]), .inl 400, .inr (3, [some 50, some 51, some 52, some 53, none, none]), .inl 400, .inl 17, .inl 16, .inl 64, .inl 64, .inr (9, [some 56, some 57, some 58, some 59, some 60, some 61, some 62, some 63, some 64, none, none]), .inl 30, .inl 30, .inl 30, .inl 30, .inl 120, .inl 4, .inl 20, .inl 20, .inl 20, .inr (1, [some 1, some 43, some 66, some 72, some 73, none, some 55, none, none, none, none, none, none, none, none, none]), .inr (7, [some 67, some 68, some 69, some 70, some 71]), .inl 168, .inl 168, .inl 168, .inl 168, .inl 168, .inl 30, .inl 7, .inr (10, [some 75, some 81, some 91, none, none, none, none, none]), .inr (5, [some 76, some 77, some 78, some 79, some 80, none]), .inl 30, .inl 30, .inl 30, .inl 30, .inl 30, .inr (2, [some 82, some 83, some 84, some 85, some 86, some 87, some 88, some 89, some 90, none]), .inl 20, .inl 20, .inl 20, .inl 20, .inl 20, .inl 20, .inl 20, .inl 20, .inl 20, .inr (6, [some 92, some 93, some 94, some 95, some 96, none]), .inl 8, .inl 8, .inl 8, .inl 8, .inl 8, .inr (4, [none, none, none, none])]
def ks_36 : mx_Sk := [.inr (11, [some 1, some 33, some 43, some 47, some 65, some 55, none, none, none, none]), .inr (10, [some 2, some 8, some 18, some 24, some 28, none, none, none]), .inr (5, [some 3, some 4, some 5, some 6, some 7, none]), .inl 30, .inl 30, .inl 30, .inl 30, .inl 30, .inr (2, [some 9, some 10, some 11, some 12, some 13, some 14, some 15, some 16, some 17, none]), .inl 20, .inl 20, .inl 20, .inl 20, .inl 20, .inl 20, .inl 20, .inl 20, .inl 20, .inr (6, [some 19, some 20, some 21, some 22, some 23, none]), .inl 8, .inl 8, .inl 8, .inl 8, .inl 8, .inr (4, [some 25, some 26, some 27, none]), .inl 20, .inl 20, .inl 20, .inr (3, [some 29, some 30, some 31, some 32, none, none]), .inl 400, .inl 17, .inl 16, .inl 64, .inr (9, [some 34, some 35, some 36, some 37, some 38, some 39, some 40, some 41, some 42, none, none]), .inl 30, .inl 30, .inl 30, .inl 30, .inl 120, .inl 4, .inl 20, .inl 20, .inl 20, .inr (0, [some 44, some 45, some 46, none]), .inl 300, .inl 300, .inl 300, .inr (8, [some 48, some 49, some 54, none, none, none, none, none, none, none, none, none, none, none, none]), .inl 400, .inr (3, [some 50, some 51, some 52, some 53, none, none]), .inl 400, .inl 17, .inl 16, .inl 64, .inl 64, .inr (9, [some 56, some 57, some 58, some 59, some 60, some 61, some 62, some 63, some 64, none, none]), .inl 30, .inl 30, .inl 30, .inl 30, .inl 120, .inl 4, .inl 20, .inl 20, .inl 20, .inr (1, [some 1, some 43, some 66, some 72, some 73, none, some 55, none, none, none, none, none, none, none, none, none]), .inr (7, [some 67, some 68, some 69, some 70, some 71]), .inl 168, .inl 168, .inl 168, .inl 168, .inl 168, .inl 30, .inl 7, .inr (10, [some 75, some 81, some 91, none, none, none, none, none]), .inr (5, [some 76, some 77, some 78, some 79, some 80, none]), .inl 30, .inl 30, .inl 30, .inl 30, .inl 30, .inr (2, [some 82, some 83, some 84, some 85, some 86, some 87, some 88, some 89, some 90, none]), .inl 20, .inl 20, .inl 20, .inl 20, .inl 20, .inl 20, .inl 20, .inl 20, .inl 20, .inr (6, [some 92, some 93, some 94, some 95, some 96, none]), .inl 8, .inl 8, .inl 8, .inl 8, .inl 8, .inr (4, [some 98, some 99, some 100, none]), .inl 20, .inl 20, .inl 20]
def cf_X4_init_97 (I : mx_I) : mx_I := (mx_zero (mx_zero (mx_zero I 98) 99) 100)
set_option maxRecDepth 10000 in
set_option maxHeartbeats 2000000 in
theorem ct_X4_init_97 {l : Launch} {d : Nat} {I : mx_I} : mx_Spec l mX4_init (d + 1) 3 60 [.ref 97] (ks_35, I) (fun r h' => r = none ∧ h' = (ks_36, cf_X4_init_97 I)) := by
  refine mx_enter rfl (by simp [Value.category]) (Nat.le_of_ble_eq_true rfl) ?_
  change mx_Go l (mx_rm (d + 1) 3 60) mX4_init _ 0 0 0 [.ref 97] [] (ks_35, I)
  refine g_aload_n dX4_init_0 rfl rfl ?_
  refine g_objInit dX4_init_1 lm_X4_3 lo_1 lo_2 (by simp [Value.category]) (by simp only [mx_rm]; omega) (by simp only [mx_rm]; omega) ?_
  refine g_aload_n dX4_init_4 rfl rfl ?_
  refine g_bipush (v := 20) dX4_init_5 (by decide) ?_
  refine g_newa (N := 20) (n0 := 98) dX4_init_7 (by decide) (by decide) (by decide) rfl (by decide) (Nat.le_of_ble_eq_true rfl) (Nat.le_of_ble_eq_true rfl) ?_
  refine rp_X4_0 rfl rfl dX4_init_9 lf_X4_9 rfl (Nat.le_of_ble_eq_true rfl) ?_
  refine g_aload_n dX4_init_12 rfl rfl ?_
  refine g_bipush (v := 20) dX4_init_13 (by decide) ?_
  refine g_newa (N := 20) (n0 := 99) dX4_init_15 (by decide) (by decide) (by decide) rfl (by decide) (Nat.le_of_ble_eq_true rfl) (Nat.le_of_ble_eq_true rfl) ?_
  refine rp_X4_1 rfl rfl dX4_init_17 lf_X4_15 rfl (Nat.le_of_ble_eq_true rfl) ?_
  refine g_aload_n dX4_init_20 rfl rfl ?_
  refine g_bipush (v := 20) dX4_init_21 (by decide) ?_
  refine g_newa (N := 20) (n0 := 100) dX4_init_23 (by decide) (by decide) (by decide) rfl (by decide) (Nat.le_of_ble_eq_true rfl) (Nat.le_of_ble_eq_true rfl) ?_
  refine rp_X4_2 rfl rfl dX4_init_25 lf_X4_18 rfl (Nat.le_of_ble_eq_true rfl) ?_
  exact g_vret rfl dX4_init_28 rfl (Nat.le_of_ble_eq_true rfl) ⟨rfl, rfl⟩
def ks_37 : mx_Sk := [.inr (11, [some 1, some 33, some 43, some 47, some 65, some 55, none, none, none, none]), .inr (10, [some 2, some 8, some 18, some 24, some 28, none, none, none]), .inr (5, [some 3, some 4, some 5, some 6, some 7, none]), .inl 30, .inl 30, .inl 30, .inl 30, .inl 30, .inr (2, [some 9, some 10, some 11, some 12, some 13, some 14, some 15, some 16, some 17, none]), .inl 20, .inl 20, .inl 20, .inl 20, .inl 20, .inl 20, .inl 20, .inl 20, .inl 20, .inr (6, [some 19, some 20, some 21, some 22, some 23, none]), .inl 8, .inl 8, .inl 8, .inl 8, .inl 8, .inr (4, [some 25, some 26, some 27, none]), .inl 20, .inl 20, .inl 20, .inr (3, [some 29, some 30, some 31, some 32, none, none]), .inl 400, .inl 17, .inl 16, .inl 64, .inr (9, [some 34, some 35, some 36, some 37, some 38, some 39, some 40, some 41, some 42, none, none]), .inl 30, .inl 30, .inl 30, .inl 30, .inl 120, .inl 4, .inl 20, .inl 20, .inl 20, .inr (0, [some 44, some 45, some 46, none]), .inl 300, .inl 300, .inl 300, .inr (8, [some 48, some 49, some 54, none, none, none, none, none, none, none, none, none, none, none, none]), .inl 400, .inr (3, [some 50, some 51, some 52, some 53, none, none]), .inl 400, .inl 17, .inl 16, .inl 64, .inl 64, .inr (9, [some 56, some 57, some 58, some 59, some 60, some 61, some 62, some 63, some 64, none, none]), .inl 30, .inl 30, .inl 30, .inl 30, .inl 120, .inl 4, .inl 20, .inl 20, .inl 20, .inr (1, [some 1, some 43, some 66, some 72, some 73, none, some 55, none, none, none, none, none, none, none, none, none]), .inr (7, [some 67, some 68, some 69, some 70, some 71]), .inl 168, .inl 168, .inl 168, .inl 168, .inl 168, .inl 30, .inl 7, .inr (10, [some 75, some 81, some 91, some 97, none, none, none, none]), .inr (5, [some 76, some 77, some 78, some 79, some 80, none]), .inl 30, .inl 30, .inl 30, .inl 30, .inl 30, .inr (2, [some 82, some 83, some 84, some 85, some 86, some 87, some 88, some 89, some 90, none]), .inl 20, .inl 20, .inl 20, .inl 20, .inl 20, .inl 20, .inl 20, .inl 20, .inl 20, .inr (6, [some 92, some 93, some 94, some 95, some 96, none]), .inl 8, .inl 8, .inl 8, .inl 8, .inl 8, .inr (4, [some 98, some 99, some 100, none]), .inl 20, .inl 20, .inl 20, .inr (3, [none, none, none, none, none, none])]
def ks_38 : mx_Sk := [.inr (11, [some 1, some 33, some 43, some 47, some 65, some 55, none, none, none, none]), .inr (10, [some 2, some 8, some 18, some 24, some 28, none, none, none]), .inr (5, [some 3, some 4, some 5, some 6, some 7, none]), .inl 30, .inl 30, .inl 30, .inl 30, .inl 30, .inr (2, [some 9, some 10, some 11, some 12, some 13, some 14, some 15, some 16, some 17, none]), .inl 20, .inl 20, .inl 20, .inl 20, .inl 20, .inl 20, .inl 20, .inl 20, .inl 20, .inr (6, [some 19, some 20, some 21, some 22, some 23, none]), .inl 8, .inl 8, .inl 8, .inl 8, .inl 8, .inr (4, [some 25, some 26, some 27, none]), .inl 20, .inl 20, .inl 20, .inr (3, [some 29, some 30, some 31, some 32, none, none]), .inl 400, .inl 17, .inl 16, .inl 64, .inr (9, [some 34, some 35, some 36, some 37, some 38, some 39, some 40, some 41, some 42, none, none]), .inl 30, .inl 30, .inl 30, .inl 30, .inl 120, .inl 4, .inl 20, .inl 20, .inl 20, .inr (0, [some 44, some 45, some 46, none]), .inl 300, .inl 300, .inl 300, .inr (8, [some 48, some 49, some 54, none, none, none, none, none, none, none, none, none, none, none, none]), .inl 400, .inr (3, [some 50, some 51, some 52, some 53, none, none]), .inl 400, .inl 17, .inl 16, .inl 64, .inl 64, .inr (9, [some 56, some 57, some 58, some 59, some 60, some 61, some 62, some 63, some 64, none, none]), .inl 30, .inl 30, .inl 30, .inl 30, .inl 120, .inl 4, .inl 20, .inl 20, .inl 20, .inr (1, [some 1, some 43, some 66, some 72, some 73, none, some 55, none, none, none, none, none, none, none, none, none]), .inr (7, [some 67, some 68, some 69, some 70, some 71]), .inl 168, .inl 168, .inl 168, .inl 168, .inl 168, .inl 30, .inl 7, .inr (10, [some 75, some 81, some 91, some 97, none, none, none, none]), .inr (5, [some 76, some 77, some 78, some 79, some 80, none]), .inl 30, .inl 30, .inl 30, .inl 30, .inl 30, .inr (2, [some 82, some 83, some 84, some 85, some 86, some 87, some 88, some 89, some 90, none]), .inl 20, .inl 20, .inl 20, .inl 20, .inl 20, .inl 20, .inl 20, .inl 20, .inl 20, .inr (6, [some 92, some 93, some 94, some 95, some 96, none]), .inl 8, .inl 8, .inl 8, .inl 8, .inl 8, .inr (4, [some 98, some 99, some 100, none]), .inl 20, .inl 20, .inl 20, .inr (3, [some 102, some 103, some 104, some 105, none, none]), .inl 400, .inl 17, .inl 16, .inl 64]
def cf_X3_init_101 (I : mx_I) : mx_I := (mx_zero (mx_zero (mx_zero (mx_zero I 102) 103) 104) 105)
set_option maxRecDepth 10000 in
set_option maxHeartbeats 2000000 in
theorem ct_X3_init_101 {l : Launch} {d : Nat} {I : mx_I} : mx_Spec l mX3_init (d + 1) 4 497 [.ref 101] (ks_37, I) (fun r h' => r = none ∧ h' = (ks_38, cf_X3_init_101 I)) := by
  refine mx_enter rfl (by simp [Value.category]) (Nat.le_of_ble_eq_true rfl) ?_
  change mx_Go l (mx_rm (d + 1) 4 497) mX3_init _ 0 0 0 [.ref 101] [] (ks_37, I)
  refine g_aload_n dX3_init_0 rfl rfl ?_
  refine g_objInit dX3_init_1 lm_X3_3 lo_1 lo_2 (by simp [Value.category]) (by simp only [mx_rm]; omega) (by simp only [mx_rm]; omega) ?_
  refine g_aload_n dX3_init_4 rfl rfl ?_
  refine g_sipush (v := 400) dX3_init_5 (by decide) ?_
  refine g_newa (N := 400) (n0 := 102) dX3_init_8 (by decide) (by decide) (by decide) rfl (by decide) (Nat.le_of_ble_eq_true rfl) (Nat.le_of_ble_eq_true rfl) ?_
  refine rp_X3_0 rfl rfl dX3_init_10 lf_X3_9 rfl (Nat.le_of_ble_eq_true rfl) ?_
  refine g_aload_n dX3_init_13 rfl rfl ?_
  refine g_bipush (v := 17) dX3_init_14 (by decide) ?_
  refine g_newa (N := 17) (n0 := 103) dX3_init_16 (by decide) (by decide) (by decide) rfl (by decide) (Nat.le_of_ble_eq_true rfl) (Nat.le_of_ble_eq_true rfl) ?_
  refine rp_X3_1 rfl rfl dX3_init_18 lf_X3_15 rfl (Nat.le_of_ble_eq_true rfl) ?_
  refine g_aload_n dX3_init_21 rfl rfl ?_
  refine g_bipush (v := 16) dX3_init_22 (by decide) ?_
  refine g_newa (N := 16) (n0 := 104) dX3_init_24 (by decide) (by decide) (by decide) rfl (by decide) (Nat.le_of_ble_eq_true rfl) (Nat.le_of_ble_eq_true rfl) ?_
  refine rp_X3_2 rfl rfl dX3_init_26 lf_X3_18 rfl (Nat.le_of_ble_eq_true rfl) ?_
  refine g_aload_n dX3_init_29 rfl rfl ?_
  refine g_bipush (v := 64) dX3_init_30 (by decide) ?_
  refine g_newa (N := 64) (n0 := 105) dX3_init_32 (by decide) (by decide) (by decide) rfl (by decide) (Nat.le_of_ble_eq_true rfl) (Nat.le_of_ble_eq_true rfl) ?_
  refine rp_X3_3 rfl rfl dX3_init_34 lf_X3_21 rfl (Nat.le_of_ble_eq_true rfl) ?_
  exact g_vret rfl dX3_init_37 rfl (Nat.le_of_ble_eq_true rfl) ⟨rfl, rfl⟩
def ks_39 : mx_Sk := [.inr (11, [some 1, some 33, some 43, some 47, some 65, some 55, none, none, none, none]), .inr (10, [some 2, some 8, some 18, some 24, some 28, none, none, none]), .inr (5, [some 3, some 4, some 5, some 6, some 7, none]), .inl 30, .inl 30, .inl 30, .inl 30, .inl 30, .inr (2, [some 9, some 10, some 11, some 12, some 13, some 14, some 15, some 16, some 17, none]), .inl 20, .inl 20, .inl 20, .inl 20, .inl 20, .inl 20, .inl 20, .inl 20, .inl 20, .inr (6, [some 19, some 20, some 21, some 22, some 23, none]), .inl 8, .inl 8, .inl 8, .inl 8, .inl 8, .inr (4, [some 25, some 26, some 27, none]), .inl 20, .inl 20, .inl 20, .inr (3, [some 29, some 30, some 31, some 32, none, none]), .inl 400, .inl 17, .inl 16, .inl 64, .inr (9, [some 34, some 35, some 36, some 37, some 38, some 39, some 40, some 41, some 42, none, none]), .inl 30, .inl 30, .inl 30, .inl 30, .inl 120, .inl 4, .inl 20, .inl 20, .inl 20, .inr (0, [some 44, some 45, some 46, none]), .inl 300, .inl 300, .inl 300, .inr (8, [some 48, some 49, some 54, none, none, none, none, none, none, none, none, none, none, none, none]), .inl 400, .inr (3, [some 50, some 51, some 52, some 53, none, none]), .inl 400, .inl 17, .inl 16, .inl 64, .inl 64, .inr (9, [some 56, some 57, some 58, some 59, some 60, some 61, some 62, some 63, some 64, none, none]), .inl 30, .inl 30, .inl 30, .inl 30, .inl 120, .inl 4, .inl 20, .inl 20, .inl 20, .inr (1, [some 1, some 43, some 66, some 72, some 73, none, some 55, none, none, none, none, none, none, none, none, none]), .inr (7, [some 67, some 68, some 69, some 70, some 71]), .inl 168, .inl 168, .inl 168, .inl 168, .inl 168, .inl 30, .inl 7, .inr (10, [some 75, some 81, some 91, some 97, some 101, none, none, none]), .inr (5, [some 76, some 77, some 78, some 79, some 80, none]), .inl 30, .inl 30, .inl 30, .inl 30, .inl 30, .inr (2, [some 82, some 83, some 84, some 85, some 86, some 87, some 88, some 89, some 90, none]), .inl 20, .inl 20, .inl 20, .inl 20, .inl 20, .inl 20, .inl 20, .inl 20, .inl 20, .inr (6, [some 92, some 93, some 94, some 95, some 96, none]), .inl 8, .inl 8, .inl 8, .inl 8, .inl 8, .inr (4, [some 98, some 99, some 100, none]), .inl 20, .inl 20, .inl 20, .inr (3, [some 102, some 103, some 104, some 105, none, none]), .inl 400, .inl 17, .inl 16, .inl 64]
def cf_X10_init_74 (I : mx_I) : mx_I := (mx_set (mx_set (cf_X3_init_101 (mx_zero (cf_X4_init_97 (mx_zero (cf_X6_init_91 (mx_zero (cf_X2_init_81 (mx_zero (cf_X5_init_75 (mx_zero I 75)) 81)) 91)) 97)) 101)) 74 5 1) 74 6 (-1))
set_option maxRecDepth 10000 in
set_option maxHeartbeats 2000000 in
theorem ct_X10_init_74 {l : Launch} {d : Nat} {I : mx_I} : mx_Spec l mX10_init (d + 2) 31 959 [.ref 74] (ks_28, I) (fun r h' => r = none ∧ h' = (ks_39, cf_X10_init_74 I)) := by
  refine mx_enter rfl (by simp [Value.category]) (Nat.le_of_ble_eq_true rfl) ?_
  change mx_Go l (mx_rm (d + 2) 31 959) mX10_init _ 0 0 0 [.ref 74] [] (ks_28, I)
  refine g_aload_n dX10_init_0 rfl rfl ?_
  refine g_objInit dX10_init_1 lm_X10_3 lo_1 lo_2 (by simp [Value.category]) (by simp only [mx_rm]; omega) (by simp only [mx_rm]; omega) ?_
  refine g_aload_n dX10_init_4 rfl rfl ?_
  refine g_new (ci := 5) (n0 := 75) (C0 := RX5) (T0 := TX5) (N := 6) (ty0 := tyX5) rfl inX5 tyX5_ok rfl (by decide) dX10_init_5 lcl_X10_9 lin_X5 lii_X5 rfl (by decide) (Nat.le_of_ble_eq_true rfl) (Nat.le_of_ble_eq_true rfl) ?_
  refine g_dup dX10_init_8 rfl ?_
  change mx_Go l (mx_rm (d + 2) 31 959) mX10_init _ 1 6 9 [.ref 74] [.ref 75, .ref 75, .ref 74] (ks_29, (mx_zero I 75))
  refine g_callIN (M' := mX5_init) (As := []) (st := [.ref 75, .ref 74]) (ct_X5_init_75 (d := d + 0)) dX10_init_9 (by decide) okX5_init oiX5_init rfl rfl (by decide) (by simp [Value.category]) (Nat.le_refl _) (mx_lo (by decide)) (Nat.le_of_ble_eq_true rfl) (Nat.le_of_ble_eq_true rfl) rfl ?_
  rintro _ _ ⟨rfl, rfl⟩
  change mx_Go l (mx_rm (d + 2) 31 959) mX10_init _ 6 156 12 [.ref 74] [.ref 75, .ref 74] (ks_30, (cf_X5_init_75 (mx_zero I 75)))
  refine rp_X10_0 rfl rfl dX10_init_12 lf_X10_12 rfl (Nat.le_of_ble_eq_true rfl) ?_
  refine g_aload_n dX10_init_15 rfl rfl ?_
  refine g_new (ci := 2) (n0 := 81) (C0 := RX2) (T0 := TX2) (N := 10) (ty0 := tyX2) rfl inX2 tyX2_ok rfl (by decide) dX10_init_16 lcl_X10_18 lin_X2 lii_X2 rfl (by decide) (Nat.le_of_ble_eq_true rfl) (Nat.le_of_ble_eq_true rfl) ?_
  refine g_dup dX10_init_19 rfl ?_
  change mx_Go l (mx_rm (d + 2) 31 959) mX10_init _ 7 166 20 [.ref 74] [.ref 81, .ref 81, .ref 74] (ks_31, (mx_zero (cf_X5_init_75 (mx_zero I 75)) 81))
  refine g_callIN (M' := mX2_init) (As := []) (st := [.ref 81, .ref 74]) (ct_X2_init_81 (d := d + 0)) dX10_init_20 (by decide) okX2_init oiX2_init rfl rfl (by decide) (by simp [Value.category]) (Nat.le_refl _) (mx_lo (by decide)) (Nat.le_of_ble_eq_true rfl) (Nat.le_of_ble_eq_true rfl) rfl ?_
  rintro _ _ ⟨rfl, rfl⟩
  change mx_Go l (mx_rm (d + 2) 31 959) mX10_init _ 16 346 23 [.ref 74] [.ref 81, .ref 74] (ks_32, (cf_X2_init_81 (mx_zero (cf_X5_init_75 (mx_zero I 75)) 81)))
  refine rp_X10_1 rfl rfl dX10_init_23 lf_X10_21 rfl (Nat.le_of_ble_eq_true rfl) ?_
  refine g_aload_n dX10_init_26 rfl rfl ?_
  refine g_new (ci := 6) (n0 := 91) (C0 := RX6) (T0 := TX6) (N := 6) (ty0 := tyX6) rfl inX6 tyX6_ok rfl (by decide) dX10_init_27 lcl_X10_25 lin_X6 lii_X6 rfl (by decide) (Nat.le_of_ble_eq_true rfl) (Nat.le_of_ble_eq_true rfl) ?_
  refine g_dup dX10_init_30 rfl ?_
  change mx_Go l (mx_rm (d + 2) 31 959) mX10_init _ 17 352 31 [.ref 74] [.ref 91, .ref 91, .ref 74] (ks_33, (mx_zero (cf_X2_init_81 (mx_zero (cf_X5_init_75 (mx_zero I 75)) 81)) 91))
  refine g_callIN (M' := mX6_init) (As := []) (st := [.ref 91, .ref 74]) (ct_X6_init_91 (d := d + 0)) dX10_init_31 (by decide) okX6_init oiX6_init rfl rfl (by decide) (by simp [Value.category]) (Nat.le_refl _) (mx_lo (by decide)) (Nat.le_of_ble_eq_true rfl) (Nat.le_of_ble_eq_true rfl) rfl ?_
  rintro _ _ ⟨rfl, rfl⟩
  change mx_Go l (mx_rm (d + 2) 31 959) mX10_init _ 22 392 34 [.ref 74] [.ref 91, .ref 74] (ks_34, (cf_X6_init_91 (mx_zero (cf_X2_init_81 (mx_zero (cf_X5_init_75 (mx_zero I 75)) 81)) 91)))
  refine rp_X10_2 rfl rfl dX10_init_34 lf_X10_28 rfl (Nat.le_of_ble_eq_true rfl) ?_
  refine g_aload_n dX10_init_37 rfl rfl ?_
  refine g_new (ci := 4) (n0 := 97) (C0 := RX4) (T0 := TX4) (N := 4) (ty0 := tyX4) rfl inX4 tyX4_ok rfl (by decide) dX10_init_38 lcl_X10_32 lin_X4 lii_X4 rfl (by decide) (Nat.le_of_ble_eq_true rfl) (Nat.le_of_ble_eq_true rfl) ?_
  refine g_dup dX10_init_41 rfl ?_
  change mx_Go l (mx_rm (d + 2) 31 959) mX10_init _ 23 396 42 [.ref 74] [.ref 97, .ref 97, .ref 74] (ks_35, (mx_zero (cf_X6_init_91 (mx_zero (cf_X2_init_81 (mx_zero (cf_X5_init_75 (mx_zero I 75)) 81)) 91)) 97))
  refine g_callIN (M' := mX4_init) (As := []) (st := [.ref 97, .ref 74]) (ct_X4_init_97 (d := d + 0)) dX10_init_42 (by decide) okX4_init oiX4_init rfl rfl (by decide) (by simp [Value.category]) (Nat.le_refl _) (mx_lo (by decide)) (Nat.le_of_ble_eq_true rfl) (Nat.le_of_ble_eq_true rfl) rfl ?_
  rintro _ _ ⟨rfl, rfl⟩
  change mx_Go l (mx_rm (d + 2) 31 959) mX10_init _ 26 456 45 [.ref 74] [.ref 97, .ref 74] (ks_36, (cf_X4_init_97 (mx_zero (cf_X6_init_91 (mx_zero (cf_X2_init_81 (mx_zero (cf_X5_init_75 (mx_zero I 75)) 81)) 91)) 97)))
  refine rp_X10_3 rfl rfl dX10_init_45 lf_X10_35 rfl (Nat.le_of_ble_eq_true rfl) ?_
  refine g_aload_n dX10_init_48 rfl rfl ?_
  refine g_new (ci := 3) (n0 := 101) (C0 := RX3) (T0 := TX3) (N := 6) (ty0 := tyX3) rfl inX3 tyX3_ok rfl (by decide) dX10_init_49 lcl_X10_39 lin_X3 lii_X3 rfl (by decide) (Nat.le_of_ble_eq_true rfl) (Nat.le_of_ble_eq_true rfl) ?_
  refine g_dup dX10_init_52 rfl ?_
  change mx_Go l (mx_rm (d + 2) 31 959) mX10_init _ 27 462 53 [.ref 74] [.ref 101, .ref 101, .ref 74] (ks_37, (mx_zero (cf_X4_init_97 (mx_zero (cf_X6_init_91 (mx_zero (cf_X2_init_81 (mx_zero (cf_X5_init_75 (mx_zero I 75)) 81)) 91)) 97)) 101))
  refine g_callIN (M' := mX3_init) (As := []) (st := [.ref 101, .ref 74]) (ct_X3_init_101 (d := d + 0)) dX10_init_53 (by decide) okX3_init oiX3_init rfl rfl (by decide) (by simp [Value.category]) (Nat.le_refl _) (mx_lo (by decide)) (Nat.le_of_ble_eq_true rfl) (Nat.le_of_ble_eq_true rfl) rfl ?_
  rintro _ _ ⟨rfl, rfl⟩
  change mx_Go l (mx_rm (d + 2) 31 959) mX10_init _ 31 959 56 [.ref 74] [.ref 101, .ref 74] (ks_38, (cf_X3_init_101 (mx_zero (cf_X4_init_97 (mx_zero (cf_X6_init_91 (mx_zero (cf_X2_init_81 (mx_zero (cf_X5_init_75 (mx_zero I 75)) 81)) 91)) 97)) 101)))
  refine rp_X10_4 rfl rfl dX10_init_56 lf_X10_42 rfl (Nat.le_of_ble_eq_true rfl) ?_
  refine g_aload_n dX10_init_59 rfl rfl ?_
  refine g_iconst (v := 1) dX10_init_60 (by decide) ?_
  refine rp_X10_5 dX10_init_61 lf_X10_46 rfl ?_
  refine g_aload_n dX10_init_64 rfl rfl ?_
  refine g_iconst (v := (-1)) dX10_init_65 (by decide) ?_
  refine rp_X10_6 dX10_init_66 lf_X10_50 rfl ?_
  exact g_vret rfl dX10_init_69 rfl (Nat.le_of_ble_eq_true rfl) ⟨rfl, rfl⟩
def ks_40 : mx_Sk := [.inr (11, [some 1, some 33, some 43, some 47, some 65, some 55, some 74, none, none, none]), .inr (10, [some 2, some 8, some 18, some 24, some 28, none, none, none]), .inr (5, [some 3, some 4, some 5, some 6, some 7, none]), .inl 30, .inl 30, .inl 30, .inl 30, .inl 30, .inr (2, [some 9, some 10, some 11, some 12, some 13, some 14, some 15, some 16, some 17, none]), .inl 20, .inl 20, .inl 20, .inl 20, .inl 20, .inl 20, .inl 20, .inl 20, .inl 20, .inr (6, [some 19, some 20, some 21, some 22, some 23, none]), .inl 8, .inl 8, .inl 8, .inl 8, .inl 8, .inr (4, [some 25, some 26, some 27, none]), .inl 20, .inl 20, .inl 20, .inr (3, [some 29, some 30, some 31, some 32, none, none]), .inl 400, .inl 17, .inl 16, .inl 64, .inr (9, [some 34, some 35, some 36, some 37, some 38, some 39, some 40, some 41, some 42, none, none]), .inl 30, .inl 30, .inl 30, .inl 30, .inl 120, .inl 4, .inl 20, .inl 20, .inl 20, .inr (0, [some 44, some 45, some 46, none]), .inl 300, .inl 300, .inl 300, .inr (8, [some 48, some 49, some 54, none, none, none, none, none, none, none, none, none, none, none, none]), .inl 400, .inr (3, [some 50, some 51, some 52, some 53, none, none]), .inl 400, .inl 17, .inl 16, .inl 64, .inl 64, .inr (9, [some 56, some 57, some 58, some 59, some 60, some 61, some 62, some 63, some 64, none, none]), .inl 30, .inl 30, .inl 30, .inl 30, .inl 120, .inl 4, .inl 20, .inl 20, .inl 20, .inr (1, [some 1, some 43, some 66, some 72, some 73, none, some 55, none, none, none, none, none, none, none, none, none]), .inr (7, [some 67, some 68, some 69, some 70, some 71]), .inl 168, .inl 168, .inl 168, .inl 168, .inl 168, .inl 30, .inl 7, .inr (10, [some 75, some 81, some 91, some 97, some 101, none, none, none]), .inr (5, [some 76, some 77, some 78, some 79, some 80, none]), .inl 30, .inl 30, .inl 30, .inl 30, .inl 30, .inr (2, [some 82, some 83, some 84, some 85, some 86, some 87, some 88, some 89, some 90, none]), .inl 20, .inl 20, .inl 20, .inl 20, .inl 20, .inl 20, .inl 20, .inl 20, .inl 20, .inr (6, [some 92, some 93, some 94, some 95, some 96, none]), .inl 8, .inl 8, .inl 8, .inl 8, .inl 8, .inr (4, [some 98, some 99, some 100, none]), .inl 20, .inl 20, .inl 20, .inr (3, [some 102, some 103, some 104, some 105, none, none]), .inl 400, .inl 17, .inl 16, .inl 64, .inr (9, [none, none, none, none, none, none, none, none, none, none, none])]
def ks_41 : mx_Sk := [.inr (11, [some 1, some 33, some 43, some 47, some 65, some 55, some 74, none, none, none]), .inr (10, [some 2, some 8, some 18, some 24, some 28, none, none, none]), .inr (5, [some 3, some 4, some 5, some 6, some 7, none]), .inl 30, .inl 30, .inl 30, .inl 30, .inl 30, .inr (2, [some 9, some 10, some 11, some 12, some 13, some 14, some 15, some 16, some 17, none]), .inl 20, .inl 20, .inl 20, .inl 20, .inl 20, .inl 20, .inl 20, .inl 20, .inl 20, .inr (6, [some 19, some 20, some 21, some 22, some 23, none]), .inl 8, .inl 8, .inl 8, .inl 8, .inl 8, .inr (4, [some 25, some 26, some 27, none]), .inl 20, .inl 20, .inl 20, .inr (3, [some 29, some 30, some 31, some 32, none, none]), .inl 400, .inl 17, .inl 16, .inl 64, .inr (9, [some 34, some 35, some 36, some 37, some 38, some 39, some 40, some 41, some 42, none, none]), .inl 30, .inl 30, .inl 30, .inl 30, .inl 120, .inl 4, .inl 20, .inl 20, .inl 20, .inr (0, [some 44, some 45, some 46, none]), .inl 300, .inl 300, .inl 300, .inr (8, [some 48, some 49, some 54, none, none, none, none, none, none, none, none, none, none, none, none]), .inl 400, .inr (3, [some 50, some 51, some 52, some 53, none, none]), .inl 400, .inl 17, .inl 16, .inl 64, .inl 64, .inr (9, [some 56, some 57, some 58, some 59, some 60, some 61, some 62, some 63, some 64, none, none]), .inl 30, .inl 30, .inl 30, .inl 30, .inl 120, .inl 4, .inl 20, .inl 20, .inl 20, .inr (1, [some 1, some 43, some 66, some 72, some 73, none, some 55, none, none, none, none, none, none, none, none, none]), .inr (7, [some 67, some 68, some 69, some 70, some 71]), .inl 168, .inl 168, .inl 168, .inl 168, .inl 168, .inl 30, .inl 7, .inr (10, [some 75, some 81, some 91, some 97, some 101, none, none, none]), .inr (5, [some 76, some 77, some 78, some 79, some 80, none]), .inl 30, .inl 30, .inl 30, .inl 30, .inl 30, .inr (2, [some 82, some 83, some 84, some 85, some 86, some 87, some 88, some 89, some 90, none]), .inl 20, .inl 20, .inl 20, .inl 20, .inl 20, .inl 20, .inl 20, .inl 20, .inl 20, .inr (6, [some 92, some 93, some 94, some 95, some 96, none]), .inl 8, .inl 8, .inl 8, .inl 8, .inl 8, .inr (4, [some 98, some 99, some 100, none]), .inl 20, .inl 20, .inl 20, .inr (3, [some 102, some 103, some 104, some 105, none, none]), .inl 400, .inl 17, .inl 16, .inl 64, .inr (9, [some 107, some 108, some 109, some 110, some 111, some 112, some 113, some 114, some 115, none, none]), .inl 30, .inl 30, .inl 30, .inl 30, .inl 120, .inl 4, .inl 20, .inl 20, .inl 20]
def cf_X9_init_106 (I : mx_I) : mx_I := (mx_clr (mx_zero (mx_zero (mx_zero (mx_zero (mx_zero (mx_zero (mx_zero (mx_zero (mx_zero I 107) 108) 109) 110) 111) 112) 113) 114) 115) 106)
set_option maxRecDepth 10000 in
set_option maxHeartbeats 2000000 in
theorem ct_X9_init_106 {l : Launch} {d : Nat} {I : mx_I} : mx_Spec l mX9_init (d + 3) 9 304 [.ref 106] (ks_40, I) (fun r h' => r = none ∧ h' = (ks_41, cf_X9_init_106 I)) := by
  refine mx_enter rfl (by simp [Value.category]) (Nat.le_of_ble_eq_true rfl) ?_
  change mx_Go l (mx_rm (d + 3) 9 304) mX9_init _ 0 0 0 [.ref 106] [] (ks_40, I)
  refine g_aload_n dX9_init_0 rfl rfl ?_
  refine g_objInit dX9_init_1 lm_X9_3 lo_1 lo_2 (by simp [Value.category]) (by simp only [mx_rm]; omega) (by simp only [mx_rm]; omega) ?_
  refine g_aload_n dX9_init_4 rfl rfl ?_
  refine g_bipush (v := 30) dX9_init_5 (by decide) ?_
  refine g_newa (N := 30) (n0 := 107) dX9_init_7 (by decide) (by decide) (by decide) rfl (by decide) (Nat.le_of_ble_eq_true rfl) (Nat.le_of_ble_eq_true rfl) ?_
  refine rp_X9_0 rfl rfl dX9_init_9 lf_X9_9 rfl (Nat.le_of_ble_eq_true rfl) ?_
  refine g_aload_n dX9_init_12 rfl rfl ?_
  refine g_bipush (v := 30) dX9_init_13 (by decide) ?_
  refine g_newa (N := 30) (n0 := 108) dX9_init_15 (by decide) (by decide) (by decide) rfl (by decide) (Nat.le_of_ble_eq_true rfl) (Nat.le_of_ble_eq_true rfl) ?_
  refine rp_X9_1 rfl rfl dX9_init_17 lf_X9_15 rfl (Nat.le_of_ble_eq_true rfl) ?_
  refine g_aload_n dX9_init_20 rfl rfl ?_
  refine g_bipush (v := 30) dX9_init_21 (by decide) ?_
  refine g_newa (N := 30) (n0 := 109) dX9_init_23 (by decide) (by decide) (by decide) rfl (by decide) (Nat.le_of_ble_eq_true rfl) (Nat.le_of_ble_eq_true rfl) ?_
  refine rp_X9_2 rfl rfl dX9_init_25 lf_X9_18 rfl (Nat.le_of_ble_eq_true rfl) ?_
  refine g_aload_n dX9_init_28 rfl rfl ?_
  refine g_bipush (v := 30) dX9_init_29 (by decide) ?_
  refine g_newa (N := 30) (n0 := 110) dX9_init_31 (by decide) (by decide) (by decide) rfl (by decide) (Nat.le_of_ble_eq_true rfl) (Nat.le_of_ble_eq_true rfl) ?_
  refine rp_X9_3 rfl rfl dX9_init_33 lf_X9_21 rfl (Nat.le_of_ble_eq_true rfl) ?_
  refine g_aload_n dX9_init_36 rfl rfl ?_
  refine g_bipush (v := 120) dX9_init_37 (by decide) ?_
  refine g_newa (N := 120) (n0 := 111) dX9_init_39 (by decide) (by decide) (by decide) rfl (by decide) (Nat.le_of_ble_eq_true rfl) (Nat.le_of_ble_eq_true rfl) ?_
  refine rp_X9_4 rfl rfl dX9_init_41 lf_X9_24 rfl (Nat.le_of_ble_eq_true rfl) ?_
  refine g_aload_n dX9_init_44 rfl rfl ?_
  refine g_iconst (v := 4) dX9_init_45 (by decide) ?_
  refine g_newa (N := 4) (n0 := 112) dX9_init_46 (by decide) (by decide) (by decide) rfl (by decide) (Nat.le_of_ble_eq_true rfl) (Nat.le_of_ble_eq_true rfl) ?_
  refine rp_X9_5 rfl rfl dX9_init_48 lf_X9_27 rfl (Nat.le_of_ble_eq_true rfl) ?_
  refine g_aload_n dX9_init_51 rfl rfl ?_
  refine g_bipush (v := 20) dX9_init_52 (by decide) ?_
  refine g_newa (N := 20) (n0 := 113) dX9_init_54 (by decide) (by decide) (by decide) rfl (by decide) (Nat.le_of_ble_eq_true rfl) (Nat.le_of_ble_eq_true rfl) ?_
  refine rp_X9_6 rfl rfl dX9_init_56 lf_X9_30 rfl (Nat.le_of_ble_eq_true rfl) ?_
  refine g_aload_n dX9_init_59 rfl rfl ?_
  refine g_bipush (v := 20) dX9_init_60 (by decide) ?_
  refine g_newa (N := 20) (n0 := 114) dX9_init_62 (by decide) (by decide) (by decide) rfl (by decide) (Nat.le_of_ble_eq_true rfl) (Nat.le_of_ble_eq_true rfl) ?_
  refine rp_X9_7 rfl rfl dX9_init_64 lf_X9_33 rfl (Nat.le_of_ble_eq_true rfl) ?_
  refine g_aload_n dX9_init_67 rfl rfl ?_
  refine g_bipush (v := 20) dX9_init_68 (by decide) ?_
  refine g_newa (N := 20) (n0 := 115) dX9_init_70 (by decide) (by decide) (by decide) rfl (by decide) (Nat.le_of_ble_eq_true rfl) (Nat.le_of_ble_eq_true rfl) ?_
  refine rp_X9_8 rfl rfl dX9_init_72 lf_X9_36 rfl (Nat.le_of_ble_eq_true rfl) ?_
  refine g_aload_n dX9_init_75 rfl rfl ?_
  change mx_Go l (mx_rm (d + 3) 9 304) mX9_init _ 9 304 76 [.ref 106] [.ref 106] (ks_41, (mx_zero (mx_zero (mx_zero (mx_zero (mx_zero (mx_zero (mx_zero (mx_zero (mx_zero I 107) 108) 109) 110) 111) 112) 113) 114) 115))
  refine g_callV (M' := mX9_clear) (As := []) (st := []) (sp_clear (d := d + 0) (k := 106) ⟨rfl, rfl, rfl, rfl, rfl, rfl, rfl, rfl, rfl, rfl⟩) dX9_init_76 lm_X9_39 ovX9_clear (ci := 9) rfl rfl rfl (by simp [Value.category]) (Nat.le_refl _) (mx_lo (by decide)) (Nat.le_of_ble_eq_true rfl) (Nat.le_of_ble_eq_true rfl) ?_
  rintro _ _ ⟨rfl, rfl⟩
  change mx_Go l (mx_rm (d + 3) 9 304) mX9_init _ 9 304 79 [.ref 106] [] (ks_41, (mx_clr (mx_zero (mx_zero (mx_zero (mx_zero (mx_zero (mx_zero (mx_zero (mx_zero (mx_zero I 107) 108) 109) 110) 111) 112) 113) 114) 115) 106))
  exact g_vret rfl dX9_init_79 rfl (Nat.le_of_ble_eq_true rfl) ⟨rfl, rfl⟩
def ks_42 : mx_Sk := [.inr (11, [some 1, some 33, some 43, some 47, some 65, some 55, some 74, some 106, none, none]), .inr (10, [some 2, some 8, some 18, some 24, some 28, none, none, none]), .inr (5, [some 3, some 4, some 5, some 6, some 7, none]), .inl 30, .inl 30, .inl 30, .inl 30, .inl 30, .inr (2, [some 9, some 10, some 11, some 12, some 13, some 14, some 15, some 16, some 17, none]), .inl 20, .inl 20, .inl 20, .inl 20, .inl 20, .inl 20, .inl 20, .inl 20, .inl 20, .inr (6, [some 19, some 20, some 21, some 22, some 23, none]), .inl 8, .inl 8, .inl 8, .inl 8, .inl 8, .inr (4, [some 25, some 26, some 27, none]), .inl 20, .inl 20, .inl 20, .inr (3, [some 29, some 30, some 31, some 32, none, none]), .inl 400, .inl 17, .inl 16, .inl 64, .inr (9, [some 34, some 35, some 36, some 37, some 38, some 39, some 40, some 41, some 42, none, none]), .inl 30, .inl 30, .inl 30, .inl 30, .inl 120, .inl 4, .inl 20, .inl 20, .inl 20, .inr (0, [some 44, some 45, some 46, none]), .inl 300, .inl 300, .inl 300, .inr (8, [some 48, some 49, some 54, none, none, none, none, none, none, none, none, none, none, none, none]), .inl 400, .inr (3, [some 50, some 51, some 52, some 53, none, none]), .inl 400, .inl 17, .inl 16, .inl 64, .inl 64, .inr (9, [some 56, some 57, some 58, some 59, some 60, some 61, some 62, some 63, some 64, none, none]), .inl 30, .inl 30, .inl 30, .inl 30, .inl 120, .inl 4, .inl 20, .inl 20, .inl 20, .inr (1, [some 1, some 43, some 66, some 72, some 73, none, some 55, none, none, none, none, none, none, none, none, none]), .inr (7, [some 67, some 68, some 69, some 70, some 71]), .inl 168, .inl 168, .inl 168, .inl 168, .inl 168, .inl 30, .inl 7, .inr (10, [some 75, some 81, some 91, some 97, some 101, none, none, none]), .inr (5, [some 76, some 77, some 78, some 79, some 80, none]), .inl 30, .inl 30, .inl 30, .inl 30, .inl 30, .inr (2, [some 82, some 83, some 84, some 85, some 86, some 87, some 88, some 89, some 90, none]), .inl 20, .inl 20, .inl 20, .inl 20, .inl 20, .inl 20, .inl 20, .inl 20, .inl 20, .inr (6, [some 92, some 93, some 94, some 95, some 96, none]), .inl 8, .inl 8, .inl 8, .inl 8, .inl 8, .inr (4, [some 98, some 99, some 100, none]), .inl 20, .inl 20, .inl 20, .inr (3, [some 102, some 103, some 104, some 105, none, none]), .inl 400, .inl 17, .inl 16, .inl 64, .inr (9, [some 107, some 108, some 109, some 110, some 111, some 112, some 113, some 114, some 115, none, none]), .inl 30, .inl 30, .inl 30, .inl 30, .inl 120, .inl 4, .inl 20, .inl 20, .inl 20, .inr (0, [none, none, none, none])]
def ks_43 : mx_Sk := [.inr (11, [some 1, some 33, some 43, some 47, some 65, some 55, some 74, some 106, none, none]), .inr (10, [some 2, some 8, some 18, some 24, some 28, none, none, none]), .inr (5, [some 3, some 4, some 5, some 6, some 7, none]), .inl 30, .inl 30, .inl 30, .inl 30, .inl 30, .inr (2, [some 9, some 10, some 11, some 12, some 13, some 14, some 15, some 16, some 17, none]), .inl 20, .inl 20, .inl 20, .inl 20, .inl 20, .inl 20, .inl 20, .inl 20, .inl 20, .inr (6, [some 19, some 20, some 21, some 22, some 23, none]), .inl 8, .inl 8, .inl 8, .inl 8, .inl 8, .inr (4, [some 25, some 26, some 27, none]), .inl 20, .inl 20, .inl 20, .inr (3, [some 29, some 30, some 31, some 32, none, none]), .inl 400, .inl 17, .inl 16, .inl 64, .inr (9, [some 34, some 35, some 36, some 37, some 38, some 39, some 40, some 41, some 42, none, none]), .inl 30, .inl 30, .inl 30, .inl 30, .inl 120, .inl 4, .inl 20, .inl 20, .inl 20, .inr (0, [some 44, some 45, some 46, none]), .inl 300, .inl 300, .inl 300, .inr (8, [some 48, some 49, some 54, none, none, none, none, none, none, none, none, none, none, none, none]), .inl 400, .inr (3, [some 50, some 51, some 52, some 53, none, none]), .inl 400, .inl 17, .inl 16, .inl 64, .inl 64, .inr (9, [some 56, some 57, some 58, some 59, some 60, some 61, some 62, some 63, some 64, none, none]), .inl 30, .inl 30, .inl 30, .inl 30, .inl 120, .inl 4, .inl 20, .inl 20, .inl 20, .inr (1, [some 1, some 43, some 66, some 72, some 73, none, some 55, none, none, none, none, none, none, none, none, none]), .inr (7, [some 67, some 68, some 69, some 70, some 71]), .inl 168, .inl 168, .inl 168, .inl 168, .inl 168, .inl 30, .inl 7, .inr (10, [some 75, some 81, some 91, some 97, some 101, none, none, none]), .inr (5, [some 76, some 77, some 78, some 79, some 80, none]), .inl 30, .inl 30, .inl 30, .inl 30, .inl 30, .inr (2, [some 82, some 83, some 84, some 85, some 86, some 87, some 88, some 89, some 90, none]), .inl 20, .inl 20, .inl 20, .inl 20, .inl 20, .inl 20, .inl 20, .inl 20, .inl 20, .inr (6, [some 92, some 93, some 94, some 95, some 96, none]), .inl 8, .inl 8, .inl 8, .inl 8, .inl 8, .inr (4, [some 98, some 99, some 100, none]), .inl 20, .inl 20, .inl 20, .inr (3, [some 102, some 103, some 104, some 105, none, none]), .inl 400, .inl 17, .inl 16, .inl 64, .inr (9, [some 107, some 108, some 109, some 110, some 111, some 112, some 113, some 114, some 115, none, none]), .inl 30, .inl 30, .inl 30, .inl 30, .inl 120, .inl 4, .inl 20, .inl 20, .inl 20, .inr (0, [some 117, some 118, some 119, none]), .inl 300, .inl 300, .inl 300]
def cf_X0_init_116 (I : mx_I) : mx_I := (mx_zero (mx_zero (mx_zero I 117) 118) 119)
set_option maxRecDepth 10000 in
set_option maxHeartbeats 2000000 in
theorem ct_X0_init_116 {l : Launch} {d : Nat} {I : mx_I} : mx_Spec l mX0_init (d + 1) 3 900 [.ref 116] (ks_42, I) (fun r h' => r = none ∧ h' = (ks_43, cf_X0_init_116 I)) := by
  refine mx_enter rfl (by simp [Value.category]) (Nat.le_of_ble_eq_true rfl) ?_
  change mx_Go l (mx_rm (d + 1) 3 900) mX0_init _ 0 0 0 [.ref 116] [] (ks_42, I)
  refine g_aload_n dX0_init_0 rfl rfl ?_
  refine g_objInit dX0_init_1 lm_X0_3 lo_1 lo_2 (by simp [Value.category]) (by simp only [mx_rm]; omega) (by simp only [mx_rm]; omega) ?_
  refine g_aload_n dX0_init_4 rfl rfl ?_
  refine g_sipush (v := 300) dX0_init_5 (by decide) ?_
  refine g_newa (N := 300) (n0 := 117) dX0_init_8 (by decide) (by decide) (by decide) rfl (by decide) (Nat.le_of_ble_eq_true rfl) (Nat.le_of_ble_eq_true rfl) ?_
  refine rp_X0_0 rfl rfl dX0_init_10 lf_X0_9 rfl (Nat.le_of_ble_eq_true rfl) ?_
  refine g_aload_n dX0_init_13 rfl rfl ?_
  refine g_sipush (v := 300) dX0_init_14 (by decide) ?_
  refine g_newa (N := 300) (n0 := 118) dX0_init_17 (by decide) (by decide) (by decide) rfl (by decide) (Nat.le_of_ble_eq_true rfl) (Nat.le_of_ble_eq_true rfl) ?_
  refine rp_X0_1 rfl rfl dX0_init_19 lf_X0_15 rfl (Nat.le_of_ble_eq_true rfl) ?_
  refine g_aload_n dX0_init_22 rfl rfl ?_
  refine g_sipush (v := 300) dX0_init_23 (by decide) ?_
  refine g_newa (N := 300) (n0 := 119) dX0_init_26 (by decide) (by decide) (by decide) rfl (by decide) (Nat.le_of_ble_eq_true rfl) (Nat.le_of_ble_eq_true rfl) ?_
  refine rp_X0_2 rfl rfl dX0_init_28 lf_X0_18 rfl (Nat.le_of_ble_eq_true rfl) ?_
  exact g_vret rfl dX0_init_31 rfl (Nat.le_of_ble_eq_true rfl) ⟨rfl, rfl⟩
def ks_44 : mx_Sk := [.inr (11, [some 1, some 33, some 43, some 47, some 65, some 55, some 74, some 106, some 116, none]), .inr (10, [some 2, some 8, some 18, some 24, some 28, none, none, none]), .inr (5, [some 3, some 4, some 5, some 6, some 7, none]), .inl 30, .inl 30, .inl 30, .inl 30, .inl 30, .inr (2, [some 9, some 10, some 11, some 12, some 13, some 14, some 15, some 16, some 17, none]), .inl 20, .inl 20, .inl 20, .inl 20, .inl 20, .inl 20, .inl 20, .inl 20, .inl 20, .inr (6, [some 19, some 20, some 21, some 22, some 23, none]), .inl 8, .inl 8, .inl 8, .inl 8, .inl 8, .inr (4, [some 25, some 26, some 27, none]), .inl 20, .inl 20, .inl 20, .inr (3, [some 29, some 30, some 31, some 32, none, none]), .inl 400, .inl 17, .inl 16, .inl 64, .inr (9, [some 34, some 35, some 36, some 37, some 38, some 39, some 40, some 41, some 42, none, none]), .inl 30, .inl 30, .inl 30, .inl 30, .inl 120, .inl 4, .inl 20, .inl 20, .inl 20, .inr (0, [some 44, some 45, some 46, none]), .inl 300, .inl 300, .inl 300, .inr (8, [some 48, some 49, some 54, none, none, none, none, none, none, none, none, none, none, none, none]), .inl 400, .inr (3, [some 50, some 51, some 52, some 53, none, none]), .inl 400, .inl 17, .inl 16, .inl 64, .inl 64, .inr (9, [some 56, some 57, some 58, some 59, some 60, some 61, some 62, some 63, some 64, none, none]), .inl 30, .inl 30, .inl 30, .inl 30, .inl 120, .inl 4, .inl 20, .inl 20, .inl 20, .inr (1, [some 1, some 43, some 66, some 72, some 73, none, some 55, none, none, none, none, none, none, none, none, none]), .inr (7, [some 67, some 68, some 69, some 70, some 71]), .inl 168, .inl 168, .inl 168, .inl 168, .inl 168, .inl 30, .inl 7, .inr (10, [some 75, some 81, some 91, some 97, some 101, none, none, none]), .inr (5, [some 76, some 77, some 78, some 79, some 80, none]), .inl 30, .inl 30, .inl 30, .inl 30, .inl 30, .inr (2, [some 82, some 83, some 84, some 85, some 86, some 87, some 88, some 89, some 90, none]), .inl 20, .inl 20, .inl 20, .inl 20, .inl 20, .inl 20, .inl 20, .inl 20, .inl 20, .inr (6, [some 92, some 93, some 94, some 95, some 96, none]), .inl 8, .inl 8, .inl 8, .inl 8, .inl 8, .inr (4, [some 98, some 99, some 100, none]), .inl 20, .inl 20, .inl 20, .inr (3, [some 102, some 103, some 104, some 105, none, none]), .inl 400, .inl 17, .inl 16, .inl 64, .inr (9, [some 107, some 108, some 109, some 110, some 111, some 112, some 113, some 114, some 115, none, none]), .inl 30, .inl 30, .inl 30, .inl 30, .inl 120, .inl 4, .inl 20, .inl 20, .inl 20, .inr (0, [some 117, some 118, some 119, none]), .inl 300, .inl 300, .inl 300]
def cf_X11_init_0 (I : mx_I) : mx_I := (mx_set (cf_X0_init_116 (mx_zero (cf_X9_init_106 (mx_zero (cf_X10_init_74 (mx_zero (cf_X1_init_65 (mx_zero (cf_X9_init_55 (mx_zero (cf_X8_init_47 (mx_zero (cf_X0_init_43 (mx_zero (cf_X9_init_33 (mx_zero (cf_X10_init_1 (mx_zero I 1)) 33)) 43)) 47)) 55)) 65)) 74)) 106)) 116)) 0 9 0)
set_option maxRecDepth 10000 in
set_option maxHeartbeats 2000000 in
theorem ct_X11_init_0 {l : Launch} {d : Nat} {I : mx_I} : mx_Spec l mX11_init (d + 4) 119 6567 [.ref 0] (ks_1, I) (fun r h' => r = none ∧ h' = (ks_44, cf_X11_init_0 I)) := by
  refine mx_enter rfl (by simp [Value.category]) (Nat.le_of_ble_eq_true rfl) ?_
  change mx_Go l (mx_rm (d + 4) 119 6567) mX11_init _ 0 0 0 [.ref 0] [] (ks_1, I)
  refine g_aload_n dX11_init_0 rfl rfl ?_
  refine g_objInit dX11_init_1 lm_X11_3 lo_1 lo_2 (by simp [Value.category]) (by simp only [mx_rm]; omega) (by simp only [mx_rm]; omega) ?_
  refine g_aload_n dX11_init_4 rfl rfl ?_
  refine g_new (ci := 10) (n0 := 1) (C0 := RX10) (T0 := TX10) (N := 8) (ty0 := tyX10) rfl inX10 tyX10_ok rfl (by decide) dX11_init_5 lcl_X11_9 lin_X10 lii_X10 rfl (by decide) (Nat.le_of_ble_eq_true rfl) (Nat.le_of_ble_eq_true rfl) ?_
  refine g_dup dX11_init_8 rfl ?_
  change mx_Go l (mx_rm (d + 4) 119 6567) mX11_init _ 1 8 9 [.ref 0] [.ref 1, .ref 1, .ref 0] (ks_2, (mx_zero I 1))
  refine g_callIN (M' := mX10_init) (As := []) (st := [.ref 1, .ref 0]) (ct_X10_init_1 (d := d + 1)) dX11_init_9 (by decide) okX10_init oiX10_init rfl rfl (by decide) (by simp [Value.category]) (Nat.le_refl _) (mx_lo (by decide)) (Nat.le_of_ble_eq_true rfl) (Nat.le_of_ble_eq_true rfl) rfl ?_
  rintro _ _ ⟨rfl, rfl⟩
  change mx_Go l (mx_rm (d + 4) 119 6567) mX11_init _ 32 967 12 [.ref 0] [.ref 1, .ref 0] (ks_13, (cf_X10_init_1 (mx_zero I 1)))
  refine rp_X11_0 rfl rfl dX11_init_12 lf_X11_12 rfl (Nat.le_of_ble_eq_true rfl) ?_
  refine g_aload_n dX11_init_15 rfl rfl ?_
  refine g_new (ci := 9) (n0 := 33) (C0 := RX9) (T0 := TX9) (N := 11) (ty0 := tyX9) rfl inX9 tyX9_ok rfl (by decide) dX11_init_16 lcl_X11_16 lin_X9 lii_X9 rfl (by decide) (Nat.le_of_ble_eq_true rfl) (Nat.le_of_ble_eq_true rfl) ?_
  refine g_dup dX11_init_19 rfl ?_
  change mx_Go l (mx_rm (d + 4) 119 6567) mX11_init _ 33 978 20 [.ref 0] [.ref 33, .ref 33, .ref 0] (ks_14, (mx_zero (cf_X10_init_1 (mx_zero I 1)) 33))
  refine g_callI (M' := mX9_init) (As := []) (st := [.ref 33, .ref 0]) (ct_X9_init_33 (d := d + 0)) dX11_init_20 lm_X11_18 okX9_init oiX9_init rfl rfl (by decide) (by simp [Value.category]) (Nat.le_refl _) (mx_lo (by decide)) (Nat.le_of_ble_eq_true rfl) (Nat.le_of_ble_eq_true rfl) rfl ?_
  rintro _ _ ⟨rfl, rfl⟩
  change mx_Go l (mx_rm (d + 4) 119 6567) mX11_init _ 42 1282 23 [.ref 0] [.ref 33, .ref 0] (ks_15, (cf_X9_init_33 (mx_zero (cf_X10_init_1 (mx_zero I 1)) 33)))
  refine rp_X11_1 rfl rfl dX11_init_23 lf_X11_19 rfl (Nat.le_of_ble_eq_true rfl) ?_
  refine g_aload_n dX11_init_26 rfl rfl ?_
  refine g_new (ci := 0) (n0 := 43) (C0 := RX0) (T0 := TX0) (N := 4) (ty0 := tyX0) rfl inX0 tyX0_ok rfl (by decide) dX11_init_27 lcl_X11_23 lin_X0 lii_X0 rfl (by decide) (Nat.le_of_ble_eq_true rfl) (Nat.le_of_ble_eq_true rfl) ?_
  refine g_dup dX11_init_30 rfl ?_
  change mx_Go l (mx_rm (d + 4) 119 6567) mX11_init _ 43 1286 31 [.ref 0] [.ref 43, .ref 43, .ref 0] (ks_16, (mx_zero (cf_X9_init_33 (mx_zero (cf_X10_init_1 (mx_zero I 1)) 33)) 43))
  refine g_callIN (M' := mX0_init) (As := []) (st := [.ref 43, .ref 0]) (ct_X0_init_43 (d := d + 2)) dX11_init_31 (by decide) okX0_init oiX0_init rfl rfl (by decide) (by simp [Value.category]) (Nat.le_refl _) (mx_lo (by decide)) (Nat.le_of_ble_eq_true rfl) (Nat.le_of_ble_eq_true rfl) rfl ?_
  rintro _ _ ⟨rfl, rfl⟩
  change mx_Go l (mx_rm (d + 4) 119 6567) mX11_init _ 46 2186 34 [.ref 0] [.ref 43, .ref 0] (ks_17, (cf_X0_init_43 (mx_zero (cf_X9_init_33 (mx_zero (cf_X10_init_1 (mx_zero I 1)) 33)) 43)))
  refine rp_X11_2 rfl rfl dX11_init_34 lf_X11_26 rfl (Nat.le_of_ble_eq_true rfl) ?_
  refine g_aload_n dX11_init_37 rfl rfl ?_
  refine g_new (ci := 8) (n0 := 47) (C0 := RX8) (T0 := TX8) (N := 15) (ty0 := tyX8) rfl inX8 tyX8_ok rfl (by decide) dX11_init_38 lcl_X11_30 lin_X8 lii_X8 rfl (by decide) (Nat.le_of_ble_eq_true rfl) (Nat.le_of_ble_eq_true rfl) ?_
  refine g_dup dX11_init_41 rfl ?_
  change mx_Go l (mx_rm (d + 4) 119 6567) mX11_init _ 47 2201 42 [.ref 0] [.ref 47, .ref 47, .ref 0] (ks_18, (mx_zero (cf_X0_init_43 (mx_zero (cf_X9_init_33 (mx_zero (cf_X10_init_1 (mx_zero I 1)) 33)) 43)) 47))
  refine g_callIN (M' := mX8_init) (As := []) (st := [.ref 47, .ref 0]) (ct_X8_init_47 (d := d + 1)) dX11_init_42 (by decide) okX8_init oiX8_init rfl rfl (by decide) (by simp [Value.category]) (Nat.le_refl _) (mx_lo (by decide)) (Nat.le_of_ble_eq_true rfl) (Nat.le_of_ble_eq_true rfl) rfl ?_
  rintro _ _ ⟨rfl, rfl⟩
  change mx_Go l (mx_rm (d + 4) 119 6567) mX11_init _ 54 3168 45 [.ref 0] [.ref 47, .ref 0] (ks_21, (cf_X8_init_47 (mx_zero (cf_X0_init_43 (mx_zero (cf_X9_init_33 (mx_zero (cf_X10_init_1 (mx_zero I 1)) 33)) 43)) 47)))
  refine rp_X11_3 rfl rfl dX11_init_45 lf_X11_33 rfl (Nat.le_of_ble_eq_true rfl) ?_
  refine g_aload_n dX11_init_48 rfl rfl ?_
  refine g_new (ci := 9) (n0 := 55) (C0 := RX9) (T0 := TX9) (N := 11) (ty0 := tyX9) rfl inX9 tyX9_ok rfl (by decide) dX11_init_49 lcl_X11_16 lin_X9 lii_X9 rfl (by decide) (Nat.le_of_ble_eq_true rfl) (Nat.le_of_ble_eq_true rfl) ?_
  refine g_dup dX11_init_52 rfl ?_
  change mx_Go l (mx_rm (d + 4) 119 6567) mX11_init _ 55 3179 53 [.ref 0] [.ref 55, .ref 55, .ref 0] (ks_22, (mx_zero (cf_X8_init_47 (mx_zero (cf_X0_init_43 (mx_zero (cf_X9_init_33 (mx_zero (cf_X10_init_1 (mx_zero I 1)) 33)) 43)) 47)) 55))
  refine g_callI (M' := mX9_init) (As := []) (st := [.ref 55, .ref 0]) (ct_X9_init_55 (d := d + 0)) dX11_init_53 lm_X11_18 okX9_init oiX9_init rfl rfl (by decide) (by simp [Value.category]) (Nat.le_refl _) (mx_lo (by decide)) (Nat.le_of_ble_eq_true rfl) (Nat.le_of_ble_eq_true rfl) rfl ?_
  rintro _ _ ⟨rfl, rfl⟩
  change mx_Go l (mx_rm (d + 4) 119 6567) mX11_init _ 64 3483 56 [.ref 0] [.ref 55, .ref 0] (ks_23, (cf_X9_init_55 (mx_zero (cf_X8_init_47 (mx_zero (cf_X0_init_43 (mx_zero (cf_X9_init_33 (mx_zero (cf_X10_init_1 (mx_zero I 1)) 33)) 43)) 47)) 55)))
  refine rp_X11_5 rfl rfl dX11_init_56 lf_X11_37 rfl (Nat.le_of_ble_eq_true rfl) ?_
  refine g_aload_n dX11_init_59 rfl rfl ?_
  refine g_new (ci := 1) (n0 := 65) (C0 := RX1) (T0 := TX1) (N := 16) (ty0 := tyX1) rfl inX1 tyX1_ok rfl (by decide) dX11_init_60 lcl_X11_40 lin_X1 lii_X1 rfl (by decide) (Nat.le_of_ble_eq_true rfl) (Nat.le_of_ble_eq_true rfl) ?_
  refine g_dup dX11_init_63 rfl ?_
  refine g_aload_n dX11_init_64 rfl rfl ?_
  refine rg_X11_0 (r := 1) dX11_init_65 lf_X11_12 rfl rfl ?_
  refine g_aload_n dX11_init_68 rfl rfl ?_
  refine rg_X11_2 (r := 43) dX11_init_69 lf_X11_26 rfl rfl ?_
  refine g_aload_n dX11_init_72 rfl rfl ?_
  refine rg_X11_5 (r := 55) dX11_init_73 lf_X11_37 rfl rfl ?_
  change mx_Go l (mx_rm (d + 4) 119 6567) mX11_init _ 65 3499 76 [.ref 0] [.ref 55, .ref 43, .ref 1, .ref 65, .ref 65, .ref 0] (ks_24, (mx_zero (cf_X9_init_55 (mx_zero (cf_X8_init_47 (mx_zero (cf_X0_init_43 (mx_zero (cf_X9_init_33 (mx_zero (cf_X10_init_1 (mx_zero I 1)) 33)) 43)) 47)) 55)) 65))
  refine g_callI (M' := mX1_init) (As := [.ref 1, .ref 43, .ref 55]) (st := [.ref 65, .ref 0]) (ct_X1_init_65 (d := d + 1)) dX11_init_76 lm_X11_42 okX1_init oiX1_init rfl rfl (by decide) (by simp [Value.category]) (Nat.le_refl _) (mx_lo (by decide)) (Nat.le_of_ble_eq_true rfl) (Nat.le_of_ble_eq_true rfl) rfl ?_
  rintro _ _ ⟨rfl, rfl⟩
  change mx_Go l (mx_rm (d + 4) 119 6567) mX11_init _ 73 4381 79 [.ref 0] [.ref 65, .ref 0] (ks_27, (cf_X1_init_65 (mx_zero (cf_X9_init_55 (mx_zero (cf_X8_init_47 (mx_zero (cf_X0_init_43 (mx_zero (cf_X9_init_33 (mx_zero (cf_X10_init_1 (mx_zero I 1)) 33)) 43)) 47)) 55)) 65)))
  refine rp_X11_4 rfl rfl dX11_init_79 lf_X11_45 rfl (Nat.le_of_ble_eq_true rfl) ?_
  refine g_aload_n dX11_init_82 rfl rfl ?_
  refine g_new (ci := 10) (n0 := 74) (C0 := RX10) (T0 := TX10) (N := 8) (ty0 := tyX10) rfl inX10 tyX10_ok rfl (by decide) dX11_init_83 lcl_X11_9 lin_X10 lii_X10 rfl (by decide) (Nat.le_of_ble_eq_true rfl) (Nat.le_of_ble_eq_true rfl) ?_
  refine g_dup dX11_init_86 rfl ?_
  change mx_Go l (mx_rm (d + 4) 119 6567) mX11_init _ 74 4389 87 [.ref 0] [.ref 74, .ref 74, .ref 0] (ks_28, (mx_zero (cf_X1_init_65 (mx_zero (cf_X9_init_55 (mx_zero (cf_X8_init_47 (mx_zero (cf_X0_init_43 (mx_zero (cf_X9_init_33 (mx_zero (cf_X10_init_1 (mx_zero I 1)) 33)) 43)) 47)) 55)) 65)) 74))
  refine g_callIN (M' := mX10_init) (As := []) (st := [.ref 74, .ref 0]) (ct_X10_init_74 (d := d + 1)) dX11_init_87 (by decide) okX10_init oiX10_init rfl rfl (by decide) (by simp [Value.category]) (Nat.le_refl _) (mx_lo (by decide)) (Nat.le_of_ble_eq_true rfl) (Nat.le_of_ble_eq_true rfl) rfl ?_
  rintro _ _ ⟨rfl, rfl⟩
  change mx_Go l (mx_rm (d + 4) 119 6567) mX11_init _ 105 5348 90 [.ref 0] [.ref 74, .ref 0] (ks_39, (cf_X10_init_74 (mx_zero (cf_X1_init_65 (mx_zero (cf_X9_init_55 (mx_zero (cf_X8_init_47 (mx_zero (cf_X0_init_43 (mx_zero (cf_X9_init_33 (mx_zero (cf_X10_init_1 (mx_zero I 1)) 33)) 43)) 47)) 55)) 65)) 74)))
  refine rp_X11_6 rfl rfl dX11_init_90 lf_X11_49 rfl (Nat.le_of_ble_eq_true rfl) ?_
  refine g_aload_n dX11_init_93 rfl rfl ?_
  refine g_new (ci := 9) (n0 := 106) (C0 := RX9) (T0 := TX9) (N := 11) (ty0 := tyX9) rfl inX9 tyX9_ok rfl (by decide) dX11_init_94 lcl_X11_16 lin_X9 lii_X9 rfl (by decide) (Nat.le_of_ble_eq_true rfl) (Nat.le_of_ble_eq_true rfl) ?_
  refine g_dup dX11_init_97 rfl ?_
  change mx_Go l (mx_rm (d + 4) 119 6567) mX11_init _ 106 5359 98 [.ref 0] [.ref 106, .ref 106, .ref 0] (ks_40, (mx_zero (cf_X10_init_74 (mx_zero (cf_X1_init_65 (mx_zero (cf_X9_init_55 (mx_zero (cf_X8_init_47 (mx_zero (cf_X0_init_43 (mx_zero (cf_X9_init_33 (mx_zero (cf_X10_init_1 (mx_zero I 1)) 33)) 43)) 47)) 55)) 65)) 74)) 106))
  refine g_callI (M' := mX9_init) (As := []) (st := [.ref 106, .ref 0]) (ct_X9_init_106 (d := d + 0)) dX11_init_98 lm_X11_18 okX9_init oiX9_init rfl rfl (by decide) (by simp [Value.category]) (Nat.le_refl _) (mx_lo (by decide)) (Nat.le_of_ble_eq_true rfl) (Nat.le_of_ble_eq_true rfl) rfl ?_
  rintro _ _ ⟨rfl, rfl⟩
  change mx_Go l (mx_rm (d + 4) 119 6567) mX11_init _ 115 5663 101 [.ref 0] [.ref 106, .ref 0] (ks_41, (cf_X9_init_106 (mx_zero (cf_X10_init_74 (mx_zero (cf_X1_init_65 (mx_zero (cf_X9_init_55 (mx_zero (cf_X8_init_47 (mx_zero (cf_X0_init_43 (mx_zero (cf_X9_init_33 (mx_zero (cf_X10_init_1 (mx_zero I 1)) 33)) 43)) 47)) 55)) 65)) 74)) 106)))
  refine rp_X11_7 rfl rfl dX11_init_101 lf_X11_52 rfl (Nat.le_of_ble_eq_true rfl) ?_
  refine g_aload_n dX11_init_104 rfl rfl ?_
  refine g_new (ci := 0) (n0 := 116) (C0 := RX0) (T0 := TX0) (N := 4) (ty0 := tyX0) rfl inX0 tyX0_ok rfl (by decide) dX11_init_105 lcl_X11_23 lin_X0 lii_X0 rfl (by decide) (Nat.le_of_ble_eq_true rfl) (Nat.le_of_ble_eq_true rfl) ?_
  refine g_dup dX11_init_108 rfl ?_
  change mx_Go l (mx_rm (d + 4) 119 6567) mX11_init _ 116 5667 109 [.ref 0] [.ref 116, .ref 116, .ref 0] (ks_42, (mx_zero (cf_X9_init_106 (mx_zero (cf_X10_init_74 (mx_zero (cf_X1_init_65 (mx_zero (cf_X9_init_55 (mx_zero (cf_X8_init_47 (mx_zero (cf_X0_init_43 (mx_zero (cf_X9_init_33 (mx_zero (cf_X10_init_1 (mx_zero I 1)) 33)) 43)) 47)) 55)) 65)) 74)) 106)) 116))
  refine g_callIN (M' := mX0_init) (As := []) (st := [.ref 116, .ref 0]) (ct_X0_init_116 (d := d + 2)) dX11_init_109 (by decide) okX0_init oiX0_init rfl rfl (by decide) (by simp [Value.category]) (Nat.le_refl _) (mx_lo (by decide)) (Nat.le_of_ble_eq_true rfl) (Nat.le_of_ble_eq_true rfl) rfl ?_
  rintro _ _ ⟨rfl, rfl⟩
  change mx_Go l (mx_rm (d + 4) 119 6567) mX11_init _ 119 6567 112 [.ref 0] [.ref 116, .ref 0] (ks_43, (cf_X0_init_116 (mx_zero (cf_X9_init_106 (mx_zero (cf_X10_init_74 (mx_zero (cf_X1_init_65 (mx_zero (cf_X9_init_55 (mx_zero (cf_X8_init_47 (mx_zero (cf_X0_init_43 (mx_zero (cf_X9_init_33 (mx_zero (cf_X10_init_1 (mx_zero I 1)) 33)) 43)) 47)) 55)) 65)) 74)) 106)) 116)))
  refine rp_X11_8 rfl rfl dX11_init_112 lf_X11_55 rfl (Nat.le_of_ble_eq_true rfl) ?_
  refine g_aload_n dX11_init_115 rfl rfl ?_
  refine g_iconst (v := 0) dX11_init_116 (by decide) ?_
  refine rp_X11_9 (by decide) dX11_init_117 lf_X11_58 rfl ?_
  exact g_vret rfl dX11_init_120 rfl (Nat.le_of_ble_eq_true rfl) ⟨rfl, rfl⟩
def ks_45 : mx_Sk := [.inr (11, [some 1, some 33, some 43, some 47, some 65, some 55, some 74, some 106, some 116, none]), .inr (10, [some 2, some 8, some 18, some 24, some 28, none, none, none]), .inr (5, [some 3, some 4, some 5, some 6, some 7, none]), .inl 30, .inl 30, .inl 30, .inl 30, .inl 30, .inr (2, [some 9, some 10, some 11, some 12, some 13, some 14, some 15, some 16, some 17, none]), .inl 20, .inl 20, .inl 20, .inl 20, .inl 20, .inl 20, .inl 20, .inl 20, .inl 20, .inr (6, [some 19, some 20, some 21, some 22, some 23, none]), .inl 8, .inl 8, .inl 8, .inl 8, .inl 8, .inr (4, [some 25, some 26, some 27, none]), .inl 20, .inl 20, .inl 20, .inr (3, [some 29, some 30, some 31, some 32, none, none]), .inl 400, .inl 17, .inl 16, .inl 64, .inr (9, [some 34, some 35, some 36, some 37, some 38, some 39, some 40, some 41, some 42, none, none]), .inl 30, .inl 30, .inl 30, .inl 30, .inl 120, .inl 4, .inl 20, .inl 20, .inl 20, .inr (0, [some 44, some 45, some 46, none]), .inl 300, .inl 300, .inl 300, .inr (8, [some 48, some 49, some 54, none, none, none, none, none, none, none, none, none, none, none, none]), .inl 400, .inr (3, [some 50, some 51, some 52, some 53, none, none]), .inl 400, .inl 17, .inl 16, .inl 64, .inl 64, .inr (9, [some 56, some 57, some 58, some 59, some 60, some 61, some 62, some 63, some 64, none, none]), .inl 30, .inl 30, .inl 30, .inl 30, .inl 120, .inl 4, .inl 20, .inl 20, .inl 20, .inr (1, [some 1, some 43, some 66, some 72, some 73, none, some 55, none, none, none, none, none, none, none, none, none]), .inr (7, [some 67, some 68, some 69, some 70, some 71]), .inl 168, .inl 168, .inl 168, .inl 168, .inl 168, .inl 30, .inl 7, .inr (10, [some 75, some 81, some 91, some 97, some 101, none, none, none]), .inr (5, [some 76, some 77, some 78, some 79, some 80, none]), .inl 30, .inl 30, .inl 30, .inl 30, .inl 30, .inr (2, [some 82, some 83, some 84, some 85, some 86, some 87, some 88, some 89, some 90, none]), .inl 20, .inl 20, .inl 20, .inl 20, .inl 20, .inl 20, .inl 20, .inl 20, .inl 20, .inr (6, [some 92, some 93, some 94, some 95, some 96, none]), .inl 8, .inl 8, .inl 8, .inl 8, .inl 8, .inr (4, [some 98, some 99, some 100, none]), .inl 20, .inl 20, .inl 20, .inr (3, [some 102, some 103, some 104, some 105, none, none]), .inl 400, .inl 17, .inl 16, .inl 64, .inr (9, [some 107, some 108, some 109, some 110, some 111, some 112, some 113, some 114, some 115, none, none]), .inl 30, .inl 30, .inl 30, .inl 30, .inl 120, .inl 4, .inl 20, .inl 20, .inl 20, .inr (0, [some 117, some 118, some 119, none]), .inl 300, .inl 300, .inl 300, .inr (12, [none, none, none, none, none, none, none, none, none, none, none, none, none, none, none, none, none, none, none, none, none, none, none, none, none, none, none, none, none, none, none, none, none])]
def ks_46 : mx_Sk := [.inr (11, [some 1, some 33, some 43, some 47, some 65, some 55, some 74, some 106, some 116, none]), .inr (10, [some 2, some 8, some 18, some 24, some 28, none, none, none]), .inr (5, [some 3, some 4, some 5, some 6, some 7, none]), .inl 30, .inl 30, .inl 30, .inl 30, .inl 30, .inr (2, [some 9, some 10, some 11, some 12, some 13, some 14, some 15, some 16, some 17, none]), .inl 20, .inl 20, .inl 20, .inl 20, .inl 20, .inl 20, .inl 20, .inl 20, .inl 20, .inr (6, [some 19, some 20, some 21, some 22, some 23, none]), .inl 8, .inl 8, .inl 8, .inl 8, .inl 8, .inr (4, [some 25, some 26, some 27, none]), .inl 20, .inl 20, .inl 20, .inr (3, [some 29, some 30, some 31, some 32, none, none]), .inl 400, .inl 17, .inl 16, .inl 64, .inr (9, [some 34, some 35, some 36, some 37, some 38, some 39, some 40, some 41, some 42, none, none]), .inl 30, .inl 30, .inl 30, .inl 30, .inl 120, .inl 4, .inl 20, .inl 20, .inl 20, .inr (0, [some 44, some 45, some 46, none]), .inl 300, .inl 300, .inl 300, .inr (8, [some 48, some 49, some 54, none, none, none, none, none, none, none, none, none, none, none, none]), .inl 400, .inr (3, [some 50, some 51, some 52, some 53, none, none]), .inl 400, .inl 17, .inl 16, .inl 64, .inl 64, .inr (9, [some 56, some 57, some 58, some 59, some 60, some 61, some 62, some 63, some 64, none, none]), .inl 30, .inl 30, .inl 30, .inl 30, .inl 120, .inl 4, .inl 20, .inl 20, .inl 20, .inr (1, [some 1, some 43, some 66, some 72, some 73, none, some 55, none, none, none, none, none, none, none, none, none]), .inr (7, [some 67, some 68, some 69, some 70, some 71]), .inl 168, .inl 168, .inl 168, .inl 168, .inl 168, .inl 30, .inl 7, .inr (10, [some 75, some 81, some 91, some 97, some 101, none, none, none]), .inr (5, [some 76, some 77, some 78, some 79, some 80, none]), .inl 30, .inl 30, .inl 30, .inl 30, .inl 30, .inr (2, [some 82, some 83, some 84, some 85, some 86, some 87, some 88, some 89, some 90, none]), .inl 20, .inl 20, .inl 20, .inl 20, .inl 20, .inl 20, .inl 20, .inl 20, .inl 20, .inr (6, [some 92, some 93, some 94, some 95, some 96, none]), .inl 8, .inl 8, .inl 8, .inl 8, .inl 8, .inr (4, [some 98, some 99, some 100, none]), .inl 20, .inl 20, .inl 20, .inr (3, [some 102, some 103, some 104, some 105, none, none]), .inl 400, .inl 17, .inl 16, .inl 64, .inr (9, [some 107, some 108, some 109, some 110, some 111, some 112, some 113, some 114, some 115, none, none]), .inl 30, .inl 30, .inl 30, .inl 30, .inl 120, .inl 4, .inl 20, .inl 20, .inl 20, .inr (0, [some 117, some 118, some 119, none]), .inl 300, .inl 300, .inl 300, .inr (12, [some 121, some 122, some 123, none, some 124, some 125, some 126, some 127, some 128, none, none, none, none, none, none, none, none, none, none, none, none, none, none, none, none, none, none, some 129, some 130, none, none, none, some 131]), .inl 2490, .inl 2490, .inl 600, .inl 48, .inl 820, .inl 400, .inl 420, .inl 8, .inl 30, .inl 30, .inl 8]
def cf_X12_init_120 (I : mx_I) : mx_I := (mx_set (mx_set (mx_zero (mx_zero (mx_zero (mx_set (mx_set (mx_zero (mx_zero (mx_zero (mx_zero (mx_zero (mx_zero (mx_zero (mx_zero I 121) 122) 123) 124) 125) 126) 127) 128) 120 20 (-1)) 120 22 (-1)) 129) 130) 131) 121 0 1) 121 4 (-1))
set_option maxRecDepth 10000 in
set_option maxHeartbeats 2000000 in
theorem ct_X12_init_120 {l : Launch} {d : Nat} {I : mx_I} : mx_Spec l mX12_init (d + 1) 11 7344 [.ref 120] (ks_45, I) (fun r h' => r = none ∧ h' = (ks_46, cf_X12_init_120 I)) := by
  refine mx_enter rfl (by simp [Value.category]) (Nat.le_of_ble_eq_true rfl) ?_
  change mx_Go l (mx_rm (d + 1) 11 7344) mX12_init _ 0 0 0 [.ref 120] [] (ks_45, I)
  refine g_aload_n dX12_init_0 rfl rfl ?_
  refine g_objInit dX12_init_1 lm_X12_1 lo_1 lo_2 (by simp [Value.category]) (by simp only [mx_rm]; omega) (by simp only [mx_rm]; omega) ?_
  refine g_aload_n dX12_init_4 rfl rfl ?_
  refine g_sipush (v := 2490) dX12_init_5 (by decide) ?_
  refine g_newa (N := 2490) (n0 := 121) dX12_init_8 (by decide) (by decide) (by decide) rfl (by decide) (Nat.le_of_ble_eq_true rfl) (Nat.le_of_ble_eq_true rfl) ?_
  refine rp_X12_0 rfl rfl dX12_init_10 lf_X12_7 rfl (Nat.le_of_ble_eq_true rfl) ?_
  refine g_aload_n dX12_init_13 rfl rfl ?_
  refine g_sipush (v := 2490) dX12_init_14 (by decide) ?_
  refine g_newa (N := 2490) (n0 := 122) dX12_init_17 (by decide) (by decide) (by decide) rfl (by decide) (Nat.le_of_ble_eq_true rfl) (Nat.le_of_ble_eq_true rfl) ?_
  refine rp_X12_1 rfl rfl dX12_init_19 lf_X12_13 rfl (Nat.le_of_ble_eq_true rfl) ?_
  refine g_aload_n dX12_init_22 rfl rfl ?_
  refine g_sipush (v := 600) dX12_init_23 (by decide) ?_
  refine g_newa (N := 600) (n0 := 123) dX12_init_26 (by decide) (by decide) (by decide) rfl (by decide) (Nat.le_of_ble_eq_true rfl) (Nat.le_of_ble_eq_true rfl) ?_
  refine rp_X12_2 rfl rfl dX12_init_28 lf_X12_16 rfl (Nat.le_of_ble_eq_true rfl) ?_
  refine g_aload_n dX12_init_31 rfl rfl ?_
  refine g_bipush (v := 48) dX12_init_32 (by decide) ?_
  refine g_newa (N := 48) (n0 := 124) dX12_init_34 (by decide) (by decide) (by decide) rfl (by decide) (Nat.le_of_ble_eq_true rfl) (Nat.le_of_ble_eq_true rfl) ?_
  refine rp_X12_4 rfl rfl dX12_init_36 lf_X12_19 rfl (Nat.le_of_ble_eq_true rfl) ?_
  refine g_aload_n dX12_init_39 rfl rfl ?_
  refine g_sipush (v := 820) dX12_init_40 (by decide) ?_
  refine g_newa (N := 820) (n0 := 125) dX12_init_43 (by decide) (by decide) (by decide) rfl (by decide) (Nat.le_of_ble_eq_true rfl) (Nat.le_of_ble_eq_true rfl) ?_
  refine rp_X12_5 rfl rfl dX12_init_45 lf_X12_22 rfl (Nat.le_of_ble_eq_true rfl) ?_
  refine g_aload_n dX12_init_48 rfl rfl ?_
  refine g_sipush (v := 400) dX12_init_49 (by decide) ?_
  refine g_newa (N := 400) (n0 := 126) dX12_init_52 (by decide) (by decide) (by decide) rfl (by decide) (Nat.le_of_ble_eq_true rfl) (Nat.le_of_ble_eq_true rfl) ?_
  refine rp_X12_6 rfl rfl dX12_init_54 lf_X12_25 rfl (Nat.le_of_ble_eq_true rfl) ?_
  refine g_aload_n dX12_init_57 rfl rfl ?_
  refine g_sipush (v := 420) dX12_init_58 (by decide) ?_
  refine g_newa (N := 420) (n0 := 127) dX12_init_61 (by decide) (by decide) (by decide) rfl (by decide) (Nat.le_of_ble_eq_true rfl) (Nat.le_of_ble_eq_true rfl) ?_
  refine rp_X12_7 rfl rfl dX12_init_63 lf_X12_28 rfl (Nat.le_of_ble_eq_true rfl) ?_
  refine g_aload_n dX12_init_66 rfl rfl ?_
  refine g_bipush (v := 8) dX12_init_67 (by decide) ?_
  refine g_newa (N := 8) (n0 := 128) dX12_init_69 (by decide) (by decide) (by decide) rfl (by decide) (Nat.le_of_ble_eq_true rfl) (Nat.le_of_ble_eq_true rfl) ?_
  refine rp_X12_8 rfl rfl dX12_init_71 lf_X12_31 rfl (Nat.le_of_ble_eq_true rfl) ?_
  refine g_aload_n dX12_init_74 rfl rfl ?_
  refine g_iconst (v := (-1)) dX12_init_75 (by decide) ?_
  refine rp_X12_20 dX12_init_76 lf_X12_34 rfl ?_
  refine g_aload_n dX12_init_79 rfl rfl ?_
  refine g_iconst (v := (-1)) dX12_init_80 (by decide) ?_
  refine rp_X12_22 dX12_init_81 lf_X12_38 rfl ?_
  refine g_aload_n dX12_init_84 rfl rfl ?_
  refine g_bipush (v := 30) dX12_init_85 (by decide) ?_
  refine g_newa (N := 30) (n0 := 129) dX12_init_87 (by decide) (by decide) (by decide) rfl (by decide) (Nat.le_of_ble_eq_true rfl) (Nat.le_of_ble_eq_true rfl) ?_
  refine rp_X12_27 rfl rfl dX12_init_89 lf_X12_41 rfl (Nat.le_of_ble_eq_true rfl) ?_
  refine g_aload_n dX12_init_92 rfl rfl ?_
  refine g_bipush (v := 30) dX12_init_93 (by decide) ?_
  refine g_newa (N := 30) (n0 := 130) dX12_init_95 (by decide) (by decide) (by decide) rfl (by decide) (Nat.le_of_ble_eq_true rfl) (Nat.le_of_ble_eq_true rfl) ?_
  refine rp_X12_28 rfl rfl dX12_init_97 lf_X12_44 rfl (Nat.le_of_ble_eq_true rfl) ?_
  refine g_aload_n dX12_init_100 rfl rfl ?_
  refine g_bipush (v := 8) dX12_init_101 (by decide) ?_
  refine g_newa (N := 8) (n0 := 131) dX12_init_103 (by decide) (by decide) (by decide) rfl (by decide) (Nat.le_of_ble_eq_true rfl) (Nat.le_of_ble_eq_true rfl) ?_
  refine rp_X12_32 rfl rfl dX12_init_105 lf_X12_47 rfl (Nat.le_of_ble_eq_true rfl) ?_
  refine g_aload_n dX12_init_108 rfl rfl ?_
  refine rg_X12_0 (r := 121) dX12_init_109 lf_X12_7 rfl rfl ?_
  refine g_iconst (v := 0) dX12_init_112 (by decide) ?_
  refine g_iconst (v := 1) dX12_init_113 (by decide) ?_
  refine s_iast (n := 2490) (j := 0) dX12_init_114 rfl (by unfold vp_in; decide) (by decide) ?_
  refine g_aload_n dX12_init_115 rfl rfl ?_
  refine rg_X12_0 (r := 121) dX12_init_116 lf_X12_7 rfl rfl ?_
  refine g_iconst (v := 4) dX12_init_119 (by decide) ?_
  refine g_iconst (v := (-1)) dX12_init_120 (by decide) ?_
  refine s_iast (n := 2490) (j := 4) dX12_init_121 rfl (by unfold vp_in; decide) (by decide) ?_
  exact g_vret rfl dX12_init_122 rfl (Nat.le_of_ble_eq_true rfl) ⟨rfl, rfl⟩
theorem ks_end : ks_46 = sk0 55 := rfl
