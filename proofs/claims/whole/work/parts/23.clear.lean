set_option maxRecDepth 10000 in
set_option maxHeartbeats 1000000 in
theorem sn_X9_clearG {l : Launch} {d : Nat} {Q : Option Value → mx_H → Prop} {sk : mx_Sk} {I : mx_I} (k : Nat) (hk : at9 sk k)
    (k1 : mx_K1 l mJ7_fill_53178 d [.ref (k + 1), .int (-1)] (sk, I) (fun r h' => mx_Go l (mx_rm (d + 1) 0 0) mX9_clear (mx_Z Q 0 0) 0 0 8 [.ref k] (r.toList ++ []) h')) :
    mx_Spec l mX9_clear (d + 1) 0 0 [.ref k] (sk, I) Q := by
  refine mx_enter rfl (by simp [Value.category]) (Nat.le_of_ble_eq_true rfl) ?_
  change mx_Go l (mx_rm (d + 1) 0 0) mX9_clear (mx_Z Q 0 0) 0 0 0 [.ref k] [] (sk, I)
  refine g_aload_n dX9_clear_0 rfl rfl ?_
  refine rg_X9_0 (r := (k + 1)) dX9_clear_1 lf_X9_9 hk.1 rfl ?_
  refine g_iconst (v := (-1)) dX9_clear_4 (by decide) ?_
  exact s_callS (M' := mJ7_fill_53178) (As := [.ref (k + 1), .int (-1)]) (st := []) dX9_clear_5 lm_X9_42 okJ7_fill_53178 osJ7_fill_53178 (by simp [Value.category]) (by decide) rfl (k1)
set_option maxRecDepth 10000 in
set_option maxHeartbeats 1000000 in
theorem sg_X9_clearG_8 {l : Launch} {d : Nat} {Q : Option Value → mx_H → Prop} {sk : mx_Sk} {I : mx_I} (k : Nat) (hk : at9 sk k)
    (k1 : mx_K1 l mJ7_fill_53178 d [.ref (k + 2), .int (-1)] (sk, I) (fun r h' => mx_Go l (mx_rm (d + 1) 0 0) mX9_clear (mx_Z Q 0 0) 0 0 16 [.ref k] (r.toList ++ []) h')) :
    mx_Go l (mx_rm (d + 1) 0 0) mX9_clear (mx_Z Q 0 0) 0 0 8 [.ref k] [] (sk, I) := by
  refine g_aload_n dX9_clear_8 rfl rfl ?_
  refine rg_X9_1 (r := (k + 2)) dX9_clear_9 lf_X9_15 hk.1 rfl ?_
  refine g_iconst (v := (-1)) dX9_clear_12 (by decide) ?_
  exact s_callS (M' := mJ7_fill_53178) (As := [.ref (k + 2), .int (-1)]) (st := []) dX9_clear_13 lm_X9_42 okJ7_fill_53178 osJ7_fill_53178 (by simp [Value.category]) (by decide) rfl (k1)
set_option maxRecDepth 10000 in
set_option maxHeartbeats 1000000 in
theorem sg_X9_clearG_16 {l : Launch} {d : Nat} {Q : Option Value → mx_H → Prop} {sk : mx_Sk} {I : mx_I} (k : Nat) (hk : at9 sk k)
    (k1 : mx_K1 l mJ7_fill_53178 d [.ref (k + 3), .int 0] (sk, I) (fun r h' => mx_Go l (mx_rm (d + 1) 0 0) mX9_clear (mx_Z Q 0 0) 0 0 24 [.ref k] (r.toList ++ []) h')) :
    mx_Go l (mx_rm (d + 1) 0 0) mX9_clear (mx_Z Q 0 0) 0 0 16 [.ref k] [] (sk, I) := by
  refine g_aload_n dX9_clear_16 rfl rfl ?_
  refine rg_X9_2 (r := (k + 3)) dX9_clear_17 lf_X9_18 hk.1 rfl ?_
  refine g_iconst (v := 0) dX9_clear_20 (by decide) ?_
  exact s_callS (M' := mJ7_fill_53178) (As := [.ref (k + 3), .int 0]) (st := []) dX9_clear_21 lm_X9_42 okJ7_fill_53178 osJ7_fill_53178 (by simp [Value.category]) (by decide) rfl (k1)
set_option maxRecDepth 10000 in
set_option maxHeartbeats 1000000 in
theorem sg_X9_clearG_24 {l : Launch} {d : Nat} {Q : Option Value → mx_H → Prop} {sk : mx_Sk} {I : mx_I} (k : Nat) (hk : at9 sk k)
    (k1 : mx_K1 l mJ7_fill_53178 d [.ref (k + 4), .int 0] (sk, I) (fun r h' => mx_Go l (mx_rm (d + 1) 0 0) mX9_clear (mx_Z Q 0 0) 0 0 32 [.ref k] (r.toList ++ []) h')) :
    mx_Go l (mx_rm (d + 1) 0 0) mX9_clear (mx_Z Q 0 0) 0 0 24 [.ref k] [] (sk, I) := by
  refine g_aload_n dX9_clear_24 rfl rfl ?_
  refine rg_X9_3 (r := (k + 4)) dX9_clear_25 lf_X9_21 hk.1 rfl ?_
  refine g_iconst (v := 0) dX9_clear_28 (by decide) ?_
  exact s_callS (M' := mJ7_fill_53178) (As := [.ref (k + 4), .int 0]) (st := []) dX9_clear_29 lm_X9_42 okJ7_fill_53178 osJ7_fill_53178 (by simp [Value.category]) (by decide) rfl (k1)
set_option maxRecDepth 10000 in
set_option maxHeartbeats 1000000 in
theorem sg_X9_clearG_32 {l : Launch} {d : Nat} {Q : Option Value → mx_H → Prop} {sk : mx_Sk} {I : mx_I} (k : Nat) (hk : at9 sk k)
    (k1 : mx_K1 l mJ7_fill_53178 d [.ref (k + 6), .int 0] (sk, I) (fun r h' => mx_Go l (mx_rm (d + 1) 0 0) mX9_clear (mx_Z Q 0 0) 0 0 40 [.ref k] (r.toList ++ []) h')) :
    mx_Go l (mx_rm (d + 1) 0 0) mX9_clear (mx_Z Q 0 0) 0 0 32 [.ref k] [] (sk, I) := by
  refine g_aload_n dX9_clear_32 rfl rfl ?_
  refine rg_X9_5 (r := (k + 6)) dX9_clear_33 lf_X9_27 hk.1 rfl ?_
  refine g_iconst (v := 0) dX9_clear_36 (by decide) ?_
  exact s_callS (M' := mJ7_fill_53178) (As := [.ref (k + 6), .int 0]) (st := []) dX9_clear_37 lm_X9_42 okJ7_fill_53178 osJ7_fill_53178 (by simp [Value.category]) (by decide) rfl (k1)
set_option maxRecDepth 10000 in
set_option maxHeartbeats 1000000 in
theorem sg_X9_clearG_40 {l : Launch} {d : Nat} {Q : Option Value → mx_H → Prop} {sk : mx_Sk} {I : mx_I} (k : Nat) (hk : at9 sk k)
    (k1 : mx_K1 l mJ7_fill_53178 d [.ref (k + 7), .int (-1)] (sk, I) (fun r h' => mx_Go l (mx_rm (d + 1) 0 0) mX9_clear (mx_Z Q 0 0) 0 0 48 [.ref k] (r.toList ++ []) h')) :
    mx_Go l (mx_rm (d + 1) 0 0) mX9_clear (mx_Z Q 0 0) 0 0 40 [.ref k] [] (sk, I) := by
  refine g_aload_n dX9_clear_40 rfl rfl ?_
  refine rg_X9_6 (r := (k + 7)) dX9_clear_41 lf_X9_30 hk.1 rfl ?_
  refine g_iconst (v := (-1)) dX9_clear_44 (by decide) ?_
  exact s_callS (M' := mJ7_fill_53178) (As := [.ref (k + 7), .int (-1)]) (st := []) dX9_clear_45 lm_X9_42 okJ7_fill_53178 osJ7_fill_53178 (by simp [Value.category]) (by decide) rfl (k1)
set_option maxRecDepth 10000 in
set_option maxHeartbeats 1000000 in
theorem sg_X9_clearG_48 {l : Launch} {d : Nat} {Q : Option Value → mx_H → Prop} {sk : mx_Sk} {I : mx_I} (k : Nat) (hk : at9 sk k)
    (k1 : mx_K1 l mJ7_fill_53178 d [.ref (k + 8), .int 0] (sk, I) (fun r h' => mx_Go l (mx_rm (d + 1) 0 0) mX9_clear (mx_Z Q 0 0) 0 0 56 [.ref k] (r.toList ++ []) h')) :
    mx_Go l (mx_rm (d + 1) 0 0) mX9_clear (mx_Z Q 0 0) 0 0 48 [.ref k] [] (sk, I) := by
  refine g_aload_n dX9_clear_48 rfl rfl ?_
  refine rg_X9_7 (r := (k + 8)) dX9_clear_49 lf_X9_33 hk.1 rfl ?_
  refine g_iconst (v := 0) dX9_clear_52 (by decide) ?_
  exact s_callS (M' := mJ7_fill_53178) (As := [.ref (k + 8), .int 0]) (st := []) dX9_clear_53 lm_X9_42 okJ7_fill_53178 osJ7_fill_53178 (by simp [Value.category]) (by decide) rfl (k1)
set_option maxRecDepth 10000 in
set_option maxHeartbeats 1000000 in
theorem sg_X9_clearG_56 {l : Launch} {d : Nat} {Q : Option Value → mx_H → Prop} {sk : mx_Sk} {I : mx_I} (k : Nat) (hk : at9 sk k)
    (k1 : mx_K1 l mJ7_fill_53178 d [.ref (k + 9), .int 0] (sk, I) (fun r h' => mx_Go l (mx_rm (d + 1) 0 0) mX9_clear (mx_Z Q 0 0) 0 0 64 [.ref k] (r.toList ++ []) h')) :
    mx_Go l (mx_rm (d + 1) 0 0) mX9_clear (mx_Z Q 0 0) 0 0 56 [.ref k] [] (sk, I) := by
  refine g_aload_n dX9_clear_56 rfl rfl ?_
  refine rg_X9_8 (r := (k + 9)) dX9_clear_57 lf_X9_36 hk.1 rfl ?_
  refine g_iconst (v := 0) dX9_clear_60 (by decide) ?_
  exact s_callS (M' := mJ7_fill_53178) (As := [.ref (k + 9), .int 0]) (st := []) dX9_clear_61 lm_X9_42 okJ7_fill_53178 osJ7_fill_53178 (by simp [Value.category]) (by decide) rfl (k1)
set_option maxRecDepth 10000 in
set_option maxHeartbeats 1000000 in
theorem sg_X9_clearG_64 {l : Launch} {d : Nat} {Q : Option Value → mx_H → Prop} {sk : mx_Sk} {I : mx_I} (k : Nat) (hk : at9 sk k)
    (q1 : Q none (sk, (mx_set (mx_set I k 9 0) k 10 0))) :
    mx_Go l (mx_rm (d + 1) 0 0) mX9_clear (mx_Z Q 0 0) 0 0 64 [.ref k] [] (sk, I) := by
  refine g_aload_n dX9_clear_64 rfl rfl ?_
  refine g_iconst (v := 0) dX9_clear_65 (by decide) ?_
  refine rp_X9_9 dX9_clear_66 lf_X9_48 hk.1 ?_
  refine g_aload_n dX9_clear_69 rfl rfl ?_
  refine g_iconst (v := 0) dX9_clear_70 (by decide) ?_
  refine rp_X9_10 dX9_clear_71 lf_X9_52 hk.1 ?_
  exact g_vret rfl dX9_clear_74 rfl (Nat.le_refl _) (q1)
def mx_clr (I : mx_I) (k : Nat) : mx_I := mx_set (mx_set (mx_fillr (mx_fillr (mx_fillr (mx_fillr (mx_fillr (mx_fillr (mx_fillr (mx_fillr I (k + 1) 30 (-1)) (k + 2) 30 (-1)) (k + 3) 30 0) (k + 4) 30 0) (k + 6) 4 0) (k + 7) 20 (-1)) (k + 8) 20 0) (k + 9) 20 0) k 9 0) k 10 0
theorem sp_clear {l : Launch} {d : Nat} {sk : mx_Sk} {I : mx_I} {k : Nat} (hk : at9 sk k) : mx_Spec l mX9_clear (d + 2) 0 0 [.ref k] (sk, I) (fun r h' => r = none ∧ h' = (sk, mx_clr I k)) := by
  refine sn_X9_clearG k hk ⟨_, sp_fill hk.2.1 (by decide), ?_⟩
  rintro _ _ ⟨rfl, rfl⟩
  refine sg_X9_clearG_8 k hk ⟨_, sp_fill hk.2.2.1 (by decide), ?_⟩
  rintro _ _ ⟨rfl, rfl⟩
  refine sg_X9_clearG_16 k hk ⟨_, sp_fill hk.2.2.2.1 (by decide), ?_⟩
  rintro _ _ ⟨rfl, rfl⟩
  refine sg_X9_clearG_24 k hk ⟨_, sp_fill hk.2.2.2.2.1 (by decide), ?_⟩
  rintro _ _ ⟨rfl, rfl⟩
  refine sg_X9_clearG_32 k hk ⟨_, sp_fill hk.2.2.2.2.2.2.1 (by decide), ?_⟩
  rintro _ _ ⟨rfl, rfl⟩
  refine sg_X9_clearG_40 k hk ⟨_, sp_fill hk.2.2.2.2.2.2.2.1 (by decide), ?_⟩
  rintro _ _ ⟨rfl, rfl⟩
  refine sg_X9_clearG_48 k hk ⟨_, sp_fill hk.2.2.2.2.2.2.2.2.1 (by decide), ?_⟩
  rintro _ _ ⟨rfl, rfl⟩
  refine sg_X9_clearG_56 k hk ⟨_, sp_fill hk.2.2.2.2.2.2.2.2.2 (by decide), ?_⟩
  rintro _ _ ⟨rfl, rfl⟩
  exact sg_X9_clearG_64 k hk ⟨rfl, rfl⟩
