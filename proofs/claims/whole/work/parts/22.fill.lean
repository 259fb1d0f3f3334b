/-! Arrays.fill over ints -/
def mx_fillr (I : mx_I) (k n : Nat) (v : Int32) : mx_I := mx_row I k (fun j => if j < n then v else I k j)
theorem mx_fillr_0 (I : mx_I) (k : Nat) (v : Int32) : mx_fillr I k 0 v = I := by
  funext a
  by_cases h : a = k
  · subst h; simp [mx_fillr, mx_row_self]
  · simp [mx_fillr, mx_row_ne h]
theorem mx_fillr_s (I : mx_I) (k i : Nat) (v : Int32) : mx_set (mx_fillr I k i v) k i v = mx_fillr I k (i + 1) v := by
  funext a
  by_cases h : a = k
  · subst h
    funext j
    simp only [mx_set, mx_fillr, mx_row_self, upd]
    by_cases hj : j = i
    · subst hj; simp
    · by_cases hl : j < i
      · simp [hj, hl, Nat.lt_succ_of_lt hl]
      · have : ¬ j < i + 1 := by omega
        simp [hj, hl, this]
  · simp [mx_set, mx_fillr, mx_row_ne h]
theorem fill_loop {l : Launch} {d : Nat} {sk : mx_Sk} {I : mx_I} {k n : Nat} {v : Int32} {Q : Option Value → mx_H → Prop} (hk : sk[k]? = some (.inl n)) (hn : n < 2 ^ 31) (hQ : Q none (sk, mx_fillr I k n v)) :
    ∀ (m i : Nat), i + m = n → mx_Go l (mx_rm (d + 1) 0 0) mJ7_fill_53178 (mx_Z Q 0 0) 0 0 5 [.ref k, .int v, .int (nI i), .int (nI n)] [] (sk, mx_fillr I k i v) := by
  intro m
  induction m with
  | zero =>
    intro i hi
    have e : i = n := by omega
    subst e
    refine g_iload_n dJ7_fill_53178_5 rfl rfl ?_
    refine g_iload_n dJ7_fill_53178_6 rfl rfl ?_
    refine g_icmp_ge (tgt := 20) dJ7_fill_53178_7 (by decide) (fun c1 => ?_) (fun c2 => absurd (nI_le (Nat.le_refl i) hn) c2)
    exact g_vret rfl dJ7_fill_53178_20 rfl (Nat.le_refl _) hQ
  | succ m ih =>
    intro i hi
    have hlt : i < n := by omega
    refine g_iload_n dJ7_fill_53178_5 rfl rfl ?_
    refine g_iload_n dJ7_fill_53178_6 rfl rfl ?_
    refine g_icmp_ge (tgt := 20) dJ7_fill_53178_7 (by decide) (fun c1 => absurd c1 (nI_ge hlt hn)) (fun c2 => ?_)
    refine g_aload_n dJ7_fill_53178_10 rfl rfl ?_
    refine g_iload_n dJ7_fill_53178_11 rfl rfl ?_
    refine g_iload_n dJ7_fill_53178_12 rfl rfl ?_
    refine s_iast (j := i) dJ7_fill_53178_13 hk (vp_in_nI hlt hn) (nI_clamp (by omega)) ?_
    rw [mx_fillr_s]
    refine s_iinc (v := nI (i + 1)) (L' := [.ref k, .int v, .int (nI (i + 1)), .int (nI n)]) dJ7_fill_53178_14 rfl (by decide) rfl (by rw [nI_succ]; rfl) rfl ?_
    refine g_goto (tgt := 5) dJ7_fill_53178_17 (by decide) ?_
    exact ih (i + 1) (by omega)
theorem sp_fill {l : Launch} {d : Nat} {sk : mx_Sk} {I : mx_I} {k n : Nat} {v : Int32} (hk : sk[k]? = some (.inl n)) (hn : n < 2 ^ 31) :
    mx_Spec l mJ7_fill_53178 (d + 1) 0 0 [.ref k, .int v] (sk, I) (fun r h' => r = none ∧ h' = (sk, mx_fillr I k n v)) := by
  refine mx_enter rfl (by simp [Value.category]) (Nat.le_of_ble_eq_true rfl) ?_
  change mx_Go l (mx_rm (d + 1) 0 0) mJ7_fill_53178 _ 0 0 0 [.ref k, .int v, .retAddr 0, .retAddr 0] [] (sk, I)
  refine g_iconst (v := 0) dJ7_fill_53178_0 (by decide) ?_
  refine s_istore_n (L' := [.ref k, .int v, .int 0, .retAddr 0]) dJ7_fill_53178_1 rfl (by decide) rfl rfl ?_
  refine g_aload_n dJ7_fill_53178_2 rfl rfl ?_
  refine rg_alen (v := nI n) dJ7_fill_53178_3 hk rfl ?_
  refine s_istore_n (L' := [.ref k, .int v, .int 0, .int (nI n)]) dJ7_fill_53178_4 rfl (by decide) rfl rfl ?_
  have h9 := fill_loop (l := l) (d := d) (I := I) (v := v) (Q := fun r h' => r = none ∧ h' = (sk, mx_fillr I k n v)) hk hn ⟨rfl, rfl⟩ n 0 (Nat.zero_add n)
  rw [mx_fillr_0] at h9
  exact h9
