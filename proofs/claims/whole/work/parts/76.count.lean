/-! bits are counted, prices summed -/
def us_ (x y : Int32) : Int32 := (x.toUInt32 >>> (y.toUInt32 &&& Int32.toUInt32 31)).toInt32
def bc1 (x : Int32) : Int32 := x - (us_ x 1 &&& 1431655765)
def bc2 (y : Int32) : Int32 := (y &&& 858993459) + (us_ y 2 &&& 858993459)
def bc3 (y : Int32) : Int32 := (y + us_ y 4) &&& 252645135
def bc4 (y : Int32) : Int32 := y + us_ y 8
def bc5 (y : Int32) : Int32 := y + us_ y 16
def bc_ (x : Int32) : Int32 := bc5 (bc4 (bc3 (bc2 (bc1 x)))) &&& 63
section STEPS2
variable {l : Launch} {R : Room} {M : mx_M} {Z : mx_G → List Frame → Array Value → State → State → Prop} {uc us pc : Nat} {L L' st : List Value} {h : mx_H}
theorem g_ldcw {index : Nat} {v : Int32} (hd : decode M.2.1 pc = .ok (.ldc_w index, 3)) (hw : Cond.constant M.1.cls index v ∈ mx_g)
    (k : mx_Go l R M Z uc us (pc + 3) L (.int v :: st) h) : mx_Go l R M Z uc us pc L st h := by
  intro G p e s m args below meth c H locs ls C hz hW hS hl
  exact lv_ldcw C.1 C.2.1 C.2.2.2.2.2.2.1 (C.2.2.2.2.2.2.2.1 _ hw) hd (k G p e s m args below meth c H locs ls C hz hW hS hl)
end STEPS2
theorem sp_bitCount {l : Launch} {c d : Nat} {I : mx_I} (x : Int32) : mx_Spec l mJ6_bitCount_0f7a4 (d + 1) 0 0 [.int x] (sk0 c, I) (fun r h' => r = some (.int (bc_ x)) ∧ h' = (sk0 c, I)) := by
  refine mx_enter rfl (by simp [Value.category]) (Nat.le_of_ble_eq_true rfl) ?_
  change mx_Go l (mx_rm (d + 1) 0 0) mJ6_bitCount_0f7a4 _ 0 0 0 [.int x] [] (sk0 c, I)
  refine g_iload_n dJ6_bitCount_0f7a4_0 rfl rfl ?_
  refine g_iload_n dJ6_bitCount_0f7a4_1 rfl rfl ?_
  refine g_iconst (v := 1) dJ6_bitCount_0f7a4_2 (by decide) ?_
  refine g_iushr dJ6_bitCount_0f7a4_3 ?_
  refine g_ldcw dJ6_bitCount_0f7a4_4 lc_J6_265 ?_
  refine g_iand dJ6_bitCount_0f7a4_7 ?_
  refine g_isub dJ6_bitCount_0f7a4_8 ?_
  refine s_istore_n (L' := [.int (bc1 x)]) dJ6_bitCount_0f7a4_9 rfl (by decide) rfl rfl ?_
  refine g_iload_n dJ6_bitCount_0f7a4_10 rfl rfl ?_
  refine g_ldcw dJ6_bitCount_0f7a4_11 lc_J6_266 ?_
  refine g_iand dJ6_bitCount_0f7a4_14 ?_
  refine g_iload_n dJ6_bitCount_0f7a4_15 rfl rfl ?_
  refine g_iconst (v := 2) dJ6_bitCount_0f7a4_16 (by decide) ?_
  refine g_iushr dJ6_bitCount_0f7a4_17 ?_
  refine g_ldcw dJ6_bitCount_0f7a4_18 lc_J6_266 ?_
  refine g_iand dJ6_bitCount_0f7a4_21 ?_
  refine g_iadd dJ6_bitCount_0f7a4_22 ?_
  refine s_istore_n (L' := [.int (bc2 (bc1 x))]) dJ6_bitCount_0f7a4_23 rfl (by decide) rfl rfl ?_
  refine g_iload_n dJ6_bitCount_0f7a4_24 rfl rfl ?_
  refine g_iload_n dJ6_bitCount_0f7a4_25 rfl rfl ?_
  refine g_iconst (v := 4) dJ6_bitCount_0f7a4_26 (by decide) ?_
  refine g_iushr dJ6_bitCount_0f7a4_27 ?_
  refine g_iadd dJ6_bitCount_0f7a4_28 ?_
  refine g_ldcw dJ6_bitCount_0f7a4_29 lc_J6_267 ?_
  refine g_iand dJ6_bitCount_0f7a4_32 ?_
  refine s_istore_n (L' := [.int (bc3 (bc2 (bc1 x)))]) dJ6_bitCount_0f7a4_33 rfl (by decide) rfl rfl ?_
  refine g_iload_n dJ6_bitCount_0f7a4_34 rfl rfl ?_
  refine g_iload_n dJ6_bitCount_0f7a4_35 rfl rfl ?_
  refine g_bipush (v := 8) dJ6_bitCount_0f7a4_36 (by decide) ?_
  refine g_iushr dJ6_bitCount_0f7a4_38 ?_
  refine g_iadd dJ6_bitCount_0f7a4_39 ?_
  refine s_istore_n (L' := [.int (bc4 (bc3 (bc2 (bc1 x))))]) dJ6_bitCount_0f7a4_40 rfl (by decide) rfl rfl ?_
  refine g_iload_n dJ6_bitCount_0f7a4_41 rfl rfl ?_
  refine g_iload_n dJ6_bitCount_0f7a4_42 rfl rfl ?_
  refine g_bipush (v := 16) dJ6_bitCount_0f7a4_43 (by decide) ?_
  refine g_iushr dJ6_bitCount_0f7a4_45 ?_
  refine g_iadd dJ6_bitCount_0f7a4_46 ?_
  refine s_istore_n (L' := [.int (bc5 (bc4 (bc3 (bc2 (bc1 x)))))]) dJ6_bitCount_0f7a4_47 rfl (by decide) rfl rfl ?_
  refine g_iload_n dJ6_bitCount_0f7a4_48 rfl rfl ?_
  refine g_bipush (v := 63) dJ6_bitCount_0f7a4_49 (by decide) ?_
  refine g_iand dJ6_bitCount_0f7a4_51 ?_
  exact g_iret rfl dJ6_bitCount_0f7a4_52 rfl (Nat.le_refl _) ⟨rfl, rfl⟩
/-- how many bits below k -/
def cntN (x : Int32) : Nat → Nat
  | 0 => 0
  | k + 1 => cntN x k + (if bt x k = true then 1 else 0)
theorem cntN_le (x : Int32) : ∀ k, cntN x k ≤ k
  | 0 => Nat.le_refl _
  | k + 1 => by
    have := cntN_le x k
    rw [cntN]
    split <;> omega
theorem bc_256 : ∀ h : Nat, h < 256 → bc_ (nI h) = nI (cntN (nI h) 30) := by decide +kernel
/-- the price of a set -/
def prcN (R : Nat → Int32) (x : Int32) : Nat → Nat
  | 0 => 0
  | k + 1 => prcN R x k + (if bt x k = true then (R k).toInt.toNat else 0)
theorem prcN_le {R : Nat → Int32} {x : Int32} : ∀ k, (∀ i, i < k → bnd (R i) 0 999) → prcN R x k ≤ 999 * k
  | 0, _ => Nat.le_refl _
  | k + 1, h => by
    have h1 := prcN_le (R := R) (x := x) k (fun i hi => h i (by omega))
    have h2 := h k (by omega)
    unfold bnd at h2
    rw [prcN]
    split <;> omega
theorem bit_add {x : Int32} {n k : Nat} (hk : k < 32) : nI n + ((x >>> (nI k &&& 31)) &&& 1) = nI (n + (if bt x k = true then 1 else 0)) := by
  rw [b_get hk]
  cases bt x k
  · simp [b2i]
  · simp only [b2i, if_true]; exact nI_1 n
theorem bit_mul {x y : Int32} {n k : Nat} (hk : k < 32) (hy : 0 ≤ y.toInt) : nI n + (((x >>> (nI k &&& 31)) &&& 1) * y) = nI (n + (if bt x k = true then y.toInt.toNat else 0)) := by
  rw [b_get hk]
  cases bt x k
  · simp [b2i]
  · simp only [b2i, if_true, Int32.one_mul]
    rw [show y = nI y.toInt.toNat from i_nat hy, nI_add]
    congr 3
    rw [← i_nat hy]
section L
variable {l : Launch} {c : Nat}
theorem sp_count {d : Nat} {I : mx_I} (x : Int32) : mx_Spec l mX12_count (d + 1) 0 0 [.int x] (sk0 c, I) (fun r h' => r = some (.int (nI (cntN x 30))) ∧ h' = (sk0 c, I)) := by
  have lp : ∀ (m k : Nat), k + m = 30 → mx_Go l (mx_rm (d + 1) 0 0) mX12_count (mx_Z (fun r h' => r = some (.int (nI (cntN x 30))) ∧ h' = (sk0 c, I)) 0 0) 0 0 4 [.int x, .int (nI (cntN x k)), .int (nI k)] [] (sk0 c, I) := by
    intro m
    induction m with
    | zero =>
      intro k hk
      have e : k = 30 := by omega
      subst e
      exact sg_X12_count_4 _ _ _ (fun _ => ⟨rfl, rfl⟩) (fun z => absurd (by decide) z)
    | succ m ih =>
      intro k hk
      have e1 : ¬ (30 : Int32) ≤ nI k := fun z => by rw [show (30 : Int32) = nI 30 from rfl, nI_leI (by omega) (by omega)] at z; omega
      refine sg_X12_count_4 _ _ _ (fun z => absurd z e1) (fun _ => ?_)
      rw [bit_add (by omega), nI_1]
      exact ih (k + 1) (by omega)
  exact sn_X12_count _ (lp 30 0 (by omega))
theorem sp_priceOf {d no : Nat} {I : mx_I} (x : Int32) (hn : I 18 5 = nI no) (h8 : no ≤ 8) (hp : ∀ i, i < no → bnd (I 23 i) 0 999) : mx_Spec l mX6_priceOf (d + 1) 0 0 [.ref 18, .int x] (sk0 c, I) (fun r h' => r = some (.int (nI (prcN (I 23) x no))) ∧ h' = (sk0 c, I)) := by
  have lp : ∀ (m k : Nat), k + m = no → mx_Go l (mx_rm (d + 1) 0 0) mX6_priceOf (mx_Z (fun r h' => r = some (.int (nI (prcN (I 23) x no))) ∧ h' = (sk0 c, I)) 0 0) 0 0 4 [.ref 18, .int x, .int (nI (prcN (I 23) x k)), .int (nI k)] [] (sk0 c, I) := by
    intro m
    induction m with
    | zero =>
      intro k hk
      have e : k = no := by omega
      subst e
      have e1 : I 18 5 ≤ nI k := by rw [hn, nI_leI (by omega) (by omega)]; omega
      exact sg_X6_priceOf_4 _ _ _ (fun _ => ⟨rfl, rfl⟩) (fun z => absurd e1 z) (fun z => absurd e1 z)
    | succ m ih =>
      intro k hk
      have e1 : ¬ I 18 5 ≤ nI k := fun z => by rw [hn, nI_leI (by omega) (by omega)] at z; omega
      refine sg_X6_priceOf_4 _ _ _ (fun z => absurd z e1) (fun _ => i_vp (by omega) (by omega)) (fun _ => ?_)
      rw [nI_clamp (n := k) (by omega), bit_mul (by omega) (hp k (by omega)).1, nI_1]
      exact ih (k + 1) (by omega)
  exact sn_X6_priceOf _ (lp no 0 (by omega))
theorem sp_mpriceOf {d no : Nat} {I : mx_I} {R : Nat → Int32} (x : Int32) (hn : I 121 7 = nI no) (h8 : no ≤ 8) (hR : ∀ i, i < no → I 121 (1500 + 5 * i + 4) = R i) (hp : ∀ i, i < no → bnd (R i) 0 999) : mx_Spec l mX12_priceOf (d + 1) 0 0 [.ref 120, .int x] (sk0 c, I) (fun r h' => r = some (.int (nI (prcN R x no))) ∧ h' = (sk0 c, I)) := by
  have lp : ∀ (m k : Nat), k + m = no → mx_Go l (mx_rm (d + 1) 0 0) mX12_priceOf (mx_Z (fun r h' => r = some (.int (nI (prcN R x no))) ∧ h' = (sk0 c, I)) 0 0) 0 0 4 [.ref 120, .int x, .int (nI (prcN R x k)), .int (nI k)] [] (sk0 c, I) := by
    intro m
    induction m with
    | zero =>
      intro k hk
      have e : k = no := by omega
      subst e
      have e1 : I 121 7 ≤ nI k := by rw [hn, nI_leI (by omega) (by omega)]; omega
      exact sg_X12_priceOf_4 _ _ _ (fun _ => ⟨rfl, rfl⟩) (fun z => absurd e1 z) (fun z => absurd e1 z)
    | succ m ih =>
      intro k hk
      have e1 : ¬ I 121 7 ≤ nI k := fun z => by rw [hn, nI_leI (by omega) (by omega)] at z; omega
      have ix : (1500 + (5 * nI k) + 4 : Int32) = nI (1500 + 5 * k + 4) := by rw [show (1500 : Int32) = nI 1500 from rfl, show (5 : Int32) = nI 5 from rfl, show (4 : Int32) = nI 4 from rfl, pk_mul, nI_add, nI_add]
      have S := fun Q => @sg_X12_priceOf_4 l d Q c I x (nI (prcN R x k)) (nI k)
      rw [ix, nI_clamp (n := 1500 + 5 * k + 4) (by omega), hR k (by omega), bit_mul (by omega) (hp k (by omega)).1, nI_1] at S
      exact S _ (fun z => absurd z e1) (fun _ => i_vp (by omega) (by omega)) (fun _ => ih (k + 1) (by omega))
  exact sn_X12_priceOf _ (lp no 0 (by omega))
end L
