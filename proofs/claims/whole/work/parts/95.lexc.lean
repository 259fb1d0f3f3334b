/-! the class's tokens -/
section C
variable {l : Launch} {c : Nat}
theorem nI_255 {x : Nat} (h : x ≤ 255) {y : Nat} (hy : y ≤ 255) : (nI x < nI y ↔ x < y) ∧ (nI x ≤ nI y ↔ x ≤ y) ∧ (nI x = nI y ↔ x = y) := ⟨nI_ltI (by omega) (by omega), nI_leI (by omega) (by omega), nI_eq (by omega) (by omega)⟩
theorem sp_isLtC {d x : Nat} {I : mx_I} (hx : x ≤ 255) : mx_Spec l mX8_isLetter (d + 1) 0 0 [.int (nI x)] (sk0 c, I) (fun r h' => r = some (.int (b2i (cLt x))) ∧ h' = (sk0 c, I)) := by
  have a97 : nI x < 97 ↔ x < 97 := (nI_255 hx (y := 97) (by omega)).1
  have a65 : nI x < 65 ↔ x < 65 := (nI_255 hx (y := 65) (by omega)).1
  have a90 : 90 < nI x ↔ 90 < x := (nI_255 (x := 90) (by omega) hx).1
  have a122 : nI x ≤ 122 ↔ x ≤ 122 := (nI_255 hx (y := 122) (by omega)).2.1
  have no : ¬ ((97 ≤ x ∧ x ≤ 122) ∨ (65 ≤ x ∧ x ≤ 90)) → (some (.int 0) : Option Value) = some (.int (b2i (cLt x))) ∧ ((sk0 c, I) : mx_H) = (sk0 c, I) := fun z => ⟨by unfold cLt; rw [decide_eq_false z]; rfl, rfl⟩
  have yes : ((97 ≤ x ∧ x ≤ 122) ∨ (65 ≤ x ∧ x ≤ 90)) → (some (.int 1) : Option Value) = some (.int (b2i (cLt x))) ∧ ((sk0 c, I) : mx_H) = (sk0 c, I) := fun z => ⟨by unfold cLt; rw [decide_eq_true z]; rfl, rfl⟩
  refine sn_X8_isLetter _ (fun h1 h2 => no ?_) (fun h1 h2 h3 => no ?_) (fun h1 h2 h3 => yes ?_) (fun h1 h2 => yes ?_) (fun h1 h2 h3 => no ?_) (fun h1 h2 h3 h4 => no ?_) (fun h1 h2 h3 h4 => yes ?_) <;> simp only [a97, a65, a90, a122] at * <;> omega
theorem sp_isDgC {d x : Nat} {I : mx_I} (hx : x ≤ 255) : mx_Spec l mX8_isDigit (d + 1) 0 0 [.int (nI x)] (sk0 c, I) (fun r h' => r = some (.int (b2i (cDg x))) ∧ h' = (sk0 c, I)) := by
  have a48 : nI x < 48 ↔ x < 48 := (nI_255 hx (y := 48) (by omega)).1
  have a57 : 57 < nI x ↔ 57 < x := (nI_255 (x := 57) (by omega) hx).1
  have no : ¬ (48 ≤ x ∧ x ≤ 57) → (some (.int 0) : Option Value) = some (.int (b2i (cDg x))) ∧ ((sk0 c, I) : mx_H) = (sk0 c, I) := fun z => ⟨by unfold cDg; rw [decide_eq_false z]; rfl, rfl⟩
  have yes : (48 ≤ x ∧ x ≤ 57) → (some (.int 1) : Option Value) = some (.int (b2i (cDg x))) ∧ ((sk0 c, I) : mx_H) = (sk0 c, I) := fun z => ⟨by unfold cDg; rw [decide_eq_true z]; rfl, rfl⟩
  refine sn_X8_isDigit _ (fun h1 => no ?_) (fun h1 h2 => no ?_) (fun h1 h2 => yes ?_) <;> simp only [a48, a57] at * <;> omega
theorem cSg_tab : ∀ x, x ≤ 255 → ∀ y, (y = 40 ∨ y = 41 ∨ y = 42 ∨ y = 43 ∨ y = 45 ∨ y = 47 ∨ y = 59 ∨ y = 60 ∨ y = 61 ∨ y = 62) ∨ cSg y = 25 := by
  intro x _ y
  unfold cSg
  by_cases h : y = 40 ∨ y = 41 ∨ y = 42 ∨ y = 43 ∨ y = 45 ∨ y = 47 ∨ y = 59 ∨ y = 60 ∨ y = 61 ∨ y = 62
  · exact Or.inl h
  · right
    rw [if_neg (by omega), if_neg (by omega), if_neg (by omega), if_neg (by omega), if_neg (by omega), if_neg (by omega), if_neg (by omega), if_neg (by omega), if_neg (by omega), if_neg (by omega)]
theorem sp_signC {d x : Nat} {I : mx_I} (hx : x ≤ 255) : mx_Spec l mX8_sign (d + 1) 0 0 [.int (nI x)] (sk0 c, I) (fun r h' => r = some (.int (nI (cSg x))) ∧ h' = (sk0 c, I)) := by
  have e : ∀ {y : Nat}, y ≤ 255 → nI x = nI y → x = y := fun hy h => ((nI_255 hx hy).2.2).mp h
  refine sn_X8_sign _ (fun h => ?_) (fun h => ?_) (fun h => ?_) (fun h => ?_) (fun h => ?_) (fun h => ?_) (fun h => ?_) (fun h => ?_) (fun h => ?_) (fun h => ?_) (fun h => ?_) (fun h => ?_) (fun h => ?_) (fun h => ?_) (fun h => ?_) (fun h => ?_) (fun h => ?_) (fun h => ?_) (fun h => ?_) (fun h => ?_) (fun h => ?_) (fun h => ?_) (fun h => ?_) ?_
  · have := e (y := 40) (by omega) h; subst this; exact ⟨rfl, rfl⟩
  · have := e (y := 41) (by omega) h; subst this; exact ⟨rfl, rfl⟩
  · have := e (y := 42) (by omega) h; subst this; exact ⟨rfl, rfl⟩
  · have := e (y := 43) (by omega) h; subst this; exact ⟨rfl, rfl⟩
  · have := e (y := 44) (by omega) h; subst this; exact ⟨rfl, rfl⟩
  · have := e (y := 45) (by omega) h; subst this; exact ⟨rfl, rfl⟩
  · have := e (y := 46) (by omega) h; subst this; exact ⟨rfl, rfl⟩
  · have := e (y := 47) (by omega) h; subst this; exact ⟨rfl, rfl⟩
  · have := e (y := 48) (by omega) h; subst this; exact ⟨rfl, rfl⟩
  · have := e (y := 49) (by omega) h; subst this; exact ⟨rfl, rfl⟩
  · have := e (y := 50) (by omega) h; subst this; exact ⟨rfl, rfl⟩
  · have := e (y := 51) (by omega) h; subst this; exact ⟨rfl, rfl⟩
  · have := e (y := 52) (by omega) h; subst this; exact ⟨rfl, rfl⟩
  · have := e (y := 53) (by omega) h; subst this; exact ⟨rfl, rfl⟩
  · have := e (y := 54) (by omega) h; subst this; exact ⟨rfl, rfl⟩
  · have := e (y := 55) (by omega) h; subst this; exact ⟨rfl, rfl⟩
  · have := e (y := 56) (by omega) h; subst this; exact ⟨rfl, rfl⟩
  · have := e (y := 57) (by omega) h; subst this; exact ⟨rfl, rfl⟩
  · have := e (y := 58) (by omega) h; subst this; exact ⟨rfl, rfl⟩
  · have := e (y := 59) (by omega) h; subst this; exact ⟨rfl, rfl⟩
  · have := e (y := 60) (by omega) h; subst this; exact ⟨rfl, rfl⟩
  · have := e (y := 61) (by omega) h; subst this; exact ⟨rfl, rfl⟩
  · have := e (y := 62) (by omega) h; subst this; exact ⟨rfl, rfl⟩
  · intro h40 h41 h42 h43 h44 h45 h46 h47 h48 h49 h50 h51 h52 h53 h54 h55 h56 h57 h58 h59 h60 h61 h62
    have h25 : cSg x = 25 := by
      rcases cSg_tab 0 (by omega) x with (h | h | h | h | h | h | h | h | h | h) | h
      · exact absurd (by rw [h]; rfl) h40
      · exact absurd (by rw [h]; rfl) h41
      · exact absurd (by rw [h]; rfl) h42
      · exact absurd (by rw [h]; rfl) h43
      · exact absurd (by rw [h]; rfl) h45
      · exact absurd (by rw [h]; rfl) h47
      · exact absurd (by rw [h]; rfl) h59
      · exact absurd (by rw [h]; rfl) h60
      · exact absurd (by rw [h]; rfl) h61
      · exact absurd (by rw [h]; rfl) h62
      · exact h
    exact ⟨by rw [h25]; rfl, rfl⟩
/-- what lies on the class's tape -/
def TpC (b : Nat → Nat) (n : Nat) (I : mx_I) : Prop := n ≤ 400 ∧ I 47 3 = nI n ∧ ∀ i, i < n → I 48 i = nI (b i) ∧ b i ≤ 255
theorem sp_isSpelt {d i q len n : Nat} {b : Nat → Nat} {I : mx_I} (hi : i < 27) (hT : TpC b n I) (h11 : I 47 11 = nI (q + len)) (h13 : I 47 13 = nI q) (hn : q + len ≤ n) : mx_Spec l mX8_isSpelt (d + 5) 0 0 [.ref 47, .ref (1001 + i)] (sk0 c, I) (fun r h' => r = some (.int (b2i (spS b q len i))) ∧ h' = (sk0 c, I)) := by
  have hlen := (∀ i, i < 27 → mx_slen.getD i 0 ≤ 6 : Prop)
  have h6 : mx_slen.getD i 0 ≤ 6 := by
    have : ∀ i, i < 27 → mx_slen.getD i 0 ≤ 6 := by decide
    exact this i hi
  obtain ⟨t1, t2, t3⟩ := hT
  refine sn_X8_isSpelt (1001 + i) ?_
  refine s_callVS (d := d + 4) (M' := mJ0_length_8abf5) (As := []) (st := []) hi dX8_isSpelt_1 lm_X8_151 ovJ0_length_8abf5 rfl (by simp) (by decide) rfl ⟨_, sp_strLen (d := d + 2) hi, ?_⟩
  rintro _ _ ⟨rfl, rfl⟩
  have sub : I 47 11 - I 47 13 = nI len := by rw [h11, h13, pk_sub (by omega), Nat.add_sub_cancel_left]
  refine sg_X8_isSpelt_4 (1001 + i) _ _ (fun g => ?_) (fun g => ⟨?_, rfl⟩)
  · rw [sub] at g
    have gl : mx_slen.getD i 0 = len := (nI_eq (by omega) (by omega)).mp g
    have lp : ∀ (m j : Nat), j + m = mx_slen.getD i 0 → (∀ k, k < j → nI (b (q + k)) = (mx_sbyt.getD i []).getD k 0) → mx_Go l (mx_rm (d + 4 + 1) 0 0) mX8_isSpelt (mx_Z (fun r h' => r = some (.int (b2i (spS b q len i))) ∧ h' = (sk0 c, I)) 0 0) 0 0 20 [.ref 47, .ref (1001 + i), .int (nI j)] [] (sk0 c, I) := by
      intro m
      induction m with
      | zero =>
        intro j hj hall
        refine sg_X8_isSpelt_20 (1001 + i) _ _ ?_
        refine s_callVS (d := d + 4) (M' := mJ0_length_8abf5) (As := []) (st := [.int (nI j)]) hi dX8_isSpelt_22 lm_X8_151 ovJ0_length_8abf5 rfl (by simp [Value.category]) (by decide) rfl ⟨_, sp_strLen (d := d + 2) hi, ?_⟩
        rintro _ _ ⟨rfl, rfl⟩
        have e1 : nI (mx_slen.getD i 0) ≤ nI j := (nI_leI (by omega) (by omega)).mpr (by omega)
        refine sg_X8_isSpelt_25 (1001 + i) _ _ _ _ (fun _ => ⟨?_, rfl⟩) (fun z => absurd e1 z) (fun z => absurd e1 z)
        rw [show spS b q len i = true from decide_eq_true ⟨gl.symm, fun k hk => hall k (by omega)⟩]; rfl
      | succ m ih =>
        intro j hj hall
        refine sg_X8_isSpelt_20 (1001 + i) _ _ ?_
        refine s_callVS (d := d + 4) (M' := mJ0_length_8abf5) (As := []) (st := [.int (nI j)]) hi dX8_isSpelt_22 lm_X8_151 ovJ0_length_8abf5 rfl (by simp [Value.category]) (by decide) rfl ⟨_, sp_strLen (d := d + 2) hi, ?_⟩
        rintro _ _ ⟨rfl, rfl⟩
        have e1 : ¬ nI (mx_slen.getD i 0) ≤ nI j := fun z => by rw [nI_leI (by omega) (by omega)] at z; omega
        have S := fun Q => @sg_X8_isSpelt_25 l (d + 4) Q c I (1001 + i) (1001 + i) (nI j) (nI (mx_slen.getD i 0)) (nI j)
        rw [h13, nI_add, nI_clamp (n := q + j) (by omega), (t3 (q + j) (by omega)).1] at S
        refine S _ (fun z => absurd z e1) (fun _ => i_vp (by omega) (by omega)) (fun _ => ?_)
        refine s_callVS (d := d + 4) (M' := mJ0_charAt_5068e) (As := [.int (nI j)]) (st := [.int (nI (b (q + j)))]) hi dX8_isSpelt_41 lm_X8_155 ovJ0_charAt_5068e rfl (by simp [Value.category]) (by decide) rfl ⟨_, sp_strChar (d := d) hi (by omega), ?_⟩
        rintro _ _ ⟨rfl, rfl⟩
        refine sg_X8_isSpelt_44 (1001 + i) _ _ _ _ (fun g2 => ?_) (fun g2 => ⟨?_, rfl⟩)
        · rw [nI_1]
          refine ih (j + 1) (by omega) (fun k hk => ?_)
          by_cases w : k = j
          · subst w; exact g2
          · exact hall k (by omega)
        · rw [show spS b q len i = false from decide_eq_false (fun z => g2 (z.2 j (by omega)))]; rfl
    exact lp (mx_slen.getD i 0) 0 (by omega) (fun k hk => absurd hk (Nat.not_lt_zero _))
  · rw [show spS b q len i = false from decide_eq_false (fun z => g (by rw [sub, z.1]))]; rfl
end C
