/-! the class reads a law -/
section C
variable {l : Launch} {c : Nat}
theorem lw_neg {k : Nat} (h : k < 2 ^ 30) : (-(-(nI k + 7)) - 8 : Int32) = nI k - 1 := by
  rw [Int32.neg_neg]
  rw [show (8 : Int32) = 7 + 1 from rfl, ← Int32.sub_sub, Int32.add_sub_cancel]
theorem lw_negt {k : Nat} (h : k < 2 ^ 29) : (-(nI k + 7) : Int32).toInt = -((k : Int) + 7) := by
  rw [show (nI k + 7 : Int32) = nI (k + 7) from nI_add k 7, ← Int32.zero_sub]
  have := pk_sub_toInt (a := 0) (b := k + 7) (by omega) (by omega)
  rw [nI_0] at this
  rw [this]
  omega
set_option maxRecDepth 10000 in
set_option maxHeartbeats 2000000 in
theorem hd_num {d : Nat} {Q : Option Value → mx_H → Prop} {I : mx_I} {e n i : Nat} {x1 v : Int32} (hb : vp_in (x1 + 1) 17) (he : I 30 (x1 + 1).toNatClampNeg = nI e) (hi : i < e) (he4 : e ≤ 400) (hn : n < 64) (hv : I 29 i = v) (h0 : 0 ≤ v.toInt)
    (k : mx_Go l (mx_rm (d + 1) 0 0) mX3_holds (mx_Z Q 0 0) 0 0 10 [.ref 28, .int x1, .ref 73, .int (nI (n + 1)), .int (nI (i + 1)), .retAddr 0, .retAddr 0, .retAddr 0, .retAddr 0] [] (sk0 c, mx_set I 32 n v)) :
    mx_Go l (mx_rm (d + 1) 0 0) mX3_holds (mx_Z Q 0 0) 0 0 10 [.ref 28, .int x1, .ref 73, .int (nI n), .int (nI i), .retAddr 0, .retAddr 0, .retAddr 0, .retAddr 0] [] (sk0 c, I) := by
  have e1 : ¬ nI e ≤ nI i := fun z => by rw [nI_leI (by omega) (by omega)] at z; omega
  have e0 : (0 : Int32) ≤ v := (i_le _ _).mpr h0
  have en : ¬ v < 0 := fun z => by have : v.toInt < 0 := (i_lt _ _).mp z; omega
  have e64 : ¬ (64 : Int32) ≤ nI n := fun z => by rw [show (64 : Int32) = nI 64 from rfl, nI_leI (by omega) (by omega)] at z; omega
  have b1 : vp_in (nI i) 400 := i_vp (by omega) (by omega)
  have b2 : vp_in (nI n) 64 := i_vp (by omega) (by omega)
  have S := @sg_X3_holds_10 l d Q c I x1 (nI n) (nI i)
  rw [he, nI_clamp (by omega), nI_clamp (by omega), hv, nI_1, nI_1] at S
  apply S <;> intros <;> with_reducible first | exact hb | exact absurd ‹nI e ≤ nI i› e1 | exact b1 | exact b2 | exact absurd e0 ‹_› | exact absurd ‹(64 : Int32) ≤ nI n› e64 | exact absurd ‹v < 0› en | skip
  refine mx_fg (by simp [mx_le]) k
set_option maxRecDepth 10000 in
set_option maxHeartbeats 2000000 in
theorem hd_fact {d : Nat} {Q : Option Value → mx_H → Prop} {I : mx_I} {e n i k : Nat} {x1 : Int32} (hb : vp_in (x1 + 1) 17) (he : I 30 (x1 + 1).toNatClampNeg = nI e) (hi : i < e) (he4 : e ≤ 400) (hn : n < 64) (hv : I 29 i = -(nI k + 7)) (h0 : 1 ≤ k ∧ k ≤ 7)
    (k : mx_Go l (mx_rm (d + 1) 0 0) mX3_holds (mx_Z Q 0 0) 0 0 10 [.ref 28, .int x1, .ref 73, .int (nI (n + 1)), .int (nI (i + 1)), .retAddr 0, .retAddr 0, .retAddr 0, .retAddr 0] [] (sk0 c, mx_set I 32 n (I 73 (k - 1)))) :
    mx_Go l (mx_rm (d + 1) 0 0) mX3_holds (mx_Z Q 0 0) 0 0 10 [.ref 28, .int x1, .ref 73, .int (nI n), .int (nI i), .retAddr 0, .retAddr 0, .retAddr 0, .retAddr 0] [] (sk0 c, I) := by
  rename_i k0
  have e1 : ¬ nI e ≤ nI i := fun z => by rw [nI_leI (by omega) (by omega)] at z; omega
  have ht := lw_negt (k := k0) (by omega)
  have e0 : ¬ (0 : Int32) ≤ -(nI k0 + 7) := fun z => by have : (0 : Int) ≤ (-(nI k0 + 7) : Int32).toInt := (i_le _ _).mp z; omega
  have e64 : ¬ (64 : Int32) ≤ nI n := fun z => by rw [show (64 : Int32) = nI 64 from rfl, nI_leI (by omega) (by omega)] at z; omega
  have b1 : vp_in (nI i) 400 := i_vp (by omega) (by omega)
  have b2 : vp_in (nI n) 64 := i_vp (by omega) (by omega)
  have ex : (-(-(nI k0 + 7)) - 8 : Int32) = nI (k0 - 1) := by
    rw [lw_neg (by omega)]
    obtain ⟨j, rfl⟩ : ∃ j, k0 = j + 1 := ⟨k0 - 1, by omega⟩
    rw [nI_pred]; rfl
  have b3 : vp_in (nI (k0 - 1)) 7 := i_vp (by omega) (by omega)
  have f1 : ¬ nI (k0 - 1) < 0 := nI_pos (by omega)
  have f2 : ¬ (7 : Int32) ≤ nI (k0 - 1) := fun z => by rw [show (7 : Int32) = nI 7 from rfl, nI_leI (by omega) (by omega)] at z; omega
  have f3 : (-(nI k0 + 7) : Int32) < 0 := (i_lt _ _).mpr (by rw [ht]; show _ < (0 : Int); omega)
  have S := @sg_X3_holds_10 l d Q c I x1 (nI n) (nI i)
  rw [he, nI_clamp (by omega), nI_clamp (by omega), hv, nI_1, nI_1, ex, nI_clamp (by omega)] at S
  apply S <;> intros <;> with_reducible first | exact hb | exact absurd ‹nI e ≤ nI i› e1 | exact b1 | exact b2 | exact b3 | exact absurd ‹(0 : Int32) ≤ _› e0 | exact absurd ‹(64 : Int32) ≤ nI n› e64 | exact absurd ‹nI (k0 - 1) < 0› f1 | exact absurd ‹(7 : Int32) ≤ nI (k0 - 1)› f2 | exact absurd f3 ‹_› | skip
  exact mx_fg (by simp [mx_le]) k
end C
