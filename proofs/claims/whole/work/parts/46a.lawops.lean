/-! the class reads a law: joints (laid by wip/whole/gen/lawops.py) -/
section C
variable {l : Launch} {c : Nat}
set_option maxRecDepth 10000 in
set_option maxHeartbeats 2000000 in
theorem hd_b13 {d : Nat} {Q : Option Value → mx_H → Prop} {I : mx_I} {e n i : Nat} {x1 : Int32} (hb : vp_in (x1 + 1) 17) (he : I 30 (x1 + 1).toNatClampNeg = nI e) (hi : i < e) (he4 : e ≤ 400) (hn : n + 2 ≤ 64) (hv : I 29 i = -16)
    (k : mx_Go l (mx_rm (d + 1) 0 0) mX3_holds (mx_Z Q 0 0) 0 0 10 [.ref 28, .int x1, .ref 73, .int (nI (n + 1)), .int (nI (i + 1)), .retAddr 0, .retAddr 0, .retAddr 0, .retAddr 0] [] (sk0 c, mx_set I 32 n (lw_both 13 (I 32 n) (I 32 (n + 1))))) :
    mx_Go l (mx_rm (d + 1) 0 0) mX3_holds (mx_Z Q 0 0) 0 0 10 [.ref 28, .int x1, .ref 73, .int (nI (n + 2)), .int (nI i), .retAddr 0, .retAddr 0, .retAddr 0, .retAddr 0] [] (sk0 c, I) := by
  have e1 : ¬ nI e ≤ nI i := fun z => by rw [nI_leI (by omega) (by omega)] at z; omega
  have e2 : ¬ nI (n + 2) ≤ 1 := fun z => by rw [show (1 : Int32) = nI 1 from rfl, nI_leI (by omega) (by omega)] at z; omega
  have b1 : vp_in (nI i) 400 := i_vp (by omega) (by omega)
  have b2 : vp_in (nI n) 64 := i_vp (by omega) (by omega)
  have b3 : vp_in (nI (n + 1)) 64 := i_vp (by omega) (by omega)
  have S := @sg_X3_holds_10 l d Q c I x1 (nI (n + 2)) (nI i)
  rw [show nI (n + 2) + (-1) = nI (n + 1) from pk_m1 (n + 1), show nI (n + 1) - 1 = nI n from nI_pred n, he, nI_clamp (n := i) (by omega), nI_clamp (n := n) (by omega), nI_clamp (n := n + 1) (by omega), hv, nI_1 i] at S
  apply S <;> intros <;> with_reducible first | exact hb | exact absurd ‹nI e ≤ nI i› e1 | exact b1 | exact b2 | exact b3 | exact absurd ‹(0 : Int32) ≤ -16› (by decide) | exact absurd ‹(-16 : Int32) = -7› (by decide) | exact absurd ‹nI (n + 2) ≤ 1› e2 | exact absurd ‹(- (-16) - 8 : Int32) < 0› (by decide) | exact absurd (by decide) ‹¬ (7 : Int32) ≤ - (-16) - 8› | exact absurd (by decide) ‹¬ (- (-16) : Int32) = 16› | exact absurd ‹(- (-16) : Int32) = _› (by decide) | skip
  exact mx_fg (by simp [mx_le]) k
set_option maxRecDepth 10000 in
set_option maxHeartbeats 2000000 in
theorem hd_b14 {d : Nat} {Q : Option Value → mx_H → Prop} {I : mx_I} {e n i : Nat} {x1 : Int32} (hb : vp_in (x1 + 1) 17) (he : I 30 (x1 + 1).toNatClampNeg = nI e) (hi : i < e) (he4 : e ≤ 400) (hn : n + 2 ≤ 64) (hv : I 29 i = -17)
    (k : mx_Go l (mx_rm (d + 1) 0 0) mX3_holds (mx_Z Q 0 0) 0 0 10 [.ref 28, .int x1, .ref 73, .int (nI (n + 1)), .int (nI (i + 1)), .retAddr 0, .retAddr 0, .retAddr 0, .retAddr 0] [] (sk0 c, mx_set I 32 n (lw_both 14 (I 32 n) (I 32 (n + 1))))) :
    mx_Go l (mx_rm (d + 1) 0 0) mX3_holds (mx_Z Q 0 0) 0 0 10 [.ref 28, .int x1, .ref 73, .int (nI (n + 2)), .int (nI i), .retAddr 0, .retAddr 0, .retAddr 0, .retAddr 0] [] (sk0 c, I) := by
  have e1 : ¬ nI e ≤ nI i := fun z => by rw [nI_leI (by omega) (by omega)] at z; omega
  have e2 : ¬ nI (n + 2) ≤ 1 := fun z => by rw [show (1 : Int32) = nI 1 from rfl, nI_leI (by omega) (by omega)] at z; omega
  have b1 : vp_in (nI i) 400 := i_vp (by omega) (by omega)
  have b2 : vp_in (nI n) 64 := i_vp (by omega) (by omega)
  have b3 : vp_in (nI (n + 1)) 64 := i_vp (by omega) (by omega)
  have S := @sg_X3_holds_10 l d Q c I x1 (nI (n + 2)) (nI i)
  rw [show nI (n + 2) + (-1) = nI (n + 1) from pk_m1 (n + 1), show nI (n + 1) - 1 = nI n from nI_pred n, he, nI_clamp (n := i) (by omega), nI_clamp (n := n) (by omega), nI_clamp (n := n + 1) (by omega), hv, nI_1 i] at S
  apply S <;> intros <;> with_reducible first | exact hb | exact absurd ‹nI e ≤ nI i› e1 | exact b1 | exact b2 | exact b3 | exact absurd ‹(0 : Int32) ≤ -17› (by decide) | exact absurd ‹(-17 : Int32) = -7› (by decide) | exact absurd ‹nI (n + 2) ≤ 1› e2 | exact absurd ‹(- (-17) - 8 : Int32) < 0› (by decide) | exact absurd (by decide) ‹¬ (7 : Int32) ≤ - (-17) - 8› | exact absurd (by decide) ‹¬ (- (-17) : Int32) = 17› | exact absurd ‹(- (-17) : Int32) = _› (by decide) | skip
  exact mx_fg (by simp [mx_le]) k
set_option maxRecDepth 10000 in
set_option maxHeartbeats 2000000 in
theorem hd_b15 {d : Nat} {Q : Option Value → mx_H → Prop} {I : mx_I} {e n i : Nat} {x1 : Int32} (hb : vp_in (x1 + 1) 17) (he : I 30 (x1 + 1).toNatClampNeg = nI e) (hi : i < e) (he4 : e ≤ 400) (hn : n + 2 ≤ 64) (hv : I 29 i = -18)
    (k : mx_Go l (mx_rm (d + 1) 0 0) mX3_holds (mx_Z Q 0 0) 0 0 10 [.ref 28, .int x1, .ref 73, .int (nI (n + 1)), .int (nI (i + 1)), .retAddr 0, .retAddr 0, .retAddr 0, .retAddr 0] [] (sk0 c, mx_set I 32 n (lw_both 15 (I 32 n) (I 32 (n + 1))))) :
    mx_Go l (mx_rm (d + 1) 0 0) mX3_holds (mx_Z Q 0 0) 0 0 10 [.ref 28, .int x1, .ref 73, .int (nI (n + 2)), .int (nI i), .retAddr 0, .retAddr 0, .retAddr 0, .retAddr 0] [] (sk0 c, I) := by
  have e1 : ¬ nI e ≤ nI i := fun z => by rw [nI_leI (by omega) (by omega)] at z; omega
  have e2 : ¬ nI (n + 2) ≤ 1 := fun z => by rw [show (1 : Int32) = nI 1 from rfl, nI_leI (by omega) (by omega)] at z; omega
  have b1 : vp_in (nI i) 400 := i_vp (by omega) (by omega)
  have b2 : vp_in (nI n) 64 := i_vp (by omega) (by omega)
  have b3 : vp_in (nI (n + 1)) 64 := i_vp (by omega) (by omega)
  have S := @sg_X3_holds_10 l d Q c I x1 (nI (n + 2)) (nI i)
  rw [show nI (n + 2) + (-1) = nI (n + 1) from pk_m1 (n + 1), show nI (n + 1) - 1 = nI n from nI_pred n, he, nI_clamp (n := i) (by omega), nI_clamp (n := n) (by omega), nI_clamp (n := n + 1) (by omega), hv, nI_1 i] at S
  apply S <;> intros <;> with_reducible first | exact hb | exact absurd ‹nI e ≤ nI i› e1 | exact b1 | exact b2 | exact b3 | exact absurd ‹(0 : Int32) ≤ -18› (by decide) | exact absurd ‹(-18 : Int32) = -7› (by decide) | exact absurd ‹nI (n + 2) ≤ 1› e2 | exact absurd ‹(- (-18) - 8 : Int32) < 0› (by decide) | exact absurd (by decide) ‹¬ (7 : Int32) ≤ - (-18) - 8› | exact absurd (by decide) ‹¬ (- (-18) : Int32) = 18› | exact absurd ‹(- (-18) : Int32) = _› (by decide) | skip
  exact mx_fg (by simp [mx_le]) k
set_option maxRecDepth 10000 in
set_option maxHeartbeats 2000000 in
theorem hd_b16 {d : Nat} {Q : Option Value → mx_H → Prop} {I : mx_I} {e n i : Nat} {x1 : Int32} (hb : vp_in (x1 + 1) 17) (he : I 30 (x1 + 1).toNatClampNeg = nI e) (hi : i < e) (he4 : e ≤ 400) (hn : n + 2 ≤ 64) (hv : I 29 i = -19) (hz : ¬ I 32 (n + 1) = 0)
    (k : mx_Go l (mx_rm (d + 1) 0 0) mX3_holds (mx_Z Q 0 0) 0 0 10 [.ref 28, .int x1, .ref 73, .int (nI (n + 1)), .int (nI (i + 1)), .retAddr 0, .retAddr 0, .retAddr 0, .retAddr 0] [] (sk0 c, mx_set I 32 n (lw_both 16 (I 32 n) (I 32 (n + 1))))) :
    mx_Go l (mx_rm (d + 1) 0 0) mX3_holds (mx_Z Q 0 0) 0 0 10 [.ref 28, .int x1, .ref 73, .int (nI (n + 2)), .int (nI i), .retAddr 0, .retAddr 0, .retAddr 0, .retAddr 0] [] (sk0 c, I) := by
  have e1 : ¬ nI e ≤ nI i := fun z => by rw [nI_leI (by omega) (by omega)] at z; omega
  have e2 : ¬ nI (n + 2) ≤ 1 := fun z => by rw [show (1 : Int32) = nI 1 from rfl, nI_leI (by omega) (by omega)] at z; omega
  have b1 : vp_in (nI i) 400 := i_vp (by omega) (by omega)
  have b2 : vp_in (nI n) 64 := i_vp (by omega) (by omega)
  have b3 : vp_in (nI (n + 1)) 64 := i_vp (by omega) (by omega)
  have S := @sg_X3_holds_10 l d Q c I x1 (nI (n + 2)) (nI i)
  rw [show nI (n + 2) + (-1) = nI (n + 1) from pk_m1 (n + 1), show nI (n + 1) - 1 = nI n from nI_pred n, he, nI_clamp (n := i) (by omega), nI_clamp (n := n) (by omega), nI_clamp (n := n + 1) (by omega), hv, nI_1 i] at S
  apply S <;> intros <;> with_reducible first | exact hb | exact absurd ‹nI e ≤ nI i› e1 | exact b1 | exact b2 | exact b3 | exact absurd ‹(0 : Int32) ≤ -19› (by decide) | exact absurd ‹(-19 : Int32) = -7› (by decide) | exact absurd ‹nI (n + 2) ≤ 1› e2 | exact absurd ‹(- (-19) - 8 : Int32) < 0› (by decide) | exact absurd (by decide) ‹¬ (7 : Int32) ≤ - (-19) - 8› | exact absurd (by decide) ‹¬ (- (-19) : Int32) = 19› | exact absurd ‹(- (-19) : Int32) = _› (by decide) | exact hz | exact absurd ‹I 32 (n + 1) = 0› hz | skip
  exact mx_fg (by simp [mx_le]) k
set_option maxRecDepth 10000 in
set_option maxHeartbeats 2000000 in
theorem hd_b17 {d : Nat} {Q : Option Value → mx_H → Prop} {I : mx_I} {e n i : Nat} {x1 : Int32} (hb : vp_in (x1 + 1) 17) (he : I 30 (x1 + 1).toNatClampNeg = nI e) (hi : i < e) (he4 : e ≤ 400) (hn : n + 2 ≤ 64) (hv : I 29 i = -22)
    (k : mx_Go l (mx_rm (d + 1) 0 0) mX3_holds (mx_Z Q 0 0) 0 0 10 [.ref 28, .int x1, .ref 73, .int (nI (n + 1)), .int (nI (i + 1)), .retAddr 0, .retAddr 0, .retAddr 0, .retAddr 0] [] (sk0 c, mx_set I 32 n (lw_both 17 (I 32 n) (I 32 (n + 1))))) :
    mx_Go l (mx_rm (d + 1) 0 0) mX3_holds (mx_Z Q 0 0) 0 0 10 [.ref 28, .int x1, .ref 73, .int (nI (n + 2)), .int (nI i), .retAddr 0, .retAddr 0, .retAddr 0, .retAddr 0] [] (sk0 c, I) := by
  have e1 : ¬ nI e ≤ nI i := fun z => by rw [nI_leI (by omega) (by omega)] at z; omega
  have e2 : ¬ nI (n + 2) ≤ 1 := fun z => by rw [show (1 : Int32) = nI 1 from rfl, nI_leI (by omega) (by omega)] at z; omega
  have b1 : vp_in (nI i) 400 := i_vp (by omega) (by omega)
  have b2 : vp_in (nI n) 64 := i_vp (by omega) (by omega)
  have b3 : vp_in (nI (n + 1)) 64 := i_vp (by omega) (by omega)
  have S := @sg_X3_holds_10 l d Q c I x1 (nI (n + 2)) (nI i)
  rw [show nI (n + 2) + (-1) = nI (n + 1) from pk_m1 (n + 1), show nI (n + 1) - 1 = nI n from nI_pred n, he, nI_clamp (n := i) (by omega), nI_clamp (n := n) (by omega), nI_clamp (n := n + 1) (by omega), hv, nI_1 i] at S
  apply S <;> intros <;> with_reducible first | exact hb | exact absurd ‹nI e ≤ nI i› e1 | exact b1 | exact b2 | exact b3 | exact absurd ‹(0 : Int32) ≤ -22› (by decide) | exact absurd ‹(-22 : Int32) = -7› (by decide) | exact absurd ‹nI (n + 2) ≤ 1› e2 | exact absurd ‹(- (-22) - 8 : Int32) < 0› (by decide) | exact absurd (by decide) ‹¬ (7 : Int32) ≤ - (-22) - 8› | exact absurd (by decide) ‹¬ (- (-22) : Int32) = 22› | exact absurd ‹(- (-22) : Int32) = _› (by decide) | skip
  · rename_i g
    have g2 : ¬ (I 32 n < I 32 (n + 1)) := fun z => by rw [i_lt] at z; rw [i_le] at g; omega
    have g3 : lw_both 17 (I 32 n) (I 32 (n + 1)) = 0 := by show (if I 32 n < I 32 (n + 1) then (1 : Int32) else 0) = 0; rw [if_neg g2]
    rw [g3] at k
    exact mx_fg (by simp [mx_le]) k
  · rename_i g
    have g2 : (I 32 n < I 32 (n + 1)) := by rw [i_lt]; rw [i_le] at g; omega
    have g3 : lw_both 17 (I 32 n) (I 32 (n + 1)) = 1 := by show (if I 32 n < I 32 (n + 1) then (1 : Int32) else 0) = 1; rw [if_pos g2]
    rw [g3] at k
    exact mx_fg (by simp [mx_le]) k
set_option maxRecDepth 10000 in
set_option maxHeartbeats 2000000 in
theorem hd_b18 {d : Nat} {Q : Option Value → mx_H → Prop} {I : mx_I} {e n i : Nat} {x1 : Int32} (hb : vp_in (x1 + 1) 17) (he : I 30 (x1 + 1).toNatClampNeg = nI e) (hi : i < e) (he4 : e ≤ 400) (hn : n + 2 ≤ 64) (hv : I 29 i = -23)
    (k : mx_Go l (mx_rm (d + 1) 0 0) mX3_holds (mx_Z Q 0 0) 0 0 10 [.ref 28, .int x1, .ref 73, .int (nI (n + 1)), .int (nI (i + 1)), .retAddr 0, .retAddr 0, .retAddr 0, .retAddr 0] [] (sk0 c, mx_set I 32 n (lw_both 18 (I 32 n) (I 32 (n + 1))))) :
    mx_Go l (mx_rm (d + 1) 0 0) mX3_holds (mx_Z Q 0 0) 0 0 10 [.ref 28, .int x1, .ref 73, .int (nI (n + 2)), .int (nI i), .retAddr 0, .retAddr 0, .retAddr 0, .retAddr 0] [] (sk0 c, I) := by
  have e1 : ¬ nI e ≤ nI i := fun z => by rw [nI_leI (by omega) (by omega)] at z; omega
  have e2 : ¬ nI (n + 2) ≤ 1 := fun z => by rw [show (1 : Int32) = nI 1 from rfl, nI_leI (by omega) (by omega)] at z; omega
  have b1 : vp_in (nI i) 400 := i_vp (by omega) (by omega)
  have b2 : vp_in (nI n) 64 := i_vp (by omega) (by omega)
  have b3 : vp_in (nI (n + 1)) 64 := i_vp (by omega) (by omega)
  have S := @sg_X3_holds_10 l d Q c I x1 (nI (n + 2)) (nI i)
  rw [show nI (n + 2) + (-1) = nI (n + 1) from pk_m1 (n + 1), show nI (n + 1) - 1 = nI n from nI_pred n, he, nI_clamp (n := i) (by omega), nI_clamp (n := n) (by omega), nI_clamp (n := n + 1) (by omega), hv, nI_1 i] at S
  apply S <;> intros <;> with_reducible first | exact hb | exact absurd ‹nI e ≤ nI i› e1 | exact b1 | exact b2 | exact b3 | exact absurd ‹(0 : Int32) ≤ -23› (by decide) | exact absurd ‹(-23 : Int32) = -7› (by decide) | exact absurd ‹nI (n + 2) ≤ 1› e2 | exact absurd ‹(- (-23) - 8 : Int32) < 0› (by decide) | exact absurd (by decide) ‹¬ (7 : Int32) ≤ - (-23) - 8› | exact absurd (by decide) ‹¬ (- (-23) : Int32) = 23› | exact absurd ‹(- (-23) : Int32) = _› (by decide) | skip
  · rename_i g
    have g2 : ¬ (I 32 n = I 32 (n + 1)) := g
    have g3 : lw_both 18 (I 32 n) (I 32 (n + 1)) = 0 := by show (if I 32 n = I 32 (n + 1) then (1 : Int32) else 0) = 0; rw [if_neg g2]
    rw [g3] at k
    exact mx_fg (by simp [mx_le]) k
  · rename_i g
    have g2 : (I 32 n = I 32 (n + 1)) := g
    have g3 : lw_both 18 (I 32 n) (I 32 (n + 1)) = 1 := by show (if I 32 n = I 32 (n + 1) then (1 : Int32) else 0) = 1; rw [if_pos g2]
    rw [g3] at k
    exact mx_fg (by simp [mx_le]) k
set_option maxRecDepth 10000 in
set_option maxHeartbeats 2000000 in
theorem hd_b19 {d : Nat} {Q : Option Value → mx_H → Prop} {I : mx_I} {e n i : Nat} {x1 : Int32} (hb : vp_in (x1 + 1) 17) (he : I 30 (x1 + 1).toNatClampNeg = nI e) (hi : i < e) (he4 : e ≤ 400) (hn : n + 2 ≤ 64) (hv : I 29 i = -24)
    (k : mx_Go l (mx_rm (d + 1) 0 0) mX3_holds (mx_Z Q 0 0) 0 0 10 [.ref 28, .int x1, .ref 73, .int (nI (n + 1)), .int (nI (i + 1)), .retAddr 0, .retAddr 0, .retAddr 0, .retAddr 0] [] (sk0 c, mx_set I 32 n (lw_both 19 (I 32 n) (I 32 (n + 1))))) :
    mx_Go l (mx_rm (d + 1) 0 0) mX3_holds (mx_Z Q 0 0) 0 0 10 [.ref 28, .int x1, .ref 73, .int (nI (n + 2)), .int (nI i), .retAddr 0, .retAddr 0, .retAddr 0, .retAddr 0] [] (sk0 c, I) := by
  have e1 : ¬ nI e ≤ nI i := fun z => by rw [nI_leI (by omega) (by omega)] at z; omega
  have e2 : ¬ nI (n + 2) ≤ 1 := fun z => by rw [show (1 : Int32) = nI 1 from rfl, nI_leI (by omega) (by omega)] at z; omega
  have b1 : vp_in (nI i) 400 := i_vp (by omega) (by omega)
  have b2 : vp_in (nI n) 64 := i_vp (by omega) (by omega)
  have b3 : vp_in (nI (n + 1)) 64 := i_vp (by omega) (by omega)
  have S := @sg_X3_holds_10 l d Q c I x1 (nI (n + 2)) (nI i)
  rw [show nI (n + 2) + (-1) = nI (n + 1) from pk_m1 (n + 1), show nI (n + 1) - 1 = nI n from nI_pred n, he, nI_clamp (n := i) (by omega), nI_clamp (n := n) (by omega), nI_clamp (n := n + 1) (by omega), hv, nI_1 i] at S
  apply S <;> intros <;> with_reducible first | exact hb | exact absurd ‹nI e ≤ nI i› e1 | exact b1 | exact b2 | exact b3 | exact absurd ‹(0 : Int32) ≤ -24› (by decide) | exact absurd ‹(-24 : Int32) = -7› (by decide) | exact absurd ‹nI (n + 2) ≤ 1› e2 | exact absurd ‹(- (-24) - 8 : Int32) < 0› (by decide) | exact absurd (by decide) ‹¬ (7 : Int32) ≤ - (-24) - 8› | exact absurd (by decide) ‹¬ (- (-24) : Int32) = 24› | exact absurd ‹(- (-24) : Int32) = _› (by decide) | skip
  · rename_i g
    have g2 : ¬ (I 32 (n + 1) < I 32 n) := fun z => by rw [i_lt] at z; rw [i_le] at g; omega
    have g3 : lw_both 19 (I 32 n) (I 32 (n + 1)) = 0 := by show (if I 32 (n + 1) < I 32 n then (1 : Int32) else 0) = 0; rw [if_neg g2]
    rw [g3] at k
    exact mx_fg (by simp [mx_le]) k
  · rename_i g
    have g2 : (I 32 (n + 1) < I 32 n) := by rw [i_lt]; rw [i_le] at g; omega
    have g3 : lw_both 19 (I 32 n) (I 32 (n + 1)) = 1 := by show (if I 32 (n + 1) < I 32 n then (1 : Int32) else 0) = 1; rw [if_pos g2]
    rw [g3] at k
    exact mx_fg (by simp [mx_le]) k
set_option maxRecDepth 10000 in
set_option maxHeartbeats 2000000 in
theorem hd_b21 {d : Nat} {Q : Option Value → mx_H → Prop} {I : mx_I} {e n i : Nat} {x1 : Int32} (hb : vp_in (x1 + 1) 17) (he : I 30 (x1 + 1).toNatClampNeg = nI e) (hi : i < e) (he4 : e ≤ 400) (hn : n + 2 ≤ 64) (hv : I 29 i = -6)
    (k : mx_Go l (mx_rm (d + 1) 0 0) mX3_holds (mx_Z Q 0 0) 0 0 10 [.ref 28, .int x1, .ref 73, .int (nI (n + 1)), .int (nI (i + 1)), .retAddr 0, .retAddr 0, .retAddr 0, .retAddr 0] [] (sk0 c, mx_set I 32 n (lw_both 21 (I 32 n) (I 32 (n + 1))))) :
    mx_Go l (mx_rm (d + 1) 0 0) mX3_holds (mx_Z Q 0 0) 0 0 10 [.ref 28, .int x1, .ref 73, .int (nI (n + 2)), .int (nI i), .retAddr 0, .retAddr 0, .retAddr 0, .retAddr 0] [] (sk0 c, I) := by
  have e1 : ¬ nI e ≤ nI i := fun z => by rw [nI_leI (by omega) (by omega)] at z; omega
  have e2 : ¬ nI (n + 2) ≤ 1 := fun z => by rw [show (1 : Int32) = nI 1 from rfl, nI_leI (by omega) (by omega)] at z; omega
  have b1 : vp_in (nI i) 400 := i_vp (by omega) (by omega)
  have b2 : vp_in (nI n) 64 := i_vp (by omega) (by omega)
  have b3 : vp_in (nI (n + 1)) 64 := i_vp (by omega) (by omega)
  have S := @sg_X3_holds_10 l d Q c I x1 (nI (n + 2)) (nI i)
  rw [show nI (n + 2) + (-1) = nI (n + 1) from pk_m1 (n + 1), show nI (n + 1) - 1 = nI n from nI_pred n, he, nI_clamp (n := i) (by omega), nI_clamp (n := n) (by omega), nI_clamp (n := n + 1) (by omega), hv, nI_1 i] at S
  apply S <;> intros <;> with_reducible first | exact hb | exact absurd ‹nI e ≤ nI i› e1 | exact b1 | exact b2 | exact b3 | exact absurd ‹(0 : Int32) ≤ -6› (by decide) | exact absurd ‹(-6 : Int32) = -7› (by decide) | exact absurd ‹nI (n + 2) ≤ 1› e2 | exact absurd (by decide) ‹¬ (- (-6) - 8 : Int32) < 0› | exact absurd (by decide) ‹¬ (- (-6) : Int32) = 6› | exact absurd ‹(- (-6) : Int32) = _› (by decide) | skip
  exact mx_fg (by simp [mx_le]) k
set_option maxRecDepth 10000 in
set_option maxHeartbeats 2000000 in
theorem hd_b22 {d : Nat} {Q : Option Value → mx_H → Prop} {I : mx_I} {e n i : Nat} {x1 : Int32} (hb : vp_in (x1 + 1) 17) (he : I 30 (x1 + 1).toNatClampNeg = nI e) (hi : i < e) (he4 : e ≤ 400) (hn : n + 2 ≤ 64) (hv : I 29 i = -5)
    (k : mx_Go l (mx_rm (d + 1) 0 0) mX3_holds (mx_Z Q 0 0) 0 0 10 [.ref 28, .int x1, .ref 73, .int (nI (n + 1)), .int (nI (i + 1)), .retAddr 0, .retAddr 0, .retAddr 0, .retAddr 0] [] (sk0 c, mx_set I 32 n (lw_both 22 (I 32 n) (I 32 (n + 1))))) :
    mx_Go l (mx_rm (d + 1) 0 0) mX3_holds (mx_Z Q 0 0) 0 0 10 [.ref 28, .int x1, .ref 73, .int (nI (n + 2)), .int (nI i), .retAddr 0, .retAddr 0, .retAddr 0, .retAddr 0] [] (sk0 c, I) := by
  have e1 : ¬ nI e ≤ nI i := fun z => by rw [nI_leI (by omega) (by omega)] at z; omega
  have e2 : ¬ nI (n + 2) ≤ 1 := fun z => by rw [show (1 : Int32) = nI 1 from rfl, nI_leI (by omega) (by omega)] at z; omega
  have b1 : vp_in (nI i) 400 := i_vp (by omega) (by omega)
  have b2 : vp_in (nI n) 64 := i_vp (by omega) (by omega)
  have b3 : vp_in (nI (n + 1)) 64 := i_vp (by omega) (by omega)
  have S := @sg_X3_holds_10 l d Q c I x1 (nI (n + 2)) (nI i)
  rw [show nI (n + 2) + (-1) = nI (n + 1) from pk_m1 (n + 1), show nI (n + 1) - 1 = nI n from nI_pred n, he, nI_clamp (n := i) (by omega), nI_clamp (n := n) (by omega), nI_clamp (n := n + 1) (by omega), hv, nI_1 i] at S
  apply S <;> intros <;> with_reducible first | exact hb | exact absurd ‹nI e ≤ nI i› e1 | exact b1 | exact b2 | exact b3 | exact absurd ‹(0 : Int32) ≤ -5› (by decide) | exact absurd ‹(-5 : Int32) = -7› (by decide) | exact absurd ‹nI (n + 2) ≤ 1› e2 | exact absurd (by decide) ‹¬ (- (-5) - 8 : Int32) < 0› | exact absurd ‹(- (-5) : Int32) = _› (by decide) | skip
  exact mx_fg (by simp [mx_le]) k
set_option maxRecDepth 10000 in
set_option maxHeartbeats 2000000 in
theorem hd_not {d : Nat} {Q : Option Value → mx_H → Prop} {I : mx_I} {e n i : Nat} {x1 : Int32} (hb : vp_in (x1 + 1) 17) (he : I 30 (x1 + 1).toNatClampNeg = nI e) (hi : i < e) (he4 : e ≤ 400) (hn : n + 1 ≤ 64) (hv : I 29 i = -7)
    (k : mx_Go l (mx_rm (d + 1) 0 0) mX3_holds (mx_Z Q 0 0) 0 0 10 [.ref 28, .int x1, .ref 73, .int (nI (n + 1)), .int (nI (i + 1)), .retAddr 0, .retAddr 0, .retAddr 0, .retAddr 0] [] (sk0 c, mx_set I 32 n (1 - I 32 n))) :
    mx_Go l (mx_rm (d + 1) 0 0) mX3_holds (mx_Z Q 0 0) 0 0 10 [.ref 28, .int x1, .ref 73, .int (nI (n + 1)), .int (nI i), .retAddr 0, .retAddr 0, .retAddr 0, .retAddr 0] [] (sk0 c, I) := by
  have e1 : ¬ nI e ≤ nI i := fun z => by rw [nI_leI (by omega) (by omega)] at z; omega
  have e2 : ¬ nI (n + 1) ≤ 0 := nI_nle (by omega) (by omega)
  have b1 : vp_in (nI i) 400 := i_vp (by omega) (by omega)
  have b2 : vp_in (nI n) 64 := i_vp (by omega) (by omega)
  have S := @sg_X3_holds_10 l d Q c I x1 (nI (n + 1)) (nI i)
  rw [show nI (n + 1) - 1 = nI n from nI_pred n, he, nI_clamp (n := i) (by omega), nI_clamp (n := n) (by omega), hv, nI_1 i] at S
  apply S <;> intros <;> with_reducible first | exact hb | exact absurd ‹nI e ≤ nI i› e1 | exact b1 | exact b2 | exact absurd ‹(0 : Int32) ≤ -7› (by decide) | exact absurd rfl ‹¬ (-7 : Int32) = -7› | exact absurd ‹nI (n + 1) ≤ 0› e2 | exact absurd (by decide) ‹¬ (- (-7) - 8 : Int32) < 0› | skip
  exact mx_fg (by simp [mx_le]) k
end C
