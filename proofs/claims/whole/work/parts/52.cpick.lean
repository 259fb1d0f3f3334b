/-! the class: carry, choose -/
section C
variable {l : Launch} {c : Nat} {P : Pm} {I0 : mx_I}
set_option maxHeartbeats 1000000 in
theorem sp_write {d : Nat} {A : HS} {I : mx_I} {x i t : Nat} (h : CR c P A I0 I) (hw : P.wr = true) :
    mx_Spec l mX0_write (d + 1) 0 0 [.ref 43, .int (nI x), .int (nI i), .int (nI t)] (sk0 c, I) (fun r h' => r = none ∧ ∃ I', h' = (sk0 c, I') ∧ CR c P (hs_write x i t A) I0 I' ∧ I' 72 = I 72 ∧ I' 65 5 = I 65 5) := by
  have hc := h.cc
  obtain ⟨b1, b2, b3⟩ := h.book
  have S := fun Q => @sn_X0_write l d Q c I (nI x) (nI i) (nI t)
  rw [b2, nI_clamp (by omega), nI_1] at S
  by_cases q : A.nk < 300
  · have e1 : ¬ (300 : Int32) ≤ nI A.nk := fun z => by rw [show (300 : Int32) = nI 300 from rfl, nI_leI (by omega) (by omega)] at z; omega
    have v : vp_in (nI A.nk) 300 := i_vp (by omega) (by omega)
    apply S <;> intros <;> with_reducible first | exact v | exact absurd ‹(300 : Int32) ≤ _› e1 | skip
    refine ⟨rfl, _, rfl, ?_, by rw [ms_ne (by omega), ms_ne (by omega), ms_ne (by omega), ms_ne (by omega)], by rw [ms_ne (by omega), ms_ne (by omega), ms_ne (by omega), ms_ne (by omega)]⟩
    have n : ∀ k, k ≠ 43 → k ≠ 44 → k ≠ 45 → k ≠ 46 → (mx_set (mx_set (mx_set (mx_set I 44 A.nk (nI x)) 45 A.nk (nI i)) 46 A.nk (nI t)) 43 3 (nI (A.nk + 1))) k = I k := fun k k1 k2 k3 k4 => by rw [ms_ne k1, ms_ne k4, ms_ne k3, ms_ne k2]
    have r43 : (mx_set (mx_set (mx_set (mx_set I 44 A.nk (nI x)) 45 A.nk (nI i)) 46 A.nk (nI t)) 43 3 (nI (A.nk + 1))) 43 3 = nI (A.nk + 1) := by rw [ms_self, upd_eq]
    have r44 : ∀ j, j < 3 → ∀ y, y < A.nk + 1 → (mx_set (mx_set (mx_set (mx_set I 44 A.nk (nI x)) 45 A.nk (nI i)) 46 A.nk (nI t)) 43 3 (nI (A.nk + 1))) (44 + j) y = mx_set (mx_set (mx_set A.r 44 A.nk (nI x)) 45 A.nk (nI i)) 46 A.nk (nI t) (44 + j) y := fun j hj y hy => by
      rw [ms_ne (by omega)]
      by_cases w : y = A.nk
      · subst w
        have : j = 0 ∨ j = 1 ∨ j = 2 := by omega
        rcases this with rfl | rfl | rfl
        · show mx_set (mx_set (mx_set I 44 A.nk (nI x)) 45 A.nk (nI i)) 46 A.nk (nI t) 44 A.nk = mx_set (mx_set (mx_set A.r 44 A.nk (nI x)) 45 A.nk (nI i)) 46 A.nk (nI t) 44 A.nk
          simp [ms_row, upd_eq]
        · show mx_set (mx_set (mx_set I 44 A.nk (nI x)) 45 A.nk (nI i)) 46 A.nk (nI t) 45 A.nk = mx_set (mx_set (mx_set A.r 44 A.nk (nI x)) 45 A.nk (nI i)) 46 A.nk (nI t) 45 A.nk
          simp [ms_row, upd_eq]
        · show mx_set (mx_set (mx_set I 44 A.nk (nI x)) 45 A.nk (nI i)) 46 A.nk (nI t) 46 A.nk = mx_set (mx_set (mx_set A.r 44 A.nk (nI x)) 45 A.nk (nI i)) 46 A.nk (nI t) 46 A.nk
          simp [ms_row, upd_eq]
      · exact ms_sync0 (ms_sync0 (ms_sync0 (b3 y (by omega) j hj)))
    generalize mx_set (mx_set (mx_set (mx_set I 44 A.nk (nI x)) 45 A.nk (nI i)) 46 A.nk (nI t)) 43 3 (nI (A.nk + 1)) = J at n r43 r44
    have ea : hs_write x i t A = (mx_set (mx_set (mx_set A.r 44 A.nk (nI x)) 45 A.nk (nI i)) 46 A.nk (nI t), A.hp, A.st, A.nk + 1, A.now) := by unfold hs_write; rw [if_pos q]
    have rr : ∀ k, k ≠ 44 → k ≠ 45 → k ≠ 46 → mx_set (mx_set (mx_set A.r 44 A.nk (nI x)) 45 A.nk (nI i)) 46 A.nk (nI t) k = A.r k := fun k k1 k2 k3 => by rw [ms_ne k3, ms_ne k2, ms_ne k1]
    rw [ea]
    obtain ⟨_, ⟨q1, q2, q3, q4, q5, q6, q7, q8⟩, hf⟩ := h
    refine ⟨hc, ⟨fun k k1 k2 k3 => ?_, fun f f1 f2 => ?_, fun l' hl j j1 j2 => ?_, ?_, fun i hi j j1 j2 => ?_, ?_, fun f f1 f2 => ?_, ⟨by show A.nk + 1 ≤ 300; omega, r43, fun i hi j hj => r44 j hj i hi⟩⟩, fun k k1 k2 k3 k4 k5 k6 => ?_⟩
    · rw [n k (by omega) (by omega) (by omega) (by omega)]; exact q1 k k1 k2 k3
    · rw [n _ (by omega) (by omega) (by omega) (by omega)]; exact q2 f f1 f2
    · rw [n _ (by omega) (by omega) (by omega) (by omega)]
      exact (q3 l' hl j j1 j2).trans (congrFun (rr j (by omega) (by omega) (by omega)).symm l')
    · exact q4.congr (n _ (by omega) (by omega) (by omega) (by omega)) (n _ (by omega) (by omega) (by omega) (by omega))
    · rw [n _ (by omega) (by omega) (by omega) (by omega)]
      exact (q5 i hi j j1 j2).trans (congrFun (rr j (by omega) (by omega) (by omega)).symm i)
    · rw [n _ (by omega) (by omega) (by omega) (by omega)]
      exact ⟨q6.1, q6.2.trans (congrFun (rr 0 (by omega) (by omega) (by omega)).symm 10)⟩
    · rw [n _ (by omega) (by omega) (by omega) (by omega)]
      exact (q7 f f1 f2).trans (congrFun (rr 65 (by omega) (by omega) (by omega)).symm f)
    · have := k3 hw
      rw [n k (by omega) (by omega) (by omega) (by omega)]; exact hf k k1 k2 k3 k4 k5 k6
  · have e1 : (300 : Int32) ≤ nI A.nk := by rw [show (300 : Int32) = nI 300 from rfl, nI_leI (by omega) (by omega)]; omega
    have ea : hs_write x i t A = A := by unfold hs_write; rw [if_neg q]
    rw [ea]
    apply S <;> intros <;> with_reducible first | exact absurd e1 ‹_› | exact ⟨rfl, I, rfl, h, rfl, rfl⟩
theorem hs_ones_nil {w : Bool} {to t i : Nat} {A : HS} : hs_ones P w to t i [] A = A := rfl
set_option maxHeartbeats 1000000 in
/-- the loop of carry -/
theorem cy_loop {d : Nat} {Q : Option Value → mx_H → Prop} {w : Bool} {ls : List Nat} {to t : Nat} {x1 x4 : Int32} {i0 : Nat} (hP : POk P) (ht : to ≤ P.nb) (hlen : ls.length ≤ 30) (hw : w = P.wr) (hx4 : w = true → x4 = nI i0) :
    ∀ (m i : Nat) (A : HS) (I : mx_I), i + m = ls.length → CR c P A I0 I → AInv P A (ls.drop i) → A.st + m < 2 ^ 30 → Picked I ls →
    (∀ I', CR c P (HS.set (hs_ones P w to t i0 (ls.drop i) A) 65 15 ((hs_ones P w to t i0 (ls.drop i) A).r 65 15 + nI ls.length)) I0 I' → Q none (sk0 c, I')) →
    mx_Go l (mx_rm (d + 3) 0 0) mX1_carry (mx_Z Q 0 0) 0 0 19 [.ref 65, .int x1, .int (nI to), .int (nI t), .int x4, .int (nI i), .retAddr 0] [] (sk0 c, I) := by
  obtain ⟨hP1, hP2, hP3, -⟩ := hP
  intro m
  induction m with
  | zero =>
    intro i A I hi h hA hst hp hQ
    have e1 : I 65 5 ≤ nI i := by rw [hp.1, nI_leI (by omega) (by omega)]; omega
    rw [List.drop_eq_nil_of_le (by omega), hs_ones_nil] at hQ
    refine sg_X1_carry_19 (at9_c h.cc) _ _ _ _ _ (fun _ => hQ _ ?_) (fun z => absurd e1 z) (fun z => absurd e1 z) (fun z => absurd e1 z) (fun z => absurd e1 z)
    rw [h.x (f := 15) (by omega) (by omega), hp.1]
    exact h.setX (by omega)
  | succ m ih =>
    intro i A I hi h hA hst hp hQ
    have hc := h.cc
    have hlt : i < ls.length := by omega
    rw [lw_getD hlt 0] at hA hQ
    have hx : ls.getD i 0 < P.nl := (hA.2.2.2.2.2 _ (by simp)).1
    have hroom := hA.room (e := to) (by omega)
    have e1 : ¬ I 65 5 ≤ nI i := fun z => by rw [hp.1, nI_leI (by omega) (by omega)] at z; omega
    have pj := hp.2 i hlt
    have S := @sg_X1_carry_19 l (d + 2) Q c I (at9_c hc) x1 (nI to) (nI t) x4 (nI i)
    rw [nI_clamp (n := i) (by omega), pj, nI_clamp (n := ls.getD i 0) (by omega), h.ld (j := 3) (by omega) (by omega) (by omega)] at S
    have h1 := h.setL (j := 3) (l := ls.getD i 0) (x := A.r 3 (ls.getD i 0) + 1) (by omega)
    have hA1 := hA.set (k := 3) (i := ls.getD i 0) (x := A.r 3 (ls.getD i 0) + 1) (by omega)
    refine S (fun z => absurd z e1) (fun _ => i_vp (by omega) (by omega)) (fun _ => i_vp (by omega) (by omega)) (fun _ => i_vp (by omega) (by omega)) (fun _ => ⟨_, sp_arrive h1 (by omega) (by omega) (by show (A.hp to).length < 30; omega), ?_⟩)
    rintro _ _ ⟨rfl, I', rfl, h2, f72, f65⟩
    have hp2 : Picked I' ls := ⟨by rw [f65, ms_ne (by omega)]; exact hp.1, fun j hj => by rw [f72, ms_ne (by omega)]; exact hp.2 j hj⟩
    have hA2 : AInv P (hs_comes P (ls.getD i 0) to t (A.set 3 (ls.getD i 0) (A.r 3 (ls.getD i 0) + 1))) (ls.drop (i + 1)) := hA1.comes ht (by omega) (by show A.st < 2 ^ 30; omega)
    have go : ∀ (B : HS) (J : mx_I) (z : Value), B = hs_one P w to t i0 (ls.getD i 0) A → CR c P B I0 J → AInv P B (ls.drop (i + 1)) → B.st = A.st + 1 → Picked J ls → mx_Go l (mx_rm (d + 3) 0 0) mX1_carry (mx_Z Q 0 0) 0 0 19 [.ref 65, .int x1, .int (nI to), .int (nI t), .int x4, .int (nI i + 1), z] [] (sk0 c, J) := by
      intro B J z hB hJ hAB hsB hpJ
      rw [nI_1]
      refine mx_fg (L' := [.ref 65, .int x1, .int (nI to), .int (nI t), .int x4, .int (nI (i + 1)), .retAddr 0]) (by simp [mx_le]) ?_
      refine ih (i + 1) B J (by omega) hJ hAB (by omega) hpJ (fun I2 h3 => hQ I2 ?_)
      rw [hB] at h3
      exact h3
    refine sg_X1_carry_59 (at9_c hc) _ _ _ _ _ _ (fun g => ?_) (fun g => ?_)
    · have wf : w = false := by
        rw [h2.crs (f := 7) (by omega) (by omega), hP3.2.2.2.2.2, ← hw] at g
        exact b2i_0.mp g
      exact go _ I' _ (by unfold hs_one; rw [wf]; rfl) h2 hA2 rfl hp2
    · have wt : w = true := by
        rw [h2.crs (f := 7) (by omega) (by omega), hP3.2.2.2.2.2, ← hw] at g
        cases w with
        | true => rfl
        | false => exact absurd rfl g
      rw [hx4 wt]
      refine ⟨_, sp_write h2 (by rw [← hw]; exact wt), ?_⟩
      rintro _ _ ⟨rfl, I2, rfl, h3, g72, g65⟩
      refine sg_X1_carry_78 (at9_c hc) _ _ _ _ _ _ ?_
      rw [← hx4 wt]
      exact go _ I2 _ (by unfold hs_one; rw [wt]; rfl) h3 hA2.write hs_write_st ⟨by rw [g65]; exact hp2.1, fun j hj => by rw [g72]; exact hp2.2 j hj⟩
theorem sp_carry {d : Nat} {A : HS} {I : mx_I} {w : Bool} {fr to t i0 : Nat} {x4 : Int32} {ls : List Nat} (hP : POk P) (h : CR c P A I0 I) (hA : AInv P A []) (hf : fr ≤ P.nb) (ht : to ≤ P.nb) (hs : ls.Sublist (A.hp fr)) (hp : Picked I ls) (hst : A.st < 2 ^ 29) (hw : w = P.wr) (hx4 : w = true → x4 = nI i0) :
    mx_Spec l mX1_carry (d + 3) 0 0 [.ref 65, .int (nI fr), .int (nI to), .int (nI t), .int x4] (sk0 c, I) (fun r h' => r = none ∧ ∃ I', h' = (sk0 c, I') ∧ CR c P (hs_carry P w fr to t i0 ls A) I0 I') := by
  have hP1 := hP.1
  have hlen : ls.length ≤ 30 := by
    have := hs.length_le
    have := hA.len (e := fr) (by omega)
    omega
  refine sn_X1_carry _ _ _ _ (at9_c h.cc) ?_
  rw [hp.1]
  refine ⟨_, sp_drop h hA (by omega) (by omega) hs hp.2, ?_⟩
  rintro _ _ ⟨rfl, I1, rfl, h1, f72, f65⟩
  refine sg_X1_carry_16 (at9_c h.cc) _ _ _ _ ?_
  refine cy_loop (w := w) (ls := ls) (i0 := i0) hP ht hlen hw hx4 ls.length 0 (hs_drop fr ls A) I1 (by omega) h1 (by rw [List.drop_zero]; exact hA.drop (by omega) hs) (by show A.st + _ < _; omega) ⟨by rw [f65]; exact hp.1, fun j hj => by rw [f72]; exact hp.2 j hj⟩ (fun I' h2 => ⟨rfl, I', rfl, ?_⟩)
  rw [List.drop_zero] at h2
  exact h2
end C
