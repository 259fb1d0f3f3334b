/-! the class: one hour, hours -/
section C
variable {l : Launch} {c : Nat} {P : Pm} {I0 : mx_I}
def hs_togo (P : Pm) (i t : Nat) (A : HS) : Bool := decide (A.r 7 i = -1 ∧ ((P.R 15 i = 0 ∧ nI t = P.R 9 i) ∨ (P.R 15 i = 1 ∧ P.R 9 i ≤ nI t ∧ (A.hp (pm_fr P 10 i) = [] ∨ P.R 9 i + P.R 16 i ≤ nI t))))
set_option maxHeartbeats 1000000 in
theorem sp_isToGo {d t : Nat} {A : HS} {I : mx_I} {i : Nat} (hP : POk P) (h : CR c P A I0 I) (hi : i < P.nc) :
    mx_Spec l mX1_isToGo (d + 1) 0 0 [.ref 65, .int (nI i), .int (nI t)] (sk0 c, I) (fun r h' => r = some (.int (b2i (hs_togo P i t A))) ∧ h' = (sk0 c, I)) := by
  have hP1 := hP.1
  obtain ⟨w1, w2, w3, w4, w5⟩ := (hP.2.2.2.2.2.2.1 i hi).get hP
  obtain ⟨v1, v2, v3⟩ := h.heap (pm_fr P 10 i) (by omega)
  have S := fun Q => @sn_X1_isToGo l d Q c I (nI i) (nI t) (at9_c h.cc)
  rw [nI_clamp (n := i) (by omega), h.told (k := 15) (by omega) (by omega) (by omega), h.told (k := 16) (by omega) (by omega) (by omega), h.told (k := 9) (by omega) (by omega) (by omega), h.told (k := 10) (by omega) (by omega) (by omega), h.told (k := 11) (by omega) (by omega) (by omega), h.cro (j := 7) (by omega) (by omega) (by omega), w1, nI_clamp (n := pm_fr P 10 i) (by omega), v1] at S
  have b1 : vp_in (nI i) 20 := i_vp (by omega) (by omega)
  have b2 : vp_in (nI (pm_fr P 10 i)) 4 := i_vp (by omega) (by omega)
  have hb : nI (A.hp (pm_fr P 10 i)).length = 0 ↔ A.hp (pm_fr P 10 i) = [] := by
    rw [show (0 : Int32) = nI 0 from rfl, nI_eq (by omega) (by omega), List.length_eq_zero_iff]
  have lt_le : ∀ a b : Int32, a < b → ¬ b ≤ a := fun a b z w => by rw [i_lt] at z; rw [i_le] at w; omega
  have nlt_le : ∀ a b : Int32, ¬ a < b → b ≤ a := fun a b z => by rw [i_lt] at z; rw [i_le]; omega
  have f0 : ¬ (A.r 7 i = -1 ∧ ((P.R 15 i = 0 ∧ nI t = P.R 9 i) ∨ (P.R 15 i = 1 ∧ P.R 9 i ≤ nI t ∧ (A.hp (pm_fr P 10 i) = [] ∨ P.R 9 i + P.R 16 i ≤ nI t)))) → hs_togo P i t A = false := fun z => decide_eq_false z
  have f1 : (A.r 7 i = -1 ∧ ((P.R 15 i = 0 ∧ nI t = P.R 9 i) ∨ (P.R 15 i = 1 ∧ P.R 9 i ≤ nI t ∧ (A.hp (pm_fr P 10 i) = [] ∨ P.R 9 i + P.R 16 i ≤ nI t)))) → hs_togo P i t A = true := fun z => decide_eq_true z
  apply S <;> intros <;> with_reducible first | exact b1 | exact b2 | skip
  · rename_i g1 g2 g3 g4; exact ⟨by rw [f0 (fun z => z.2.elim (fun w => g2 w.1) (fun w => g4 w.1))]; rfl, rfl⟩
  · rename_i g1 g2 g3 g4 g5; exact ⟨by rw [f0 (fun z => z.2.elim (fun w => g2 w.1) (fun w => lt_le _ _ g5 w.2.1))]; rfl, rfl⟩
  · rename_i g1 g2 g3 g4 g5 g6; exact ⟨by rw [f0 (fun z => z.2.elim (fun w => g2 w.1) (fun w => w.2.2.elim (fun y => g3 (hb.mpr y)) (lt_le _ _ g6)))]; rfl, rfl⟩
  · rename_i g1 g2 g3 g4 g5 g6; exact ⟨by rw [f1 ⟨g1, Or.inr ⟨g4, nlt_le _ _ g5, Or.inr (nlt_le _ _ g6)⟩⟩]; rfl, rfl⟩
  · rename_i g1 g2 g3 g4; exact ⟨by rw [f0 (fun z => z.2.elim (fun w => g2 w.1) (fun w => g4 w.1))]; rfl, rfl⟩
  · rename_i g1 g2 g3 g4 g5; exact ⟨by rw [f0 (fun z => z.2.elim (fun w => g2 w.1) (fun w => lt_le _ _ g5 w.2.1))]; rfl, rfl⟩
  · rename_i g1 g2 g3 g4 g5; exact ⟨by rw [f1 ⟨g1, Or.inr ⟨g4, nlt_le _ _ g5, Or.inl (hb.mp g3)⟩⟩]; rfl, rfl⟩
  · rename_i g1 g2 g3; exact ⟨by rw [f0 (fun z => z.2.elim (fun w => g3 w.2) (fun w => absurd (g2.symm.trans w.1) (by decide)))]; rfl, rfl⟩
  · rename_i g1 g2 g3; exact ⟨by rw [f1 ⟨g1, Or.inl ⟨g2, g3⟩⟩]; rfl, rfl⟩
  · rename_i g1; exact ⟨by rw [f0 (fun z => g1 z.1)]; rfl, rfl⟩
theorem goes_iff {fm t i : Nat} {A : HS} {x : Int32} (ht : t < 168) (hi : i < P.nc) (hm : bt x i = true ↔ (hs_wk P fm i t ∧ bt (P.R 65 10) i = false)) (hW : WInv P fm t A) : hs_goes P i t A = true ↔ (bt x i = true ∧ hs_togo P i t A = true) := by
  have tt : (nI t).toInt = t := nI_toInt (by omega)
  have le_t : ∀ a : Int32, a ≤ nI t ↔ a.toInt ≤ t := fun a => by rw [i_le, tt]
  have e1 : hs_goes P i t A = true ↔ (A.r 7 i = -1 ∧ bt (P.R 65 10) i = false ∧ P.R 9 i ≤ nI t ∧ ((P.R 15 i = 0 ∧ nI t = P.R 9 i) ∨ (P.R 15 i = 1 ∧ (P.R 9 i + P.R 16 i ≤ nI t ∨ A.hp (pm_fr P 10 i) = [])))) := by unfold hs_goes; simp
  have e2 : hs_togo P i t A = true ↔ (A.r 7 i = -1 ∧ ((P.R 15 i = 0 ∧ nI t = P.R 9 i) ∨ (P.R 15 i = 1 ∧ P.R 9 i ≤ nI t ∧ (A.hp (pm_fr P 10 i) = [] ∨ P.R 9 i + P.R 16 i ≤ nI t)))) := by unfold hs_togo; simp
  rw [e1, e2, hm]
  constructor
  · rintro ⟨h1, h2, h3, h4⟩
    rcases h4 with ⟨h4, h5⟩ | ⟨h4, h5⟩
    · exact ⟨⟨Or.inl ⟨h4, h5.symm⟩, h2⟩, h1, Or.inl ⟨h4, h5⟩⟩
    · exact ⟨⟨Or.inr ⟨h4, (le_t _).mp h3, hW i hi h4 h1 h2⟩, h2⟩, h1, Or.inr ⟨h4, h3, h5.symm⟩⟩
  · rintro ⟨⟨-, h2⟩, h1, h4 | ⟨h4, h5, h6⟩⟩
    · exact ⟨h1, h2, by rw [← h4.2, le_t, tt]; omega, Or.inl h4⟩
    · exact ⟨h1, h2, h5, Or.inr ⟨h4, h6.symm⟩⟩
theorem good_walk1 {A : HS} {t i : Nat} (hP : POk P) (ht : t < 2 ^ 30) (hA : AInv P A []) (hi : i < P.nc) (hst : A.st + 30 * hs_un A P.nc < 2 ^ 29) : Good P t 0 A (hs_walk1 P t i A) := by
  unfold hs_walk1
  split
  · rename_i q
    exact good_cross hP ht 20 i A hA hi (of_decide_eq_true q).1 hst
  · exact Good.refl hA
theorem WInv.mono {fm t : Nat} {A B : HS} (h : WInv P fm t A) (hm : ∀ j, B.r 7 j = -1 → A.r 7 j = -1) : WInv P fm t B := fun i hi h1 h2 h3 => h i hi h1 (hm i h2) h3
theorem good_offer1 {A : HS} {t i : Nat} (hP : POk P) (ht : t < 2 ^ 30) (hA : AInv P A []) (hi : i < P.no) (hst : A.st + 30 * hs_un A P.nc < 2 ^ 29) : Good P t 30 A (hs_offer1 P t i A) := by
  have hP1 := hP.1
  obtain ⟨w1, w2, w3, w4, w5⟩ := (hP.2.2.2.2.2.2.2 i hi).get hP
  unfold hs_offer1
  split
  · exact good_carry hA w3 w4 (by omega) (by omega) (hs_pick_sub P A _ _ _ _) (by omega)
  · exact (Good.refl hA).weak (by omega)
set_option maxHeartbeats 1000000 in
/-- the offers that were hired -/
theorem of_loop {d : Nat} {Q : Option Value → mx_H → Prop} {t : Nat} {x2 x3 : Int32} (hP : POk P) (ht : t < 168) (hwr : P.wr = true → P.R 65 9 = 0) (hm : ∀ i, i < P.no → (bt x3 i = true ↔ (bt (P.R 65 9) i = true ∧ P.R 19 i = nI t))) : ∀ (m i : Nat) (A : HS) (I : mx_I), i + m = P.no → CR c P A I0 I → AInv P A [] → A.st + 30 * hs_un A P.nc + 30 * m < 2 ^ 29 →
    (∀ I', CR c P (hs_run (hs_offer1 P t) m i A) I0 I' → Q none (sk0 c, I')) →
    mx_Go l (mx_rm (d + 4) 0 0) mX1_pass (mx_Z Q 0 0) 0 0 137 [.ref 65, .int (nI t), .int x2, .int x3, .int (nI i), .retAddr 0, .retAddr 0] [] (sk0 c, I) := by
  have hP1 := hP.1
  intro m
  induction m with
  | zero =>
    intro i A I hi h hA hst hQ
    have e1 : I 18 5 ≤ nI i := by rw [h.told (k := 18) (by omega) (by omega) (by omega), hP.2.2.1.2.2.2.1, nI_leI (by omega) (by omega)]; omega
    refine sg_X1_pass_137 (at9_c h.cc) _ _ _ _ (fun _ => hQ I h) (fun _ _ => hQ I h) ?_ ?_ ?_ ?_ ?_ ?_ ?_ <;> exact fun _ z => absurd e1 z
  | succ m ih =>
    intro i A I hi h hA hst hQ
    have hcc := h.cc
    have e1 : ¬ I 18 5 ≤ nI i := fun z => by rw [h.told (k := 18) (by omega) (by omega) (by omega), hP.2.2.1.2.2.2.1, nI_leI (by omega) (by omega)] at z; omega
    have hio : i < P.no := by omega
    obtain ⟨w1, w2, w3, w4, w5⟩ := (hP.2.2.2.2.2.2.2 i hio).get hP
    have gd := good_offer1 (t := t) hP (by omega) hA hio (by omega)
    have nx : ∀ J (y z : Value), CR c P (hs_offer1 P t i A) I0 J → mx_Go l (mx_rm (d + 4) 0 0) mX1_pass (mx_Z Q 0 0) 0 0 137 [.ref 65, .int (nI t), .int x2, .int x3, .int (nI i + 1), y, z] [] (sk0 c, J) := fun J y z hJ => by
      rw [nI_1]
      refine mx_fg (L' := [.ref 65, .int (nI t), .int x2, .int x3, .int (nI (i + 1)), .retAddr 0, .retAddr 0]) (by simp [mx_le]) ?_
      exact ih (i + 1) _ J (by omega) hJ gd.1 (by have := gd.2.2.2.1; omega) (fun I' h' => hQ I' h')
    have none_ : (∀ k, k < P.no → ¬ (bt (P.R 65 9) k = true ∧ P.R 19 k = nI t)) → hs_run (hs_offer1 P t) (m + 1) i A = A := fun z => run_id (n := P.no) (fun k hk => by unfold hs_offer1; rw [if_neg (z k hk)]) (m + 1) i hi
    have b1 : vp_in (nI i) 8 := i_vp (by omega) (by omega)
    have S := @sg_X1_pass_137 l (d + 3) Q c I (at9_c hcc) (nI t) x2 x3 (nI i)
    rw [nI_clamp (n := i) (by omega), h.told (k := 20) (by omega) (by omega) (by omega), h.told (k := 21) (by omega) (by omega) (by omega), h.told (k := 22) (by omega) (by omega) (by omega), w1, w2] at S
    refine S (fun z => ?_) (fun _ z => absurd z e1) (fun _ _ g => ?_) (fun _ _ _ => b1) (fun _ _ _ => b1) (fun _ _ _ => b1) (fun _ _ _ => b1) (fun _ _ _ => b1) (fun _ _ g => ?_)
    · refine hQ I ?_
      rw [none_ (fun k hk w => ?_)]
      · exact h
      · have := (hm k hk).mpr w
        rw [z, b_0] at this
        exact absurd this (by simp)
    · refine nx I _ _ ?_
      unfold hs_offer1
      rw [if_neg (fun z => g ((b_get1 (by omega)).mpr ((hm i hio).mpr z)))]
      exact h
    · have hy := (hm i hio).mp ((b_get1 (by omega)).mp g)
      have wf : P.wr = false := by
        cases q : P.wr with
        | false => rfl
        | true =>
          have := hy.1
          rw [hwr q, b_0] at this
          exact absurd this (by simp)
      refine ⟨_, sp_choose (d := d) (free := P.R 22 i) (own := 0) (t := t) hP h hA w3, ?_⟩
      rintro _ _ ⟨rfl, I1, rfl, h1, hp1⟩
      refine sg_X1_pass_247 (at9_c hcc) _ _ _ _ _ _ _ ⟨_, sp_carry (d := d) (w := false) (i0 := 0) hP h1 hA w3 w4 (hs_pick_sub P A _ _ _ _) hp1 (by omega) wf.symm (fun z => absurd z (by simp)), ?_⟩
      rintro _ _ ⟨rfl, I2, rfl, h2⟩
      refine sg_X1_pass_258 (at9_c hcc) _ _ _ _ _ _ (nx I2 _ _ ?_)
      unfold hs_offer1
      rw [if_pos hy]
      exact h2
set_option maxHeartbeats 1000000 in
/-- those who walk -/
theorem wa_loop {d : Nat} {Q : Option Value → mx_H → Prop} {t fm : Nat} {x2 : Int32} (hP : POk P) (ht : t < 168) (hm : ∀ i, i < P.nc → (bt x2 i = true ↔ (hs_wk P fm i t ∧ bt (P.R 65 10) i = false))) : ∀ (m i : Nat) (A : HS) (I : mx_I), i + m = P.nc → CR c P A I0 I → AInv P A [] → WInv P fm t A → A.st + 30 * hs_un A P.nc < 2 ^ 29 →
    (∀ I', CR c P (hs_run (hs_walk1 P t) m i A) I0 I' → mx_Go l (mx_rm (d + 25) 0 0) mX1_pass (mx_Z Q 0 0) 0 0 137 [.ref 65, .int (nI t), .int x2, .int (I0 70 t &&& P.R 65 9), .int 0, .retAddr 0, .retAddr 0] [] (sk0 c, I')) →
    mx_Go l (mx_rm (d + 25) 0 0) mX1_pass (mx_Z Q 0 0) 0 0 70 [.ref 65, .int (nI t), .int x2, .int (nI i), .retAddr 0, .retAddr 0, .retAddr 0] [] (sk0 c, I) := by
  have hP1 := hP.1
  have b1 : vp_in (nI t) 168 := i_vp (by omega) (by omega)
  intro m
  induction m with
  | zero =>
    intro i A I hi h hA hW hst hQ
    have e1 : I 8 9 ≤ nI i := by rw [h.told (k := 8) (by omega) (by omega) (by omega), hP.2.2.1.2.2.1, nI_leI (by omega) (by omega)]; omega
    have S := @sg_X1_pass_70 l (d + 24) Q c I (at9_c h.cc) (nI t) x2 (nI i)
    rw [nI_clamp (n := t) (by omega), h.old (k := 70) (by omega), h.crs (f := 9) (by omega) (by omega)] at S
    exact S (fun _ => b1) (fun _ => hQ I h) (fun _ _ => b1) (fun _ _ => hQ I h) (fun _ z => absurd e1 z) (fun _ z => absurd e1 z)
  | succ m ih =>
    intro i A I hi h hA hW hst hQ
    have hcc := h.cc
    have hic : i < P.nc := by omega
    have e1 : ¬ I 8 9 ≤ nI i := fun z => by rw [h.told (k := 8) (by omega) (by omega) (by omega), hP.2.2.1.2.2.1, nI_leI (by omega) (by omega)] at z; omega
    have gd := good_walk1 (t := t) hP (by omega) hA hic hst
    have gi := goes_iff (P := P) ht hic (hm i hic) hW
    have nx : ∀ J, CR c P (hs_walk1 P t i A) I0 J → mx_Go l (mx_rm (d + 25) 0 0) mX1_pass (mx_Z Q 0 0) 0 0 70 [.ref 65, .int (nI t), .int x2, .int (nI i + 1), .retAddr 0, .retAddr 0, .retAddr 0] [] (sk0 c, J) := fun J hJ => by
      rw [nI_1]
      exact ih (i + 1) _ J (by omega) hJ gd.1 (hW.mono (gd.mono (by omega))) (by have := gd.2.2.2.1; omega) (fun I' h' => hQ I' h')
    have skip : ¬ hs_goes P i t A = true → CR c P (hs_walk1 P t i A) I0 I := fun z => by
      unfold hs_walk1
      rw [if_neg z]; exact h
    have S := @sg_X1_pass_70 l (d + 24) Q c I (at9_c hcc) (nI t) x2 (nI i)
    rw [nI_clamp (n := t) (by omega), h.old (k := 70) (by omega), h.crs (f := 9) (by omega) (by omega)] at S
    refine S (fun _ => b1) (fun z => ?_) (fun _ z => absurd z e1) (fun _ z => absurd z e1) (fun _ _ g => ?_) (fun _ _ g => ⟨_, sp_isToGo (d := d + 23) hP h hic, ?_⟩)
    · refine hQ I ?_
      have hid : hs_run (hs_walk1 P t) (m + 1) i A = A := run_id (n := P.nc) (fun k hk => by
        unfold hs_walk1
        rw [if_neg]
        intro w
        have := ((goes_iff (P := P) ht hk (hm k hk) hW).mp w).1
        rw [z, b_0] at this
        exact absurd this (by simp)) (m + 1) i hi
      rw [hid]; exact h
    · exact nx I (skip (fun w => g ((b_get1 (by omega)).mpr (gi.mp w).1)))
    · rintro _ _ ⟨rfl, rfl⟩
      refine sg_X1_pass_103 (at9_c hcc) _ _ _ _ (fun z => ?_) (fun z => ?_)
      · exact nx I (skip (fun w => by rw [(gi.mp w).2] at z; exact absurd z (by decide)))
      · have htg : hs_togo P i t A = true := by
          cases q : hs_togo P i t A with
          | true => rfl
          | false => rw [q] at z; exact absurd rfl z
        have hg : hs_goes P i t A = true := gi.mpr ⟨(b_get1 (by omega)).mp g, htg⟩
        refine ⟨_, sp_cross (d := d) hP (by omega) 20 0 i A I (by omega) h hA hic (of_decide_eq_true hg).1 (Nat.le_trans (un_le _) (by omega)) hst, ?_⟩
        rintro _ _ ⟨rfl, I', rfl, h'⟩
        refine sg_X1_pass_113 (at9_c hcc) _ _ _ (nx I' ?_)
        unfold hs_walk1
        rw [if_pos hg]
        exact h'
end C
