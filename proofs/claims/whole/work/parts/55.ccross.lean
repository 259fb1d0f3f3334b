/-! the class: crossing -/
theorem good_cross1 {P : Pm} {A : HS} {i t : Nat} (hP : POk P) (hA : AInv P A []) (hi : i < P.nc) (hc : A.r 7 i = -1) (ht : t < 2 ^ 30) (hst : A.st + 30 * hs_un A P.nc < 2 ^ 29) : Good P t 0 A (hs_cross1 P i t A) ∧ hs_un (hs_cross1 P i t A) P.nc + 1 ≤ hs_un A P.nc ∧ (hs_cross1 P i t A).r 7 i = nI t := by
  have hP1 := hP.1
  obtain ⟨g1, g2⟩ := good_cr hA hi hc ht
  obtain ⟨w1, w2, w3, w4, w5⟩ := (hP.2.2.2.2.2.2.1 i hi).get hP
  have un : ∀ B : HS, (∀ j, B.r 7 j = (A.set 7 i (nI t)).r 7 j) → hs_un B P.nc + 1 ≤ hs_un A P.nc ∧ B.r 7 i = nI t := fun B hB => by
    rw [un_congr hB]
    have : (A.set 7 i (nI t)).st = A.st := rfl
    exact ⟨by omega, by rw [hB]; show mx_set _ 7 i _ 7 i = _; rw [ms_self, upd_eq]⟩
  unfold hs_cross1
  simp only
  split
  · refine ⟨?_, un _ (fun j => ?_)⟩
    · have h1 := good_set (t := t) (k := 9) (i := i) (x := P.R 65 8) g1.1 (by omega)
      have h2 := good_set (t := t) (k := 0) (i := 10) (x := A.r 0 10 + P.R 65 8) h1.1 (by omega)
      have h3 := good_set (t := t) (k := 65) (i := 14) (x := if A.r 65 14 = -1 then P.R 14 i * (hs_pick P A (pm_fr P 10 i) (P.R 12 i - P.R 13 i) (P.R 13 i) t).2 else if P.R 14 i * (hs_pick P A (pm_fr P 10 i) (P.R 12 i - P.R 13 i) (P.R 13 i) t).2 < A.r 65 14 then P.R 14 i * (hs_pick P A (pm_fr P 10 i) (P.R 12 i - P.R 13 i) (P.R 13 i) t).2 else A.r 65 14) h2.1 (by omega)
      exact ((g1.trans h1 ht).trans h2 ht).trans h3 ht
    · rw [HS.at_ne (by omega), HS.at_ne (by omega), HS.at_ne (by omega)]
  · have h1 := good_set (t := t) (k := 8) (i := i) (x := (hs_pick P A (pm_fr P 10 i) (P.R 12 i - P.R 13 i) (P.R 13 i) t).2) g1.1 (by omega)
    have h2 := good_carry (w := P.wr) (fr := pm_fr P 10 i) (to := pm_to P 10 i) (t := t) (c := i) (ls := (hs_pick P A (pm_fr P 10 i) (P.R 12 i - P.R 13 i) (P.R 13 i) t).1) h1.1 w3 w4 (by omega) (by omega) (hs_pick_sub P A (pm_fr P 10 i) (P.R 12 i - P.R 13 i) (P.R 13 i) t) (by show A.st < 2 ^ 29; omega)
    have h3 := (g1.trans h1 ht).trans h2 ht
    obtain ⟨k1, k2⟩ := carry_keep (w := P.wr) (fr := pm_fr P 10 i) (to := pm_to P 10 i) (t := t) (c := i) (ls := (hs_pick P A (pm_fr P 10 i) (P.R 12 i - P.R 13 i) (P.R 13 i) t).1) h1.1 w3 w4 (by omega) (by omega) (hs_pick_sub P A (pm_fr P 10 i) (P.R 12 i - P.R 13 i) (P.R 13 i) t) (by show A.st < 2 ^ 29; omega)
    have q7 : ∀ j, (hs_carry P P.wr (pm_fr P 10 i) (pm_to P 10 i) t i (hs_pick P A (pm_fr P 10 i) (P.R 12 i - P.R 13 i) (P.R 13 i) t).1 ((A.set 7 i (nI t)).set 8 i (hs_pick P A (pm_fr P 10 i) (P.R 12 i - P.R 13 i) (P.R 13 i) t).2)).r 7 j = (A.set 7 i (nI t)).r 7 j := fun j => by
      rw [k1 7 j (by omega) (by omega), HS.at_ne (by omega)]
    have u := un _ q7
    refine ⟨?_, u⟩
    obtain ⟨a1, a2, a3, a4, a5, a6, a7⟩ := h3
    refine ⟨a1, a2, a3, ?_, a5, a6, a7⟩
    have k3 : (hs_carry P P.wr (pm_fr P 10 i) (pm_to P 10 i) t i (hs_pick P A (pm_fr P 10 i) (P.R 12 i - P.R 13 i) (P.R 13 i) t).1 ((A.set 7 i (nI t)).set 8 i (hs_pick P A (pm_fr P 10 i) (P.R 12 i - P.R 13 i) (P.R 13 i) t).2)).st ≤ A.st + 30 := k2
    have := u.1
    omega
theorem good_cross {P : Pm} {t : Nat} (hP : POk P) (ht : t < 2 ^ 30) : ∀ (n i : Nat) (A : HS), AInv P A [] → i < P.nc → A.r 7 i = -1 → A.st + 30 * hs_un A P.nc < 2 ^ 29 → Good P t 0 A (hs_cross P t n i A)
  | 0, i, A, hA, _, _, _ => Good.refl hA
  | n + 1, i, A, hA, hi, hc, hst => by
    obtain ⟨h1, h2, h3⟩ := good_cross1 hP hA hi hc ht hst
    have h4 := good_run (P := P) (t := t) (k := 0) (f := fun j B => if hs_behind P j i B = true then hs_cross P t n j B else B) (n := P.nc) ht (fun j B hj hB hs => by
      split
      · rename_i hb
        exact good_cross hP ht n j B hB hj (of_decide_eq_true hb).2.2.1 hs
      · exact Good.refl hB) P.nc 0 (hs_cross1 P i t A) (by omega) h1.1 (by have := h1.2.2.2.1; omega)
    have h5 := h1.trans h4 ht
    rw [Nat.zero_mul] at h5
    exact h5
section C
variable {l : Launch} {c : Nat} {P : Pm} {I0 : mx_I}
set_option maxHeartbeats 1000000 in
theorem sp_isBehind {d : Nat} {A : HS} {I : mx_I} {j i : Nat} (hP : POk P) (h : CR c P A I0 I) (hj : j < P.nc) :
    mx_Spec l mX1_isBehind (d + 1) 0 0 [.ref 65, .int (nI j), .int (nI i)] (sk0 c, I) (fun r h' => r = some (.int (b2i (hs_behind P j i A))) ∧ h' = (sk0 c, I)) := by
  have hP1 := hP.1
  have S := fun Q => @sn_X1_isBehind l d Q c I (nI j) (nI i) (at9_c h.cc)
  rw [nI_clamp (n := j) (by omega), h.told (k := 15) (by omega) (by omega) (by omega), h.told (k := 16) (by omega) (by omega) (by omega), h.cro (j := 7) (by omega) (by omega) (by omega), h.crs (f := 10) (by omega) (by omega), b_get (by omega)] at S
  have b1 : vp_in (nI j) 20 := i_vp (by omega) (by omega)
  have f0 : ¬ (P.R 15 j = 2 ∧ P.R 16 j = nI i ∧ A.r 7 j = -1 ∧ bt (P.R 65 10) j = false) → hs_behind P j i A = false := fun z => decide_eq_false z
  apply S <;> intros <;> with_reducible first | exact b1 | skip
  · rename_i g1; exact ⟨by rw [f0 (fun z => g1 z.1)]; rfl, rfl⟩
  · rename_i g1 g2; exact ⟨by rw [f0 (fun z => g2 z.2.1)]; rfl, rfl⟩
  · rename_i g1 g2 g3; exact ⟨by rw [f0 (fun z => g3 z.2.2.1)]; rfl, rfl⟩
  · rename_i g1 g2 g3 g4; exact ⟨by rw [f0 (fun z => g4 (by rw [z.2.2.2]; rfl))]; rfl, rfl⟩
  · rename_i g1 g2 g3 g4
    exact ⟨by rw [show hs_behind P j i A = true from decide_eq_true ⟨g1, g2, g3, b2i_0.mp g4⟩]; rfl, rfl⟩
set_option maxHeartbeats 2000000 in
/-- one crossing and those behind him -/
theorem sp_cross {d t : Nat} (hP : POk P) (ht : t < 2 ^ 30) : ∀ (n dep i : Nat) (A : HS) (I : mx_I), n + dep = 20 → CR c P A I0 I → AInv P A [] → i < P.nc → A.r 7 i = -1 → hs_un A P.nc ≤ n → A.st + 30 * hs_un A P.nc < 2 ^ 29 →
    mx_Spec l mX1_cross (d + n + 4) 0 0 [.ref 65, .int (nI i), .int (nI t), .int (nI dep)] (sk0 c, I) (fun r h' => r = none ∧ ∃ I', h' = (sk0 c, I') ∧ CR c P (hs_cross P t n i A) I0 I')
  | 0, dep, i, A, I, _, _, _, hi, hc, hu, _ => by
    have := un_pos hc P.nc hi
    omega
  | n + 1, dep, i, A, I, hd, h, hA, hi, hc, hu, hst => by
    have hP1 := hP.1
    have hcc := h.cc
    obtain ⟨w1, w2, w3, w4, w5⟩ := (hP.2.2.2.2.2.2.1 i hi).get hP
    obtain ⟨gd, gu, g7⟩ := good_cross1 hP hA hi hc ht hst
    have b1 : vp_in (nI i) 20 := i_vp (by omega) (by omega)
    have e20 : ¬ (20 : Int32) ≤ nI dep := fun z => by rw [show (20 : Int32) = nI 20 from rfl, nI_leI (by omega) (by omega)] at z; omega
    -- those behind
    have lp : ∀ (x4 x5 x6 x7 : Int32) (m j : Nat) (B : HS) (J : mx_I), j + m = P.nc → CR c P B I0 J → AInv P B [] → (∀ k, B.r 7 k = -1 → (hs_cross1 P i t A).r 7 k = -1) → B.st + 30 * hs_un B P.nc < 2 ^ 29 → hs_run (fun j B => if hs_behind P j i B = true then hs_cross P t n j B else B) m j B = hs_cross P t (n + 1) i A →
        mx_Go l (mx_rm (d + (n + 1) + 4) 0 0) mX1_cross (mx_Z (fun r h' => r = none ∧ ∃ I', h' = (sk0 c, I') ∧ CR c P (hs_cross P t (n + 1) i A) I0 I') 0 0) 0 0 203 [.ref 65, .int (nI i), .int (nI t), .int (nI dep), .ref 8, .int x4, .int x5, .int x6, .int x7, .int (nI j)] [] (sk0 c, J) := by
      intro x4 x5 x6 x7 m
      induction m with
      | zero =>
        intro j B J hj hJ hB hm hs hr
        have e1 : J 8 9 ≤ nI j := by rw [hJ.told (k := 8) (by omega) (by omega) (by omega), hP.2.2.1.2.2.1, nI_leI (by omega) (by omega)]; omega
        refine sg_X1_cross_203 (d := d + (n + 1) + 3) (at9_c hcc) _ _ _ _ _ _ _ _ (fun _ => ⟨rfl, J, rfl, ?_⟩) (fun z => absurd e1 z)
        rw [← hr]
        exact hJ
      | succ m ih =>
        intro j B J hj hJ hB hm hs hr
        have e1 : ¬ J 8 9 ≤ nI j := fun z => by rw [hJ.told (k := 8) (by omega) (by omega) (by omega), hP.2.2.1.2.2.1, nI_leI (by omega) (by omega)] at z; omega
        refine sg_X1_cross_203 (d := d + (n + 1) + 3) (at9_c hcc) _ _ _ _ _ _ _ _ (fun z => absurd z e1) (fun _ => ⟨_, sp_isBehind (d := d + (n + 1) + 2) hP hJ (by omega), ?_⟩)
        rintro _ _ ⟨rfl, rfl⟩
        rw [hs_run] at hr
        refine sg_X1_cross_220 (d := d + (n + 1) + 3) (at9_c hcc) _ _ _ _ _ _ _ _ _ (fun g => ?_) (fun g => ?_)
        · have hb := b2i_0.mp g
          rw [hb] at hr
          rw [nI_1]
          exact ih (j + 1) B J (by omega) hJ hB hm hs hr
        · have hb : hs_behind P j i B = true := by
            cases q : hs_behind P j i B with
            | true => rfl
            | false => exact absurd (b2i_0.mpr q) g
          rw [hb] at hr
          have hj7 : B.r 7 j = -1 := (of_decide_eq_true hb).2.2.1
          have hun : hs_un B P.nc ≤ n := by
            have := un_mono (A := hs_cross1 P i t A) (B := B) hm P.nc
            omega
          have gg := good_cross hP ht n j B hB (by omega) hj7 hs
          have SC := sp_cross (d := d) hP ht n (dep + 1) j B J (by omega) hJ hB (by omega) hj7 hun hs
          rw [nI_1 dep]
          refine ⟨_, SC, ?_⟩
          rintro _ _ ⟨rfl, J2, rfl, hJ2⟩
          refine sg_X1_cross_233 (d := d + (n + 1) + 3) (at9_c hcc) _ _ _ _ _ _ _ _ ?_
          rw [nI_1 j]
          exact ih (j + 1) _ J2 (by omega) hJ2 gg.1 (fun k hk => hm k (gg.mono ht k hk)) (by have := gg.2.2.2.1; omega) hr
    have S := fun Q => @sn_X1_cross l (d + (n + 1) + 3) Q c I (nI i) (nI t) (nI dep) (at9_c hcc)
    rw [nI_clamp (n := i) (by omega), h.told (k := 10) (by omega) (by omega) (by omega), h.told (k := 11) (by omega) (by omega) (by omega), h.told (k := 12) (by omega) (by omega) (by omega), h.told (k := 13) (by omega) (by omega) (by omega), w1, w2] at S
    refine S _ b1 b1 b1 b1 b1 b1 b1 ⟨_, sp_choose (d := d + n + 1) hP h hA w3, ?_⟩
    rintro _ _ ⟨rfl, I1, rfl, h1, hp1⟩
    have T := fun Q => @sg_X1_cross_74 l (d + (n + 1) + 3) Q c I1 (at9_c hcc) (nI i) (nI t) (nI dep) (nI (pm_fr P 10 i)) (nI (pm_to P 10 i)) (hs_pick P A (pm_fr P 10 i) (P.R 12 i - P.R 13 i) (P.R 13 i) t).2
    simp only [ms_ne (show (65 : Nat) ≠ c + 7 by omega), ms_ne (show (65 : Nat) ≠ c + 9 by omega), ms_ne (show (65 : Nat) ≠ c by omega)] at T
    rw [nI_clamp (n := i) (by omega), h1.crs (f := 8) (by omega) (by omega), h1.told (k := 14) (by omega) (by omega) (by omega), h1.tolls, h1.x (f := 14) (by omega) (by omega)] at T
    have hstop : hs_run (fun j B => if hs_behind P j i B = true then hs_cross P t n j B else B) P.nc 0 (hs_cross1 P i t A) = hs_cross P t (n + 1) i A := rfl
    have B7 := h1.setC (j := 7) (l := i) (x := nI t) (by omega)
    have carry : ¬ (¬ P.R 65 8 = -1 ∧ P.R 65 8 < P.R 14 i * (hs_pick P A (pm_fr P 10 i) (P.R 12 i - P.R 13 i) (P.R 13 i) t).2) → mx_K1 l mX1_carry (d + (n + 1) + 3) [.ref 65, .int (nI (pm_fr P 10 i)), .int (nI (pm_to P 10 i)), .int (nI t), .int (nI i)] (sk0 c, mx_set (mx_set I1 (c + 7) i (nI t)) (c + 8) i (hs_pick P A (pm_fr P 10 i) (P.R 12 i - P.R 13 i) (P.R 13 i) t).2) (fun r h' => mx_Go l (mx_rm (d + (n + 1) + 3 + 1) 0 0) mX1_cross (mx_Z (fun r h' => r = none ∧ ∃ I', h' = (sk0 c, I') ∧ CR c P (hs_cross P t (n + 1) i A) I0 I') 0 0) 0 0 194 [.ref 65, .int (nI i), .int (nI t), .int (nI dep), .ref 8, .int (nI (pm_fr P 10 i)), .int (nI (pm_to P 10 i)), .int (hs_pick P A (pm_fr P 10 i) (P.R 12 i - P.R 13 i) (P.R 13 i) t).2, .int (P.R 14 i * (hs_pick P A (pm_fr P 10 i) (P.R 12 i - P.R 13 i) (P.R 13 i) t).2), .retAddr 0] (r.toList ++ []) h') := by
      intro hno
      have h2 := B7.setC (j := 8) (l := i) (x := (hs_pick P A (pm_fr P 10 i) (P.R 12 i - P.R 13 i) (P.R 13 i) t).2) (by omega)
      have hA2 : AInv P ((A.set 7 i (nI t)).set 8 i (hs_pick P A (pm_fr P 10 i) (P.R 12 i - P.R 13 i) (P.R 13 i) t).2) [] := (hA.set (by omega)).set (by omega)
      refine ⟨_, sp_carry (d := d + (n + 1)) (w := P.wr) (i0 := i) hP h2 hA2 w3 w4 (hs_pick_sub P A (pm_fr P 10 i) (P.R 12 i - P.R 13 i) (P.R 13 i) t) ⟨by rw [ms_ne (by omega), ms_ne (by omega)]; exact hp1.1, fun j hj => by rw [ms_ne (by omega), ms_ne (by omega)]; exact hp1.2 j hj⟩ (by show A.st < 2 ^ 29; omega) rfl (fun _ => rfl), ?_⟩
      rintro _ _ ⟨rfl, I2, rfl, h3⟩
      refine sg_X1_cross_194 (at9_c hcc) _ _ _ _ _ _ _ (fun z => absurd z e20) (fun _ => ?_)
      have ec : hs_cross1 P i t A = hs_carry P P.wr (pm_fr P 10 i) (pm_to P 10 i) t i (hs_pick P A (pm_fr P 10 i) (P.R 12 i - P.R 13 i) (P.R 13 i) t).1 ((A.set 7 i (nI t)).set 8 i (hs_pick P A (pm_fr P 10 i) (P.R 12 i - P.R 13 i) (P.R 13 i) t).2) := by
        unfold hs_cross1
        simp only
        rw [if_neg hno]
      rw [← ec] at h3
      exact lp _ _ _ _ P.nc 0 _ I2 (by omega) h3 gd.1 (fun _ z => z) (by have := gd.2.2.2.1; omega) hstop
    have pay : ∀ y : Int32, (¬ P.R 65 8 = -1 ∧ P.R 65 8 < P.R 14 i * (hs_pick P A (pm_fr P 10 i) (P.R 12 i - P.R 13 i) (P.R 13 i) t).2) → (y = if A.r 65 14 = -1 then P.R 14 i * (hs_pick P A (pm_fr P 10 i) (P.R 12 i - P.R 13 i) (P.R 13 i) t).2 else if P.R 14 i * (hs_pick P A (pm_fr P 10 i) (P.R 12 i - P.R 13 i) (P.R 13 i) t).2 < A.r 65 14 then P.R 14 i * (hs_pick P A (pm_fr P 10 i) (P.R 12 i - P.R 13 i) (P.R 13 i) t).2 else A.r 65 14) → mx_Go l (mx_rm (d + (n + 1) + 3 + 1) 0 0) mX1_cross (mx_Z (fun r h' => r = none ∧ ∃ I', h' = (sk0 c, I') ∧ CR c P (hs_cross P t (n + 1) i A) I0 I') 0 0) 0 0 203 [.ref 65, .int (nI i), .int (nI t), .int (nI dep), .ref 8, .int (nI (pm_fr P 10 i)), .int (nI (pm_to P 10 i)), .int (hs_pick P A (pm_fr P 10 i) (P.R 12 i - P.R 13 i) (P.R 13 i) t).2, .int (P.R 14 i * (hs_pick P A (pm_fr P 10 i) (P.R 12 i - P.R 13 i) (P.R 13 i) t).2), .int 0] [] (sk0 c, mx_set (mx_set (mx_set (mx_set I1 (c + 7) i (nI t)) (c + 9) i (P.R 65 8)) c 10 (A.r 0 10 + P.R 65 8)) 65 14 y) := by
      intro y hyes hy
      have h2 := ((B7.setC (j := 9) (l := i) (x := P.R 65 8) (by omega)).setS (x := A.r 0 10 + P.R 65 8)).setX (f := 14) (x := y) (by omega)
      have ec : hs_cross1 P i t A = (((A.set 7 i (nI t)).set 9 i (P.R 65 8)).set 0 10 (A.r 0 10 + P.R 65 8)).set 65 14 y := by
        unfold hs_cross1
        simp only
        rw [if_pos hyes, hy]
      rw [← ec] at h2
      exact lp _ _ _ _ P.nc 0 _ _ (by omega) h2 gd.1 (fun _ z => z) (by have := gd.2.2.2.1; omega) hstop
    apply T <;> intros <;> with_reducible first | exact b1 | exact absurd ‹(20 : Int32) ≤ nI dep› e20 | skip
    · rename_i g
      exact carry (fun z => z.1 g)
    · rename_i g1 g2
      exact carry (fun z => by have := z.2; rw [i_lt] at this; rw [i_le] at g2; omega)
    · rename_i g1 g2 g3 g4
      exact pay _ ⟨g1, by rw [i_lt]; rw [i_le] at g2; omega⟩ (by rw [if_neg g3])
    · rename_i g1 g2 g3 g4
      exact pay _ ⟨g1, by rw [i_lt]; rw [i_le] at g2; omega⟩ (by rw [if_pos g3])
end C
