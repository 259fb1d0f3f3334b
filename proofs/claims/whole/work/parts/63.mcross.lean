/-! the model: crossing -/
section M
variable {l : Launch} {c : Nat} {P : Pm} {I0 : mx_I}
theorem sp_mayCross {d : Nat} {A : HS} {I : mx_I} {i : Nat} (hP : P.nc ≤ 20) (h : MR P A I0 I) (hi : i < P.nc) : mx_Spec l mX12_mayCross (d + 2) 0 0 [.ref 120, .int (nI i)] (sk0 c, I) (fun r h' => r = some (.int (b2i (decide (A.r 7 i = -1 ∧ bt (P.R 65 10) i = false)))) ∧ h' = (sk0 c, I)) := by
  refine sn_X12_mayCross _ ⟨_, sp_ofOne 8 rfl (by omega) (by omega), ?_⟩
  rintro _ _ ⟨rfl, rfl⟩
  rw [show 320 + 14 * i + 8 = 321 + 14 * i + 7 from by omega, h.cs hi]
  have f25 := h.2.2.1.1.2.1
  have S := fun Q => @sg_X12_mayCross_7 l (d + 1) Q c I (nI i) (A.r 7 i)
  rw [f25, b_get (by omega)] at S
  refine S _ (fun g => ⟨by rw [decide_eq_false (fun z => g z.1)]; rfl, rfl⟩) (fun g g2 => ⟨by rw [decide_eq_false (fun z => g2 (by rw [z.2]; rfl))]; rfl, rfl⟩) (fun g g2 => ⟨by rw [decide_eq_true ⟨g, b2i_0.mp g2⟩]; rfl, rfl⟩)
theorem hs_pick_congr {A B : HS} {e : Nat} {free own : Int32} {t : Nat} (h2 : A.r 2 = B.r 2) (h3 : A.r 3 = B.r 3) (hh : A.hp = B.hp) : hs_pick P A e free own t = hs_pick P B e free own t := by
  unfold hs_pick hs_lets
  rw [h2, h3, hh]
set_option maxHeartbeats 4000000 in
/-- one crossing and those behind him -/
theorem sp_crosses {d t : Nat} (hP : POk P) (ht : t < 2 ^ 30) : ∀ (n i : Nat) (A : HS) (I : mx_I), MR P A I0 I → AInv P A [] → i < P.nc → A.r 7 i = -1 → hs_un A P.nc ≤ n → A.st + 30 * hs_un A P.nc < 2 ^ 29 →
    mx_Spec l mX12_crosses (d + n + 5) 0 0 [.ref 120, .int (nI i), .int (nI t)] (sk0 c, I) (fun r h' => r = none ∧ ∃ I', h' = (sk0 c, I') ∧ MR P (hs_cross P t n i A) I0 I')
  | 0, i, A, I, _, _, hi, hc, hu, _ => by
    have := un_pos hc P.nc hi
    omega
  | n + 1, i, A, I, h, hA, hi, hc, hu, hst => by
    have hP1 := hP.1
    have hPP : P.nl ≤ 30 ∧ P.nc ≤ 20 := ⟨by omega, by omega⟩
    obtain ⟨w1, w2, w3, w4, w5⟩ := (hP.2.2.2.2.2.2.1 i hi).get hP
    obtain ⟨gd, gu, g7⟩ := good_cross1 hP hA hi hc ht hst
    have hi20 : i < 20 := by omega
    -- those behind
    have lp : ∀ (x3 x4 x5 : Int32) (m j : Nat) (B : HS) (J : mx_I), j + m = P.nc → MR P B I0 J → AInv P B [] → (∀ k, B.r 7 k = -1 → (hs_cross1 P i t A).r 7 k = -1) → B.st + 30 * hs_un B P.nc < 2 ^ 29 → hs_run (fun j B => if hs_behind P j i B = true then hs_cross P t n j B else B) m j B = hs_cross P t (n + 1) i A →
        mx_Go l (mx_rm (d + (n + 1) + 5) 0 0) mX12_crosses (mx_Z (fun r h' => r = none ∧ ∃ I', h' = (sk0 c, I') ∧ MR P (hs_cross P t (n + 1) i A) I0 I') 0 0) 0 0 139 [.ref 120, .int (nI i), .int (nI t), .int x3, .int x4, .int x5, .int (nI j)] [] (sk0 c, J) := by
      intro x3 x4 x5 m
      induction m with
      | zero =>
        intro j B J hj hJ hB hm hs hr
        have e1 : J 121 3 ≤ nI j := by rw [hJ.1.1.2.2.1, nI_leI (by omega) (by omega)]; omega
        refine sg_X12_crosses_139 (d := d + (n + 1) + 4) _ _ _ _ _ _ (fun _ => ⟨rfl, J, rfl, ?_⟩) (fun z => absurd e1 z)
        rw [← hr]
        exact hJ
      | succ m ih =>
        intro j B J hj hJ hB hm hs hr
        have hjc : j < P.nc := by omega
        have e1 : ¬ J 121 3 ≤ nI j := fun z => by rw [hJ.1.1.2.2.1, nI_leI (by omega) (by omega)] at z; omega
        rw [hs_run] at hr
        have nx : ∀ (C : HS) (K : mx_I), C = (if hs_behind P j i B = true then hs_cross P t n j B else B) → MR P C I0 K → AInv P C [] → (∀ k, C.r 7 k = -1 → (hs_cross1 P i t A).r 7 k = -1) → C.st + 30 * hs_un C P.nc < 2 ^ 29 → mx_Go l (mx_rm (d + (n + 1) + 5) 0 0) mX12_crosses (mx_Z (fun r h' => r = none ∧ ∃ I', h' = (sk0 c, I') ∧ MR P (hs_cross P t (n + 1) i A) I0 I') 0 0) 0 0 139 [.ref 120, .int (nI i), .int (nI t), .int x3, .int x4, .int x5, .int (nI j + 1)] [] (sk0 c, K) := fun C K hC hK hCA hCm hCs => by
          rw [nI_1]
          rw [← hC] at hr
          exact ih (j + 1) C K (by omega) hK hCA hCm hCs hr
        have skip : hs_behind P j i B = false → mx_Go l (mx_rm (d + (n + 1) + 5) 0 0) mX12_crosses (mx_Z (fun r h' => r = none ∧ ∃ I', h' = (sk0 c, I') ∧ MR P (hs_cross P t (n + 1) i A) I0 I') 0 0) 0 0 139 [.ref 120, .int (nI i), .int (nI t), .int x3, .int x4, .int x5, .int (nI j + 1)] [] (sk0 c, J) := fun z => nx B J (by rw [z]; simp) hJ hB hm hs
        refine sg_X12_crosses_139 (d := d + (n + 1) + 4) _ _ _ _ _ _ (fun z => absurd z e1) (fun _ => ⟨_, sp_ofOne 6 rfl (by omega) (by omega), ?_⟩)
        rintro _ _ ⟨rfl, rfl⟩
        rw [hJ.cr hjc (by omega)]
        refine sg_X12_crosses_158 (d := d + (n + 1) + 4) _ _ _ _ _ _ _ (fun g => skip (decide_eq_false (fun z => g z.1))) (fun k6 => ⟨_, sp_ofOne 7 rfl (by omega) (by omega), ?_⟩)
        rintro _ _ ⟨rfl, rfl⟩
        rw [hJ.cr hjc (by omega)]
        refine sg_X12_crosses_170 (d := d + (n + 1) + 4) _ _ _ _ _ _ _ (fun g => skip (decide_eq_false (fun z => g z.2.1))) (fun k7 => ⟨_, sp_mayCross (d := d + (n + 1) + 2) (by omega) hJ hjc, ?_⟩)
        rintro _ _ ⟨rfl, rfl⟩
        refine sg_X12_crosses_180 (d := d + (n + 1) + 4) _ _ _ _ _ _ _ (fun g => skip (decide_eq_false (fun z => of_decide_eq_false (b2i_0.mp g) z.2.2))) (fun g => ?_)
        have hmc : B.r 7 j = -1 ∧ bt (P.R 65 10) j = false := Classical.byContradiction (fun w => g (by rw [decide_eq_false w]; rfl))
        have hb : hs_behind P j i B = true := decide_eq_true ⟨k6, k7, hmc⟩
        have hun : hs_un B P.nc ≤ n := by
          have := un_mono (A := hs_cross1 P i t A) (B := B) hm P.nc
          omega
        have gg := good_cross hP ht n j B hB hjc hmc.1 hs
        have SC := sp_crosses (d := d) hP ht n j B J hJ hB hjc hmc.1 hun hs
        refine ⟨_, SC, ?_⟩
        rintro _ _ ⟨rfl, J2, rfl, hJ2⟩
        refine sg_X12_crosses_190 (d := d + (n + 1) + 4) _ _ _ _ _ _ ?_
        exact nx _ J2 (by rw [if_pos hb]) hJ2 gg.1 (fun k hk => hm k (gg.mono ht k hk)) (by have := gg.2.2.2.1; omega)
    have hstop : hs_run (fun j B => if hs_behind P j i B = true then hs_cross P t n j B else B) P.nc 0 (hs_cross1 P i t A) = hs_cross P t (n + 1) i A := rfl
    refine sn_X12_crosses (d := d + (n + 1) + 4) _ _ ⟨_, sp_ofOne 1 rfl hi20 (by omega), ?_⟩
    rintro _ _ ⟨rfl, rfl⟩
    rw [h.cr hi (by omega)]
    refine sg_X12_crosses_6 _ _ _ ⟨_, sp_ofOne 2 rfl hi20 (by omega), ?_⟩
    rintro _ _ ⟨rfl, rfl⟩
    rw [h.cr hi (by omega)]
    refine sg_X12_crosses_12 _ _ _ _ ⟨_, sp_ofOne 1 rfl hi20 (by omega), ?_⟩
    rintro _ _ ⟨rfl, rfl⟩
    rw [h.cr hi (by omega)]
    refine sg_X12_crosses_20 _ _ _ _ ⟨_, sp_ofOne 2 rfl hi20 (by omega), ?_⟩
    rintro _ _ ⟨rfl, rfl⟩
    rw [h.cr hi (by omega)]
    refine sg_X12_crosses_28 _ _ _ _ _ ⟨_, sp_gives 8 rfl hi20 (by omega), ?_⟩
    rintro _ _ ⟨rfl, rfl⟩
    have h7 := h.setC hPP (j := 7) (i := i) (x := nI t) hi (by omega)
    rw [show 320 + 14 * i + 8 = 321 + 14 * i + 7 from by omega]
    generalize mx_set I 121 (321 + 14 * i + 7) (nI t) = I1 at h7 ⊢
    rw [w1, w2]
    refine sg_X12_crosses_39 _ _ _ _ ⟨_, sp_ofOne 3 rfl hi20 (by omega), ?_⟩
    rintro _ _ ⟨rfl, rfl⟩
    rw [h7.cr hi (by omega)]
    refine sg_X12_crosses_47 _ _ _ _ _ _ ⟨_, sp_ofOne 4 rfl hi20 (by omega), ?_⟩
    rintro _ _ ⟨rfl, rfl⟩
    rw [h7.cr hi (by omega)]
    have hA7 : AInv P (A.set 7 i (nI t)) [] := hA.set (by omega)
    refine sg_X12_crosses_53 _ _ _ _ _ _ _ ⟨_, sp_takes (d := d + (n + 1)) hP w3 hA7 h7, ?_⟩
    rintro _ _ ⟨rfl, I2, rfl, h2, t2⟩
    have epk : hs_pick P (A.set 7 i (nI t)) (pm_fr P 10 i) (P.R (9 + 3) i - P.R (9 + 4) i) (P.R (9 + 4) i) t = hs_pick P A (pm_fr P 10 i) (P.R 12 i - P.R 13 i) (P.R 13 i) t := hs_pick_congr (A := A.set 7 i (nI t)) (B := A) (show mx_set A.1 7 i (nI t) 2 = A.1 2 from ms_ne (by omega)) (show mx_set A.1 7 i (nI t) 3 = A.1 3 from ms_ne (by omega)) rfl
    rw [epk] at t2 ⊢
    have h3 := h2
    have etoll : I2 121 4 = P.R 65 8 := h2.1.1.2.2.2.2.1
    have ecost : I2 121 (320 + 14 * i + 5) = P.R 14 i := h2.cr hi (by omega)
    have hsub := hs_pick_sub P A (pm_fr P 10 i) (P.R 12 i - P.R 13 i) (P.R 13 i) t
    have hls : ∀ x ∈ (hs_pick P A (pm_fr P 10 i) (P.R 12 i - P.R 13 i) (P.R 13 i) t).1, x < P.nl := fun x hx => (((hA.1 (pm_fr P 10 i) (by omega)).2 x).mp (hsub.subset hx)).1
    have hlen : (hs_pick P A (pm_fr P 10 i) (P.R 12 i - P.R 13 i) (P.R 13 i) t).1.length ≤ 30 := by
      have := hsub.length_le
      have := hA.len (e := pm_fr P 10 i) (by omega)
      omega
    have carry : ¬ (¬ P.R 65 8 = -1 ∧ P.R 65 8 < P.R 14 i * (hs_pick P A (pm_fr P 10 i) (P.R 12 i - P.R 13 i) (P.R 13 i) t).2) → mx_K1 l mX12_gives (d + (n + 1) + 4) [.ref 120, .int (nI i), .int 9, .int (hs_pick P A (pm_fr P 10 i) (P.R 12 i - P.R 13 i) (P.R 13 i) t).2] (sk0 c, I2) (fun r h' => mx_Go l (mx_rm (d + (n + 1) + 4 + 1) 0 0) mX12_crosses (mx_Z (fun r h' => r = none ∧ ∃ I', h' = (sk0 c, I') ∧ MR P (hs_cross P t (n + 1) i A) I0 I') 0 0) 0 0 128 [.ref 120, .int (nI i), .int (nI t), .int (nI (pm_fr P 10 i)), .int (nI (pm_to P 10 i)), .int (hs_pick P A (pm_fr P 10 i) (P.R 12 i - P.R 13 i) (P.R 13 i) t).2, .retAddr 0] (r.toList ++ []) h') := by
      intro hno
      refine ⟨_, sp_gives 9 rfl hi20 (by omega), ?_⟩
      rintro _ _ ⟨rfl, rfl⟩
      rw [show 320 + 14 * i + 9 = 321 + 14 * i + 8 from by omega]
      have h8 := h2.setC hPP (j := 8) (i := i) (x := (hs_pick P A (pm_fr P 10 i) (P.R 12 i - P.R 13 i) (P.R 13 i) t).2) hi (by omega)
      refine sg_X12_crosses_128 _ _ _ _ _ ⟨_, sp_setsDown (d := d + (n + 1) + 1) (fr := pm_fr P 10 i) (i0 := i) (w := P.wr) (ls := (hs_pick P A (pm_fr P 10 i) (P.R 12 i - P.R 13 i) (P.R 13 i) t).1) hPP hlen hls (fun z => ⟨z, rfl, hi20⟩) (fun z => Or.inl z) h8 ⟨by rw [ms_ne (by omega)]; exact t2.1, fun j hj => by rw [ms_ne (by omega)]; exact t2.2 j hj⟩, ?_⟩
      rintro _ _ ⟨rfl, I3, rfl, h9⟩
      refine sg_X12_crosses_136 _ _ _ _ _ ?_
      have ec : hs_cross1 P i t A = hs_carry P P.wr (pm_fr P 10 i) (pm_to P 10 i) t i (hs_pick P A (pm_fr P 10 i) (P.R 12 i - P.R 13 i) (P.R 13 i) t).1 ((A.set 7 i (nI t)).set 8 i (hs_pick P A (pm_fr P 10 i) (P.R 12 i - P.R 13 i) (P.R 13 i) t).2) := by
        unfold hs_cross1
        simp only
        rw [if_neg hno]
      rw [← ec] at h9
      exact lp _ _ _ P.nc 0 _ I3 (by omega) h9 gd.1 (fun _ z => z) (by have := gd.2.2.2.1; omega) hstop
    refine sg_X12_crosses_57 _ _ _ _ _ (fun g => carry (fun z => z.1 (etoll.symm.trans g))) (fun g => ⟨_, sp_ofOne 5 rfl hi20 (by omega), ?_⟩)
    rintro _ _ ⟨rfl, rfl⟩
    rw [ecost]
    have S := fun Q => @sg_X12_crosses_75 l (d + (n + 1) + 4) Q c I2 (nI i) (nI t) (nI (pm_fr P 10 i)) (nI (pm_to P 10 i)) (hs_pick P A (pm_fr P 10 i) (P.R 12 i - P.R 13 i) (P.R 13 i) t).2 (P.R 14 i)
    rw [etoll] at S g
    refine S _ (fun g2 => carry (fun z => by have z2 := (i_lt _ _).mp z.2; have g2' := (i_le _ _).mp g2; omega)) (fun g2 => ⟨_, sp_gives 10 rfl hi20 (by omega), ?_⟩)
    rintro _ _ ⟨rfl, rfl⟩
    rw [show 320 + 14 * i + 10 = 321 + 14 * i + 9 from by omega]
    have hyes : ¬ P.R 65 8 = -1 ∧ P.R 65 8 < P.R 14 i * (hs_pick P A (pm_fr P 10 i) (P.R 12 i - P.R 13 i) (P.R 13 i) t).2 := ⟨g, by rw [i_lt]; have : ¬ _ ≤ _ := fun z => g2 ((i_le _ _).mpr z); omega⟩
    have h9 := h2.setC hPP (j := 9) (i := i) (x := P.R 65 8) hi (by omega)
    have hps : (A.set 7 i (nI t)).r 0 10 = A.r 0 10 := HS.at_ne (by omega)
    have T := fun Q => @sg_X12_crosses_100 l (d + (n + 1) + 4) Q c (mx_set I2 121 (321 + 14 * i + 9) (P.R 65 8)) (nI i) (nI t) (nI (pm_fr P 10 i)) (nI (pm_to P 10 i)) (hs_pick P A (pm_fr P 10 i) (P.R 12 i - P.R 13 i) (P.R 13 i) t).2
    have e4 : (mx_set I2 121 (321 + 14 * i + 9) (P.R 65 8)) 121 4 = P.R 65 8 := h9.1.1.2.2.2.2.1
    rw [e4] at T
    refine T _ ?_
    have hx10 : ((A.set 7 i (nI t)).set 9 i (P.R 65 8)).r 0 10 = A.r 0 10 := (HS.at_ne (by omega)).trans hps
    have h10 := (h9.setS hPP (y := P.R 65 8)).least (if A.r 65 14 = -1 then P.R 14 i * (hs_pick P A (pm_fr P 10 i) (P.R 12 i - P.R 13 i) (P.R 13 i) t).2 else if P.R 14 i * (hs_pick P A (pm_fr P 10 i) (P.R 12 i - P.R 13 i) (P.R 13 i) t).2 < A.r 65 14 then P.R 14 i * (hs_pick P A (pm_fr P 10 i) (P.R 12 i - P.R 13 i) (P.R 13 i) t).2 else A.r 65 14)
    have ec : hs_cross1 P i t A = (((A.set 7 i (nI t)).set 9 i (P.R 65 8)).set 0 10 (A.r 0 10 + P.R 65 8)).set 65 14 (if A.r 65 14 = -1 then P.R 14 i * (hs_pick P A (pm_fr P 10 i) (P.R 12 i - P.R 13 i) (P.R 13 i) t).2 else if P.R 14 i * (hs_pick P A (pm_fr P 10 i) (P.R 12 i - P.R 13 i) (P.R 13 i) t).2 < A.r 65 14 then P.R 14 i * (hs_pick P A (pm_fr P 10 i) (P.R 12 i - P.R 13 i) (P.R 13 i) t).2 else A.r 65 14) := by
      unfold hs_cross1
      simp only
      rw [if_pos hyes]
    rw [hx10, ← ec] at h10
    exact lp _ _ _ P.nc 0 _ _ (by omega) h10 gd.1 (fun _ z => z) (by have := gd.2.2.2.1; omega) hstop
end M
