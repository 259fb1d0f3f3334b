/-! the model: one hour -/
section M
variable {l : Launch} {c : Nat} {P : Pm} {I0 : mx_I}
theorem sp_isBare {d : Nat} {A : HS} {I : mx_I} {e : Nat} (hP : P.nl ≤ 30) (he : e < 4) (hA : AInv P A []) (h : MR P A I0 I) : mx_Spec l mX12_isBare (d + 3) 0 0 [.ref 120, .int (nI e)] (sk0 c, I) (fun r h' => r = some (.int (b2i (decide (A.hp e = [])))) ∧ h' = (sk0 c, I)) := by
  obtain ⟨hnd, hmem⟩ := hA.1 e he
  have lp : ∀ (m k : Nat), k + m = P.nl → (∀ x, x < k → x ∉ A.hp e) → mx_Go l (mx_rm (d + 3) 0 0) mX12_isBare (mx_Z (fun r h' => r = some (.int (b2i (decide (A.hp e = [])))) ∧ h' = (sk0 c, I)) 0 0) 0 0 2 [.ref 120, .int (nI e), .int (nI k)] [] (sk0 c, I) := by
    intro m
    induction m with
    | zero =>
      intro k hk hno
      have e1 : I 121 2 ≤ nI k := by rw [h.1.1.2.1, nI_leI (by omega) (by omega)]; omega
      refine sg_X12_isBare_2 _ _ (fun _ => ⟨?_, rfl⟩) (fun z => absurd e1 z)
      rw [decide_eq_true (List.eq_nil_iff_forall_not_mem.mpr (fun x hx => hno x (by have := ((hmem x).mp hx).1; omega) hx))]
      rfl
    | succ m ih =>
      intro k hk hno
      have e1 : ¬ I 121 2 ≤ nI k := fun z => by rw [h.1.1.2.1, nI_leI (by omega) (by omega)] at z; omega
      refine sg_X12_isBare_2 _ _ (fun z => absurd z e1) (fun _ => ⟨_, sp_isThere (d := d) h (by omega) hP, ?_⟩)
      rintro _ _ ⟨rfl, rfl⟩
      have hm : k ∈ A.hp e ↔ (A.r 1 k = nI e ∧ A.r 4 k = 0) := by
        rw [hmem k]
        exact ⟨fun z => ⟨z.2.1, z.2.2.1⟩, fun z => ⟨by omega, z.1, z.2, by simp⟩⟩
      refine sg_X12_isBare_18 _ _ _ (fun z => ?_) (fun z => ⟨?_, rfl⟩)
      · rw [nI_1]
        refine ih (k + 1) (by omega) (fun x hx => ?_)
        by_cases q : x = k
        · subst q
          exact fun w => of_decide_eq_false (b2i_0.mp z) (hm.mp w)
        · exact hno x (by omega)
      · have hin : k ∈ A.hp e := Classical.byContradiction (fun w => z (by rw [decide_eq_false (fun v => w (hm.mpr v))]; rfl))
        rw [decide_eq_false (fun z => by rw [z] at hin; simp at hin)]
        rfl
  exact sn_X12_isBare _ (lp P.nl 0 (by omega) (fun x hx => absurd hx (by omega)))
set_option maxHeartbeats 1000000 in
theorem sp_goesNow {d t : Nat} {A : HS} {I : mx_I} {i : Nat} (hP : POk P) (hA : AInv P A []) (h : MR P A I0 I) (hi : i < P.nc) : mx_Spec l mX12_goesNow (d + 4) 0 0 [.ref 120, .int (nI i), .int (nI t)] (sk0 c, I) (fun r h' => r = some (.int (b2i (hs_goes P i t A))) ∧ h' = (sk0 c, I)) := by
  have hP1 := hP.1
  have hi20 : i < 20 := by omega
  obtain ⟨w1, w2, w3, w4, w5⟩ := (hP.2.2.2.2.2.2.1 i hi).get hP
  have f0 : ¬ (A.r 7 i = -1 ∧ bt (P.R 65 10) i = false ∧ P.R 9 i ≤ nI t ∧ ((P.R 15 i = 0 ∧ nI t = P.R 9 i) ∨ (P.R 15 i = 1 ∧ (P.R 9 i + P.R 16 i ≤ nI t ∨ A.hp (pm_fr P 10 i) = [])))) → hs_goes P i t A = false := fun z => decide_eq_false z
  have f1 : (A.r 7 i = -1 ∧ bt (P.R 65 10) i = false ∧ P.R 9 i ≤ nI t ∧ ((P.R 15 i = 0 ∧ nI t = P.R 9 i) ∨ (P.R 15 i = 1 ∧ (P.R 9 i + P.R 16 i ≤ nI t ∨ A.hp (pm_fr P 10 i) = [])))) → hs_goes P i t A = true := fun z => decide_eq_true z
  refine sn_X12_goesNow _ _ ⟨_, sp_mayCross (d := d + 1) (by omega) h hi, ?_⟩
  rintro _ _ ⟨rfl, rfl⟩
  refine sg_X12_goesNow_5 _ _ _ (fun g => ⟨by rw [f0 (fun z => of_decide_eq_false (b2i_0.mp g) ⟨z.1, z.2.1⟩)]; rfl, rfl⟩) (fun g => ⟨_, sp_ofOne 0 rfl hi20 (by omega), ?_⟩)
  have hm : A.r 7 i = -1 ∧ bt (P.R 65 10) i = false := Classical.byContradiction (fun w => g (by rw [decide_eq_false w]; rfl))
  rintro _ _ ⟨rfl, rfl⟩
  rw [h.cr hi (by omega)]
  refine sg_X12_goesNow_15 _ _ _ _ (fun g2 => ⟨_, sp_ofOne 6 rfl hi20 (by omega), ?_⟩) (fun g2 => ⟨by rw [f0 (fun z => g2 z.2.2.1)]; rfl, rfl⟩)
  rintro _ _ ⟨rfl, rfl⟩
  rw [h.cr hi (by omega)]
  refine sg_X12_goesNow_27 _ _ _ (fun g3 => ⟨_, sp_ofOne 6 rfl hi20 (by omega), ?_⟩) (fun g3 => ⟨_, sp_ofOne 0 rfl hi20 (by omega), ?_⟩)
  · rintro _ _ ⟨rfl, rfl⟩
    rw [h.cr hi (by omega)]
    refine sg_X12_goesNow_53 _ _ _ (fun g4 => ⟨by rw [f0 (fun z => z.2.2.2.elim (fun w => g3 w.1) (fun w => g4 w.1))]; rfl, rfl⟩) (fun g4 => ⟨_, sp_ofOne 0 rfl hi20 (by omega), ?_⟩)
    rintro _ _ ⟨rfl, rfl⟩
    rw [h.cr hi (by omega)]
    refine sg_X12_goesNow_64 _ _ _ _ ⟨_, sp_ofOne 7 rfl hi20 (by omega), ?_⟩
    rintro _ _ ⟨rfl, rfl⟩
    rw [h.cr hi (by omega)]
    refine sg_X12_goesNow_71 _ _ _ _ _ (fun g5 => ⟨by rw [f1 ⟨hm.1, hm.2, g2, Or.inr ⟨g4, Or.inl g5⟩⟩]; rfl, rfl⟩) (fun g5 => ⟨_, sp_ofOne 1 rfl hi20 (by omega), ?_⟩)
    rintro _ _ ⟨rfl, rfl⟩
    rw [h.cr hi (by omega)]
    refine sg_X12_goesNow_82 _ _ _ ⟨_, sp_ofOne 2 rfl hi20 (by omega), ?_⟩
    rintro _ _ ⟨rfl, rfl⟩
    rw [h.cr hi (by omega)]
    refine sg_X12_goesNow_88 _ _ _ _ ?_
    rw [show P.R (9 + 1) i + P.R (9 + 2) i = nI (pm_fr P 10 i) from w1]
    refine ⟨_, sp_isBare (d := d) (by omega) (by omega) hA h, ?_⟩
    rintro _ _ ⟨rfl, rfl⟩
    refine sg_X12_goesNow_92 _ _ _ (fun g6 => ⟨by rw [f0 (fun z => z.2.2.2.elim (fun w => g3 w.1) (fun w => w.2.elim g5 (of_decide_eq_false (b2i_0.mp g6))))]; rfl, rfl⟩) (fun g6 => ⟨?_, rfl⟩)
    have hb : A.hp (pm_fr P 10 i) = [] := Classical.byContradiction (fun w => g6 (by rw [decide_eq_false w]; rfl))
    rw [f1 ⟨hm.1, hm.2, g2, Or.inr ⟨g4, Or.inr hb⟩⟩]; rfl
  · rintro _ _ ⟨rfl, rfl⟩
    rw [h.cr hi (by omega)]
    refine sg_X12_goesNow_37 _ _ _ _ (fun g4 => ⟨by rw [f0 (fun z => z.2.2.2.elim (fun w => g4 w.2) (fun w => absurd (g3.symm.trans w.1) (by decide)))]; rfl, rfl⟩) (fun g4 => ⟨by rw [f1 ⟨hm.1, hm.2, g2, Or.inl ⟨g3, g4⟩⟩]; rfl, rfl⟩)
set_option maxHeartbeats 1000000 in
theorem mb_bring {d t : Nat} {Q : Option Value → mx_H → Prop} (hP : POk P) : ∀ (m i : Nat) (A : HS) (I : mx_I), i + m = P.nl → MR P A I0 I →
    (∀ I', MR P (hs_run (hs_bring1 P t) m i A) I0 I' → mx_Go l (mx_rm (d + 3) 0 0) mX12_anHour (mx_Z Q 0 0) 0 0 59 [.ref 120, .int (nI t), .int 0, .retAddr 0] [] (sk0 c, I')) →
    mx_Go l (mx_rm (d + 3) 0 0) mX12_anHour (mx_Z Q 0 0) 0 0 9 [.ref 120, .int (nI t), .int (nI i), .retAddr 0] [] (sk0 c, I) := by
  have hP1 := hP.1
  have hPP : P.nl ≤ 30 ∧ P.nc ≤ 20 := ⟨by omega, by omega⟩
  intro m
  induction m with
  | zero =>
    intro i A I hi h hQ
    have e1 : I 121 2 ≤ nI i := by rw [h.1.1.2.1, nI_leI (by omega) (by omega)]; omega
    exact sg_X12_anHour_9 _ _ (fun _ => hQ I h) (fun z => absurd e1 z)
  | succ m ih =>
    intro i A I hi h hQ
    have hin : i < P.nl := by omega
    obtain ⟨e, he, h4⟩ := hP.2.2.2.2.1 i hin
    have e1 : ¬ I 121 2 ≤ nI i := fun z => by rw [h.1.1.2.1, nI_leI (by omega) (by omega)] at z; omega
    have nx : ∀ J, MR P (hs_bring1 P t i A) I0 J → mx_Go l (mx_rm (d + 3) 0 0) mX12_anHour (mx_Z Q 0 0) 0 0 9 [.ref 120, .int (nI t), .int (nI i + 1), .retAddr 0] [] (sk0 c, J) := fun J hJ => by
      rw [nI_1]
      exact ih (i + 1) _ J (by omega) hJ hQ
    have skip : ¬ (P.R 5 i = nI t ∧ A.r 1 i = -1) → MR P (hs_bring1 P t i A) I0 I := fun z => by
      unfold hs_bring1
      rw [if_neg z]; exact h
    refine sg_X12_anHour_9 _ _ (fun z => absurd z e1) (fun _ => ⟨_, sp_ofLoad 2 rfl (by omega) (by omega), ?_⟩)
    rintro _ _ ⟨rfl, rfl⟩
    rw [h.ld hin (by omega)]
    refine sg_X12_anHour_25 _ _ _ (fun g => nx I (skip (fun z => g z.1))) (fun g => ⟨_, sp_ofLoad 5 rfl (by omega) (by omega), ?_⟩)
    rintro _ _ ⟨rfl, rfl⟩
    rw [show 20 + 10 * i + 5 = 24 + 10 * i + 1 from by omega, h.at hin (by omega) (by omega)]
    refine sg_X12_anHour_35 _ _ _ (fun g2 => nx I (skip (fun z => g2 z.2))) (fun g2 => ⟨_, sp_ofLoad 1 rfl (by omega) (by omega), ?_⟩)
    rintro _ _ ⟨rfl, rfl⟩
    rw [h.ld hin (by omega), show P.R (3 + 1) i = nI e from h4]
    refine sg_X12_anHour_47 _ _ _ _ ⟨_, sp_mcomes (d := d) hPP h hin, ?_⟩
    rintro _ _ ⟨rfl, I1, rfl, h1, -, -⟩
    refine sg_X12_anHour_51 _ _ (nx I1 ?_)
    unfold hs_bring1
    rw [if_pos ⟨g, g2⟩, h4, nI_clamp (by omega)]
    exact h1
set_option maxHeartbeats 1000000 in
theorem mb_fetch {d t : Nat} {Q : Option Value → mx_H → Prop} (hP : POk P) : ∀ (m i : Nat) (A : HS) (I : mx_I), i + m = P.nl → MR P A I0 I →
    (∀ I', MR P (hs_run (hs_fetch1 P t) m i A) I0 I' → mx_Go l (mx_rm (d + 3) 0 0) mX12_anHour (mx_Z Q 0 0) 0 0 119 [.ref 120, .int (nI t), .int 0, .retAddr 0] [] (sk0 c, I')) →
    mx_Go l (mx_rm (d + 3) 0 0) mX12_anHour (mx_Z Q 0 0) 0 0 59 [.ref 120, .int (nI t), .int (nI i), .retAddr 0] [] (sk0 c, I) := by
  have hP1 := hP.1
  have hPP : P.nl ≤ 30 ∧ P.nc ≤ 20 := ⟨by omega, by omega⟩
  intro m
  induction m with
  | zero =>
    intro i A I hi h hQ
    have e1 : I 121 2 ≤ nI i := by rw [h.1.1.2.1, nI_leI (by omega) (by omega)]; omega
    exact sg_X12_anHour_59 _ _ (fun _ => hQ I h) (fun z => absurd e1 z)
  | succ m ih =>
    intro i A I hi h hQ
    have hin : i < P.nl := by omega
    have e1 : ¬ I 121 2 ≤ nI i := fun z => by rw [h.1.1.2.1, nI_leI (by omega) (by omega)] at z; omega
    have nx : ∀ J, MR P (hs_fetch1 P t i A) I0 J → mx_Go l (mx_rm (d + 3) 0 0) mX12_anHour (mx_Z Q 0 0) 0 0 59 [.ref 120, .int (nI t), .int (nI i + 1), .retAddr 0] [] (sk0 c, J) := fun J hJ => by
      rw [nI_1]
      exact ih (i + 1) _ J (by omega) hJ hQ
    have skip : ¬ ((P.R 6 i ≠ -1 ∧ P.R 7 i = nI t) ∧ A.r 1 i = P.R 6 i ∧ A.r 4 i = 0) → MR P (hs_fetch1 P t i A) I0 I := fun z => by
      unfold hs_fetch1
      rw [if_neg z]; exact h
    have h24 := h.1.2.2.2.1 i hin
    refine sg_X12_anHour_59 _ _ (fun z => absurd z e1) (fun _ => ⟨_, sp_ofLoad 4 rfl (by omega) (by omega), ?_⟩)
    rintro _ _ ⟨rfl, rfl⟩
    rw [show 20 + 10 * i + 4 = 24 + 10 * i from by omega]
    refine sg_X12_anHour_75 _ _ _ (fun g => nx I (skip (fun z => g ((h24.resolve_left z.1.1).trans z.1.2)))) (fun g => ⟨_, sp_ofLoad 3 rfl (by omega) (by omega), ?_⟩)
    rintro _ _ ⟨rfl, rfl⟩
    rw [h.ld hin (by omega)]
    refine sg_X12_anHour_85 _ _ _ (fun g2 => nx I (skip (fun z => z.1.1 g2))) (fun g2 => ⟨_, sp_ofLoad 3 rfl (by omega) (by omega), ?_⟩)
    rintro _ _ ⟨rfl, rfl⟩
    rw [h.ld hin (by omega)]
    refine sg_X12_anHour_97 _ _ _ _ ⟨_, sp_isThere (d := d) h hin (by omega), ?_⟩
    rintro _ _ ⟨rfl, rfl⟩
    refine sg_X12_anHour_100 _ _ _ (fun g3 => nx I (skip (fun z => of_decide_eq_false (b2i_0.mp g3) z.2))) (fun g3 => ⟨_, sp_loads 8 rfl (by omega) (by omega), ?_⟩)
    rintro _ _ ⟨rfl, rfl⟩
    have hyes : A.r 1 i = P.R (3 + 3) i ∧ A.r 4 i = 0 := Classical.byContradiction (fun w => g3 (by rw [decide_eq_false w]; rfl))
    refine sg_X12_anHour_111 _ _ (nx _ ?_)
    rw [show 20 + 10 * i + 8 = 24 + 10 * i + 4 from by omega]
    unfold hs_fetch1
    rw [if_pos ⟨⟨g2, (h24.resolve_left g2).symm.trans g⟩, hyes⟩]
    exact (h.hp _).setL hPP hin (by omega)
set_option maxHeartbeats 1000000 in
theorem mb_offers {d t : Nat} {Q : Option Value → mx_H → Prop} (hP : POk P) (ht : t < 2 ^ 30) : ∀ (m i : Nat) (A : HS) (I : mx_I) , i + m = P.no → MR P A I0 I → AInv P A [] → A.st + 30 * hs_un A P.nc + 30 * m < 2 ^ 29 →
    (∀ I', MR P (hs_run (hs_offer1 P t) m i A) I0 I' → Q none (sk0 c, mx_set I' 121 1 (I' 121 1 + 1))) →
    mx_Go l (mx_rm (d + 5) 0 0) mX12_anHour (mx_Z Q 0 0) 0 0 152 [.ref 120, .int (nI t), .int (nI i), .retAddr 0] [] (sk0 c, I) := by
  have hP1 := hP.1
  have hPP : P.nl ≤ 30 ∧ P.nc ≤ 20 := ⟨by omega, by omega⟩
  intro m
  induction m with
  | zero =>
    intro i A I hi h hA hst hQ
    have e1 : I 121 7 ≤ nI i := by rw [h.1.1.2.2.2.1, nI_leI (by omega) (by omega)]; omega
    exact sg_X12_anHour_152 _ _ (fun _ => hQ I h) (fun z => absurd e1 z) (fun z => absurd e1 z) (fun z => absurd e1 z) (fun z => absurd e1 z) (fun z => absurd e1 z) (fun z => absurd e1 z) (fun z => absurd e1 z)
  | succ m ih =>
    intro i A I hi h hA hst hQ
    have hio : i < P.no := by omega
    obtain ⟨w1, w2, w3, w4, w5⟩ := (hP.2.2.2.2.2.2.2 i hio).get hP
    have gd := good_offer1 (t := t) hP (by omega) hA hio (by omega)
    have e1 : ¬ I 121 7 ≤ nI i := fun z => by rw [h.1.1.2.2.2.1, nI_leI (by omega) (by omega)] at z; omega
    have nx : ∀ J (y : Value), MR P (hs_offer1 P t i A) I0 J → mx_Go l (mx_rm (d + 5) 0 0) mX12_anHour (mx_Z Q 0 0) 0 0 152 [.ref 120, .int (nI t), .int (nI i + 1), y] [] (sk0 c, J) := fun J y hJ => by
      rw [nI_1]
      refine mx_fg (L' := [.ref 120, .int (nI t), .int (nI (i + 1)), .retAddr 0]) (by simp [mx_le]) ?_
      exact ih (i + 1) _ J (by omega) hJ gd.1 (by have := gd.2.2.2.1; omega) hQ
    have skip : ¬ (bt (P.R 65 9) i = true ∧ P.R 19 i = nI t) → MR P (hs_offer1 P t i A) I0 I := fun z => by
      unfold hs_offer1
      rw [if_neg z]; exact h
    have ix : (1500 + (5 * nI i) : Int32) = nI (1500 + 5 * i) := by rw [show (1500 : Int32) = nI 1500 from rfl, show (5 : Int32) = nI 5 from rfl, pk_mul, nI_add]
    have ix1 : (nI (1500 + 5 * i) + 1 : Int32) = nI (1500 + 5 * i + 1) := nI_1 _
    have ix2 : (nI (1500 + 5 * i) + 2 : Int32) = nI (1500 + 5 * i + 2) := nI_add _ 2
    have ix3 : (nI (1500 + 5 * i) + 3 : Int32) = nI (1500 + 5 * i + 3) := nI_add _ 3
    have f26 := h.2.2.1.1.2.2
    have S := @sg_X12_anHour_152 l (d + 4) Q c I (nI t) (nI i)
    rw [f26, b_get (by omega), ix, ix1, ix2, ix3, nI_clamp (n := 1500 + 5 * i) (by omega), nI_clamp (n := 1500 + 5 * i + 1) (by omega), nI_clamp (n := 1500 + 5 * i + 2) (by omega), nI_clamp (n := 1500 + 5 * i + 3) (by omega), h.of (j := 1) hio (by omega), h.of (j := 2) hio (by omega), h.of (j := 3) hio (by omega), show I 121 (1500 + 5 * i) = P.R 19 i from h.of (j := 0) hio (by omega), show P.R (19 + 1) i + P.R (19 + 2) i = nI (pm_fr P 20 i) from w1] at S
    refine S (fun z => absurd z e1) (fun _ g => nx I _ (skip (fun z => by rw [b2i_0.mp g] at z; exact absurd z.1 (by simp)))) (fun _ _ => i_vp (by omega) (by omega)) (fun _ _ _ => i_vp (by omega) (by omega)) (fun _ _ _ => i_vp (by omega) (by omega)) (fun _ _ _ => i_vp (by omega) (by omega)) (fun _ g g2 => ⟨_, sp_takes (d := d) hP w3 hA h, ?_⟩) (fun _ _ g => nx I _ (skip (fun z => g z.2)))
    have hb : bt (P.R 65 9) i = true := by
      cases q : bt (P.R 65 9) i with
      | true => rfl
      | false => rw [q] at g; exact absurd rfl g
    rintro _ _ ⟨rfl, I1, rfl, h1, t1⟩
    rw [Int32.sub_zero] at t1 ⊢
    have T := @sg_X12_anHour_226 l (d + 4) Q c I1 (nI t) (nI i) (nI (1500 + 5 * i)) (hs_pick P A (pm_fr P 20 i) (P.R (19 + 3) i) 0 t).2
    rw [ix1, ix2, nI_clamp (n := 1500 + 5 * i + 1) (by omega), nI_clamp (n := 1500 + 5 * i + 2) (by omega), h1.of (j := 1) hio (by omega), h1.of (j := 2) hio (by omega), show P.R (19 + 1) i + 1 - P.R (19 + 2) i = nI (pm_to P 20 i) from w2] at T
    have hsub := hs_pick_sub P A (pm_fr P 20 i) (P.R 22 i) 0 t
    have hls : ∀ x ∈ (hs_pick P A (pm_fr P 20 i) (P.R 22 i) 0 t).1, x < P.nl := fun x hx => (((hA.1 (pm_fr P 20 i) (by omega)).2 x).mp (hsub.subset hx)).1
    have hlen : (hs_pick P A (pm_fr P 20 i) (P.R 22 i) 0 t).1.length ≤ 30 := by
      have := hsub.length_le
      have := hA.len (e := pm_fr P 20 i) (by omega)
      omega
    refine T (i_vp (by omega) (by omega)) (i_vp (by omega) (by omega)) ⟨_, sp_setsDown (d := d + 1) (fr := pm_fr P 20 i) (i0 := 0) (w := false) (ls := (hs_pick P A (pm_fr P 20 i) (P.R 22 i) 0 t).1) hPP hlen hls (fun z => absurd z (by simp)) (fun _ => Or.inr rfl) h1 t1, ?_⟩
    rintro _ _ ⟨rfl, I2, rfl, h2⟩
    refine sg_X12_anHour_252 _ _ _ (nx I2 _ ?_)
    unfold hs_offer1
    rw [if_pos ⟨hb, g2⟩]
    exact h2
set_option maxHeartbeats 1000000 in
theorem mb_walk {d t : Nat} {Q : Option Value → mx_H → Prop} (hP : POk P) (ht : t < 2 ^ 30) : ∀ (m i : Nat) (A : HS) (I : mx_I), i + m = P.nc → MR P A I0 I → AInv P A [] → A.st + 30 * hs_un A P.nc < 2 ^ 29 →
    (∀ I', MR P (hs_run (hs_walk1 P t) m i A) I0 I' → mx_Go l (mx_rm (d + 26) 0 0) mX12_anHour (mx_Z Q 0 0) 0 0 152 [.ref 120, .int (nI t), .int 0, .retAddr 0] [] (sk0 c, I')) →
    mx_Go l (mx_rm (d + 26) 0 0) mX12_anHour (mx_Z Q 0 0) 0 0 119 [.ref 120, .int (nI t), .int (nI i), .retAddr 0] [] (sk0 c, I) := by
  have hP1 := hP.1
  intro m
  induction m with
  | zero =>
    intro i A I hi h hA hst hQ
    have e1 : I 121 3 ≤ nI i := by rw [h.1.1.2.2.1, nI_leI (by omega) (by omega)]; omega
    exact sg_X12_anHour_119 _ _ (fun _ => hQ I h) (fun z => absurd e1 z)
  | succ m ih =>
    intro i A I hi h hA hst hQ
    have hic : i < P.nc := by omega
    have e1 : ¬ I 121 3 ≤ nI i := fun z => by rw [h.1.1.2.2.1, nI_leI (by omega) (by omega)] at z; omega
    have gd := good_walk1 (t := t) hP ht hA hic hst
    have nx : ∀ J, MR P (hs_walk1 P t i A) I0 J → mx_Go l (mx_rm (d + 26) 0 0) mX12_anHour (mx_Z Q 0 0) 0 0 119 [.ref 120, .int (nI t), .int (nI i + 1), .retAddr 0] [] (sk0 c, J) := fun J hJ => by
      rw [nI_1]
      exact ih (i + 1) _ J (by omega) hJ gd.1 (by have := gd.2.2.2.1; omega) hQ
    refine sg_X12_anHour_119 _ _ (fun z => absurd z e1) (fun _ => ⟨_, sp_goesNow (d := d + 21) hP hA h hic, ?_⟩)
    rintro _ _ ⟨rfl, rfl⟩
    refine sg_X12_anHour_135 _ _ _ (fun z => nx I ?_) (fun z => ?_)
    · unfold hs_walk1
      rw [b2i_0.mp z]
      exact h
    · have hg : hs_goes P i t A = true := by
        cases q : hs_goes P i t A with
        | true => rfl
        | false => rw [q] at z; exact absurd rfl z
      refine ⟨_, sp_crosses (d := d) hP ht 20 i A I h hA hic (of_decide_eq_true hg).1 (Nat.le_trans (un_le _) (by omega)) hst, ?_⟩
      rintro _ _ ⟨rfl, I', rfl, h'⟩
      refine sg_X12_anHour_144 _ _ (nx I' ?_)
      unfold hs_walk1
      rw [if_pos hg]
      exact h'
theorem sp_anHour {d : Nat} {A : HS} {I : mx_I} (hP : POk P) (hA : AInv P A []) (hst : A.st ≤ 900 * A.now) (ht : A.now < 168) (h : MR P A I0 I) : mx_Spec l mX12_anHour (d + 26) 0 0 [.ref 120] (sk0 c, I) (fun r h' => r = none ∧ ∃ I', h' = (sk0 c, I') ∧ MR P (hs_hour P A) I0 I') := by
  have hP1 := hP.1
  obtain ⟨p1, p2, p3, p4, p5, p6⟩ := hour_parts hP hA hst ht
  obtain ⟨f1, f2, f3, f4, f5, f6, f7⟩ := good_bring (t := A.now) hP P.nl 0 A (by omega) hA (by omega)
  have G := ((p3.trans p4 (by omega)).trans p5 (by omega))
  have hnow : (hs_offers P A.now (hs_walk P A.now (hs_fetch P A.now (hs_bring P A.now A)))).now = A.now := by
    rw [G.2.2.2.2.1]
    exact f4
  refine sn_X12_anHour ?_
  rw [h.2.1.2.2.1.1]
  refine mb_bring (d := d + 23) (i := 0) hP P.nl A I (by omega) h (fun I1 h1 => ?_)
  refine mb_fetch (d := d + 23) (i := 0) hP P.nl _ I1 (by omega) h1 (fun I2 h2 => ?_)
  refine mb_walk (d := d) (i := 0) hP (by omega) P.nc (hs_fetch P A.now (hs_bring P A.now A)) I2 (by omega) h2 p3.1 (by have := p3.2.2.2.1; omega) (fun I3 h3 => ?_)
  refine mb_offers (d := d + 21) (i := 0) hP (by omega) P.no (hs_walk P A.now (hs_fetch P A.now (hs_bring P A.now A))) I3 (by omega) h3 p4.1 (by have := p4.2.2.2.1; have := p3.2.2.2.1; omega) (fun I4 h4 => ⟨rfl, _, rfl, ?_⟩)
  have e1 : I4 121 1 = nI A.now := by rw [h4.2.1.2.2.1.1]; exact congrArg nI hnow
  rw [e1, nI_1]
  have h5 := h4.tick ⟨by omega, by omega⟩
  have hn2 : (hs_run (hs_offer1 P A.now) P.no 0 (hs_walk P A.now (hs_fetch P A.now (hs_bring P A.now A)))).now = A.now := hnow
  rw [hn2] at h5
  exact h5
end M
