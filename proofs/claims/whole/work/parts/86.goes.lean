/-! the two halves of a night -/
section W
variable {l : Launch} {I : mx_I} {nb now nl nc no ni nk : Nat} {hp : Nat → List Nat} {ps : lw_ps}
theorem gw_t {I : mx_I} {ni nl : Nat} {P : Pm} {A : HS} (h : ∀ h, h < 168 → agr I ni nl h (hs_it P (h + 1) A) = true) : gwB I ni nl P A = true := @decide_eq_true _ (Classical.propDecidable _) h
theorem gw_f {I : mx_I} {ni nl : Nat} {P : Pm} {A : HS} {h : Nat} (h1 : h < 168) (h2 : agr I ni nl h (hs_it P (h + 1) A) = false) : gwB I ni nl P A = false := @decide_eq_false _ (Classical.propDecidable _) (fun z => by have := z h h1; rw [h2] at this; exact absurd this (by simp))
set_option maxHeartbeats 2000000 in
theorem sp_goesWithLists {d cc : Nat} {I1 X : mx_I} {ab : Int32} (W : World I nb now nl nc no ni nk hp ps) (hcc : cc = 33 ∨ cc = 55) (hpl : PlanOk I nl nc no ni 0 I1) (hX : XI I I1 X) :
    mx_Spec l mX11_goesWithLists (d + 27) 0 0 [.ref 0, .int ab] (sk0 cc, X) (fun r h' => r = some (.int (b2i (gwB I ni nl (pm_of I ps nb nl nc no false false (pm_row false (I 1 6) 0 ab (-1) (-1))) (hs_new I nk)))) ∧ ∃ X', h' = (sk0 55, X') ∧ XI I I1 X') := by
  obtain ⟨⟨s1, s2, s3, s4, s5, s6, s7, s8⟩, ⟨c1, c2, c3, c4, c5, c6, c7⟩, -⟩ := id W.1
  obtain ⟨v1, v2, v3, v4, -⟩ := id W.2.2.1
  let P : Pm := pm_of I ps nb nl nc no false false (pm_row false (I 1 6) 0 ab (-1) (-1))
  have hP : POk P := W.pok rfl
  have hB : PB P := W.pb
  have h11 : P.R 65 11 = -1 := World.rw5
  have hI : HInv P 0 (hs_new I nk) := W.hinv0
  have IT := it_ok hP hB h11 hI rfl rfl
  have hl25 : ∀ i, i < ni → bnd (I 25 i) 0 167 := fun i hi => (v4 i hi).1
  have hl26 : ∀ i, i < ni → bnd (I 26 i) 0 nb := fun i hi => (v4 i hi).2
  refine sn_X11_goesWithLists _ ⟨_, sp_clear (d := d + 24) (at9_55 _), ?_⟩
  rintro _ _ ⟨rfl, rfl⟩
  have kn : ∀ k, k < 55 ∨ 64 < k → mx_clr X 55 k = X k := fun k hk => by
    unfold mx_clr
    rw [ms_ne (by omega), ms_ne (by omega), fr_ne (by omega), fr_ne (by omega), fr_ne (by omega), fr_ne (by omega), fr_ne (by omega), fr_ne (by omega), fr_ne (by omega), fr_ne (by omega)]
  have k1 : ∀ i, i < 30 → mx_clr X 55 56 i = -1 ∧ mx_clr X 55 57 i = -1 ∧ mx_clr X 55 58 i = 0 ∧ mx_clr X 55 59 i = 0 := fun i hi => by
    unfold mx_clr
    refine ⟨?_, ?_, ?_, ?_⟩
    · rw [ms_ne (by omega), ms_ne (by omega), fr_ne (by omega), fr_ne (by omega), fr_ne (by omega), fr_ne (by omega), fr_ne (by omega), fr_ne (by omega), fr_ne (by omega), fr_eq hi]
    · rw [ms_ne (by omega), ms_ne (by omega), fr_ne (by omega), fr_ne (by omega), fr_ne (by omega), fr_ne (by omega), fr_ne (by omega), fr_ne (by omega), fr_eq hi]
    · rw [ms_ne (by omega), ms_ne (by omega), fr_ne (by omega), fr_ne (by omega), fr_ne (by omega), fr_ne (by omega), fr_ne (by omega), fr_eq hi]
    · rw [ms_ne (by omega), ms_ne (by omega), fr_ne (by omega), fr_ne (by omega), fr_ne (by omega), fr_ne (by omega), fr_eq hi]
  have k6 : ∀ i, i < 4 → mx_clr X 55 61 i = 0 := fun i hi => by
    unfold mx_clr
    rw [ms_ne (by omega), ms_ne (by omega), fr_ne (by omega), fr_ne (by omega), fr_ne (by omega), fr_eq hi]
  have k7 : ∀ i, i < 20 → mx_clr X 55 62 i = -1 ∧ mx_clr X 55 63 i = 0 ∧ mx_clr X 55 64 i = 0 := fun i hi => by
    unfold mx_clr
    refine ⟨?_, ?_, ?_⟩
    · rw [ms_ne (by omega), ms_ne (by omega), fr_ne (by omega), fr_ne (by omega), fr_eq hi]
    · rw [ms_ne (by omega), ms_ne (by omega), fr_ne (by omega), fr_eq hi]
    · rw [ms_ne (by omega), ms_ne (by omega), fr_eq hi]
  have k9 : mx_clr X 55 55 9 = 0 ∧ mx_clr X 55 55 10 = 0 := by
    unfold mx_clr
    exact ⟨by rw [ms_self, upd_ne (by omega), ms_self, upd_eq], by rw [ms_self, upd_eq]⟩
  generalize mx_clr X 55 = K at kn k1 k6 k7 k9 ⊢
  refine sg_X11_goesWithLists_7 _ ⟨_, sn_X1_begin 55 (at9_c hcc) (Q := fun r h' => r = none ∧ h' = (sk0 55, (mx_set (mx_set (mx_set (mx_set (mx_set (mx_set (mx_set (mx_set (mx_set K 65 7 0) 65 8 (K 1 6)) 65 9 0) 65 10 0) 65 11 (-1)) 65 12 (-1)) 65 13 (-1)) 65 14 (-1)) 65 15 0))) ⟨rfl, rfl⟩, ?_⟩
  rintro _ _ ⟨rfl, rfl⟩
  refine sg_X11_goesWithLists_18 _ ?_
  have jn : ∀ k, k ≠ 65 → (mx_set (mx_set (mx_set (mx_set (mx_set (mx_set (mx_set (mx_set (mx_set (mx_set K 65 7 0) 65 8 (K 1 6)) 65 9 0) 65 10 0) 65 11 (-1)) 65 12 (-1)) 65 13 (-1)) 65 14 (-1)) 65 15 0) 65 10 ab) k = K k := fun k hk => by
    rw [ms_ne hk, ms_ne hk, ms_ne hk, ms_ne hk, ms_ne hk, ms_ne hk, ms_ne hk, ms_ne hk, ms_ne hk, ms_ne hk]
  have jr : ∀ f, 7 ≤ f → f ≤ 12 → (mx_set (mx_set (mx_set (mx_set (mx_set (mx_set (mx_set (mx_set (mx_set (mx_set K 65 7 0) 65 8 (K 1 6)) 65 9 0) 65 10 0) 65 11 (-1)) 65 12 (-1)) 65 13 (-1)) 65 14 (-1)) 65 15 0) 65 10 ab) 65 f = pm_row false (I 1 6) 0 ab (-1) (-1) f := fun f f1 f2 => by
    have q8 : K 1 6 = I 1 6 := by rw [kn 1 (by omega), hX.1 1 (by omega) (by omega)]
    rw [q8]
    have : f = 7 ∨ f = 8 ∨ f = 9 ∨ f = 10 ∨ f = 11 ∨ f = 12 := by omega
    rcases this with rfl | rfl | rfl | rfl | rfl | rfl <;> simp [ms_self, upd, pm_row, b2i]
  have j13 : ∀ f, 13 ≤ f → f ≤ 15 → (mx_set (mx_set (mx_set (mx_set (mx_set (mx_set (mx_set (mx_set (mx_set (mx_set K 65 7 0) 65 8 (K 1 6)) 65 9 0) 65 10 0) 65 11 (-1)) 65 12 (-1)) 65 13 (-1)) 65 14 (-1)) 65 15 0) 65 10 ab) 65 f = (hs_new I nk).r 65 f := fun f f1 f2 => by
    have : f = 13 ∨ f = 14 ∨ f = 15 := by omega
    rcases this with rfl | rfl | rfl <;> simp [ms_self, upd, hs_new, HS.r]
  generalize (mx_set (mx_set (mx_set (mx_set (mx_set (mx_set (mx_set (mx_set (mx_set (mx_set K 65 7 0) 65 8 (K 1 6)) 65 9 0) 65 10 0) 65 11 (-1)) 65 12 (-1)) 65 13 (-1)) 65 14 (-1)) 65 15 0) 65 10 ab) = J at jn jr j13 ⊢
  have jo : ∀ k, k ≠ 65 → k < 55 ∨ 64 < k → J k = X k := fun k k1 k2 => (jn k k1).trans (kn k k2)
  have ji : ∀ k, k ≠ 32 → (k < 55 ∨ 73 < k) → J k = I k := fun k k1 k2 => (jo k (by omega) (by omega)).trans (hX.1 k k1 k2)
  have CR0 : CR 55 P (hs_new I nk) J J := by
    refine ⟨Or.inr rfl, ⟨fun k a1 a2 a3 => by rw [World.prr (by omega)]; exact ji k (by omega) (by omega), fun f f1 f2 => by rw [World.rw5]; exact jr f f1 f2, fun x hx j j1 j2 => ?_, fun e he => ?_, fun i hi j j1 j2 => ?_, ⟨by rw [jn 55 (by omega)]; exact k9.1, by rw [jn 55 (by omega)]; exact k9.2⟩, j13, ⟨s8, by rw [ji 43 (by omega) (by omega)]; exact c7, fun i hi j hj => ?_⟩⟩, fun _ _ _ _ _ _ _ => rfl⟩
    · rw [jn _ (by omega)]
      obtain ⟨q1, q2, q3, q4⟩ := k1 x hx
      have : j = 1 ∨ j = 2 ∨ j = 3 ∨ j = 4 := by omega
      rcases this with rfl | rfl | rfl | rfl
      · exact q1
      · exact q2
      · exact q3
      · exact q4
    · rw [jn _ (by omega)]
      exact ⟨k6 e he, by show 0 ≤ 30; omega, fun i hi => absurd hi (Nat.not_lt_zero _)⟩
    · rw [jn _ (by omega)]
      obtain ⟨q1, q2, q3⟩ := k7 i hi
      have : j = 7 ∨ j = 8 ∨ j = 9 := by omega
      rcases this with rfl | rfl | rfl
      · exact q1
      · exact q2
      · exact q3
    · rw [ji (44 + j) (by omega) (by omega)]
      show _ = if 44 + j = 1 ∨ 44 + j = 2 ∨ 44 + j = 7 then _ else if 44 + j = 5 then _ else if 44 + j < 10 then _ else if 44 + j = 65 then _ else I (44 + j) i
      rw [if_neg (by omega), if_neg (by omega), if_neg (by omega), if_neg (by omega)]
  have CP : CPlan P 0 J := hpl.cplan ⟨s4, s5, s6⟩ (fun k k1 k2 => by rw [jo k (by omega) (by omega)]; exact hX.2 k (by omega) (by omega))
  have hxi : ∀ {A : HS} {Y : mx_I}, CR 55 P A J Y → XI I I1 Y := fun C => ⟨fun k k1 k2 => by rw [C.out55 rfl k1 k2]; exact ji k k1 k2, fun k k1 k2 => by rw [C.old ⟨k1, k2⟩, jo k (by omega) (by omega)]; exact hX.2 k k1 k2⟩
  have j25 : ∀ i, i < ni → bnd (J 25 i) 0 167 := fun i hi => by rw [ji 25 (by omega) (by omega)]; exact hl25 i hi
  refine ⟨_, sp_lastHour (d := d + 25) (ni := ni) (by rw [ji 24 (by omega) (by omega)]; exact c6) s7 j25, ?_⟩
  rintro _ _ ⟨⟨la, rfl, la1, la2, la3⟩, rfl⟩
  rw [ji 25 (by omega) (by omega)] at la3
  refine sg_X11_goesWithLists_36 _ _ ?_
  have lp : ∀ (m h : Nat) (Y : mx_I), h + m = 168 → CR 55 P (hs_it P h (hs_new I nk)) J Y → (∀ g, g < h → agr I ni nl g (hs_it P (g + 1) (hs_new I nk)) = true) → mx_Go l (mx_rm (d + 26 + 1) 0 0) mX11_goesWithLists (mx_Z (fun r h' => r = some (.int (b2i (gwB I ni nl P (hs_new I nk)))) ∧ ∃ X', h' = (sk0 55, X') ∧ XI I I1 X') 0 0) 0 0 39 [.ref 0, .int ab, .int la, .int (nI h)] [] (sk0 55, Y) := by
    intro m
    induction m with
    | zero =>
      intro h Y hm C hall
      have e1 : la < nI h := by rw [i_lt, nI_toInt (by omega)]; omega
      refine sg_X11_goesWithLists_39 _ _ _ (fun _ => ⟨?_, Y, rfl, hxi C⟩) (fun z => absurd e1 z)
      rw [gw_t (fun g hg => hall g (by omega))]; rfl
    | succ m ih =>
      intro h Y hm C hall
      obtain ⟨i1, i2, i3⟩ := IT h (by omega)
      obtain ⟨n1, n2, n3⟩ := IT (h + 1) (by omega)
      have hle : la < nI h ↔ la.toInt < h := by rw [i_lt, nI_toInt (by omega)]
      refine sg_X11_goesWithLists_39 _ _ _ (fun z => ⟨?_, Y, rfl, hxi C⟩) (fun z => ?_)
      · have z' := hle.mp z
        rw [gw_t (fun g hg => ?_)]
        · rfl
        · by_cases q : g < h
          · exact hall g q
          · refine decide_eq_true (fun i hi hh => ?_)
            have := la3 i hi
            rw [hh, nI_toInt (by omega)] at this
            omega
      · have key := sp_goOn (l := l) (d := d) (fm := 0) (u := nI h) hP hB (fun z => absurd z (by simp [P, pm_of])) CP C i1
        rw [nI_toInt (by omega), i2] at key
        have e1 : hs_go P (h : Int) (168 - h) (hs_it P h (hs_new I nk)) = hs_it P (h + 1) (hs_new I nk) := by
          have := go_one (P := P) (B := hs_it P h (hs_new I nk)) (n := 167 - h) (by omega) i3 (by rw [i2]; exact n2)
          rw [i2, show 167 - h + 1 = 168 - h from by omega] at this
          exact this
        rw [e1] at key
        refine ⟨_, key, ?_⟩
        rintro _ _ ⟨rfl, Y2, rfl, C2, H2⟩
        have X2 : XI I I1 Y2 := hxi C2
        have S := fun Q => @sg_X11_goesWithLists_52 l (d + 26) Q 55 Y2 ab la (nI h)
        rw [nI_clamp (n := h) (by omega), nI_1] at S
        refine S _ (i_vp (by omega) (by omega)) (fun g => ?_) (fun g => ⟨_, sp_agree (d := d + 24) (nb := nb) (ni := ni) (I := I) s4 C2 H2.1 (by rw [X2.1 24 (by omega) (by omega)]; exact c6) s7 s2 ⟨X2.1 25 (by omega) (by omega), X2.1 26 (by omega) (by omega), X2.1 27 (by omega) (by omega)⟩ hl26, ?_⟩)
        · refine ih (h + 1) Y2 (by omega) C2 (fun g' hg' => ?_)
          by_cases q : g' < h
          · exact hall g' q
          · have hgh : g' = h := by omega
            subst hgh
            refine decide_eq_true (fun i hi hh => ?_)
            have hb := (hpl.2.2.2.2 g' (by omega) i (by omega)).mpr ⟨hi, hh⟩
            rw [X2.2 71 (by omega) (by omega)] at g
            rw [g, b_0] at hb
            exact absurd hb (by simp)
        · rintro _ _ ⟨rfl, rfl⟩
          refine sg_X11_goesWithLists_82 _ _ _ _ (fun g2 => ?_) (fun g2 => ⟨?_, Y2, rfl, X2⟩)
          · rw [nI_1]
            refine ih (h + 1) Y2 (by omega) C2 (fun g' hg' => ?_)
            by_cases q : g' < h
            · exact hall g' q
            · have hgh : g' = h := by omega
              subst hgh
              cases w : agr I ni nl g' (hs_it P (g' + 1) (hs_new I nk)) with
              | true => rfl
              | false => exact absurd (show b2i (agr I ni nl g' (hs_it P (g' + 1) (hs_new I nk))) = 0 by rw [w]; rfl) g2
          · rw [gw_f (nl := nl) (h := h) (by omega) (b2i_0.mp g2)]; rfl
  exact lp 168 0 J (by omega) CR0 (fun g hg => absurd hg (Nat.not_lt_zero _))
end W
