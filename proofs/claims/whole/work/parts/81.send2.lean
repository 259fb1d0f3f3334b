/-! the pair send -/
set_option maxHeartbeats 4000000 in
theorem p_send {l : Launch} (a1 a2 a3 a4 a5 a6 : Int32) : mx_PrI l Sim mX11_send mX12_send [.int a1, .int a2, .int a3, .int a4, .int a5, .int a6] := by
  intro c I hs
  obtain ⟨nb, now, nl, nc, no, ni, nk, hp, ps, W⟩ := hs.2.1.world
  obtain ⟨⟨s1, s2, s3, s4, s5, s6, s7, s8⟩, ⟨c1, c2, c3, c4, c5, c6, c7⟩, ⟨d1, d2, d3, d4, d5, -⟩, -⟩ := id W.1
  have hc := hs.1
  obtain ⟨z21, z22, z25, z26⟩ := hs.2.2.2.2.2.2
  have i0 : (0 : Int32).toInt = 0 := rfl
  have i1 : (1 : Int32).toInt = 1 := by decide
  have i99 : (99 : Int32).toInt = 99 := by decide
  cases g1 : inR a1 1 99 with
  | false =>
    have g1' := inR_f.mp g1
    refine pr_no (-1) hs (sn_X11_send _ _ _ _ _ _ (fun _ => ⟨rfl, rfl⟩) (fun _ _ => ⟨rfl, rfl⟩) (fun z1 z2 => ?_)) (sn_X12_send _ _ _ _ _ _ ⟨_, sp_isIn _ _ _, ?_⟩)
    · rw [i_lt, i1] at z1; rw [i_lt, i99] at z2
      exact absurd ⟨by omega, by omega⟩ g1'
    · rintro _ _ ⟨rfl, rfl⟩; rw [i1, i99, g1]; exact sg_X12_send_7 _ _ _ _ _ _ _ (fun _ => ⟨rfl, rfl⟩) (fun z => absurd rfl z)
  | true =>
  have g1' := inR_t.mp g1
  have n1 : ¬ a1 < 1 := fun z => by rw [i_lt, i1] at z; omega
  have n99 : ¬ 99 < a1 := fun z => by rw [i_lt, i99] at z; omega
  have cst : ∀ {Q : Option Value → mx_H → Prop}, mx_Go l (mx_rm (99 + 1) 0 0) mX11_send (mx_Z Q 0 0) 0 0 19 [.ref 0, .int a1, .int a2, .int a3, .int a4, .int a5, .int a6, .retAddr 0, .retAddr 0, .retAddr 0, .retAddr 0, .retAddr 0, .retAddr 0] [.int (b2i (inR a2 0 nb))] (sk0 c, I) → mx_Spec l mX11_send (99 + 1) 0 0 [.ref 0, .int a1, .int a2, .int a3, .int a4, .int a5, .int a6] (sk0 c, I) Q := by
    intro Q k
    refine sn_X11_send _ _ _ _ _ _ (fun z => absurd z n1) (fun _ z => absurd z n99) (fun _ _ => ⟨_, sp_hasEnd _ c1 s2, ?_⟩)
    rintro _ _ ⟨rfl, rfl⟩; exact k
  have mst : ∀ {Q : Option Value → mx_H → Prop} {cc : Nat} {K : mx_I}, K 121 = I 121 → mx_Go l (mx_rm (99 + 1) 0 0) mX12_send (mx_Z Q 0 0) 0 0 15 [.ref 120, .int a1, .int a2, .int a3, .int a4, .int a5, .int a6, .retAddr 0, .retAddr 0, .retAddr 0, .retAddr 0] [.int (b2i (inR a2 0 nb))] (sk0 cc, K) → mx_Spec l mX12_send (99 + 1) 0 0 [.ref 120, .int a1, .int a2, .int a3, .int a4, .int a5, .int a6] (sk0 cc, K) Q := by
    intro Q cc K hK k
    refine sn_X12_send _ _ _ _ _ _ ⟨_, sp_isIn _ _ _, ?_⟩
    rintro _ _ ⟨rfl, rfl⟩; rw [i1, i99, g1]
    refine sg_X12_send_7 _ _ _ _ _ _ _ (fun z => absurd z (by decide)) (fun _ => ⟨_, sp_isEnd _ (by rw [hK]; exact d1) s2, ?_⟩)
    rintro _ _ ⟨rfl, rfl⟩; exact k
  cases g2 : inR a2 0 nb with
  | false =>
    rw [g2] at cst mst
    exact pr_no (-1) hs (cst (sg_X11_send_19 _ _ _ _ _ _ _ (fun _ => ⟨rfl, rfl⟩) (fun z => absurd rfl z))) (mst rfl (sg_X12_send_15 _ _ _ _ _ _ _ (fun _ => ⟨rfl, rfl⟩) (fun z => absurd rfl z)))
  | true =>
  rw [g2] at cst mst
  have cst2 : ∀ {Q : Option Value → mx_H → Prop}, mx_Go l (mx_rm (99 + 1) 0 0) mX11_send (mx_Z Q 0 0) 0 0 30 [.ref 0, .int a1, .int a2, .int a3, .int a4, .int a5, .int a6, .retAddr 0, .retAddr 0, .retAddr 0, .retAddr 0, .retAddr 0, .retAddr 0] [.int (b2i (inR a3 0 nb))] (sk0 c, I) → mx_Spec l mX11_send (99 + 1) 0 0 [.ref 0, .int a1, .int a2, .int a3, .int a4, .int a5, .int a6] (sk0 c, I) Q := by
    intro Q k
    refine cst (sg_X11_send_19 _ _ _ _ _ _ _ (fun z => absurd z (by decide)) (fun _ => ⟨_, sp_hasEnd _ c1 s2, ?_⟩))
    rintro _ _ ⟨rfl, rfl⟩; exact k
  have mst2 : ∀ {Q : Option Value → mx_H → Prop} {cc : Nat} {K : mx_I}, K 121 = I 121 → mx_Go l (mx_rm (99 + 1) 0 0) mX12_send (mx_Z Q 0 0) 0 0 23 [.ref 120, .int a1, .int a2, .int a3, .int a4, .int a5, .int a6, .retAddr 0, .retAddr 0, .retAddr 0, .retAddr 0] [.int (b2i (inR a3 0 nb))] (sk0 cc, K) → mx_Spec l mX12_send (99 + 1) 0 0 [.ref 120, .int a1, .int a2, .int a3, .int a4, .int a5, .int a6] (sk0 cc, K) Q := by
    intro Q cc K hK k
    refine mst hK (sg_X12_send_15 _ _ _ _ _ _ _ (fun z => absurd z (by decide)) (fun _ => ⟨_, sp_isEnd _ (by rw [hK]; exact d1) s2, ?_⟩))
    rintro _ _ ⟨rfl, rfl⟩; exact k
  cases g3 : inR a3 0 nb with
  | false =>
    rw [g3] at cst2 mst2
    exact pr_no (-1) hs (cst2 (sg_X11_send_30 _ _ _ _ _ _ _ (fun _ => ⟨rfl, rfl⟩) (fun z => absurd rfl z) (fun z => absurd rfl z))) (mst2 rfl (sg_X12_send_23 _ _ _ _ _ _ _ (fun _ => ⟨rfl, rfl⟩) (fun z => absurd rfl z) (fun z => absurd rfl z) (fun z => absurd rfl z)))
  | true =>
  rw [g3] at cst2 mst2
  by_cases ge : a2 = a3
  · exact pr_no (-1) hs (cst2 (sg_X11_send_30 _ _ _ _ _ _ _ (fun z => absurd z (by decide)) (fun _ z => absurd ge z) (fun _ _ => ⟨rfl, rfl⟩))) (mst2 rfl (sg_X12_send_23 _ _ _ _ _ _ _ (fun z => absurd z (by decide)) (fun _ _ => ⟨rfl, rfl⟩) (fun _ z => absurd ge z) (fun _ z => absurd ge z)))
  have cst3 : ∀ {Q : Option Value → mx_H → Prop}, mx_Go l (mx_rm (99 + 1) 0 0) mX11_send (mx_Z Q 0 0) 0 0 48 [.ref 0, .int a1, .int a2, .int a3, .int a4, .int a5, .int a6, .retAddr 0, .retAddr 0, .retAddr 0, .retAddr 0, .retAddr 0, .retAddr 0] [.int (b2i (isSp now a4 a5))] (sk0 c, I) → mx_Spec l mX11_send (99 + 1) 0 0 [.ref 0, .int a1, .int a2, .int a3, .int a4, .int a5, .int a6] (sk0 c, I) Q := by
    intro Q k
    refine cst2 (sg_X11_send_30 _ _ _ _ _ _ _ (fun z => absurd z (by decide)) (fun _ _ => ⟨_, sp_isSpan _ _ c2 s3, ?_⟩) (fun _ z => absurd z ge))
    rintro _ _ ⟨rfl, rfl⟩; exact k
  by_cases h30 : nl = 30
  · -- no room for one more
    have e30 : I 121 2 = 30 := by rw [d3, h30]; rfl
    have mno : ∀ {cc : Nat} {K : mx_I} {Q : Option Value → mx_H → Prop}, K 121 = I 121 → Q (some (.int (-1))) (sk0 cc, K) → mx_Spec l mX12_send (99 + 1) 0 0 [.ref 120, .int a1, .int a2, .int a3, .int a4, .int a5, .int a6] (sk0 cc, K) Q := by
      intro cc K Q hK q
      exact mst2 hK (sg_X12_send_23 _ _ _ _ _ _ _ (fun z => absurd z (by decide)) (fun _ z => absurd z ge) (fun _ _ _ => q) (fun _ _ z => absurd (by rw [hK]; exact e30) z))
    refine pr_go (fun v c1 X => v = -1 ∧ c1 = c ∧ ∀ k, k < 67 ∨ 71 < k → X k = I k) (cst3 ?_) ?_
    · refine sg_X11_send_48 _ _ _ _ _ _ _ (fun _ => ⟨-1, c, I, rfl, rfl, rfl, rfl, fun _ _ => rfl⟩) (fun _ _ => ⟨-1, c, I, rfl, rfl, rfl, rfl, fun _ _ => rfl⟩) (fun _ _ _ => ?_) (fun _ _ _ => ⟨-1, c, I, rfl, rfl, rfl, rfl, fun _ _ => rfl⟩)
      rw [c2]
      refine W.make (d := 97) s3 (fun _ _ => rfl) (fun I1 h1 h2 => ?_)
      refine sg_X11_send_85 _ _ _ _ _ _ ⟨_, sp_addL (n := nl) (d := 98) (by rw [h1 2 (by omega)]; exact c3) s4 _ _ _, ?_⟩
      rintro _ _ ⟨rfl, rfl⟩
      rw [if_neg (by omega), if_neg (by omega)]
      exact sg_X11_send_99 _ _ _ _ _ _ _ (fun z => absurd rfl z) (fun _ => ⟨-1, c, I1, rfl, rfl, rfl, rfl, h1⟩)
    · rintro v cc X ⟨rfl, rfl, hX⟩
      refine mno (hX 121 (by omega)) ⟨rfl, cc, X, rfl, hs.same hc (fun k k1 k2 => hX k (by omega)) ⟨fun _ _ _ _ _ _ _ => rfl, fun _ _ => rfl, ?_⟩⟩
      rw [hX 120 (by omega)]; exact ⟨z21, z22, z25, z26⟩
  have hn : nl < 30 := by omega
  have n30 : ¬ I 121 2 = 30 := fun z => by rw [d3, show (30 : Int32) = nI 30 from rfl, nI_eq (by omega) (by omega)] at z; omega
  have mst3 : ∀ {Q : Option Value → mx_H → Prop} {cc : Nat} {K : mx_I}, K 121 = I 121 → mx_Go l (mx_rm (99 + 1) 0 0) mX12_send (mx_Z Q 0 0) 0 0 50 [.ref 120, .int a1, .int a2, .int a3, .int a4, .int a5, .int a6, .retAddr 0, .retAddr 0, .retAddr 0, .retAddr 0] [.int (b2i (isSp now a4 a5))] (sk0 cc, K) → mx_Spec l mX12_send (99 + 1) 0 0 [.ref 120, .int a1, .int a2, .int a3, .int a4, .int a5, .int a6] (sk0 cc, K) Q := by
    intro Q cc K hK k
    refine mst2 hK (sg_X12_send_23 _ _ _ _ _ _ _ (fun z => absurd z (by decide)) (fun _ z => absurd z ge) (fun _ _ z => absurd (by rw [hK] at z; exact z) n30) (fun _ _ _ => ⟨_, sp_areHours _ _ (by rw [hK]; exact d2) s3, ?_⟩))
    rintro _ _ ⟨rfl, rfl⟩; exact k
  cases g4 : isSp now a4 a5 with
  | false =>
    rw [g4] at cst3 mst3
    exact pr_no (-1) hs (cst3 (sg_X11_send_48 _ _ _ _ _ _ _ (fun _ => ⟨rfl, rfl⟩) (fun z => absurd rfl z) (fun z => absurd rfl z) (fun z => absurd rfl z))) (mst3 rfl (sg_X12_send_50 _ _ _ _ _ _ _ (fun _ => ⟨rfl, rfl⟩) (fun z => absurd rfl z)))
  | true =>
  rw [g4] at cst3 mst3
  cases g5 : inR a6 0 1 with
  | false =>
    have g5' := inR_f.mp g5
    refine pr_no (-1) hs (cst3 (sg_X11_send_48 _ _ _ _ _ _ _ (fun z => absurd z (by decide)) (fun _ _ => ⟨rfl, rfl⟩) (fun _ z1 z2 => ?_) (fun _ _ _ => ⟨rfl, rfl⟩))) (mst3 rfl (sg_X12_send_50 _ _ _ _ _ _ _ (fun z => absurd z (by decide)) (fun _ => ⟨_, sp_isIn _ _ _, ?_⟩)))
    · refine absurd ⟨?_, (i_le _ _).mp z2⟩ g5'
      have h' : ¬ a6.toInt < 0 := fun z => z1 ((i_lt _ _).mpr z)
      omega
    · rintro _ _ ⟨rfl, rfl⟩; rw [i0, i1, g5]
      exact sg_X12_send_60 _ _ _ _ _ _ _ (fun z => absurd rfl z) (fun _ => ⟨rfl, rfl⟩)
  | true =>
  have g5' := inR_t.mp g5
  have m0 : ¬ a6 < 0 := fun z => by have : a6.toInt < 0 := (i_lt _ _).mp z; omega
  have m1 : a6 ≤ 1 := (i_le _ _).mpr g5'.2
  obtain ⟨y1, y2, y3⟩ := of_decide_eq_true g4
  have b1 : bnd a1 1 99 := inRb g1
  have b2 : bnd a2 0 nb := inRb g2
  obtain ⟨e, hea, he⟩ := i_of g3
  subst hea
  obtain ⟨f, ef, lf⟩ : ∃ f : Nat, a4 = nI f ∧ (f : Int) = a4.toInt := ⟨a4.toInt.toNat, i_nat (by omega), by omega⟩
  obtain ⟨t, et, lt⟩ : ∃ t : Nat, a5 = nI t ∧ (t : Int) = a5.toInt := ⟨a5.toInt.toNat, i_nat (by omega), by omega⟩
  subst ef
  subst et
  have hf1 : now ≤ f := by omega
  have hf2 : f ≤ t := by omega
  have hf3 : t ≤ 167 := by omega
  let P : Nat → Pm := fun h => pm_of (Ih I nl a1 a2 h) ps nb (nl + 1) nc no false true (pm_row false (I 1 6) 0 0 (nI nl) (nI e))
  let A : Nat → HS := fun h => hs_of (Ih I nl a1 a2 h) hp nk now
  let m : Nat → Int32 := fun h => (hs_go (P h) 167 (168 - now) (A h)).r 65 13
  have Wh : ∀ h, now ≤ h → h ≤ 167 → World (Ih I nl a1 a2 h) nb now (nl + 1) nc no ni nk hp ps := fun h h1 h2 => W.ih hn b1 b2 ⟨h1, h2⟩
  have hP : ∀ h, now ≤ h → h ≤ 167 → POk (P h) := fun h h1 h2 => (Wh h h1 h2).pok rfl
  have hB : ∀ h, now ≤ h → h ≤ 167 → PB (P h) := fun h h1 h2 => (Wh h h1 h2).pb
  have hI : ∀ h, now ≤ h → h ≤ 167 → HInv (P h) now (A h) := fun h h1 h2 => (Wh h h1 h2).hinv
  have h11 : ∀ h, (P h).R 65 11 = nI nl := fun h => World.rw5
  have e5 : ∀ h, h ≤ 167 → ((P h).R 5 nl).toInt = h := fun h hh => by
    have e0 : (P h).R 5 nl = Ih I nl a1 a2 h 5 nl := World.pq (by omega)
    rw [e0]
    unfold Ih
    rw [mw_new_ne (by omega)]
    have := cw_new_row (I := I) (n := nl) (a1 := a1) (a2 := a2) (a3 := nI h) (j := 2) (i := nl) (by omega)
    rw [if_pos rfl] at this
    rw [show (5 : Nat) = 3 + 2 from rfl, this]
    exact nI_toInt (by omega)
  have met := fun h h1 h2 => go_met (fm := now) (w := nl) (hP h h1 h2) (hB h h1 h2) (by show nl < nl + 1; omega) (h11 h) (168 - now) (A h) (by show now + (168 - now) = 168; omega) (hI h h1 h2) rfl
  have mS : ∀ h, now ≤ h → h ≤ t → m h = -1 ∨ ∃ s : Nat, m h = nI s ∧ h ≤ s ∧ s ≤ 167 := fun h h1 h2 => by
    rcases (met h h1 (by omega)).1 with z | ⟨s, q1, q2, q3, q4⟩
    · exact Or.inl z
    · rw [e5 h (by omega)] at q4
      exact Or.inr ⟨s, q1, by omega, q3⟩
  -- as if the hours before were no hours
  let m' : Nat → Int32 := fun h => if now ≤ h then m h else -1
  have mS' : ∀ h, h ≤ t → m' h = -1 ∨ ∃ s : Nat, m' h = nI s ∧ h ≤ s ∧ s ≤ 167 := fun h h2 => by
    show (if now ≤ h then m h else -1) = -1 ∨ _
    by_cases q : now ≤ h
    · have := mS h q h2
      simp only [m', if_pos q]
      exact this
    · rw [if_neg q]; exact Or.inl rfl
  have mm : ∀ h, now ≤ h → m' h = m h := fun h q => if_pos q
  let R : Int32 × Int32 := sd_run m' (t + 1 - f) f (-1) (-1)
  refine pr_go (fun v c1 F => (c1 = 33 ∨ c1 = 55) ∧ (v = if a6 = 0 then R.1 else R.2) ∧ (∀ k, k ≠ 32 → (k < 55 ∨ 73 < k) → (k < 3 ∨ 7 < k) → F k = I k) ∧ (∀ j, j < 5 → ∀ i, i ≠ nl → F (3 + j) i = I (3 + j) i)) (cst3 ?_) ?_
  · refine sg_X11_send_48 _ _ _ _ _ _ _ (fun z => absurd z (by decide)) (fun _ z => absurd z m0) (fun _ _ _ => ?_) (fun _ _ z => absurd m1 z)
    rw [c2]
    refine W.make (d := 97) s3 (fun _ _ => rfl) (fun I1 h1 h2 => ?_)
    refine sg_X11_send_85 _ _ _ _ _ _ ⟨_, sp_addL (n := nl) (d := 98) (by rw [h1 2 (by omega)]; exact c3) s4 _ _ _, ?_⟩
    rintro _ _ ⟨rfl, rfl⟩
    rw [if_pos hn, if_pos hn]
    refine sg_X11_send_99 _ _ _ _ _ _ _ (fun _ => ?_) (fun z => absurd z (nI_n1 (by omega)))
    have hXS : XS I nl nc no ni now a1 a2 f (cw_new I1 nl a1 a2 (nI f)) := by
      refine ⟨fun k k1 k2 k3 k4 => ?_, fun k hk => ?_, fun i hi => ?_, ?_⟩
      · by_cases q : k < 2 ∨ 7 < k
        · rw [cw_new_ne q, cw_new_ne q, h1 k (by omega)]
        · funext i
          by_cases q2 : k = 2
          · subst q2
            unfold cw_new
            rw [ms_self, ms_self, ms_ne (by omega), ms_ne (by omega), ms_ne (by omega), ms_ne (by omega), ms_ne (by omega), ms_ne (by omega), ms_ne (by omega), ms_ne (by omega), ms_ne (by omega), ms_ne (by omega), h1 2 (by omega)]
          · have r1 := cw_new_row (I := I1) (n := nl) (a1 := a1) (a2 := a2) (a3 := nI f) (j := k - 3) (i := i) (by omega)
            have r2 := cw_new_row (I := I) (n := nl) (a1 := a1) (a2 := a2) (a3 := nI f) (j := k - 3) (i := i) (by omega)
            rw [show 3 + (k - 3) = k from by omega] at r1 r2
            rw [r1, r2, h1 k (by omega)]
      · rw [cw_new_ne (by omega), h1 k (by omega)]
      · have r1 := cw_new_row (I := I1) (n := nl) (a1 := a1) (a2 := a2) (a3 := nI f) (j := 2) (i := i) (by omega)
        rw [if_neg hi] at r1
        rw [show (5 : Nat) = 3 + 2 from rfl, r1, h1 (3 + 2) (by omega)]
      · unfold PlanOk
        rw [cw_new_ne (by omega), cw_new_ne (by omega), cw_new_ne (by omega), cw_new_ne (by omega), cw_new_ne (by omega)]
        exact h2
    have fin : ∀ (cc : Nat) (X : mx_I) (h : Nat) (x8 x9 x10 : Int32), (cc = 33 ∨ cc = 55) → XS I nl nc no ni now a1 a2 f X → (x8, x9) = R → mx_K1 l mX5_dropLast 99 [.ref 2] (sk0 cc, X) (fun r h' => mx_Go l (mx_rm (99 + 1) 0 0) mX11_send (mx_Z (fun r h' => ∃ (v : Int32) (c1 : Nat) (F : mx_I), r = some (.int v) ∧ h' = (sk0 c1, F) ∧ (c1 = 33 ∨ c1 = 55) ∧ (v = if a6 = 0 then R.1 else R.2) ∧ (∀ k, k ≠ 32 → (k < 55 ∨ 73 < k) → (k < 3 ∨ 7 < k) → F k = I k) ∧ (∀ j, j < 5 → ∀ i, i ≠ nl → F (3 + j) i = I (3 + j) i)) 0 0) 0 0 194 [.ref 0, .int a1, .int a2, .int (nI e), .int (nI f), .int (nI t), .int a6, .int (nI nl), .int x8, .int x9, .int x10, .int (nI h), .retAddr 0] (r.toList ++ []) h') := by
      intro cc X h x8 x9 x10 hcc hX hR
      have e2 : X 2 5 = nI (nl + 1) := by rw [hX.1 2 (by omega) (by omega) (by omega) (by omega)]; exact cw_new_2
      have e3 : ¬ X 2 5 ≤ 0 := by rw [e2]; exact nI_nle (by omega) (by omega)
      refine ⟨fun r h' => r = none ∧ h' = (sk0 cc, mx_set X 2 5 (X 2 5 - 1)), sn_X5_dropLast (fun z => absurd z e3) (fun _ => ⟨rfl, rfl⟩), ?_⟩
      rintro _ _ ⟨rfl, rfl⟩
      rw [e2, nI_pred]
      have F1 : ∀ k, k ≠ 32 → (k < 55 ∨ 73 < k) → (k < 3 ∨ 7 < k) → mx_set X 2 5 (nI nl) k = I k := fun k k1 k2 k3 => by
        by_cases q : k = 2
        · subst q
          rw [ms_self, hX.1 2 (by omega) (by omega) (by omega) (by omega)]
          unfold cw_new
          rw [ms_self, ms_ne (by omega), ms_ne (by omega), ms_ne (by omega), ms_ne (by omega), ms_ne (by omega)]
          funext i
          by_cases w : i = 5
          · subst w; rw [upd_eq]; exact c3.symm
          · rw [upd_ne w, upd_ne w]
        · rw [ms_ne q]
          by_cases w : 1 ≤ k ∧ k < 55
          · rw [hX.1 k w.1 (by omega) k1 w.2, cw_new_ne (by omega)]
          · exact hX.2.1 k (by omega)
      have F2 : ∀ j, j < 5 → ∀ i, i ≠ nl → mx_set X 2 5 (nI nl) (3 + j) i = I (3 + j) i := fun j hj i hi => by
        rw [ms_ne (by omega)]
        by_cases w : j = 2
        · subst w; exact hX.2.2.1 i hi
        · rw [hX.1 (3 + j) (by omega) (by omega) (by omega) (by omega)]
          have r2 := cw_new_row (I := I) (n := nl) (a1 := a1) (a2 := a2) (a3 := nI f) (j := j) (i := i) hj
          rw [if_neg hi] at r2; exact r2
      refine sg_X11_send_194 _ _ _ _ _ _ _ _ _ _ _ (fun z => ⟨_, cc, _, rfl, rfl, hcc, ?_, F1, F2⟩) (fun z => ⟨_, cc, _, rfl, rfl, hcc, ?_, F1, F2⟩)
      · rw [if_neg z, ← hR]
      · rw [if_pos z, ← hR]
    have i167 : (167 : Int32).toInt = 167 := by decide
    have lp : ∀ (k h : Nat) (cc : Nat) (X : mx_I) (x8 x9 : Int32) (y : Value), h + k = t + 1 → f ≤ h → (cc = 33 ∨ cc = 55) → XS I nl nc no ni now a1 a2 f X → (x9 = -1 ∨ ∃ s : Nat, x9 = nI s ∧ s ≤ 167) → sd_run m' k h x8 x9 = R → mx_Go l (mx_rm (99 + 1) 0 0) mX11_send (mx_Z (fun r h' => ∃ (v : Int32) (c1 : Nat) (F : mx_I), r = some (.int v) ∧ h' = (sk0 c1, F) ∧ (c1 = 33 ∨ c1 = 55) ∧ (v = if a6 = 0 then R.1 else R.2) ∧ (∀ k, k ≠ 32 → (k < 55 ∨ 73 < k) → (k < 3 ∨ 7 < k) → F k = I k) ∧ (∀ j, j < 5 → ∀ i, i ≠ nl → F (3 + j) i = I (3 + j) i)) 0 0) 0 0 123 [.ref 0, .int a1, .int a2, .int (nI e), .int (nI f), .int (nI t), .int a6, .int (nI nl), .int x8, .int x9, .int (if x9 = -1 then nI t else if x9 < nI t then x9 else nI t), .int (nI h), y] [] (sk0 cc, X) := by
      intro k
      induction k with
      | zero =>
        intro h cc X x8 x9 y hk hfh hcc hX hx hR
        refine mx_fg (L' := [.ref 0, .int a1, .int a2, .int (nI e), .int (nI f), .int (nI t), .int a6, .int (nI nl), .int x8, .int x9, .int (if x9 = -1 then nI t else if x9 < nI t then x9 else nI t), .int (nI h), .retAddr 0]) (by simp [mx_le]) ?_
        have e1 : (if x9 = -1 then nI t else if x9 < nI t then x9 else nI t) < nI h := by
          split
          · exact (nI_ltI (by omega) (by omega)).mpr (by omega)
          · split
            · rename_i q1 q2
              rw [i_lt] at q2 ⊢
              rw [nI_toInt (by omega)] at q2 ⊢
              omega
            · exact (nI_ltI (by omega) (by omega)).mpr (by omega)
        rw [sd_run] at hR
        exact sg_X11_send_123 _ _ _ _ _ _ _ _ _ _ _ (fun _ => fin cc X h x8 x9 _ hcc hX hR) (fun z => absurd e1 z) (fun z => absurd e1 z)
      | succ k ih =>
        intro h cc X x8 x9 y hk hfh hcc hX hx hR
        refine mx_fg (L' := [.ref 0, .int a1, .int a2, .int (nI e), .int (nI f), .int (nI t), .int a6, .int (nI nl), .int x8, .int x9, .int (if x9 = -1 then nI t else if x9 < nI t then x9 else nI t), .int (nI h), .retAddr 0]) (by simp [mx_le]) ?_
        have hh : now ≤ h ∧ h ≤ 167 := ⟨by omega, by omega⟩
        -- what comes of this hour
        have next : ∀ (X' : mx_I) (th : Int32), XS I nl nc no ni now a1 a2 f X' → (th = if m' h ≠ -1 ∧ (x9 = -1 ∨ ¬ x9 < m' h) then m' h else -1) → mx_Go l (mx_rm (99 + 1) 0 0) mX11_send (mx_Z (fun r h' => ∃ (v : Int32) (c1 : Nat) (F : mx_I), r = some (.int v) ∧ h' = (sk0 c1, F) ∧ (c1 = 33 ∨ c1 = 55) ∧ (v = if a6 = 0 then R.1 else R.2) ∧ (∀ k, k ≠ 32 → (k < 55 ∨ 73 < k) → (k < 3 ∨ 7 < k) → F k = I k) ∧ (∀ j, j < 5 → ∀ i, i ≠ nl → F (3 + j) i = I (3 + j) i)) 0 0) 0 0 153 [.ref 0, .int a1, .int a2, .int (nI e), .int (nI f), .int (nI t), .int a6, .int (nI nl), .int x8, .int x9, .int (if x9 = -1 then nI t else if x9 < nI t then x9 else nI t), .int (nI h), .retAddr 0] [.int th] (sk0 55, X') := by
          intro X' th hX' hth
          rw [sd_run] at hR
          refine sg_X11_send_153 _ _ _ _ _ _ _ _ _ _ _ _ (fun z => ?_) (fun z => ?_)
          · rw [nI_1]
            refine ih (h + 1) 55 X' x8 x9 _ (by omega) (by omega) (Or.inr rfl) hX' hx ?_
            rw [if_pos] at hR
            · exact hR
            · by_cases q : m' h = -1
              · exact Or.inl q
              · refine Or.inr ?_
                by_cases w : x9 = -1
                · rw [if_pos ⟨q, Or.inl w⟩] at hth
                  exact absurd (hth.symm.trans z) q
                · refine ⟨w, Classical.byContradiction (fun v => ?_)⟩
                  rw [if_pos ⟨q, Or.inr v⟩] at hth
                  exact absurd (hth.symm.trans z) q
          · by_cases q : m' h ≠ -1 ∧ (x9 = -1 ∨ ¬ x9 < m' h)
            · rw [if_pos q] at hth
              rw [if_neg (fun w => w.elim q.1 (fun v => q.2.elim v.1 (fun u => u v.2)))] at hR
              rw [hth, nI_1]
              have key := ih (h + 1) 55 X' (nI h) (m' h) (.int (m' h)) (by omega) (by omega) (Or.inr rfl) hX' ((mS' h (by omega)).imp id (fun ⟨s, u1, u2, u3⟩ => ⟨s, u1, u3⟩)) hR
              rw [if_neg q.1] at key
              exact key
            · rw [if_neg q] at hth
              exact absurd hth z
        by_cases hstop : (if x9 = -1 then nI t else if x9 < nI t then x9 else nI t) < nI h
        · -- later ones come no sooner
          refine sg_X11_send_123 _ _ _ _ _ _ _ _ _ _ _ (fun _ => fin cc X h x8 x9 _ hcc hX ?_) (fun z => absurd hstop z) (fun z => absurd hstop z)
          rcases hx with q | ⟨s, q1, q2⟩
          · rw [if_pos q, nI_ltI (by omega) (by omega)] at hstop; omega
          · have hx9 : x9 ≠ -1 := by rw [q1]; exact nI_n1 (by omega)
            rw [if_neg hx9] at hstop
            have hlt : x9.toInt < h := by
              split at hstop
              · rw [i_lt, nI_toInt (by omega)] at hstop; exact hstop
              · rw [nI_ltI (by omega) (by omega)] at hstop; omega
            rw [sd_stop (t := t) mS' hx9 (k + 1) h (by omega) hlt] at hR
            exact hR
        · refine sg_X11_send_123 _ _ _ _ _ _ _ _ _ _ _ (fun z => absurd z hstop) (fun _ g => ⟨_, sp_arrival (d := 72) W hcc hn b1 b2 hh hX, ?_⟩) (fun _ g => ⟨_, sp_arrival (d := 72) W hcc hn b1 b2 hh hX, ?_⟩)
          · rintro _ _ ⟨rfl, X', rfl, hX'⟩
            refine next X' _ hX' ?_
            obtain ⟨s, q1, q2⟩ := hx.resolve_left g
            have cut := (met h hh.1 hh.2).2 x9.toInt (by rw [q1, nI_toInt (by omega)]; omega)
            rw [mm h hh.1]
            refine cut.trans ?_
            by_cases q : m h ≠ -1 ∧ (m h).toInt ≤ x9.toInt
            · rw [if_pos q, if_pos ⟨q.1, Or.inr (fun z => by rw [i_lt] at z; omega)⟩]
            · rw [if_neg q, if_neg (fun z => q ⟨z.1, by have := z.2.resolve_left g; rw [i_lt] at this; omega⟩)]
          · rintro _ _ ⟨rfl, X', rfl, hX'⟩
            refine next X' _ hX' ?_
            have cut := (met h hh.1 hh.2).2 (167 : Int32).toInt (by rw [i167]; omega)
            rw [mm h hh.1]
            refine cut.trans ?_
            rcases mS h hh.1 (by omega) with z | ⟨s, u1, u2, u3⟩
            · rw [if_neg (fun w => w.1 z), if_neg (fun w => w.1 z)]
            · have hne : m h ≠ -1 := by rw [u1]; exact nI_n1 (by omega)
              rw [if_pos ⟨hne, by show (m h).toInt ≤ _; rw [u1, nI_toInt (by omega), i167]; omega⟩, if_pos ⟨hne, Or.inl g⟩]
    have key := lp (t + 1 - f) f c (cw_new I1 nl a1 a2 (nI f)) (-1) (-1) (.retAddr 0) (by omega) (Nat.le_refl _) hc hXS (Or.inl rfl) rfl
    exact key
  · rintro v cc F ⟨hcc, hv, hF, hF2⟩
    have w1 : F 121 = I 121 := hF 121 (by omega) (by omega) (by omega)
    have w0 : F 120 = I 120 := hF 120 (by omega) (by omega) (by omega)
    refine mst3 w1 (sg_X12_send_50 _ _ _ _ _ _ _ (fun z => absurd z (by decide)) (fun _ => ⟨_, sp_isIn _ _ _, ?_⟩))
    rintro _ _ ⟨rfl, rfl⟩; rw [i0, i1, g5]
    refine sg_X12_send_60 _ _ _ _ _ _ _ (fun _ => ?_) (fun z => absurd z (by decide))
    have S0 : Same F F := ⟨fun _ _ _ _ _ _ _ => rfl, fun _ _ => rfl, by rw [w0]; exact ⟨z21, z22, z25, z26⟩⟩
    have lp : ∀ (k h : Nat) (K : mx_I) (x7 x8 : Int32) (y : Value), h + k = t + 1 → f ≤ h → Same F K → sd_run m' k h x7 x8 = R → mx_Go l (mx_rm (99 + 1) 0 0) mX12_send (mx_Z (fun r h' => r = some (.int v) ∧ ∃ (c2 : Nat) (K : mx_I), h' = (sk0 c2, K) ∧ Sim c2 K) 0 0) 0 0 75 [.ref 120, .int a1, .int a2, .int (nI e), .int (nI f), .int (nI t), .int a6, .int x7, .int x8, .int (nI h), y] [] (sk0 cc, K) := by
      intro k
      induction k with
      | zero =>
        intro h K x7 x8 y hk hfh hS hR
        refine mx_fg (L' := [.ref 120, .int a1, .int a2, .int (nI e), .int (nI f), .int (nI t), .int a6, .int x7, .int x8, .int (nI h), .retAddr 0]) (by simp [mx_le]) ?_
        have e1 : nI t < nI h := (nI_ltI (by omega) (by omega)).mpr (by omega)
        rw [sd_run] at hR
        have sim : Sim cc K := hs.same2 hcc c3 s4 hF hF2 hS
        refine sg_X12_send_75 _ _ _ _ _ _ _ _ _ (fun _ z => ⟨?_, cc, K, rfl, sim⟩) (fun _ z => ⟨?_, cc, K, rfl, sim⟩) (fun z => absurd e1 z)
        · rw [hv, if_neg z, ← hR]
        · rw [hv, if_pos z, ← hR]
      | succ k ih =>
        intro h K x7 x8 y hk hfh hS hR
        refine mx_fg (L' := [.ref 120, .int a1, .int a2, .int (nI e), .int (nI f), .int (nI t), .int a6, .int x7, .int x8, .int (nI h), .retAddr 0]) (by simp [mx_le]) ?_
        have e1 : ¬ nI t < nI h := fun z => by rw [nI_ltI (by omega) (by omega)] at z; omega
        have hh : now ≤ h ∧ h ≤ 167 := ⟨by omega, by omega⟩
        have k121 : K 121 = I 121 := (hS.1 121 (by omega) (by omega) (by omega) (by omega) (by omega) (by omega)).trans w1
        refine sg_X12_send_75 _ _ _ _ _ _ _ _ _ (fun z => absurd z e1) (fun z => absurd z e1) (fun _ => ?_)
        refine mth_begin (d := 98) (fun K1 B1 => ?_)
        have q121 : K1 121 = I 121 := (B1.1 121 (by omega) (by omega)).trans k121
        refine sg_X12_send_86 _ _ _ _ _ _ _ _ _ ?_
        rw [q121, d3]
        refine ⟨_, sn_X12_watches (nI nl) (nI e) (Q := fun r h' => r = none ∧ h' = (sk0 cc, mx_set (mx_set (mx_set K1 120 22 (nI nl)) 120 23 (nI e)) 120 24 (-1))) ⟨rfl, rfl⟩, ?_⟩
        rintro _ _ ⟨rfl, rfl⟩
        have kn : ∀ k, k ≠ 120 → mx_set (mx_set (mx_set K1 120 22 (nI nl)) 120 23 (nI e)) 120 24 (-1) k = K1 k := fun k hk => by rw [ms_ne hk, ms_ne hk, ms_ne hk]
        have kj : ∀ j, j < 22 ∨ 24 < j → mx_set (mx_set (mx_set K1 120 22 (nI nl)) 120 23 (nI e)) 120 24 (-1) 120 j = K1 120 j := fun j hj => by rw [ms_at (Or.inr (by omega)), ms_at (Or.inr (by omega)), ms_at (Or.inr (by omega))]
        have k22 : mx_set (mx_set (mx_set K1 120 22 (nI nl)) 120 23 (nI e)) 120 24 (-1) 120 22 = nI nl ∧ mx_set (mx_set (mx_set K1 120 22 (nI nl)) 120 23 (nI e)) 120 24 (-1) 120 23 = nI e ∧ mx_set (mx_set (mx_set K1 120 22 (nI nl)) 120 23 (nI e)) 120 24 (-1) 120 24 = -1 := by simp [ms_self, upd]
        generalize mx_set (mx_set (mx_set K1 120 22 (nI nl)) 120 23 (nI e)) 120 24 (-1) = Kw at kn kj k22 ⊢
        have w121 : Kw 121 = I 121 := (kn 121 (by omega)).trans q121
        refine sg_X12_send_97 _ _ _ _ _ _ _ _ _ ⟨_, sp_newLoad (n := nl) (d := 97) (by rw [w121]; exact d3) hn _ _ _, ?_⟩
        rintro _ _ ⟨rfl, rfl⟩
        have K2n : ∀ k, k ≠ 120 → k ≠ 121 → mw_new Kw nl a1 a2 (nI h) k = K1 k := fun k h1 h2 => by rw [mw_new_ne h2, kn k h1]
        have K2f : mw_new Kw nl a1 a2 (nI h) 120 = Kw 120 := mw_new_ne (by omega)
        have K2w : mw_new Kw nl a1 a2 (nI h) 121 = Ih I nl a1 a2 h 121 := by
          unfold Ih
          exact mw_121 (by rw [w121, cw_new_ne (by omega)])
        have K2b : ∀ i, 600 ≤ i → mw_new Kw nl a1 a2 (nI h) 121 i = K1 121 i := fun i hi => by rw [mw_new_out (by omega) (by omega), kn 121 (by omega)]
        generalize mw_new Kw nl a1 a2 (nI h) = K2 at K2n K2f K2w K2b ⊢
        have M0 : MR (P h) (A h) K2 K2 := by
          refine (Wh h hh.1 hh.2).mr (fun k hk => by rw [K2w]) ?_ (by rw [K2f, kj 21 (by omega)]; exact B1.2.2.1) (by rw [K2f, kj 25 (by omega), B1.2.1 25 (by omega)]; exact hS.2.2.2.2.1) (by rw [K2f, kj 26 (by omega), B1.2.1 26 (by omega)]; exact hS.2.2.2.2.2) (by rw [K2f]; exact k22.1) (Or.inr (by rw [K2f]; exact k22.2)) (fun z => absurd z (by simp))
          rw [K2w]
          unfold Ih
          rw [mw_new_out (by omega) (by omega), cw_new_ne (by omega)]
          exact W.1.2.2.2.1.1
        have hne : ¬ (P h).R 65 11 = -1 := by rw [h11 h]; exact nI_n1 (by omega)
        -- behind the thought
        have aft : ∀ (K4 : mx_I), Same K K4 → mx_Go l (mx_rm (99 + 1) 0 0) mX12_send (mx_Z (fun r h' => r = some (.int v) ∧ ∃ (c2 : Nat) (K : mx_I), h' = (sk0 c2, K) ∧ Sim c2 K) 0 0) 0 0 142 [.ref 120, .int a1, .int a2, .int (nI e), .int (nI f), .int (nI t), .int a6, .int x7, .int x8, .int (nI h), .int (m h)] [] (sk0 cc, K4) := by
          intro K4 hS4
          rw [sd_run, mm h hh.1] at hR
          refine sg_X12_send_142 _ _ _ _ _ _ _ _ _ _ (fun z => ?_) (fun z1 z2 => ?_) (fun z1 z2 z3 => ?_) (fun z1 z2 z3 => ?_)
          · rw [if_pos (Or.inl z)] at hR
            rw [nI_1]
            exact ih (h + 1) K4 x7 x8 _ (by omega) (by omega) (hS.trans hS4) hR
          · rw [if_neg (fun w => w.elim z1 (fun u => u.1 z2))] at hR
            rw [nI_1]
            exact ih (h + 1) K4 _ _ _ (by omega) (by omega) (hS.trans hS4) hR
          · rw [if_neg (fun w => w.elim z1 (fun u => by have := u.2; rw [i_lt] at this; have z3' := (i_le _ _).mp z3; omega))] at hR
            rw [nI_1]
            exact ih (h + 1) K4 _ _ _ (by omega) (by omega) (hS.trans hS4) hR
          · rw [if_pos (Or.inr ⟨z2, by rw [i_lt]; have : ¬ (m h).toInt ≤ x8.toInt := fun w => z3 ((i_le _ _).mpr w); omega⟩)] at hR
            rw [nI_1]
            exact ih (h + 1) K4 x7 x8 _ (by omega) (by omega) (hS.trans hS4) hR
        have fin : ∀ (B : HS) (L : mx_I), MR (P h) B K2 L → B = hs_go (P h) 167 (168 - now) (A h) → mx_K1 l mX12_comesBack 99 [.ref 120] (sk0 cc, L) (fun r h' => mx_Go l (mx_rm (99 + 1) 0 0) mX12_send (mx_Z (fun r h' => r = some (.int v) ∧ ∃ (c2 : Nat) (K : mx_I), h' = (sk0 c2, K) ∧ Sim c2 K) 0 0) 0 0 142 [.ref 120, .int a1, .int a2, .int (nI e), .int (nI f), .int (nI t), .int a6, .int x7, .int x8, .int (nI h), .int (L 120 24)] (r.toList ++ []) h') := by
          intro B L M hBR
          refine mth_end (d := 98) B1 K2n (fun j hj => by rw [K2f]; exact kj j (by omega)) K2b M.2.2.2 rfl (fun K4 hS4 => ?_)
          have e24 : L 120 24 = m h := by rw [(M.2.2.1.2.2.1.resolve_left hne).2, hBR]
          rw [e24]
          exact aft K4 hS4
        have lq : ∀ (r : Nat) (B : HS) (L : mx_I), B.now + r = 168 → MR (P h) B K2 L → HInv (P h) now B → hs_go (P h) 167 r B = hs_go (P h) 167 (168 - now) (A h) → mx_Go l (mx_rm (99 + 1) 0 0) mX12_send (mx_Z (fun r h' => r = some (.int v) ∧ ∃ (c2 : Nat) (K : mx_I), h' = (sk0 c2, K) ∧ Sim c2 K) 0 0) 0 0 105 [.ref 120, .int a1, .int a2, .int (nI e), .int (nI f), .int (nI t), .int a6, .int x7, .int x8, .int (nI h), .retAddr 0] [] (sk0 cc, L) := by
          intro r
          induction r with
          | zero =>
            intro B L hm M hHB hR2
            have e1 : (167 : Int32) < L 121 1 := by rw [M.2.1.2.2.1.1, show (167 : Int32) = nI 167 from rfl, nI_ltI (by omega) (by omega)]; omega
            exact sg_X12_send_105 _ _ _ _ _ _ _ _ _ (fun _ => fin B L M hR2) (fun z => absurd e1 z) (fun z => absurd e1 z)
          | succ r ih2 =>
            intro B L hm M hHB hR2
            have e1 : ¬ (167 : Int32) < L 121 1 := fun z => by rw [M.2.1.2.2.1.1, show (167 : Int32) = nI 167 from rfl, nI_ltI (by omega) (by omega)] at z; omega
            have e24 := (M.2.2.1.2.2.1.resolve_left hne).2
            refine sg_X12_send_105 _ _ _ _ _ _ _ _ _ (fun z => absurd z e1) (fun _ g => fin B L M ?_) (fun _ g => ?_)
            · rw [hs_go_stop (fun z => g (e24.trans z.2))] at hR2
              exact hR2
            · rw [hs_go, if_pos ⟨by omega, e24.symm.trans g⟩] at hR2
              obtain ⟨y1, y2, y3⟩ := hHB.hour (hP h hh.1 hh.2) (hB h hh.1 hh.2) (by omega)
              refine ⟨_, sp_anHour (d := 73) (hP h hh.1 hh.2) hHB.1 hHB.2.2.2.2.1 (by omega) M, ?_⟩
              rintro _ _ ⟨rfl, L', rfl, M'⟩
              exact sg_X12_send_129 _ _ _ _ _ _ _ _ _ (ih2 _ L' (by omega) M' y1 hR2)
        exact lq (168 - now) (A h) K2 (by show now + (168 - now) = 168; omega) M0 (hI h hh.1 hh.2) rfl
    exact lp (t + 1 - f) f F (-1) (-1) _ (by omega) (Nat.le_refl _) S0 rfl
