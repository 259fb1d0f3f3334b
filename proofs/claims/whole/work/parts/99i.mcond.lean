/-! the model's parser: conditions -/
section M
variable {b : Nat → Nat} {n : Nat} {l : Launch} {c : Nat}
theorem opens_K {D dp : Nat} {L : LX} {s : GSt} {I : mx_I} {P : Option Value → mx_H → Prop} (hD : 9 ≤ D) (h : Mst b n L s dp I) (hdp : dp ≤ 8) (k8 : dp = 8 → ∀ J, FrP I J → J 120 16 = nI 3 → J 120 17 = nI L.pl → P (some (.int 0)) (sk0 c, J)) (kk : dp ≠ 8 → ∀ J, FrP I J → Mst b n (nxL b n L) s (dp + 1) J → P (some (.int 1)) (sk0 c, J)) : mx_K1 l mX12_opens D [.ref 120] (sk0 c, I) P := by
  obtain ⟨d, rfl⟩ : ∃ d, D = d + 1 := ⟨D - 1, by omega⟩
  have h19 := h.2.2.2.1
  have e8 : I 120 19 = 8 ↔ dp = 8 := by rw [h19]; exact (nI_255 (by omega) (y := 8) (by omega)).2.2
  refine ⟨P, sn_X12_opens (fun z => ?_) (fun z => ?_), fun _ _ q => q⟩
  · rw [h19, nI_1]
    exact nx_K (by omega) (h.dpt (dp' := dp + 1)) (fun J hF hM => sg_X12_opens_29 (kk (fun w => z (e8.mpr w)) J ((FrP.set (by omega)).trans hF) hM))
  · exact bad_K (k := 3) (by omega) h rfl (fun J hF j1 j2 => sg_X12_opens_14 _ (k8 (e8.mp z) J hF j1 j2) (Or.inl rfl))
theorem need_K {D dp y : Nat} {x : Int32} {L : LX} {s : GSt} {I : mx_I} {P : Option Value → mx_H → Prop} (hD : 9 ≤ D) (h : Mst b n L s dp I) (hy : y < 26) (hx : x = nI (mtk y)) (k8 : L.tk ≠ y → ∀ J, FrP I J → J 120 16 = nI 1 → J 120 17 = nI L.pl → P (some (.int 0)) (sk0 c, J)) (kk : L.tk = y → ∀ J, FrP I J → Mst b n (nxL b n L) s dp J → P (some (.int 1)) (sk0 c, J)) : mx_K1 l mX12_need D [.ref 120, .int x] (sk0 c, I) P := by
  obtain ⟨d, rfl⟩ : ∃ d, D = d + 1 := ⟨D - 1, by omega⟩
  have e := h.2.1.eq hy hx
  refine ⟨P, sn_X12_need _ (fun z => ?_) (fun z => ?_), fun _ _ q => q⟩
  · exact nx_K (by omega) h (fun J hF hM => sg_X12_need_18 _ (kk (e.mp z) J hF hM))
  · exact bad_K (k := 1) (by omega) h rfl (fun J hF j1 j2 => sg_X12_need_13 _ _ (k8 (fun w => z (e.mpr w)) J hF j1 j2) (Or.inl rfl))
set_option maxHeartbeats 1000000 in
theorem mcond : ∀ (m : Nat),
    (∀ dp L s I D, 4 * msL n L + 4 ≤ m → dp ≤ 8 → 14 + 3 * (8 - dp) ≤ D → Vok L → Mst b n L s dp I → s.length + msL n L ≤ 402 → mx_Spec l mX12_any D 0 0 [.ref 120] (sk0 c, I) (PsQ c b n s dp I (gCond (nxL b n) m 0 dp L))) ∧
    (∀ dp L s I d Q, 4 * msL n L + 1 ≤ m → dp ≤ 8 → 13 + 3 * (8 - dp) ≤ d → Vok L → Mst b n L s dp I → s.length + msL n L ≤ 402 → (∀ r h', PsQ c b n s dp I (gCond (nxL b n) m 1 dp L) r h' → Q r h') → mx_Go l (mx_rm (d + 1) 0 0) mX12_any (mx_Z Q 0 0) 0 0 9 [.ref 120] [] (sk0 c, I)) ∧
    (∀ dp L s I D, 4 * msL n L + 3 ≤ m → dp ≤ 8 → 13 + 3 * (8 - dp) ≤ D → Vok L → Mst b n L s dp I → s.length + msL n L ≤ 402 → mx_Spec l mX12_every D 0 0 [.ref 120] (sk0 c, I) (PsQ c b n s dp I (gCond (nxL b n) m 2 dp L))) ∧
    (∀ dp L s I d Q, 4 * msL n L + 1 ≤ m → dp ≤ 8 → 12 + 3 * (8 - dp) ≤ d → Vok L → Mst b n L s dp I → s.length + msL n L ≤ 402 → (∀ r h', PsQ c b n s dp I (gCond (nxL b n) m 3 dp L) r h' → Q r h') → mx_Go l (mx_rm (d + 1) 0 0) mX12_every (mx_Z Q 0 0) 0 0 9 [.ref 120] [] (sk0 c, I)) ∧
    (∀ dp L s I D, 4 * msL n L + 2 ≤ m → dp ≤ 8 → 12 + 3 * (8 - dp) ≤ D → Vok L → Mst b n L s dp I → s.length + msL n L ≤ 402 → mx_Spec l mX12_oneTest D 0 0 [.ref 120] (sk0 c, I) (PsQ c b n s dp I (gCond (nxL b n) m 4 dp L)))
  | 0 => ⟨fun dp L s I D h => absurd h (by omega), fun dp L s I d Q h => absurd h (by omega), fun dp L s I D h => absurd h (by omega), fun dp L s I d Q h => absurd h (by omega), fun dp L s I D h => absurd h (by omega)⟩
  | m + 1 => by
    obtain ⟨c0, c1, c2, c3, c4⟩ := mcond m
    have hx := lexy b n
    refine ⟨fun dp L s I D hm hdp hD hv h hb => ?_, fun dp L s I d Q hm hdp hd hv h hb hQ => ?_, fun dp L s I D hm hdp hD hv h hb => ?_, fun dp L s I d Q hm hdp hd hv h hb hQ => ?_, fun dp L s I D hm hdp hD hv h hb => ?_⟩
    · -- any
      obtain ⟨d, rfl⟩ : ∃ d, D = d + 1 := ⟨D - 1, by omega⟩
      refine sn_X12_any ⟨_, c2 dp L s I d (by omega) hdp (by omega) hv h hb, ?_⟩
      rintro _ _ ⟨K, rfl, hK, (⟨L1, s1, hg, rfl, hM1⟩ | ⟨e, hg, rfl, k1, k2⟩)⟩
      · obtain ⟨a1, a2, -⟩ := g_cond hx m (q := 2) (d := dp) (T := []) (by omega) hdp (by show 0 ≤ _; omega) hv hg
        have a3 := encs_len s1
        refine sg_X12_any_4 _ (fun _ => ?_) (fun z => absurd z (by decide))
        refine c1 dp L1 _ K d _ (by omega) hdp (by omega) a2 hM1 (by rw [List.length_append]; omega) (fun r h' hp => ?_)
        refine PsQ.seq hK (fun L2 s2 g2 => ?_) (fun e g2 => ?_) hp
        · rw [gCond, if_pos rfl, hg]
          simp only [g2]
        · rw [gCond, if_pos rfl, hg]
          simp only [g2]
      · refine sg_X12_any_4 _ (fun z => absurd rfl z) (fun _ => PsQ.er hK ?_ k1 k2)
        rw [gCond, if_pos rfl, hg]
    · -- its loop
      have e5 := h.2.1.eq (y := 5) (x := 4) (by omega) rfl
      refine sg_X12_any_9 (fun z => hQ _ _ (PsQ.ok FrP.refl (s' := []) ?_ (by rw [List.append_nil]; exact h))) (fun z => ?_)
      · rw [gCond, if_neg (by omega), if_pos rfl, if_neg (fun w => z (e5.mpr w))]
      have t := e5.mp z
      have hl := hx.1 L (by omega)
      refine nx_K (by omega) h (fun J hF hM => ?_)
      refine sg_X12_any_21 ⟨_, c2 dp (nxL b n L) s J d (by omega) hdp (by omega) (hx.2 L) hM (by omega), ?_⟩
      rintro _ _ ⟨K, rfl, hK, (⟨L1, s1, hg, rfl, hM1⟩ | ⟨e, hg, rfl, k1, k2⟩)⟩
      · obtain ⟨a1, a2, -⟩ := g_cond hx m (q := 2) (d := dp) (T := []) (by omega) hdp (by show 0 ≤ _; omega) (hx.2 L) hg
        have a3 := encs_len s1
        refine sg_X12_any_25 _ (fun _ => lay_K (k := 22) (v := 0) (by omega) hM1 (by rw [List.length_append]; omega) rfl (Or.inr rfl) (fun N hN hMN => ?_)) (fun z => absurd z (by decide))
        refine sg_X12_any_37 (c1 dp L1 _ N d Q (by omega) hdp hd a2 hMN (by rw [List.length_append, List.length_append]; show s.length + s1.length + 1 + _ ≤ _; omega) (fun r h' hp => hQ r h' ?_))
        rw [List.append_assoc] at hp
        refine PsQ.seq ((hF.trans hK).trans hN) (fun L2 s2 g2 => ?_) (fun e g2 => ?_) hp
        · rw [gCond, if_neg (by omega), if_pos rfl, if_pos t, hg]
          simp only [g2]
          rw [List.append_assoc]; rfl
        · rw [gCond, if_neg (by omega), if_pos rfl, if_pos t, hg]
          simp only [g2]
      · refine sg_X12_any_25 _ (fun z => absurd rfl z) (fun _ => hQ _ _ (PsQ.er (hF.trans hK) ?_ k1 k2))
        rw [gCond, if_neg (by omega), if_pos rfl, if_pos t, hg]
    · -- every
      obtain ⟨d, rfl⟩ : ∃ d, D = d + 1 := ⟨D - 1, by omega⟩
      refine sn_X12_every ⟨_, c4 dp L s I d (by omega) hdp (by omega) hv h hb, ?_⟩
      rintro _ _ ⟨K, rfl, hK, (⟨L1, s1, hg, rfl, hM1⟩ | ⟨e, hg, rfl, k1, k2⟩)⟩
      · obtain ⟨a1, a2, -⟩ := g_cond hx m (q := 4) (d := dp) (T := []) (by omega) hdp (by show 0 ≤ _; omega) hv hg
        have a3 := encs_len s1
        refine sg_X12_every_4 _ (fun _ => ?_) (fun z => absurd z (by decide))
        refine c3 dp L1 _ K d _ (by omega) hdp (by omega) a2 hM1 (by rw [List.length_append]; omega) (fun r h' hp => ?_)
        refine PsQ.seq hK (fun L2 s2 g2 => ?_) (fun e g2 => ?_) hp
        · rw [gCond, if_neg (by omega), if_neg (by omega), if_pos rfl, hg]
          simp only [g2]
        · rw [gCond, if_neg (by omega), if_neg (by omega), if_pos rfl, hg]
          simp only [g2]
      · refine sg_X12_every_4 _ (fun z => absurd rfl z) (fun _ => PsQ.er hK ?_ k1 k2)
        rw [gCond, if_neg (by omega), if_neg (by omega), if_pos rfl, hg]
    · -- its loop
      have e6 := h.2.1.eq (y := 6) (x := 5) (by omega) rfl
      refine sg_X12_every_9 (fun z => hQ _ _ (PsQ.ok FrP.refl (s' := []) ?_ (by rw [List.append_nil]; exact h))) (fun z => ?_)
      · rw [gCond, if_neg (by omega), if_neg (by omega), if_neg (by omega), if_pos rfl, if_neg (fun w => z (e6.mpr w))]
      have t := e6.mp z
      have hl := hx.1 L (by omega)
      refine nx_K (by omega) h (fun J hF hM => ?_)
      refine sg_X12_every_21 ⟨_, c4 dp (nxL b n L) s J d (by omega) hdp (by omega) (hx.2 L) hM (by omega), ?_⟩
      rintro _ _ ⟨K, rfl, hK, (⟨L1, s1, hg, rfl, hM1⟩ | ⟨e, hg, rfl, k1, k2⟩)⟩
      · obtain ⟨a1, a2, -⟩ := g_cond hx m (q := 4) (d := dp) (T := []) (by omega) hdp (by show 0 ≤ _; omega) (hx.2 L) hg
        have a3 := encs_len s1
        refine sg_X12_every_25 _ (fun _ => lay_K (k := 21) (v := 0) (by omega) hM1 (by rw [List.length_append]; omega) rfl (Or.inr rfl) (fun N hN hMN => ?_)) (fun z => absurd z (by decide))
        refine sg_X12_every_37 (c3 dp L1 _ N d Q (by omega) hdp hd a2 hMN (by rw [List.length_append, List.length_append]; show s.length + s1.length + 1 + _ ≤ _; omega) (fun r h' hp => hQ r h' ?_))
        rw [List.append_assoc] at hp
        refine PsQ.seq ((hF.trans hK).trans hN) (fun L2 s2 g2 => ?_) (fun e g2 => ?_) hp
        · rw [gCond, if_neg (by omega), if_neg (by omega), if_neg (by omega), if_pos rfl, if_pos t, hg]
          simp only [g2]
          rw [List.append_assoc]; rfl
        · rw [gCond, if_neg (by omega), if_neg (by omega), if_neg (by omega), if_pos rfl, if_pos t, hg]
          simp only [g2]
      · refine sg_X12_every_25 _ (fun z => absurd rfl z) (fun _ => hQ _ _ (PsQ.er (hF.trans hK) ?_ k1 k2))
        rw [gCond, if_neg (by omega), if_neg (by omega), if_neg (by omega), if_pos rfl, if_pos t, hg]
    · -- one test
      obtain ⟨d, rfl⟩ : ∃ d, D = d + 1 := ⟨D - 1, by omega⟩
      have e7 := h.2.1.eq (y := 7) (x := 6) (by omega) rfl
      have e20 := h.2.1.eq (y := 20) (x := 140) (by omega) rfl
      have sub1 : nI (dp + 1) - 1 = nI dp := by rw [show (1 : Int32) = nI 1 from rfl, pk_sub (by omega), Nat.add_sub_cancel]
      obtain ⟨g, hgd⟩ : ∃ g, g = gCond (nxL b n) (m + 1) 4 dp L := ⟨_, rfl⟩
      have hg4 : g = if L.tk = 7 then (if dp = 8 then .error (3, L.pl) else match gCond (nxL b n) m 4 (dp + 1) (nxL b n L) with
          | .error e => .error e
          | .ok (L1, s1) => .ok (L1, s1 ++ [(20, 0)]))
        else if L.tk = 20 then (if dp = 8 then .error (3, L.pl) else match gCond (nxL b n) m 0 (dp + 1) (nxL b n L) with
          | .error e => .error e
          | .ok (L1, s1) => if L1.tk = 21 then .ok (nxL b n L1, s1) else .error (1, L1.pl))
        else match gSum (nxL b n) m L with
          | .error e => .error e
          | .ok (L1, s1) => if 22 ≤ L1.tk ∧ L1.tk ≤ 24 then (match gSum (nxL b n) m (nxL b n L1) with
            | .error e => .error e
            | .ok (L2, s2) => .ok (L2, s1 ++ (s2 ++ [(L1.tk - 5, 0)]))) else .error (1, L1.pl) := by
        rw [hgd, gCond, if_neg (by omega), if_neg (by omega), if_neg (by omega), if_neg (by omega)]
        rfl
      rw [← hgd]
      refine sn_X12_oneTest (fun n7 n20 => ?_) (fun n7 y20 => ?_) (fun y7 => ?_)
      · have t7 : ¬ L.tk = 7 := fun w => n7 (e7.mpr w)
        have t20 : ¬ L.tk = 20 := fun w => n20 (e20.mpr w)
        rw [if_neg t7, if_neg t20] at hg4
        refine ⟨_, sp_sumM (m := m) (by omega) (by omega) hv h hb, ?_⟩
        rintro _ _ ⟨K, rfl, hK, (⟨L1, s1, hg, rfl, hM1⟩ | ⟨e, hg, rfl, k1, k2⟩)⟩
        · obtain ⟨a1, a2, -⟩ := g_sum hx (T := []) hv (by show 0 < 57; omega) hg
          have a3 := encs_len s1
          rw [hg] at hg4
          simp only at hg4
          have f22 := hM1.2.1.eq (y := 22) (x := 160) (by omega) rfl
          have f23 := hM1.2.1.eq (y := 23) (x := 161) (by omega) rfl
          have f24 := hM1.2.1.eq (y := 24) (x := 162) (by omega) rfl
          have on : ∀ x : Int32, 22 ≤ L1.tk ∧ L1.tk ≤ 24 → x = nI (L1.tk - 5) → mx_K1 l mX12_next0 d [.ref 120] (sk0 c, K) (fun r h' => mx_Go l (mx_rm (d + 1) 0 0) mX12_oneTest (mx_Z (PsQ c b n s dp I g) 0 0) 0 0 163 [.ref 120, .int x] (r.toList ++ []) h') := fun x t hk => by
            have hl := hx.1 L1 (by omega)
            rw [if_pos t] at hg4
            refine nx_K (by omega) hM1 (fun J hF hM => ?_)
            refine sg_X12_oneTest_163 _ ⟨_, sp_sumM (m := m) (by omega) (by omega) (hx.2 L1) hM (by rw [List.length_append]; omega), ?_⟩
            rintro _ _ ⟨N, rfl, hN, (⟨L2, s2, hg2, rfl, hM2⟩ | ⟨e, hg2, rfl, k1, k2⟩)⟩
            · obtain ⟨b1, b2, -⟩ := g_sum hx (T := []) (hx.2 L1) (by show 0 < 57; omega) hg2
              have b3 := encs_len s2
              rw [hg2] at hg4
              refine sg_X12_oneTest_167 _ _ (fun _ => lay_K (k := L1.tk - 5) (v := 0) (by omega) hM2 (by rw [List.length_append, List.length_append]; omega) hk (Or.inr rfl) (fun U hU hMU => ?_)) (fun z => absurd z (by decide))
              refine sg_X12_oneTest_178 _ (PsQ.ok (((hK.trans hF).trans hN).trans hU) hg4 ?_)
              rw [← List.append_assoc, ← List.append_assoc]; exact hMU
            · rw [hg2] at hg4
              exact sg_X12_oneTest_167 _ _ (fun z => absurd rfl z) (fun _ => PsQ.er ((hK.trans hF).trans hN) hg4 k1 k2)
          refine sg_X12_oneTest_96 _ (fun _ m22 m23 m24 => ?_) (fun _ _ _ y => on 19 (by have := f24.mp y; omega) (by rw [f24.mp y]; rfl)) (fun _ _ y => on 18 (by have := f23.mp y; omega) (by rw [f23.mp y]; rfl)) (fun _ y => on 17 (by have := f22.mp y; omega) (by rw [f22.mp y]; rfl)) (fun z => absurd z (by decide))
          have no : ¬ (22 ≤ L1.tk ∧ L1.tk ≤ 24) := fun t => by
            have a22 : ¬ L1.tk = 22 := fun w => m22 (f22.mpr w)
            have a23 : ¬ L1.tk = 23 := fun w => m23 (f23.mpr w)
            have a24 : ¬ L1.tk = 24 := fun w => m24 (f24.mpr w)
            omega
          rw [if_neg no] at hg4
          exact bad_K (k := 1) (by omega) hM1 rfl (fun J hF j1 j2 => sg_X12_oneTest_158 _ _ (PsQ.er (hK.trans hF) hg4 j1 j2) (Or.inl rfl))
        · rw [hg] at hg4
          exact sg_X12_oneTest_96 _ (fun z => absurd rfl z) (fun z => absurd rfl z) (fun z => absurd rfl z) (fun z => absurd rfl z) (fun _ => PsQ.er hK hg4 k1 k2)
      · have t7 : ¬ L.tk = 7 := fun w => n7 (e7.mpr w)
        have t20 : L.tk = 20 := e20.mp y20
        have hl := hx.1 L (by omega)
        rw [if_neg t7, if_pos t20] at hg4
        refine opens_K (by omega) h hdp (fun d8 J hF j1 j2 => sg_X12_oneTest_58 _ (fun _ => PsQ.er hF (e := (3, L.pl)) (by rw [hg4, if_pos d8]) j1 j2) (fun z => absurd rfl z)) (fun d8 J hF hM => ?_)
        rw [if_neg d8] at hg4
        refine sg_X12_oneTest_58 _ (fun z => absurd z (by decide)) (fun _ => ⟨_, c0 (dp + 1) (nxL b n L) s J d (by omega) (by omega) (by omega) (hx.2 L) hM (by omega), ?_⟩)
        rintro _ _ ⟨K, rfl, hK, (⟨L1, s1, hg, rfl, hM1⟩ | ⟨e, hg, rfl, k1, k2⟩)⟩
        · rw [hg] at hg4
          simp only at hg4
          refine sg_X12_oneTest_65 _ (fun z => absurd z (by decide)) (fun _ => need_K (y := 21) (by omega) hM1 (by omega) rfl (fun n21 N hN j1 j2 => sg_X12_oneTest_75 _ (fun z => absurd rfl z) (fun _ => PsQ.er ((hF.trans hK).trans hN) (e := (1, L1.pl)) (by rw [hg4, if_neg n21]) j1 j2)) (fun y21 N hN hMN => ?_))
          refine sg_X12_oneTest_75 _ (fun _ => ?_) (fun z => absurd z (by decide))
          rw [hMN.2.2.2.1, sub1]
          exact PsQ.ok (((hF.trans hK).trans hN).trans (FrP.set (by omega))) (by rw [hg4, if_pos y21]) (hMN.dpt (dp' := dp))
        · rw [hg] at hg4
          exact sg_X12_oneTest_65 _ (fun _ => PsQ.er (hF.trans hK) hg4 k1 k2) (fun z => absurd rfl z)
      · have t7 : L.tk = 7 := e7.mp y7
        have hl := hx.1 L (by omega)
        rw [if_pos t7] at hg4
        refine opens_K (by omega) h hdp (fun d8 J hF j1 j2 => sg_X12_oneTest_13 _ (fun _ => PsQ.er hF (e := (3, L.pl)) (by rw [hg4, if_pos d8]) j1 j2) (fun z => absurd rfl z)) (fun d8 J hF hM => ?_)
        rw [if_neg d8] at hg4
        refine sg_X12_oneTest_13 _ (fun z => absurd z (by decide)) (fun _ => ⟨_, c4 (dp + 1) (nxL b n L) s J d (by omega) (by omega) (by omega) (hx.2 L) hM (by omega), ?_⟩)
        rintro _ _ ⟨K, rfl, hK, (⟨L1, s1, hg, rfl, hM1⟩ | ⟨e, hg, rfl, k1, k2⟩)⟩
        · obtain ⟨a1, a2, -⟩ := g_cond hx m (q := 4) (d := dp + 1) (T := []) (by omega) (by omega) (by show 0 ≤ _; omega) (hx.2 L) hg
          have a3 := encs_len s1
          rw [hg] at hg4
          refine sg_X12_oneTest_20 _ (fun _ => ?_) (fun z => absurd z (by decide))
          rw [hM1.2.2.2.1, sub1]
          refine lay_K (k := 20) (v := 0) (by omega) (hM1.dpt (dp' := dp)) (by rw [List.length_append]; omega) rfl (Or.inr rfl) (fun N hN hMN => ?_)
          refine sg_X12_oneTest_42 (PsQ.ok (((hF.trans hK).trans (FrP.set (by omega))).trans hN) hg4 ?_)
          rw [← List.append_assoc]; exact hMN
        · rw [hg] at hg4
          exact sg_X12_oneTest_20 _ (fun z => absurd rfl z) (fun _ => PsQ.er (hF.trans hK) hg4 k1 k2)
end M
