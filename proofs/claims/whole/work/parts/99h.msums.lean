/-! the model's parser: products, sums -/
section M
variable {b : Nat → Nat} {n : Nat} {dp : Nat} {l : Launch} {c : Nat}
theorem prodL_go {d : Nat} (hd : 9 ≤ d) : ∀ (m : Nat) (L : LX) (s : GSt) (I : mx_I) (Q : Option Value → mx_H → Prop), msL n L < m → Vok L → Mst b n L s dp I → s.length + msL n L ≤ 402 → (∀ r h', PsQ c b n s dp I (gProdL (nxL b n) m L) r h' → Q r h') → mx_Go l (mx_rm (d + 1) 0 0) mX12_product (mx_Z Q 0 0) 0 0 9 [.ref 120, .retAddr 0, .retAddr 0] [] (sk0 c, I)
  | 0, L, s, I, Q, hm, _, _, _, _ => absurd hm (Nat.not_lt_zero _)
  | m + 1, L, s, I, Q, hm, hv, h, hb, hQ => by
    have ht := h.2.1
    have hx := lexy b n
    have e18 := ht.eq (y := 18) (x := 142) (by omega) rfl
    have e19 := ht.eq (y := 19) (x := 147) (by omega) rfl
    have times : L.tk = 18 → mx_K1 l mX12_next0 d [.ref 120] (sk0 c, I) (fun r h' => mx_Go l (mx_rm (d + 1) 0 0) mX12_product (mx_Z Q 0 0) 0 0 49 [.ref 120, .int 0, .retAddr 0] (r.toList ++ []) h') := fun t => by
      have hl := hx.1 L (by omega)
      refine nx_K (by omega) h (fun J hF hM => ?_)
      refine sg_X12_product_49 _ (fun _ => ⟨_, sp_unitM hd hM (by omega), ?_⟩) (fun z => absurd rfl z) (fun z => absurd rfl z) (fun z => absurd rfl z)
      rintro _ _ ⟨K, rfl, hK, (⟨L1, s1, hg, rfl, hM1⟩ | ⟨e, hg, rfl, k1, k2⟩)⟩
      · obtain ⟨a1, a2, -⟩ := g_unit hx (T := []) (hx.2 L) (by show 0 < 60; omega) hg
        have a3 := encs_len s1
        refine sg_X12_product_100 _ _ (fun _ => lay_K (k := 15) (v := 0) (by omega) hM1 (by rw [List.length_append]; omega) rfl (Or.inr rfl) (fun N hN hMN => ?_)) (fun z => absurd z (by decide))
        refine sg_X12_product_112 _ (mx_fg (L' := [.ref 120, .retAddr 0, .retAddr 0]) (by simp [mx_le]) ?_)
        refine prodL_go hd m L1 _ N Q (by omega) a2 hMN (by rw [List.length_append, List.length_append]; show s.length + s1.length + 1 + _ ≤ _; omega) (fun r h' hp => hQ r h' ?_)
        rw [List.append_assoc] at hp
        refine PsQ.seq ((hF.trans hK).trans hN) (fun L2 s2 g2 => ?_) (fun e g2 => ?_) hp
        · rw [gProdL, if_pos t, hg]
          simp only [g2]
          rw [List.append_assoc]; rfl
        · rw [gProdL, if_pos t, hg]
          simp only [g2]
      · refine sg_X12_product_100 _ _ (fun z => absurd rfl z) (fun _ => hQ _ _ (PsQ.er (hF.trans hK) ?_ k1 k2))
        rw [gProdL, if_pos t, hg]
    have part : L.tk = 19 → mx_K1 l mX12_next0 d [.ref 120] (sk0 c, I) (fun r h' => mx_Go l (mx_rm (d + 1) 0 0) mX12_product (mx_Z Q 0 0) 0 0 49 [.ref 120, .int 1, .retAddr 0] (r.toList ++ []) h') := fun t => by
      have hl := hx.1 L (by omega)
      refine nx_K (by omega) h (fun J hF hM => ?_)
      have f2 := hM.2.1.eq (y := 1) (x := 2) (by omega) rfl
      refine sg_X12_product_49 _ (fun z => absurd z (by decide)) (fun _ y nz => ?_) (fun _ y yz => ?_) (fun _ y => ?_)
      · have t1 := f2.mp y
        have j15 := hM.2.1.2.2.2.2 t1
        rw [j15] at nz ⊢
        have hl2 := hx.1 (nxL b n L) (by omega)
        refine nx_K (by omega) hM (fun K hK hMK => ?_)
        refine sg_X12_product_86 _ _ (lay_K (k := 16) (v := (nxL b n L).vl) (by omega) hMK (by omega) rfl (Or.inr rfl) (fun N hN hMN => ?_))
        refine sg_X12_product_93 _ _ (mx_fg (L' := [.ref 120, .retAddr 0, .retAddr 0]) (by simp [mx_le]) ?_)
        refine prodL_go hd m _ _ N Q (by omega) (hx.2 (nxL b n L)) hMN (by rw [List.length_append]; show s.length + 1 + _ ≤ _; omega) (fun r h' hp => hQ r h' ?_)
        refine PsQ.seq ((hF.trans hK).trans hN) (fun L2 s2 g2 => ?_) (fun e g2 => ?_) hp
        · rw [gProdL, if_neg (by omega), if_pos t, if_neg (fun z => z t1), if_neg nz]
          simp only [g2]
          rfl
        · rw [gProdL, if_neg (by omega), if_pos t, if_neg (fun z => z t1), if_neg nz]
          simp only [g2]
      · have t1 := f2.mp y
        have yz' : (nxL b n L).vl = 0 := by rw [← hM.2.1.2.2.2.2 t1]; exact yz
        refine bad_K (k := 2) (by omega) hM rfl (fun K hK j1 j2 => sg_X12_product_81 _ _ _ (hQ _ _ (PsQ.er (hF.trans hK) (e := (2, (nxL b n L).pl)) ?_ j1 j2)) (Or.inl rfl))
        rw [gProdL, if_neg (by omega), if_pos t, if_neg (fun z => z t1), if_pos yz']
      · have n1 : (nxL b n L).tk ≠ 1 := fun z => y (f2.mpr z)
        refine bad_K (k := 1) (by omega) hM rfl (fun K hK j1 j2 => sg_X12_product_71 _ _ _ (hQ _ _ (PsQ.er (hF.trans hK) (e := (1, (nxL b n L).pl)) ?_ j1 j2)) (Or.inl rfl))
        rw [gProdL, if_neg (by omega), if_pos t, if_pos n1]
    refine sg_X12_product_9 (fun y _ => times (e18.mp y)) (fun y z => by have := e18.mp y; have := e19.mp z; omega) (fun n18 n19 => hQ _ _ (PsQ.ok FrP.refl (s' := []) ?_ (by rw [List.append_nil]; exact h))) (fun _ y z => absurd y z) (fun _ y _ => part (e19.mp y))
    rw [gProdL, if_neg (fun z => n18 (e18.mpr z)), if_neg (fun z => n19 (e19.mpr z))]
theorem sp_prodM {D m : Nat} {L : LX} {s : GSt} {I : mx_I} (hD : 10 ≤ D) (hm : msL n L ≤ m) (hv : Vok L) (h : Mst b n L s dp I) (hb : s.length + msL n L ≤ 402) : mx_Spec l mX12_product D 0 0 [.ref 120] (sk0 c, I) (PsQ c b n s dp I (gProd (nxL b n) m L)) := by
  obtain ⟨d, rfl⟩ : ∃ d, D = d + 1 := ⟨D - 1, by omega⟩
  have hx := lexy b n
  refine sn_X12_product ⟨_, sp_unitM (by omega) h hb, ?_⟩
  rintro _ _ ⟨K, rfl, hK, (⟨L1, s1, hg, rfl, hM1⟩ | ⟨e, hg, rfl, k1, k2⟩)⟩
  · obtain ⟨a1, a2, -⟩ := g_unit hx (T := []) hv (by show 0 < 60; omega) hg
    have a3 := encs_len s1
    have a4 : 1 ≤ (encs s1).length := by
      unfold gUnit at hg
      by_cases q1 : L.tk = 1
      · rw [if_pos q1] at hg; cases hg; exact Nat.le_refl 1
      · rw [if_neg q1] at hg
        by_cases q2 : 8 ≤ L.tk ∧ L.tk ≤ 14
        · rw [if_pos q2] at hg; cases hg; rw [encs_cons, enc_name q2.1 q2.2]; exact Nat.le_refl 1
        · rw [if_neg q2] at hg; exact absurd hg (by simp)
    refine sg_X12_product_4 _ (fun _ => ?_) (fun z => absurd z (by decide))
    refine prodL_go (by omega) m L1 _ K _ (by omega) a2 hM1 (by rw [List.length_append]; omega) (fun r h' hp => ?_)
    refine PsQ.seq hK (fun L2 s2 g2 => ?_) (fun e g2 => ?_) hp
    · rw [gProd, hg]
      simp only [g2]
    · rw [gProd, hg]
      simp only [g2]
  · refine sg_X12_product_4 _ (fun z => absurd rfl z) (fun _ => PsQ.er hK ?_ k1 k2)
    rw [gProd, hg]
theorem sumL_go {d : Nat} (hd : 10 ≤ d) : ∀ (m : Nat) (L : LX) (s : GSt) (I : mx_I) (Q : Option Value → mx_H → Prop), msL n L < m → Vok L → Mst b n L s dp I → s.length + msL n L ≤ 402 → (∀ r h', PsQ c b n s dp I (gSumL (nxL b n) m L) r h' → Q r h') → mx_Go l (mx_rm (d + 1) 0 0) mX12_sumUp (mx_Z Q 0 0) 0 0 9 [.ref 120, .retAddr 0] [] (sk0 c, I)
  | 0, L, s, I, Q, hm, _, _, _, _ => absurd hm (Nat.not_lt_zero _)
  | m + 1, L, s, I, Q, hm, hv, h, hb, hQ => by
    have ht := h.2.1
    have hx := lexy b n
    have e16 := ht.eq (y := 16) (x := 143) (by omega) rfl
    have e17 := ht.eq (y := 17) (x := 145) (by omega) rfl
    have on : ∀ x : Int32, (L.tk = 16 ∨ L.tk = 17) → x = nI (L.tk - 3) → mx_K1 l mX12_next0 d [.ref 120] (sk0 c, I) (fun r h' => mx_Go l (mx_rm (d + 1) 0 0) mX12_sumUp (mx_Z Q 0 0) 0 0 51 [.ref 120, .int x] (r.toList ++ []) h') := fun x t hk => by
      have hl := hx.1 L (by omega)
      refine nx_K (by omega) h (fun J hF hM => ?_)
      refine sg_X12_sumUp_51 _ ⟨_, sp_prodM (m := m) hd (by omega) (hx.2 L) hM (by omega), ?_⟩
      rintro _ _ ⟨K, rfl, hK, (⟨L1, s1, hg, rfl, hM1⟩ | ⟨e, hg, rfl, k1, k2⟩)⟩
      · obtain ⟨a1, a2, -⟩ := g_prod hx (T := []) (hx.2 L) (by show 0 < 58; omega) hg
        have a3 := encs_len s1
        refine sg_X12_sumUp_55 _ _ (fun _ => lay_K (k := L.tk - 3) (v := 0) (by omega) hM1 (by rw [List.length_append]; omega) hk (Or.inr rfl) (fun N hN hMN => ?_)) (fun z => absurd z (by decide))
        refine sg_X12_sumUp_66 _ (mx_fg (L' := [.ref 120, .retAddr 0]) (by simp [mx_le]) ?_)
        refine sumL_go hd m L1 _ N Q (by omega) a2 hMN (by rw [List.length_append, List.length_append]; show s.length + s1.length + 1 + _ ≤ _; omega) (fun r h' hp => hQ r h' ?_)
        rw [List.append_assoc] at hp
        refine PsQ.seq ((hF.trans hK).trans hN) (fun L2 s2 g2 => ?_) (fun e g2 => ?_) hp
        · rw [gSumL, if_pos t, hg]
          simp only [g2]
          rw [List.append_assoc]; rfl
        · rw [gSumL, if_pos t, hg]
          simp only [g2]
      · refine sg_X12_sumUp_55 _ _ (fun z => absurd rfl z) (fun _ => hQ _ _ (PsQ.er (hF.trans hK) ?_ k1 k2))
        rw [gSumL, if_pos t, hg]
    refine sg_X12_sumUp_9 (fun y z => absurd y z) (fun y _ => on 13 (Or.inl (e16.mp y)) (by rw [e16.mp y]; rfl)) (fun n16 n17 => hQ _ _ (PsQ.ok FrP.refl (s' := []) ?_ (by rw [List.append_nil]; exact h))) (fun _ y _ => on 14 (Or.inr (e17.mp y)) (by rw [e17.mp y]; rfl)) (fun z _ y => absurd y z)
    rw [gSumL, if_neg (fun z => z.elim (fun w => n16 (e16.mpr w)) (fun w => n17 (e17.mpr w)))]
theorem sp_sumM {D m : Nat} {L : LX} {s : GSt} {I : mx_I} (hD : 11 ≤ D) (hm : msL n L ≤ m) (hv : Vok L) (h : Mst b n L s dp I) (hb : s.length + msL n L ≤ 402) : mx_Spec l mX12_sumUp D 0 0 [.ref 120] (sk0 c, I) (PsQ c b n s dp I (gSum (nxL b n) m L)) := by
  obtain ⟨d, rfl⟩ : ∃ d, D = d + 1 := ⟨D - 1, by omega⟩
  have hx := lexy b n
  refine sn_X12_sumUp ⟨_, sp_prodM (m := m) (by omega) hm hv h hb, ?_⟩
  rintro _ _ ⟨K, rfl, hK, (⟨L1, s1, hg, rfl, hM1⟩ | ⟨e, hg, rfl, k1, k2⟩)⟩
  · obtain ⟨a1, a2, a5⟩ := g_prod hx (T := []) hv (by show 0 < 58; omega) hg
    have a3 := encs_len s1
    have a4 : 1 ≤ s1.length := by
      cases s1 with
      | nil => exact absurd a5 (by simp [lw_ty])
      | cons p t => exact Nat.succ_le_succ (Nat.zero_le _)
    refine sg_X12_sumUp_4 _ (fun _ => ?_) (fun z => absurd z (by decide))
    refine sumL_go (by omega) m L1 _ K _ (by omega) a2 hM1 (by rw [List.length_append]; omega) (fun r h' hp => ?_)
    refine PsQ.seq hK (fun L2 s2 g2 => ?_) (fun e g2 => ?_) hp
    · rw [gSum, hg]
      simp only [g2]
    · rw [gSum, hg]
      simp only [g2]
  · refine sg_X12_sumUp_4 _ (fun z => absurd rfl z) (fun _ => PsQ.er hK ?_ k1 k2)
    rw [gSum, hg]
end M
