/-! the model's text -/
theorem i_all (x : Int32) : ∃ k, x = nI k := ⟨x.toBitVec.toNat, b_ext (fun i hi => by rw [bt_nI _ hi]; rfl)⟩
def LnW (ps : lw_ps) (m : Nat) (w : Nat → Int32) : Prop := ∀ i, i < m → w (1605 + i) = (ps.getD i (0, [])).1 ∧ w (1625 + i) = nI (lw_all (ps.take i)).length ∧ w (1645 + i) = nI (lw_all (ps.take (i + 1))).length
def TxQ (c : Nat) (I : mx_I) (g : Except (Nat × Nat) lw_ps) (r : Option Value) (h' : mx_H) : Prop := ∃ J, h' = (sk0 c, J) ∧ (∀ k, k ≠ 120 → k ≠ 121 → k ≠ 124 → k ≠ 125 → J k = I k) ∧ (∀ f, f < 9 ∨ 20 < f → J 120 f = I 120 f) ∧ J 120 11 = 0 ∧ ((∃ ps, g = .ok ps ∧ r = some (.int (nI ps.length)) ∧ J 120 18 = 0 ∧ J 120 20 = -1 ∧ (∀ k, k < 1600 → J 121 k = I 121 k) ∧ J 121 1600 = nI ps.length ∧ LnW ps ps.length (J 121) ∧ (∀ i, i < (lw_all ps).length → J 121 (1665 + 2 * i) = nI ((lw_all ps).getD i (0, 0)).1 ∧ (¬ (1 ≤ ((lw_all ps).getD i (0, 0)).1 ∧ ((lw_all ps).getD i (0, 0)).1 ≤ 7) → J 121 (1666 + 2 * i) = ((lw_all ps).getD i (0, 0)).2))) ∨ (∃ e, g = .error e ∧ r = some (.int (-1)) ∧ J 120 18 = nI e.1 ∧ J 120 20 = nI e.2 ∧ J 121 = I 121))
section M
variable {b : Nat → Nat} {n : Nat} {l : Launch} {c : Nat}
theorem text_cp {d : Nat} {ps : lw_ps} {J0 : mx_I} {w0 : Nat → Int32} {Q : Option Value → mx_H → Prop} (h9 : J0 120 9 = nI ps.length) (h10 : J0 120 10 = nI (lw_all ps).length) (h16 : ps.length ≤ 16) (hS : (lw_all ps).length ≤ 402) (hl : LnM ps (J0 124)) (hQ : ∀ J, (∀ k, k ≠ 121 → J k = J0 k) → (∀ k, k < 1600 → J 121 k = w0 k) → J 121 1600 = nI ps.length → LnW ps ps.length (J 121) → (∀ j, j < 2 * (lw_all ps).length → J 121 (1665 + j) = J0 125 j) → Q (some (.int (nI ps.length))) (sk0 c, J)) : ∀ (m i : Nat) (J : mx_I), i + m = ps.length → (∀ k, k ≠ 121 → J k = J0 k) → (∀ k, k < 1600 → J 121 k = w0 k) → J 121 1600 = nI ps.length → LnW ps i (J 121) → mx_Go l (mx_rm (d + 1) 0 0) mX12_text (mx_Z Q 0 0) 0 0 112 [.ref 120, .int 1, .int (nI i)] [] (sk0 c, J) := by
  have cp2 : ∀ (m i : Nat) (J : mx_I), i + m = 2 * (lw_all ps).length → (∀ k, k ≠ 121 → J k = J0 k) → (∀ k, k < 1600 → J 121 k = w0 k) → J 121 1600 = nI ps.length → LnW ps ps.length (J 121) → (∀ j, j < i → J 121 (1665 + j) = J0 125 j) → mx_Go l (mx_rm (d + 1) 0 0) mX12_text (mx_Z Q 0 0) 0 0 186 [.ref 120, .int 1, .int (nI i)] [] (sk0 c, J) := by
    intro m
    induction m with
    | zero =>
      intro i J hi hk hw h1600 hL hs
      have e1 : 2 * J 120 10 ≤ nI i := by rw [hk 120 (by omega), h10, show (2 : Int32) = nI 2 from rfl, pk_mul, nI_leI (by omega) (by omega)]; omega
      have e9 : J 120 9 = nI ps.length := by rw [hk 120 (by omega)]; exact h9
      refine sg_X12_text_186 _ _ (fun _ => ?_) (fun z => absurd e1 z) (fun z => absurd e1 z) (fun z => absurd e1 z)
      rw [e9]
      exact hQ J hk hw h1600 hL (fun j hj => hs j (by omega))
    | succ m ih =>
      intro i J hi hk hw h1600 hL hs
      have e1 : ¬ 2 * J 120 10 ≤ nI i := fun z => by rw [hk 120 (by omega), h10, show (2 : Int32) = nI 2 from rfl, pk_mul, nI_leI (by omega) (by omega)] at z; omega
      have e2 : (1665 : Int32) + nI i = nI (1665 + i) := by rw [show (1665 : Int32) = nI 1665 from rfl, nI_add]
      refine sg_X12_text_186 _ _ (fun z => absurd z e1) (fun _ => i_vp (by omega) (by omega)) (fun _ => by rw [e2]; exact i_vp (by omega) (by omega)) (fun _ => ?_)
      rw [e2, nI_clamp (n := 1665 + i) (by omega), nI_clamp (n := i) (by omega), nI_1, hk 125 (by omega)]
      refine ih (i + 1) _ (by omega) (fun k k1 => by rw [ms_ne k1]; exact hk k k1) (fun k k1 => by rw [ms_at (Or.inr (by omega))]; exact hw k k1) (by rw [ms_at (Or.inr (by omega))]; exact h1600) (fun j hj => ?_) (fun j hj => ?_)
      · rw [ms_at (Or.inr (by omega)), ms_at (Or.inr (by omega)), ms_at (Or.inr (by omega))]; exact hL j hj
      · by_cases q : j = i
        · subst q; rw [ms_self, upd_eq]
        · rw [ms_at (Or.inr (by omega))]; exact hs j (by omega)
  intro m
  induction m with
  | zero =>
    intro i J hi hk hw h1600 hL
    have e1 : J 120 9 ≤ nI i := by rw [hk 120 (by omega), h9, nI_leI (by omega) (by omega)]; omega
    have ei : i = ps.length := by omega
    subst ei
    exact sg_X12_text_112 _ _ (fun _ => cp2 (2 * (lw_all ps).length) 0 J (by omega) hk hw h1600 hL (fun j hj => absurd hj (Nat.not_lt_zero _))) (fun z => absurd e1 z) (fun z => absurd e1 z) (fun z => absurd e1 z) (fun z => absurd e1 z) (fun z => absurd e1 z) (fun z => absurd e1 z) (fun z => absurd e1 z)
  | succ m ih =>
    intro i J hi hk hw h1600 hL
    have e1 : ¬ J 120 9 ≤ nI i := fun z => by rw [hk 120 (by omega), h9, nI_leI (by omega) (by omega)] at z; omega
    have a3 : (3 : Int32) * nI i = nI (3 * i) := by rw [show (3 : Int32) = nI 3 from rfl, pk_mul]
    have a31 : (3 : Int32) * nI i + 1 = nI (3 * i + 1) := by rw [a3, nI_1]
    have a32 : (3 : Int32) * nI i + 2 = nI (3 * i + 2) := by rw [a3, show (2 : Int32) = nI 2 from rfl, nI_add]
    have b5 : (1605 : Int32) + nI i = nI (1605 + i) := by rw [show (1605 : Int32) = nI 1605 from rfl, nI_add]
    have b25 : (1625 : Int32) + nI i = nI (1625 + i) := by rw [show (1625 : Int32) = nI 1625 from rfl, nI_add]
    have b45 : (1645 : Int32) + nI i = nI (1645 + i) := by rw [show (1645 : Int32) = nI 1645 from rfl, nI_add]
    refine sg_X12_text_112 _ _ (fun z => absurd z e1) (fun _ => by rw [a3]; exact i_vp (by omega) (by omega)) (fun _ => by rw [b5]; exact i_vp (by omega) (by omega)) (fun _ => by rw [a31]; exact i_vp (by omega) (by omega)) (fun _ => by rw [b25]; exact i_vp (by omega) (by omega)) (fun _ => by rw [a32]; exact i_vp (by omega) (by omega)) (fun _ => by rw [b45]; exact i_vp (by omega) (by omega)) (fun _ => ?_)
    rw [a31, a32, a3, b5, b25, b45, nI_clamp (n := 1605 + i) (by omega), nI_clamp (n := 1625 + i) (by omega), nI_clamp (n := 1645 + i) (by omega), nI_clamp (n := 3 * i) (by omega), nI_clamp (n := 3 * i + 1) (by omega), nI_clamp (n := 3 * i + 2) (by omega), nI_1, hk 124 (by omega)]
    obtain ⟨l1, l2, l3⟩ := hl i (by omega)
    refine ih (i + 1) _ (by omega) (fun k k1 => by rw [ms_ne k1, ms_ne k1, ms_ne k1]; exact hk k k1) (fun k k1 => by rw [ms_at (Or.inr (by omega)), ms_at (Or.inr (by omega)), ms_at (Or.inr (by omega))]; exact hw k k1) (by rw [ms_at (Or.inr (by omega)), ms_at (Or.inr (by omega)), ms_at (Or.inr (by omega))]; exact h1600) (fun j hj => ?_)
    by_cases q : j = i
    · subst q
      refine ⟨?_, ?_, ?_⟩
      · rw [ms_at (Or.inr (by omega)), ms_at (Or.inr (by omega)), ms_self, upd_eq]; exact l1
      · rw [ms_at (Or.inr (by omega)), ms_self, upd_eq]; exact l2
      · rw [ms_self, upd_eq]; exact l3
    · rw [ms_at (Or.inr (by omega)), ms_at (Or.inr (by omega)), ms_at (Or.inr (by omega)), ms_at (Or.inr (by omega)), ms_at (Or.inr (by omega)), ms_at (Or.inr (by omega)), ms_at (Or.inr (by omega)), ms_at (Or.inr (by omega)), ms_at (Or.inr (by omega))]
      exact hL j (by omega)
set_option maxHeartbeats 1000000 in
theorem sp_textM {D : Nat} {I : mx_I} (hD : 40 ≤ D) (hT : TpM b n I) : mx_Spec l mX12_text D 0 0 [.ref 120] (sk0 c, I) (TxQ c I (gLaw (nxL b n) 2000 402 [] (nxL b n lx0))) := by
  obtain ⟨d, rfl⟩ : ∃ d, D = d + 8 + 1 := ⟨D - 9, by omega⟩
  have hx := lexy b n
  have n400 := hT.1
  obtain ⟨g, hgd⟩ : ∃ g, g = gLaw (nxL b n) 2000 402 [] (nxL b n lx0) := ⟨_, rfl⟩
  rw [← hgd]
  have lp : ∀ (m : Nat) (ps : lw_ps) (L : LX) (dp : Nat) (J : mx_I), msL n L < m → 4 * msL n L + 4 ≤ 2000 → Mst b n L (lw_all ps) dp J → J 120 9 = nI ps.length → LnM ps (J 124) → ps.length ≤ 16 → (lw_all ps).length + msL n L ≤ 402 → (∀ k, k ≠ 120 → k ≠ 124 → k ≠ 125 → J k = I k) → (∀ f, f < 9 ∨ 19 < f → J 120 f = I 120 f) → gLaw (nxL b n) 2000 m ps L = g → mx_Go l (mx_rm (d + 8 + 1) 0 0) mX12_text (mx_Z (TxQ c I g) 0 0) 0 0 26 [.ref 120, .int 1, .retAddr 0] [] (sk0 c, J) := by
    intro m
    induction m with
    | zero => intro ps L dp J hm; exact absurd hm (Nat.not_lt_zero _)
    | succ m ih =>
      intro ps L dp J hm hK hM h9 hl h16 hb hk hf hg
      have e0 := hM.2.1.eq (y := 0) (x := 0) (by omega) rfl
      have h6 := hM.2.2.2.2.2
      refine sg_X12_text_26 _ (fun z => absurd z (by decide)) (fun z => absurd z (by decide)) (fun z => absurd z (by decide)) (fun z => absurd z (by decide)) (fun _ _ z => absurd z (by decide)) (fun _ _ z => absurd z (by decide)) (fun _ y _ _ => ?_) (fun _ _ _ z => absurd z (by decide)) (fun _ z => ?_)
      · have t0 := e0.mp y
        rw [gLaw, if_pos t0] at hg
        rw [h9, h6]
        refine text_cp (ps := ps) (J0 := mx_set (mx_set (mx_set (mx_set J 120 11 0) 120 18 0) 120 20 (-1)) 121 1600 (nI ps.length)) (w0 := I 121) ?_ ?_ h16 (by omega) ?_ (fun N hN hw h1600 hL hs => ?_) ps.length 0 _ (by omega) (fun _ _ => rfl) (fun k k1 => ?_) ?_ (fun i hi => absurd hi (Nat.not_lt_zero _))
        · rw [ms_ne (by omega), ms_at (Or.inr (by omega)), ms_at (Or.inr (by omega)), ms_at (Or.inr (by omega))]; exact h9
        · rw [ms_ne (by omega), ms_at (Or.inr (by omega)), ms_at (Or.inr (by omega)), ms_at (Or.inr (by omega))]; exact hM.2.2.1.1
        · rw [ms_ne (by omega), ms_ne (by omega), ms_ne (by omega), ms_ne (by omega)]; exact hl
        · have n120 : ∀ f, f ≠ 11 → f ≠ 18 → f ≠ 20 → N 120 f = J 120 f := fun f a1 a2 a3 => by rw [hN 120 (by omega), ms_ne (by omega), ms_at (Or.inr a3), ms_at (Or.inr a2), ms_at (Or.inr a1)]
          refine ⟨N, rfl, fun k k1 k2 k3 k4 => by rw [hN k k2, ms_ne k2, ms_ne k1, ms_ne k1, ms_ne k1]; exact hk k k1 k3 k4, fun f hff => by rw [n120 f (by omega) (by omega) (by omega)]; exact hf f (by omega), by rw [hN 120 (by omega), ms_ne (by omega), ms_at (Or.inr (by omega)), ms_at (Or.inr (by omega)), ms_self, upd_eq], Or.inl ⟨ps, hg.symm, rfl, by rw [hN 120 (by omega), ms_ne (by omega), ms_at (Or.inr (by omega)), ms_self, upd_eq], by rw [hN 120 (by omega), ms_ne (by omega), ms_self, upd_eq], hw, h1600, hL, fun i hi => ?_⟩⟩
          have r125 : mx_set (mx_set (mx_set (mx_set J 120 11 0) 120 18 0) 120 20 (-1)) 121 1600 (nI ps.length) 125 = J 125 := by rw [ms_ne (by omega), ms_ne (by omega), ms_ne (by omega), ms_ne (by omega)]
          rw [hs (2 * i) (by omega), show 1666 + 2 * i = 1665 + (2 * i + 1) from by omega, hs (2 * i + 1) (by omega), r125]
          exact hM.2.2.1.2 i hi
        · rw [ms_at (Or.inr (by omega)), ms_ne (by omega), ms_ne (by omega), ms_ne (by omega), hk 121 (by omega) (by omega) (by omega)]
        · rw [ms_self, upd_eq]
      · have t0 : L.tk ≠ 0 := fun w => z (e0.mpr w)
        refine ⟨_, sp_aLineM (K := 2000) (by omega) hM h9 hl h16 hb hK t0, ?_⟩
        rintro _ _ ⟨N, rfl, hN, (⟨L2, q, hq, rfl, ⟨dp', hM2⟩, hl2, hv2, hb2, hm2, hp16⟩ | ⟨e, hq, rfl, k1, k2⟩)⟩
        · rw [gLaw_ok t0 hq] at hg
          have n9 : N 120 9 = nI ps.length := by rw [hN.2 9 (by omega) (by omega) (by omega)]; exact h9
          refine sg_X12_text_41 _ _ (fun z => absurd z (by decide)) (fun _ => ?_)
          rw [n9, nI_1]
          have hM3 : Mst b n L2 (lw_all (ps ++ [q])) dp' (mx_set N 120 9 (nI (ps.length + 1))) := by
            obtain ⟨⟨t1, t2, t3⟩, ⟨k1, k2, k3, k4, k5⟩, ⟨h3, h3'⟩, h4, h5, h6⟩ := hM2
            exact ⟨⟨t1, by rw [ms_at (Or.inr (by omega))]; exact t2, fun i hi => by rw [ms_ne (by omega)]; exact t3 i hi⟩, ⟨k1, by rw [ms_at (Or.inr (by omega))]; exact k2, by rw [ms_at (Or.inr (by omega))]; exact k3, by rw [ms_at (Or.inr (by omega))]; exact k4, fun z => by rw [ms_at (Or.inr (by omega))]; exact k5 z⟩, ⟨by rw [ms_at (Or.inr (by omega))]; exact h3, fun i hi => by rw [ms_ne (by omega)]; exact h3' i hi⟩, by rw [ms_at (Or.inr (by omega))]; exact h4, h5, by rw [ms_at (Or.inr (by omega))]; exact h6⟩
          refine ih (ps ++ [q]) L2 dp' _ (by omega) (by omega) hM3 (by rw [ms_self, upd_eq, List.length_append]; rfl) (by rw [ms_ne (by omega)]; exact hl2) (by rw [List.length_append]; show ps.length + 1 ≤ 16; omega) (by omega) (fun k a1 a2 a3 => by rw [ms_ne a1, hN.1 k a1 a2 a3]; exact hk k a1 a2 a3) (fun f hff => by rw [ms_at (Or.inr (by omega)), hN.2 f (by omega) (by omega) (by omega)]; exact hf f hff) hg
        · rw [gLaw_er t0 hq] at hg
          refine sg_X12_text_41 _ _ (fun _ => ?_) (fun z => absurd rfl z)
          have r16 : mx_set N 120 9 (N 120 9 + 0) 120 16 = nI e.1 := by rw [ms_at (Or.inr (by omega))]; exact k1
          have r17 : mx_set N 120 9 (N 120 9 + 0) 120 17 = nI e.2 := by rw [ms_at (Or.inr (by omega))]; exact k2
          refine sg_X12_text_26 _ (fun _ _ z => absurd rfl z) (fun _ _ _ => ?_) (fun _ z => absurd rfl z) (fun _ z => absurd rfl z) (fun z => absurd rfl z) (fun z => absurd rfl z) (fun z => absurd rfl z) (fun z => absurd rfl z) (fun z => absurd rfl z)
          rw [r16, r17]
          refine ⟨_, rfl, fun k k1 k2 k3 k4 => by rw [ms_ne k1, ms_ne k1, ms_ne k1, ms_ne k1, hN.1 k k1 k3 k4]; exact hk k k1 k3 k4, fun f hff => by rw [ms_at (Or.inr (by omega)), ms_at (Or.inr (by omega)), ms_at (Or.inr (by omega)), ms_at (Or.inr (by omega)), hN.2 f (by omega) (by omega) (by omega)]; exact hf f (by omega), by rw [ms_at (Or.inr (by omega)), ms_at (Or.inr (by omega)), ms_self, upd_eq], Or.inr ⟨e, hg.symm, rfl, by rw [ms_at (Or.inr (by omega)), ms_self, upd_eq], by rw [ms_self, upd_eq], by rw [ms_ne (by omega), ms_ne (by omega), ms_ne (by omega), ms_ne (by omega), hN.1 121 (by omega) (by omega) (by omega)]; exact hk 121 (by omega) (by omega) (by omega)⟩⟩
  have tI0 : TpM b n (mx_set (mx_set (mx_set (mx_set I 120 16 0) 120 12 0) 120 9 0) 120 10 0) := ⟨hT.1, by rw [ms_at (Or.inr (by omega)), ms_at (Or.inr (by omega)), ms_at (Or.inr (by omega)), ms_at (Or.inr (by omega))]; exact hT.2.1, fun i hi => by rw [ms_ne (by omega), ms_ne (by omega), ms_ne (by omega), ms_ne (by omega)]; exact hT.2.2 i hi⟩
  refine sn_X12_text ⟨_, sp_next0M (d := d) (L := lx0) tI0 (by rw [ms_at (Or.inr (by omega)), ms_at (Or.inr (by omega)), ms_self, upd_eq]; rfl) (by show 0 ≤ n; omega), ?_⟩
  rintro _ _ ⟨rfl, J, rfl, hF, ht⟩
  refine sg_X12_text_24 ?_
  obtain ⟨dp, hdp⟩ := i_all (J 120 19)
  have ms1 := ms_first b n400
  refine lp 402 [] (nxL b n lx0) dp J (by omega) (by omega) ⟨hF.tp tI0, ht, ⟨?_, fun i hi => absurd hi (Nat.not_lt_zero _)⟩, hdp, (nx_on (by show 0 ≤ n; omega)).1, ?_⟩ ?_ (fun i hi => absurd hi (Nat.not_lt_zero _)) (by show 0 ≤ 16; omega) (by show 0 + _ ≤ 402; omega) (fun k k1 _ _ => by rw [hF.1 k k1, ms_ne k1, ms_ne k1, ms_ne k1, ms_ne k1]) (fun f hff => by rw [hF.2 f (by omega), ms_at (Or.inr (by omega)), ms_at (Or.inr (by omega)), ms_at (Or.inr (by omega)), ms_at (Or.inr (by omega))]) hgd.symm
  · rw [hF.2 10 (by omega), ms_self, upd_eq]; rfl
  · rw [hF.2 16 (by omega), ms_at (Or.inr (by omega)), ms_at (Or.inr (by omega)), ms_at (Or.inr (by omega)), ms_self, upd_eq]
  · rw [hF.2 9 (by omega), ms_at (Or.inr (by omega)), ms_self, upd_eq]; rfl
end M
