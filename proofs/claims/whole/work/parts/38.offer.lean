/-! offer, crosser, list -/
theorem f_neg {x : Int32} {hi : Int} (h : x < 0) : inR x 0 hi = false := inR_f.mpr (by have : x.toInt < 0 := (i_lt _ _).mp h; omega)
theorem f_gt {x y : Int32} (h : ¬ x ≤ y) : inR x 0 y.toInt = false := inR_f.mpr (by have : ¬ x.toInt ≤ y.toInt := fun z => h ((i_le _ _).mpr z); omega)
theorem f_in {x y : Int32} (h : ¬ x < 0) (g : x ≤ y) : inR x 0 y.toInt = true := inR_t.mpr (by
  have h' : ¬ x.toInt < 0 := fun z => h ((i_lt _ _).mpr z)
  have g' : x.toInt ≤ y.toInt := (i_le _ _).mp g
  omega)
theorem nI_ltn {n m : Nat} (hn : n < 2 ^ 31) (hm : m < 2 ^ 31) : nI n < nI m ↔ n < m := nI_ltI hn hm
set_option maxHeartbeats 1000000 in
theorem p_offer {l : Launch} (a1 a2 a3 a4 a5 : Int32) : mx_PrI l Sim mX11_offer mX12_offer [.int a1, .int a2, .int a3, .int a4, .int a5] := by
  refine pr_cases (fun c I hs => ?_)
  obtain ⟨nb, now, nl, nc, no, ni, nk, hp, g1, g2, g3, g4, g5⟩ := hs.2.1
  obtain ⟨⟨s1, s2, s3, s4, s5, s6, -⟩, ⟨c1, c2, c3, c4, c5, -⟩, ⟨d1, d2, d3, d4, d5, -⟩, -⟩ := id g1
  have c5 : I 18 5 = nI no := c5
  cases h1 : inR a1 now 167 with
  | false =>
    refine ⟨-1, I, sn_X11_offer _ _ _ _ _ ⟨_, sp_isAhead a1 c2 s3, ?_⟩, sn_X12_offer _ _ _ _ _ ⟨_, sp_isHour a1 d2 s3, ?_⟩⟩
    · rintro _ _ ⟨rfl, rfl⟩; rw [h1]; exact sg_X11_offer_5 _ _ _ _ _ _ (fun _ => ⟨rfl, rfl⟩) (fun z => absurd rfl z)
    · rintro _ _ ⟨rfl, rfl⟩; rw [h1]; exact sg_X12_offer_5 _ _ _ _ _ _ (fun _ => ⟨rfl, I, rfl, hs⟩) (fun z => absurd rfl z)
  | true =>
  cases h2 : isW nb a2 a3 a4 with
  | false =>
    refine ⟨-1, I, sn_X11_offer _ _ _ _ _ ⟨_, sp_isAhead a1 c2 s3, ?_⟩, sn_X12_offer _ _ _ _ _ ⟨_, sp_isHour a1 d2 s3, ?_⟩⟩
    · rintro _ _ ⟨rfl, rfl⟩; rw [h1]
      refine sg_X11_offer_5 _ _ _ _ _ _ (fun z => absurd z (by decide)) (fun _ => ⟨_, sp_isWalk a2 a3 a4 c1 s2, ?_⟩)
      rintro _ _ ⟨rfl, rfl⟩; rw [h2]
      exact sg_X11_offer_16 _ _ _ _ _ _ (fun _ => ⟨rfl, rfl⟩) (fun z => absurd rfl z) (fun z => absurd rfl z) (fun z => absurd rfl z)
    · rintro _ _ ⟨rfl, rfl⟩; rw [h1]
      refine sg_X12_offer_5 _ _ _ _ _ _ (fun z => absurd z (by decide)) (fun _ => ⟨_, sp_isCrossing a2 a3 a4 d1 s2, ?_⟩)
      rintro _ _ ⟨rfl, rfl⟩; rw [h2]
      exact sg_X12_offer_16 _ _ _ _ _ _ (fun _ => ⟨rfl, I, rfl, hs⟩) (fun z => absurd rfl z)
  | true =>
  cases h3 : inR a5 0 (999 : Int32).toInt with
  | false =>
    have h3' := inR_f.mp h3
    refine ⟨-1, I, sn_X11_offer _ _ _ _ _ ⟨_, sp_isAhead a1 c2 s3, ?_⟩, sn_X12_offer _ _ _ _ _ ⟨_, sp_isHour a1 d2 s3, ?_⟩⟩
    · rintro _ _ ⟨rfl, rfl⟩; rw [h1]
      refine sg_X11_offer_5 _ _ _ _ _ _ (fun z => absurd z (by decide)) (fun _ => ⟨_, sp_isWalk a2 a3 a4 c1 s2, ?_⟩)
      rintro _ _ ⟨rfl, rfl⟩; rw [h2]
      exact sg_X11_offer_16 _ _ _ _ _ _ (fun z => absurd z (by decide)) (fun _ _ => ⟨rfl, rfl⟩) (fun _ z1 z2 => absurd ((f_in z1 z2).symm.trans h3) (by decide)) (fun _ _ _ => ⟨rfl, rfl⟩)
    · rintro _ _ ⟨rfl, rfl⟩; rw [h1]
      refine sg_X12_offer_5 _ _ _ _ _ _ (fun z => absurd z (by decide)) (fun _ => ⟨_, sp_isCrossing a2 a3 a4 d1 s2, ?_⟩)
      rintro _ _ ⟨rfl, rfl⟩; rw [h2]
      refine sg_X12_offer_16 _ _ _ _ _ _ (fun z => absurd z (by decide)) (fun _ => ⟨_, sp_isIn _ _ _, ?_⟩)
      rintro _ _ ⟨rfl, rfl⟩; rw [show ((0 : Int32).toInt) = 0 from rfl, h3]
      exact sg_X12_offer_28 _ _ _ _ _ _ (fun _ => ⟨rfl, I, rfl, hs⟩) (fun z => absurd rfl z) (fun z => absurd rfl z) (fun z => absurd rfl z) (fun z => absurd rfl z) (fun z => absurd rfl z) (fun z => absurd rfl z) (fun z => absurd rfl z)
  | true =>
  have h3' := inR_t.mp h3
  have n0 : ¬ a5 < 0 := fun z => by have : a5.toInt < 0 := (i_lt _ _).mp z; omega
  have n9 : a5 ≤ 999 := (i_le _ _).mpr h3'.2
  by_cases hn : no < 8
  · have lt8 : I 18 5 < 8 := by rw [c5]; exact nI_lt hn (by decide)
    have cn : (I 18 5).toNatClampNeg = no := by rw [c5]; exact nI_clamp (by omega)
    refine ⟨nI no, mx_set (mx_set (mx_set (mx_set (mx_set (mx_set I 19 no a1) 20 no a2) 21 no a3) 22 no a4) 23 no a5) 18 5 (nI (no + 1)), sn_X11_offer _ _ _ _ _ ⟨_, sp_isAhead a1 c2 s3, ?_⟩, sn_X12_offer _ _ _ _ _ ⟨_, sp_isHour a1 (by rw [ms_ne (by decide), ms_ne (by decide), ms_ne (by decide), ms_ne (by decide), ms_ne (by decide), ms_ne (by decide)]; exact d2) s3, ?_⟩⟩
    · rintro _ _ ⟨rfl, rfl⟩; rw [h1]
      refine sg_X11_offer_5 _ _ _ _ _ _ (fun z => absurd z (by decide)) (fun _ => ⟨_, sp_isWalk a2 a3 a4 c1 s2, ?_⟩)
      rintro _ _ ⟨rfl, rfl⟩; rw [h2]
      have hv : I 18 5 < 8 → vp_in (I 18 5) 8 := fun _ => by rw [c5]; exact i_vp hn (by omega)
      refine sg_X11_offer_16 _ _ _ _ _ _ (fun z => absurd z (by decide)) (fun _ z => absurd z n0) (fun _ _ _ => ⟨_, sn_X6_add (Q := fun r h' => r = some (.int (nI no)) ∧ h' = (sk0 c, mx_set (mx_set (mx_set (mx_set (mx_set (mx_set I 19 no a1) 20 no a2) 21 no a3) 22 no a4) 23 no a5) 18 5 (nI (no + 1)))) _ _ _ _ _ hv hv hv hv hv (fun _ => ?_) (fun z => absurd lt8 z), ?_⟩) (fun _ _ z => absurd n9 z)
      · rw [cn, c5, show nI no + 1 = nI (no + 1) from nI_1 no, show nI (no + 1) - 1 = nI no from nI_pred no]
        exact ⟨rfl, rfl⟩
      · rintro _ _ ⟨rfl, rfl⟩
        exact sg_X11_offer_51 _ _ _ _ _ _ ⟨rfl, rfl⟩
    · generalize hJ : mx_set (mx_set (mx_set (mx_set (mx_set (mx_set I 19 no a1) 20 no a2) 21 no a3) 22 no a4) 23 no a5) 18 5 (nI (no + 1)) = J
      have j121 : J 121 = I 121 := by rw [← hJ, ms_ne (by decide), ms_ne (by decide), ms_ne (by decide), ms_ne (by decide), ms_ne (by decide), ms_ne (by decide)]
      have jI : ∀ a, a < 18 ∨ 23 < a → J a = I a := fun a h => by rw [← hJ, ms_ne (by omega), ms_ne (by omega), ms_ne (by omega), ms_ne (by omega), ms_ne (by omega), ms_ne (by omega)]
      rintro _ _ ⟨rfl, rfl⟩; rw [h1]
      refine sg_X12_offer_5 _ _ _ _ _ _ (fun z => absurd z (by decide)) (fun _ => ⟨_, sp_isCrossing a2 a3 a4 (by rw [j121]; exact d1) s2, ?_⟩)
      rintro _ _ ⟨rfl, rfl⟩; rw [h2]
      refine sg_X12_offer_16 _ _ _ _ _ _ (fun z => absurd z (by decide)) (fun _ => ⟨_, sp_isIn _ _ _, ?_⟩)
      rintro _ _ ⟨rfl, rfl⟩; rw [show ((0 : Int32).toInt) = 0 from rfl, h3]
      have j7 : J 121 7 = nI no := by rw [j121]; exact d5
      have ix : ∀ j : Nat, ((1500 + (5 * (J 121 7))) + nI j : Int32) = nI (1500 + 5 * no + j) := fun j => by
        rw [j7, show (1500 : Int32) = nI 1500 from rfl, show (5 : Int32) = nI 5 from rfl, pk_mul, nI_add, nI_add]
      have ix0 : ((1500 + (5 * (J 121 7))) : Int32) = nI (1500 + 5 * no) := by
        rw [j7, show (1500 : Int32) = nI 1500 from rfl, show (5 : Int32) = nI 5 from rfl, pk_mul, nI_add]
      have ix1 := ix 1
      have ix2 := ix 2
      have ix3 := ix 3
      have ix4 := ix 4
      refine sg_X12_offer_28 _ _ _ _ _ _ (fun z => absurd z (by decide)) (fun _ _ => by rw [ix0]; exact i_vp (by omega) (by omega)) (fun _ _ => by rw [show (1 : Int32) = nI 1 from rfl, ix1]; exact i_vp (by omega) (by omega)) (fun _ _ => by rw [show (2 : Int32) = nI 2 from rfl, ix2]; exact i_vp (by omega) (by omega)) (fun _ _ => by rw [show (3 : Int32) = nI 3 from rfl, ix3]; exact i_vp (by omega) (by omega)) (fun _ _ => by rw [show (4 : Int32) = nI 4 from rfl, ix4]; exact i_vp (by omega) (by omega)) (fun _ _ => ?_) (fun _ z => ?_)
      · have k0 : ((1500 + (5 * (J 121 7))) : Int32).toNatClampNeg = 1500 + 5 * no := by rw [ix0]; exact nI_clamp (by omega)
        have k1 : ((1500 + (5 * (J 121 7))) + 1 : Int32).toNatClampNeg = 1500 + 5 * no + 1 := by rw [show (1 : Int32) = nI 1 from rfl, ix1]; exact nI_clamp (by omega)
        have k2 : ((1500 + (5 * (J 121 7))) + 2 : Int32).toNatClampNeg = 1500 + 5 * no + 2 := by rw [show (2 : Int32) = nI 2 from rfl, ix2]; exact nI_clamp (by omega)
        have k3 : ((1500 + (5 * (J 121 7))) + 3 : Int32).toNatClampNeg = 1500 + 5 * no + 3 := by rw [show (3 : Int32) = nI 3 from rfl, ix3]; exact nI_clamp (by omega)
        have k4 : ((1500 + (5 * (J 121 7))) + 4 : Int32).toNatClampNeg = 1500 + 5 * no + 4 := by rw [show (4 : Int32) = nI 4 from rfl, ix4]; exact nI_clamp (by omega)
        rw [k0, k1, k2, k3, k4]
        have q7 : (mx_set (mx_set (mx_set (mx_set (mx_set J 121 (1500 + 5 * no) a1) 121 (1500 + 5 * no + 1) a2) 121 (1500 + 5 * no + 2) a3) 121 (1500 + 5 * no + 3) a4) 121 (1500 + 5 * no + 4) a5) 121 7 = nI no := by
          simp only [ms_self]
          rw [upd_ne (by omega), upd_ne (by omega), upd_ne (by omega), upd_ne (by omega), upd_ne (by omega)]
          exact j7
        rw [q7, show nI no + 1 = nI (no + 1) from nI_1 no, show nI (no + 1) - 1 = nI no from nI_pred no]
        refine ⟨rfl, _, rfl, ?_⟩
        generalize hK : mx_set (mx_set (mx_set (mx_set (mx_set (mx_set J 121 (1500 + 5 * no) a1) 121 (1500 + 5 * no + 1) a2) 121 (1500 + 5 * no + 2) a3) 121 (1500 + 5 * no + 3) a4) 121 (1500 + 5 * no + 4) a5) 121 7 (nI (no + 1)) = K
        have kI : ∀ a, a ≠ 121 → K a = J a := fun a h => by rw [← hK, ms_ne h, ms_ne h, ms_ne h, ms_ne h, ms_ne h, ms_ne h]
        have rI : ∀ a, a < 18 ∨ (23 < a ∧ a ≠ 121) → K a = I a := fun a h => by rw [kI a (by omega), jI a (by omega)]
        refine hs.world hs.1 ?_ (by rw [rI 0 (by omega)]) (fun a h1 h2 => rI a (by omega)) (rI _ (by omega)) (rI _ (by omega)) (rI _ (by omega)) (rI _ (by omega)) (fun j _ => by rw [rI 120 (by omega)])
        have hw := isW_t h2
        refine Rel.offer g1 g2 g3 g4 g5 (val := fun j => if j = 0 then a1 else if j = 1 then a2 else if j = 2 then a3 else if j = 3 then a4 else a5) hn ⟨⟨by have := (inRb h1).1; show (0 : Int) ≤ a1.toInt; omega, (inRb h1).2⟩, hw.1, hw.2.1, hw.2.2, ⟨h3'.1, h3'.2⟩⟩ rI ?_ (fun j hj i => ?_) (fun k hk => ?_) ?_ (fun j hj => ?_)
        · rw [kI 18 (by decide), ← hJ, ms_self, upd_eq]
        · rw [kI (19 + j) (by omega), ← hJ]
          rcases (show j = 0 ∨ j = 1 ∨ j = 2 ∨ j = 3 ∨ j = 4 by omega) with rfl | rfl | rfl | rfl | rfl <;> simp [ms_row, upd]
        · rw [← hK]
          simp only [ms_self]
          rw [upd_ne (by omega), upd_ne (by omega), upd_ne (by omega), upd_ne (by omega), upd_ne (by omega), upd_ne (by omega), j121]
        · rw [← hK, ms_self, upd_eq]
        · rw [← hK]
          simp only [ms_self, upd]
          rcases (show j = 0 ∨ j = 1 ∨ j = 2 ∨ j = 3 ∨ j = 4 by omega) with rfl | rfl | rfl | rfl | rfl <;> simp <;> omega
      · rw [j7, show (8 : Int32) = nI 8 from rfl, nI_eq (by omega) (by omega)] at z; omega
  · have e8 : no = 8 := by omega
    have nl8 : ¬ I 18 5 < 8 := by rw [c5, e8]; decide
    refine ⟨-1, I, sn_X11_offer _ _ _ _ _ ⟨_, sp_isAhead a1 c2 s3, ?_⟩, sn_X12_offer _ _ _ _ _ ⟨_, sp_isHour a1 d2 s3, ?_⟩⟩
    · rintro _ _ ⟨rfl, rfl⟩; rw [h1]
      refine sg_X11_offer_5 _ _ _ _ _ _ (fun z => absurd z (by decide)) (fun _ => ⟨_, sp_isWalk a2 a3 a4 c1 s2, ?_⟩)
      rintro _ _ ⟨rfl, rfl⟩; rw [h2]
      refine sg_X11_offer_16 _ _ _ _ _ _ (fun z => absurd z (by decide)) (fun _ z => absurd z n0) (fun _ _ _ => ⟨_, sn_X6_add (Q := fun r h' => r = some (.int (-1)) ∧ h' = (sk0 c, I)) _ _ _ _ _ (fun z => absurd z nl8) (fun z => absurd z nl8) (fun z => absurd z nl8) (fun z => absurd z nl8) (fun z => absurd z nl8) (fun z => absurd z nl8) (fun _ => ⟨rfl, rfl⟩), ?_⟩) (fun _ _ z => absurd n9 z)
      rintro _ _ ⟨rfl, rfl⟩
      exact sg_X11_offer_51 _ _ _ _ _ _ ⟨rfl, rfl⟩
    · have j7 : I 121 7 = 8 := by rw [d5, e8]; rfl
      rintro _ _ ⟨rfl, rfl⟩; rw [h1]
      refine sg_X12_offer_5 _ _ _ _ _ _ (fun z => absurd z (by decide)) (fun _ => ⟨_, sp_isCrossing a2 a3 a4 d1 s2, ?_⟩)
      rintro _ _ ⟨rfl, rfl⟩; rw [h2]
      refine sg_X12_offer_16 _ _ _ _ _ _ (fun z => absurd z (by decide)) (fun _ => ⟨_, sp_isIn _ _ _, ?_⟩)
      rintro _ _ ⟨rfl, rfl⟩; rw [show ((0 : Int32).toInt) = 0 from rfl, h3]
      exact sg_X12_offer_28 _ _ _ _ _ _ (fun z => absurd z (by decide)) (fun _ z => absurd j7 z) (fun _ z => absurd j7 z) (fun _ z => absurd j7 z) (fun _ z => absurd j7 z) (fun _ z => absurd j7 z) (fun _ z => absurd j7 z) (fun _ _ => ⟨rfl, I, rfl, hs⟩)
