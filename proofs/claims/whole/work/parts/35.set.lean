/-! set, fetch -/
theorem bnd01 {x : Int32} (h : bnd x 0 1) : x = 0 ∨ x = 1 := by
  rcases (show x.toInt = 0 ∨ x.toInt = 1 by have := h.1; have := h.2; omega) with q | q
  · exact Or.inl ((i_eq _ _).mpr q)
  · exact Or.inr ((i_eq _ _).mpr q)
theorem inR01 (x : Int32) : inR x 0 1 = decide (x = 0 ∨ x = 1) := by
  by_cases h : x = 0 ∨ x = 1
  · rw [decide_eq_true h]
    rcases h with rfl | rfl <;> decide
  · rw [decide_eq_false h]
    exact inR_f.mpr (fun q => h (bnd01 q))
theorem inR01_0 : inR 0 0 1 = true := by decide
theorem inR01_1 : inR 1 0 1 = true := by decide
theorem inR01_n {x : Int32} (h0 : ¬ x = 0) (h1 : ¬ x = 1) : inR x 0 1 = false := by rw [inR01]; simp [h0, h1]
def ok_set (a1 a2 a3 : Int32) (I : mx_I) : Bool := if a1 = 0 then inR a3 (-1) 999 else if a1 = 1 then inR a3 0 1 else if a1 = 2 then inR a2 0 ((I 8 9).toInt - 1) && inR a3 0 1 else false
def cw_set (a1 a2 a3 : Int32) (I : mx_I) : mx_I := if a1 = 0 then mx_set I 1 6 a3 else if a1 = 1 then mx_set I 1 7 a3 else mx_set I 17 a2.toNatClampNeg a3
def mw_set (a1 a2 a3 : Int32) (I : mx_I) : mx_I := if a1 = 0 then mx_set I 121 4 a3 else if a1 = 1 then mx_set I 121 5 a3 else mx_set I 121 (331 + 14 * a2.toNatClampNeg) a3
set_option maxHeartbeats 1000000 in
theorem p_set {l : Launch} (a1 a2 a3 : Int32) : mx_PrI l Sim mX11_set mX12_set [.int a1, .int a2, .int a3] := by
  refine pr_upd (fun _ I => b2i (ok_set a1 a2 a3 I)) (fun _ I => if ok_set a1 a2 a3 I = true then cw_set a1 a2 a3 I else I) (fun _ I => if ok_set a1 a2 a3 I = true then mw_set a1 a2 a3 (cw_set a1 a2 a3 I) else I) (fun c I hs => ?_) (fun c I hs => ?_) (fun c I hs => ?_)
  · obtain ⟨nb, now, nl, nc, no, ni, nk, hp, ⟨⟨s1, s2, s3, s4, s5, -⟩, ⟨c1, c2, c3, c4, -⟩, -⟩, -⟩ := hs.2.1
    have c4 : I 8 9 = nI nc := c4
    have e4 : (I 8 9).toInt = nc := by rw [c4]; exact nI_toInt (by omega)
    refine sn_X11_set a1 a2 a3 (fun e h => ?_) (fun e h g => ?_) (fun e h g q => ?_) (fun e h g q => ?_) (fun e h => ?_) (fun e h g => ?_) (fun e h g => ?_) (fun e => ⟨_, sp_hasC a2 c4 s5, ?_⟩) (fun h0 h1 h2 => ?_)
    · subst e; subst h
      have k : ok_set 0 a2 (-1) I = true := by simp only [ok_set, if_true]; decide
      rw [k]; exact ⟨rfl, rfl⟩
    · subst e
      have g' : a3.toInt < 0 := (i_lt _ _).mp g
      have h' : a3.toInt ≠ -1 := fun z => h ((i_eq _ _).mpr z)
      have k : ok_set 0 a2 a3 I = false := by simp only [ok_set, if_true]; exact inR_f.mpr (by omega)
      rw [k]; exact ⟨rfl, rfl⟩
    · subst e
      have g' : ¬ a3.toInt < 0 := fun z => g ((i_lt _ _).mpr z)
      have q' : a3.toInt ≤ 999 := (i_le _ _).mp q
      have k : ok_set 0 a2 a3 I = true := by simp only [ok_set, if_true]; exact inR_t.mpr (by omega)
      rw [k]; exact ⟨rfl, rfl⟩
    · subst e
      have q' : ¬ a3.toInt ≤ 999 := fun z => q ((i_le _ _).mpr z)
      have k : ok_set 0 a2 a3 I = false := by simp only [ok_set, if_true]; exact inR_f.mpr (by omega)
      rw [k]; exact ⟨rfl, rfl⟩
    · subst e; subst h
      have k : ok_set 1 a2 0 I = true := rfl
      rw [k]; exact ⟨rfl, rfl⟩
    · subst e; subst g
      have k : ok_set 1 a2 1 I = true := rfl
      rw [k]; exact ⟨rfl, rfl⟩
    · subst e
      have k : ok_set 1 a2 a3 I = false := inR01_n h g
      rw [k]; exact ⟨rfl, rfl⟩
    · subst e
      rintro _ _ ⟨rfl, rfl⟩
      have k : ok_set 2 a2 a3 I = (inR a2 0 ((nc : Int) - 1) && inR a3 0 1) := by rw [← e4]; rfl
      rw [k]
      cases hq : inR a2 0 ((nc : Int) - 1) with
      | false => exact sg_X11_set_88 _ _ _ _ (fun _ => ⟨rfl, rfl⟩) (fun z => absurd rfl z) (fun z => absurd rfl z) (fun z => absurd rfl z) (fun z => absurd rfl z) (fun z => absurd rfl z)
      | true =>
        obtain ⟨j, hj0, hj⟩ := i_of hq
        have hv : vp_in a2 20 := by rw [hj0]; exact i_vp (by omega) (by omega)
        refine sg_X11_set_88 _ _ _ _ (fun z => absurd z (by decide)) (fun _ _ => hv) (fun _ z => ?_) (fun _ _ _ => hv) (fun _ _ z => ?_) (fun _ z1 z2 => ?_)
        · subst z; exact ⟨rfl, rfl⟩
        · subst z; exact ⟨rfl, rfl⟩
        · rw [inR01_n z1 z2]; exact ⟨rfl, rfl⟩
    · have k : ok_set a1 a2 a3 I = false := by simp [ok_set, h0, h1, h2]
      rw [k]; exact ⟨rfl, rfl⟩
  · obtain ⟨nb, now, nl, nc, no, ni, nk, hp, ⟨⟨s1, s2, s3, s4, s5, -⟩, ⟨c1, c2, c3, c4, -⟩, ⟨d1, d2, d3, d4, -⟩, -⟩, -⟩ := hs.2.1
    have c4 : I 8 9 = nI nc := c4
    have e4 : (I 8 9).toInt = nc := by rw [c4]; exact nI_toInt (by omega)
    have z0 : ∀ j, (if ok_set a1 a2 a3 I = true then cw_set a1 a2 a3 I else I) 121 j = I 121 j := fun j => by
      split
      · unfold cw_set; split
        · rw [ms_ne (by decide)]
        · split <;> rw [ms_ne (by decide)]
      · rfl
    refine sn_X12_set a1 a2 a3 (fun h0 h1 h2 => ?_) (fun h0 h1 e => ⟨_, sp_isOne a2 ((z0 3).trans d4) s5, ?_⟩) (fun h0 e => ⟨_, sp_isIn _ _ _, ?_⟩) (fun e => ⟨_, sp_isIn _ _ _, ?_⟩)
    · have k : ok_set a1 a2 a3 I = false := by simp [ok_set, h0, h1, h2]
      rw [k]; exact ⟨rfl, rfl⟩
    · subst e
      rintro _ _ ⟨rfl, rfl⟩
      have k : ok_set 2 a2 a3 I = (inR a2 0 ((nc : Int) - 1) && inR a3 0 1) := by rw [← e4]; rfl
      cases hq : inR a2 0 ((nc : Int) - 1) with
      | false =>
        rw [hq] at k; rw [k]
        exact sg_X12_set_59 _ _ _ _ (fun _ => ⟨rfl, rfl⟩) (fun z => absurd rfl z)
      | true =>
        obtain ⟨j, rfl, hj⟩ := i_of hq
        refine sg_X12_set_59 _ _ _ _ (fun z => absurd z (by decide)) (fun _ => ⟨_, sp_isIn _ _ _, ?_⟩)
        rintro _ _ ⟨rfl, rfl⟩
        rw [show ((0 : Int32).toInt) = 0 from rfl, show ((1 : Int32).toInt) = 1 from by decide]
        cases h3 : inR a3 0 1 with
        | false =>
          rw [hq, h3] at k; rw [k]
          exact sg_X12_set_68 _ _ _ _ (fun _ => ⟨rfl, rfl⟩) (fun z => absurd rfl z)
        | true =>
          rw [hq, h3] at k; rw [k]
          simp only [Bool.and_self, if_true]
          refine sg_X12_set_68 _ _ _ _ (fun z => absurd z (by decide)) (fun _ => ⟨_, sp_gives 11 rfl (by omega) (by decide), ?_⟩)
          rintro _ _ ⟨rfl, rfl⟩
          refine sg_X12_set_79 _ _ _ ⟨rfl, ?_⟩
          simp only [mw_set]
          rw [if_neg (by decide), if_neg (by decide), nI_clamp (by omega), show 331 + 14 * j = 320 + 14 * j + 11 by omega]
    · subst e
      rintro _ _ ⟨rfl, rfl⟩
      rw [show ((0 : Int32).toInt) = 0 from rfl, show ((1 : Int32).toInt) = 1 from by decide]
      cases h3 : inR a3 0 1 with
      | false =>
        have k : ok_set 1 a2 a3 I = false := h3
        rw [k]
        exact sg_X12_set_36 _ _ _ _ (fun _ _ => ⟨rfl, rfl⟩) (fun _ z => absurd z (by decide)) (fun z => absurd rfl z)
      | true =>
        have k : ok_set 1 a2 a3 I = true := h3
        rw [k]
        exact sg_X12_set_36 _ _ _ _ (fun z => absurd z (by decide)) (fun z => absurd z (by decide)) (fun _ => ⟨rfl, rfl⟩)
    · subst e
      rintro _ _ ⟨rfl, rfl⟩
      rw [show ((-1 : Int32).toInt) = -1 from by decide, show ((999 : Int32).toInt) = 999 from by decide]
      cases h3 : inR a3 (-1) 999 with
      | false =>
        have k : ok_set 0 a2 a3 I = false := h3
        rw [k]
        exact sg_X12_set_12 _ _ _ _ (fun _ _ _ => ⟨rfl, rfl⟩) (fun _ _ z => absurd z (by decide)) (fun _ z => absurd z (by decide)) (fun z => absurd rfl z)
      | true =>
        have k : ok_set 0 a2 a3 I = true := h3
        rw [k]
        exact sg_X12_set_12 _ _ _ _ (fun z => absurd z (by decide)) (fun z => absurd z (by decide)) (fun z => absurd z (by decide)) (fun _ => ⟨rfl, rfl⟩)
  · cases kf : ok_set a1 a2 a3 I with
    | false => simpa using hs
    | true =>
      simp only [if_true]
      obtain ⟨nb, now, nl, nc, no, ni, nk, hp, g1, g2, g3, g4, g5⟩ := hs.2.1
      have c4 : I 8 9 = nI nc := g1.2.1.2.2.2.1
      have s5 := g1.1.2.2.2.2.1
      have e4 : (I 8 9).toInt = nc := by rw [c4]; exact nI_toInt (by omega)
      unfold ok_set at kf
      unfold mw_set cw_set
      split at kf
      · rename_i h0
        subst h0
        simp only [if_true]
        have rI : ∀ a, a ≠ 1 ∧ a ≠ 121 → mx_set (mx_set I 1 6 a3) 121 4 a3 a = I a := fun a h => by rw [ms_ne h.2, ms_ne h.1]
        refine hs.world hs.1 ?_ (by rw [rI 0 (by omega)]) (fun a h1 h2 => rI a (by omega)) (rI _ (by omega)) (rI _ (by omega)) (rI _ (by omega)) (rI _ (by omega)) (fun j _ => by rw [rI 120 (by omega)])
        exact Rel.toll g1 g2 g3 g4 g5 (inRb kf) rI (fun j hj => by rw [ms_ne (by decide), ms_self, upd_ne hj]) (by rw [ms_ne (by decide), ms_self, upd_eq]) (fun k hk => by rw [ms_self, upd_ne hk, ms_ne (by decide)]) (by rw [ms_self, upd_eq])
      · rename_i n0
        split at kf
        · rename_i h1
          subst h1
          simp only [if_neg n0, if_true]
          have rI : ∀ a, a ≠ 1 ∧ a ≠ 121 → mx_set (mx_set I 1 7 a3) 121 5 a3 a = I a := fun a h => by rw [ms_ne h.2, ms_ne h.1]
          refine hs.world hs.1 ?_ (by rw [rI 0 (by omega)]) (fun a h1 h2 => rI a (by omega)) (rI _ (by omega)) (rI _ (by omega)) (rI _ (by omega)) (rI _ (by omega)) (fun j _ => by rw [rI 120 (by omega)])
          exact Rel.strict g1 g2 g3 g4 g5 (inRb kf) rI (fun j hj => by rw [ms_ne (by decide), ms_self, upd_ne hj]) (by rw [ms_ne (by decide), ms_self, upd_eq]) (fun k hk => by rw [ms_self, upd_ne hk, ms_ne (by decide)]) (by rw [ms_self, upd_eq])
        · rename_i n1
          split at kf
          · simp only [if_neg n0, if_neg n1]
            rw [Bool.and_eq_true, e4] at kf
            obtain ⟨j, rfl, hj⟩ := i_of kf.1
            rw [nI_clamp (by omega)]
            have rI : ∀ a, a ≠ 17 ∧ a ≠ 121 → mx_set (mx_set I 17 j a3) 121 (331 + 14 * j) a3 a = I a := fun a h => by rw [ms_ne h.2, ms_ne h.1]
            refine hs.world hs.1 ?_ (by rw [rI 0 (by omega)]) (fun a h1 h2 => rI a (by omega)) (rI _ (by omega)) (rI _ (by omega)) (rI _ (by omega)) (rI _ (by omega)) (fun j _ => by rw [rI 120 (by omega)])
            exact Rel.maybe g1 g2 g3 g4 g5 (k := j) (by omega) (inRb kf.2) rI (fun i hi => by rw [ms_ne (by decide), ms_self, upd_ne hi]) (by rw [ms_ne (by decide), ms_self, upd_eq]) (fun i hi => by rw [ms_self, upd_ne hi, ms_ne (by decide)]) (by rw [ms_self, upd_eq])
          · exact absurd kf (by decide)
