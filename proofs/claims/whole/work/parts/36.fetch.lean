/-! fetch, kind -/
def ok_fetch (a1 a2 a3 : Int32) (I : mx_I) : Bool := inR a1 0 ((I 2 5).toInt - 1) && (decide (a2 = -1) || (inR a2 0 (I 1 5).toInt && inR a3 (I 33 9).toInt 167))
def cw_fetch (a1 a2 a3 : Int32) (I : mx_I) : mx_I := if a2 = -1 then mx_set I 6 a1.toNatClampNeg (-1) else mx_set (mx_set I 6 a1.toNatClampNeg a2) 7 a1.toNatClampNeg a3
def mw_fetch (a1 a2 a3 : Int32) (I : mx_I) : mx_I := mx_set (mx_set I 121 (23 + 10 * a1.toNatClampNeg) a2) 121 (24 + 10 * a1.toNatClampNeg) (if a2 = -1 then -1 else a3)
theorem inR_m1 (hi : Int) : inR (-1) 0 hi = false := by
  refine inR_f.mpr (fun h => ?_)
  have := h.1
  rw [show ((-1 : Int32).toInt) = -1 from by decide] at this
  omega
set_option maxHeartbeats 1000000 in
theorem p_fetch {l : Launch} (a1 a2 a3 : Int32) : mx_PrI l Sim mX11_fetch mX12_fetch [.int a1, .int a2, .int a3] := by
  refine pr_upd (fun _ I => b2i (ok_fetch a1 a2 a3 I)) (fun _ I => if ok_fetch a1 a2 a3 I = true then cw_fetch a1 a2 a3 I else I) (fun _ I => if ok_fetch a1 a2 a3 I = true then mw_fetch a1 a2 a3 (cw_fetch a1 a2 a3 I) else I) (fun c I hs => ?_) (fun c I hs => ?_) (fun c I hs => ?_)
  · obtain ⟨nb, now, nl, nc, no, ni, nk, hp, ⟨⟨s1, s2, s3, s4, -⟩, ⟨c1, c2, c3, -⟩, -⟩, -⟩ := hs.2.1
    have c3 : I 2 5 = nI nl := c3
    have e1 : (I 1 5).toInt = nb := by rw [c1]; exact nI_toInt (by omega)
    have e2 : (I 33 9).toInt = now := by rw [c2]; exact nI_toInt (by omega)
    have e3 : (I 2 5).toInt = nl := by rw [c3]; exact nI_toInt (by omega)
    simp only [ok_fetch, e1, e2, e3]
    refine sn_X11_fetch a1 a2 a3 ⟨_, sp_hasL a1 c3 s4, ?_⟩
    rintro _ _ ⟨rfl, rfl⟩
    cases h1 : inR a1 0 ((nl : Int) - 1) with
    | false => exact sg_X11_fetch_11 _ _ _ _ (fun z => absurd rfl z) (fun z => absurd rfl z) (fun z => absurd rfl z) (fun _ => ⟨rfl, rfl⟩)
    | true =>
      obtain ⟨j, hj0, hj⟩ := i_of h1
      have hv : vp_in a1 30 := by rw [hj0]; exact i_vp (by omega) (by omega)
      refine sg_X11_fetch_11 _ _ _ _ (fun _ n2 => ⟨_, sp_hasEnd a2 c1 s2, ?_⟩) (fun _ _ => hv) (fun _ e => ?_) (fun z => absurd z (by decide))
      · rintro _ _ ⟨rfl, rfl⟩
        rw [decide_eq_false n2]
        cases h2 : inR a2 0 nb with
        | false => exact sg_X11_fetch_44 _ _ _ _ (fun _ => ⟨rfl, rfl⟩) (fun z => absurd rfl z)
        | true =>
          refine sg_X11_fetch_44 _ _ _ _ (fun z => absurd z (by decide)) (fun _ => ⟨_, sp_isAhead a3 c2 s3, ?_⟩)
          rintro _ _ ⟨rfl, rfl⟩
          cases h3 : inR a3 now 167 with
          | false => exact sg_X11_fetch_52 _ _ _ _ (fun z => absurd rfl z) (fun z => absurd rfl z) (fun z => absurd rfl z) (fun _ => ⟨rfl, rfl⟩)
          | true => exact sg_X11_fetch_52 _ _ _ _ (fun _ => hv) (fun _ => hv) (fun _ => ⟨rfl, by simp [cw_fetch, n2]⟩) (fun z => absurd z (by decide))
      · subst e
        exact ⟨rfl, rfl⟩
  · obtain ⟨nb, now, nl, nc, no, ni, nk, hp, ⟨⟨s1, s2, s3, s4, -⟩, ⟨c1, c2, c3, -⟩, ⟨d1, d2, d3, -⟩, -⟩, -⟩ := hs.2.1
    have c3 : I 2 5 = nI nl := c3
    have e1 : (I 1 5).toInt = nb := by rw [c1]; exact nI_toInt (by omega)
    have e2 : (I 33 9).toInt = now := by rw [c2]; exact nI_toInt (by omega)
    have e3 : (I 2 5).toInt = nl := by rw [c3]; exact nI_toInt (by omega)
    have z0 : ∀ j, (if ok_fetch a1 a2 a3 I = true then cw_fetch a1 a2 a3 I else I) 121 j = I 121 j := fun j => by
      split
      · unfold cw_fetch; split
        · rw [ms_ne (by decide)]
        · rw [ms_ne (by decide), ms_ne (by decide)]
      · rfl
    have kk : ok_fetch a1 a2 a3 I = (inR a1 0 ((nl : Int) - 1) && (decide (a2 = -1) || (inR a2 0 nb && inR a3 now 167))) := by simp only [ok_fetch, e1, e2, e3]
    refine sn_X12_fetch a1 a2 a3 ⟨_, sp_isLoad a1 ((z0 2).trans d3) s4, ?_⟩
    rintro _ _ ⟨rfl, rfl⟩
    cases h1 : inR a1 0 ((nl : Int) - 1) with
    | false =>
      rw [h1] at kk; rw [kk]
      exact sg_X12_fetch_5 _ _ _ _ (fun _ => ⟨rfl, rfl⟩) (fun z => absurd rfl z) (fun z => absurd rfl z)
    | true =>
      obtain ⟨j, rfl, hj⟩ := i_of h1
      have hj30 : j < 30 := by omega
      refine sg_X12_fetch_5 _ _ _ _ (fun z => absurd z (by decide)) (fun _ e => ⟨_, sp_loads 3 rfl hj30 (by decide), ?_⟩) (fun _ n2 => ⟨_, sp_isEnd a2 ((z0 0).trans d1) s2, ?_⟩)
      · subst e
        have k : ok_fetch (nI j) (-1) a3 I = true := by rw [kk, h1]; rfl
        rw [k]
        rintro _ _ ⟨rfl, rfl⟩
        refine sg_X12_fetch_38 _ _ _ (fun z => absurd rfl z) (fun _ => ⟨_, sp_loads 4 rfl hj30 (by decide), ?_⟩)
        rintro _ _ ⟨rfl, rfl⟩
        refine sg_X12_fetch_54 _ _ _ ⟨rfl, ?_⟩
        simp only [mw_fetch, if_true, nI_clamp (show j < 2 ^ 31 by omega)]
        rw [show 23 + 10 * j = 20 + 10 * j + 3 by omega, show 24 + 10 * j = 20 + 10 * j + 4 by omega]
      · rintro _ _ ⟨rfl, rfl⟩
        cases h2 : inR a2 0 nb with
        | false =>
          have k : ok_fetch (nI j) a2 a3 I = false := by rw [kk, h1, h2, decide_eq_false n2]; rfl
          rw [k]
          exact sg_X12_fetch_18 _ _ _ _ (fun _ => ⟨rfl, rfl⟩) (fun z => absurd rfl z)
        | true =>
          refine sg_X12_fetch_18 _ _ _ _ (fun z => absurd z (by decide)) (fun _ => ⟨_, sp_isHour a3 ((z0 1).trans d2) s3, ?_⟩)
          rintro _ _ ⟨rfl, rfl⟩
          cases h3 : inR a3 now 167 with
          | false =>
            have k : ok_fetch (nI j) a2 a3 I = false := by rw [kk, h1, h2, h3, decide_eq_false n2]; rfl
            rw [k]
            exact sg_X12_fetch_26 _ _ _ _ (fun z => absurd rfl z) (fun _ => ⟨rfl, rfl⟩)
          | true =>
            have k : ok_fetch (nI j) a2 a3 I = true := by rw [kk, h1, h2, h3, decide_eq_false n2]; rfl
            rw [k]
            refine sg_X12_fetch_26 _ _ _ _ (fun _ => ⟨_, sp_loads 3 rfl hj30 (by decide), ?_⟩) (fun z => absurd z (by decide))
            rintro _ _ ⟨rfl, rfl⟩
            refine sg_X12_fetch_38 _ _ _ (fun _ => ⟨_, sp_loads 4 rfl hj30 (by decide), ?_⟩) (fun z => absurd z n2)
            rintro _ _ ⟨rfl, rfl⟩
            refine sg_X12_fetch_54 _ _ _ ⟨rfl, ?_⟩
            simp only [mw_fetch, if_true, if_neg n2, nI_clamp (show j < 2 ^ 31 by omega)]
            rw [show 23 + 10 * j = 20 + 10 * j + 3 by omega, show 24 + 10 * j = 20 + 10 * j + 4 by omega]
  · cases kf : ok_fetch a1 a2 a3 I with
    | false => simpa using hs
    | true =>
      simp only [if_true]
      obtain ⟨nb, now, nl, nc, no, ni, nk, hp, g1, g2, g3, g4, g5⟩ := hs.2.1
      have c3 : I 2 5 = nI nl := g1.2.1.2.2.1
      have s4 := g1.1.2.2.2.1
      have e1 : (I 1 5).toInt = nb := by rw [g1.2.1.1]; exact nI_toInt (by have := g1.1.2.1; omega)
      have e2 : (I 33 9).toInt = now := by rw [g1.2.1.2.1]; exact nI_toInt (by have := g1.1.2.2.1; omega)
      have e3 : (I 2 5).toInt = nl := by rw [c3]; exact nI_toInt (by omega)
      simp only [ok_fetch, e1, e2, e3, Bool.and_eq_true, Bool.or_eq_true, decide_eq_true_eq] at kf
      obtain ⟨h1, h2⟩ := kf
      obtain ⟨j, rfl, hj⟩ := i_of h1
      have cj : (nI j).toNatClampNeg = j := nI_clamp (by omega)
      simp only [mw_fetch, cw_fetch, cj]
      have q1 : (-1 : Int32).toInt = -1 := by decide
      have hx : bnd a2 (-1) nb := by
        rcases h2 with rfl | ⟨h2, -⟩
        · exact ⟨by rw [q1]; omega, by rw [q1]; omega⟩
        · have := inRb h2; exact ⟨by have := this.1; omega, this.2⟩
      have hy : a2 = -1 ∨ bnd a3 0 167 := by
        rcases h2 with h2 | ⟨-, h3⟩
        · exact Or.inl h2
        · have := inRb h3; exact Or.inr ⟨by have := this.1; omega, this.2⟩
      by_cases n2 : a2 = -1
      · subst n2
        simp only [if_true]
        have rI : ∀ a, a ≠ 6 ∧ a ≠ 7 ∧ a ≠ 121 → mx_set (mx_set (mx_set I 6 j (-1)) 121 (23 + 10 * j) (-1)) 121 (24 + 10 * j) (-1) a = I a := fun a h => by rw [ms_ne h.2.2, ms_ne h.2.2, ms_ne h.1]
        refine hs.world hs.1 ?_ (by rw [rI 0 (by omega)]) (fun a h1 h2 => rI a (by omega)) (rI _ (by omega)) (rI _ (by omega)) (rI _ (by omega)) (rI _ (by omega)) (fun j _ => by rw [rI 120 (by omega)])
        exact Rel.fetch g1 g2 g3 g4 g5 (k := j) (x := -1) (y := 0) (by omega) hx (Or.inl rfl) rI (fun i hi => by rw [ms_ne (by decide), ms_ne (by decide), ms_self, upd_ne hi]) (by rw [ms_ne (by decide), ms_ne (by decide), ms_self, upd_eq]) (fun i hi => by rw [ms_ne (by decide), ms_ne (by decide), ms_ne (by decide)]) (by rw [ms_ne (by decide), ms_ne (by decide), ms_ne (by decide), if_pos rfl]) (fun i h3 h4 => by rw [ms_self, upd_ne h4, ms_self, upd_ne h3, ms_ne (by decide)]) (by rw [ms_self, upd_ne (by omega), ms_self, upd_eq]) (Or.inl rfl)
      · simp only [if_neg n2]
        have rI : ∀ a, a ≠ 6 ∧ a ≠ 7 ∧ a ≠ 121 → mx_set (mx_set (mx_set (mx_set I 6 j a2) 7 j a3) 121 (23 + 10 * j) a2) 121 (24 + 10 * j) a3 a = I a := fun a h => by rw [ms_ne h.2.2, ms_ne h.2.2, ms_ne h.2.1, ms_ne h.1]
        refine hs.world hs.1 ?_ (by rw [rI 0 (by omega)]) (fun a h1 h2 => rI a (by omega)) (rI _ (by omega)) (rI _ (by omega)) (rI _ (by omega)) (rI _ (by omega)) (fun j _ => by rw [rI 120 (by omega)])
        exact Rel.fetch g1 g2 g3 g4 g5 (k := j) (x := a2) (y := a3) (by omega) hx hy rI (fun i hi => by rw [ms_ne (by decide), ms_ne (by decide), ms_ne (by decide), ms_self, upd_ne hi]) (by rw [ms_ne (by decide), ms_ne (by decide), ms_ne (by decide), ms_self, upd_eq]) (fun i hi => by rw [ms_ne (by decide), ms_ne (by decide), ms_self, upd_ne hi, ms_ne (by decide)]) (by rw [ms_ne (by decide), ms_ne (by decide), ms_self, upd_eq, if_neg n2]) (fun i h3 h4 => by rw [ms_self, upd_ne h4, ms_self, upd_ne h3, ms_ne (by decide), ms_ne (by decide)]) (by rw [ms_self, upd_ne (by omega), ms_self, upd_eq]) (Or.inr (by rw [ms_self, upd_eq]))
/-! kind -/
def can_f (I : mx_I) (nc : Int) (a b : Int32) : Bool := inR b 0 (nc - 1) && !decide (a = b) && decide (I 10 a.toNatClampNeg = I 10 b.toNatClampNeg) && decide (I 11 a.toNatClampNeg = I 11 b.toNatClampNeg)
theorem sp_canFollow {l : Launch} {d c : Nat} {I : mx_I} (a b : Int32) {n : Nat} (hn : I 8 9 = nI n) (h20 : n ≤ 20) (ha : inR a 0 ((n : Int) - 1) = true) : mx_Spec l mX2_canFollow (d + 2) 0 0 [.ref 8, .int a, .int b] (sk0 c, I) (fun r h' => r = some (.int (b2i (can_f I n a b))) ∧ h' = (sk0 c, I)) := by
  obtain ⟨k, hk0, hk⟩ := i_of ha
  have hv : vp_in a 20 := by rw [hk0]; exact i_vp (by omega) (by omega)
  refine sn_X2_canFollow a b ⟨_, sp_hasC a hn h20, ?_⟩
  rintro _ _ ⟨rfl, rfl⟩
  rw [ha]
  refine sg_X2_canFollow_5 _ _ _ (fun z => absurd z (by decide)) (fun _ => ⟨_, sp_hasC b hn h20, ?_⟩)
  rintro _ _ ⟨rfl, rfl⟩
  cases hb : inR b 0 ((n : Int) - 1) with
  | false => exact sg_X2_canFollow_13 _ _ _ (fun _ => ⟨by simp [can_f, hb, b2i], rfl⟩) (fun z => absurd rfl z) (fun z => absurd rfl z) (fun z => absurd rfl z) (fun z => absurd rfl z) (fun z => absurd rfl z) (fun z => absurd rfl z) (fun z => absurd rfl z) (fun z => absurd rfl z)
  | true =>
    obtain ⟨k2, hk20, hk2⟩ := i_of hb
    have hv2 : vp_in b 20 := by rw [hk20]; exact i_vp (by omega) (by omega)
    exact sg_X2_canFollow_13 _ _ _ (fun z => absurd z (by decide)) (fun _ e => ⟨by simp [can_f, e, b2i], rfl⟩) (fun _ _ => hv) (fun _ _ => hv2) (fun _ e1 e2 => ⟨by simp [can_f, e2, b2i], rfl⟩) (fun _ _ _ => hv) (fun _ _ _ => hv2) (fun _ e1 e2 e3 => ⟨by simp [can_f, e3, b2i], rfl⟩) (fun _ e1 e2 e3 => ⟨by simp [can_f, e1, e2, e3, hb, b2i], rfl⟩)
theorem sp_tellKind {l : Launch} {d c : Nat} {I : mx_I} (a b e : Int32) {n : Nat} (hn : I 8 9 = nI n) (h20 : n ≤ 20) (ha : inR a 0 ((n : Int) - 1) = true) : mx_Spec l mX2_tellKind (d + 2) 0 0 [.ref 8, .int a, .int b, .int e] (sk0 c, I) (fun r h' => r = none ∧ h' = (sk0 c, mx_set (mx_set I 15 a.toNatClampNeg b) 16 a.toNatClampNeg e)) := by
  obtain ⟨k, hk0, hk⟩ := i_of ha
  have hv : vp_in a 20 := by rw [hk0]; exact i_vp (by omega) (by omega)
  refine sn_X2_tellKind a b e ⟨_, sp_hasC a hn h20, ?_⟩
  rintro _ _ ⟨rfl, rfl⟩
  rw [ha]
  exact sg_X2_tellKind_5 _ _ _ _ (fun z => absurd z (by decide)) (fun _ => hv) (fun _ => hv) (fun _ => ⟨rfl, rfl⟩)
def ok_kind (a1 a2 a3 : Int32) (I : mx_I) : Bool := inR a1 0 ((I 8 9).toInt - 1) && decide (I 40 a1.toNatClampNeg = -1) && (decide (a2 = 0) || (decide (a2 = 1) && inR a3 0 24) || (decide (a2 = 2) && can_f I (I 8 9).toInt a1 a3))
def cw_kind (a1 a2 a3 : Int32) (I : mx_I) : mx_I := mx_set (mx_set I 15 a1.toNatClampNeg a2) 16 a1.toNatClampNeg (if a2 = 0 then 0 else a3)
def mw_kind (a1 a2 a3 : Int32) (I : mx_I) : mx_I := mx_set (mx_set I 121 (326 + 14 * a1.toNatClampNeg) a2) 121 (327 + 14 * a1.toNatClampNeg) (if a2 = 0 then 0 else a3)
set_option maxHeartbeats 1000000 in
theorem p_kind {l : Launch} (a1 a2 a3 : Int32) : mx_PrI l Sim mX11_kind mX12_kind [.int a1, .int a2, .int a3] := by
  refine pr_upd (fun _ I => b2i (ok_kind a1 a2 a3 I)) (fun _ I => if ok_kind a1 a2 a3 I = true then cw_kind a1 a2 a3 I else I) (fun _ I => if ok_kind a1 a2 a3 I = true then mw_kind a1 a2 a3 (cw_kind a1 a2 a3 I) else I) (fun c I hs => ?_) (fun c I hs => ?_) (fun c I hs => ?_)
  · obtain ⟨nb, now, nl, nc, no, ni, nk, hp, ⟨⟨s1, s2, s3, s4, s5, -⟩, ⟨c1, c2, c3, c4, -⟩, -⟩, -⟩ := hs.2.1
    have c4 : I 8 9 = nI nc := c4
    have e4 : (I 8 9).toInt = nc := by rw [c4]; exact nI_toInt (by omega)
    simp only [ok_kind, e4]
    refine sn_X11_kind a1 a2 a3 ⟨_, sp_hasC a1 c4 s5, ?_⟩
    rintro _ _ ⟨rfl, rfl⟩
    cases h1 : inR a1 0 ((nc : Int) - 1) with
    | false => exact sg_X11_kind_15 _ _ _ _ (fun _ => ⟨rfl, rfl⟩) (fun z => absurd rfl z) (fun z => absurd rfl z) (fun z => absurd rfl z) (fun z => absurd rfl z) (fun z => absurd rfl z) (fun z => absurd rfl z) (fun z => absurd rfl z) (fun z => absurd rfl z) (fun z => absurd rfl z) (fun z => absurd rfl z)
    | true =>
      obtain ⟨j, hj0, hj⟩ := i_of h1
      have hv : vp_in a1 20 := by rw [hj0]; exact i_vp (by omega) (by omega)
      refine sg_X11_kind_15 _ _ _ _ (fun z => absurd z (by decide)) (fun _ => hv) (fun _ e n0 n1 n2 => ⟨by simp [e, n0, n1, n2, b2i], by simp [e, n0, n1, n2]⟩) (fun _ e n0 n1 q2 => ⟨_, sp_canFollow a1 a3 c4 s5 h1, ?_⟩) (fun _ e n0 q1 g n2 => ?_) (fun _ e n0 q1 g q2 => absurd (q1.symm.trans q2) (by decide)) (fun _ e n0 q1 g g2 => ⟨_, sp_tellKind a1 a2 a3 c4 s5 h1, ?_⟩) (fun _ e n0 q1 g g2 n2 => ?_) (fun _ e n0 q1 g g2 q2 => absurd (q1.symm.trans q2) (by decide)) (fun _ e q0 => ⟨_, sp_tellKind a1 0 0 c4 s5 h1, ?_⟩) (fun _ e => ⟨by simp [e, b2i], by simp [e]⟩)
      · rintro _ _ ⟨rfl, rfl⟩
        cases hc : can_f I nc a1 a3 with
        | false => exact sg_X11_kind_74 _ _ _ _ (fun _ => ⟨by simp [e, q2, b2i], by simp [e, q2]⟩) (fun z => absurd rfl z)
        | true =>
          refine sg_X11_kind_74 _ _ _ _ (fun z => absurd z (by decide)) (fun _ => ⟨_, sp_tellKind a1 a2 a3 c4 s5 h1, ?_⟩)
          rintro _ _ ⟨rfl, rfl⟩
          exact sg_X11_kind_97 _ _ _ _ ⟨by simp [e, q2, b2i], by simp [e, q2, cw_kind]⟩ (Or.inr rfl)
      · have g' : a3.toInt < 0 := (i_lt _ _).mp g
        have k : inR a3 0 24 = false := inR_f.mpr (by omega)
        exact ⟨by simp [e, q1, k, b2i], by simp [e, q1, k]⟩
      · rintro _ _ ⟨rfl, rfl⟩
        have g' : ¬ a3.toInt < 0 := fun z => g ((i_lt _ _).mpr z)
        have g2' : a3.toInt ≤ 24 := (i_le _ _).mp g2
        have k : inR a3 0 24 = true := inR_t.mpr (by omega)
        exact sg_X11_kind_97 _ _ _ _ ⟨by simp [e, q1, k, b2i], by simp [e, q1, k, cw_kind]⟩ (Or.inr rfl)
      · have g2' : ¬ a3.toInt ≤ 24 := fun z => g2 ((i_le _ _).mpr z)
        have k : inR a3 0 24 = false := inR_f.mpr (by omega)
        exact ⟨by simp [e, q1, k, b2i], by simp [e, q1, k]⟩
      · rintro _ _ ⟨rfl, rfl⟩
        exact sg_X11_kind_45 _ _ _ ⟨by simp [e, q0, b2i], by simp [e, q0, cw_kind]⟩
  · obtain ⟨nb, now, nl, nc, no, ni, nk, hp, ⟨⟨s1, s2, s3, s4, s5, -⟩, ⟨c1, c2, c3, c4, -⟩, ⟨d1, d2, d3, d4, -⟩, -⟩, ⟨-, -, -, t4, t5, -⟩, -⟩ := hs.2.1
    have c4 : I 8 9 = nI nc := c4
    have e4 : (I 8 9).toInt = nc := by rw [c4]; exact nI_toInt (by omega)
    have z0 : ∀ j, (if ok_kind a1 a2 a3 I = true then cw_kind a1 a2 a3 I else I) 121 j = I 121 j := fun j => by
      split
      · unfold cw_kind; rw [ms_ne (by decide), ms_ne (by decide)]
      · rfl
    have kk : ok_kind a1 a2 a3 I = (inR a1 0 ((nc : Int) - 1) && decide (I 40 a1.toNatClampNeg = -1) && (decide (a2 = 0) || (decide (a2 = 1) && inR a3 0 24) || (decide (a2 = 2) && can_f I nc a1 a3))) := by simp only [ok_kind, e4]
    refine sn_X12_kind a1 a2 a3 ⟨_, sp_isOne a1 ((z0 3).trans d4) s5, ?_⟩
    rintro _ _ ⟨rfl, rfl⟩
    cases h1 : inR a1 0 ((nc : Int) - 1) with
    | false =>
      rw [h1] at kk; rw [kk]
      exact sg_X12_kind_5 _ _ _ _ (fun _ => ⟨rfl, rfl⟩) (fun z => absurd rfl z)
    | true =>
      obtain ⟨j, rfl, hj⟩ := i_of h1
      have cj : (nI j).toNatClampNeg = j := nI_clamp (by omega)
      have hj20 : j < 20 := by omega
      have hjc : j < nc := by omega
      rw [cj, h1] at kk
      have w8 : I 121 (320 + 14 * j + 8) = I 40 j := by rw [show 320 + 14 * j + 8 = 328 + 14 * j + 0 by omega]; exact t5 j hjc 0 (by decide)
      refine sg_X12_kind_5 _ _ _ _ (fun z => absurd z (by decide)) (fun _ => ⟨_, sp_ofOne 8 rfl hj20 (by decide), ?_⟩)
      rintro _ _ ⟨rfl, rfl⟩
      rw [z0, w8]
      refine sg_X12_kind_15 _ _ _ _ (fun ne => ?_) (fun eq => ⟨_, sp_isIn _ _ _, ?_⟩)
      · have k : ok_kind (nI j) a2 a3 I = false := by rw [kk]; simp [ne]
        rw [k]; exact ⟨rfl, rfl⟩
      · rintro _ _ ⟨rfl, rfl⟩
        rw [show ((0 : Int32).toInt) = 0 from rfl, show ((2 : Int32).toInt) = 2 from by decide]
        -- the end of a good one
        have fin : ok_kind (nI j) a2 a3 I = true → ∀ {d : Nat}, mx_Go l (mx_rm (d + 2) 0 0) mX12_kind (mx_Z (fun r h' => r = some (.int (b2i (ok_kind (nI j) a2 a3 I))) ∧ h' = (sk0 c, if ok_kind (nI j) a2 a3 I = true then mw_kind (nI j) a2 a3 (cw_kind (nI j) a2 a3 I) else I)) 0 0) 0 0 105 [.ref 120, .int (nI j), .int a2, .int a3] [] (sk0 c, mx_set (if ok_kind (nI j) a2 a3 I = true then cw_kind (nI j) a2 a3 I else I) 121 (320 + 14 * j + 6) a2) := by
          intro k d
          rw [k]
          simp only [if_true]
          refine sg_X12_kind_105 _ _ _ (fun n0 => ⟨_, sp_gives 7 rfl hj20 (by decide), ?_⟩) (fun q0 => ⟨_, sp_gives 7 rfl hj20 (by decide), ?_⟩)
          · rintro _ _ ⟨rfl, rfl⟩
            refine sg_X12_kind_121 _ _ _ ⟨rfl, ?_⟩
            simp only [mw_kind, cj, if_neg n0]
            rw [show 326 + 14 * j = 320 + 14 * j + 6 by omega, show 327 + 14 * j = 320 + 14 * j + 7 by omega]
          · rintro _ _ ⟨rfl, rfl⟩
            refine sg_X12_kind_121 _ _ _ ⟨rfl, ?_⟩
            simp only [mw_kind, cj, if_pos q0]
            rw [show 326 + 14 * j = 320 + 14 * j + 6 by omega, show 327 + 14 * j = 320 + 14 * j + 7 by omega]
        cases h2 : inR a2 0 2 with
        | false =>
          have h2' := inR_f.mp h2
          have n0 : ¬ a2 = 0 := fun z => h2' (by rw [z]; decide)
          have n1 : ¬ a2 = 1 := fun z => h2' (by rw [z]; decide)
          have n2 : ¬ a2 = 2 := fun z => h2' (by rw [z]; decide)
          have k : ok_kind (nI j) a2 a3 I = false := by rw [kk]; simp [n0, n1, n2]
          rw [k]
          exact sg_X12_kind_25 _ _ _ _ (fun z => absurd rfl z) (fun z => absurd rfl z) (fun z => absurd rfl z) (fun _ => ⟨rfl, rfl⟩)
        | true =>
          have h2' := inR_t.mp h2
          refine sg_X12_kind_25 _ _ _ _ (fun _ n1 n2 => ⟨_, sp_gives 6 rfl hj20 (by decide), ?_⟩) (fun _ n1 q2 => ⟨_, sp_isOne a3 ((z0 3).trans d4) s5, ?_⟩) (fun _ q1 => ⟨_, sp_isIn _ _ _, ?_⟩) (fun z => absurd z (by decide))
          · rintro _ _ ⟨rfl, rfl⟩
            have q0 : a2 = 0 := by
              have n1' : a2.toInt ≠ 1 := fun z => n1 ((i_eq _ _).mpr z)
              have n2' : a2.toInt ≠ 2 := fun z => n2 ((i_eq _ _).mpr z)
              exact (i_eq _ _).mpr (show a2.toInt = 0 by omega)
            exact fin (by rw [kk]; simp [eq, q0])
          · rintro _ _ ⟨rfl, rfl⟩
            have ko : ok_kind (nI j) a2 a3 I = can_f I nc (nI j) a3 := by rw [kk]; simp [eq, q2]
            cases h3 : inR a3 0 ((nc : Int) - 1) with
            | false =>
              have k : ok_kind (nI j) a2 a3 I = false := by rw [ko]; simp [can_f, h3]
              rw [k]
              exact sg_X12_kind_57 _ _ _ _ (fun _ => ⟨rfl, rfl⟩) (fun z => absurd rfl z) (fun z => absurd rfl z)
            | true =>
              obtain ⟨q, rfl, hq⟩ := i_of h3
              have cq : (nI q).toNatClampNeg = q := nI_clamp (by omega)
              have hq20 : q < 20 := by omega
              have hqc : q < nc := by omega
              refine sg_X12_kind_57 _ _ _ _ (fun z => absurd z (by decide)) (fun _ eq2 => ?_) (fun _ ne2 => ⟨_, sp_ofOne 1 rfl hq20 (by decide), ?_⟩)
              · have k : ok_kind (nI j) a2 (nI q) I = false := by rw [ko]; simp [can_f, eq2]
                rw [k]; exact ⟨rfl, rfl⟩
              · rintro _ _ ⟨rfl, rfl⟩
                refine sg_X12_kind_71 _ _ _ _ ⟨_, sp_ofOne 1 rfl hj20 (by decide), ?_⟩
                rintro _ _ ⟨rfl, rfl⟩
                rw [z0, z0, t4 q hqc 1 (by decide), t4 j hjc 1 (by decide)]
                have ne3 : ¬ nI j = nI q := fun z => ne2 z.symm
                refine sg_X12_kind_77 _ _ _ _ _ (fun nb2 => ?_) (fun eb => ⟨_, sp_ofOne 2 rfl hq20 (by decide), ?_⟩)
                · have nb3 : ¬ I 10 j = I 10 q := fun z => nb2 z.symm
                  have k : ok_kind (nI j) a2 (nI q) I = false := by rw [ko]; simp [can_f, cj, cq, nb3]
                  rw [k]; exact ⟨rfl, rfl⟩
                · rintro _ _ ⟨rfl, rfl⟩
                  refine sg_X12_kind_86 _ _ _ _ ⟨_, sp_ofOne 2 rfl hj20 (by decide), ?_⟩
                  rintro _ _ ⟨rfl, rfl⟩
                  rw [z0, z0, t4 q hqc 2 (by decide), t4 j hjc 2 (by decide)]
                  have eb3 : I 10 j = I 10 q := eb.symm
                  refine sg_X12_kind_92 _ _ _ _ _ (fun ew => ⟨_, sp_gives 6 rfl hj20 (by decide), ?_⟩) (fun nw => ?_)
                  · rintro _ _ ⟨rfl, rfl⟩
                    have ew3 : I 11 j = I 11 q := ew.symm
                    exact fin (by rw [ko]; simp [can_f, cj, cq, eb3, ew3, h3, ne3])
                  · have nw3 : ¬ I 11 j = I 11 q := fun z => nw z.symm
                    have k : ok_kind (nI j) a2 (nI q) I = false := by rw [ko]; simp [can_f, cj, cq, nw3]
                    rw [k]; exact ⟨rfl, rfl⟩
          · rintro _ _ ⟨rfl, rfl⟩
            rw [show ((0 : Int32).toInt) = 0 from rfl, show ((24 : Int32).toInt) = 24 from by decide]
            cases h3 : inR a3 0 24 with
            | false =>
              have k : ok_kind (nI j) a2 a3 I = false := by rw [kk]; simp [q1, h3]
              rw [k]
              exact sg_X12_kind_42 _ _ _ _ (fun z => absurd rfl z) (fun z => absurd rfl z) (fun _ => ⟨rfl, rfl⟩)
            | true =>
              refine sg_X12_kind_42 _ _ _ _ (fun _ n2 => ⟨_, sp_gives 6 rfl hj20 (by decide), ?_⟩) (fun _ z => absurd (q1.symm.trans z) (by decide)) (fun z => absurd z (by decide))
              rintro _ _ ⟨rfl, rfl⟩
              exact fin (by rw [kk]; simp [eq, q1, h3])
  · cases kf : ok_kind a1 a2 a3 I with
    | false => simpa using hs
    | true =>
      simp only [if_true]
      obtain ⟨nb, now, nl, nc, no, ni, nk, hp, g1, g2, g3, g4, g5⟩ := hs.2.1
      have c4 : I 8 9 = nI nc := g1.2.1.2.2.2.1
      have s5 := g1.1.2.2.2.2.1
      have e4 : (I 8 9).toInt = nc := by rw [c4]; exact nI_toInt (by omega)
      simp only [ok_kind, e4, Bool.and_eq_true, Bool.or_eq_true, decide_eq_true_eq] at kf
      obtain ⟨⟨h1, h2⟩, h3⟩ := kf
      obtain ⟨j, rfl, hj⟩ := i_of h1
      have cj : (nI j).toNatClampNeg = j := nI_clamp (by omega)
      simp only [mw_kind, cw_kind, cj]
      have hx : bnd a2 0 2 := by
        rcases h3 with (rfl | ⟨rfl, -⟩) | ⟨rfl, -⟩
        · exact ⟨by decide, by decide⟩
        · exact ⟨by decide, by decide⟩
        · exact ⟨by decide, by decide⟩
      have hy : bnd (if a2 = 0 then 0 else a3) 0 24 ∧ (a2.toInt = 2 → (if a2 = 0 then (0 : Int32) else a3).toInt < nc) := by
        rcases h3 with (rfl | ⟨rfl, q⟩) | ⟨rfl, q⟩
        · rw [if_pos rfl]
          exact ⟨⟨by decide, by decide⟩, fun z => absurd z (by decide)⟩
        · exact ⟨inRb q, fun z => absurd z (by decide)⟩
        · simp only [can_f, Bool.and_eq_true] at q
          have := inRb q.1.1.1
          rw [if_neg (by decide)]
          exact ⟨⟨this.1, by have := this.2; omega⟩, fun _ => by have := this.2; omega⟩
      have rI : ∀ a, a ≠ 15 ∧ a ≠ 16 ∧ a ≠ 121 → mx_set (mx_set (mx_set (mx_set I 15 j a2) 16 j (if a2 = 0 then 0 else a3)) 121 (326 + 14 * j) a2) 121 (327 + 14 * j) (if a2 = 0 then 0 else a3) a = I a := fun a h => by rw [ms_ne h.2.2, ms_ne h.2.2, ms_ne h.2.1, ms_ne h.1]
      refine hs.world hs.1 ?_ (by rw [rI 0 (by omega)]) (fun a h1 h2 => rI a (by omega)) (rI _ (by omega)) (rI _ (by omega)) (rI _ (by omega)) (rI _ (by omega)) (fun j _ => by rw [rI 120 (by omega)])
      exact Rel.kind g1 g2 g3 g4 g5 (k := j) (x := a2) (y := if a2 = 0 then 0 else a3) (by omega) hx hy.1 hy.2 rI (fun i hi => by rw [ms_ne (by decide), ms_ne (by decide), ms_ne (by decide), ms_self, upd_ne hi]) (by rw [ms_ne (by decide), ms_ne (by decide), ms_ne (by decide), ms_self, upd_eq]) (fun i hi => by rw [ms_ne (by decide), ms_ne (by decide), ms_self, upd_ne hi, ms_ne (by decide)]) (by rw [ms_ne (by decide), ms_ne (by decide), ms_self, upd_eq]) (fun i h3 => by rw [ms_self, upd_ne h3.2, ms_self, upd_ne h3.1, ms_ne (by decide), ms_ne (by decide)]) (by rw [ms_self, upd_ne (by omega), ms_self, upd_eq]) (by rw [ms_self, upd_eq])
