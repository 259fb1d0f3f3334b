theorem sh_31 : ∀ n, n < 32 → ((nI n &&& 31).toBitVec.smod 32).toNat = n := by decide
theorem sh_top : ∀ n, n ≤ 30 → (((1 : Int32) <<< (nI n &&& 31)) - 1).toInt = 2 ^ n - 1 := by decide
theorem sh_small {k n : Nat} (hk : k < 2 ^ 31) (hn : n ≤ 30) : (nI k >>> (nI n &&& 31)) = 0 ↔ k < 2 ^ n := by
  rw [pk_shrN hk _ n (sh_31 n (by omega)), show (0 : Int32) = nI 0 from rfl, nI_eq (Nat.lt_of_le_of_lt (Nat.div_le_self _ _) hk) (by decide)]
  rw [Nat.div_eq_zero_iff]
  constructor
  · rintro (h | h)
    · exact absurd h (Nat.ne_of_gt (Nat.two_pow_pos n))
    · exact h
  · exact Or.inr
theorem i_cast2 (n : Nat) : ((2 ^ n : Nat) : Int) = (2 : Int) ^ n := by simp
theorem sp_hasAll {l : Launch} {d c : Nat} {I : mx_I} (a : Int32) {n : Nat} (hn : I 2 5 = nI n) (h30 : n ≤ 30) : mx_Spec l mX5_hasAll (d + 1) 0 0 [.ref 2, .int a] (sk0 c, I) (fun r h' => r = some (.int (b2i (inR a 0 (2 ^ n - 1)))) ∧ h' = (sk0 c, I)) := by
  have key : ¬ a < 0 → ((a >>> ((I 2 5) &&& 31)) = 0 ↔ inR a 0 (2 ^ n - 1) = true) := fun h => by
    have h' : ¬ a.toInt < 0 := fun z => h ((i_lt _ _).mpr z)
    obtain ⟨k, hk⟩ : ∃ k : Nat, a = nI k ∧ k < 2 ^ 31 := ⟨a.toInt.toNat, i_nat (by omega), by have := a.toInt_lt; omega⟩
    rw [hn, hk.1, sh_small hk.2 h30, inR_t, nI_toInt hk.2]
    have := i_cast2 n
    omega
  refine sn_X5_hasAll a (fun h => ⟨by rw [f_neg h]; rfl, rfl⟩) (fun h g => ⟨?_, rfl⟩) (fun h g => ⟨by rw [(key h).mp g]; rfl, rfl⟩)
  cases hq : inR a 0 (2 ^ n - 1) with
  | true => exact absurd ((key h).mpr hq) g
  | false => rfl
set_option maxHeartbeats 1000000 in
theorem p_list {l : Launch} (a1 a2 a3 : Int32) : mx_PrI l Sim mX11_list mX12_list [.int a1, .int a2, .int a3] := by
  refine pr_cases (fun c I hs => ?_)
  obtain ⟨nb, now, nl, nc, no, ni, nk, hp, g1, g2, g3, g4, g5⟩ := hs.2.1
  obtain ⟨⟨s1, s2, s3, s4, s5, s6, s7, -⟩, ⟨c1, c2, c3, c4, c5, c6, -⟩, ⟨d1, d2, d3, d4, d5, d6, -⟩, -⟩ := id g1
  have c3 : I 2 5 = nI nl := c3
  have c6 : I 24 3 = nI ni := c6
  have tl := sh_top nl s4
  cases h1 : inR a1 0 (167 : Int32).toInt with
  | false =>
    have h1' := inR_f.mp h1
    refine ⟨0, I, sn_X11_list _ _ _ (fun _ => ⟨rfl, rfl⟩) (fun _ _ => ⟨rfl, rfl⟩) (fun z1 z2 => ?_), sn_X12_list _ _ _ ⟨_, sp_isIn _ _ _, ?_⟩⟩
    · refine absurd ⟨?_, ?_⟩ h1'
      · have h' : ¬ a1.toInt < 0 := fun z => z1 ((i_lt _ _).mpr z)
        omega
      · have h' : ¬ (167 : Int32).toInt < a1.toInt := fun z => z2 ((i_lt _ _).mpr z)
        omega
    · rintro _ _ ⟨rfl, rfl⟩; rw [show ((0 : Int32).toInt) = 0 from rfl, h1]
      exact sg_X12_list_8 _ _ _ _ (fun _ => ⟨rfl, I, rfl, hs⟩) (fun z => absurd rfl z)
  | true =>
  have h1' := inR_t.mp h1
  have n0 : ¬ a1 < 0 := fun z => by have : a1.toInt < 0 := (i_lt _ _).mp z; omega
  have n1 : ¬ 167 < a1 := fun z => by have : (167 : Int32).toInt < a1.toInt := (i_lt _ _).mp z; omega
  cases h2 : inR a2 0 nb with
  | false =>
    refine ⟨0, I, sn_X11_list _ _ _ (fun z => absurd z n0) (fun _ z => absurd z n1) (fun _ _ => ⟨_, sp_hasEnd a2 c1 s2, ?_⟩), sn_X12_list _ _ _ ⟨_, sp_isIn _ _ _, ?_⟩⟩
    · rintro _ _ ⟨rfl, rfl⟩; rw [h2]; exact sg_X11_list_19 _ _ _ _ (fun _ => ⟨rfl, rfl⟩) (fun z => absurd rfl z)
    · rintro _ _ ⟨rfl, rfl⟩; rw [show ((0 : Int32).toInt) = 0 from rfl, h1]
      refine sg_X12_list_8 _ _ _ _ (fun z => absurd z (by decide)) (fun _ => ⟨_, sp_isEnd a2 d1 s2, ?_⟩)
      rintro _ _ ⟨rfl, rfl⟩; rw [h2]; exact sg_X12_list_16 _ _ _ _ (fun _ => ⟨rfl, I, rfl, hs⟩) (fun z => absurd rfl z)
  | true =>
  cases h3 : inR a3 0 (2 ^ nl - 1) with
  | false =>
    refine ⟨0, I, sn_X11_list _ _ _ (fun z => absurd z n0) (fun _ z => absurd z n1) (fun _ _ => ⟨_, sp_hasEnd a2 c1 s2, ?_⟩), sn_X12_list _ _ _ ⟨_, sp_isIn _ _ _, ?_⟩⟩
    · rintro _ _ ⟨rfl, rfl⟩; rw [h2]
      refine sg_X11_list_19 _ _ _ _ (fun z => absurd z (by decide)) (fun _ => ⟨_, sp_hasAll a3 c3 s4, ?_⟩)
      rintro _ _ ⟨rfl, rfl⟩; rw [h3]; exact sg_X11_list_33 _ _ _ _ (fun z => absurd rfl z) (fun _ => ⟨rfl, rfl⟩)
    · rintro _ _ ⟨rfl, rfl⟩; rw [show ((0 : Int32).toInt) = 0 from rfl, h1]
      refine sg_X12_list_8 _ _ _ _ (fun z => absurd z (by decide)) (fun _ => ⟨_, sp_isEnd a2 d1 s2, ?_⟩)
      rintro _ _ ⟨rfl, rfl⟩; rw [h2]
      refine sg_X12_list_16 _ _ _ _ (fun z => absurd z (by decide)) (fun _ => ⟨_, sp_isIn _ _ _, ?_⟩)
      rintro _ _ ⟨rfl, rfl⟩; rw [d3, tl, show ((0 : Int32).toInt) = 0 from rfl, h3]
      exact sg_X12_list_34 _ _ _ _ (fun _ => ⟨rfl, I, rfl, hs⟩) (fun z => absurd rfl z) (fun z => absurd rfl z) (fun z => absurd rfl z) (fun z => absurd rfl z) (fun z => absurd rfl z)
  | true =>
  by_cases hn : ni < 20
  · have lt8 : I 24 3 < 20 := by rw [c6]; exact nI_lt hn (by decide)
    have cn : (I 24 3).toNatClampNeg = ni := by rw [c6]; exact nI_clamp (by omega)
    refine ⟨1, mx_set (mx_set (mx_set (mx_set I 25 ni a1) 26 ni a2) 27 ni a3) 24 3 (nI (ni + 1)), sn_X11_list _ _ _ (fun z => absurd z n0) (fun _ z => absurd z n1) (fun _ _ => ⟨_, sp_hasEnd a2 c1 s2, ?_⟩), ?_⟩
    · rintro _ _ ⟨rfl, rfl⟩; rw [h2]
      refine sg_X11_list_19 _ _ _ _ (fun z => absurd z (by decide)) (fun _ => ⟨_, sp_hasAll a3 c3 s4, ?_⟩)
      rintro _ _ ⟨rfl, rfl⟩; rw [h3]
      have hv : I 24 3 < 20 → vp_in (I 24 3) 20 := fun _ => by rw [c6]; exact i_vp hn (by omega)
      refine sg_X11_list_33 _ _ _ _ (fun _ => ⟨_, sn_X4_add (Q := fun r h' => r = some (.int 1) ∧ h' = (sk0 c, mx_set (mx_set (mx_set (mx_set I 25 ni a1) 26 ni a2) 27 ni a3) 24 3 (nI (ni + 1)))) _ _ _ hv hv hv (fun _ => ?_) (fun z => absurd lt8 z), ?_⟩) (fun z => absurd z (by decide))
      · rw [cn, c6, show nI ni + 1 = nI (ni + 1) from nI_1 ni]
        exact ⟨rfl, rfl⟩
      · rintro _ _ ⟨rfl, rfl⟩
        exact sg_X11_list_51 _ _ _ _ ⟨rfl, rfl⟩ (Or.inr rfl)
    · generalize hJ : mx_set (mx_set (mx_set (mx_set I 25 ni a1) 26 ni a2) 27 ni a3) 24 3 (nI (ni + 1)) = J
      have j121 : J 121 = I 121 := by rw [← hJ, ms_ne (by decide), ms_ne (by decide), ms_ne (by decide), ms_ne (by decide)]
      have jI : ∀ a, a < 24 ∨ 27 < a → J a = I a := fun a h => by rw [← hJ, ms_ne (by omega), ms_ne (by omega), ms_ne (by omega), ms_ne (by omega)]
      refine sn_X12_list _ _ _ ⟨_, sp_isIn _ _ _, ?_⟩
      rintro _ _ ⟨rfl, rfl⟩; rw [show ((0 : Int32).toInt) = 0 from rfl, h1]
      refine sg_X12_list_8 _ _ _ _ (fun z => absurd z (by decide)) (fun _ => ⟨_, sp_isEnd a2 (by rw [j121]; exact d1) s2, ?_⟩)
      rintro _ _ ⟨rfl, rfl⟩; rw [h2]
      refine sg_X12_list_16 _ _ _ _ (fun z => absurd z (by decide)) (fun _ => ⟨_, sp_isIn _ _ _, ?_⟩)
      rintro _ _ ⟨rfl, rfl⟩; rw [j121, d3, tl, show ((0 : Int32).toInt) = 0 from rfl, h3]
      have j8 : J 121 8 = nI ni := by rw [j121]; exact d6
      have ix : ∀ j : Nat, ((1540 + (3 * (J 121 8))) + nI j : Int32) = nI (1540 + 3 * ni + j) := fun j => by
        rw [j8, show (1540 : Int32) = nI 1540 from rfl, show (3 : Int32) = nI 3 from rfl, pk_mul, nI_add, nI_add]
      have ix0 : ((1540 + (3 * (J 121 8))) : Int32) = nI (1540 + 3 * ni) := by
        rw [j8, show (1540 : Int32) = nI 1540 from rfl, show (3 : Int32) = nI 3 from rfl, pk_mul, nI_add]
      have ix1 : ((1540 + (3 * (J 121 8))) + 1 : Int32) = nI (1540 + 3 * ni + 1) := ix 1
      have ix2 : ((1540 + (3 * (J 121 8))) + 2 : Int32) = nI (1540 + 3 * ni + 2) := ix 2
      refine sg_X12_list_34 _ _ _ _ (fun z => absurd z (by decide)) (fun _ _ => by rw [ix0]; exact i_vp (by omega) (by omega)) (fun _ _ => by rw [ix1]; exact i_vp (by omega) (by omega)) (fun _ _ => by rw [ix2]; exact i_vp (by omega) (by omega)) (fun _ _ => ?_) (fun _ z => ?_)
      · have k0 : ((1540 + (3 * (J 121 8))) : Int32).toNatClampNeg = 1540 + 3 * ni := by rw [ix0]; exact nI_clamp (by omega)
        have k1 : ((1540 + (3 * (J 121 8))) + 1 : Int32).toNatClampNeg = 1540 + 3 * ni + 1 := by rw [ix1]; exact nI_clamp (by omega)
        have k2 : ((1540 + (3 * (J 121 8))) + 2 : Int32).toNatClampNeg = 1540 + 3 * ni + 2 := by rw [ix2]; exact nI_clamp (by omega)
        rw [k0, k1, k2]
        have q7 : (mx_set (mx_set (mx_set J 121 (1540 + 3 * ni) a1) 121 (1540 + 3 * ni + 1) a2) 121 (1540 + 3 * ni + 2) a3) 121 8 = nI ni := by
          simp only [ms_self]
          rw [upd_ne (by omega), upd_ne (by omega), upd_ne (by omega)]
          exact j8
        rw [q7, show nI ni + 1 = nI (ni + 1) from nI_1 ni]
        refine ⟨rfl, _, rfl, ?_⟩
        generalize hK : mx_set (mx_set (mx_set (mx_set J 121 (1540 + 3 * ni) a1) 121 (1540 + 3 * ni + 1) a2) 121 (1540 + 3 * ni + 2) a3) 121 8 (nI (ni + 1)) = K
        have kI : ∀ a, a ≠ 121 → K a = J a := fun a h => by rw [← hK, ms_ne h, ms_ne h, ms_ne h, ms_ne h]
        have rI : ∀ a, a < 24 ∨ (27 < a ∧ a ≠ 121) → K a = I a := fun a h => by rw [kI a (by omega), jI a (by omega)]
        refine hs.world hs.1 ?_ (by rw [rI 0 (by omega)]) (fun a h1 h2 => rI a (by omega)) (rI _ (by omega)) (rI _ (by omega)) (rI _ (by omega)) (rI _ (by omega)) (fun j _ => by rw [rI 120 (by omega)])
        refine Rel.list g1 g2 g3 g4 g5 (val := fun j => if j = 0 then a1 else if j = 1 then a2 else a3) hn ⟨⟨h1'.1, h1'.2⟩, inRb h2⟩ rI ?_ (fun j hj i => ?_) (fun k hk => ?_) ?_ (fun j hj => ?_)
        · rw [kI 24 (by decide), ← hJ, ms_self, upd_eq]
        · rw [kI (25 + j) (by omega), ← hJ]
          rcases (show j = 0 ∨ j = 1 ∨ j = 2 by omega) with rfl | rfl | rfl <;> simp [ms_row, upd]
        · rw [← hK]
          simp only [ms_self]
          rw [upd_ne (by omega), upd_ne (by omega), upd_ne (by omega), upd_ne (by omega), j121]
        · rw [← hK, ms_self, upd_eq]
        · rw [← hK]
          simp only [ms_self, upd]
          rcases (show j = 0 ∨ j = 1 ∨ j = 2 by omega) with rfl | rfl | rfl <;> simp <;> omega
      · rw [j8, show (20 : Int32) = nI 20 from rfl, nI_eq (by omega) (by omega)] at z; omega
  · have e8 : ni = 20 := by omega
    have nl8 : ¬ I 24 3 < 20 := by rw [c6, e8]; decide
    have j8 : I 121 8 = 20 := by rw [d6, e8]; rfl
    refine ⟨0, I, sn_X11_list _ _ _ (fun z => absurd z n0) (fun _ z => absurd z n1) (fun _ _ => ⟨_, sp_hasEnd a2 c1 s2, ?_⟩), sn_X12_list _ _ _ ⟨_, sp_isIn _ _ _, ?_⟩⟩
    · rintro _ _ ⟨rfl, rfl⟩; rw [h2]
      refine sg_X11_list_19 _ _ _ _ (fun z => absurd z (by decide)) (fun _ => ⟨_, sp_hasAll a3 c3 s4, ?_⟩)
      rintro _ _ ⟨rfl, rfl⟩; rw [h3]
      refine sg_X11_list_33 _ _ _ _ (fun _ => ⟨_, sn_X4_add (Q := fun r h' => r = some (.int 0) ∧ h' = (sk0 c, I)) _ _ _ (fun z => absurd z nl8) (fun z => absurd z nl8) (fun z => absurd z nl8) (fun z => absurd z nl8) (fun _ => ⟨rfl, rfl⟩), ?_⟩) (fun z => absurd z (by decide))
      rintro _ _ ⟨rfl, rfl⟩
      exact sg_X11_list_51 _ _ _ _ ⟨rfl, rfl⟩ (Or.inl rfl)
    · rintro _ _ ⟨rfl, rfl⟩; rw [show ((0 : Int32).toInt) = 0 from rfl, h1]
      refine sg_X12_list_8 _ _ _ _ (fun z => absurd z (by decide)) (fun _ => ⟨_, sp_isEnd a2 d1 s2, ?_⟩)
      rintro _ _ ⟨rfl, rfl⟩; rw [h2]
      refine sg_X12_list_16 _ _ _ _ (fun z => absurd z (by decide)) (fun _ => ⟨_, sp_isIn _ _ _, ?_⟩)
      rintro _ _ ⟨rfl, rfl⟩; rw [d3, tl, show ((0 : Int32).toInt) = 0 from rfl, h3]
      exact sg_X12_list_34 _ _ _ _ (fun z => absurd z (by decide)) (fun _ z => absurd j8 z) (fun _ z => absurd j8 z) (fun _ z => absurd j8 z) (fun _ z => absurd j8 z) (fun _ _ => ⟨rfl, I, rfl, hs⟩)
