/-! crosser -/
def mz_c (J : mx_I) (n : Nat) : Nat → mx_I
  | 0 => J
  | i + 1 => mx_set (mz_c J n i) 121 (320 + 14 * n + i) 0
theorem mz_ne {J : mx_I} {n a : Nat} (h : a ≠ 121) : ∀ i, mz_c J n i a = J a
  | 0 => rfl
  | i + 1 => by rw [mz_c, ms_ne h]; exact mz_ne h i
theorem mz_out {J : mx_I} {n k : Nat} : ∀ i, (k < 320 + 14 * n ∨ 320 + 14 * n + i ≤ k) → mz_c J n i 121 k = J 121 k
  | 0, _ => rfl
  | i + 1, h => by rw [mz_c, ms_self, upd_ne (by omega)]; exact mz_out i (by omega)
theorem mz_in {J : mx_I} {n j : Nat} : ∀ i, j < i → mz_c J n i 121 (320 + 14 * n + j) = 0
  | 0, h => absurd h (Nat.not_lt_zero j)
  | i + 1, h => by
    rw [mz_c, ms_self]
    by_cases e : j = i
    · subst e; exact upd_eq _ _ _
    · rw [upd_ne (by omega)]; exact mz_in i (by omega)
def mc_c (J : mx_I) (n : Nat) (a1 a2 a3 a4 a5 a6 : Int32) : mx_I := mx_set (mx_set (mx_set (mx_set (mx_set (mx_set (mx_set (mz_c J n 14) 121 (320 + 14 * n + 0) a1) 121 (320 + 14 * n + 1) a2) 121 (320 + 14 * n + 2) a3) 121 (320 + 14 * n + 3) a4) 121 (320 + 14 * n + 4) a5) 121 (320 + 14 * n + 5) a6) 121 (320 + 14 * n + 8) (-1)
theorem mc_loop {l : Launch} {d c n : Nat} {J : mx_I} {a1 a2 a3 a4 a5 a6 : Int32} {Q : Option Value → mx_H → Prop} (hn : n < 20) (hQ : Q (some (.int (nI n))) (sk0 c, mc_c J n a1 a2 a3 a4 a5 a6)) :
    ∀ (m i : Nat), i + m = 14 → mx_Go l (mx_rm (d + 2) 0 0) mX12_crosser (mx_Z Q 0 0) 0 0 75 [.ref 120, .int a1, .int a2, .int a3, .int a4, .int a5, .int a6, .int (nI n), .int (nI i)] [] (sk0 c, mz_c J n i) := by
  intro m
  induction m with
  | zero =>
    intro i hi
    have e : i = 14 := by omega
    subst e
    refine sg_X12_crosser_75 _ _ _ _ _ _ _ _ (fun _ => ⟨_, sp_gives 0 rfl hn (by decide), ?_⟩) (fun z => absurd (by decide) z)
    rintro _ _ ⟨rfl, rfl⟩
    refine sg_X12_crosser_105 _ _ _ _ _ _ _ _ ⟨_, sp_gives 1 rfl hn (by decide), ?_⟩
    rintro _ _ ⟨rfl, rfl⟩
    refine sg_X12_crosser_113 _ _ _ _ _ _ _ _ ⟨_, sp_gives 2 rfl hn (by decide), ?_⟩
    rintro _ _ ⟨rfl, rfl⟩
    refine sg_X12_crosser_121 _ _ _ _ _ _ _ _ ⟨_, sp_gives 3 rfl hn (by decide), ?_⟩
    rintro _ _ ⟨rfl, rfl⟩
    refine sg_X12_crosser_130 _ _ _ _ _ _ _ _ ⟨_, sp_gives 4 rfl hn (by decide), ?_⟩
    rintro _ _ ⟨rfl, rfl⟩
    refine sg_X12_crosser_139 _ _ _ _ _ _ _ _ ⟨_, sp_gives 5 rfl hn (by decide), ?_⟩
    rintro _ _ ⟨rfl, rfl⟩
    refine sg_X12_crosser_148 _ _ _ _ _ _ _ _ ⟨_, sp_gives 8 rfl hn (by decide), ?_⟩
    rintro _ _ ⟨rfl, rfl⟩
    exact sg_X12_crosser_157 _ _ _ _ _ _ _ _ hQ
  | succ m ih =>
    intro i hi
    refine sg_X12_crosser_75 _ _ _ _ _ _ _ _ (fun z => ?_) (fun _ => ⟨_, sp_gives i rfl hn (by omega), ?_⟩)
    · rw [show (14 : Int32) = nI 14 from rfl, nI_leI (by omega) (by omega)] at z; omega
    · rintro _ _ ⟨rfl, rfl⟩
      refine sg_X12_crosser_91 _ _ _ _ _ _ _ _ ?_
      rw [show nI i + 1 = nI (i + 1) from nI_1 i]
      exact ih (i + 1) (by omega)
def cw_cro (I : mx_I) (n : Nat) (a1 a2 a3 a4 a5 a6 : Int32) : mx_I := mx_set (mx_set (mx_set (mx_set (mx_set (mx_set (mx_set (mx_set (mx_set (mx_set I 9 n a1) 10 n a2) 11 n a3) 12 n a4) 13 n a5) 14 n a6) 15 n 0) 16 n 0) 17 n 0) 8 9 (nI (n + 1))
theorem sp_addC {l : Launch} {d c : Nat} {I : mx_I} {n : Nat} (hn : I 8 9 = nI n) (h : n ≤ 20) (a1 a2 a3 a4 a5 a6 : Int32) : mx_Spec l mX2_add (d + 1) 0 0 [.ref 8, .int a1, .int a2, .int a3, .int a4, .int a5, .int a6] (sk0 c, I) (fun r h' => r = some (.int (if n < 20 then nI n else -1)) ∧ h' = (sk0 c, if n < 20 then cw_cro I n a1 a2 a3 a4 a5 a6 else I)) := by
  have hb : I 8 9 < 20 → n < 20 := fun z => by rw [hn, i_lt, nI_toInt (by omega)] at z; have : (n : Int) < 20 := z; omega
  have hv : I 8 9 < 20 → vp_in (I 8 9) 20 := fun z => by rw [hn]; exact i_vp (hb z) (by omega)
  refine sn_X2_add a1 a2 a3 a4 a5 a6 hv hv hv hv hv hv hv hv hv (fun z => ?_) (fun z => ?_)
  · rw [if_pos (hb z), if_pos (hb z), hn, nI_clamp (by omega), show nI n + 1 = nI (n + 1) from nI_1 n]
    exact ⟨by rw [show nI (n + 1) - 1 = nI n from nI_pred n], rfl⟩
  · have : ¬ n < 20 := fun q => z (by rw [hn]; exact nI_lt q (by decide))
    rw [if_neg this, if_neg this]
    exact ⟨rfl, rfl⟩
set_option maxHeartbeats 1000000 in
theorem p_crosser {l : Launch} (a1 a2 a3 a4 a5 a6 : Int32) : mx_PrI l Sim mX11_crosser mX12_crosser [.int a1, .int a2, .int a3, .int a4, .int a5, .int a6] := by
  refine pr_cases (fun c I hs => ?_)
  obtain ⟨nb, now, nl, nc, no, ni, nk, hp, g1, g2, g3, g4, g5⟩ := hs.2.1
  obtain ⟨⟨s1, s2, s3, s4, s5, s6, -⟩, ⟨c1, c2, c3, c4, c5, -⟩, ⟨d1, d2, d3, d4, d5, -⟩, -⟩ := id g1
  have c4 : I 8 9 = nI nc := c4
  cases h1 : inR a1 now 167 with
  | false =>
    refine ⟨-1, I, sn_X11_crosser _ _ _ _ _ _ ⟨_, sp_isAhead a1 c2 s3, ?_⟩, sn_X12_crosser _ _ _ _ _ _ ⟨_, sp_isHour a1 d2 s3, ?_⟩⟩
    · rintro _ _ ⟨rfl, rfl⟩; rw [h1]; exact sg_X11_crosser_5 _ _ _ _ _ _ _ (fun _ => ⟨rfl, rfl⟩) (fun z => absurd rfl z)
    · rintro _ _ ⟨rfl, rfl⟩; rw [h1]; exact sg_X12_crosser_5 _ _ _ _ _ _ _ (fun _ => ⟨rfl, I, rfl, hs⟩) (fun z => absurd rfl z)
  | true =>
  cases h2 : isW nb a2 a3 a4 with
  | false =>
    refine ⟨-1, I, sn_X11_crosser _ _ _ _ _ _ ⟨_, sp_isAhead a1 c2 s3, ?_⟩, sn_X12_crosser _ _ _ _ _ _ ⟨_, sp_isHour a1 d2 s3, ?_⟩⟩
    · rintro _ _ ⟨rfl, rfl⟩; rw [h1]
      refine sg_X11_crosser_5 _ _ _ _ _ _ _ (fun z => absurd z (by decide)) (fun _ => ⟨_, sp_isWalk a2 a3 a4 c1 s2, ?_⟩)
      rintro _ _ ⟨rfl, rfl⟩; rw [h2]
      exact sg_X11_crosser_16 _ _ _ _ _ _ _ (fun z => absurd rfl z) (fun z => absurd rfl z) (fun z => absurd rfl z) (fun z => absurd rfl z) (fun z => absurd rfl z) (fun _ => ⟨rfl, rfl⟩)
    · rintro _ _ ⟨rfl, rfl⟩; rw [h1]
      refine sg_X12_crosser_5 _ _ _ _ _ _ _ (fun z => absurd z (by decide)) (fun _ => ⟨_, sp_isCrossing a2 a3 a4 d1 s2, ?_⟩)
      rintro _ _ ⟨rfl, rfl⟩; rw [h2]
      exact sg_X12_crosser_16 _ _ _ _ _ _ _ (fun _ => ⟨rfl, I, rfl, hs⟩) (fun z => absurd rfl z)
  | true =>
  cases h3 : inR a5 0 a4.toInt with
  | false =>
    refine ⟨-1, I, sn_X11_crosser _ _ _ _ _ _ ⟨_, sp_isAhead a1 c2 s3, ?_⟩, sn_X12_crosser _ _ _ _ _ _ ⟨_, sp_isHour a1 d2 s3, ?_⟩⟩
    · rintro _ _ ⟨rfl, rfl⟩; rw [h1]
      refine sg_X11_crosser_5 _ _ _ _ _ _ _ (fun z => absurd z (by decide)) (fun _ => ⟨_, sp_isWalk a2 a3 a4 c1 s2, ?_⟩)
      rintro _ _ ⟨rfl, rfl⟩; rw [h2]
      have no4 : ¬ a5 < 0 → ¬ a4 < a5 → False := fun z1 z2 => absurd ((f_in z1 (Int32.not_lt.mp z2)).symm.trans h3) (by decide)
      exact sg_X11_crosser_16 _ _ _ _ _ _ _ (fun _ _ => ⟨rfl, rfl⟩) (fun _ _ _ => ⟨rfl, rfl⟩) (fun _ z1 z2 => (no4 z1 z2).elim) (fun _ z1 z2 => (no4 z1 z2).elim) (fun _ z1 z2 => (no4 z1 z2).elim) (fun z => absurd z (by decide))
    · rintro _ _ ⟨rfl, rfl⟩; rw [h1]
      refine sg_X12_crosser_5 _ _ _ _ _ _ _ (fun z => absurd z (by decide)) (fun _ => ⟨_, sp_isCrossing a2 a3 a4 d1 s2, ?_⟩)
      rintro _ _ ⟨rfl, rfl⟩; rw [h2]
      refine sg_X12_crosser_16 _ _ _ _ _ _ _ (fun z => absurd z (by decide)) (fun _ => ⟨_, sp_isIn _ _ _, ?_⟩)
      rintro _ _ ⟨rfl, rfl⟩; rw [show ((0 : Int32).toInt) = 0 from rfl, h3]
      exact sg_X12_crosser_27 _ _ _ _ _ _ _ (fun _ => ⟨rfl, I, rfl, hs⟩) (fun z => absurd rfl z)
  | true =>
  have h3' := inR_t.mp h3
  have n0 : ¬ a5 < 0 := fun z => by have : a5.toInt < 0 := (i_lt _ _).mp z; omega
  have n4 : ¬ a4 < a5 := fun z => by have := (i_lt _ _).mp z; omega
  cases h4 : inR a6 0 (9 : Int32).toInt with
  | false =>
    refine ⟨-1, I, sn_X11_crosser _ _ _ _ _ _ ⟨_, sp_isAhead a1 c2 s3, ?_⟩, sn_X12_crosser _ _ _ _ _ _ ⟨_, sp_isHour a1 d2 s3, ?_⟩⟩
    · rintro _ _ ⟨rfl, rfl⟩; rw [h1]
      refine sg_X11_crosser_5 _ _ _ _ _ _ _ (fun z => absurd z (by decide)) (fun _ => ⟨_, sp_isWalk a2 a3 a4 c1 s2, ?_⟩)
      rintro _ _ ⟨rfl, rfl⟩; rw [h2]
      exact sg_X11_crosser_16 _ _ _ _ _ _ _ (fun _ z => absurd z n0) (fun _ _ z => absurd z n4) (fun _ _ _ _ => ⟨rfl, rfl⟩) (fun _ _ _ z1 z2 => absurd ((f_in z1 z2).symm.trans h4) (by decide)) (fun _ _ _ _ _ => ⟨rfl, rfl⟩) (fun z => absurd z (by decide))
    · rintro _ _ ⟨rfl, rfl⟩; rw [h1]
      refine sg_X12_crosser_5 _ _ _ _ _ _ _ (fun z => absurd z (by decide)) (fun _ => ⟨_, sp_isCrossing a2 a3 a4 d1 s2, ?_⟩)
      rintro _ _ ⟨rfl, rfl⟩; rw [h2]
      refine sg_X12_crosser_16 _ _ _ _ _ _ _ (fun z => absurd z (by decide)) (fun _ => ⟨_, sp_isIn _ _ _, ?_⟩)
      rintro _ _ ⟨rfl, rfl⟩; rw [show ((0 : Int32).toInt) = 0 from rfl, h3]
      refine sg_X12_crosser_27 _ _ _ _ _ _ _ (fun z => absurd z (by decide)) (fun _ => ⟨_, sp_isIn _ _ _, ?_⟩)
      rintro _ _ ⟨rfl, rfl⟩; rw [show ((0 : Int32).toInt) = 0 from rfl, h4]
      exact sg_X12_crosser_38 _ _ _ _ _ _ _ (fun _ => ⟨rfl, I, rfl, hs⟩) (fun z => absurd rfl z) (fun z => absurd rfl z)
  | true =>
  have h4' := inR_t.mp h4
  have m0 : ¬ a6 < 0 := fun z => by have : a6.toInt < 0 := (i_lt _ _).mp z; omega
  have m9 : a6 ≤ 9 := (i_le _ _).mpr h4'.2
  have cls : ∀ {Q : Option Value → mx_H → Prop}, Q (some (.int (if nc < 20 then nI nc else -1))) (sk0 c, if nc < 20 then cw_cro I nc a1 a2 a3 a4 a5 a6 else I) → mx_Spec l mX11_crosser 100 0 0 [.ref 0, .int a1, .int a2, .int a3, .int a4, .int a5, .int a6] (sk0 c, I) Q := by
    intro Q hQ
    refine sn_X11_crosser _ _ _ _ _ _ ⟨_, sp_isAhead a1 c2 s3, ?_⟩
    rintro _ _ ⟨rfl, rfl⟩; rw [h1]
    refine sg_X11_crosser_5 _ _ _ _ _ _ _ (fun z => absurd z (by decide)) (fun _ => ⟨_, sp_isWalk a2 a3 a4 c1 s2, ?_⟩)
    rintro _ _ ⟨rfl, rfl⟩; rw [h2]
    refine sg_X11_crosser_16 _ _ _ _ _ _ _ (fun _ z => absurd z n0) (fun _ _ z => absurd z n4) (fun _ _ _ z => absurd z m0) (fun _ _ _ _ _ => ⟨_, sp_addC c4 s5 a1 a2 a3 a4 a5 a6, ?_⟩) (fun _ _ _ _ z => absurd m9 z) (fun z => absurd z (by decide))
    rintro _ _ ⟨rfl, rfl⟩
    exact sg_X11_crosser_66 _ _ _ _ _ _ _ hQ
  have mod : ∀ {J : mx_I} {Q : Option Value → mx_H → Prop}, J 121 = I 121 → (nc < 20 → Q (some (.int (nI nc))) (sk0 c, mc_c (mx_set J 121 3 (nI (nc + 1))) nc a1 a2 a3 a4 a5 a6)) → (¬ nc < 20 → Q (some (.int (-1))) (sk0 c, J)) → mx_Spec l mX12_crosser 100 0 0 [.ref 120, .int a1, .int a2, .int a3, .int a4, .int a5, .int a6] (sk0 c, J) Q := by
    intro J Q j121 q1 q2
    refine sn_X12_crosser _ _ _ _ _ _ ⟨_, sp_isHour a1 (by rw [j121]; exact d2) s3, ?_⟩
    rintro _ _ ⟨rfl, rfl⟩; rw [h1]
    refine sg_X12_crosser_5 _ _ _ _ _ _ _ (fun z => absurd z (by decide)) (fun _ => ⟨_, sp_isCrossing a2 a3 a4 (by rw [j121]; exact d1) s2, ?_⟩)
    rintro _ _ ⟨rfl, rfl⟩; rw [h2]
    refine sg_X12_crosser_16 _ _ _ _ _ _ _ (fun z => absurd z (by decide)) (fun _ => ⟨_, sp_isIn _ _ _, ?_⟩)
    rintro _ _ ⟨rfl, rfl⟩; rw [show ((0 : Int32).toInt) = 0 from rfl, h3]
    refine sg_X12_crosser_27 _ _ _ _ _ _ _ (fun z => absurd z (by decide)) (fun _ => ⟨_, sp_isIn _ _ _, ?_⟩)
    rintro _ _ ⟨rfl, rfl⟩; rw [show ((0 : Int32).toInt) = 0 from rfl, h4]
    have j3 : J 121 3 = nI nc := by rw [j121]; exact d4
    refine sg_X12_crosser_38 _ _ _ _ _ _ _ (fun z => absurd z (by decide)) (fun _ ne => ?_) (fun _ eq => ?_)
    · have hn : nc < 20 := by
        rcases Nat.lt_or_ge nc 20 with q | q
        · exact q
        · exact absurd (by rw [j3, show nc = 20 by omega]; rfl) ne
      rw [j3, show nI nc + 1 = nI (nc + 1) from nI_1 nc]
      exact mc_loop hn (q1 hn) 14 0 rfl
    · rw [j3, show (20 : Int32) = nI 20 from rfl, nI_eq (by omega) (by omega)] at eq
      exact q2 (by omega)
  by_cases hn : nc < 20
  · refine ⟨nI nc, cw_cro I nc a1 a2 a3 a4 a5 a6, cls (by rw [if_pos hn, if_pos hn]; exact ⟨rfl, rfl⟩), ?_⟩
    generalize hJ : cw_cro I nc a1 a2 a3 a4 a5 a6 = J
    have jI : ∀ a, a < 8 ∨ 17 < a → J a = I a := fun a h => by rw [← hJ]; unfold cw_cro; rw [ms_ne (by omega), ms_ne (by omega), ms_ne (by omega), ms_ne (by omega), ms_ne (by omega), ms_ne (by omega), ms_ne (by omega), ms_ne (by omega), ms_ne (by omega), ms_ne (by omega)]
    refine mod (jI 121 (by omega)) (fun _ => ⟨rfl, _, rfl, ?_⟩) (fun z => absurd hn z)
    generalize hK : mc_c (mx_set J 121 3 (nI (nc + 1))) nc a1 a2 a3 a4 a5 a6 = K
    have kI : ∀ a, a ≠ 121 → K a = J a := fun a h => by rw [← hK]; unfold mc_c; rw [ms_ne h, ms_ne h, ms_ne h, ms_ne h, ms_ne h, ms_ne h, ms_ne h, mz_ne h, ms_ne h]
    have rI : ∀ a, a < 8 ∨ (17 < a ∧ a ≠ 121) → K a = I a := fun a h => by rw [kI a (by omega), jI a (by omega)]
    refine hs.world hs.1 ?_ (by rw [rI 0 (by omega)]) (fun a h1 h2 => rI a (by omega)) (rI _ (by omega)) (rI _ (by omega)) (rI _ (by omega)) (rI _ (by omega)) (fun j _ => by rw [rI 120 (by omega)])
    have hw := isW_t h2
    refine Rel.crosser g1 g2 g3 g4 g5 (val := fun j => if j = 0 then a1 else if j = 1 then a2 else if j = 2 then a3 else if j = 3 then a4 else if j = 4 then a5 else if j = 5 then a6 else 0) hn ⟨⟨by have := (inRb h1).1; show (0 : Int) ≤ a1.toInt; omega, (inRb h1).2⟩, hw.1, hw.2.1, hw.2.2, h3', ⟨h4'.1, h4'.2⟩⟩ rfl rfl rfl rI ?_ (fun j hj i => ?_) (fun k hk => ?_) ?_ (fun j hj => ?_)
    · rw [kI 8 (by decide), ← hJ]; unfold cw_cro; rw [ms_self, upd_eq]
    · rw [kI (9 + j) (by omega), ← hJ]
      unfold cw_cro
      rcases (show j = 0 ∨ j = 1 ∨ j = 2 ∨ j = 3 ∨ j = 4 ∨ j = 5 ∨ j = 6 ∨ j = 7 ∨ j = 8 by omega) with rfl | rfl | rfl | rfl | rfl | rfl | rfl | rfl | rfl <;> simp [ms_row, upd]
    · rw [← hK]
      unfold mc_c
      simp only [ms_self]
      rw [upd_ne (by omega), upd_ne (by omega), upd_ne (by omega), upd_ne (by omega), upd_ne (by omega), upd_ne (by omega), upd_ne (by omega), mz_out 14 (by omega), ms_self, upd_ne (by omega), jI 121 (by omega)]
    · rw [← hK]
      unfold mc_c
      simp only [ms_self]
      rw [upd_ne (by omega), upd_ne (by omega), upd_ne (by omega), upd_ne (by omega), upd_ne (by omega), upd_ne (by omega), upd_ne (by omega), mz_out 14 (by omega), ms_self, upd_eq]
    · rw [← hK]
      unfold mc_c
      simp only [ms_self, upd]
      rcases (show j = 0 ∨ j = 1 ∨ j = 2 ∨ j = 3 ∨ j = 4 ∨ j = 5 ∨ j = 8 ∨ (j = 6 ∨ j = 7 ∨ j = 9 ∨ j = 10 ∨ j = 11 ∨ j = 12 ∨ j = 13) by omega) with rfl | rfl | rfl | rfl | rfl | rfl | rfl | h9
      · simp
      · simp
      · simp
      · simp
      · simp
      · simp
      · simp
      · rw [if_neg (by omega), if_neg (by omega), if_neg (by omega), if_neg (by omega), if_neg (by omega), if_neg (by omega), if_neg (by omega), mz_in 14 (by omega)]
        rcases h9 with rfl | rfl | rfl | rfl | rfl | rfl | rfl <;> rfl
  · refine ⟨-1, I, cls (by rw [if_neg hn, if_neg hn]; exact ⟨rfl, rfl⟩), mod rfl (fun z => absurd z hn) (fun _ => ⟨rfl, I, rfl, hs⟩)⟩
