/-! the pair night -/
theorem Sim.same3 {c c' : Nat} {I K0 K : mx_I} (h : Sim c I) (hc : c' = 33 ∨ c' = 55) (hI : ∀ k, k ≠ 32 → (k < 55 ∨ 73 < k) → k ≠ 131 → K0 k = I k) (hs : Same K0 K) : Sim c' K := by
  obtain ⟨s1, s2, s3⟩ := hs
  have g : Sim c' (mx_row K 131 (I 131)) := by
    refine Sim.same (K0 := mx_row K0 131 (I 131)) h hc (fun k k1 k2 => ?_) ⟨fun k a1 a2 a3 a4 a5 a6 => ?_, fun j hj => ?_, ?_⟩
    · by_cases q : k = 131
      · subst q; rw [mx_row_self]
      · rw [mx_row_ne q]; exact hI k k1 k2 q
    · by_cases q : k = 131
      · subst q; rw [mx_row_self, mx_row_self]
      · rw [mx_row_ne q, mx_row_ne q]; exact s1 k a1 a2 a3 a4 a5 a6
    · rw [mx_row_ne (by omega), mx_row_ne (by omega)]; exact s2 j hj
    · rw [mx_row_ne (by omega)]; exact s3
  obtain ⟨a0, a1, a2, a3, a4, ⟨a5, a6⟩, a7⟩ := g
  have w : ∀ a, a ≠ 131 → K a = mx_row K 131 (I 131) a := fun a ha => (mx_row_ne ha).symm
  refine ⟨a0, a1.congr2 (fun a ha => w a (by omega)) (w 121 (by omega)), by rw [w 120 (by omega), w 0 (by omega)]; exact a2, ?_, a4.congr (by rw [w 47 (by omega)]) (by rw [w 120 (by omega)]) (w 48 (by omega)) (w 126 (by omega)), ⟨by rw [w 120 (by omega), w 47 (by omega)]; exact a5, by rw [w 120 (by omega), w 47 (by omega)]; exact a6⟩, by rw [w 120 (by omega)]; exact a7⟩
  rw [w 0 (by omega)]
  rcases a3 with z | ⟨z, z2⟩
  · exact Or.inl z
  · exact Or.inr ⟨z, z2.congr2 (fun a ha => w a (by omega)) (w 122 (by omega))⟩
/-- how the sets are gone through -/
def nt_run (ok : Nat → Bool) (sub : Nat → Int32) : Nat → Nat → Nat → Int32 → Int32 → Nat × Int32 × Int32
  | 0, _, n, x, f => (n, x, f)
  | m + 1, k, n, x, f => if ok k = true then (if n = 0 then nt_run ok sub m (k + 1) 1 (sub k) (sub k) else nt_run ok sub m (k + 1) (n + 1) (x &&& sub k) f) else nt_run ok sub m (k + 1) n x f
theorem sp_maybeSet {l : Launch} {c d nc : Nat} {I : mx_I} (hn : I 8 9 = nI nc) (h20 : nc ≤ 20) (hv : ∀ i, i < nc → bnd (I 17 i) 0 1) : mx_Spec l mX2_maybeSet (d + 1) 0 0 [.ref 8] (sk0 c, I) (fun r h' => r = some (.int (nI (mkM 32 (fun i => decide (i < nc ∧ I 17 i = 1))))) ∧ h' = (sk0 c, I)) := by
  have lp : ∀ (m i : Nat) (x : Int32), i + m = nc → (∀ p, p < 32 → bt x p = decide (p < i ∧ I 17 p = 1)) → mx_Go l (mx_rm (d + 1) 0 0) mX2_maybeSet (mx_Z (fun r h' => r = some (.int (nI (mkM 32 (fun i => decide (i < nc ∧ I 17 i = 1))))) ∧ h' = (sk0 c, I)) 0 0) 0 0 4 [.ref 8, .int x, .int (nI i)] [] (sk0 c, I) := by
    intro m
    induction m with
    | zero =>
      intro i x hi hb
      have e1 : I 8 9 ≤ nI i := by rw [hn]; exact (nI_leI (by omega) (by omega)).mpr (by omega)
      refine sg_X2_maybeSet_4 _ _ (fun _ => ⟨?_, rfl⟩) (fun z => absurd e1 z) (fun z => absurd e1 z)
      refine congrArg (fun v => some (Value.int v)) (b_ext (fun p hp => ?_))
      rw [hb p hp, bt_nI _ hp, mk_bit 32 _ p hp, show nc = i from by omega]
    | succ m ih =>
      intro i x hi hb
      have e1 : ¬ I 8 9 ≤ nI i := fun z => by rw [hn, nI_leI (by omega) (by omega)] at z; omega
      have S := fun Q => @sg_X2_maybeSet_4 l d Q c I x (nI i)
      rw [nI_clamp (n := i) (by omega), nI_1] at S
      refine S _ (fun z => absurd z e1) (fun _ => i_vp (by omega) (by omega)) (fun _ => ih (i + 1) _ (by omega) (fun p hp => ?_))
      obtain ⟨y, hy, ly⟩ := bnd_nat (hv i (by omega))
      have : y = 0 ∨ y = 1 := by omega
      rcases this with rfl | rfl
      · rw [hy, b_or, hb p hp, b_shl i (by omega) _ hp, show nI 0 = 0 from rfl, b_0, Bool.and_false, Bool.or_false, decide_eq_decide]
        refine ⟨fun z => ⟨by omega, z.2⟩, fun z => ⟨?_, z.2⟩⟩
        have : p ≠ i := fun w => by subst w; rw [hy] at z; exact absurd z.2 (by decide)
        omega
      · rw [hy, show nI 1 = 1 from rfl, b_set (by omega) _ hp, hb p hp]
        by_cases q : p = i
        · subst q
          rw [decide_eq_true rfl, Bool.or_true]
          exact (decide_eq_true ⟨by omega, hy⟩).symm
        · rw [decide_eq_false q, Bool.or_false, decide_eq_decide]
          exact ⟨fun z => ⟨by omega, z.2⟩, fun z => ⟨by omega, z.2⟩⟩
  exact sn_X2_maybeSet (lp nc 0 0 (by omega) (fun p hp => by rw [b_0]; exact (decide_eq_false (fun z => absurd z.1 (Nat.not_lt_zero _))).symm))
set_option maxHeartbeats 4000000 in
theorem p_night {l : Launch} (a1 : Int32) : mx_PrI l Sim mX11_night mX12_night [.int a1] := by
  intro c I hs
  obtain ⟨nb, now, nl, nc, no, ni, nk, hp, ps, W⟩ := hs.2.1.world
  obtain ⟨⟨s1, s2, s3, s4, s5, s6, s7, s8⟩, ⟨c1, c2, c3, c4, c5, c6, c7⟩, ⟨d1, d2, d3, d4, d5, -⟩, -⟩ := id W.1
  obtain ⟨v1, v2, v3, v4, -⟩ := id W.2.2.1
  obtain ⟨r1, r2, r3, r4, r5, r6, r7, r8, r9⟩ := id W.2.1
  have hc := hs.1
  obtain ⟨z21, z22, z25, z26⟩ := hs.2.2.2.2.2.2
  have i0 : (0 : Int32).toInt = 0 := rfl
  have i2 : (2 : Int32).toInt = 2 := by decide
  have hv : ∀ i, i < nc → bnd (I 17 i) 0 1 := fun i hi => (v2 i hi).2.2.2.2.2.2.2.2.1
  have h17 : ∀ i, i < nc → I 121 (331 + 14 * i) = I 17 i := fun i hi => r6 i hi 0 (by omega)
  obtain ⟨M, hM⟩ : ∃ M : Nat → Bool, M = (fun i => decide (i < nc ∧ I 17 i = 1)) := ⟨_, rfl⟩
  have Mt : ∀ p, M p = true ↔ (p < nc ∧ I 17 p = 1) := fun p => by rw [hM]; exact decide_eq_true_iff
  have Mlt : ∀ p, M p = true → p < nc := fun p h => ((Mt p).mp h).1
  have M0 : ∀ p, nc ≤ p → M p = false := fun p h => by
    cases q : M p with
    | false => rfl
    | true => have := Mlt p q; omega
  have cN20 : cm M 20 = cm M nc := by
    have := cm_no (n := nc) M0 (20 - nc)
    rw [show nc + (20 - nc) = 20 from by omega] at this
    exact this
  have m20 : nI (mkM 20 M) = nI (mkM 32 M) := b_ext (fun p hp => by
    rw [bt_nI _ hp, bt_nI _ hp, mk_bit 32 _ p hp]
    by_cases q : p < 20
    · exact mk_bit 20 _ p q
    · rw [M0 p (by omega), Nat.testBit_lt_two_pow]
      exact Nat.lt_of_lt_of_le (mkM_lt 20 M) (Nat.pow_le_pow_right (by omega) (by omega)))
  have hbc : bc_ (nI (mkM 32 M)) = nI (cm M nc) := by rw [← m20, bc_20, cN20]
  have cle : cm M nc ≤ nc := by
    have : ∀ n, cm M n ≤ n := fun n => by
      induction n with
      | zero => exact Nat.le_refl _
      | succ n ih => rw [cm]; have := bn_le (M n); omega
    exact this nc
  have mlt := mkM_lt 20 M
  -- the class up to 15
  have cstart : ∀ {Q : Option Value → mx_H → Prop}, mx_Go l (mx_rm (99 + 1) 0 0) mX11_night (mx_Z Q 0 0) 0 0 15 [.ref 0, .int a1, .int (nI (mkM 32 M)), .retAddr 0, .retAddr 0, .retAddr 0, .retAddr 0, .retAddr 0, .retAddr 0] [.int (nI (cm M nc))] (sk0 c, I) → mx_Spec l mX11_night (99 + 1) 0 0 [.ref 0, .int a1] (sk0 c, I) Q := by
    intro Q k
    refine sn_X11_night _ ⟨_, sp_maybeSet (d := 98) c4 s5 hv, ?_⟩
    rintro _ _ ⟨rfl, rfl⟩
    rw [← hM]
    refine sg_X11_night_10 _ _ ⟨_, sp_bitCount (d := 98) _, ?_⟩
    rintro _ _ ⟨rfl, rfl⟩
    rw [hbc]
    exact k
  -- the model's collecting
  have mcol : ∀ {Q : Option Value → mx_H → Prop} {cc : Nat} {X : mx_I}, X 121 = I 121 → (8 < cm M nc → ∀ K, (∀ k, k ≠ 131 → K k = X k) → Q (some (.int (-1))) (sk0 cc, K)) → (cm M nc ≤ 8 → ∀ K, (∀ k, k ≠ 131 → K k = X k) → (∀ p, M p = true → K 131 (cm M p) = nI p) → mx_Go l (mx_rm (99 + 1) 0 0) mX12_night (mx_Z Q 0 0) 0 0 70 [.ref 120, .int a1, .int (nI (cm M nc)), .int (nI (mkM 32 M)), .int (nI nc), .retAddr 0, .retAddr 0, .retAddr 0, .retAddr 0, .retAddr 0] [.int (b2i (inR a1 0 2))] (sk0 cc, K)) → mx_Spec l mX12_night (99 + 1) 0 0 [.ref 120, .int a1] (sk0 cc, X) Q := by
    intro Q cc X hX kno kyes
    have lp : ∀ (m i : Nat) (x : Int32) (K : mx_I), i + m = nc → cm M i ≤ 8 → (∀ p, p < 32 → bt x p = (decide (p < i) && M p)) → (∀ k, k ≠ 131 → K k = X k) → (∀ p, p < i → M p = true → K 131 (cm M p) = nI p) → mx_Go l (mx_rm (99 + 1) 0 0) mX12_night (mx_Z Q 0 0) 0 0 7 [.ref 120, .int a1, .int (nI (cm M i)), .int x, .int (nI i), .retAddr 0, .retAddr 0, .retAddr 0, .retAddr 0, .retAddr 0] [] (sk0 cc, K) := by
      intro m
      induction m with
      | zero =>
        intro i x K hi h8 hb hK h131
        have hi' : i = nc := by omega
        subst hi'
        have e1 : K 121 3 ≤ nI i := by rw [hK 121 (by omega), hX, d4]; exact (nI_leI (by omega) (by omega)).mpr (by omega)
        refine sg_X12_night_7 _ _ _ _ (fun _ => ⟨_, sp_isIn _ _ _, ?_⟩) (fun z => absurd e1 z)
        rintro _ _ ⟨rfl, rfl⟩
        rw [i0, i2]
        have hx : x = nI (mkM 32 M) := b_ext (fun p hp => by
          rw [hb p hp, bt_nI _ hp, mk_bit 32 _ p hp]
          by_cases q : p < i
          · rw [decide_eq_true q, Bool.true_and]
          · rw [decide_eq_false q, M0 p (by omega)]; rfl)
        rw [hx]
        exact kyes h8 K hK (fun p hp => h131 p (Mlt p hp) hp)
      | succ m ih =>
        intro i x K hi h8 hb hK h131
        have e1 : ¬ K 121 3 ≤ nI i := fun z => by rw [hK 121 (by omega), hX, d4, nI_leI (by omega) (by omega)] at z; omega
        refine sg_X12_night_7 _ _ _ _ (fun z => absurd z e1) (fun _ => ⟨_, sp_ofOne 11 rfl (by omega) (by omega), ?_⟩)
        rintro _ _ ⟨rfl, rfl⟩
        rw [show 320 + 14 * i + 11 = 331 + 14 * i from by omega, hK 121 (by omega), hX, h17 i (by omega)]
        obtain ⟨y, hy, ly⟩ := bnd_nat (hv i (by omega))
        have S := fun Q => @sg_X12_night_26 l 99 Q cc K a1 (nI (cm M i)) x (nI i) (I 17 i)
        rw [nI_clamp (n := cm M i) (by omega), nI_1 (cm M i), nI_1 i] at S
        have : y = 0 ∨ y = 1 := by omega
        rcases this with rfl | rfl
        · have hno : M i = false := by
            cases q : M i with
            | false => rfl
            | true => have := ((Mt i).mp q).2; rw [hy] at this; exact absurd this (by decide)
          have z0 : I 17 i = 0 := hy
          have ec : cm M (i + 1) = cm M i := by rw [cm, hno]; rfl
          refine S _ (fun z => absurd z0 z) (fun z => absurd z0 z) (fun z => absurd z0 z) (fun _ => ?_)
          rw [← ec]
          refine ih (i + 1) x K (by omega) (by omega) (fun p hp => ?_) hK (fun p hp h => ?_)
          · rw [hb p hp]
            by_cases q : p = i
            · subst q; rw [hno, Bool.and_false, Bool.and_false]
            · congr 1; rw [decide_eq_decide]; omega
          · by_cases q : p = i
            · subst q; rw [hno] at h; exact absurd h (by simp)
            · exact h131 p (by omega) h
        · have hyes : M i = true := (Mt i).mpr ⟨by omega, hy⟩
          have z0 : ¬ I 17 i = 0 := by rw [hy]; decide
          have ec : cm M i + 1 = cm M (i + 1) := by rw [cm, hyes]; rfl
          have h8' : nI (cm M i) = 8 ↔ cm M i = 8 := by rw [show (8 : Int32) = nI 8 from rfl, nI_eq (by omega) (by omega)]
          refine S _ (fun _ z => ?_) (fun _ z => ?_) (fun _ z => ?_) (fun z => absurd z z0)
          · have : ¬ cm M i = 8 := fun w => z (h8'.mpr w)
            exact i_vp (by omega) (by omega)
          · have hne : ¬ cm M i = 8 := fun w => z (h8'.mpr w)
            rw [ec]
            refine ih (i + 1) _ _ (by omega) (by omega) (fun p hp => ?_) (fun k hk => by rw [ms_ne hk]; exact hK k hk) (fun p hp h => ?_)
            · rw [b_set (by omega) _ hp, hb p hp]
              by_cases q : p = i
              · subst q; rw [decide_eq_true rfl, Bool.or_true, decide_eq_true (by omega : p < p + 1), hyes]; rfl
              · rw [decide_eq_false q, Bool.or_false]; congr 1; rw [decide_eq_decide]; omega
            · by_cases q : p = i
              · subst q; rw [ms_self, upd_eq]
              · have : cm M p ≠ cm M i := fun w => q (cm_inj h hyes w)
                rw [ms_at (Or.inr this)]
                exact h131 p (by omega) h
          · refine kno ?_ K hK
            have := cm_lt hyes (show i < nc by omega)
            have := h8'.mp z
            omega
    exact sn_X12_night _ (lp nc 0 0 X (by omega) (by show 0 ≤ 8; omega) (fun p hp => by rw [b_0, decide_eq_false (Nat.not_lt_zero _)]; rfl) (fun _ _ => rfl) (fun p hp => absurd hp (Nat.not_lt_zero _)))
  have S0 : ∀ {X : mx_I}, X 120 = I 120 → Same X X := fun h => ⟨fun _ _ _ _ _ _ _ => rfl, fun _ _ => rfl, by rw [h]; exact ⟨z21, z22, z25, z26⟩⟩
  by_cases g8 : 8 < cm M nc
  · have e8 : (8 : Int32) < nI (cm M nc) := by rw [show (8 : Int32) = nI 8 from rfl, nI_ltI (by omega) (by omega)]; exact g8
    refine pr_go (fun v c1 X => c1 = c ∧ v = -1 ∧ X = I) (cstart (sg_X11_night_15 _ _ _ (fun _ => ⟨_, _, _, rfl, rfl, rfl, rfl, rfl⟩) (fun z => absurd e8 z) (fun z => absurd e8 z) (fun z => absurd e8 z))) ?_
    rintro v cc X ⟨rfl, rfl, rfl⟩
    exact mcol rfl (fun _ K hK => ⟨rfl, cc, K, rfl, hs.same3 (K0 := K) hc (fun k k1 k2 k3 => hK k k3) (S0 (hK 120 (by omega)))⟩) (fun z => absurd g8 (by omega))
  have e8 : ¬ (8 : Int32) < nI (cm M nc) := fun z => by rw [show (8 : Int32) = nI 8 from rfl, nI_ltI (by omega) (by omega)] at z; exact g8 z
  cases g1 : inR a1 0 2 with
  | false =>
    have g1' := inR_f.mp g1
    refine pr_go (fun v c1 X => c1 = c ∧ v = -1 ∧ X = I) (cstart (sg_X11_night_15 _ _ _ (fun z => absurd z e8) (fun _ _ => ⟨_, _, _, rfl, rfl, rfl, rfl, rfl⟩) (fun _ z1 z2 => ?_) (fun _ _ _ => ⟨_, _, _, rfl, rfl, rfl, rfl, rfl⟩))) ?_
    · refine absurd ⟨?_, by have := (i_le _ _).mp z2; rw [i2] at this; exact this⟩ g1'
      have h' : ¬ a1.toInt < 0 := fun z => z1 ((i_lt _ _).mpr (by rw [i0]; exact z))
      omega
    · rintro v cc X ⟨rfl, rfl, rfl⟩
      refine mcol rfl (fun z => absurd z g8) (fun _ K hK _ => ?_)
      rw [g1]
      exact sg_X12_night_70 _ _ _ _ _ (fun z => absurd rfl z) (fun _ => ⟨rfl, cc, K, rfl, hs.same3 (K0 := K) hc (fun k k1 k2 k3 => hK k k3) (S0 (hK 120 (by omega)))⟩)
  | true =>
  have g1' := inR_t.mp g1
  have n0 : ¬ a1 < 0 := fun z => by have := (i_lt _ _).mp z; rw [i0] at this; omega
  have n2 : a1 ≤ 2 := (i_le _ _).mpr (by rw [i2]; exact g1'.2)
  obtain ⟨cN, hcN⟩ : ∃ n, n = cm M nc := ⟨_, rfl⟩
  rw [← hcN] at g8 e8 cstart mcol
  obtain ⟨pw1, pw2⟩ := pow_no (show cN ≤ 8 by omega)
  let sub : Nat → Int32 := fun k => nI (pdM 32 M k)
  let ok : Nat → Bool := fun k => gwB I ni nl (pm_of I ps nb nl nc no false false (pm_row false (I 1 6) 0 (nI (mkM 32 M) &&& (sub k ^^^ (-1))) (-1) (-1))) (hs_new I nk)
  have subbit : ∀ k p, p < 32 → bt (sub k) p = (M p && k.testBit (cm M p)) := fun k p hp => by
    show bt (nI (pdM 32 M k)) p = _
    rw [bt_nI _ hp, pd_bit 32 M k p hp]
  have sub_n1 : ∀ k, ¬ sub k = -1 := fun k z => by
    have h1 := subbit k 31 (by omega)
    rw [z, b_m1 31 (by omega), M0 31 (by omega)] at h1
    exact absurd h1 (by simp)
  have sub_in : ∀ k, nI (mkM 32 M) &&& sub k = sub k := fun k => b_ext (fun p hp => by
    rw [b_and, subbit k p hp, bt_nI _ hp, mk_bit 32 _ p hp]
    cases M p <;> rfl)
  have sub0 : sub 0 = 0 := b_ext (fun p hp => by rw [subbit 0 p hp, b_0, Nat.zero_testBit, Bool.and_false])
  let R : Nat × Int32 × Int32 := nt_run ok sub (2 ^ cN) 0 0 0 (-1)
  let ans : Int32 := if a1 = 0 then nI R.1 else if a1 = 1 then R.2.1 else R.2.2
  have a12 : ¬ a1 = 0 → ¬ a1 = 2 → a1 = 1 := fun z1 z2 => by
    have q1 : ¬ a1.toInt = 0 := fun z => z1 (Int32.toInt_inj.mp z)
    have q2 : ¬ a1.toInt = 2 := fun z => z2 (Int32.toInt_inj.mp (by rw [z, i2]))
    exact Int32.toInt_inj.mp (by rw [show (1 : Int32).toInt = 1 from by decide]; omega)
  have a21 : a1 = 2 → ¬ a1 = 1 := fun z w => by rw [z] at w; exact absurd w (by decide)
  refine pr_go (fun v c1 X => (c1 = 33 ∨ c1 = 55) ∧ v = ans ∧ ∀ k, k ≠ 32 → (k < 55 ∨ 73 < k) → X k = I k) (cstart (sg_X11_night_15 _ _ _ (fun z => absurd z e8) (fun _ z => absurd z n0) (fun _ _ _ => ?_) (fun _ _ z => absurd n2 z))) ?_
  · refine W.make (d := 97) (fm := 0) (by omega) (fun _ _ => rfl) (fun I1 h1 h2 => ?_)
    refine sg_X11_night_48 _ _ _ ?_
    have lp : ∀ (m k n : Nat) (x f : Int32) (cc : Nat) (X : mx_I), k + m = 2 ^ cN → n ≤ k → (n = 0 → x = 0 ∧ f = -1) → (¬ n = 0 → ¬ f = -1) → (cc = 33 ∨ cc = 55) → XI I I1 X → nt_run ok sub m k n x f = R → mx_Go l (mx_rm (99 + 1) 0 0) mX11_night (mx_Z (fun r h' => ∃ (v : Int32) (c1 : Nat) (X : mx_I), r = some (.int v) ∧ h' = (sk0 c1, X) ∧ (c1 = 33 ∨ c1 = 55) ∧ v = ans ∧ ∀ k, k ≠ 32 → (k < 55 ∨ 73 < k) → X k = I k) 0 0) 0 0 63 [.ref 0, .int a1, .int (nI (mkM 32 M)), .int (nI cN), .int (nI n), .int (if n = 0 then nI (mkM 32 M) else x), .int f, .int (sub k), .int (nI k)] [] (sk0 cc, X) := by
      intro m
      induction m with
      | zero =>
        intro k n x f cc X hm hn hn0 hn1 hcc hX hR
        have S := fun Q => @sg_X11_night_63 l 99 Q cc X a1 (nI (mkM 32 M)) (nI cN) (nI n) (if n = 0 then nI (mkM 32 M) else x) f (sub k) (nI k)
        rw [sh_no cN (by omega)] at S
        have e1 : nI (2 ^ cN) ≤ nI k := (nI_leI (by omega) (by omega)).mpr (by omega)
        have nz : nI n = 0 ↔ n = 0 := by rw [show (0 : Int32) = nI 0 from rfl, nI_eq (by omega) (by omega)]
        have hr : ans = if a1 = 0 then nI n else if a1 = 1 then x else f := by
          show (if a1 = 0 then nI R.1 else if a1 = 1 then R.2.1 else R.2.2) = _
          rw [← hR]; rfl
        refine S _ (fun _ z1 z2 z3 => ⟨_, cc, X, rfl, rfl, hcc, ?_, hX.1⟩) (fun _ z1 z2 z3 => ⟨_, cc, X, rfl, rfl, hcc, ?_, hX.1⟩) (fun _ z1 z2 => ⟨_, cc, X, rfl, rfl, hcc, ?_, hX.1⟩) (fun _ z1 => ⟨_, cc, X, rfl, rfl, hcc, ?_, hX.1⟩) (fun z => absurd e1 z)
        · rw [hr, if_neg z1, if_pos (a12 z1 z2), if_neg (fun w => z3 (nz.mpr w))]
        · rw [hr, if_neg z1, if_pos (a12 z1 z2), (hn0 (nz.mp z3)).1]
        · rw [hr, if_neg z1, if_neg (a21 z2)]
        · rw [hr, if_pos z1]
      | succ m ih =>
        intro k n x f cc X hm hn hn0 hn1 hcc hX hR
        have S := fun Q => @sg_X11_night_63 l 99 Q cc X a1 (nI (mkM 32 M)) (nI cN) (nI n) (if n = 0 then nI (mkM 32 M) else x) f (sub k) (nI k)
        rw [sh_no cN (by omega)] at S
        have e1 : ¬ nI (2 ^ cN) ≤ nI k := fun z => by rw [nI_leI (by omega) (by omega)] at z; omega
        refine S _ (fun z => absurd z e1) (fun z => absurd z e1) (fun z => absurd z e1) (fun z => absurd z e1) (fun _ => ⟨_, sp_goesWithLists (d := 72) W hcc h2 hX, ?_⟩)
        rintro _ _ ⟨rfl, X', rfl, hX'⟩
        have S2 := fun Q => @sg_X11_night_81 l 99 Q 55 X' a1 (nI (mkM 32 M)) (nI cN) (nI n) (if n = 0 then nI (mkM 32 M) else x) f (sub k) (nI k) (b2i (ok k))
        rw [show (sub k - nI (mkM 32 M)) &&& nI (mkM 32 M) = sub (k + 1) from pd_next M k, nI_1 k, nI_1 n] at S2
        rw [nt_run] at hR
        refine S2 _ (fun z => ?_) (fun z w => ?_) (fun z w => ?_)
        · have hok : ok k = false := b2i_0.mp z
          rw [hok, if_neg (by simp)] at hR
          exact ih (k + 1) n x f 55 X' (by omega) (by omega) hn0 hn1 (Or.inr rfl) hX' hR
        · have hok : ok k = true := by
            cases q : ok k with
            | true => rfl
            | false => exact absurd (b2i_0.mpr q) z
          have hn' : ¬ n = 0 := fun v => w (hn0 v).2
          rw [hok, if_pos rfl, if_neg hn'] at hR
          rw [if_neg hn']
          have := ih (k + 1) (n + 1) (x &&& sub k) f 55 X' (by omega) (by omega) (fun v => absurd v (by omega)) (fun _ => w) (Or.inr rfl) hX' hR
          rw [if_neg (by omega)] at this
          exact this
        · have hok : ok k = true := by
            cases q : ok k with
            | true => rfl
            | false => exact absurd (b2i_0.mpr q) z
          have hn' : n = 0 := Classical.byContradiction (fun v => hn1 v w)
          subst hn'
          rw [hok, if_pos rfl, if_pos rfl] at hR
          rw [if_pos rfl, sub_in k]
          have := ih (k + 1) 1 (sub k) (sub k) 55 X' (by omega) (by omega) (fun v => absurd v (by omega)) (fun _ => sub_n1 k) (Or.inr rfl) hX' hR
          rw [if_neg (by omega)] at this
          exact this
    have := lp (2 ^ cN) 0 0 0 (-1) c I1 (by omega) (by omega) (fun _ => ⟨rfl, rfl⟩) (fun v => absurd rfl v) hc ⟨fun k k1 k2 => h1 k (by omega), fun _ _ _ => rfl⟩ rfl
    rw [if_pos rfl, sub0] at this
    exact this
  · rintro v cc X ⟨hcc, hv', hF⟩
    have w1 : X 121 = I 121 := hF 121 (by omega) (by omega)
    have w0 : X 120 = I 120 := hF 120 (by omega) (by omega)
    refine mcol w1 (fun z => absurd z g8) (fun _ Kb hKb h131 => ?_)
    rw [g1]
    refine sg_X12_night_70 _ _ _ _ _ (fun _ => ?_) (fun z => absurd z (by decide))
    have sim : ∀ {K : mx_I}, Same Kb K → Sim cc K := fun hS => hs.same3 (K0 := Kb) hcc (fun k k1 k2 k3 => (hKb k k3).trans (hF k k1 k2)) hS
    have lp : ∀ (m k n : Nat) (x f : Int32) (K : mx_I) (y1 y2 : Value), k + m = 2 ^ cN → n ≤ k → Same Kb K → nt_run ok sub m k n x f = R → mx_Go l (mx_rm (99 + 1) 0 0) mX12_night (mx_Z (fun r h' => r = some (.int v) ∧ ∃ (c2 : Nat) (K : mx_I), h' = (sk0 c2, K) ∧ Sim c2 K) 0 0) 0 0 87 [.ref 120, .int a1, .int (nI cN), .int (nI (mkM 32 M)), .int (nI n), .int x, .int f, .int (nI k), y1, y2] [] (sk0 cc, K) := by
      intro m
      induction m with
      | zero =>
        intro k n x f K y1 y2 hm hn hS hR
        refine mx_fg (L' := [.ref 120, .int a1, .int (nI cN), .int (nI (mkM 32 M)), .int (nI n), .int x, .int f, .int (nI k), .retAddr 0, .retAddr 0]) (by simp [mx_le]) ?_
        have S := fun Q => @sg_X12_night_87 l 99 Q cc K a1 (nI cN) (nI (mkM 32 M)) (nI n) x f (nI k)
        rw [sh_no cN (by omega)] at S
        have e1 : nI (2 ^ cN) ≤ nI k := (nI_leI (by omega) (by omega)).mpr (by omega)
        have hr : v = if a1 = 0 then nI n else if a1 = 1 then x else f := by
          rw [hv']
          show (if a1 = 0 then nI R.1 else if a1 = 1 then R.2.1 else R.2.2) = _
          rw [← hR]; rfl
        refine S _ (fun _ z1 z2 => ⟨?_, cc, K, rfl, sim hS⟩) (fun _ z1 z2 => ⟨?_, cc, K, rfl, sim hS⟩) (fun _ z1 => ⟨?_, cc, K, rfl, sim hS⟩) (fun z => absurd e1 z)
        · rw [hr, if_neg z1, if_neg z2]
        · rw [hr, if_neg z1, if_pos z2]
        · rw [hr, if_pos z1]
      | succ m ih =>
        intro k n x f K y1 y2 hm hn hS hR
        refine mx_fg (L' := [.ref 120, .int a1, .int (nI cN), .int (nI (mkM 32 M)), .int (nI n), .int x, .int f, .int (nI k), .retAddr 0, .retAddr 0]) (by simp [mx_le]) ?_
        have S := fun Q => @sg_X12_night_87 l 99 Q cc K a1 (nI cN) (nI (mkM 32 M)) (nI n) x f (nI k)
        rw [sh_no cN (by omega)] at S
        have e1 : ¬ nI (2 ^ cN) ≤ nI k := fun z => by rw [nI_leI (by omega) (by omega)] at z; omega
        refine S _ (fun z => absurd z e1) (fun z => absurd z e1) (fun z => absurd z e1) (fun _ => ?_)
        have k131 : K 131 = Kb 131 := hS.1 131 (by omega) (by omega) (by omega) (by omega) (by omega) (by omega)
        have kw1 : K 121 = I 121 := by rw [hS.1 121 (by omega) (by omega) (by omega) (by omega) (by omega) (by omega), hKb 121 (by omega), w1]
        have nz : nI n = 0 ↔ n = 0 := by rw [show (0 : Int32) = nI 0 from rfl, nI_eq (by omega) (by omega)]
        have inn : ∀ (m' j : Nat) (s : Int32), j + m' = cN → (∀ p, p < 32 → bt s p = (M p && (decide (cm M p < j) && k.testBit (cm M p)))) → mx_Go l (mx_rm (99 + 1) 0 0) mX12_night (mx_Z (fun r h' => r = some (.int v) ∧ ∃ (c2 : Nat) (K : mx_I), h' = (sk0 c2, K) ∧ Sim c2 K) 0 0) 0 0 101 [.ref 120, .int a1, .int (nI cN), .int (nI (mkM 32 M)), .int (nI n), .int x, .int f, .int (nI k), .int s, .int (nI j)] [] (sk0 cc, K) := by
          intro m'
          induction m' with
          | zero =>
            intro j s hj hb
            have e1 : nI cN ≤ nI j := (nI_leI (by omega) (by omega)).mpr (by omega)
            have hsub : s = sub k := b_ext (fun p hp => by
              rw [hb p hp, subbit k p hp]
              cases q : M p with
              | false => rfl
              | true =>
                have := cm_lt q (Mlt p q)
                rw [decide_eq_true (by omega), Bool.true_and])
            subst hsub
            refine sg_X12_night_101 _ _ _ _ _ _ _ _ _ (fun _ => ⟨_, sp_goWith (d := 72) W kw1 ⟨hS.2.2.2.1, hS.2.2.2.2.2⟩, ?_⟩) (fun z => absurd e1 z) (fun z => absurd e1 z) (fun z => absurd e1 z)
            rintro _ _ ⟨rfl, K', rfl, hS'⟩
            have S2 := fun Q => @sg_X12_night_152 l 99 Q cc K' a1 (nI cN) (nI (mkM 32 M)) (nI n) x f (nI k) (sub k) (nI j) (b2i (ok k))
            rw [nI_1 k, nI_1 n] at S2
            rw [nt_run] at hR
            have hok : ¬ b2i (ok k) = 0 → ok k = true := fun z => by
              cases q : ok k with
              | true => rfl
              | false => exact absurd (b2i_0.mpr q) z
            refine S2 _ (fun z q _ => ?_) (fun z q q2 => absurd q2 q) (fun z q q2 => absurd q q2) (fun z q _ => ?_) (fun z => ?_)
            · rw [hok z, if_pos rfl, if_neg (fun w => q (nz.mpr w))] at hR
              exact ih (k + 1) (n + 1) _ _ K' _ _ (by omega) (by omega) (hS.trans hS') hR
            · have hn' := nz.mp q
              subst hn'
              rw [hok z, if_pos rfl, if_pos rfl] at hR
              exact ih (k + 1) 1 _ _ K' _ _ (by omega) (by omega) (hS.trans hS') hR
            · rw [b2i_0.mp z, if_neg (by simp)] at hR
              exact ih (k + 1) n _ _ K' _ _ (by omega) (by omega) (hS.trans hS') hR
          | succ m' ih' =>
            intro j s hj hb
            have e1 : ¬ nI cN ≤ nI j := fun z => by rw [nI_leI (by omega) (by omega)] at z; omega
            obtain ⟨q, hq1, hq2, hq3⟩ := cm_find (M := M) (j := j) nc (by omega)
            have kj : K 131 j = nI q := by rw [k131, ← hq3]; exact h131 q hq2
            have S := fun Q => @sg_X12_night_101 l 99 Q cc K a1 (nI cN) (nI (mkM 32 M)) (nI n) x f (nI k) s (nI j)
            rw [nI_clamp (n := j) (by omega), kj, nI_1 j] at S
            have bit : (((nI k >>> (nI j &&& 31)) &&& 1) = 1) ↔ k.testBit j = true := by rw [b_get1 (by omega), bt_nI _ (by omega)]
            refine S _ (fun z => absurd z e1) (fun _ z => ih' (j + 1) _ (by omega) (fun p hp => ?_)) (fun _ _ => i_vp (by omega) (by omega)) (fun _ z => ih' (j + 1) _ (by omega) (fun p hp => ?_))
            · have hno : k.testBit j = false := by
                cases w : k.testBit j with
                | false => rfl
                | true => exact absurd (bit.mpr w) z
              rw [b_or, b_0, Bool.or_false, hb p hp]
              cases hMp : M p with
              | false => rfl
              | true =>
                rw [Bool.true_and, Bool.true_and]
                by_cases w : cm M p = j
                · rw [w, hno, Bool.and_false, Bool.and_false]
                · congr 1; rw [decide_eq_decide]; omega
            · have hyes := bit.mp z
              rw [b_set (by omega) _ hp, hb p hp]
              by_cases w : p = q
              · subst w
                rw [decide_eq_true rfl, Bool.or_true, hq2, hq3, hyes, decide_eq_true (by omega : j < j + 1)]; rfl
              · rw [decide_eq_false w, Bool.or_false]
                cases hMp : M p with
                | false => rfl
                | true =>
                  have : cm M p ≠ j := fun u => w (cm_inj hMp hq2 (u.trans hq3.symm))
                  congr 2; rw [decide_eq_decide]; omega
        exact inn cN 0 0 (by omega) (fun p hp => by rw [b_0, decide_eq_false (Nat.not_lt_zero _), Bool.false_and, Bool.and_false])
    have SKb : Same Kb Kb := S0 (by rw [hKb 120 (by omega), w0])
    exact lp (2 ^ cN) 0 0 0 (-1) Kb _ _ (by omega) (by omega) SKb rfl
