/-! the pair fewest -/
theorem isIn_set {nl : Nat} {a : Int32} (h0 : ¬ a = 0) : inR a 1 (2 ^ nl - 1) = inR a 0 (2 ^ nl - 1) := by
  have : ¬ a.toInt = 0 := fun z => h0 (Int32.toInt_inj.mp z)
  unfold inR
  by_cases q : 0 ≤ a.toInt ∧ a.toInt ≤ 2 ^ nl - 1
  · rw [decide_eq_true q, decide_eq_true ⟨by omega, q.2⟩]
  · rw [decide_eq_false q, decide_eq_false (fun z => q ⟨by omega, z.2⟩)]
theorem pow_no {n : Nat} (h : n ≤ 8) : 1 ≤ 2 ^ n ∧ 2 ^ n ≤ 256 := by
  have : n = 0 ∨ n = 1 ∨ n = 2 ∨ n = 3 ∨ n = 4 ∨ n = 5 ∨ n = 6 ∨ n = 7 ∨ n = 8 := by omega
  rcases this with rfl | rfl | rfl | rfl | rfl | rfl | rfl | rfl | rfl <;> decide
set_option maxHeartbeats 4000000 in
theorem p_fewest {l : Launch} (a1 a2 a3 a4 : Int32) : mx_PrI l Sim mX11_fewest mX12_fewest [.int a1, .int a2, .int a3, .int a4] := by
  intro c I hs
  obtain ⟨nb, now, nl, nc, no, ni, nk, hp, ps, W⟩ := hs.2.1.world
  obtain ⟨⟨s1, s2, s3, s4, s5, s6, s7, s8⟩, ⟨c1, c2, c3, c4, c5, c6, c7⟩, ⟨d1, d2, d3, d4, d5, -⟩, -⟩ := id W.1
  have hc := hs.1
  obtain ⟨z21, z22, z25, z26⟩ := hs.2.2.2.2.2.2
  have i1 : (1 : Int32).toInt = 1 := by decide
  have i0 : (0 : Int32).toInt = 0 := rfl
  -- the model's first check
  have mstart : ∀ {Q : Option Value → mx_H → Prop} {cc : Nat} {K : mx_I}, K 121 = I 121 → mx_Go l (mx_rm (99 + 1) 0 0) mX12_fewest (mx_Z Q 0 0) 0 0 15 [.ref 120, .int a1, .int a2, .int a3, .int a4, .retAddr 0, .retAddr 0, .retAddr 0] [.int (b2i (inR a1 1 (2 ^ nl - 1)))] (sk0 cc, K) → mx_Spec l mX12_fewest (99 + 1) 0 0 [.ref 120, .int a1, .int a2, .int a3, .int a4] (sk0 cc, K) Q := by
    intro Q cc K hK k
    refine sn_X12_fewest _ _ _ _ ⟨_, sp_isIn _ _ _, ?_⟩
    rintro _ _ ⟨rfl, rfl⟩
    rw [hK, d3, sh_top nl s4, i1]
    exact k
  by_cases g0 : a1 = 0
  · refine pr_no (-1) hs (sn_X11_fewest _ _ _ _ (fun _ => ⟨rfl, rfl⟩) (fun z => absurd g0 z)) (mstart rfl ?_)
    rw [(inR_f.mpr (fun z => by rw [g0] at z; have := z.1; rw [i0] at this; omega) : inR a1 1 (2 ^ nl - 1) = false)]
    exact sg_X12_fewest_15 _ _ _ _ _ (fun _ => ⟨rfl, rfl⟩) (fun z => absurd rfl z)
  rw [isIn_set g0] at mstart
  cases g1 : inR a1 0 (2 ^ nl - 1) with
  | false =>
    rw [g1] at mstart
    refine pr_no (-1) hs (sn_X11_fewest _ _ _ _ (fun z => absurd z g0) (fun _ => ⟨_, sp_hasAll _ c3 s4, ?_⟩)) (mstart rfl (sg_X12_fewest_15 _ _ _ _ _ (fun _ => ⟨rfl, rfl⟩) (fun z => absurd rfl z)))
    rintro _ _ ⟨rfl, rfl⟩; rw [g1]; exact sg_X11_fewest_15 _ _ _ _ _ (fun _ => ⟨rfl, rfl⟩) (fun z => absurd rfl z)
  | true =>
  rw [g1] at mstart
  cases g2 : inR a2 0 nb with
  | false =>
    refine pr_no (-1) hs (sn_X11_fewest _ _ _ _ (fun z => absurd z g0) (fun _ => ⟨_, sp_hasAll _ c3 s4, ?_⟩)) (mstart rfl (sg_X12_fewest_15 _ _ _ _ _ (fun z => absurd z (by decide)) (fun _ => ⟨_, sp_isEnd _ d1 s2, ?_⟩)))
    · rintro _ _ ⟨rfl, rfl⟩; rw [g1]
      refine sg_X11_fewest_15 _ _ _ _ _ (fun z => absurd z (by decide)) (fun _ => ⟨_, sp_hasEnd _ c1 s2, ?_⟩)
      rintro _ _ ⟨rfl, rfl⟩; rw [g2]; exact sg_X11_fewest_26 _ _ _ _ _ (fun _ => ⟨rfl, rfl⟩) (fun z => absurd rfl z)
    · rintro _ _ ⟨rfl, rfl⟩; rw [g2]; exact sg_X12_fewest_23 _ _ _ _ _ (fun _ => ⟨rfl, rfl⟩) (fun z => absurd rfl z)
  | true =>
  cases g3 : inR a3 now 167 with
  | false =>
    refine pr_no (-1) hs (sn_X11_fewest _ _ _ _ (fun z => absurd z g0) (fun _ => ⟨_, sp_hasAll _ c3 s4, ?_⟩)) (mstart rfl (sg_X12_fewest_15 _ _ _ _ _ (fun z => absurd z (by decide)) (fun _ => ⟨_, sp_isEnd _ d1 s2, ?_⟩)))
    · rintro _ _ ⟨rfl, rfl⟩; rw [g1]
      refine sg_X11_fewest_15 _ _ _ _ _ (fun z => absurd z (by decide)) (fun _ => ⟨_, sp_hasEnd _ c1 s2, ?_⟩)
      rintro _ _ ⟨rfl, rfl⟩; rw [g2]
      refine sg_X11_fewest_26 _ _ _ _ _ (fun z => absurd z (by decide)) (fun _ => ⟨_, sp_isAhead _ c2 s3, ?_⟩)
      rintro _ _ ⟨rfl, rfl⟩; rw [g3]
      exact sg_X11_fewest_34 _ _ _ _ _ (fun z => absurd rfl z) (fun z => absurd rfl z) (fun z => absurd rfl z) (fun _ => ⟨rfl, rfl⟩)
    · rintro _ _ ⟨rfl, rfl⟩; rw [g2]
      refine sg_X12_fewest_23 _ _ _ _ _ (fun z => absurd z (by decide)) (fun _ => ⟨_, sp_isHour _ d2 s3, ?_⟩)
      rintro _ _ ⟨rfl, rfl⟩; rw [g3]; exact sg_X12_fewest_31 _ _ _ _ _ (fun _ => ⟨rfl, rfl⟩) (fun z => absurd rfl z)
  | true =>
  cases g4 : inR a4 0 1 with
  | false =>
    have g4' := inR_f.mp g4
    refine pr_no (-1) hs (sn_X11_fewest _ _ _ _ (fun z => absurd z g0) (fun _ => ⟨_, sp_hasAll _ c3 s4, ?_⟩)) (mstart rfl (sg_X12_fewest_15 _ _ _ _ _ (fun z => absurd z (by decide)) (fun _ => ⟨_, sp_isEnd _ d1 s2, ?_⟩)))
    · rintro _ _ ⟨rfl, rfl⟩; rw [g1]
      refine sg_X11_fewest_15 _ _ _ _ _ (fun z => absurd z (by decide)) (fun _ => ⟨_, sp_hasEnd _ c1 s2, ?_⟩)
      rintro _ _ ⟨rfl, rfl⟩; rw [g2]
      refine sg_X11_fewest_26 _ _ _ _ _ (fun z => absurd z (by decide)) (fun _ => ⟨_, sp_isAhead _ c2 s3, ?_⟩)
      rintro _ _ ⟨rfl, rfl⟩; rw [g3]
      refine sg_X11_fewest_34 _ _ _ _ _ (fun _ _ => ⟨rfl, rfl⟩) (fun _ z1 z2 => ?_) (fun _ _ _ => ⟨rfl, rfl⟩) (fun z => absurd z (by decide))
      refine absurd ⟨?_, (i_le _ _).mp z2⟩ g4'
      have h' : ¬ a4.toInt < 0 := fun z => z1 ((i_lt _ _).mpr z)
      omega
    · rintro _ _ ⟨rfl, rfl⟩; rw [g2]
      refine sg_X12_fewest_23 _ _ _ _ _ (fun z => absurd z (by decide)) (fun _ => ⟨_, sp_isHour _ d2 s3, ?_⟩)
      rintro _ _ ⟨rfl, rfl⟩; rw [g3]
      refine sg_X12_fewest_31 _ _ _ _ _ (fun z => absurd z (by decide)) (fun _ => ⟨_, sp_isIn _ _ _, ?_⟩)
      rintro _ _ ⟨rfl, rfl⟩; rw [i0, i1, g4]
      exact sg_X12_fewest_41 _ _ _ _ _ (fun z => absurd rfl z) (fun _ => ⟨rfl, rfl⟩)
  | true =>
  have g4' := inR_t.mp g4
  have g3' := inR_t.mp g3
  have n0 : ¬ a4 < 0 := fun z => by have : a4.toInt < 0 := (i_lt _ _).mp z; omega
  have n1 : a4 ≤ 1 := (i_le _ _).mpr g4'.2
  obtain ⟨e, hea, he⟩ := i_of g2
  subst hea
  have hprice : ∀ i, i < no → bnd (I 23 i) 0 999 := fun i hi => (W.2.2.1.2.2.1 i hi).2.2.2.2
  obtain ⟨pw1, pw2⟩ := pow_no s6
  have prL : ∀ x, prcN (I 23) x no ≤ 7992 := fun x => Nat.le_trans (prcN_le no hprice) (by omega)
  let en : Nat → Bool := fun h => enough nl a1 e (hs_go (pm_of I ps nb nl nc no false true (pm_row false (I 1 6) (nI h) 0 (-1) (-1))) a3.toInt (168 - now) (hs_of I hp nk now))
  let ans : Int32 := if a4 = 0 then oI (fw_run (I 23) no en (2 ^ no) 0 none) else match fw_run (I 23) no en (2 ^ no) 0 none with
    | none => -1
    | some b => nI (prcN (I 23) (nI b) no)
  refine pr_go (fun v c1 X => (c1 = 33 ∨ c1 = 55) ∧ v = ans ∧ ∀ k, k ≠ 32 → (k < 55 ∨ 73 < k) → X k = I k) ?_ ?_
  · refine sn_X11_fewest _ _ _ _ (fun z => absurd z g0) (fun _ => ⟨_, sp_hasAll _ c3 s4, ?_⟩)
    rintro _ _ ⟨rfl, rfl⟩; rw [g1]
    refine sg_X11_fewest_15 _ _ _ _ _ (fun z => absurd z (by decide)) (fun _ => ⟨_, sp_hasEnd _ c1 s2, ?_⟩)
    rintro _ _ ⟨rfl, rfl⟩; rw [g2]
    refine sg_X11_fewest_26 _ _ _ _ _ (fun z => absurd z (by decide)) (fun _ => ⟨_, sp_isAhead _ c2 s3, ?_⟩)
    rintro _ _ ⟨rfl, rfl⟩; rw [g3]
    refine sg_X11_fewest_34 _ _ _ _ _ (fun _ z => absurd z n0) (fun _ _ _ => ?_) (fun _ _ z => absurd n1 z) (fun z => absurd z (by decide))
    rw [c2]
    refine W.make (d := 97) s3 (fun _ _ => rfl) (fun I1 h1 h2 => ?_)
    refine sg_X11_fewest_73 _ _ _ _ ?_
    have e18 : I1 18 5 = nI no := by rw [h1 18 (by omega)]; exact c5
    rw [e18, sh_no no s6]
    have lp : ∀ (m h : Nat) (b : Option Nat) (cc : Nat) (X : mx_I) (x6 x7 : Int32) (y1 y2 y3 : Value), h + m = 2 ^ no → (cc = 33 ∨ cc = 55) → XI I I1 X → (∀ q, b = some q → q < 256 ∧ x6 = nI (cntN (nI q) 30) ∧ x7 = nI (prcN (I 23) (nI q) no)) → fw_run (I 23) no en m h b = fw_run (I 23) no en (2 ^ no) 0 none → mx_Go l (mx_rm (99 + 1) 0 0) mX11_fewest (mx_Z (fun r h' => ∃ (v : Int32) (c1 : Nat) (X : mx_I), r = some (.int v) ∧ h' = (sk0 c1, X) ∧ (c1 = 33 ∨ c1 = 55) ∧ v = ans ∧ ∀ k, k ≠ 32 → (k < 55 ∨ 73 < k) → X k = I k) 0 0) 0 0 99 [.ref 0, .int a1, .int (nI e), .int a3, .int a4, .int (oI b), .int x6, .int x7, .int (nI (2 ^ no)), .int (nI h), y1, y2, y3] [] (sk0 cc, X) := by
      intro m
      induction m with
      | zero =>
        intro h b cc X x6 x7 y1 y2 y3 hm hcc hX hb hR
        refine mx_fg (L' := [.ref 0, .int a1, .int (nI e), .int a3, .int a4, .int (oI b), .int x6, .int x7, .int (nI (2 ^ no)), .int (nI h), .retAddr 0, .retAddr 0, .retAddr 0]) (by simp [mx_le]) ?_
        have e1 : nI (2 ^ no) ≤ nI h := (nI_leI (by omega) (by omega)).mpr (by omega)
        rw [fw_run] at hR
        refine sg_X11_fewest_99 _ _ _ _ _ _ _ _ _ (fun _ z => ⟨_, cc, X, rfl, rfl, hcc, ?_, hX.1⟩) (fun _ z1 z2 => ⟨_, cc, X, rfl, rfl, hcc, ?_, hX.1⟩) (fun _ z1 z2 => ⟨_, cc, X, rfl, rfl, hcc, ?_, hX.1⟩) (fun z => absurd e1 z)
        · show _ = (if a4 = 0 then _ else _)
          rw [if_pos z, ← hR]
        · show _ = (if a4 = 0 then _ else _)
          rw [if_neg z1, ← hR]
          cases b with
          | none => exact absurd rfl z2
          | some q => exact (hb q rfl).2.2
        · show _ = (if a4 = 0 then _ else _)
          rw [if_neg z1, ← hR]
          cases b with
          | none => rfl
          | some q => exact absurd z2 (nI_n1 (by have := (hb q rfl).1; omega))
      | succ m ih =>
        intro h b cc X x6 x7 y1 y2 y3 hm hcc hX hb hR
        refine mx_fg (L' := [.ref 0, .int a1, .int (nI e), .int a3, .int a4, .int (oI b), .int x6, .int x7, .int (nI (2 ^ no)), .int (nI h), .retAddr 0, .retAddr 0, .retAddr 0]) (by simp [mx_le]) ?_
        have e1 : ¬ nI (2 ^ no) ≤ nI h := fun z => by rw [nI_leI (by omega) (by omega)] at z; omega
        have ch : cntN (nI h) 30 ≤ 30 := cntN_le _ _
        have ph := prL (nI h)
        refine sg_X11_fewest_99 _ _ _ _ _ _ _ _ _ (fun z => absurd z e1) (fun z => absurd z e1) (fun z => absurd z e1) (fun _ => ⟨_, sp_bitCount (d := 98) _, ?_⟩)
        rintro _ _ ⟨rfl, rfl⟩
        rw [bc_256 h (by omega)]
        refine sg_X11_fewest_111 _ _ _ _ _ _ _ _ _ _ ⟨_, sp_priceOf (d := 98) (no := no) _ (by rw [hX.1 18 (by omega) (by omega)]; exact c5) s6 (by rw [hX.1 23 (by omega) (by omega)]; exact hprice), ?_⟩
        rintro _ _ ⟨rfl, rfl⟩
        rw [hX.1 23 (by omega) (by omega)]
        rw [fw_run] at hR
        -- is it enough?
        have look : fw_less (I 23) no h b = true → mx_K1 l mX11_isEnough 99 [.ref 0, .int (nI h), .int a1, .int (nI e), .int a3] (sk0 cc, X) (fun r h' => mx_Go l (mx_rm (99 + 1) 0 0) mX11_fewest (mx_Z (fun r h' => ∃ (v : Int32) (c1 : Nat) (X : mx_I), r = some (.int v) ∧ h' = (sk0 c1, X) ∧ (c1 = 33 ∨ c1 = 55) ∧ v = ans ∧ ∀ k, k ≠ 32 → (k < 55 ∨ 73 < k) → X k = I k) 0 0) 0 0 175 [.ref 0, .int a1, .int (nI e), .int a3, .int a4, .int (oI b), .int x6, .int x7, .int (nI (2 ^ no)), .int (nI h), .int (nI (cntN (nI h) 30)), .int (nI (prcN (I 23) (nI h) no)), .int 1] (r.toList ++ []) h') := by
          intro hl
          refine ⟨_, sp_isEnough (d := 72) W hcc h2 hX, ?_⟩
          rintro _ _ ⟨rfl, X', rfl, hX'⟩
          refine sg_X11_fewest_175 _ _ _ _ _ _ _ _ _ _ _ _ _ (fun z => ?_) (fun z => ?_)
          · have hen : en h = false := b2i_0.mp z
            rw [hen] at hR
            simp only [Bool.false_eq_true, and_false, if_false] at hR
            rw [nI_1]
            exact ih (h + 1) b 55 X' x6 x7 _ _ _ (by omega) (Or.inr rfl) hX' hb hR
          · have hen : en h = true := by
              cases q : en h with
              | true => rfl
              | false => exact absurd (b2i_0.mpr q) z
            rw [if_pos ⟨hl, hen⟩] at hR
            rw [nI_1]
            exact ih (h + 1) (some h) 55 X' _ _ _ _ _ (by omega) (Or.inr rfl) hX' (fun q hq => by cases hq; exact ⟨by omega, rfl, rfl⟩) hR
        have no_ : fw_less (I 23) no h b = false → ∀ y, mx_Go l (mx_rm (99 + 1) 0 0) mX11_fewest (mx_Z (fun r h' => ∃ (v : Int32) (c1 : Nat) (X : mx_I), r = some (.int v) ∧ h' = (sk0 c1, X) ∧ (c1 = 33 ∨ c1 = 55) ∧ v = ans ∧ ∀ k, k ≠ 32 → (k < 55 ∨ 73 < k) → X k = I k) 0 0) 0 0 99 [.ref 0, .int a1, .int (nI e), .int a3, .int a4, .int (oI b), .int x6, .int x7, .int (nI (2 ^ no)), .int (nI h + 1), .int (nI (cntN (nI h) 30)), .int (nI (prcN (I 23) (nI h) no)), y] [] (sk0 cc, X) := by
          intro hl y
          rw [hl] at hR
          simp only [Bool.false_eq_true, false_and, if_false] at hR
          rw [nI_1]
          exact ih (h + 1) b cc X x6 x7 _ _ _ (by omega) hcc hX hb hR
        cases b with
        | none =>
          exact sg_X11_fewest_125 _ _ _ _ _ _ _ _ _ _ _ (fun _ => look rfl) (fun z => absurd rfl z) (fun z => absurd rfl z) (fun z => absurd rfl z) (fun z => absurd rfl z)
        | some q =>
          obtain ⟨q256, e6, e7⟩ := hb q rfl
          have cq : cntN (nI q) 30 ≤ 30 := cntN_le _ _
          have pq := prL (nI q)
          have nn : ¬ oI (some q) = -1 := nI_n1 (by omega)
          have lt6 : nI (cntN (nI h) 30) < x6 ↔ cntN (nI h) 30 < cntN (nI q) 30 := by rw [e6, nI_ltI (by omega) (by omega)]
          have eq6 : nI (cntN (nI h) 30) = x6 ↔ cntN (nI h) 30 = cntN (nI q) 30 := by rw [e6, nI_eq (by omega) (by omega)]
          have le7 : x7 ≤ nI (prcN (I 23) (nI h) no) ↔ prcN (I 23) (nI q) no ≤ prcN (I 23) (nI h) no := by rw [e7, nI_leI (by omega) (by omega)]
          refine sg_X11_fewest_125 _ _ _ _ _ _ _ _ _ _ _ (fun z => absurd z nn) (fun _ z => look (decide_eq_true (Or.inl (lt6.mp z)))) (fun _ z1 z2 => no_ (decide_eq_false (fun w => w.elim (fun v => z1 (lt6.mpr v)) (fun v => z2 (eq6.mpr v.1)))) _) (fun _ z1 z2 z3 => no_ (decide_eq_false (fun w => w.elim (fun v => z1 (lt6.mpr v)) (fun v => by have := le7.mp z3; omega))) _) (fun _ z1 z2 z3 => look (decide_eq_true (Or.inr ⟨eq6.mp z2, ?_⟩)))
          have : ¬ prcN (I 23) (nI q) no ≤ prcN (I 23) (nI h) no := fun w => z3 (le7.mpr w)
          omega
    exact lp (2 ^ no) 0 none c I1 0 0 _ _ _ (by omega) hc ⟨fun k k1 k2 => h1 k (by omega), fun _ _ _ => rfl⟩ (fun q hq => absurd hq (by simp)) rfl
  · rintro v cc X ⟨hcc, hv, hF⟩
    have w1 : X 121 = I 121 := hF 121 (by omega) (by omega)
    have w0 : X 120 = I 120 := hF 120 (by omega) (by omega)
    refine mstart w1 (sg_X12_fewest_15 _ _ _ _ _ (fun z => absurd z (by decide)) (fun _ => ⟨_, sp_isEnd _ (by rw [w1]; exact d1) s2, ?_⟩))
    rintro _ _ ⟨rfl, rfl⟩; rw [g2]
    refine sg_X12_fewest_23 _ _ _ _ _ (fun z => absurd z (by decide)) (fun _ => ⟨_, sp_isHour _ (by rw [w1]; exact d2) s3, ?_⟩)
    rintro _ _ ⟨rfl, rfl⟩; rw [g3]
    refine sg_X12_fewest_31 _ _ _ _ _ (fun z => absurd z (by decide)) (fun _ => ⟨_, sp_isIn _ _ _, ?_⟩)
    rintro _ _ ⟨rfl, rfl⟩; rw [i0, i1, g4]
    refine sg_X12_fewest_41 _ _ _ _ _ (fun _ => ?_) (fun z => absurd z (by decide))
    have S0 : Same X X := ⟨fun _ _ _ _ _ _ _ => rfl, fun _ _ => rfl, by rw [w0]; exact ⟨z21, z22, z25, z26⟩⟩
    have lp : ∀ (m h : Nat) (b : Option Nat) (K : mx_I) (y : Value), h + m = 2 ^ no → Same X K → (∀ q, b = some q → q < 256) → fw_run (I 23) no en m h b = fw_run (I 23) no en (2 ^ no) 0 none → mx_Go l (mx_rm (99 + 1) 0 0) mX12_fewest (mx_Z (fun r h' => r = some (.int v) ∧ ∃ (c2 : Nat) (K : mx_I), h' = (sk0 c2, K) ∧ Sim c2 K) 0 0) 0 0 52 [.ref 120, .int a1, .int (nI e), .int a3, .int a4, .int (oI b), .int (nI h), y] [] (sk0 cc, K) := by
      intro m
      induction m with
      | zero =>
        intro h b K y hm hS hb hR
        refine mx_fg (L' := [.ref 120, .int a1, .int (nI e), .int a3, .int a4, .int (oI b), .int (nI h), .retAddr 0]) (by simp [mx_le]) ?_
        have k121 : K 121 = I 121 := (hS.1 121 (by omega) (by omega) (by omega) (by omega) (by omega) (by omega)).trans w1
        have sim : Sim cc K := hs.same hcc hF hS
        rw [fw_run] at hR
        have e1 : (1 : Int32) <<< (K 121 7 &&& 31) ≤ nI h := by rw [k121, d5, sh_no no s6]; exact (nI_leI (by omega) (by omega)).mpr (by omega)
        refine sg_X12_fewest_52 _ _ _ _ _ _ (fun _ z => ⟨?_, cc, K, rfl, sim⟩) (fun _ z1 z2 => ⟨_, sp_mpriceOf (d := 98) (R := I 23) (no := no) _ (by rw [k121]; exact d5) s6 (fun i hi => by rw [k121]; exact W.2.1.2.2.2.2.2.2.1 i hi 4 (by omega)) hprice, ?_⟩) (fun _ z1 z2 => ⟨?_, cc, K, rfl, sim⟩) (fun z => absurd e1 z) (fun z => absurd e1 z)
        · rw [hv]
          show _ = some (Value.int (if a4 = 0 then _ else _))
          rw [← hR]
          cases b with
          | none => split <;> rfl
          | some q => exact absurd z (nI_n1 (by have := hb q rfl; omega))
        · rintro _ _ ⟨rfl, rfl⟩
          refine sg_X12_fewest_158 _ _ _ _ _ _ _ ⟨?_, cc, K, rfl, sim⟩
          rw [hv]
          show _ = some (Value.int (if a4 = 0 then _ else _))
          rw [if_neg z2, ← hR]
          cases b with
          | none => exact absurd rfl z1
          | some q => rfl
        · rw [hv]
          show _ = some (Value.int (if a4 = 0 then _ else _))
          rw [if_pos z2, ← hR]
      | succ m ih =>
        intro h b K y hm hS hb hR
        refine mx_fg (L' := [.ref 120, .int a1, .int (nI e), .int a3, .int a4, .int (oI b), .int (nI h), .retAddr 0]) (by simp [mx_le]) ?_
        have k121 : K 121 = I 121 := (hS.1 121 (by omega) (by omega) (by omega) (by omega) (by omega) (by omega)).trans w1
        have e1 : ¬ (1 : Int32) <<< (K 121 7 &&& 31) ≤ nI h := fun z => by rw [k121, d5, sh_no no s6, nI_leI (by omega) (by omega)] at z; omega
        have ch : cntN (nI h) 30 ≤ 30 := cntN_le _ _
        have ph := prL (nI h)
        rw [fw_run] at hR
        have look : fw_less (I 23) no h b = true → ∀ x7, mx_K1 l mX12_brings 99 [.ref 120, .int (nI h), .int a1, .int (nI e), .int a3] (sk0 cc, K) (fun r h' => mx_Go l (mx_rm (99 + 1) 0 0) mX12_fewest (mx_Z (fun r h' => r = some (.int v) ∧ ∃ (c2 : Nat) (K : mx_I), h' = (sk0 c2, K) ∧ Sim c2 K) 0 0) 0 0 123 [.ref 120, .int a1, .int (nI e), .int a3, .int a4, .int (oI b), .int (nI h), .int x7] (r.toList ++ []) h') := by
          intro hl x7
          refine ⟨_, sp_brings (d := 72) W k121 ⟨hS.2.2.2.1, hS.2.2.2.2.1⟩ g3'.2, ?_⟩
          rintro _ _ ⟨rfl, K', rfl, hS'⟩
          refine sg_X12_fewest_123 _ _ _ _ _ _ _ _ (fun z => ?_) (fun z => ?_)
          · have hen : en h = false := b2i_0.mp z
            rw [hen] at hR
            simp only [Bool.false_eq_true, and_false, if_false] at hR
            rw [nI_1]
            exact ih (h + 1) b K' _ (by omega) (hS.trans hS') hb hR
          · have hen : en h = true := by
              cases q : en h with
              | true => rfl
              | false => exact absurd (b2i_0.mpr q) z
            rw [if_pos ⟨hl, hen⟩] at hR
            rw [nI_1]
            exact ih (h + 1) (some h) K' _ (by omega) (hS.trans hS') (fun q hq => by cases hq; omega) hR
        have no_ : fw_less (I 23) no h b = false → ∀ y, mx_Go l (mx_rm (99 + 1) 0 0) mX12_fewest (mx_Z (fun r h' => r = some (.int v) ∧ ∃ (c2 : Nat) (K : mx_I), h' = (sk0 c2, K) ∧ Sim c2 K) 0 0) 0 0 52 [.ref 120, .int a1, .int (nI e), .int a3, .int a4, .int (oI b), .int (nI h + 1), y] [] (sk0 cc, K) := by
          intro hl y
          rw [hl] at hR
          simp only [Bool.false_eq_true, false_and, if_false] at hR
          rw [nI_1]
          exact ih (h + 1) b K y (by omega) hS hb hR
        cases b with
        | none =>
          exact sg_X12_fewest_52 _ _ _ _ _ _ (fun z => absurd z e1) (fun z => absurd z e1) (fun z => absurd z e1) (fun _ z => absurd rfl z) (fun _ _ => look rfl _)
        | some q =>
          have q256 := hb q rfl
          have cq : cntN (nI q) 30 ≤ 30 := cntN_le _ _
          have pq := prL (nI q)
          have nn : ¬ oI (some q) = -1 := nI_n1 (by omega)
          refine sg_X12_fewest_52 _ _ _ _ _ _ (fun z => absurd z e1) (fun z => absurd z e1) (fun z => absurd z e1) (fun _ _ => ⟨_, sp_count (d := 98) _, ?_⟩) (fun _ z => absurd z nn)
          rintro _ _ ⟨rfl, rfl⟩
          refine sg_X12_fewest_81 _ _ _ _ _ _ _ ⟨_, sp_count (d := 98) _, ?_⟩
          rintro _ _ ⟨rfl, rfl⟩
          have sb : (nI (cntN (nI h) 30) - nI (cntN (nI q) 30)).toInt = (cntN (nI h) 30 : Int) - cntN (nI q) 30 := pk_sub_toInt (by omega) (by omega)
          have sb0 : nI (cntN (nI h) 30) - nI (cntN (nI q) 30) = 0 ↔ cntN (nI h) 30 = cntN (nI q) 30 := by rw [i_eq, sb, i0]; omega
          have sbl : 0 ≤ nI (cntN (nI h) 30) - nI (cntN (nI q) 30) ↔ cntN (nI q) 30 ≤ cntN (nI h) 30 := by rw [i_le, sb, i0]; omega
          refine sg_X12_fewest_86 _ _ _ _ _ _ _ _ (fun z1 z2 => no_ (decide_eq_false (fun w => ?_)) _) (fun z1 z2 => look (decide_eq_true (Or.inl ?_)) _) (fun z => ⟨_, sp_mpriceOf (d := 98) (R := I 23) (no := no) _ (by rw [k121]; exact d5) s6 (fun i hi => by rw [k121]; exact W.2.1.2.2.2.2.2.2.1 i hi 4 (by omega)) hprice, ?_⟩)
          · have v1 : ¬ cntN (nI h) 30 = cntN (nI q) 30 := fun v => z1 (sb0.mpr v)
            have v2 := sbl.mp z2
            omega
          · have v2 : ¬ cntN (nI q) 30 ≤ cntN (nI h) 30 := fun v => z2 (sbl.mpr v)
            omega
          · have v0 := sb0.mp z
            rintro _ _ ⟨rfl, rfl⟩
            refine sg_X12_fewest_100 _ _ _ _ _ _ _ _ ⟨_, sp_mpriceOf (d := 98) (R := I 23) (no := no) _ (by rw [k121]; exact d5) s6 (fun i hi => by rw [k121]; exact W.2.1.2.2.2.2.2.2.1 i hi 4 (by omega)) hprice, ?_⟩
            rintro _ _ ⟨rfl, rfl⟩
            have sp : (nI (prcN (I 23) (nI h) no) - nI (prcN (I 23) (nI q) no)).toInt = (prcN (I 23) (nI h) no : Int) - prcN (I 23) (nI q) no := pk_sub_toInt (by omega) (by omega)
            have spl : 0 ≤ nI (prcN (I 23) (nI h) no) - nI (prcN (I 23) (nI q) no) ↔ prcN (I 23) (nI q) no ≤ prcN (I 23) (nI h) no := by rw [i_le, sp, i0]; omega
            refine sg_X12_fewest_106 _ _ _ _ _ _ _ _ _ (fun z1 => no_ (decide_eq_false (fun w => ?_)) _) (fun z1 => look (decide_eq_true (Or.inr ⟨v0, ?_⟩)) _)
            · have := spl.mp z1; omega
            · have : ¬ prcN (I 23) (nI q) no ≤ prcN (I 23) (nI h) no := fun v => z1 (spl.mpr v)
              omega
    exact lp (2 ^ no) 0 none X _ (by omega) S0 (fun q hq => absurd hq (by simp)) rfl
