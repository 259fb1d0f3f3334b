/-! the model's next0 -/
section M
variable {l : Launch} {c : Nat}
set_option maxHeartbeats 2000000 in
theorem sp_next0M {d n : Nat} {b : Nat → Nat} {I : mx_I} {L : LX} (hT : TpM b n I) (h12 : I 120 12 = nI L.1) (hn : L.1 ≤ n) : mx_Spec l mX12_next0 (d + 8) 0 0 [.ref 120] (sk0 c, I) (fun r h' => r = none ∧ ∃ J, h' = (sk0 c, J) ∧ FrN I J ∧ TkM (nxL b n L) J) := by
  obtain ⟨q, hq⟩ : ∃ q, q = rn cSp b (n - L.1) L.1 := ⟨_, rfl⟩
  have hql := rn_le (p := cSp) (b := b) (n - L.1) L.1
  rw [← hq] at hql
  have n400 := hT.1
  have on2 := (nx_on (b := b) hn).2.1
  obtain ⟨Q, hQ⟩ : ∃ Q : Option Value → mx_H → Prop, Q = fun r h' => r = none ∧ ∃ J, h' = (sk0 c, J) ∧ FrN I J ∧ TkM (nxL b n L) J := ⟨_, rfl⟩
  have qi : ∀ J, FrN I J → TkM (nxL b n L) J → Q none (sk0 c, J) := by
    rw [hQ]
    exact fun J a b => ⟨rfl, J, rfl, a, b⟩
  rw [← hQ]
  -- letters
  have lt : ∀ (m a : Nat) (J : mx_I) (x : Int32), a + m = n → q ≤ a → FrN I J → J 120 12 = nI a → J 120 14 = nI q → q < n → cLt (b q) = true → rn cLt b m a = rn cLt b (n - q) q → mx_Go l (mx_rm (d + 7 + 1) 0 0) mX12_next0 (mx_Z Q 0 0) 0 0 76 [.ref 120, .int x, .retAddr 0] [] (sk0 c, J) := by
    have fin : ∀ (a : Nat) (J : mx_I) (x : Int32), q ≤ a → a ≤ n → FrN I J → J 120 12 = nI a → J 120 14 = nI q → q < n → cLt (b q) = true → a = rn cLt b (n - q) q → mx_K1 l mX12_word (d + 7) [.ref 120] (sk0 c, J) (fun r h' => mx_Go l (mx_rm (d + 7 + 1) 0 0) mX12_next0 (mx_Z Q 0 0) 0 0 108 [.ref 120, .int x, .retAddr 0] (r.toList ++ [.ref 120]) h') := by
      intro a J x ha1 ha2 hF j12 j14 hqn hl he
      refine ⟨_, sp_wordM (d := d) (q := q) (len := a - q) (hF.tp hT) (by rw [j12, show q + (a - q) = a from by omega]) j14 (by omega), ?_⟩
      rintro _ _ ⟨rfl, rfl⟩
      refine sg_X12_next0_108 _ _ (qi _ (hF.set (by omega)) ?_)
      have hx : nxL b n L = (a, kwF b q (a - q) 13 2, q, if 0 ≤ L.vl.toInt then L.vl else 0) := by
        unfold nxL
        rw [← hq, if_neg (by omega), if_pos hl, ← he]
      have hk := kwF_ge b q (a - q) 13 2 (by omega) (by omega)
      rw [hx]
      refine ⟨hk.2, by rw [ms_at (Or.inr (by omega))]; exact j12, by rw [ms_self, upd_eq]; rfl, by rw [ms_at (Or.inr (by omega))]; exact j14, fun z => ?_⟩
      have z' : kwF b q (a - q) 13 2 = 1 := z
      omega
    intro m
    induction m with
    | zero =>
      intro a J x ha hqa hF j12 j14 hqn hl he
      have t := hF.tp hT
      refine sg_X12_next0_76 _ ?_
      rw [j12]
      refine ⟨_, sp_see (d := d + 6) t (by omega), ?_⟩
      rintro _ _ ⟨rfl, rfl⟩
      refine sg_X12_next0_84 _ _ ⟨_, sp_isLtM (d := d + 5) (lt_see (fun z => absurd z (by omega))), ?_⟩
      rintro _ _ ⟨rfl, rfl⟩
      rw [decide_eq_false (by omega), Bool.false_and]
      exact sg_X12_next0_87 _ _ (fun _ => fin a J x hqa (by omega) hF j12 j14 hqn hl he) (fun z => absurd rfl z)
    | succ m ih =>
      intro a J x ha hqa hF j12 j14 hqn hl he
      have t := hF.tp hT
      refine sg_X12_next0_76 _ ?_
      rw [j12]
      refine ⟨_, sp_see (d := d + 6) t (by omega), ?_⟩
      rintro _ _ ⟨rfl, rfl⟩
      refine sg_X12_next0_84 _ _ ⟨_, sp_isLtM (d := d + 5) (lt_see (fun z => (t.2.2 a z).2)), ?_⟩
      rintro _ _ ⟨rfl, rfl⟩
      rw [decide_eq_true (show a < n by omega), Bool.true_and]
      rw [rn] at he
      refine sg_X12_next0_87 _ _ (fun g => ?_) (fun g => ?_)
      · rw [b2i_0.mp g, if_neg (by simp)] at he
        exact fin a J x hqa (by omega) hF j12 j14 hqn hl he
      · rw [b2i_nz g, if_pos rfl] at he
        rw [j12, nI_1]
        exact ih (a + 1) _ x (by omega) (by omega) (hF.set (by omega)) (by rw [ms_self, upd_eq]) (by rw [ms_at (Or.inr (by omega))]; exact j14) hqn hl he
  -- digits
  have dg : ∀ (m a : Nat) (J : mx_I) (x : Int32), a + m = n → q ≤ a → FrN I J → J 120 12 = nI a → J 120 14 = nI q → J 120 15 = nI (nvN b q (min 4 (a - q))) → q < n → cLt (b q) = false → cDg (b q) = true → rn cDg b m a = rn cDg b (n - q) q → mx_Go l (mx_rm (d + 7 + 1) 0 0) mX12_next0 (mx_Z Q 0 0) 0 0 126 [.ref 120, .int x, .retAddr 0] [] (sk0 c, J) := by
    have fin : ∀ (a : Nat) (J : mx_I), q ≤ a → a ≤ n → FrN I J → J 120 12 = nI a → J 120 14 = nI q → J 120 15 = nI (nvN b q (min 4 (a - q))) → q < n → cLt (b q) = false → cDg (b q) = true → a = rn cDg b (n - q) q → ((5 ≤ J 120 12 - J 120 14) → Q none (sk0 c, mx_set J 120 13 1)) ∧ ((¬ 5 ≤ J 120 12 - J 120 14) → Q none (sk0 c, mx_set J 120 13 2)) := by
      intro a J ha1 ha2 hF j12 j14 j15 hqn hl hdg he
      have sub : J 120 12 - J 120 14 = nI (a - q) := by rw [j12, j14, pk_sub (by omega)]
      have hle : (5 : Int32) ≤ nI (a - q) ↔ 5 ≤ a - q := by rw [show (5 : Int32) = nI 5 from rfl, nI_leI (by omega) (by omega)]
      rw [sub, hle]
      have hx : nxL b n L = (a, if a - q ≤ 4 then 1 else 25, q, nI (nvN b q (min 4 (a - q)))) := by
        unfold nxL
        rw [← hq, if_neg (by omega), if_neg (by rw [hl]; simp), if_pos hdg, ← he]
      refine ⟨fun g => qi _ (hF.set (by omega)) ?_, fun g => qi _ (hF.set (by omega)) ?_⟩
      · rw [hx, if_neg (by omega)]
        refine ⟨by show 25 ≤ 25; omega, by rw [ms_at (Or.inr (by omega))]; exact j12, by rw [ms_self, upd_eq]; rfl, by rw [ms_at (Or.inr (by omega))]; exact j14, fun z => ?_⟩
        have z' : 25 = 1 := z
        omega
      · rw [hx, if_pos (by omega)]
        exact ⟨by show 1 ≤ 25; omega, by rw [ms_at (Or.inr (by omega))]; exact j12, by rw [ms_self, upd_eq]; rfl, by rw [ms_at (Or.inr (by omega))]; exact j14, fun _ => by rw [ms_at (Or.inr (by omega)), j15]; rfl⟩
    intro m
    induction m with
    | zero =>
      intro a J x ha hqa hF j12 j14 j15 hqn hl hdg he
      have t := hF.tp hT
      refine sg_X12_next0_126 _ ?_
      obtain ⟨f1, f2⟩ := fin a J hqa (by omega) hF j12 j14 j15 hqn hl hdg he
      rw [j12]
      refine ⟨_, sp_see (d := d + 6) t (by omega), ?_⟩
      rintro _ _ ⟨rfl, rfl⟩
      refine sg_X12_next0_134 _ _ ⟨_, sp_isDgM (d := d + 5) (dg_see (fun z => absurd z (by omega))), ?_⟩
      rintro _ _ ⟨rfl, rfl⟩
      rw [decide_eq_false (by omega), Bool.false_and]
      exact sg_X12_next0_137 _ _ (fun _ => f1) (fun _ => f2) (fun z => absurd rfl z) (fun z => absurd rfl z)
    | succ m ih =>
      intro a J x ha hqa hF j12 j14 j15 hqn hl hdg he
      have t := hF.tp hT
      refine sg_X12_next0_126 _ ?_
      rw [j12]
      refine ⟨_, sp_see (d := d + 6) t (by omega), ?_⟩
      rintro _ _ ⟨rfl, rfl⟩
      refine sg_X12_next0_134 _ _ ⟨_, sp_isDgM (d := d + 5) (dg_see (fun z => (t.2.2 a z).2)), ?_⟩
      rintro _ _ ⟨rfl, rfl⟩
      rw [decide_eq_true (show a < n by omega), Bool.true_and]
      rw [rn] at he
      have h4 : J 120 14 + 4 ≤ J 120 12 ↔ q + 4 ≤ a := by rw [j14, j12, show (4 : Int32) = nI 4 from rfl, nI_add, nI_leI (by omega) (by omega)]
      have yes : ¬ b2i (cDg (b a)) = 0 → cDg (b a) = true ∧ rn cDg b m (a + 1) = rn cDg b (n - q) q := fun g => by
        have hg := b2i_nz g
        rw [hg, if_pos rfl] at he
        exact ⟨hg, he⟩
      have no : b2i (cDg (b a)) = 0 → a = rn cDg b (n - q) q := fun g => by
        rw [b2i_0.mp g, if_neg (by simp)] at he
        exact he
      refine sg_X12_next0_137 _ _ (fun g => (fin a J hqa (by omega) hF j12 j14 j15 hqn hl hdg (no g)).1) (fun g => (fin a J hqa (by omega) hF j12 j14 j15 hqn hl hdg (no g)).2) (fun g g4 => ?_) (fun g g4 => ?_)
      · have k4 := h4.mp g4
        refine ih (a + 1) _ x (by omega) (by omega) (hF.set (by omega)) (by rw [ms_self, upd_eq, j12, nI_1]) (by rw [ms_at (Or.inr (by omega))]; exact j14) ?_ hqn hl hdg (yes g).2
        rw [ms_at (Or.inr (by omega)), j15, Nat.min_eq_left (by omega), Nat.min_eq_left (by omega)]
      · have k4 : ¬ q + 4 ≤ a := fun z => g4 (h4.mpr z)
        have hd2 := of_decide_eq_true (yes g).1
        rw [j12]
        refine ⟨_, sp_see (d := d + 6) t (by omega), ?_⟩
        rintro _ _ ⟨rfl, rfl⟩
        refine sg_X12_next0_169 _ _ _ (ih (a + 1) _ x (by omega) (by omega) ((hF.set (by omega)).set (by omega)) (by rw [ms_self, upd_eq, j12, nI_1]) (by rw [ms_at (Or.inr (by omega)), ms_at (Or.inr (by omega))]; exact j14) ?_ hqn hl hdg (yes g).2)
        rw [ms_at (Or.inr (by omega)), ms_self, upd_eq, j15, seeV, if_pos (by omega), show (10 : Int32) = nI 10 from rfl, pk_mul, nI_add, show (48 : Int32) = nI 48 from rfl, pk_sub (by omega), Nat.min_eq_right (by omega), Nat.min_eq_right (by omega), show a + 1 - q = (a - q) + 1 from by omega, nvN, show q + (a - q) = a from by omega]
        congr 1
        omega
  -- blanks
  have sp : ∀ (m a : Nat) (J : mx_I), a + m = n → FrN I J → J 120 12 = nI a → rn cSp b m a = q → mx_Go l (mx_rm (d + 7 + 1) 0 0) mX12_next0 (mx_Z Q 0 0) 0 0 0 [.ref 120, .retAddr 0, .retAddr 0] [] (sk0 c, J) := by
    intro m
    induction m with
    | zero =>
      intro a J ha hF j12 he
      have t := hF.tp hT
      have he' : a = q := he
      have sv : seeV b n a = -1 := if_neg (by omega)
      have t2 : TpM b n (mx_set J 120 14 (nI a)) := (hF.set (f := 14) (x := nI a) (by omega)).tp hT
      refine sg_X12_next0_0 ?_
      rw [j12]
      refine ⟨_, sp_see (d := d + 6) t (by omega), ?_⟩
      rintro _ _ ⟨rfl, rfl⟩
      rw [sv]
      refine sg_X12_next0_8 _ (fun z => absurd z (by decide)) (fun _ => ?_)
      rw [j12]
      refine ⟨_, sp_see (d := d + 6) t (by omega), ?_⟩
      rintro _ _ ⟨rfl, rfl⟩
      rw [sv]
      refine sg_X12_next0_21 _ (fun _ => ?_) (fun z => absurd z (by decide))
      rw [j12]
      refine ⟨_, sp_see (d := d + 6) t2 (by omega), ?_⟩
      rintro _ _ ⟨rfl, rfl⟩
      rw [sv]
      refine sg_X12_next0_55 _ (fun z => absurd rfl z) (fun _ => qi _ ((hF.set (by omega)).set (by omega)) ?_)
      have hx : nxL b n L = (q, 0, q, if 0 ≤ L.vl.toInt then L.vl else 0) := by
        unfold nxL
        rw [← hq, if_pos (by omega)]
      rw [hx]
      refine ⟨by show 0 ≤ 25; omega, by rw [ms_at (Or.inr (by omega)), ms_at (Or.inr (by omega)), j12, he'], by rw [ms_self, upd_eq]; rfl, by rw [ms_at (Or.inr (by omega)), ms_self, upd_eq, he']; rfl, fun z => ?_⟩
      have z' : 0 = 1 := z
      omega
    | succ m ih =>
      intro a J ha hF j12 he
      have t := hF.tp hT
      have ta := t.2.2 a (by omega)
      have sv : seeV b n a = nI (b a) := if_pos (by omega)
      have e32 : nI (b a) = 32 ↔ b a = 32 := (nI_255 ta.2 (y := 32) (by omega)).2.2
      have e10 : nI (b a) = 10 ↔ b a = 10 := (nI_255 ta.2 (y := 10) (by omega)).2.2
      rw [rn] at he
      have on : cSp (b a) = true → mx_Go l (mx_rm (d + 7 + 1) 0 0) mX12_next0 (mx_Z Q 0 0) 0 0 0 [.ref 120, .retAddr 0, .retAddr 0] [] (sk0 c, mx_set J 120 12 (J 120 12 + 1)) := fun z => by
        rw [z, if_pos rfl] at he
        exact ih (a + 1) _ (by omega) (hF.set (by omega)) (by rw [ms_self, upd_eq, j12, nI_1]) he
      refine sg_X12_next0_0 ?_
      rw [j12]
      refine ⟨_, sp_see (d := d + 6) t (by omega), ?_⟩
      rintro _ _ ⟨rfl, rfl⟩
      rw [sv]
      refine sg_X12_next0_8 _ (fun z => on (decide_eq_true (Or.inl (e32.mp z)))) (fun g1 => ?_)
      rw [j12]
      refine ⟨_, sp_see (d := d + 6) t (by omega), ?_⟩
      rintro _ _ ⟨rfl, rfl⟩
      rw [sv]
      refine sg_X12_next0_21 _ (fun g2 => ?_) (fun z => on (decide_eq_true (Or.inr (e10.mp z))))
      have hns : cSp (b a) = false := decide_eq_false (fun z => z.elim (fun w => g1 (e32.mpr w)) (fun w => g2 (e10.mpr w)))
      rw [hns, if_neg (by simp)] at he
      subst he
      rw [j12]
      have hF2 : FrN I (mx_set J 120 14 (nI a)) := hF.set (by omega)
      have k12 : mx_set J 120 14 (nI a) 120 12 = nI a := by rw [ms_at (Or.inr (by omega))]; exact j12
      have k14 : mx_set J 120 14 (nI a) 120 14 = nI a := by rw [ms_self, upd_eq]
      generalize mx_set J 120 14 (nI a) = K at hF2 k12 k14 ⊢
      have t2 := hF2.tp hT
      refine ⟨_, sp_see (d := d + 6) t2 (by omega), ?_⟩
      rintro _ _ ⟨rfl, rfl⟩
      have nm1 : ¬ nI (b a) = -1 := nI_n1 (by have := ta.2; omega)
      rw [sv]
      have ltv : (inR (nI (b a)) 97 122 || inR (nI (b a)) 65 90) = cLt (b a) := by
        have := lt_see (b := b) (n := n) (a := a) (fun _ => ta.2)
        rw [sv, decide_eq_true (show a < n by omega), Bool.true_and] at this
        exact this
      have dgv : inR (nI (b a)) 48 57 = cDg (b a) := by
        have := dg_see (b := b) (n := n) (a := a) (fun _ => ta.2)
        rw [sv, decide_eq_true (show a < n by omega), Bool.true_and] at this
        exact this
      refine sg_X12_next0_55 _ (fun _ => ⟨_, sp_isLtM (d := d + 5) ltv, ?_⟩) (fun z => absurd z nm1)
      rintro _ _ ⟨rfl, rfl⟩
      refine sg_X12_next0_73 _ _ (fun g => ⟨_, sp_isDgM (d := d + 5) dgv, ?_⟩) (fun g => lt (n - a) a K _ (by omega) (Nat.le_refl _) hF2 k12 k14 (by omega) (b2i_nz g) rfl)
      have hlf := b2i_0.mp g
      rintro _ _ ⟨rfl, rfl⟩
      have sgn : b2i (cDg (b a)) = 0 → ∀ (v : Int32), v = nI (mtk (cSg (b a))) → Q none (sk0 c, mx_set (mx_set K 120 12 (K 120 12 + 1)) 120 13 v) := fun g3 v hv => by
        have hx : nxL b n L = (a + 1, cSg (b a), a, if 0 ≤ L.vl.toInt then L.vl else 0) := by
          unfold nxL
          rw [← hq, if_neg (by omega), if_neg (by rw [hlf]; simp), if_neg (by rw [b2i_0.mp g3]; simp)]
        refine qi _ ((hF2.set (by omega)).set (by omega)) ?_
        rw [hx]
        refine ⟨(cSg_ne (b a)).2, by rw [ms_at (Or.inr (by omega)), ms_self, upd_eq, k12, nI_1], by rw [ms_self, upd_eq]; exact hv, by rw [ms_at (Or.inr (by omega)), ms_at (Or.inr (by omega))]; exact k14, fun z => ?_⟩
        have z' : cSg (b a) = 1 := z
        have := (cSg_ne (b a)).1
        omega
      have e : ∀ {y : Nat}, y ≤ 255 → nI (b a) = nI y → b a = y := fun hy h => ((nI_255 ta.2 hy).2.2).mp h
      refine sg_X12_next0_118 _ _ (fun g3 h => sgn g3 _ ?_) (fun g3 _ h => sgn g3 _ ?_) (fun g3 _ _ h => sgn g3 _ ?_) (fun g3 _ _ _ h => sgn g3 _ ?_) (fun g3 _ _ _ _ h => sgn g3 _ ?_) (fun g3 _ _ _ _ _ h => sgn g3 _ ?_) (fun g3 _ _ _ _ _ _ h => sgn g3 _ ?_) (fun g3 _ _ _ _ _ _ _ h => sgn g3 _ ?_) (fun g3 _ _ _ _ _ _ _ _ h => sgn g3 _ ?_) (fun g3 n59 n43 n45 n42 n47 n40 n41 n60 n61 n62 => sgn g3 _ ?_) (fun g3 _ _ _ _ _ _ _ _ _ h => sgn g3 _ ?_) (fun g3 => dg (n - a) a _ _ (by omega) (Nat.le_refl _) (hF2.set (by omega)) (by rw [ms_at (Or.inr (by omega))]; exact k12) (by rw [ms_at (Or.inr (by omega))]; exact k14) (by rw [ms_self, upd_eq, Nat.sub_self]; rfl) (by omega) hlf (b2i_nz g3) rfl)
      · rw [e (y := 59) (by omega) h]; decide
      · rw [e (y := 43) (by omega) h]; decide
      · rw [e (y := 45) (by omega) h]; decide
      · rw [e (y := 42) (by omega) h]; decide
      · rw [e (y := 47) (by omega) h]; decide
      · rw [e (y := 40) (by omega) h]; decide
      · rw [e (y := 41) (by omega) h]; decide
      · rw [e (y := 60) (by omega) h]; decide
      · rw [e (y := 61) (by omega) h]; decide
      · have h25 : cSg (b a) = 25 := by
          rcases cSg_tab 0 (by omega) (b a) with (h | h | h | h | h | h | h | h | h | h) | h
          · exact absurd (by rw [h]; rfl) n40
          · exact absurd (by rw [h]; rfl) n41
          · exact absurd (by rw [h]; rfl) n42
          · exact absurd (by rw [h]; rfl) n43
          · exact absurd (by rw [h]; rfl) n45
          · exact absurd (by rw [h]; rfl) n47
          · exact absurd (by rw [h]; rfl) n59
          · exact absurd (by rw [h]; rfl) n60
          · exact absurd (by rw [h]; rfl) n61
          · exact absurd (by rw [h]; rfl) n62
          · exact h
        rw [h25]; rfl
      · rw [e (y := 62) (by omega) h]; decide
  exact sn_X12_next0 (sp (n - L.1) L.1 I (by omega) FrN.refl h12 hq.symm)
end M
