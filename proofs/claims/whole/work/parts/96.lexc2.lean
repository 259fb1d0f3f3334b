/-! the class's nextToken -/
section C
variable {l : Launch} {c : Nat}
theorem sp_spelling {d w : Nat} {I : mx_I} (h1 : 2 ≤ w) (h2 : w ≤ 14) : mx_Spec l mX8_spelling (d + 1) 0 0 [.int (nI w)] (sk0 c, I) (fun r h' => r = some (.ref (1001 + (w - 2))) ∧ h' = (sk0 c, I)) := by
  have e : ∀ {y : Nat}, y ≤ 255 → nI w = nI y → w = y := fun hy h => ((nI_255 (by omega) hy).2.2).mp h
  refine sn_X8_spelling _ (fun h => ?_) (fun h => ?_) (fun h => ?_) (fun h => ?_) (fun h => ?_) (fun h => ?_) (fun h => ?_) (fun h => ?_) (fun h => ?_) (fun h => ?_) (fun h => ?_) (fun h => ?_) (fun h => ?_) ?_
  · have := e (y := 2) (by omega) h; subst this; exact ⟨rfl, rfl⟩
  · have := e (y := 3) (by omega) h; subst this; exact ⟨rfl, rfl⟩
  · have := e (y := 4) (by omega) h; subst this; exact ⟨rfl, rfl⟩
  · have := e (y := 5) (by omega) h; subst this; exact ⟨rfl, rfl⟩
  · have := e (y := 6) (by omega) h; subst this; exact ⟨rfl, rfl⟩
  · have := e (y := 7) (by omega) h; subst this; exact ⟨rfl, rfl⟩
  · have := e (y := 8) (by omega) h; subst this; exact ⟨rfl, rfl⟩
  · have := e (y := 9) (by omega) h; subst this; exact ⟨rfl, rfl⟩
  · have := e (y := 10) (by omega) h; subst this; exact ⟨rfl, rfl⟩
  · have := e (y := 11) (by omega) h; subst this; exact ⟨rfl, rfl⟩
  · have := e (y := 12) (by omega) h; subst this; exact ⟨rfl, rfl⟩
  · have := e (y := 13) (by omega) h; subst this; exact ⟨rfl, rfl⟩
  · have := e (y := 14) (by omega) h; subst this; exact ⟨rfl, rfl⟩
  · intro a2 a3 a4 a5 a6 a7 a8 a9 a10 a11 a12 a13 a14
    have : w = 2 ∨ w = 3 ∨ w = 4 ∨ w = 5 ∨ w = 6 ∨ w = 7 ∨ w = 8 ∨ w = 9 ∨ w = 10 ∨ w = 11 ∨ w = 12 ∨ w = 13 ∨ w = 14 := by omega
    rcases this with rfl | rfl | rfl | rfl | rfl | rfl | rfl | rfl | rfl | rfl | rfl | rfl | rfl
    · exact absurd rfl a2
    · exact absurd rfl a3
    · exact absurd rfl a4
    · exact absurd rfl a5
    · exact absurd rfl a6
    · exact absurd rfl a7
    · exact absurd rfl a8
    · exact absurd rfl a9
    · exact absurd rfl a10
    · exact absurd rfl a11
    · exact absurd rfl a12
    · exact absurd rfl a13
    · exact absurd rfl a14
theorem sp_keyword {d q len n : Nat} {b : Nat → Nat} {I : mx_I} (hT : TpC b n I) (h11 : I 47 11 = nI (q + len)) (h13 : I 47 13 = nI q) (hn : q + len ≤ n) : mx_Spec l mX8_keyword (d + 6) 0 0 [.ref 47] (sk0 c, I) (fun r h' => r = some (.int (nI (kwF b q len 13 2))) ∧ h' = (sk0 c, I)) := by
  have lp : ∀ (m w : Nat), w + m = 15 → 2 ≤ w → kwF b q len m w = kwF b q len 13 2 → mx_Go l (mx_rm (d + 5 + 1) 0 0) mX8_keyword (mx_Z (fun r h' => r = some (.int (nI (kwF b q len 13 2))) ∧ h' = (sk0 c, I)) 0 0) 0 0 2 [.ref 47, .int (nI w)] [] (sk0 c, I) := by
    intro m
    induction m with
    | zero =>
      intro w hw h2 hk
      have e1 : (14 : Int32) < nI w := by rw [show (14 : Int32) = nI 14 from rfl, nI_ltI (by omega) (by omega)]; omega
      exact sg_X8_keyword_2 _ (fun _ => ⟨by rw [← hk]; rfl, rfl⟩) (fun z => absurd e1 z)
    | succ m ih =>
      intro w hw h2 hk
      have e1 : ¬ (14 : Int32) < nI w := fun z => by rw [show (14 : Int32) = nI 14 from rfl, nI_ltI (by omega) (by omega)] at z; omega
      refine sg_X8_keyword_2 _ (fun z => absurd z e1) (fun _ => ⟨_, sp_spelling (d := d + 4) h2 (by omega), ?_⟩)
      rintro _ _ ⟨rfl, rfl⟩
      refine sg_X8_keyword_13 _ _ ⟨_, sp_isSpelt (d := d) (by omega) hT h11 h13 hn, ?_⟩
      rintro _ _ ⟨rfl, rfl⟩
      rw [kwF] at hk
      refine sg_X8_keyword_16 _ _ (fun g => ?_) (fun g => ⟨?_, rfl⟩)
      · rw [nI_1]
        rw [b2i_0.mp g, if_neg (by simp)] at hk
        exact ih (w + 1) (by omega) (by omega) hk
      · have : spS b q len (w - 2) = true := by
          cases q' : spS b q len (w - 2) with
          | true => rfl
          | false => exact absurd (b2i_0.mpr q') g
        rw [this, if_pos rfl] at hk
        rw [hk]
  exact sn_X8_keyword (lp 13 2 rfl (by omega) rfl)
/-- what a token leaves -/
def FrC (I J : mx_I) : Prop := (∀ k, k ≠ 47 → J k = I k) ∧ ∀ f, f < 11 ∨ 14 < f → J 47 f = I 47 f
theorem FrC.set {I J : mx_I} (h : FrC I J) {f : Nat} {x : Int32} (h1 : 11 ≤ f ∧ f ≤ 14) : FrC I (mx_set J 47 f x) := ⟨fun k hk => by rw [ms_ne hk]; exact h.1 k hk, fun g hg => by rw [ms_at (Or.inr (by omega))]; exact h.2 g hg⟩
theorem FrC.tp {I J : mx_I} {b : Nat → Nat} {n : Nat} (h : FrC I J) (hT : TpC b n I) : TpC b n J := ⟨hT.1, by rw [h.2 3 (by omega)]; exact hT.2.1, fun i hi => by rw [h.1 48 (by omega)]; exact hT.2.2 i hi⟩
def TokC (I : mx_I) (L : LX) (J : mx_I) : Prop := FrC I J ∧ J 47 11 = nI L.1 ∧ J 47 12 = nI L.tk ∧ J 47 13 = nI L.pl ∧ (L.tk = 1 → J 47 14 = L.vl)
set_option maxHeartbeats 2000000 in
theorem sp_nextToken {d n : Nat} {b : Nat → Nat} {I : mx_I} {L : LX} (hT : TpC b n I) (h11 : I 47 11 = nI L.1) (hn : L.1 ≤ n) : mx_Spec l mX8_nextToken (d + 7) 0 0 [.ref 47] (sk0 c, I) (fun r h' => r = none ∧ ∃ J, h' = (sk0 c, J) ∧ TokC I (nxL b n L) J) := by
  obtain ⟨q, hq⟩ : ∃ q, q = rn cSp b (n - L.1) L.1 := ⟨_, rfl⟩
  have hql := rn_le (p := cSp) (b := b) (n - L.1) L.1
  rw [← hq] at hql
  have n400 := hT.1
  -- letters
  have lt : ∀ (m a : Nat) (J : mx_I), a + m = n → q ≤ a → FrC I J → J 47 11 = nI a → J 47 13 = nI q → q < n → cLt (b q) = true → rn cLt b m a = rn cLt b (n - q) q → mx_Go l (mx_rm (d + 6 + 1) 0 0) mX8_nextToken (mx_Z (fun r h' => r = none ∧ ∃ J, h' = (sk0 c, J) ∧ TokC I (nxL b n L) J) 0 0) 0 0 94 [.ref 47] [] (sk0 c, J) := by
    have fin : ∀ (a : Nat) (J : mx_I), q ≤ a → a ≤ n → FrC I J → J 47 11 = nI a → J 47 13 = nI q → q < n → cLt (b q) = true → a = rn cLt b (n - q) q → mx_K1 l mX8_keyword (d + 6) [.ref 47] (sk0 c, J) (fun r h' => mx_Go l (mx_rm (d + 6 + 1) 0 0) mX8_nextToken (mx_Z (fun r h' => r = none ∧ ∃ J, h' = (sk0 c, J) ∧ TokC I (nxL b n L) J) 0 0) 0 0 138 [.ref 47] (r.toList ++ [.ref 47]) h') := by
      intro a J ha1 ha2 hF j11 j13 hqn hl he
      refine ⟨_, sp_keyword (d := d) (q := q) (len := a - q) (hF.tp hT) (by rw [j11, show q + (a - q) = a from by omega]) j13 (by omega), ?_⟩
      rintro _ _ ⟨rfl, rfl⟩
      refine sg_X8_nextToken_138 _ ⟨rfl, _, rfl, ?_⟩
      have hx : nxL b n L = (a, kwF b q (a - q) 13 2, q, if 0 ≤ L.vl.toInt then L.vl else 0) := by
        unfold nxL
        rw [← hq, if_neg (by omega), if_pos hl, ← he]
      have hk := kwF_ge b q (a - q) 13 2 (by omega) (by omega)
      rw [hx]
      refine ⟨hF.set (by omega), by rw [ms_at (Or.inr (by omega))]; exact j11, by rw [ms_self, upd_eq]; rfl, by rw [ms_at (Or.inr (by omega))]; exact j13, fun z => ?_⟩
      have z' : kwF b q (a - q) 13 2 = 1 := z
      omega
    intro m
    induction m with
    | zero =>
      intro a J ha hqa hF j11 j13 hqn hl he
      have t := hF.tp hT
      have e1 : J 47 3 ≤ J 47 11 := by rw [t.2.1, j11]; exact (nI_leI (by omega) (by omega)).mpr (by omega)
      exact sg_X8_nextToken_94 (fun _ => fin a J hqa (by omega) hF j11 j13 hqn hl he) (fun z => absurd e1 z) (fun z => absurd e1 z)
    | succ m ih =>
      intro a J ha hqa hF j11 j13 hqn hl he
      have t := hF.tp hT
      have e1 : ¬ J 47 3 ≤ J 47 11 := fun z => by rw [t.2.1, j11, nI_leI (by omega) (by omega)] at z; omega
      have S := fun Q => @sg_X8_nextToken_94 l (d + 6) Q c J
      rw [j11, nI_clamp (n := a) (by omega), (t.2.2 a (by omega)).1] at S
      rw [j11] at e1
      refine S _ (fun z => absurd z e1) (fun _ => i_vp (by omega) (by omega)) (fun _ => ⟨_, sp_isLtC (d := d + 5) (t.2.2 a (by omega)).2, ?_⟩)
      rintro _ _ ⟨rfl, rfl⟩
      rw [rn] at he
      refine sg_X8_nextToken_117 _ (fun g => ?_) (fun g => ?_)
      · rw [b2i_0.mp g, if_neg (by simp)] at he
        exact fin a J hqa (by omega) hF j11 j13 hqn hl he
      · have hg : cLt (b a) = true := by
          cases z : cLt (b a) with
          | true => rfl
          | false => exact absurd (b2i_0.mpr z) g
        rw [hg, if_pos rfl] at he
        rw [j11, nI_1]
        exact ih (a + 1) _ (by omega) (by omega) (hF.set (by omega)) (by rw [ms_self, upd_eq]) (by rw [ms_at (Or.inr (by omega))]; exact j13) hqn hl he
  -- digits
  have dg : ∀ (m a : Nat) (J : mx_I), a + m = n → q ≤ a → FrC I J → J 47 11 = nI a → J 47 13 = nI q → (a - q ≤ 4 → J 47 14 = nI (nvN b q (a - q))) → q < n → cLt (b q) = false → cDg (b q) = true → rn cDg b m a = rn cDg b (n - q) q → mx_Go l (mx_rm (d + 6 + 1) 0 0) mX8_nextToken (mx_Z (fun r h' => r = none ∧ ∃ J, h' = (sk0 c, J) ∧ TokC I (nxL b n L) J) 0 0) 0 0 164 [.ref 47] [] (sk0 c, J) := by
    have fin : ∀ (a : Nat) (J : mx_I), q ≤ a → a ≤ n → FrC I J → J 47 11 = nI a → J 47 13 = nI q → (a - q ≤ 4 → J 47 14 = nI (nvN b q (a - q))) → q < n → cLt (b q) = false → cDg (b q) = true → a = rn cDg b (n - q) q → ((4 < J 47 11 - J 47 13) → (none : Option Value) = none ∧ ∃ J', ((sk0 c, mx_set J 47 12 25) : mx_H) = (sk0 c, J') ∧ TokC I (nxL b n L) J') ∧ ((¬ 4 < J 47 11 - J 47 13) → (none : Option Value) = none ∧ ∃ J', ((sk0 c, mx_set J 47 12 1) : mx_H) = (sk0 c, J') ∧ TokC I (nxL b n L) J') := by
      intro a J ha1 ha2 hF j11 j13 j14 hqn hl hdg he
      have sub : J 47 11 - J 47 13 = nI (a - q) := by rw [j11, j13, pk_sub (by omega)]
      have hlt : (4 : Int32) < nI (a - q) ↔ 4 < a - q := by rw [show (4 : Int32) = nI 4 from rfl, nI_ltI (by omega) (by omega)]
      rw [sub, hlt]
      have hx : nxL b n L = (a, if a - q ≤ 4 then 1 else 25, q, nI (nvN b q (min 4 (a - q)))) := by
        unfold nxL
        rw [← hq, if_neg (by omega), if_neg (by rw [hl]; simp), if_pos hdg, ← he]
      rw [hx]
      refine ⟨fun g => ⟨rfl, _, rfl, ?_⟩, fun g => ⟨rfl, _, rfl, ?_⟩⟩
      · rw [if_neg (by omega)]
        refine ⟨hF.set (by omega), by rw [ms_at (Or.inr (by omega))]; exact j11, by rw [ms_self, upd_eq]; rfl, by rw [ms_at (Or.inr (by omega))]; exact j13, fun z => ?_⟩
        have z' : 25 = 1 := z
        omega
      · rw [if_pos (by omega)]
        refine ⟨hF.set (by omega), by rw [ms_at (Or.inr (by omega))]; exact j11, by rw [ms_self, upd_eq]; rfl, by rw [ms_at (Or.inr (by omega))]; exact j13, fun _ => ?_⟩
        rw [ms_at (Or.inr (by omega)), j14 (by omega)]
        show _ = nI (nvN b q (min 4 (a - q)))
        rw [Nat.min_eq_right (by omega)]
    intro m
    induction m with
    | zero =>
      intro a J ha hqa hF j11 j13 j14 hqn hl hdg he
      have t := hF.tp hT
      have e1 : J 47 3 ≤ J 47 11 := by rw [t.2.1, j11]; exact (nI_leI (by omega) (by omega)).mpr (by omega)
      obtain ⟨f1, f2⟩ := fin a J hqa (by omega) hF j11 j13 j14 hqn hl hdg he
      exact sg_X8_nextToken_164 (fun _ z => f1 z) (fun _ z => f2 z) (fun z => absurd e1 z) (fun z => absurd e1 z)
    | succ m ih =>
      intro a J ha hqa hF j11 j13 j14 hqn hl hdg he
      have t := hF.tp hT
      have e1 : ¬ J 47 3 ≤ J 47 11 := fun z => by rw [t.2.1, j11, nI_leI (by omega) (by omega)] at z; omega
      have ta := t.2.2 a (by omega)
      have cl : (J 47 11).toNatClampNeg = a := by rw [j11, nI_clamp (by omega)]
      have S := fun Q => @sg_X8_nextToken_164 l (d + 6) Q c J
      rw [cl, ta.1] at S
      refine S _ (fun z => absurd z e1) (fun z => absurd z e1) (fun _ => by rw [j11]; exact i_vp (by omega) (by omega)) (fun _ => ⟨_, sp_isDgC (d := d + 5) ta.2, ?_⟩)
      rintro _ _ ⟨rfl, rfl⟩
      rw [rn] at he
      have S2 := fun Q => @sg_X8_nextToken_187 l (d + 6) Q c J (b2i (cDg (b a)))
      rw [cl, ta.1] at S2
      refine S2 _ (fun g => ?_) (fun g => ?_) (fun _ => by rw [j11]; exact i_vp (by omega) (by omega)) (fun g => ?_)
      · rw [b2i_0.mp g, if_neg (by simp)] at he
        exact (fin a J hqa (by omega) hF j11 j13 j14 hqn hl hdg he).1
      · rw [b2i_0.mp g, if_neg (by simp)] at he
        exact (fin a J hqa (by omega) hF j11 j13 j14 hqn hl hdg he).2
      · have hg : cDg (b a) = true := by
          cases z : cDg (b a) with
          | true => rfl
          | false => exact absurd (b2i_0.mpr z) g
        have hd2 := of_decide_eq_true hg
        rw [hg, if_pos rfl] at he
        refine ih (a + 1) _ (by omega) (by omega) ((hF.set (by omega)).set (by omega)) (by rw [ms_self, upd_eq, j11, nI_1]) (by rw [ms_at (Or.inr (by omega)), ms_at (Or.inr (by omega))]; exact j13) (fun h4 => ?_) hqn hl hdg he
        rw [ms_at (Or.inr (by omega)), ms_self, upd_eq, j14 (by omega), show (10 : Int32) = nI 10 from rfl, pk_mul, nI_add, show (48 : Int32) = nI 48 from rfl, pk_sub (by omega), show a + 1 - q = (a - q) + 1 from by omega, nvN, show q + (a - q) = a from by omega]
        congr 1
        omega
  -- blanks
  have sp : ∀ (m a : Nat) (J : mx_I), a + m = n → FrC I J → J 47 11 = nI a → rn cSp b m a = q → mx_Go l (mx_rm (d + 6 + 1) 0 0) mX8_nextToken (mx_Z (fun r h' => r = none ∧ ∃ J, h' = (sk0 c, J) ∧ TokC I (nxL b n L) J) 0 0) 0 0 0 [.ref 47] [] (sk0 c, J) := by
    intro m
    induction m with
    | zero =>
      intro a J ha hF j11 he
      have t := hF.tp hT
      have e1 : J 47 3 ≤ J 47 11 := by rw [t.2.1, j11]; exact (nI_leI (by omega) (by omega)).mpr (by omega)
      have e2 : ¬ J 47 11 < J 47 3 := fun z => by rw [t.2.1, j11, nI_ltI (by omega) (by omega)] at z; omega
      have he' : a = q := he
      refine sg_X8_nextToken_0 (fun _ z => absurd z e2) (fun _ z => absurd z e2) (fun _ _ => ⟨rfl, _, rfl, ?_⟩) (fun z => absurd e1 z) (fun z => absurd e1 z) (fun z => absurd e1 z) (fun z => absurd e1 z) (fun z => absurd e1 z) (fun z => absurd e1 z) (fun z => absurd e1 z)
      have hx : nxL b n L = (q, 0, q, if 0 ≤ L.vl.toInt then L.vl else 0) := by
        unfold nxL
        rw [← hq, if_pos (by omega)]
      rw [hx]
      refine ⟨(hF.set (by omega)).set (by omega), by rw [ms_at (Or.inr (by omega)), ms_at (Or.inr (by omega)), j11, he'], by rw [ms_self, upd_eq]; rfl, by rw [ms_at (Or.inr (by omega)), ms_self, upd_eq, j11, he']; rfl, fun z => ?_⟩
      have z' : 0 = 1 := z
      omega
    | succ m ih =>
      intro a J ha hF j11 he
      have t := hF.tp hT
      have e1 : ¬ J 47 3 ≤ J 47 11 := fun z => by rw [t.2.1, j11, nI_leI (by omega) (by omega)] at z; omega
      have e2 : J 47 11 < J 47 3 := by rw [t.2.1, j11, nI_ltI (by omega) (by omega)]; omega
      have ta := t.2.2 a (by omega)
      have cl : (J 47 11).toNatClampNeg = a := by rw [j11, nI_clamp (by omega)]
      have S := fun Q => @sg_X8_nextToken_0 l (d + 6) Q c J
      rw [cl, ta.1] at S
      have e32 : nI (b a) = 32 ↔ b a = 32 := (nI_255 ta.2 (y := 32) (by omega)).2.2
      have e10 : nI (b a) = 10 ↔ b a = 10 := (nI_255 ta.2 (y := 10) (by omega)).2.2
      rw [rn] at he
      have b1 : vp_in (J 47 11) 400 := by rw [j11]; exact i_vp (by omega) (by omega)
      have on : cSp (b a) = true → mx_Go l (mx_rm (d + 6 + 1) 0 0) mX8_nextToken (mx_Z (fun r h' => r = none ∧ ∃ J, h' = (sk0 c, J) ∧ TokC I (nxL b n L) J) 0 0) 0 0 0 [.ref 47] [] (sk0 c, mx_set J 47 11 (J 47 11 + 1)) := fun z => by
        rw [z, if_pos rfl] at he
        exact ih (a + 1) _ (by omega) (hF.set (by omega)) (by rw [ms_self, upd_eq, j11, nI_1]) he
      refine S _ (fun z => absurd z e1) (fun z => absurd z e1) (fun z => absurd z e1) (fun _ => b1) (fun _ g => on (decide_eq_true (Or.inl (e32.mp g)))) (fun _ _ => b1) (fun _ _ _ _ => b1) (fun _ g1 g2 _ => ⟨_, sp_isLtC (d := d + 5) ta.2, ?_⟩) (fun _ _ _ z => absurd e2 z) (fun _ _ g => on (decide_eq_true (Or.inr (e10.mp g))))
      have hns : cSp (b a) = false := decide_eq_false (fun z => z.elim (fun w => g1 (e32.mpr w)) (fun w => g2 (e10.mpr w)))
      rw [hns, if_neg (by simp)] at he
      subst he
      rintro _ _ ⟨rfl, rfl⟩
      have hF2 : FrC I (mx_set J 47 13 (J 47 11)) := hF.set (by omega)
      have k11 : mx_set J 47 13 (J 47 11) 47 11 = nI a := by rw [ms_at (Or.inr (by omega))]; exact j11
      have k13 : mx_set J 47 13 (J 47 11) 47 13 = nI a := by rw [ms_self, upd_eq]; exact j11
      generalize mx_set J 47 13 (J 47 11) = K at hF2 k11 k13 ⊢
      have t2 := hF2.tp hT
      have ta2 := t2.2.2 a (by omega)
      have cl2 : (K 47 11).toNatClampNeg = a := by rw [k11, nI_clamp (by omega)]
      have b2 : vp_in (K 47 11) 400 := by rw [k11]; exact i_vp (by omega) (by omega)
      have S2 := fun Q => @sg_X8_nextToken_91 l (d + 6) Q c K (b2i (cLt (b a)))
      rw [cl2, ta2.1] at S2
      refine S2 _ (fun _ => b2) (fun g => ⟨_, sp_isDgC (d := d + 5) ta2.2, ?_⟩) (fun g => ?_)
      · have hlf := b2i_0.mp g
        rintro _ _ ⟨rfl, rfl⟩
        have S3 := fun Q => @sg_X8_nextToken_156 l (d + 6) Q c K (b2i (cDg (b a)))
        rw [cl2, ta2.1] at S3
        refine S3 _ (fun _ => b2) (fun g3 => ⟨_, sp_signC (d := d + 5) ta2.2, ?_⟩) (fun g3 => ?_)
        · rintro _ _ ⟨rfl, rfl⟩
          refine sg_X8_nextToken_266 _ ⟨rfl, _, rfl, ?_⟩
          have hx : nxL b n L = (a + 1, cSg (b a), a, if 0 ≤ L.vl.toInt then L.vl else 0) := by
            unfold nxL
            rw [← hq, if_neg (by omega), if_neg (by rw [hlf]; simp), if_neg (by rw [b2i_0.mp g3]; simp)]
          rw [hx]
          refine ⟨(hF2.set (by omega)).set (by omega), by rw [ms_self, upd_eq, k11, nI_1], by rw [ms_at (Or.inr (by omega)), ms_self, upd_eq]; rfl, by rw [ms_at (Or.inr (by omega)), ms_at (Or.inr (by omega))]; exact k13, fun z => ?_⟩
          have z' : cSg (b a) = 1 := z
          have := (cSg_ne (b a)).1
          omega
        · have hg : cDg (b a) = true := by
            cases z : cDg (b a) with
            | true => rfl
            | false => exact absurd (b2i_0.mpr z) g3
          exact dg (n - a) a _ (by omega) (Nat.le_refl _) (hF2.set (by omega)) (by rw [ms_at (Or.inr (by omega))]; exact k11) (by rw [ms_at (Or.inr (by omega))]; exact k13) (fun _ => by rw [ms_self, upd_eq, Nat.sub_self]; rfl) (by omega) hlf hg rfl
      · have hg : cLt (b a) = true := by
          cases z : cLt (b a) with
          | true => rfl
          | false => exact absurd (b2i_0.mpr z) g
        exact lt (n - a) a K (by omega) (Nat.le_refl _) hF2 k11 k13 (by omega) hg rfl
  exact sn_X8_nextToken (sp (n - L.1) L.1 I (by omega) ⟨fun _ _ => rfl, fun _ _ => rfl⟩ h11 hq.symm)
end C
