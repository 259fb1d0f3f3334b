/-! pairs over hours: over, back, gathers, waits -/
section M
variable {l : Launch} {c : Nat}
theorem sp_isThere0 {d : Nat} {I : mx_I} {x : Nat} {y : Int32} (hx : x < 30) : mx_Spec l mX12_isThere (d + 2) 0 0 [.ref 120, .int (nI x), .int y] (sk0 c, I) (fun r h' => r = some (.int (b2i (decide (I 121 (25 + 10 * x) = y ∧ I 121 (28 + 10 * x) = 0)))) ∧ h' = (sk0 c, I)) := by
  refine sn_X12_isThere _ _ ⟨_, sp_ofLoad 5 rfl (by omega) (by omega), ?_⟩
  rintro _ _ ⟨rfl, rfl⟩
  rw [show 20 + 10 * x + 5 = 25 + 10 * x from by omega]
  refine sg_X12_isThere_6 _ _ _ (fun g => ⟨by rw [decide_eq_false (fun z => g z.1)]; rfl, rfl⟩) (fun g => ⟨_, sp_ofLoad 8 rfl (by omega) (by omega), ?_⟩)
  rintro _ _ ⟨rfl, rfl⟩
  rw [show 20 + 10 * x + 8 = 28 + 10 * x from by omega]
  exact sg_X12_isThere_17 _ _ _ (fun g2 => ⟨by rw [decide_eq_false (fun z => g2 z.2)]; rfl, rfl⟩) (fun g2 => ⟨by rw [decide_eq_true ⟨g, g2⟩]; rfl, rfl⟩)
theorem sp_isAt {d k : Nat} {I : mx_I} {x : Nat} {y : Int32} (hk : at9 (sk0 c) k) (hx : x < 30) : mx_Spec l mX9_isAt (d + 1) 0 0 [.ref k, .int (nI x), .int y] (sk0 c, I) (fun r h' => r = some (.int (b2i (decide (I (k + 1) x = y ∧ I (k + 4) x = 0)))) ∧ h' = (sk0 c, I)) := by
  have S := fun Q => @sn_X9_isAt l d Q c I k (nI x) y hk
  rw [nI_clamp (n := x) (by omega)] at S
  have b1 : vp_in (nI x) 30 := i_vp hx (by omega)
  refine S _ b1 (fun g => ⟨by rw [decide_eq_false (fun z => g z.1)]; rfl, rfl⟩) (fun _ => b1) (fun _ g => ⟨by rw [decide_eq_false (fun z => g z.2)]; rfl, rfl⟩) (fun g1 g2 => ⟨by rw [decide_eq_true ⟨g1, g2⟩]; rfl, rfl⟩)
/-- a thought of the model begins, and ends -/
def MBeg (K0 K1 : mx_I) : Prop := (∀ k, k ≠ 120 → k ≠ 123 → K1 k = K0 k) ∧ (∀ j, j ≠ 21 → K1 120 j = K0 120 j) ∧ K1 120 21 = 1 ∧ ∀ i, i < 600 → K1 123 i = K0 121 i
theorem mth_begin {d : Nat} {K0 : mx_I} {Pq : Option Value → mx_H → Prop} (k : ∀ K1, MBeg K0 K1 → Pq none (sk0 c, K1)) : mx_K1 l mX12_begins (d + 1) [.ref 120] (sk0 c, K0) Pq := by
  refine ⟨_, sp_begins, ?_⟩
  rintro _ _ ⟨rfl, K1, rfl, h⟩
  exact k K1 h
theorem mth_end {d : Nat} {P : Pm} {K0 K1 K2 K3 : mx_I} {Pq : Option Value → mx_H → Prop} (B : MBeg K0 K1) (m1 : ∀ k, k ≠ 120 → k ≠ 121 → K2 k = K1 k) (m2 : ∀ j, j < 21 → K2 120 j = K1 120 j) (m3 : ∀ i, 600 ≤ i → K2 121 i = K1 121 i) (F : MFr P K2 K3) (hw : P.wr = false) (k : ∀ K4, Same K0 K4 → Pq none (sk0 c, K4)) : mx_K1 l mX12_comesBack (d + 1) [.ref 120] (sk0 c, K3) Pq := by
  refine ⟨_, sp_comesBack, ?_⟩
  rintro _ _ ⟨rfl, K4, rfl, e1, e2, e3, e4, e5⟩
  exact k K4 (thought_end B.1 B.2.1 B.2.2.2 m1 m2 m3 F hw e1 e2 e3 e4 e5)
end M
section W
variable {I : mx_I} {nb now nl nc no ni nk : Nat} {hp : Nat → List Nat} {ps : lw_ps} {fl : Bool}
theorem World.mth {c : Nat} (hs : Sim c I) (W : World I nb now nl nc no ni nk hp ps) {K0 K1 : mx_I} (h0 : K0 121 = I 121) (hf : K0 120 22 = -1 ∧ K0 120 25 = 0 ∧ K0 120 26 = 0) (B : MBeg K0 K1) : MR (pm_of I ps nb nl nc no false fl (pm_row false (I 1 6) 0 0 (-1) (-1))) (hs_of I hp nk now) K1 K1 := by
  have q1 : K1 121 = I 121 := (B.1 121 (by omega) (by omega)).trans h0
  exact W.mr (fun k hk => by rw [q1]) (by rw [q1]; exact W.1.2.2.2.1.1) B.2.2.1 (by rw [B.2.1 25 (by omega)]; exact hf.2.1) (by rw [B.2.1 26 (by omega)]; exact hf.2.2) (by rw [B.2.1 22 (by omega)]; exact hf.1) (Or.inl rfl) (fun z => absurd z (by simp))
end W
set_option maxHeartbeats 2000000 in
theorem p_over {l : Launch} (a b : Int32) : mx_PrI l Sim mX11_over mX12_over [.int a, .int b] := by
  intro c I hs
  obtain ⟨nb, now, nl, nc, no, ni, nk, hp, ps, W⟩ := hs.2.1.world
  obtain ⟨⟨s1, s2, s3, s4, s5, s6, s7, s8⟩, ⟨c1, c2, c3, c4, c5, c6, c7⟩, ⟨d1, d2, d3, -⟩, -⟩ := id W.1
  have hc := hs.1
  obtain ⟨z21, z22, z25, z26⟩ := hs.2.2.2.2.2.2
  cases g1 : inR a 0 ((nl : Int) - 1) with
  | false =>
    refine pr_no (-1) hs (sn_X11_over a b ⟨_, sp_hasL a c3 s4, ?_⟩) (sn_X12_over a b ⟨_, sp_isLoad a d3 s4, ?_⟩)
    · rintro _ _ ⟨rfl, rfl⟩; rw [g1]; exact sg_X11_over_11 _ _ _ (fun _ => ⟨rfl, rfl⟩) (fun z => absurd rfl z)
    · rintro _ _ ⟨rfl, rfl⟩; rw [g1]; exact sg_X12_over_5 _ _ _ (fun _ => ⟨rfl, rfl⟩) (fun z => absurd rfl z)
  | true =>
  cases g2 : inR b 0 nb with
  | false =>
    refine pr_no (-1) hs (sn_X11_over a b ⟨_, sp_hasL a c3 s4, ?_⟩) (sn_X12_over a b ⟨_, sp_isLoad a d3 s4, ?_⟩)
    · rintro _ _ ⟨rfl, rfl⟩; rw [g1]
      refine sg_X11_over_11 _ _ _ (fun z => absurd z (by decide)) (fun _ => ⟨_, sp_hasEnd b c1 s2, ?_⟩)
      rintro _ _ ⟨rfl, rfl⟩; rw [g2]; exact sg_X11_over_22 _ _ _ (fun z => absurd rfl z) (fun _ => ⟨rfl, rfl⟩)
    · rintro _ _ ⟨rfl, rfl⟩; rw [g1]
      refine sg_X12_over_5 _ _ _ (fun z => absurd z (by decide)) (fun _ => ⟨_, sp_isEnd b d1 s2, ?_⟩)
      rintro _ _ ⟨rfl, rfl⟩; rw [g2]; exact sg_X12_over_13 _ _ _ (fun z => absurd rfl z) (fun _ => ⟨rfl, rfl⟩)
  | true =>
  obtain ⟨x, hxa, hx⟩ := i_of g1
  obtain ⟨e, hea, he⟩ := i_of g2
  have hx30 : x < 30 := by omega
  have hxl : x < nl := by omega
  subst hxa
  subst hea
  have t1 : I 121 (25 + 10 * x) = I 34 x := W.2.1.2.2.1 x hxl 0 (by omega)
  have t4 : I 121 (28 + 10 * x) = I 37 x := by
    have := W.2.1.2.2.1 x hxl 3 (by omega)
    rw [show 25 + 10 * x + 3 = 28 + 10 * x from by omega] at this
    exact this
  have to36 : ∀ {Q : Option Value → mx_H → Prop}, mx_Go l (mx_rm (99 + 1) 0 0) mX11_over (mx_Z Q 0 0) 0 0 36 [.ref 0, .int (nI x), .int (nI e)] [.int (b2i (decide (I (33 + 1) x = nI e ∧ I (33 + 4) x = 0)))] (sk0 c, I) → mx_Spec l mX11_over (99 + 1) 0 0 [.ref 0, .int (nI x), .int (nI e)] (sk0 c, I) Q := by
    intro Q k
    refine sn_X11_over _ _ ⟨_, sp_hasL _ c3 s4, ?_⟩
    rintro _ _ ⟨rfl, rfl⟩; rw [g1]
    refine sg_X11_over_11 _ _ _ (fun z => absurd z (by decide)) (fun _ => ⟨_, sp_hasEnd _ c1 s2, ?_⟩)
    rintro _ _ ⟨rfl, rfl⟩; rw [g2]
    refine sg_X11_over_22 _ _ _ (fun _ => ⟨_, sp_isAt (d := 98) (at9_33 c) hx30, ?_⟩) (fun z => absurd z (by decide))
    rintro _ _ ⟨rfl, rfl⟩
    exact k
  have to24 : ∀ {Q : Option Value → mx_H → Prop} {c' : Nat} {K : mx_I}, K 121 = I 121 → mx_Go l (mx_rm (99 + 1) 0 0) mX12_over (mx_Z Q 0 0) 0 0 24 [.ref 120, .int (nI x), .int (nI e), .retAddr 0] [.int (b2i (decide (I (33 + 1) x = nI e ∧ I (33 + 4) x = 0)))] (sk0 c', K) → mx_Spec l mX12_over (99 + 1) 0 0 [.ref 120, .int (nI x), .int (nI e)] (sk0 c', K) Q := by
    intro Q c' K hK k
    refine sn_X12_over _ _ ⟨_, sp_isLoad _ (by rw [hK]; exact d3) s4, ?_⟩
    rintro _ _ ⟨rfl, rfl⟩; rw [g1]
    refine sg_X12_over_5 _ _ _ (fun z => absurd z (by decide)) (fun _ => ⟨_, sp_isEnd _ (by rw [hK]; exact d1) s2, ?_⟩)
    rintro _ _ ⟨rfl, rfl⟩; rw [g2]
    refine sg_X12_over_13 _ _ _ (fun _ => ⟨_, sp_isThere0 (d := 97) hx30, ?_⟩) (fun z => absurd z (by decide))
    rintro _ _ ⟨rfl, rfl⟩
    rw [hK, t1, t4]
    exact k
  by_cases g3 : I (33 + 1) x = nI e ∧ I (33 + 4) x = 0
  · refine pr_no (nI now) hs (to36 ?_) (to24 rfl ?_)
    · rw [decide_eq_true g3]
      exact sg_X11_over_36 _ _ _ (fun z => absurd z (by decide)) (fun _ => ⟨by rw [c2], rfl⟩)
    · rw [decide_eq_true g3]
      exact sg_X12_over_24 _ _ _ (fun z => absurd z (by decide)) (fun _ => ⟨by rw [d2], rfl⟩)
  let P : Pm := pm_of I ps nb nl nc no false true (pm_row false (I 1 6) 0 0 (nI x) (nI e))
  have hP : POk P := W.pok rfl
  have hB : PB P := W.pb
  have hI : HInv P now (hs_of I hp nk now) := W.hinv
  have i167 : (167 : Int32).toInt = 167 := by decide
  refine pr_go (fun v c1 I1 => c1 = 55 ∧ v = (hs_go P 167 (168 - now) (hs_of I hp nk now)).r 65 13 ∧ ∀ k, k ≠ 32 → (k < 55 ∨ 73 < k) → I1 k = I k) (to36 ?_) ?_
  · rw [decide_eq_false g3]
    refine sg_X11_over_36 _ _ _ (fun _ => ?_) (fun z => absurd rfl z)
    rw [c2]
    refine W.make (d := 97) s3 (fun _ _ => rfl) (fun I1 h1 h2 => ?_)
    refine sg_X11_over_68 _ _ ⟨_, sp_think (d := 97) hc, ?_⟩
    rintro _ _ ⟨rfl, J, rfl, hT⟩
    refine sg_X11_over_72 _ _ ⟨_, sn_X1_watch (nI x) (nI e) (at9_55 _) (Q := fun r h' => r = none ∧ h' = (sk0 55, mx_set (mx_set J 65 11 (nI x)) 65 12 (nI e))) ⟨rfl, rfl⟩, ?_⟩
    rintro _ _ ⟨rfl, rfl⟩
    have jn : ∀ k, k ≠ 65 → mx_set (mx_set J 65 11 (nI x)) 65 12 (nI e) k = J k := fun k hk => by rw [ms_ne hk, ms_ne hk]
    have jr : ∀ f, 7 ≤ f → f ≤ 12 → mx_set (mx_set J 65 11 (nI x)) 65 12 (nI e) 65 f = pm_row false (I 1 6) 0 0 (nI x) (nI e) f := fun f f1 f2 => by
      obtain ⟨q7, q8, q9, q10, q11, q12⟩ := hT.2.2.2.2.2.2.1
      rw [h1 1 (by omega)] at q8
      have : f = 7 ∨ f = 8 ∨ f = 9 ∨ f = 10 ∨ f = 11 ∨ f = 12 := by omega
      rcases this with rfl | rfl | rfl | rfl | rfl | rfl <;> simp [ms_self, upd, pm_row, b2i, *]
    have j13 : ∀ f, 13 ≤ f → f ≤ 15 → mx_set (mx_set J 65 11 (nI x)) 65 12 (nI e) 65 f = J 65 f := fun f f1 f2 => by rw [ms_at (Or.inr (by omega)), ms_at (Or.inr (by omega))]
    generalize mx_set (mx_set J 65 11 (nI x)) 65 12 (nI e) = J' at jn jr j13
    have CR0 : CR 55 P (hs_of I hp nk now) J' J' := W.tht (fun k k1 k2 => h1 k (by omega)) hT jn jr j13
    have CP : CPlan P now J' := h2.cplan ⟨s4, s5, s6⟩ (fun k k1 k2 => (jn k (by omega)).trans (hT.out (by omega)))
    refine sg_X11_over_81 _ _ ⟨_, sp_goOn (d := 73) (fm := now) hP hB (fun z => absurd z (by simp [P, pm_of])) CP CR0 hI, ?_⟩
    rintro _ _ ⟨rfl, I3, rfl, h3, h4⟩
    rw [i167] at h3 h4
    refine sg_X11_over_91 _ _ ⟨_, 55, I3, rfl, rfl, rfl, h3.x (f := 13) (by omega) (by omega), fun k k1 k2 => ?_⟩
    rw [h3.out55 rfl k1 k2, jn k (by omega), hT.out (by omega), h1 k (by omega)]
  · rintro v c1 I1 ⟨rfl, hv, hF⟩
    have w1 : I1 121 = I 121 := hF 121 (by omega) (by omega)
    have w0 : I1 120 = I 120 := hF 120 (by omega) (by omega)
    refine to24 w1 ?_
    rw [decide_eq_false g3]
    refine sg_X12_over_24 _ _ _ (fun _ => ?_) (fun z => absurd rfl z)
    refine mth_begin (d := 98) (fun K1 B1 => ?_)
    refine sg_X12_over_38 _ _ ⟨_, sn_X12_watches (nI x) (nI e) (Q := fun r h' => r = none ∧ h' = (sk0 55, mx_set (mx_set (mx_set K1 120 22 (nI x)) 120 23 (nI e)) 120 24 (-1))) ⟨rfl, rfl⟩, ?_⟩
    rintro _ _ ⟨rfl, rfl⟩
    have kn : ∀ k, k ≠ 120 → mx_set (mx_set (mx_set K1 120 22 (nI x)) 120 23 (nI e)) 120 24 (-1) k = K1 k := fun k hk => by rw [ms_ne hk, ms_ne hk, ms_ne hk]
    have kj : ∀ j, j < 22 ∨ 24 < j → mx_set (mx_set (mx_set K1 120 22 (nI x)) 120 23 (nI e)) 120 24 (-1) 120 j = K1 120 j := fun j hj => by rw [ms_at (Or.inr (by omega)), ms_at (Or.inr (by omega)), ms_at (Or.inr (by omega))]
    have k22 : mx_set (mx_set (mx_set K1 120 22 (nI x)) 120 23 (nI e)) 120 24 (-1) 120 22 = nI x ∧ mx_set (mx_set (mx_set K1 120 22 (nI x)) 120 23 (nI e)) 120 24 (-1) 120 23 = nI e ∧ mx_set (mx_set (mx_set K1 120 22 (nI x)) 120 23 (nI e)) 120 24 (-1) 120 24 = -1 := by simp [ms_self, upd]
    generalize mx_set (mx_set (mx_set K1 120 22 (nI x)) 120 23 (nI e)) 120 24 (-1) = K2 at kn kj k22 ⊢
    have q1 : K2 121 = I 121 := by rw [kn 121 (by omega), B1.1 121 (by omega) (by omega), w1]
    have M0 : MR P (hs_of I hp nk now) K2 K2 := W.mr (fun k hk => by rw [q1]) (by rw [q1]; exact W.1.2.2.2.1.1) (by rw [kj 21 (by omega)]; exact B1.2.2.1) (by rw [kj 25 (by omega), B1.2.1 25 (by omega), w0]; exact z25) (by rw [kj 26 (by omega), B1.2.1 26 (by omega), w0]; exact z26) k22.1 (Or.inr k22.2) (fun z => absurd z (by simp))
    have hne : ¬ P.R 65 11 = -1 := by
      show ¬ mx_row I 65 _ 65 11 = -1
      rw [mx_row_self]
      exact nI_n1 (e := x) (by omega)
    have fin : ∀ (B : HS) (K : mx_I), MR P B K2 K → B = hs_go P 167 (168 - now) (hs_of I hp nk now) → mx_K1 l mX12_comesBack 99 [.ref 120] (sk0 55, K) (fun r h' => mx_Go l (mx_rm (99 + 1) 0 0) mX12_over (mx_Z (fun r h' => r = some (.int v) ∧ ∃ (c2 : Nat) (K : mx_I), h' = (sk0 c2, K) ∧ Sim c2 K) 0 0) 0 0 80 [.ref 120, .int (nI x), .int (nI e), .int (K 120 24)] (r.toList ++ []) h') := by
      intro B K M hBR
      refine mth_end (d := 98) B1 (fun k k1 k2 => kn k k1) (fun j hj => kj j (by omega)) (fun i hi => by rw [kn 121 (by omega)]) M.2.2.2 rfl (fun K4 hS => ?_)
      refine sg_X12_over_80 _ _ _ ⟨?_, 55, K4, rfl, hs.same (Or.inr rfl) hF hS⟩
      rw [(M.2.2.1.2.2.1.resolve_left hne).2, hv, hBR]
    have lp : ∀ (m : Nat) (B : HS) (K : mx_I), B.now + m = 168 → MR P B K2 K → HInv P now B → hs_go P 167 m B = hs_go P 167 (168 - now) (hs_of I hp nk now) → mx_Go l (mx_rm (99 + 1) 0 0) mX12_over (mx_Z (fun r h' => r = some (.int v) ∧ ∃ (c2 : Nat) (K : mx_I), h' = (sk0 c2, K) ∧ Sim c2 K) 0 0) 0 0 44 [.ref 120, .int (nI x), .int (nI e), .retAddr 0] [] (sk0 55, K) := by
      intro m
      induction m with
      | zero =>
        intro B K hm M hHB hR
        have e1 : (167 : Int32) < K 121 1 := by rw [M.2.1.2.2.1.1, show (167 : Int32) = nI 167 from rfl, nI_ltI (by omega) (by omega)]; omega
        exact sg_X12_over_44 _ _ (fun _ => fin B K M hR) (fun z => absurd e1 z) (fun z => absurd e1 z)
      | succ m ih =>
        intro B K hm M hHB hR
        have e1 : ¬ (167 : Int32) < K 121 1 := fun z => by rw [M.2.1.2.2.1.1, show (167 : Int32) = nI 167 from rfl, nI_ltI (by omega) (by omega)] at z; omega
        have e24 := (M.2.2.1.2.2.1.resolve_left hne).2
        refine sg_X12_over_44 _ _ (fun z => absurd z e1) (fun _ g => fin B K M ?_) (fun _ g => ?_)
        · rw [hs_go_stop (fun z => g (e24.trans z.2))] at hR
          exact hR
        · rw [hs_go, if_pos ⟨by omega, e24.symm.trans g⟩] at hR
          obtain ⟨y1, y2, y3⟩ := hHB.hour hP hB (by omega)
          obtain ⟨a1, a2, a3, a4, a5, a6, a7⟩ := hHB
          refine ⟨_, sp_anHour (d := 73) hP a1 a5 (by omega) M, ?_⟩
          rintro _ _ ⟨rfl, K', rfl, M'⟩
          exact sg_X12_over_68 _ _ (ih _ K' (by omega) M' y1 hR)
    exact lp (168 - now) (hs_of I hp nk now) K2 (by show now + (168 - now) = 168; omega) M0 hI rfl
