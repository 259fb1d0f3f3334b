/-! pairs over hours: hours, over, back, gathers, waits -/
theorem pr_no {l : Launch} {Mx Mm : mx_M} {As : List Value} {c : Nat} {I : mx_I} (v : Int32) (hs : Sim c I) (h1 : mx_Spec l Mx 100 0 0 (.ref 0 :: As) (sk0 c, I) (fun r h' => r = some (.int v) ∧ h' = (sk0 c, I))) (h2 : mx_Spec l Mm 100 0 0 (.ref 120 :: As) (sk0 c, I) (fun r h' => r = some (.int v) ∧ h' = (sk0 c, I))) :
    mx_K1 l Mx 100 (.ref 0 :: As) (sk0 c, I) (fun r h1 => ∃ (v : Int32) (c1 : Nat) (I1 : mx_I), r = some (.int v) ∧ h1 = (sk0 c1, I1) ∧ mx_K1 l Mm 100 (.ref 120 :: As) (sk0 c1, I1) (fun r2 h2 => r2 = some (.int v) ∧ ∃ (c2 : Nat) (I2 : mx_I), h2 = (sk0 c2, I2) ∧ Sim c2 I2)) := by
  refine ⟨_, h1, ?_⟩
  rintro _ _ ⟨rfl, rfl⟩
  refine ⟨_, _, _, rfl, rfl, _, h2, ?_⟩
  rintro _ _ ⟨rfl, rfl⟩
  exact ⟨rfl, c, I, rfl, hs⟩
theorem pr_go {l : Launch} {Mx Mm : mx_M} {As : List Value} {c : Nat} {I : mx_I} (R : Int32 → Nat → mx_I → Prop) (h1 : mx_Spec l Mx 100 0 0 (.ref 0 :: As) (sk0 c, I) (fun r h' => ∃ (v : Int32) (c1 : Nat) (I1 : mx_I), r = some (.int v) ∧ h' = (sk0 c1, I1) ∧ R v c1 I1)) (h2 : ∀ v c1 I1, R v c1 I1 → mx_Spec l Mm 100 0 0 (.ref 120 :: As) (sk0 c1, I1) (fun r h' => r = some (.int v) ∧ ∃ (c2 : Nat) (K : mx_I), h' = (sk0 c2, K) ∧ Sim c2 K)) :
    mx_K1 l Mx 100 (.ref 0 :: As) (sk0 c, I) (fun r h1 => ∃ (v : Int32) (c1 : Nat) (I1 : mx_I), r = some (.int v) ∧ h1 = (sk0 c1, I1) ∧ mx_K1 l Mm 100 (.ref 120 :: As) (sk0 c1, I1) (fun r2 h2 => r2 = some (.int v) ∧ ∃ (c2 : Nat) (I2 : mx_I), h2 = (sk0 c2, I2) ∧ Sim c2 I2)) := by
  refine ⟨_, h1, ?_⟩
  rintro _ _ ⟨v, c1, I1, rfl, rfl, hR⟩
  exact ⟨v, c1, I1, rfl, rfl, _, h2 v c1 I1 hR, fun r h q => q⟩
section W
variable {I : mx_I} {nb now nl nc no ni nk : Nat} {hp : Nat → List Nat} {ps : lw_ps} {wr fl : Bool} {row : Nat → Int32}
/-- a thought begins: the class's cells -/
theorem World.tht (W : World I nb now nl nc no ni nk hp ps) {X J J' : mx_I} (h1 : ∀ k, k ≠ 32 → (k < 55 ∨ 73 < k) → X k = I k) (hT : Tht X J) (h2 : ∀ k, k ≠ 65 → J' k = J k) (hr : ∀ f, 7 ≤ f → f ≤ 12 → J' 65 f = row f) (h13 : ∀ f, 13 ≤ f → f ≤ 15 → J' 65 f = J 65 f) : CR 55 (pm_of I ps nb nl nc no wr fl row) (hs_of I hp nk now) J' J' := by
  obtain ⟨t1, t2, t3, t4, t5, t6, t7, t8⟩ := hT
  have x : ∀ k, k ≠ 32 → k < 55 → J' k = I k := fun k k1 k2 => by rw [h2 k (by omega), t1 k (by omega), h1 k k1 (by omega)]
  refine W.cr (Or.inr rfl) (fun k k1 k2 k3 => x k (by omega) (by omega)) hr ⟨by rw [h13 13 (by omega) (by omega)]; exact t8.1, by rw [h13 14 (by omega) (by omega)]; exact t8.2.1, by rw [h13 15 (by omega) (by omega)]; exact t8.2.2⟩ (fun j j1 j2 i hi => ?_) (fun i hi => ?_) (fun i hi => ?_) (fun j j1 j2 i hi => ?_) ⟨?_, ?_⟩ ⟨by rw [x 43 (by omega) (by omega)], fun j hj => x _ (by omega) (by omega)⟩
  · rw [h2 _ (by omega), t2 j j1 j2 i hi, h1 _ (by omega) (by omega)]
  · rw [h2 _ (by omega), t3 i hi, h1 _ (by omega) (by omega)]
  · rw [h2 _ (by omega), t4 i hi, h1 _ (by omega) (by omega)]
  · rw [h2 _ (by omega), t5 j j1 j2 i hi, h1 _ (by omega) (by omega)]
  · rw [h2 _ (by omega), t6.1, h1 _ (by omega) (by omega)]
  · rw [h2 _ (by omega), t6.2, h1 _ (by omega) (by omega)]
theorem CR.out55 {P : Pm} {A : HS} {J K : mx_I} (h : CR 55 P A J K) (hw : P.wr = false) {k : Nat} (k1 : k ≠ 32) (k2 : k < 55 ∨ 73 < k) : K k = J k := h.2.2 k (by omega) (by omega) (fun z => absurd (hw.symm.trans z) (by simp)) (by omega) (by omega) k1
theorem Tht.out {X J : mx_I} (h : Tht X J) {k : Nat} (hk : k < 55 ∨ 65 < k) : J k = X k := h.1 k hk
end W
theorem hs_go_stop {P : Pm} {u : Int} {A : HS} (h : ¬ ((A.now : Int) ≤ u ∧ A.r 65 13 = -1)) : ∀ n, hs_go P u n A = A
  | 0 => rfl
  | n + 1 => by rw [hs_go, if_neg h]
set_option maxHeartbeats 2000000 in
theorem p_hours {l : Launch} (a : Int32) : mx_PrI l Sim mX11_hours mX12_hours [.int a] := by
  intro c I hs
  obtain ⟨nb, now, nl, nc, no, ni, nk, hp, ps, W⟩ := hs.2.1.world
  obtain ⟨⟨s1, s2, s3, s4, s5, s6, s7, s8⟩, ⟨c1, c2, c3, c4, c5, c6, c7⟩, ⟨d1, d2, -⟩, -⟩ := id W.1
  have hc := hs.1
  have e168 : (168 - nI now : Int32) = nI (168 - now) := by rw [show (168 : Int32) = nI 168 from rfl, pk_sub s3]
  by_cases g1 : a < 1
  · exact pr_no (-1) hs (sn_X11_hours a (fun _ => ⟨rfl, rfl⟩) (fun z => absurd g1 z) (fun z => absurd g1 z)) (sn_X12_hours a (fun _ => ⟨rfl, rfl⟩) (fun z => absurd g1 z) (fun z => absurd g1 z))
  by_cases g2 : a ≤ 168 - nI now
  case neg =>
    exact pr_no (-1) hs (sn_X11_hours a (fun z => absurd z g1) (fun _ z => absurd (c2 ▸ z) g2) (fun _ _ => ⟨rfl, rfl⟩)) (sn_X12_hours a (fun z => absurd z g1) (fun _ z => absurd (d2 ▸ z) g2) (fun _ _ => ⟨rfl, rfl⟩))
  obtain ⟨n, hn, ha⟩ : ∃ n : Nat, a = nI n ∧ 1 ≤ n ∧ n ≤ 168 - now := by
    have h1 : ¬ a.toInt < 1 := fun z => g1 ((i_lt _ _).mpr z)
    rw [e168, i_le, nI_toInt (by omega)] at g2
    exact ⟨a.toInt.toNat, i_nat (by omega), by omega, by omega⟩
  subst hn
  have hu : (nI now + nI n - 1 : Int32) = nI (now + n - 1) := by
    obtain ⟨m, hm⟩ : ∃ m, now + n = m + 1 := ⟨now + n - 1, by omega⟩
    rw [nI_add, hm, nI_pred]; rfl
  have huI : (nI (now + n - 1)).toInt = ((now + n - 1 : Nat) : Int) := nI_toInt (by omega)
  let P : Pm := pm_of I ps nb nl nc no true true (pm_row true (I 1 6) 0 0 (-1) (-1))
  have hP : POk P := W.pok rfl
  have hB : PB P := W.pb
  have hI : HInv P now (hs_of I hp nk now) := W.hinv
  refine pr_go (fun v c1 I1 => c1 = 33 ∧ v = (hs_go P ((now + n - 1 : Nat) : Int) (168 - now) (hs_of I hp nk now)).r 65 15 ∧ HInv P now (hs_go P ((now + n - 1 : Nat) : Int) (168 - now) (hs_of I hp nk now)) ∧ CRep 33 P (hs_go P ((now + n - 1 : Nat) : Int) (168 - now) (hs_of I hp nk now)) I1 ∧ ∀ k, k ≠ 32 → (k < 33 ∨ 46 < k) → (k < 65 ∨ 73 < k) → I1 k = I k) ?_ ?_
  · refine sn_X11_hours _ (fun z => absurd z g1) (fun _ _ => ?_) (fun _ z => absurd (c2 ▸ g2) z)
    rw [c2, hu]
    refine W.make (d := 97) s3 (fun _ _ => rfl) (fun I1 h1 h2 => ?_)
    refine sg_X11_hours_55 _ _ ⟨_, sn_X1_begin 33 (at9_c hc) (Q := fun r h' => r = none ∧ h' = (sk0 33, (mx_set (mx_set (mx_set (mx_set (mx_set (mx_set (mx_set (mx_set (mx_set I1 65 7 0) 65 8 (I1 1 6)) 65 9 0) 65 10 0) 65 11 (-1)) 65 12 (-1)) 65 13 (-1)) 65 14 (-1)) 65 15 0))) ⟨rfl, rfl⟩, ?_⟩
    rintro _ _ ⟨rfl, rfl⟩
    refine sg_X11_hours_66 _ _ ?_
    generalize hJ : mx_set (mx_set (mx_set (mx_set (mx_set (mx_set (mx_set (mx_set (mx_set (mx_set I1 65 7 0) 65 8 (I1 1 6)) 65 9 0) 65 10 0) 65 11 (-1)) 65 12 (-1)) 65 13 (-1)) 65 14 (-1)) 65 15 0) 65 7 1 = J
    have jn : ∀ k, k ≠ 65 → J k = I1 k := fun k hk => by
      rw [← hJ, ms_ne hk, ms_ne hk, ms_ne hk, ms_ne hk, ms_ne hk, ms_ne hk, ms_ne hk, ms_ne hk, ms_ne hk, ms_ne hk]
    have j65 : ∀ f, 7 ≤ f → f ≤ 12 → J 65 f = pm_row true (I 1 6) 0 0 (-1) (-1) f := fun f f1 f2 => by
      rw [← hJ, h1 1 (by omega)]
      have : f = 7 ∨ f = 8 ∨ f = 9 ∨ f = 10 ∨ f = 11 ∨ f = 12 := by omega
      rcases this with rfl | rfl | rfl | rfl | rfl | rfl <;> simp [ms_self, upd, pm_row, b2i]
    have j13 : J 65 13 = -1 ∧ J 65 14 = -1 ∧ J 65 15 = 0 := by
      rw [← hJ]
      simp [ms_self, upd]
    clear hJ
    have CR0 : CR 33 P (hs_of I hp nk now) J J := W.cr (Or.inl rfl) (fun k k1 k2 k3 => by rw [jn k (by omega), h1 k (by omega)]) j65 j13 (fun j j1 j2 i hi => by rw [jn _ (by omega), h1 _ (by omega)]) (fun i hi => by rw [jn _ (by omega), h1 _ (by omega)]) (fun i hi => by rw [jn _ (by omega), h1 _ (by omega)]) (fun j j1 j2 i hi => by rw [jn _ (by omega), h1 _ (by omega)]) (by rw [jn _ (by omega), h1 _ (by omega)]; exact ⟨rfl, rfl⟩) ⟨by rw [jn _ (by omega), h1 _ (by omega)], fun j hj => by rw [jn _ (by omega), h1 _ (by omega)]⟩
    have CP : CPlan P now J := h2.cplan ⟨s4, s5, s6⟩ (fun k k1 k2 => jn k (by omega))
    refine ⟨_, sp_goOn (d := 73) (fm := now) hP hB (fun _ => World.rw5) CP CR0 hI, ?_⟩
    rintro _ _ ⟨rfl, I3, rfl, h3, h4⟩
    rw [huI] at h3 h4
    refine sg_X11_hours_82 _ _ ⟨_, 33, I3, rfl, rfl, rfl, h3.x (f := 15) (by omega) (by omega), h4, h3.2.1, fun k k0 k1 k2 => ?_⟩
    rw [h3.2.2 k (by omega) (by omega) (fun _ => by omega) (by omega) (by omega) k0, jn k (by omega)]
    by_cases q : k < 67 ∨ 71 < k
    · exact h1 k q
    · omega
  · rintro v c1 I1 ⟨rfl, hv, hH, hC, hF⟩
    have w1 : I1 121 = I 121 := hF 121 (by omega) (by omega) (by omega)
    have w0 : I1 120 = I 120 := hF 120 (by omega) (by omega) (by omega)
    obtain ⟨z21, z22, z25, z26⟩ := hs.2.2.2.2.2.2
    refine sn_X12_hours _ (fun z => absurd z g1) (fun _ _ => ?_) (fun _ z => absurd (by rw [w1, d2]; exact g2) z)
    have M0 : MR P (hs_of I hp nk now) (mx_set I1 120 31 0) (mx_set I1 120 31 0) := by
      have q : ∀ j, j ≠ 31 → mx_set I1 120 31 0 120 j = I 120 j := fun j hj => by rw [ms_at (Or.inr hj), w0]
      have q1 : mx_set I1 120 31 0 121 = I 121 := by rw [ms_ne (by omega), w1]
      refine W.mr (fun k hk => by rw [q1]) (by rw [q1]; exact W.1.2.2.2.1.1) (by rw [q 21 (by omega)]; exact z21) (by rw [q 25 (by omega)]; exact z25) (by rw [q 26 (by omega)]; exact z26) (by rw [q 22 (by omega)]; exact z22) (Or.inl rfl) (fun _ => by rw [ms_self, upd_eq])
    have k0n : ∀ k, k ≠ 120 → mx_set I1 120 31 0 k = I1 k := fun k hk => ms_ne hk
    have k0f : ∀ j, j ≠ 31 → mx_set I1 120 31 0 120 j = I 120 j := fun j hj => by rw [ms_at (Or.inr hj), w0]
    generalize mx_set I1 120 31 0 = K0 at M0 k0n k0f ⊢
    have lp : ∀ (m x : Nat) (B : HS) (K : mx_I), B.now = now + x → B.now + m = 168 → MR P B K0 K → HInv P now B → B.r 65 13 = -1 → hs_go P ((now + n - 1 : Nat) : Int) m B = hs_go P ((now + n - 1 : Nat) : Int) (168 - now) (hs_of I hp nk now) → mx_Go l (mx_rm (99 + 1) 0 0) mX12_hours (mx_Z (fun r h' => r = some (.int v) ∧ ∃ (c2 : Nat) (K : mx_I), h' = (sk0 c2, K) ∧ Sim c2 K) 0 0) 0 0 28 [.ref 120, .int (nI n), .int (nI x)] [] (sk0 33, K) := by
      -- the end
      have fin : ∀ (B : HS) (K : mx_I), MR P B K0 K → B = hs_go P ((now + n - 1 : Nat) : Int) (168 - now) (hs_of I hp nk now) → (some (.int (K 120 31)) : Option Value) = some (.int v) ∧ ∃ (c2 : Nat) (K' : mx_I), ((sk0 33, K) : mx_H) = (sk0 c2, K') ∧ Sim c2 K' := by
        intro B K M hB
        subst hB
        obtain ⟨f1, f2, f3, f4⟩ := M.2.2.2
        have kk : ∀ k, k ≠ 120 → k ≠ 121 → k ≠ 127 → k ≠ 128 → k ≠ 129 → k ≠ 130 → K k = I1 k := fun k a1 a2 a3 a4 a5 a6 => (f1 k a1 a2 a3 a4 a5 a6).trans (k0n k a1)
        have kj : ∀ j, j ≠ 24 → j ≠ 29 → j ≠ 30 → j ≠ 31 → K 120 j = I 120 j := fun j a1 a2 a3 a4 => (f2 j a1 a2 a3 a4).trans (k0f j a4)
        have kw : ∀ k, ¬ MK k → K 121 k = I 121 k := fun k hk => (f3 k hk).trans (by rw [k0n 121 (by omega), w1])
        refine ⟨by rw [M.2.2.1.2.2.2 rfl, hv], 33, K, rfl, ?_⟩
        refine hs.world (Or.inl rfl) ?_ ?_ (fun a a1 a2 => ?_) ?_ ?_ ?_ ?_ (fun j hj => kj j (by omega) (by omega) (by omega) (by omega))
        · refine W.behind (fm := now) hH (hC.congr (Or.inl rfl) (fun k hk => kk k (by omega) (by omega) (by omega) (by omega) (by omega) (by omega))) M.1 M.2.1 (fun k k1 k2 => ?_) (kw 8 (MK.no (by omega) (fun _ _ => by omega) (fun _ _ => by omega) (by omega))) (fun i hi => kw _ (MK.no (by omega) (fun _ _ => by omega) (fun _ _ => by omega) (by omega))) (fun k hk => kw k (MK.big hk)) rfl
          rw [kk k (by omega) (by omega) (by omega) (by omega) (by omega) (by omega), hF k (by omega) (by omega) (by omega)]
        · rw [kk 0 (by omega) (by omega) (by omega) (by omega) (by omega) (by omega), hF 0 (by omega) (by omega) (by omega)]
        · rw [kk a (by omega) (by omega) (by omega) (by omega) (by omega) (by omega), hF a (by omega) (by omega) (by omega)]
        · rw [kk 122 (by omega) (by omega) (by omega) (by omega) (by omega) (by omega), hF 122 (by omega) (by omega) (by omega)]
        · rw [kk 47 (by omega) (by omega) (by omega) (by omega) (by omega) (by omega), hF 47 (by omega) (by omega) (by omega)]
        · rw [kk 48 (by omega) (by omega) (by omega) (by omega) (by omega) (by omega), hF 48 (by omega) (by omega) (by omega)]
        · rw [kk 126 (by omega) (by omega) (by omega) (by omega) (by omega) (by omega), hF 126 (by omega) (by omega) (by omega)]
      intro m
      induction m with
      | zero =>
        intro x B K hx hm M hHB h13 hR
        have e1 : nI n ≤ nI x := (nI_leI (by omega) (by omega)).mpr (by omega)
        exact sg_X12_hours_28 _ _ (fun _ => fin B K M hR) (fun z => absurd e1 z)
      | succ m ih =>
        intro x B K hx hm M hHB h13 hR
        by_cases q : n ≤ x
        · have e1 : nI n ≤ nI x := (nI_leI (by omega) (by omega)).mpr q
          rw [hs_go_stop (fun z => by have := z.1; omega)] at hR
          exact sg_X12_hours_28 _ _ (fun _ => fin B K M hR) (fun z => absurd e1 z)
        · have e1 : ¬ nI n ≤ nI x := fun z => q ((nI_leI (by omega) (by omega)).mp z)
          rw [hs_go, if_pos ⟨by omega, h13⟩] at hR
          obtain ⟨y1, y2, y3⟩ := hHB.hour hP hB (by omega)
          obtain ⟨a1, a2, a3, a4, a5, a6, a7⟩ := hHB
          refine sg_X12_hours_28 _ _ (fun z => absurd z e1) (fun _ => ⟨_, sp_anHour (d := 73) hP a1 a5 (by omega) M, ?_⟩)
          rintro _ _ ⟨rfl, K', rfl, M'⟩
          refine sg_X12_hours_37 _ _ ?_
          rw [nI_1]
          exact ih (x + 1) _ K' (by omega) (by omega) M' y1 ((y3 World.rw5).trans h13) hR
    exact lp (168 - now) 0 (hs_of I hp nk now) K0 rfl (by show now + (168 - now) = 168; omega) M0 hI rfl rfl
