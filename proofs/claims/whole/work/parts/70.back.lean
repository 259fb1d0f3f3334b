/-! pairs over hours: back, gathers, waits -/
set_option maxHeartbeats 2000000 in
theorem p_back {l : Launch} (a : Int32) : mx_PrI l Sim mX11_back mX12_back [.int a] := by
  intro c I hs
  obtain ⟨nb, now, nl, nc, no, ni, nk, hp, ps, W⟩ := hs.2.1.world
  obtain ⟨⟨s1, s2, s3, s4, s5, s6, s7, s8⟩, ⟨c1, c2, c3, c4, c5, c6, c7⟩, ⟨d1, d2, d3, -⟩, -⟩ := id W.1
  have hc := hs.1
  obtain ⟨z21, z22, z25, z26⟩ := hs.2.2.2.2.2.2
  cases g1 : inR a 0 ((nl : Int) - 1) with
  | false =>
    refine pr_no (-1) hs (sn_X11_back a ⟨_, sp_hasL a c3 s4, ?_⟩) (sn_X12_back a ⟨_, sp_isLoad a d3 s4, ?_⟩)
    · rintro _ _ ⟨rfl, rfl⟩; rw [g1]; exact sg_X11_back_11 _ _ (fun z => absurd rfl z) (fun _ => ⟨rfl, rfl⟩)
    · rintro _ _ ⟨rfl, rfl⟩; rw [g1]; exact sg_X12_back_5 _ _ (fun z => absurd rfl z) (fun _ => ⟨rfl, rfl⟩)
  | true =>
  obtain ⟨x, hxa, hx⟩ := i_of g1
  have hx30 : x < 30 := by omega
  have hxl : x < nl := by omega
  subst hxa
  let P : Pm := pm_of I ps nb nl nc no false true (pm_row false (I 1 6) 0 0 (-1) (-1))
  have hP : POk P := W.pok rfl
  have hB : PB P := W.pb
  have hI : HInv P now (hs_of I hp nk now) := W.hinv
  have i167 : (167 : Int32).toInt = 167 := by decide
  refine pr_go (fun v c1 I1 => c1 = 55 ∧ v = (hs_go P 167 (168 - now) (hs_of I hp nk now)).r 3 x ∧ ∀ k, k ≠ 32 → (k < 55 ∨ 73 < k) → I1 k = I k) ?_ ?_
  · refine sn_X11_back _ ⟨_, sp_hasL _ c3 s4, ?_⟩
    rintro _ _ ⟨rfl, rfl⟩; rw [g1]
    refine sg_X11_back_11 _ _ (fun _ => ?_) (fun z => absurd z (by decide))
    rw [c2]
    refine W.make (d := 97) s3 (fun _ _ => rfl) (fun I1 h1 h2 => ?_)
    refine sg_X11_back_37 _ ⟨_, sp_think (d := 97) hc, ?_⟩
    rintro _ _ ⟨rfl, J, rfl, hT⟩
    have jr : ∀ f, 7 ≤ f → f ≤ 12 → J 65 f = pm_row false (I 1 6) 0 0 (-1) (-1) f := fun f f1 f2 => by
      obtain ⟨q7, q8, q9, q10, q11, q12⟩ := hT.2.2.2.2.2.2.1
      rw [h1 1 (by omega)] at q8
      have : f = 7 ∨ f = 8 ∨ f = 9 ∨ f = 10 ∨ f = 11 ∨ f = 12 := by omega
      rcases this with rfl | rfl | rfl | rfl | rfl | rfl <;> simp [pm_row, b2i, *]
    have CR0 : CR 55 P (hs_of I hp nk now) J J := W.tht (fun k k1 k2 => h1 k (by omega)) hT (fun _ _ => rfl) jr (fun _ _ _ => rfl)
    have CP : CPlan P now J := h2.cplan ⟨s4, s5, s6⟩ (fun k k1 k2 => hT.out (by omega))
    refine sg_X11_back_41 _ ⟨_, sp_goOn (d := 73) (fm := now) hP hB (fun z => absurd z (by simp [P, pm_of])) CP CR0 hI, ?_⟩
    rintro _ _ ⟨rfl, I3, rfl, h3, h4⟩
    rw [i167] at h3 h4
    refine sg_X11_back_51 _ (i_vp hx30 (by omega)) ⟨_, 55, I3, rfl, rfl, rfl, ?_, fun k k1 k2 => ?_⟩
    · rw [nI_clamp (n := x) (by omega)]
      exact h3.ld (j := 3) hx30 (by omega) (by omega)
    · rw [h3.out55 rfl k1 k2, hT.out (by omega), h1 k (by omega)]
  · rintro v c1 I1 ⟨rfl, hv, hF⟩
    have w1 : I1 121 = I 121 := hF 121 (by omega) (by omega)
    have w0 : I1 120 = I 120 := hF 120 (by omega) (by omega)
    refine sn_X12_back _ ⟨_, sp_isLoad _ (by rw [w1]; exact d3) s4, ?_⟩
    rintro _ _ ⟨rfl, rfl⟩; rw [g1]
    refine sg_X12_back_5 _ _ (fun _ => ?_) (fun z => absurd z (by decide))
    refine mth_begin (d := 98) (fun K1 B1 => ?_)
    have M0 : MR P (hs_of I hp nk now) K1 K1 := W.mth hs w1 ⟨by rw [w0]; exact z22, by rw [w0]; exact z25, by rw [w0]; exact z26⟩ B1
    have lp : ∀ (m : Nat) (B : HS) (K : mx_I), B.now + m = 168 → MR P B K1 K → HInv P now B → B.r 65 13 = -1 → hs_go P 167 m B = hs_go P 167 (168 - now) (hs_of I hp nk now) → mx_Go l (mx_rm (99 + 1) 0 0) mX12_back (mx_Z (fun r h' => r = some (.int v) ∧ ∃ (c2 : Nat) (K : mx_I), h' = (sk0 c2, K) ∧ Sim c2 K) 0 0) 0 0 14 [.ref 120, .int (nI x), .retAddr 0] [] (sk0 55, K) := by
      intro m
      induction m with
      | zero =>
        intro B K hm M hHB h13 hR
        have e1 : (167 : Int32) < K 121 1 := by rw [M.2.1.2.2.1.1, show (167 : Int32) = nI 167 from rfl, nI_ltI (by omega) (by omega)]; omega
        refine sg_X12_back_14 _ (fun _ => ⟨_, sp_ofLoad 7 rfl hx30 (by omega), ?_⟩) (fun z => absurd e1 z)
        rintro _ _ ⟨rfl, rfl⟩
        rw [show 20 + 10 * x + 7 = 24 + 10 * x + 3 from by omega, M.at hxl (by omega) (by omega)]
        refine sg_X12_back_40 _ _ ?_
        refine mth_end (d := 98) B1 (fun k k1 k2 => rfl) (fun j hj => rfl) (fun i hi => rfl) M.2.2.2 rfl (fun K4 hS => ?_)
        refine sg_X12_back_45 _ _ ⟨?_, 55, K4, rfl, hs.same (Or.inr rfl) hF hS⟩
        rw [hv, ← hR]
        rfl
      | succ m ih =>
        intro B K hm M hHB h13 hR
        have e1 : ¬ (167 : Int32) < K 121 1 := fun z => by rw [M.2.1.2.2.1.1, show (167 : Int32) = nI 167 from rfl, nI_ltI (by omega) (by omega)] at z; omega
        refine sg_X12_back_14 _ (fun z => absurd z e1) (fun _ => ?_)
        rw [hs_go, if_pos ⟨by omega, h13⟩] at hR
        obtain ⟨y1, y2, y3⟩ := hHB.hour hP hB (by omega)
        obtain ⟨a1, a2, a3, a4, a5, a6, a7⟩ := hHB
        refine ⟨_, sp_anHour (d := 73) hP a1 a5 (by omega) M, ?_⟩
        rintro _ _ ⟨rfl, K', rfl, M'⟩
        exact sg_X12_back_30 _ (ih _ K' (by omega) M' y1 ((y3 World.rw5).trans h13) hR)
    exact lp (168 - now) (hs_of I hp nk now) K1 (by show now + (168 - now) = 168; omega) M0 hI rfl rfl
/-! sums over a heap -/
def wsum (f : Nat → Int32) : List Nat → Int32
  | [] => 0
  | x :: xs => f x + wsum f xs
theorem wsum_perm {f : Nat → Int32} {L L' : List Nat} (h : L.Perm L') : wsum f L = wsum f L' := by
  induction h with
  | nil => rfl
  | cons x _ ih => rw [wsum, wsum, ih]
  | swap x y l =>
    rw [wsum, wsum, wsum, wsum, ← Int32.add_assoc, ← Int32.add_assoc, Int32.add_comm (f y) (f x)]
  | trans _ _ ih1 ih2 => exact ih1.trans ih2
theorem wsum_append {f : Nat → Int32} : ∀ (L L' : List Nat), wsum f (L ++ L') = wsum f L + wsum f L'
  | [], L' => by rw [List.nil_append, wsum, Int32.zero_add]
  | x :: L, L' => by rw [List.cons_append, wsum, wsum, wsum_append L L', Int32.add_assoc]
theorem wsum_one : ∀ L : List Nat, wsum (fun _ => 1) L = nI L.length
  | [] => rfl
  | x :: L => by
    rw [wsum, wsum_one L, List.length_cons, Int32.add_comm]
    exact nI_1 _
/-- the heap, by numbers -/
def inH (L : List Nat) (n : Nat) : List Nat := (List.range n).filter (fun x => decide (x ∈ L))
theorem inH_s (L : List Nat) (n : Nat) : inH L (n + 1) = inH L n ++ (if n ∈ L then [n] else []) := by
  unfold inH
  rw [List.range_succ, List.filter_append]
  congr 1
  by_cases h : n ∈ L
  · rw [if_pos h, List.filter_cons, decide_eq_true h]; rfl
  · rw [if_neg h, List.filter_cons, decide_eq_false h]; rfl
theorem inH_perm {L : List Nat} {n : Nat} (hd : L.Nodup) (h : ∀ x ∈ L, x < n) : (inH L n).Perm L := by
  unfold inH
  refine (List.perm_ext_iff_of_nodup (List.Pairwise.filter _ List.nodup_range) hd).mpr (fun x => ?_)
  rw [List.mem_filter, List.mem_range, decide_eq_true_eq]
  exact ⟨fun z => z.2, fun z => ⟨h x z, z⟩⟩
section C
variable {l : Launch} {c : Nat} {P : Pm} {I0 : mx_I}
theorem sp_weightAt {d : Nat} {A : HS} {I : mx_I} {e : Nat} (hP : P.nl ≤ 30) (h : CR c P A I0 I) (hA : AInv P A []) (he : e < 4) : mx_Spec l mX9_weightAt (d + 1) 0 0 [.ref c, .int (nI e), .ref 2] (sk0 c, I) (fun r h' => r = some (.int (wsum (P.R 3) (A.hp e))) ∧ h' = (sk0 c, I)) := by
  obtain ⟨w1, w2, w3⟩ := h.heap e he
  have hlen := hA.len he
  have lp : ∀ (xs : List Nat) (i : Nat) (s : Int32), (A.hp e).drop i = xs → i ≤ (A.hp e).length → s + wsum (P.R 3) xs = wsum (P.R 3) (A.hp e) → mx_Go l (mx_rm (d + 1) 0 0) mX9_weightAt (mx_Z (fun r h' => r = some (.int (wsum (P.R 3) (A.hp e))) ∧ h' = (sk0 c, I)) 0 0) 0 0 5 [.ref c, .int (nI e), .ref 2, .int s, .int (nI i)] [] (sk0 c, I) := by
    intro xs
    induction xs with
    | nil =>
      intro i s hi hle hs
      have hi2 : (A.hp e).length ≤ i := by
        have := congrArg List.length hi
        simp at this
        omega
      have S := fun Q => @sg_X9_weightAt_5 l d Q c I c (at9_c h.cc) (nI e) s (nI i)
      rw [nI_clamp (n := e) (by omega), w1] at S
      have e1 : nI (A.hp e).length ≤ nI i := (nI_leI (by omega) (by omega)).mpr hi2
      refine S _ (i_vp he (by omega)) (fun _ => ⟨?_, rfl⟩) (fun z => absurd e1 z) (fun z => absurd e1 z) (fun z => absurd e1 z)
      rw [← hs, wsum, Int32.add_zero]
    | cons x xs ih =>
      intro i s hi hle hs
      have hlt : i < (A.hp e).length := by
        have := congrArg List.length hi
        simp at this
        omega
      have hx : (A.hp e).getD i 0 = x ∧ (A.hp e).drop (i + 1) = xs := by
        rw [lw_getD hlt 0] at hi
        exact ⟨(List.cons.inj hi).1, (List.cons.inj hi).2⟩
      obtain ⟨w4, w5⟩ := w3 i hlt
      rw [hx.1] at w4 w5
      have ix : (nI e * 30 + nI i : Int32) = nI (30 * e + i) := by rw [show (30 : Int32) = nI 30 from rfl, pk_mul, nI_add, Nat.mul_comm]
      have S := fun Q => @sg_X9_weightAt_5 l d Q c I c (at9_c h.cc) (nI e) s (nI i)
      rw [nI_clamp (n := e) (by omega), w1, ix, nI_clamp (n := 30 * e + i) (by omega), w4, nI_clamp (n := x) (by omega), h.told (k := 3) (by omega) (by omega) (by omega), nI_1] at S
      have e1 : ¬ nI (A.hp e).length ≤ nI i := fun z => by rw [nI_leI (by omega) (by omega)] at z; omega
      refine S _ (i_vp he (by omega)) (fun z => absurd z e1) (fun _ => i_vp (by omega) (by omega)) (fun _ => i_vp w5 (by omega)) (fun _ => ih (i + 1) _ hx.2 (by omega) ?_)
      rw [← hs, wsum, Int32.add_assoc]
  exact sn_X9_weightAt c _ (at9_c h.cc) (lp (A.hp e) 0 0 List.drop_zero (by omega) (Int32.zero_add _))
end C
set_option maxHeartbeats 4000000 in
theorem p_gathers {l : Launch} (a1 a2 a3 : Int32) : mx_PrI l Sim mX11_gathers mX12_gathers [.int a1, .int a2, .int a3] := by
  intro c I hs
  obtain ⟨nb, now, nl, nc, no, ni, nk, hp, ps, W⟩ := hs.2.1.world
  obtain ⟨⟨s1, s2, s3, s4, s5, s6, s7, s8⟩, ⟨c1, c2, c3, c4, c5, c6, c7⟩, ⟨d1, d2, d3, -⟩, -⟩ := id W.1
  have hc := hs.1
  obtain ⟨z21, z22, z25, z26⟩ := hs.2.2.2.2.2.2
  cases g1 : inR a1 0 nb with
  | false =>
    refine pr_no (-1) hs (sn_X11_gathers _ _ _ ⟨_, sp_hasEnd a1 c1 s2, ?_⟩) (sn_X12_gathers _ _ _ ⟨_, sp_isEnd a1 d1 s2, ?_⟩)
    · rintro _ _ ⟨rfl, rfl⟩; rw [g1]; exact sg_X11_gathers_8 _ _ _ _ (fun _ => ⟨rfl, rfl⟩) (fun z => absurd rfl z)
    · rintro _ _ ⟨rfl, rfl⟩; rw [g1]; exact sg_X12_gathers_5 _ _ _ _ (fun _ => ⟨rfl, rfl⟩) (fun z => absurd rfl z)
  | true =>
  cases g2 : inR a2 now 167 with
  | false =>
    refine pr_no (-1) hs (sn_X11_gathers _ _ _ ⟨_, sp_hasEnd a1 c1 s2, ?_⟩) (sn_X12_gathers _ _ _ ⟨_, sp_isEnd a1 d1 s2, ?_⟩)
    · rintro _ _ ⟨rfl, rfl⟩; rw [g1]
      refine sg_X11_gathers_8 _ _ _ _ (fun z => absurd z (by decide)) (fun _ => ⟨_, sp_isAhead a2 c2 s3, ?_⟩)
      rintro _ _ ⟨rfl, rfl⟩; rw [g2]; exact sg_X11_gathers_16 _ _ _ _ (fun _ => ⟨rfl, rfl⟩) (fun z => absurd rfl z) (fun z => absurd rfl z) (fun z => absurd rfl z)
    · rintro _ _ ⟨rfl, rfl⟩; rw [g1]
      refine sg_X12_gathers_5 _ _ _ _ (fun z => absurd z (by decide)) (fun _ => ⟨_, sp_isHour a2 d2 s3, ?_⟩)
      rintro _ _ ⟨rfl, rfl⟩; rw [g2]; exact sg_X12_gathers_13 _ _ _ _ (fun _ => ⟨rfl, rfl⟩) (fun z => absurd rfl z)
  | true =>
  cases g3 : inR a3 0 1 with
  | false =>
    have g3' := inR_f.mp g3
    refine pr_no (-1) hs (sn_X11_gathers _ _ _ ⟨_, sp_hasEnd a1 c1 s2, ?_⟩) (sn_X12_gathers _ _ _ ⟨_, sp_isEnd a1 d1 s2, ?_⟩)
    · rintro _ _ ⟨rfl, rfl⟩; rw [g1]
      refine sg_X11_gathers_8 _ _ _ _ (fun z => absurd z (by decide)) (fun _ => ⟨_, sp_isAhead a2 c2 s3, ?_⟩)
      rintro _ _ ⟨rfl, rfl⟩; rw [g2]
      refine sg_X11_gathers_16 _ _ _ _ (fun z => absurd z (by decide)) (fun _ _ => ⟨rfl, rfl⟩) (fun _ z1 z2 => ?_) (fun _ _ _ => ⟨rfl, rfl⟩)
      refine absurd ⟨?_, (i_le _ _).mp z2⟩ g3'
      have h' : ¬ a3.toInt < 0 := fun z => z1 ((i_lt _ _).mpr z)
      omega
    · rintro _ _ ⟨rfl, rfl⟩; rw [g1]
      refine sg_X12_gathers_5 _ _ _ _ (fun z => absurd z (by decide)) (fun _ => ⟨_, sp_isHour a2 d2 s3, ?_⟩)
      rintro _ _ ⟨rfl, rfl⟩; rw [g2]
      refine sg_X12_gathers_13 _ _ _ _ (fun z => absurd z (by decide)) (fun _ => ⟨_, sp_isIn _ _ _, ?_⟩)
      rintro _ _ ⟨rfl, rfl⟩; rw [show ((0 : Int32).toInt) = 0 from rfl, show ((1 : Int32).toInt) = 1 from by decide, g3]
      exact sg_X12_gathers_22 _ _ _ _ (fun z => absurd rfl z) (fun _ => ⟨rfl, rfl⟩)
  | true =>
  have g3' := inR_t.mp g3
  obtain ⟨e, hea, he⟩ := i_of g1
  subst hea
  have he4 : e < 4 := by omega
  have n0 : ¬ a3 < 0 := fun z => by have : a3.toInt < 0 := (i_lt _ _).mp z; omega
  have n1 : a3 ≤ 1 := (i_le _ _).mpr g3'.2
  let P : Pm := pm_of I ps nb nl nc no false true (pm_row false (I 1 6) 0 0 (-1) (-1))
  have hP : POk P := W.pok rfl
  have hB : PB P := W.pb
  have hI : HInv P now (hs_of I hp nk now) := W.hinv
  refine pr_go (fun v c1 I1 => c1 = 55 ∧ v = wsum (if a3 = 0 then fun _ => 1 else P.R 3) ((hs_go P a2.toInt (168 - now) (hs_of I hp nk now)).hp e) ∧ AInv P (hs_go P a2.toInt (168 - now) (hs_of I hp nk now)) [] ∧ ∀ k, k ≠ 32 → (k < 55 ∨ 73 < k) → I1 k = I k) ?_ ?_
  · refine sn_X11_gathers _ _ _ ⟨_, sp_hasEnd _ c1 s2, ?_⟩
    rintro _ _ ⟨rfl, rfl⟩; rw [g1]
    refine sg_X11_gathers_8 _ _ _ _ (fun z => absurd z (by decide)) (fun _ => ⟨_, sp_isAhead a2 c2 s3, ?_⟩)
    rintro _ _ ⟨rfl, rfl⟩; rw [g2]
    refine sg_X11_gathers_16 _ _ _ _ (fun z => absurd z (by decide)) (fun _ z => absurd z n0) (fun _ _ _ => ?_) (fun _ _ z => absurd n1 z)
    rw [c2]
    refine W.make (d := 97) s3 (fun _ _ => rfl) (fun I1 h1 h2 => ?_)
    refine sg_X11_gathers_51 _ _ _ ⟨_, sp_think (d := 97) hc, ?_⟩
    rintro _ _ ⟨rfl, J, rfl, hT⟩
    have jr : ∀ f, 7 ≤ f → f ≤ 12 → J 65 f = pm_row false (I 1 6) 0 0 (-1) (-1) f := fun f f1 f2 => by
      obtain ⟨q7, q8, q9, q10, q11, q12⟩ := hT.2.2.2.2.2.2.1
      rw [h1 1 (by omega)] at q8
      have : f = 7 ∨ f = 8 ∨ f = 9 ∨ f = 10 ∨ f = 11 ∨ f = 12 := by omega
      rcases this with rfl | rfl | rfl | rfl | rfl | rfl <;> simp [pm_row, b2i, *]
    have CR0 : CR 55 P (hs_of I hp nk now) J J := W.tht (fun k k1 k2 => h1 k (by omega)) hT (fun _ _ => rfl) jr (fun _ _ _ => rfl)
    have CP : CPlan P now J := h2.cplan ⟨s4, s5, s6⟩ (fun k k1 k2 => hT.out (by omega))
    refine sg_X11_gathers_55 _ _ _ ⟨_, sp_goOn (d := 73) (fm := now) hP hB (fun z => absurd z (by simp [P, pm_of])) CP CR0 hI, ?_⟩
    rintro _ _ ⟨rfl, I3, rfl, h3, h4⟩
    have hF : ∀ k, k ≠ 32 → (k < 55 ∨ 73 < k) → I3 k = I k := fun k k1 k2 => by
      rw [h3.out55 rfl k1 k2, hT.out (by omega), h1 k (by omega)]
    refine sg_X11_gathers_63 _ _ _ (fun g => ⟨_, sp_weightAt (d := 98) s4 h3 h4.1 he4, ?_⟩) (fun _ => i_vp he4 (by omega)) (fun g => ⟨_, 55, I3, rfl, rfl, rfl, ?_, h4.1, hF⟩)
    · rintro _ _ ⟨rfl, rfl⟩
      exact sg_X11_gathers_94 _ _ _ _ ⟨_, 55, I3, rfl, rfl, rfl, by rw [if_neg g]; rfl, h4.1, hF⟩
    · rw [nI_clamp (n := e) (by omega), if_pos g, wsum_one]
      exact (h3.heap e he4).1
  · rintro v c1 I1 ⟨rfl, hv, hA, hF⟩
    have w1 : I1 121 = I 121 := hF 121 (by omega) (by omega)
    have w0 : I1 120 = I 120 := hF 120 (by omega) (by omega)
    refine sn_X12_gathers _ _ _ ⟨_, sp_isEnd _ (by rw [w1]; exact d1) s2, ?_⟩
    rintro _ _ ⟨rfl, rfl⟩; rw [g1]
    refine sg_X12_gathers_5 _ _ _ _ (fun z => absurd z (by decide)) (fun _ => ⟨_, sp_isHour a2 (by rw [w1]; exact d2) s3, ?_⟩)
    rintro _ _ ⟨rfl, rfl⟩; rw [g2]
    refine sg_X12_gathers_13 _ _ _ _ (fun z => absurd z (by decide)) (fun _ => ⟨_, sp_isIn _ _ _, ?_⟩)
    rintro _ _ ⟨rfl, rfl⟩; rw [show ((0 : Int32).toInt) = 0 from rfl, show ((1 : Int32).toInt) = 1 from by decide, g3]
    refine sg_X12_gathers_22 _ _ _ _ (fun _ => ?_) (fun z => absurd z (by decide))
    refine mth_begin (d := 98) (fun K1 B1 => ?_)
    have M0 : MR P (hs_of I hp nk now) K1 K1 := W.mth hs w1 ⟨by rw [w0]; exact z22, by rw [w0]; exact z25, by rw [w0]; exact z26⟩ B1
    -- counting
    have cnt : ∀ (m k : Nat) (s : Int32) (B : HS) (K : mx_I), k + m = nl → MR P B K1 K → B = hs_go P a2.toInt (168 - now) (hs_of I hp nk now) → s = wsum (if a3 = 0 then fun _ => 1 else P.R 3) (inH (B.hp e) k) → mx_Go l (mx_rm (99 + 1) 0 0) mX12_gathers (mx_Z (fun r h' => r = some (.int v) ∧ ∃ (c2 : Nat) (K : mx_I), h' = (sk0 c2, K) ∧ Sim c2 K) 0 0) 0 0 54 [.ref 120, .int (nI e), .int a2, .int a3, .int s, .int (nI k)] [] (sk0 55, K) := by
      intro m
      induction m with
      | zero =>
        intro k s B K hk M hBR hsm
        have e1 : K 121 2 ≤ nI k := by rw [M.1.1.2.1]; exact (nI_leI (by show nl < _; omega) (by omega)).mpr (by show nl ≤ k; omega)
        refine sg_X12_gathers_54 _ _ _ _ _ (fun _ => ?_) (fun z => absurd e1 z)
        refine mth_end (d := 98) B1 (fun k k1 k2 => rfl) (fun j hj => rfl) (fun i hi => rfl) M.2.2.2 rfl (fun K4 hS => ?_)
        refine sg_X12_gathers_105 _ _ _ _ _ ⟨?_, 55, K4, rfl, hs.same (Or.inr rfl) hF hS⟩
        have hk' : k = nl := by omega
        rw [hv, hsm, ← hBR, hk', wsum_perm (inH_perm (n := nl) ?_ ?_)]
        · rw [hBR]; exact (hA.1 e he4).1
        · rw [hBR]; exact fun y hy => (((hA.1 e he4).2 y).mp hy).1
      | succ m ih =>
        intro k s B K hk M hBR hsm
        have hkl : k < P.nl := by show k < nl; omega
        have e1 : ¬ K 121 2 ≤ nI k := fun z => by
          rw [M.1.1.2.1] at z
          have := (nI_leI (show nl < 2 ^ 31 by omega) (by omega)).mp z
          omega
        refine sg_X12_gathers_54 _ _ _ _ _ (fun z => absurd z e1) (fun _ => ⟨_, sp_isThere (d := 97) M hkl s4, ?_⟩)
        rintro _ _ ⟨rfl, rfl⟩
        have hm : k ∈ B.hp e ↔ (B.r 1 k = nI e ∧ B.r 4 k = 0) := by
          have := (hA.1 e he4).2 k
          rw [← hBR] at this
          rw [this]
          exact ⟨fun z => ⟨z.2.1, z.2.2.1⟩, fun z => ⟨hkl, z.1, z.2, by simp⟩⟩
        refine sg_X12_gathers_72 _ _ _ _ _ _ (fun z => ?_) (fun z g => ⟨_, sp_ofLoad 0 rfl (by omega) (by omega), ?_⟩) (fun z g => ?_)
        · have hno : k ∉ B.hp e := fun w => of_decide_eq_false (b2i_0.mp z) (hm.mp w)
          rw [nI_1]
          refine ih (k + 1) s B K (by omega) M hBR ?_
          rw [inH_s, if_neg hno, List.append_nil]; exact hsm
        · have hin : k ∈ B.hp e := Classical.byContradiction (fun w => z (by rw [decide_eq_false (fun v => w (hm.mpr v))]; rfl))
          rintro _ _ ⟨rfl, rfl⟩
          rw [M.ld hkl (by omega)]
          refine sg_X12_gathers_92 _ _ _ _ _ _ _ ?_
          rw [nI_1]
          refine ih (k + 1) _ B K (by omega) M hBR ?_
          rw [inH_s, if_pos hin, wsum_append, hsm, wsum, wsum, Int32.add_zero, if_neg g]
        · have hin : k ∈ B.hp e := Classical.byContradiction (fun w => z (by rw [decide_eq_false (fun v => w (hm.mpr v))]; rfl))
          rw [nI_1 k]
          refine ih (k + 1) _ B K (by omega) M hBR ?_
          rw [inH_s, if_pos hin, wsum_append, hsm, wsum, wsum, Int32.add_zero, if_pos g]
    have lp : ∀ (m : Nat) (B : HS) (K : mx_I), B.now + m = 168 → MR P B K1 K → HInv P now B → B.r 65 13 = -1 → hs_go P a2.toInt m B = hs_go P a2.toInt (168 - now) (hs_of I hp nk now) → mx_Go l (mx_rm (99 + 1) 0 0) mX12_gathers (mx_Z (fun r h' => r = some (.int v) ∧ ∃ (c2 : Nat) (K : mx_I), h' = (sk0 c2, K) ∧ Sim c2 K) 0 0) 0 0 31 [.ref 120, .int (nI e), .int a2, .int a3, .retAddr 0, .retAddr 0] [] (sk0 55, K) := by
      have g2' := inR_t.mp g2
      intro m
      induction m with
      | zero =>
        intro B K hm M hHB h13 hR
        have e1 : a2 < K 121 1 := by rw [M.2.1.2.2.1.1, i_lt, nI_toInt (by omega)]; omega
        exact sg_X12_gathers_31 _ _ _ (fun _ => cnt nl 0 0 B K (by omega) M hR rfl) (fun z => absurd e1 z)
      | succ m ih =>
        intro B K hm M hHB h13 hR
        have e1 : a2 < K 121 1 ↔ a2.toInt < B.now := by rw [M.2.1.2.2.1.1, i_lt, nI_toInt (by omega)]
        refine sg_X12_gathers_31 _ _ _ (fun z => ?_) (fun z => ?_)
        · rw [hs_go_stop (fun w => by have := e1.mp z; have := w.1; omega)] at hR
          exact cnt nl 0 0 B K (by omega) M hR rfl
        · have z' : ¬ a2.toInt < B.now := fun w => z (e1.mpr w)
          rw [hs_go, if_pos ⟨by omega, h13⟩] at hR
          obtain ⟨y1, y2, y3⟩ := hHB.hour hP hB (by omega)
          obtain ⟨a1, a2, a3, a4, a5, a6, a7⟩ := hHB
          refine ⟨_, sp_anHour (d := 73) hP a1 a5 (by omega) M, ?_⟩
          rintro _ _ ⟨rfl, K', rfl, M'⟩
          exact sg_X12_gathers_45 _ _ _ (ih _ K' (by omega) M' y1 ((y3 World.rw5).trans h13) hR)
    exact lp (168 - now) (hs_of I hp nk now) K1 (by show now + (168 - now) = 168; omega) M0 hI rfl rfl
