/-! the model's half of a night -/
section W
variable {l : Launch} {I : mx_I} {nb now nl nc no ni nk : Nat} {hp : Nat → List Nat} {ps : lw_ps} {row : Nat → Int32}
theorem World.mr0 (W : World I nb now nl nc no ni nk hp ps) {K : mx_I} (hw : ∀ k, k ≠ 1 → k ≠ 10 → (∀ x j, x < nl → 1 ≤ j → j ≤ 4 → k ≠ 24 + 10 * x + j) → (∀ i, i < nc → k ≠ 328 + 14 * i) → K 121 k = I 121 k) (h8 : row 8 = I 1 6) (h1 : K 121 1 = 0) (h10 : K 121 10 = 0) (hL : ∀ x, x < nl → K 121 (25 + 10 * x) = -1 ∧ K 121 (26 + 10 * x) = -1 ∧ K 121 (27 + 10 * x) = 0 ∧ K 121 (28 + 10 * x) = 0) (hC : ∀ i, i < nc → K 121 (328 + 14 * i) = -1) (h21 : K 120 21 = 1) (h25 : K 120 25 = row 10) (h26 : K 120 26 = row 9) (h22 : K 120 22 = row 11) (h23 : row 11 = -1) :
    MR (pm_of I ps nb nl nc no false false row) (hs_new I nk) K K := by
  obtain ⟨⟨⟨s1, s2, s3, s4, s5, s6, s7, s8⟩, -, ⟨d1, d2, d3, d4, d5, d6, d7⟩, ⟨e1, e2, e3⟩, -⟩, ⟨r1, r2, r3, r4, r5, r6, r7, r8, r9⟩, -, ⟨p1, p2, p3, p4, p5, p6, p7⟩, lk, ⟨l4, l6, l5⟩, -, lm⟩ := W
  have hs_ : ∀ k, k ≠ 1 → k < 10 → K 121 k = I 121 k := fun k k1 k2 => hw k k1 (by omega) (fun x j _ _ _ => by omega) (fun i _ => by omega)
  have hb_ : ∀ k, 600 ≤ k → K 121 k = I 121 k := fun k k2 => hw k (by omega) (by omega) (fun x j _ _ _ => by omega) (fun i _ => by omega)
  refine ⟨⟨⟨by rw [hs_ 0 (by omega) (by omega)]; exact d1, by rw [hs_ 2 (by omega) (by omega)]; exact d3, by rw [hs_ 3 (by omega) (by omega)]; exact d4, by rw [hs_ 7 (by omega) (by omega)]; exact d5, by rw [World.rw5, h8, hs_ 4 (by omega) (by omega)]; exact e1, by rw [hs_ 5 (by omega) (by omega), World.pq (by omega)]; exact e2, by rw [hb_ 1600 (by omega)]; exact l6⟩, ⟨fun i hi => ?_, fun i hi => ?_⟩, fun x hx j hj => ?_, fun x hx => ?_, fun i hi j hj => ?_, fun o ho j hj => ?_⟩, ⟨fun x hx j j1 j2 => ?_, fun i hi j j1 j2 q => ?_, ⟨h1, fun z => absurd z (by simp [pm_of]), h10, by rw [hs_ 6 (by omega) (by omega)]; exact d7⟩, s8, fun i hi j hj => ?_⟩, ⟨⟨h21, by rw [World.rw5]; exact h25, by rw [World.rw5]; exact h26⟩, by rw [World.rw5]; exact h22, Or.inl (by rw [World.rw5]; exact h23), fun z => absurd z (by simp [pm_of])⟩, fun _ _ _ _ _ _ _ => rfl, fun _ _ _ _ _ => rfl, fun _ _ => rfl, fun _ _ _ => rfl⟩
  · rw [hb_ _ (by omega), hb_ _ (by omega), hb_ _ (by omega)]; exact lm.1 i hi
  · rw [hb_ _ (by omega), hb_ _ (by omega)]; exact lm.2 i hi
  · have hx' : x < nl := hx
    rw [hw _ (by omega) (by omega) (fun y j' _ _ _ => by omega) (fun i _ => by omega), World.pq (by omega), r1 x hx j hj]
  · have hx' : x < nl := hx
    rw [hw _ (by omega) (by omega) (fun y j' _ _ _ => by omega) (fun i _ => by omega), World.pq (by omega), World.pq (by omega)]; exact r2 x hx
  · have hi' : i < nc := hi
    rw [hw _ (by omega) (by omega) (fun y j' _ _ _ => by omega) (fun i' _ => by omega), World.pq (by omega), r4 i hi j hj]
  · rw [hb_ _ (by omega), World.pq (by omega), r7 o ho j (by omega)]
  · have hx' : x < nl := hx
    obtain ⟨q1, q2, q3, q4⟩ := hL x hx'
    have : j = 1 ∨ j = 2 ∨ j = 3 ∨ j = 4 ∨ j = 5 := by omega
    rcases this with rfl | rfl | rfl | rfl | rfl
    · rw [show 24 + 10 * x + 1 = 25 + 10 * x from by omega]; exact q1
    · rw [show 24 + 10 * x + 2 = 26 + 10 * x from by omega]; exact q2
    · rw [show 24 + 10 * x + 3 = 27 + 10 * x from by omega]; exact q3
    · rw [show 24 + 10 * x + 4 = 28 + 10 * x from by omega]; exact q4
    · rw [show 24 + 10 * x + 5 = 29 + 10 * x from by omega, hw _ (by omega) (by omega) (fun y j' _ _ _ => by omega) (fun i _ => by omega)]; rfl
  · have hi' : i < nc := hi
    have hj : j = 7 := q.resolve_right (by simp [pm_of])
    subst hj
    rw [show 321 + 14 * i + 7 = 328 + 14 * i from by omega]; exact hC i hi'
  · rw [hb_ _ (by omega), r9 i hi j hj]
    show _ = if 44 + j = 1 ∨ 44 + j = 2 ∨ 44 + j = 7 then _ else if 44 + j = 5 then _ else if 44 + j < 10 then _ else if 44 + j = 65 then _ else I (44 + j) i
    rw [if_neg (by omega), if_neg (by omega), if_neg (by omega), if_neg (by omega)]
set_option maxHeartbeats 2000000 in
theorem sp_goWith {d cc : Nat} {K0 : mx_I} {ab : Int32} (W : World I nb now nl nc no ni nk hp ps) (hK : K0 121 = I 121) (hf : K0 120 22 = -1 ∧ K0 120 26 = 0) :
    mx_Spec l mX12_goWith (d + 27) 0 0 [.ref 120, .int ab] (sk0 cc, K0) (fun r h' => r = some (.int (b2i (gwB I ni nl (pm_of I ps nb nl nc no false false (pm_row false (I 1 6) 0 ab (-1) (-1))) (hs_new I nk)))) ∧ ∃ K', h' = (sk0 cc, K') ∧ Same K0 K') := by
  obtain ⟨⟨s1, s2, s3, s4, s5, s6, s7, s8⟩, -, ⟨d1, d2, d3, d4, d5, d6, d7⟩, -⟩ := id W.1
  obtain ⟨r1, r2, r3, r4, r5, r6, r7, r8, r9⟩ := id W.2.1
  let P : Pm := pm_of I ps nb nl nc no false false (pm_row false (I 1 6) 0 ab (-1) (-1))
  have hP : POk P := W.pok rfl
  have hB : PB P := W.pb
  have h11 : P.R 65 11 = -1 := World.rw5
  have hI : HInv P 0 (hs_new I nk) := W.hinv0
  have IT := it_ok hP hB h11 hI rfl rfl
  refine sn_X12_goWith _ (mth_begin (d := d + 25) (fun K1 B1 => ?_))
  refine sg_X12_goWith_4 _ ?_
  have e0 : ∀ k, k ≠ 120 → k ≠ 121 → mx_set (mx_set (mx_set K1 120 25 ab) 121 1 0) 121 10 0 k = K1 k := fun k k1 k2 => by rw [ms_ne k2, ms_ne k2, ms_ne k1]
  have e1 : ∀ j, j ≠ 25 → mx_set (mx_set (mx_set K1 120 25 ab) 121 1 0) 121 10 0 120 j = K1 120 j := fun j hj => by rw [ms_ne (by omega), ms_ne (by omega), ms_at (Or.inr hj)]
  have e25 : mx_set (mx_set (mx_set K1 120 25 ab) 121 1 0) 121 10 0 120 25 = ab := by rw [ms_ne (by omega), ms_ne (by omega), ms_self, upd_eq]
  have w0 : ∀ k, k ≠ 1 → k ≠ 10 → mx_set (mx_set (mx_set K1 120 25 ab) 121 1 0) 121 10 0 121 k = I 121 k := fun k k1 k2 => by rw [ms_at (Or.inr k2), ms_at (Or.inr k1), ms_ne (by omega), B1.1 121 (by omega) (by omega), hK]
  have w1 : mx_set (mx_set (mx_set K1 120 25 ab) 121 1 0) 121 10 0 121 1 = 0 ∧ mx_set (mx_set (mx_set K1 120 25 ab) 121 1 0) 121 10 0 121 10 = 0 := ⟨by rw [ms_at (Or.inr (by omega)), ms_self, upd_eq], by rw [ms_self, upd_eq]⟩
  generalize mx_set (mx_set (mx_set K1 120 25 ab) 121 1 0) 121 10 0 = K2 at e0 e1 e25 w0 w1 ⊢
  -- what stays
  have hours : ∀ (K3 : mx_I), (∀ k, k ≠ 121 → K3 k = K2 k) → (∀ k, 600 ≤ k → K3 121 k = K2 121 k) → MR P (hs_new I nk) K3 K3 → K3 121 8 = nI ni → mx_Go l (mx_rm (d + 26 + 1) 0 0) mX12_goWith (mx_Z (fun r h' => r = some (.int (b2i (gwB I ni nl P (hs_new I nk)))) ∧ ∃ K', h' = (sk0 cc, K') ∧ Same K0 K') 0 0) 0 0 101 [.ref 120, .int ab, .int 1, .retAddr 0] [] (sk0 cc, K3) := by
    intro K3 q0 q6 M0 q8
    have fin : ∀ {A : HS} {K : mx_I} {b : Bool} {y : Value}, MR P A K3 K → b = gwB I ni nl P (hs_new I nk) → mx_K1 l mX12_comesBack (d + 26) [.ref 120] (sk0 cc, K) (fun r h' => mx_Go l (mx_rm (d + 26 + 1) 0 0) mX12_goWith (mx_Z (fun r h' => r = some (.int (b2i (gwB I ni nl P (hs_new I nk)))) ∧ ∃ K', h' = (sk0 cc, K') ∧ Same K0 K') 0 0) 0 0 215 [.ref 120, .int ab, .int (b2i b), .retAddr 0] (r.toList ++ []) h') := by
      intro A K b y M hb
      refine mth_end (d := d + 25) B1 (fun k k1 k2 => (q0 k k2).trans (e0 k k1 k2)) (fun j hj => by rw [q0 120 (by omega)]; exact e1 j (by omega)) (fun i hi => by rw [q6 i hi, w0 i (by omega) (by omega), B1.1 121 (by omega) (by omega), hK]) M.2.2.2 rfl (fun K4 hS => ?_)
      exact sg_X12_goWith_215 _ _ ⟨by rw [hb], K4, rfl, hS⟩ (b2i_01 b)
    have tab : ∀ {A : HS} {K : mx_I}, MR P A K3 K → K 121 8 = nI ni ∧ ∀ i, i < ni → ∀ j, j < 3 → K 121 (1540 + 3 * i + j) = I (25 + j) i := fun M => by
      obtain ⟨f1, f2, f3, f4⟩ := M.2.2.2
      refine ⟨by rw [f3 8 (MK.no (by omega) (fun _ _ => by omega) (fun _ _ => by omega) (by omega))]; exact q8, fun i hi j hj => ?_⟩
      rw [f4 rfl _ (by omega), q6 _ (by omega), w0 _ (by omega) (by omega)]
      exact r8 i hi j hj
    have lp : ∀ (m h : Nat) (K : mx_I), h + m = 168 → MR P (hs_it P h (hs_new I nk)) K3 K → (∀ g, g < h → agr I ni nl g (hs_it P (g + 1) (hs_new I nk)) = true) → mx_Go l (mx_rm (d + 26 + 1) 0 0) mX12_goWith (mx_Z (fun r h' => r = some (.int (b2i (gwB I ni nl P (hs_new I nk)))) ∧ ∃ K', h' = (sk0 cc, K') ∧ Same K0 K') 0 0) 0 0 101 [.ref 120, .int ab, .int 1, .retAddr 0] [] (sk0 cc, K) := by
      intro m
      induction m with
      | zero =>
        intro h K hm M hall
        obtain ⟨i1, i2, i3⟩ := IT h (by omega)
        have g1 : (167 : Int32) < K 121 1 := by rw [M.2.1.2.2.1.1, i2, show (167 : Int32) = nI 167 from rfl, nI_ltI (by omega) (by omega)]; omega
        exact sg_X12_goWith_101 _ _ (fun z => absurd z (by decide)) (fun _ _ => fin (b := true) (y := .retAddr 0) M (gw_t (fun g hg => hall g (by omega))).symm) (fun _ z => absurd g1 z)
      | succ m ih =>
        intro h K hm M hall
        obtain ⟨i1, i2, i3⟩ := IT h (by omega)
        obtain ⟨n1, n2, n3⟩ := IT (h + 1) (by omega)
        have g1 : ¬ (167 : Int32) < K 121 1 := fun z => by rw [M.2.1.2.2.1.1, i2, show (167 : Int32) = nI 167 from rfl, nI_ltI (by omega) (by omega)] at z; omega
        refine sg_X12_goWith_101 _ _ (fun z => absurd z (by decide)) (fun _ z => absurd z g1) (fun _ _ => ⟨_, sp_anHour (d := d) hP i1.1 i1.2.2.2.2.1 (by omega) M, ?_⟩)
        rintro _ _ ⟨rfl, K', rfl, M'⟩
        have M2 : MR P (hs_it P (h + 1) (hs_new I nk)) K3 K' := M'
        obtain ⟨t8, tt⟩ := tab M2
        have k1 : K' 121 1 - 1 = nI h := by rw [M2.2.1.2.2.1.1, n2, show (1 : Int32) = nI 1 from rfl, pk_sub (by omega)]; rfl
        refine sg_X12_goWith_121 _ _ ?_
        have ll : ∀ (m' i : Nat), i + m' = ni → (∀ j, j < i → I 25 j = nI h → stS (hs_it P (h + 1) (hs_new I nk)) (I 26 j) nl = I 27 j) → mx_Go l (mx_rm (d + 26 + 1) 0 0) mX12_goWith (mx_Z (fun r h' => r = some (.int (b2i (gwB I ni nl P (hs_new I nk)))) ∧ ∃ K', h' = (sk0 cc, K') ∧ Same K0 K') 0 0) 0 0 123 [.ref 120, .int ab, .int 1, .int (nI i)] [] (sk0 cc, K') := by
          intro m'
          induction m' with
          | zero =>
            intro i hi hh
            have z1 : K' 121 8 ≤ nI i := by rw [t8]; exact (nI_leI (by omega) (by omega)).mpr (by omega)
            refine sg_X12_goWith_123 _ _ _ (fun _ => ?_) (fun z => absurd z1 z) (fun z => absurd z1 z) (fun z => absurd z1 z) (fun z => absurd z1 z) (fun z => absurd z1 z)
            refine mx_fg (L' := [.ref 120, .int ab, .int 1, .retAddr 0]) (by simp [mx_le]) ?_
            refine ih (h + 1) K' (by omega) M2 (fun g hg => ?_)
            by_cases q : g < h
            · exact hall g q
            · have hgh : g = h := by omega
              subst hgh
              exact decide_eq_true (fun j hj => hh j (by omega))
          | succ m' ih' =>
            intro i hi hh
            have z1 : ¬ K' 121 8 ≤ nI i := fun z => by rw [t8, nI_leI (by omega) (by omega)] at z; omega
            have ix : (1540 + 3 * nI i : Int32) = nI (1540 + 3 * i) := by rw [show (3 : Int32) = nI 3 from rfl, pk_mul, show (1540 : Int32) = nI 1540 from rfl, nI_add]
            have t0 : K' 121 (1540 + 3 * i) = I 25 i := tt i (by omega) 0 (by omega)
            have t1 : K' 121 (1540 + 3 * i + 1) = I 26 i := tt i (by omega) 1 (by omega)
            have t2 : K' 121 (1540 + 3 * i + 2) = I 27 i := tt i (by omega) 2 (by omega)
            have S := fun Q => @sg_X12_goWith_123 l (d + 26) Q cc K' ab 1 (nI i)
            rw [ix, nI_1 (1540 + 3 * i), nI_clamp (n := 1540 + 3 * i) (by omega), nI_clamp (n := 1540 + 3 * i + 1) (by omega), t0, t1, k1, nI_1 i] at S
            refine S _ (fun z => absurd z z1) (fun _ z => absurd z (by decide)) (fun _ _ => i_vp (by omega) (by omega)) (fun _ _ g => ih' (i + 1) (by omega) (fun j hj hj2 => ?_)) (fun _ _ _ => i_vp (by omega) (by omega)) (fun _ _ g => ⟨_, sp_setAtM (d := d + 23) s4 M2, ?_⟩)
            · by_cases w : j = i
              · subst w; exact absurd hj2 g
              · exact hh j (by omega) hj2
            rintro _ _ ⟨rfl, rfl⟩
            have S2 := fun Q => @sg_X12_goWith_179 l (d + 26) Q cc K' ab 1 (nI i) (stS (hs_it P (h + 1) (hs_new I nk)) (I 26 i) P.nl)
            rw [ix, show (2 : Int32) = nI 2 from rfl, nI_add (1540 + 3 * i) 2, nI_clamp (n := 1540 + 3 * i + 2) (by omega), t2, nI_1 i] at S2
            refine S2 _ (i_vp (by omega) (by omega)) (fun g2 => ?_) (fun g2 => ih' (i + 1) (by omega) (fun j hj hj2 => ?_))
            · -- a list is not met
              have hno : gwB I ni nl P (hs_new I nk) = false := gw_f (nl := nl) (h := h) (by omega) (decide_eq_false (fun z => g2 (z i (by omega) g)))
              have out : mx_Go l (mx_rm (d + 26 + 1) 0 0) mX12_goWith (mx_Z (fun r h' => r = some (.int (b2i (gwB I ni nl P (hs_new I nk)))) ∧ ∃ K', h' = (sk0 cc, K') ∧ Same K0 K') 0 0) 0 0 101 [.ref 120, .int ab, .int 0, .int (nI (i + 1))] [] (sk0 cc, K') := by
                refine mx_fg (L' := [.ref 120, .int ab, .int 0, .retAddr 0]) (by simp [mx_le]) ?_
                exact sg_X12_goWith_101 _ _ (fun _ => fin (b := false) (y := .retAddr 0) M2 hno.symm) (fun z => absurd rfl z) (fun z => absurd rfl z)
              exact sg_X12_goWith_123 _ _ _ (fun _ => out) (fun _ _ => out) (fun _ z => absurd rfl z) (fun _ z => absurd rfl z) (fun _ z => absurd rfl z) (fun _ z => absurd rfl z)
            · by_cases w : j = i
              · subst w; exact g2
              · exact hh j (by omega) hj2
        exact ll ni 0 (by omega) (fun j hj => absurd hj (Nat.not_lt_zero _))
    exact lp 168 0 K3 (by omega) M0 (fun g hg => absurd hg (Nat.not_lt_zero _))
  -- crossers
  have cr : ∀ (m i : Nat) (K : mx_I), i + m = nc → (∀ k, k ≠ 121 → K k = K2 k) → (∀ k, (∀ x j, x < nl → 1 ≤ j → j ≤ 4 → k ≠ 24 + 10 * x + j) → (∀ x, x < i → k ≠ 328 + 14 * x) → K 121 k = K2 121 k) → (∀ x, x < nl → K 121 (25 + 10 * x) = -1 ∧ K 121 (26 + 10 * x) = -1 ∧ K 121 (27 + 10 * x) = 0 ∧ K 121 (28 + 10 * x) = 0) → (∀ x, x < i → K 121 (328 + 14 * x) = -1) → mx_Go l (mx_rm (d + 26 + 1) 0 0) mX12_goWith (mx_Z (fun r h' => r = some (.int (b2i (gwB I ni nl P (hs_new I nk)))) ∧ ∃ K', h' = (sk0 cc, K') ∧ Same K0 K') 0 0) 0 0 75 [.ref 120, .int ab, .int (nI i), .retAddr 0] [] (sk0 cc, K) := by
    intro m
    induction m with
    | zero =>
      intro i K hi a0 a1 a2 a3
      have k3 : K 121 3 = nI nc := by rw [a1 3 (fun _ _ _ _ _ => by omega) (fun _ _ => by omega), w0 3 (by omega) (by omega)]; exact d4
      have z1 : K 121 3 ≤ nI i := by rw [k3]; exact (nI_leI (by omega) (by omega)).mpr (by omega)
      refine sg_X12_goWith_75 _ _ (fun _ => ?_) (fun z => absurd z1 z)
      have hi' : i = nc := by omega
      subst hi'
      refine hours K a0 (fun k hk => a1 k (fun _ _ _ _ _ => by omega) (fun _ _ => by omega)) ?_ (by rw [a1 8 (fun _ _ _ _ _ => by omega) (fun _ _ => by omega), w0 8 (by omega) (by omega)]; exact d6)
      refine W.mr0 (fun k b1 b2 b3 b4 => by rw [a1 k b3 b4, w0 k b1 b2]) rfl ?_ ?_ a2 a3 ?_ ?_ ?_ ?_ rfl
      · rw [a1 1 (fun _ _ _ _ _ => by omega) (fun _ _ => by omega)]; exact w1.1
      · rw [a1 10 (fun _ _ _ _ _ => by omega) (fun _ _ => by omega)]; exact w1.2
      · rw [a0 120 (by omega), e1 21 (by omega)]; exact B1.2.2.1
      · rw [a0 120 (by omega)]; exact e25
      · rw [a0 120 (by omega), e1 26 (by omega), B1.2.1 26 (by omega)]; exact hf.2
      · rw [a0 120 (by omega), e1 22 (by omega), B1.2.1 22 (by omega)]; exact hf.1
    | succ m ih =>
      intro i K hi a0 a1 a2 a3
      have k3 : K 121 3 = nI nc := by rw [a1 3 (fun _ _ _ _ _ => by omega) (fun _ _ => by omega), w0 3 (by omega) (by omega)]; exact d4
      have z1 : ¬ K 121 3 ≤ nI i := fun z => by rw [k3, nI_leI (by omega) (by omega)] at z; omega
      refine sg_X12_goWith_75 _ _ (fun z => absurd z z1) (fun _ => ⟨_, sp_gives 8 rfl (by omega) (by omega), ?_⟩)
      rintro _ _ ⟨rfl, rfl⟩
      refine sg_X12_goWith_93 _ _ ?_
      rw [nI_1, show 320 + 14 * i + 8 = 328 + 14 * i from by omega]
      refine ih (i + 1) _ (by omega) (fun k hk => by rw [ms_ne hk]; exact a0 k hk) (fun k b1 b2 => by rw [ms_at (Or.inr (b2 i (by omega)))]; exact a1 k b1 (fun x hx => b2 x (by omega))) (fun x hx => ?_) (fun x hx => ?_)
      · rw [ms_at (Or.inr (by omega)), ms_at (Or.inr (by omega)), ms_at (Or.inr (by omega)), ms_at (Or.inr (by omega))]; exact a2 x hx
      · by_cases q : x = i
        · subst q; rw [ms_self, upd_eq]
        · rw [ms_at (Or.inr (by omega))]; exact a3 x (by omega)
  -- loads
  have ld : ∀ (m i : Nat) (K : mx_I), i + m = nl → (∀ k, k ≠ 121 → K k = K2 k) → (∀ k, (∀ x j, x < i → 1 ≤ j → j ≤ 4 → k ≠ 24 + 10 * x + j) → K 121 k = K2 121 k) → (∀ x, x < i → K 121 (25 + 10 * x) = -1 ∧ K 121 (26 + 10 * x) = -1 ∧ K 121 (27 + 10 * x) = 0 ∧ K 121 (28 + 10 * x) = 0) → mx_Go l (mx_rm (d + 26 + 1) 0 0) mX12_goWith (mx_Z (fun r h' => r = some (.int (b2i (gwB I ni nl P (hs_new I nk)))) ∧ ∃ K', h' = (sk0 cc, K') ∧ Same K0 K') 0 0) 0 0 26 [.ref 120, .int ab, .int (nI i), .retAddr 0] [] (sk0 cc, K) := by
    intro m
    induction m with
    | zero =>
      intro i K hi a0 a1 a2
      have k2 : K 121 2 = nI nl := by rw [a1 2 (fun _ _ _ _ _ => by omega), w0 2 (by omega) (by omega)]; exact d3
      have z1 : K 121 2 ≤ nI i := by rw [k2]; exact (nI_leI (by omega) (by omega)).mpr (by omega)
      have hi' : i = nl := by omega
      subst hi'
      exact sg_X12_goWith_26 _ _ (fun _ => cr nc 0 K (by omega) a0 (fun k b1 _ => a1 k b1) a2 (fun x hx => absurd hx (Nat.not_lt_zero _))) (fun z => absurd z1 z)
    | succ m ih =>
      intro i K hi a0 a1 a2
      have k2 : K 121 2 = nI nl := by rw [a1 2 (fun _ _ _ _ _ => by omega), w0 2 (by omega) (by omega)]; exact d3
      have z1 : ¬ K 121 2 ≤ nI i := fun z => by rw [k2, nI_leI (by omega) (by omega)] at z; omega
      refine sg_X12_goWith_26 _ _ (fun z => absurd z z1) (fun _ => ⟨_, sp_loads 5 rfl (by omega) (by omega), ?_⟩)
      rintro _ _ ⟨rfl, rfl⟩
      refine sg_X12_goWith_43 _ _ ⟨_, sp_loads 6 rfl (by omega) (by omega), ?_⟩
      rintro _ _ ⟨rfl, rfl⟩
      refine sg_X12_goWith_51 _ _ ⟨_, sp_loads 7 rfl (by omega) (by omega), ?_⟩
      rintro _ _ ⟨rfl, rfl⟩
      refine sg_X12_goWith_59 _ _ ⟨_, sp_loads 8 rfl (by omega) (by omega), ?_⟩
      rintro _ _ ⟨rfl, rfl⟩
      refine sg_X12_goWith_67 _ _ ?_
      rw [nI_1]
      refine ih (i + 1) _ (by omega) (fun k hk => by rw [ms_ne hk, ms_ne hk, ms_ne hk, ms_ne hk]; exact a0 k hk) (fun k b1 => ?_) (fun x hx => ?_)
      · have c1 := b1 i 1 (by omega) (by omega) (by omega)
        have c2 := b1 i 2 (by omega) (by omega) (by omega)
        have c3 := b1 i 3 (by omega) (by omega) (by omega)
        have c4 := b1 i 4 (by omega) (by omega) (by omega)
        rw [ms_at (Or.inr (by omega)), ms_at (Or.inr (by omega)), ms_at (Or.inr (by omega)), ms_at (Or.inr (by omega))]
        exact a1 k (fun x j hx => b1 x j (by omega))
      · by_cases q : x = i
        · subst q
          refine ⟨?_, ?_, ?_, ?_⟩
          · rw [ms_at (Or.inr (by omega)), ms_at (Or.inr (by omega)), ms_at (Or.inr (by omega)), show 20 + 10 * x + 5 = 25 + 10 * x from by omega, ms_self, upd_eq]
          · rw [ms_at (Or.inr (by omega)), ms_at (Or.inr (by omega)), show 20 + 10 * x + 6 = 26 + 10 * x from by omega, ms_self, upd_eq]
          · rw [ms_at (Or.inr (by omega)), show 20 + 10 * x + 7 = 27 + 10 * x from by omega, ms_self, upd_eq]
          · rw [show 20 + 10 * x + 8 = 28 + 10 * x from by omega, ms_self, upd_eq]
        · have := a2 x (by omega)
          refine ⟨?_, ?_, ?_, ?_⟩
          · rw [ms_at (Or.inr (by omega)), ms_at (Or.inr (by omega)), ms_at (Or.inr (by omega)), ms_at (Or.inr (by omega))]; exact this.1
          · rw [ms_at (Or.inr (by omega)), ms_at (Or.inr (by omega)), ms_at (Or.inr (by omega)), ms_at (Or.inr (by omega))]; exact this.2.1
          · rw [ms_at (Or.inr (by omega)), ms_at (Or.inr (by omega)), ms_at (Or.inr (by omega)), ms_at (Or.inr (by omega))]; exact this.2.2.1
          · rw [ms_at (Or.inr (by omega)), ms_at (Or.inr (by omega)), ms_at (Or.inr (by omega)), ms_at (Or.inr (by omega))]; exact this.2.2.2
  exact ld nl 0 K2 (by omega) (fun _ _ => rfl) (fun _ _ => rfl) (fun x hx => absurd hx (Nat.not_lt_zero _))
end W
