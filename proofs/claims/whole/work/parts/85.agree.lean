/-! whether a night goes with its lists -/
/-- who is at an end -/
def stS (A : HS) (e : Int32) : Nat → Int32
  | 0 => 0
  | x + 1 => stS A e x ||| (if A.r 1 x = e ∧ A.r 4 x = 0 then (1 : Int32) <<< (nI x &&& 31) else 0)
theorem stS_bit (A : HS) (e : Int32) : ∀ n, n ≤ 30 → ∀ p, p < 32 → bt (stS A e n) p = decide (p < n ∧ A.r 1 p = e ∧ A.r 4 p = 0)
  | 0, _, p, _ => by rw [stS, b_0, decide_eq_false (fun z => absurd z.1 (Nat.not_lt_zero _))]
  | n + 1, hn, p, hp => by
    rw [stS, b_or, stS_bit A e n (by omega) p hp]
    by_cases g : A.r 1 n = e ∧ A.r 4 n = 0
    · rw [if_pos g, b_one (by omega) hp]
      by_cases q : p = n
      · subst q; rw [decide_eq_true rfl, decide_eq_true (⟨by omega, g⟩ : p < p + 1 ∧ _), Bool.or_true]
      · rw [decide_eq_false q, Bool.or_false, decide_eq_decide]
        exact ⟨fun z => ⟨by omega, z.2⟩, fun z => ⟨by omega, z.2⟩⟩
    · rw [if_neg g, b_0, Bool.or_false, decide_eq_decide]
      refine ⟨fun z => ⟨by omega, z.2⟩, fun z => ⟨?_, z.2⟩⟩
      have : p ≠ n := fun w => by subst w; exact g z.2
      omega
section S
variable {l : Launch} {c : Nat} {P : Pm} {I0 : mx_I}
theorem sp_setAtC {d : Nat} {A : HS} {I : mx_I} {e : Nat} (hP : P.nl ≤ 30) (h : CR c P A I0 I) (hA : AInv P A []) (he : e < 4) : mx_Spec l mX9_setAt (d + 1) 0 0 [.ref c, .int (nI e)] (sk0 c, I) (fun r h' => r = some (.int (stS A (nI e) P.nl)) ∧ h' = (sk0 c, I)) := by
  obtain ⟨w1, w2, w3⟩ := h.heap e he
  have hlen := hA.len he
  have lp : ∀ (m i : Nat) (s : Int32), i + m = (A.hp e).length → (∀ p, p < 32 → bt s p = decide (∃ j, j < i ∧ (A.hp e).getD j 0 = p)) → mx_Go l (mx_rm (d + 1) 0 0) mX9_setAt (mx_Z (fun r h' => r = some (.int (stS A (nI e) P.nl)) ∧ h' = (sk0 c, I)) 0 0) 0 0 4 [.ref c, .int (nI e), .int s, .int (nI i)] [] (sk0 c, I) := by
    intro m
    induction m with
    | zero =>
      intro i s hi hb
      have S := fun Q => @sg_X9_setAt_4 l d Q c I c (at9_c h.cc) (nI e) s (nI i)
      rw [nI_clamp (n := e) (by omega), w1] at S
      have e1 : nI (A.hp e).length ≤ nI i := (nI_leI (by omega) (by omega)).mpr (by omega)
      refine S _ (i_vp he (by omega)) (fun _ => ⟨?_, rfl⟩) (fun z => absurd e1 z) (fun z => absurd e1 z)
      refine congrArg (fun v => some (Value.int v)) (b_ext (fun p hp => ?_))
      rw [hb p hp, stS_bit A _ _ hP p hp, decide_eq_decide]
      have hm := (hA.1 e he).2 p
      constructor
      · rintro ⟨j, hj, rfl⟩
        have hin : (A.hp e).getD j 0 ∈ A.hp e := lw_mem (by omega) 0
        have z := ((hA.1 e he).2 _).mp hin
        exact ⟨z.1, z.2.1, z.2.2.1⟩
      · rintro ⟨z1, z2, z3⟩
        have hin : p ∈ A.hp e := hm.mpr ⟨z1, z2, z3, by simp⟩
        obtain ⟨j, hj, hj2⟩ := List.mem_iff_getElem.mp hin
        refine ⟨j, by omega, ?_⟩
        rw [List.getD_eq_getElem?_getD, List.getElem?_eq_getElem hj]
        exact hj2
    | succ m ih =>
      intro i s hi hb
      obtain ⟨w4, w5⟩ := w3 i (by omega)
      have ix : (nI e * 30 + nI i : Int32) = nI (30 * e + i) := by rw [show (30 : Int32) = nI 30 from rfl, pk_mul, nI_add, Nat.mul_comm]
      have S := fun Q => @sg_X9_setAt_4 l d Q c I c (at9_c h.cc) (nI e) s (nI i)
      rw [nI_clamp (n := e) (by omega), w1, ix, nI_clamp (n := 30 * e + i) (by omega), w4, nI_1] at S
      have e1 : ¬ nI (A.hp e).length ≤ nI i := fun z => by rw [nI_leI (by omega) (by omega)] at z; omega
      refine S _ (i_vp he (by omega)) (fun z => absurd z e1) (fun _ => i_vp (by omega) (by omega)) (fun _ => ih (i + 1) _ (by omega) (fun p hp => ?_))
      rw [b_set (by omega) _ hp, hb p hp]
      by_cases q : p = (A.hp e).getD i 0
      · rw [decide_eq_true q, Bool.or_true]
        exact (decide_eq_true ⟨i, by omega, q.symm⟩).symm
      · rw [decide_eq_false q, Bool.or_false, decide_eq_decide]
        constructor
        · rintro ⟨j, hj, hj2⟩; exact ⟨j, by omega, hj2⟩
        · rintro ⟨j, hj, hj2⟩
          have : j ≠ i := fun w => by subst w; exact q hj2.symm
          exact ⟨j, by omega, hj2⟩
  exact sn_X9_setAt c _ (at9_c h.cc) (lp (A.hp e).length 0 0 (by omega) (fun p hp => by rw [b_0]; exact (decide_eq_false (fun ⟨j, hj, _⟩ => absurd hj (Nat.not_lt_zero _))).symm))
theorem sp_setAtM {d : Nat} {A : HS} {I : mx_I} {y : Int32} (hP : P.nl ≤ 30) (M : MR P A I0 I) : mx_Spec l mX12_setAt (d + 3) 0 0 [.ref 120, .int y] (sk0 c, I) (fun r h' => r = some (.int (stS A y P.nl)) ∧ h' = (sk0 c, I)) := by
  have lp : ∀ (m x : Nat), x + m = P.nl → mx_Go l (mx_rm (d + 2 + 1) 0 0) mX12_setAt (mx_Z (fun r h' => r = some (.int (stS A y P.nl)) ∧ h' = (sk0 c, I)) 0 0) 0 0 4 [.ref 120, .int y, .int (stS A y x), .int (nI x)] [] (sk0 c, I) := by
    intro m
    induction m with
    | zero =>
      intro x hx
      have e1 : I 121 2 ≤ nI x := by rw [M.1.1.2.1]; exact (nI_leI (by omega) (by omega)).mpr (by omega)
      exact sg_X12_setAt_4 _ _ _ (fun _ => ⟨by rw [show P.nl = x from by omega], rfl⟩) (fun z => absurd e1 z)
    | succ m ih =>
      intro x hx
      have e1 : ¬ I 121 2 ≤ nI x := fun z => by
        rw [M.1.1.2.1] at z
        have := (nI_leI (by omega) (by omega)).mp z
        omega
      refine sg_X12_setAt_4 _ _ _ (fun z => absurd z e1) (fun _ => ⟨_, sp_isThere (d := d) M (by omega) hP, ?_⟩)
      rintro _ _ ⟨rfl, rfl⟩
      have nx := ih (x + 1) (by omega)
      rw [stS] at nx
      refine sg_X12_setAt_21 _ _ _ _ _ (fun z => ?_) (fun z => ?_)
      · rw [if_neg (of_decide_eq_false (b2i_0.mp z))] at nx
        rw [nI_1]; exact nx
      · have g := Classical.byContradiction (fun v : ¬ (A.r 1 x = y ∧ A.r 4 x = 0) => z (by rw [decide_eq_false v]; rfl))
        rw [if_pos g] at nx
        rw [nI_1]; exact nx
  exact sn_X12_setAt _ (lp P.nl 0 (by omega))
end S
/-- a night that begins anew -/
def hs_new (I : mx_I) (nk : Nat) : HS := ((fun k i => if k = 1 ∨ k = 2 ∨ k = 7 then -1 else if k = 5 then I 121 (29 + 10 * i) else if k < 10 then 0 else if k = 65 then (if i = 15 then 0 else -1) else I k i), (fun _ => []), 0, nk, 0)
def hs_it (P : Pm) : Nat → HS → HS
  | 0, A => A
  | n + 1, A => hs_hour P (hs_it P n A)
def agr (I : mx_I) (ni nl h : Nat) (A : HS) : Bool := decide (∀ i, i < ni → I 25 i = nI h → stS A (I 26 i) nl = I 27 i)
noncomputable def gwB (I : mx_I) (ni nl : Nat) (P : Pm) (A : HS) : Bool := @decide (∀ h, h < 168 → agr I ni nl h (hs_it P (h + 1) A) = true) (Classical.propDecidable _)
section W
variable {l : Launch} {I : mx_I} {nb now nl nc no ni nk : Nat} {hp : Nat → List Nat} {ps : lw_ps} {wr fl : Bool} {row : Nat → Int32}
theorem World.hinv0 (W : World I nb now nl nc no ni nk hp ps) : HInv (pm_of I ps nb nl nc no wr fl row) 0 (hs_new I nk) := by
  obtain ⟨-, -, ⟨v1, -⟩, -⟩ := W
  refine ⟨⟨fun e he => ⟨List.nodup_nil, fun x => ⟨fun z => absurd z (by show x ∉ []; simp), fun z => ?_⟩⟩, fun x _ => Or.inl rfl, fun x _ => ⟨Or.inl rfl, fun _ => rfl⟩, fun e he => ⟨List.Pairwise.nil, fun x hx => absurd hx (by show x ∉ []; simp)⟩, List.nodup_nil, fun x hx => absurd hx (by simp)⟩, ?_, ⟨fun x hx h5 => ?_, fun x hx h5 => ⟨rfl, rfl, rfl, rfl⟩⟩, fun i hi => Or.inl rfl, Nat.le_refl _, by show 0 ≤ 168; omega, fun x _ _ => ⟨rfl, rfl, rfl, rfl⟩, fun i _ _ => ⟨rfl, rfl, rfl⟩⟩
  · have h1 : (-1 : Int32) = nI e := z.2.1
    exact absurd h1.symm (nI_n1 (by omega))
  · intro i hi _ _ _
    exact Int.le_max_right _ _
  · rw [World.pq (by omega)] at h5
    have h5' : (I 5 x).toInt < 0 := h5
    have := (v1 x hx).2.2.1.1
    have h6 : 0 ≤ (I 5 x).toInt := this
    omega
theorem it_ok {P : Pm} {A : HS} (hP : POk P) (hB : PB P) (h11 : P.R 65 11 = -1) (hA : HInv P 0 A) (h0 : A.now = 0) (h13 : A.r 65 13 = -1) : ∀ n, n ≤ 168 → HInv P 0 (hs_it P n A) ∧ (hs_it P n A).now = n ∧ (hs_it P n A).r 65 13 = -1
  | 0, _ => ⟨hA, h0, h13⟩
  | n + 1, hn => by
    obtain ⟨i1, i2, i3⟩ := it_ok hP hB h11 hA h0 h13 n (by omega)
    obtain ⟨y1, y2, y3⟩ := i1.hour hP hB (by omega)
    exact ⟨y1, y2.trans (by rw [i2]), (y3 h11).trans i3⟩
theorem sp_lastHour {c d : Nat} {X : mx_I} (hn : X 24 3 = nI ni) (h20 : ni ≤ 20) (hv : ∀ i, i < ni → bnd (X 25 i) 0 167) : mx_Spec l mX4_lastHour (d + 1) 0 0 [.ref 24] (sk0 c, X) (fun r h' => (∃ x : Int32, r = some (.int x) ∧ -1 ≤ x.toInt ∧ x.toInt ≤ 167 ∧ ∀ i, i < ni → (X 25 i).toInt ≤ x.toInt) ∧ h' = (sk0 c, X)) := by
  have lp : ∀ (m i : Nat) (x : Int32), i + m = ni → -1 ≤ x.toInt → x.toInt ≤ 167 → (∀ j, j < i → (X 25 j).toInt ≤ x.toInt) → mx_Go l (mx_rm (d + 1) 0 0) mX4_lastHour (mx_Z (fun r h' => (∃ x : Int32, r = some (.int x) ∧ -1 ≤ x.toInt ∧ x.toInt ≤ 167 ∧ ∀ i, i < ni → (X 25 i).toInt ≤ x.toInt) ∧ h' = (sk0 c, X)) 0 0) 0 0 4 [.ref 24, .int x, .int (nI i)] [] (sk0 c, X) := by
    intro m
    induction m with
    | zero =>
      intro i x hi h1 h2 h3
      have e1 : X 24 3 ≤ nI i := by rw [hn]; exact (nI_leI (by omega) (by omega)).mpr (by omega)
      exact sg_X4_lastHour_4 _ _ (fun _ => ⟨⟨x, rfl, h1, h2, fun j hj => h3 j (by omega)⟩, rfl⟩) (fun z => absurd e1 z) (fun z => absurd e1 z)
    | succ m ih =>
      intro i x hi h1 h2 h3
      have e1 : ¬ X 24 3 ≤ nI i := fun z => by rw [hn, nI_leI (by omega) (by omega)] at z; omega
      have hb := hv i (by omega)
      have hb1 : 0 ≤ (X 25 i).toInt := hb.1
      have hb2 : (X 25 i).toInt ≤ 167 := hb.2
      refine sg_X4_lastHour_4 _ _ (fun z => absurd z e1) (fun _ => i_vp (by omega) (by omega)) (fun _ => ?_)
      rw [nI_clamp (n := i) (by omega), nI_1]
      by_cases q : x < X 25 i
      · rw [if_pos q]
        rw [i_lt] at q
        refine ih (i + 1) _ (by omega) (by omega) hb2 (fun j hj => ?_)
        by_cases w : j = i
        · subst w; omega
        · have := h3 j (by omega); omega
      · rw [if_neg q]
        rw [i_lt] at q
        refine ih (i + 1) _ (by omega) h1 h2 (fun j hj => ?_)
        by_cases w : j = i
        · subst w; omega
        · exact h3 j (by omega)
  exact sn_X4_lastHour (lp ni 0 (-1) (by omega) (by rw [m1_toInt]; omega) (by rw [m1_toInt]; omega) (fun j hj => absurd hj (Nat.not_lt_zero _)))
theorem sp_agree {d h : Nat} {P : Pm} {A : HS} {I0 X : mx_I} (hP : P.nl ≤ 30) (C : CR 55 P A I0 X) (hA : AInv P A []) (hn : X 24 3 = nI ni) (h20 : ni ≤ 20) (h3 : nb ≤ 3) (hX : X 25 = I 25 ∧ X 26 = I 26 ∧ X 27 = I 27) (hv : ∀ i, i < ni → bnd (I 26 i) 0 nb) : mx_Spec l mX4_agree (d + 2) 0 0 [.ref 24, .int (nI h), .ref 55] (sk0 55, X) (fun r h' => r = some (.int (b2i (agr I ni P.nl h A))) ∧ h' = (sk0 55, X)) := by
  have lp : ∀ (m i : Nat), i + m = ni → (∀ j, j < i → I 25 j = nI h → stS A (I 26 j) P.nl = I 27 j) → mx_Go l (mx_rm (d + 1 + 1) 0 0) mX4_agree (mx_Z (fun r h' => r = some (.int (b2i (agr I ni P.nl h A))) ∧ h' = (sk0 55, X)) 0 0) 0 0 2 [.ref 24, .int (nI h), .ref 55, .int (nI i)] [] (sk0 55, X) := by
    intro m
    induction m with
    | zero =>
      intro i hi hall
      have e1 : X 24 3 ≤ nI i := by rw [hn]; exact (nI_leI (by omega) (by omega)).mpr (by omega)
      refine sg_X4_agree_2 _ _ (fun _ => ⟨?_, rfl⟩) (fun z => absurd e1 z) (fun z => absurd e1 z) (fun z => absurd e1 z) (fun z => absurd e1 z)
      rw [show agr I ni P.nl h A = true from decide_eq_true (fun j hj => hall j (by omega))]; rfl
    | succ m ih =>
      intro i hi hall
      have e1 : ¬ X 24 3 ≤ nI i := fun z => by rw [hn, nI_leI (by omega) (by omega)] at z; omega
      have b1 : vp_in (nI i) 20 := i_vp (by omega) (by omega)
      have S := fun Q => @sg_X4_agree_2 l (d + 1) Q 55 X (nI h) (nI i)
      obtain ⟨y, hy, ly⟩ := bnd_nat (hv i (by omega))
      rw [nI_clamp (n := i) (by omega), hX.1, hX.2.1, hy, nI_1] at S
      refine S _ (fun z => absurd z e1) (fun _ => b1) (fun _ g => ih (i + 1) (by omega) (fun j hj hj2 => ?_)) (fun _ _ => b1) (fun _ g => ⟨_, sp_setAtC (d := d) hP C hA (by omega), ?_⟩)
      · by_cases w : j = i
        · subst w; exact absurd hj2 g
        · exact hall j (by omega) hj2
      rintro _ _ ⟨rfl, rfl⟩
      have S2 := fun Q => @sg_X4_agree_30 l (d + 1) Q 55 X (nI h) (nI i) (stS A (nI y) P.nl)
      rw [nI_clamp (n := i) (by omega), hX.2.2, nI_1] at S2
      refine S2 _ b1 (fun g2 => ih (i + 1) (by omega) (fun j hj hj2 => ?_)) (fun g2 => ⟨?_, rfl⟩)
      · by_cases w : j = i
        · subst w; rw [hy]; exact g2
        · exact hall j (by omega) hj2
      · rw [show agr I ni P.nl h A = false from decide_eq_false (fun z => g2 (by rw [← hy]; exact z i (by omega) g))]; rfl
  exact sn_X4_agree _ (lp ni 0 (by omega) (fun j hj => absurd hj (Nat.not_lt_zero _)))
end W
