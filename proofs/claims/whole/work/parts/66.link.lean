/-! thoughts begin and end; a world as numbers -/
def Tht (I J : mx_I) : Prop := (∀ k, k < 55 ∨ 65 < k → J k = I k) ∧ (∀ j, 1 ≤ j → j ≤ 4 → ∀ i, i < 30 → J (55 + j) i = I (33 + j) i) ∧ (∀ i, i < 120 → J 60 i = I 38 i) ∧ (∀ i, i < 4 → J 61 i = I 39 i) ∧ (∀ j, 7 ≤ j → j ≤ 9 → ∀ i, i < 20 → J (55 + j) i = I (33 + j) i) ∧ (J 55 9 = I 33 9 ∧ J 55 10 = I 33 10) ∧ (J 65 7 = 0 ∧ J 65 8 = I 1 6 ∧ J 65 9 = 0 ∧ J 65 10 = 0 ∧ J 65 11 = -1 ∧ J 65 12 = -1) ∧ (J 65 13 = -1 ∧ J 65 14 = -1 ∧ J 65 15 = 0)
theorem cpy_ne {I : mx_I} {k0 k1 N a : Nat} (h : a ≠ k1) : mx_copy I k0 k1 N a = I a := mx_row_ne h
theorem cpy_eq {I : mx_I} {k0 k1 N i : Nat} (h : i < N) : mx_copy I k0 k1 N k1 i = I k0 i := by
  unfold mx_copy
  rw [mx_row_self, pk_cpy_in (by omega) (by omega)]
  congr 1
  omega
section C
variable {l : Launch} {c : Nat}
set_option maxHeartbeats 1000000 in
theorem sp_think {d : Nat} {I : mx_I} (hc : c = 33 ∨ c = 55) : mx_Spec l mX11_think (d + 2) 0 0 [.ref 0] (sk0 c, I) (fun r h' => r = none ∧ ∃ J, h' = (sk0 55, J) ∧ Tht I J) := by
  refine sn_X11_think ⟨_, sn_X9_copyFrom_55_33 (Q := fun r h' => r = none ∧ h' = (sk0 c, (mx_set (mx_set (mx_copy (mx_copy (mx_copy (mx_copy (mx_copy (mx_copy (mx_copy (mx_copy (mx_copy I 34 56 30) 35 57 30) 36 58 30) 37 59 30) 38 60 120) 39 61 4) 40 62 20) 41 63 20) 42 64 20) 55 9 (I 33 9)) 55 10 (I 33 10)))) ⟨rfl, rfl⟩, ?_⟩
  rintro _ _ ⟨rfl, rfl⟩
  generalize hK : (mx_set (mx_set (mx_copy (mx_copy (mx_copy (mx_copy (mx_copy (mx_copy (mx_copy (mx_copy (mx_copy I 34 56 30) 35 57 30) 36 58 30) 37 59 30) 38 60 120) 39 61 4) 40 62 20) 41 63 20) 42 64 20) 55 9 (I 33 9)) 55 10 (I 33 10)) = K
  have kn : ∀ k, k < 55 ∨ 64 < k → K k = I k := fun k hk => by
    rw [← hK, ms_ne (by omega), ms_ne (by omega), cpy_ne (by omega), cpy_ne (by omega), cpy_ne (by omega), cpy_ne (by omega), cpy_ne (by omega), cpy_ne (by omega), cpy_ne (by omega), cpy_ne (by omega), cpy_ne (by omega)]
  have k56 : ∀ i, i < 30 → K 56 i = I 34 i := fun i hi => by
    rw [← hK, ms_ne (by omega), ms_ne (by omega), cpy_ne (by omega), cpy_ne (by omega), cpy_ne (by omega), cpy_ne (by omega), cpy_ne (by omega), cpy_ne (by omega), cpy_ne (by omega), cpy_ne (by omega), cpy_eq hi]
  have k57 : ∀ i, i < 30 → K 57 i = I 35 i := fun i hi => by
    rw [← hK, ms_ne (by omega), ms_ne (by omega), cpy_ne (by omega), cpy_ne (by omega), cpy_ne (by omega), cpy_ne (by omega), cpy_ne (by omega), cpy_ne (by omega), cpy_ne (by omega), cpy_eq hi, cpy_ne (by omega)]
  have k58 : ∀ i, i < 30 → K 58 i = I 36 i := fun i hi => by
    rw [← hK, ms_ne (by omega), ms_ne (by omega), cpy_ne (by omega), cpy_ne (by omega), cpy_ne (by omega), cpy_ne (by omega), cpy_ne (by omega), cpy_ne (by omega), cpy_eq hi, cpy_ne (by omega), cpy_ne (by omega)]
  have k59 : ∀ i, i < 30 → K 59 i = I 37 i := fun i hi => by
    rw [← hK, ms_ne (by omega), ms_ne (by omega), cpy_ne (by omega), cpy_ne (by omega), cpy_ne (by omega), cpy_ne (by omega), cpy_ne (by omega), cpy_eq hi, cpy_ne (by omega), cpy_ne (by omega), cpy_ne (by omega)]
  have k60 : ∀ i, i < 120 → K 60 i = I 38 i := fun i hi => by
    rw [← hK, ms_ne (by omega), ms_ne (by omega), cpy_ne (by omega), cpy_ne (by omega), cpy_ne (by omega), cpy_ne (by omega), cpy_eq hi, cpy_ne (by omega), cpy_ne (by omega), cpy_ne (by omega), cpy_ne (by omega)]
  have k61 : ∀ i, i < 4 → K 61 i = I 39 i := fun i hi => by
    rw [← hK, ms_ne (by omega), ms_ne (by omega), cpy_ne (by omega), cpy_ne (by omega), cpy_ne (by omega), cpy_eq hi, cpy_ne (by omega), cpy_ne (by omega), cpy_ne (by omega), cpy_ne (by omega), cpy_ne (by omega)]
  have k62 : ∀ i, i < 20 → K 62 i = I 40 i := fun i hi => by
    rw [← hK, ms_ne (by omega), ms_ne (by omega), cpy_ne (by omega), cpy_ne (by omega), cpy_eq hi, cpy_ne (by omega), cpy_ne (by omega), cpy_ne (by omega), cpy_ne (by omega), cpy_ne (by omega), cpy_ne (by omega)]
  have k63 : ∀ i, i < 20 → K 63 i = I 41 i := fun i hi => by
    rw [← hK, ms_ne (by omega), ms_ne (by omega), cpy_ne (by omega), cpy_eq hi, cpy_ne (by omega), cpy_ne (by omega), cpy_ne (by omega), cpy_ne (by omega), cpy_ne (by omega), cpy_ne (by omega), cpy_ne (by omega)]
  have k64 : ∀ i, i < 20 → K 64 i = I 42 i := fun i hi => by
    rw [← hK, ms_ne (by omega), ms_ne (by omega), cpy_eq hi, cpy_ne (by omega), cpy_ne (by omega), cpy_ne (by omega), cpy_ne (by omega), cpy_ne (by omega), cpy_ne (by omega), cpy_ne (by omega), cpy_ne (by omega)]
  have k55 : K 55 9 = I 33 9 ∧ K 55 10 = I 33 10 := by
    rw [← hK]
    exact ⟨by rw [ms_self, upd_ne (by omega), ms_self, upd_eq], by rw [ms_self, upd_eq]⟩
  clear hK
  refine sg_X11_think_11 ⟨_, sn_X1_begin 55 (at9_c hc) (Q := fun r h' => r = none ∧ h' = (sk0 55, (mx_set (mx_set (mx_set (mx_set (mx_set (mx_set (mx_set (mx_set (mx_set K 65 7 0) 65 8 (K 1 6)) 65 9 0) 65 10 0) 65 11 (-1)) 65 12 (-1)) 65 13 (-1)) 65 14 (-1)) 65 15 0))) ⟨rfl, rfl⟩, ?_⟩
  rintro _ _ ⟨rfl, rfl⟩
  refine sg_X11_think_22 ⟨rfl, _, rfl, ?_⟩
  have jn : ∀ k, k ≠ 65 → (mx_set (mx_set (mx_set (mx_set (mx_set (mx_set (mx_set (mx_set (mx_set K 65 7 0) 65 8 (K 1 6)) 65 9 0) 65 10 0) 65 11 (-1)) 65 12 (-1)) 65 13 (-1)) 65 14 (-1)) 65 15 0) k = K k := fun k hk => by
    rw [ms_ne hk, ms_ne hk, ms_ne hk, ms_ne hk, ms_ne hk, ms_ne hk, ms_ne hk, ms_ne hk, ms_ne hk]
  refine ⟨fun k hk => by rw [jn k (by omega)]; exact kn k (by omega), fun j j1 j4 i hi => ?_, fun i hi => by rw [jn 60 (by omega)]; exact k60 i hi, fun i hi => by rw [jn 61 (by omega)]; exact k61 i hi, fun j j1 j4 i hi => ?_, by rw [jn 55 (by omega)]; exact k55, ?_, ?_⟩
  · rw [jn _ (by omega)]
    have : j = 1 ∨ j = 2 ∨ j = 3 ∨ j = 4 := by omega
    rcases this with rfl | rfl | rfl | rfl
    · exact k56 i hi
    · exact k57 i hi
    · exact k58 i hi
    · exact k59 i hi
  · rw [jn _ (by omega)]
    have : j = 7 ∨ j = 8 ∨ j = 9 := by omega
    rcases this with rfl | rfl | rfl
    · exact k62 i hi
    · exact k63 i hi
    · exact k64 i hi
  · rw [kn 1 (by omega)]
    simp [ms_self, upd]
  · simp [ms_self, upd]
theorem sp_begins {d : Nat} {I : mx_I} : mx_Spec l mX12_begins (d + 1) 0 0 [.ref 120] (sk0 c, I) (fun r h' => r = none ∧ ∃ J, h' = (sk0 c, J) ∧ (∀ k, k ≠ 120 → k ≠ 123 → J k = I k) ∧ (∀ j, j ≠ 21 → J 120 j = I 120 j) ∧ J 120 21 = 1 ∧ ∀ i, i < 600 → J 123 i = I 121 i) := by
  have lp : ∀ (m i : Nat) (K : mx_I), i + m = 600 → (∀ k, k ≠ 123 → K k = I k) → (∀ j, j < i → K 123 j = I 121 j) → mx_Go l (mx_rm (d + 1) 0 0) mX12_begins (mx_Z (fun r h' => r = none ∧ ∃ J, h' = (sk0 c, J) ∧ (∀ k, k ≠ 120 → k ≠ 123 → J k = I k) ∧ (∀ j, j ≠ 21 → J 120 j = I 120 j) ∧ J 120 21 = 1 ∧ ∀ i, i < 600 → J 123 i = I 121 i) 0 0) 0 0 2 [.ref 120, .int (nI i)] [] (sk0 c, K) := by
    intro m
    induction m with
    | zero =>
      intro i K hi hK h3
      have e1 : (600 : Int32) ≤ nI i := by rw [show (600 : Int32) = nI 600 from rfl, nI_leI (by omega) (by omega)]; omega
      refine sg_X12_begins_2 _ (fun _ => ⟨rfl, _, rfl, fun k k1 k2 => by rw [ms_ne k1]; exact hK k k2, fun j hj => by rw [ms_at (Or.inr hj), hK 120 (by omega)], by rw [ms_self, upd_eq], fun j hj => by rw [ms_ne (by omega)]; exact h3 j (by omega)⟩) (fun z => absurd e1 z) (fun z => absurd e1 z) (fun z => absurd e1 z)
    | succ m ih =>
      intro i K hi hK h3
      have e1 : ¬ (600 : Int32) ≤ nI i := fun z => by rw [show (600 : Int32) = nI 600 from rfl, nI_leI (by omega) (by omega)] at z; omega
      refine sg_X12_begins_2 _ (fun z => absurd z e1) (fun _ => i_vp (by omega) (by omega)) (fun _ => i_vp (by omega) (by omega)) (fun _ => ?_)
      rw [nI_clamp (n := i) (by omega), nI_1]
      refine ih (i + 1) _ (by omega) (fun k hk => by rw [ms_ne hk]; exact hK k hk) (fun j hj => ?_)
      rw [ms_self]
      by_cases q : j = i
      · subst q
        rw [upd_eq, hK 121 (by omega)]
      · rw [upd_ne q]; exact h3 j (by omega)
  exact sn_X12_begins (lp 600 0 I (by omega) (fun _ _ => rfl) (fun j hj => absurd hj (by omega)))
theorem sp_comesBack {d : Nat} {I : mx_I} : mx_Spec l mX12_comesBack (d + 1) 0 0 [.ref 120] (sk0 c, I) (fun r h' => r = none ∧ ∃ J, h' = (sk0 c, J) ∧ (∀ k, k ≠ 120 → k ≠ 121 → J k = I k) ∧ (∀ j, j ≠ 21 → j ≠ 22 → j ≠ 25 → j ≠ 26 → J 120 j = I 120 j) ∧ (J 120 21 = 0 ∧ J 120 22 = -1 ∧ J 120 25 = 0 ∧ J 120 26 = 0) ∧ (∀ i, i < 600 → J 121 i = I 123 i) ∧ ∀ i, 600 ≤ i → J 121 i = I 121 i) := by
  have lp : ∀ (m i : Nat) (K : mx_I), i + m = 600 → (∀ k, k ≠ 121 → K k = I k) → (∀ j, j < i → K 121 j = I 123 j) → (∀ j, 600 ≤ j → K 121 j = I 121 j) → mx_Go l (mx_rm (d + 1) 0 0) mX12_comesBack (mx_Z (fun r h' => r = none ∧ ∃ J, h' = (sk0 c, J) ∧ (∀ k, k ≠ 120 → k ≠ 121 → J k = I k) ∧ (∀ j, j ≠ 21 → j ≠ 22 → j ≠ 25 → j ≠ 26 → J 120 j = I 120 j) ∧ (J 120 21 = 0 ∧ J 120 22 = -1 ∧ J 120 25 = 0 ∧ J 120 26 = 0) ∧ (∀ i, i < 600 → J 121 i = I 123 i) ∧ ∀ i, 600 ≤ i → J 121 i = I 121 i) 0 0) 0 0 2 [.ref 120, .int (nI i)] [] (sk0 c, K) := by
    intro m
    induction m with
    | zero =>
      intro i K hi hK h3 h4
      have e1 : (600 : Int32) ≤ nI i := by rw [show (600 : Int32) = nI 600 from rfl, nI_leI (by omega) (by omega)]; omega
      refine sg_X12_comesBack_2 _ (fun _ => ⟨rfl, _, rfl, fun k k1 k2 => by rw [ms_ne k1, ms_ne k1, ms_ne k1, ms_ne k1]; exact hK k k2, fun j j1 j2 j3 j4 => by rw [ms_at (Or.inr j4), ms_at (Or.inr j3), ms_at (Or.inr j2), ms_at (Or.inr j1), hK 120 (by omega)], by simp [ms_self, upd], fun j hj => by rw [ms_ne (by omega), ms_ne (by omega), ms_ne (by omega), ms_ne (by omega)]; exact h3 j (by omega), fun j hj => by rw [ms_ne (by omega), ms_ne (by omega), ms_ne (by omega), ms_ne (by omega)]; exact h4 j hj⟩) (fun z => absurd e1 z) (fun z => absurd e1 z) (fun z => absurd e1 z)
    | succ m ih =>
      intro i K hi hK h3 h4
      have e1 : ¬ (600 : Int32) ≤ nI i := fun z => by rw [show (600 : Int32) = nI 600 from rfl, nI_leI (by omega) (by omega)] at z; omega
      refine sg_X12_comesBack_2 _ (fun z => absurd z e1) (fun _ => i_vp (by omega) (by omega)) (fun _ => i_vp (by omega) (by omega)) (fun _ => ?_)
      rw [nI_clamp (n := i) (by omega), nI_1]
      refine ih (i + 1) _ (by omega) (fun k hk => by rw [ms_ne hk]; exact hK k hk) (fun j hj => ?_) (fun j hj => by rw [ms_self, upd_ne (by omega)]; exact h4 j hj)
      rw [ms_self]
      by_cases q : j = i
      · subst q
        rw [upd_eq, hK 123 (by omega)]
      · rw [upd_ne q]; exact h3 j (by omega)
  exact sn_X12_comesBack (lp 600 0 I (by omega) (fun _ _ => rfl) (fun j hj => absurd hj (by omega)) (fun _ _ => rfl))
end C
/-- a world -/
def World (I : mx_I) (nb now nl nc no ni nk : Nat) (hp : Nat → List Nat) (ps : lw_ps) : Prop := RScal I 1 33 43 (I 121) nb now nl nc no ni nk ∧ RTabs I 1 33 43 (I 121) nl nc no ni nk ∧ RInv I 1 33 nb now nl nc no ni ∧ RHeap I 33 (I 121) hp nb now nl ∧ lw_ok ps ∧ (I 28 4 = nI ps.length ∧ I 121 1600 = nI ps.length ∧ I 28 5 = nI (lw_code ps).length) ∧ LawC ps (I 29) (I 30) (I 31) ∧ LawM ps (I 121)
theorem Rel.world {I : mx_I} (h : Rel I 1 33 43 (I 121)) : ∃ (nb now nl nc no ni nk : Nat) (hp : Nat → List Nat) (ps : lw_ps), World I nb now nl nc no ni nk hp ps := by
  obtain ⟨nb, now, nl, nc, no, ni, nk, hp, h1, h2, h3, h4, ps, a, b, e, f, g, k⟩ := h
  exact ⟨nb, now, nl, nc, no, ni, nk, hp, ps, h1, h2, h3, h4, a, ⟨b, e, f⟩, g, k⟩
def pm_of (I : mx_I) (ps : lw_ps) (nb nl nc no : Nat) (wr fl : Bool) (row : Nat → Int32) : Pm := (mx_row I 65 row, ps, (nb, nl, nc, no), wr, fl)
def hs_of (I : mx_I) (hp : Nat → List Nat) (nk now : Nat) : HS := ((fun k i => if k = 0 then I 33 i else if k = 5 then I 121 (29 + 10 * i) else if k < 10 then I (33 + k) i else if k = 65 then (if i = 15 then 0 else -1) else I k i), hp, (I 121 10).toInt.toNat, nk, now)
theorem way_of {b w : Int32} {nb : Nat} (h1 : bnd b 0 (nb - 1)) (h2 : bnd w 0 1) (hn : nb ≤ 3) : ∃ f t : Nat, f ≤ nb ∧ t ≤ nb ∧ f ≠ t ∧ b + w = nI f ∧ b + 1 - w = nI t := by
  obtain ⟨x, rfl, lx⟩ := bnd_nat h1
  obtain ⟨y, rfl, ly⟩ := bnd_nat h2
  refine ⟨x + y, x + 1 - y, by omega, by omega, by omega, nI_add x y, ?_⟩
  rw [nI_1, pk_sub (by omega)]
section W
variable {I : mx_I} {nb now nl nc no ni nk : Nat} {hp : Nat → List Nat} {ps : lw_ps} {wr fl : Bool} {row : Nat → Int32}
theorem World.pq {k i : Nat} (hk : k ≠ 65) : (pm_of I ps nb nl nc no wr fl row).R k i = I k i := by
  show mx_row I 65 row k i = _
  rw [mx_row_ne hk]
theorem World.prr {k : Nat} (hk : k ≠ 65) : (pm_of I ps nb nl nc no wr fl row).R k = I k := mx_row_ne hk
theorem World.rw5 {f : Nat} : (pm_of I ps nb nl nc no wr fl row).R 65 f = row f := by
  show mx_row I 65 row 65 f = _
  rw [mx_row_self]
theorem World.pok (W : World I nb now nl nc no ni nk hp ps) (h7 : row 7 = b2i wr) : POk (pm_of I ps nb nl nc no wr fl row) := by
  obtain ⟨⟨⟨s1, s2, s3, s4, s5, s6, s7, s8⟩, ⟨c1, c2, c3, c4, c5, c6, c7⟩, -⟩, -, ⟨v1, v2, v3, -⟩, -, lk, ⟨l4, l6, l5⟩, lc, -⟩ := W
  refine ⟨⟨s1, s2, s4, s5, s6⟩, lk, ⟨(World.pq (by omega)).trans c1, (World.pq (by omega)).trans c3, (World.pq (by omega)).trans c4, (World.pq (by omega)).trans c5, (World.pq (by omega)).trans l4, World.rw5.trans h7⟩, ?_, fun x hx => ?_, fun x hx => ?_, fun i hi => ?_, fun i hi => ?_⟩
  · rw [World.prr (by omega), World.prr (by omega), World.prr (by omega)]; exact lc
  · obtain ⟨k, e, he⟩ := bnd_nat (v1 x hx).2.1
    exact ⟨k, by have : (k : Int) ≤ nb := he; exact Int.ofNat_le.mp this, (World.pq (by omega)).trans e⟩
  · have b := (v1 x hx).2.2.2.1
    rw [World.pq (by omega)]
    by_cases q : 0 ≤ (I (1 + 5) x).toInt
    · obtain ⟨k, e, he⟩ := bnd_nat (x := I (1 + 5) x) (hi := nb) ⟨q, b.2⟩
      exact Or.inr ⟨k, Int.ofNat_le.mp he, e⟩
    · left
      rw [i_eq]
      have := b.1
      have e1 : (-1 : Int32).toInt = -1 := by decide
      show (I (1 + 5) x).toInt = _
      omega
  · obtain ⟨f, t, a1, a2, a3, a4, a5⟩ := way_of (v2 i hi).2.1 (v2 i hi).2.2.1 s2
    exact ⟨f, t, a1, a2, a3, by rw [World.pq (by omega), World.pq (by omega)]; exact a4, by rw [World.pq (by omega), World.pq (by omega)]; exact a5⟩
  · obtain ⟨f, t, a1, a2, a3, a4, a5⟩ := way_of (v3 i hi).2.1 (v3 i hi).2.2.1 s2
    exact ⟨f, t, a1, a2, a3, by rw [World.pq (by omega), World.pq (by omega)]; exact a4, by rw [World.pq (by omega), World.pq (by omega)]; exact a5⟩
theorem World.pb (W : World I nb now nl nc no ni nk hp ps) : PB (pm_of I ps nb nl nc no wr fl row) := by
  obtain ⟨-, -, ⟨v1, v2, v3, -⟩, -⟩ := W
  intro i hi
  rw [World.pq (by omega), World.pq (by omega)]
  have := v2 i hi
  exact ⟨this.1, this.2.2.2.2.2.2.2.1⟩
theorem World.hinv (W : World I nb now nl nc no ni nk hp ps) : HInv (pm_of I ps nb nl nc no wr fl row) now (hs_of I hp nk now) := by
  obtain ⟨⟨⟨s1, s2, s3, s4, s5, s6, s7, s8⟩, -⟩, -, ⟨v1, v2, v3, v4, v5, v6, v7, v8⟩, ⟨p1, p2, p3, p4, p5, p6, p7⟩, -⟩ := W
  refine ⟨⟨fun e he => ⟨(p2 e he).1, fun x => ?_⟩, p3, fun x hx => ⟨p4 x hx, fun z => ?_⟩, fun e he => ⟨p5 e he, fun x hx => ?_⟩, by simp, fun x hx => by simp at hx⟩, ?_, ⟨fun x hx h5 => ?_, fun x hx h5 => ?_⟩, fun i hi => v8 i hi, ?_, s3, v5, v6⟩
  · refine ⟨fun z => ?_, fun z => ((p2 e he).2 x).mpr ⟨z.1, z.2.1, z.2.2.1⟩⟩
    have z' := ((p2 e he).2 x).mp z
    exact ⟨z'.1, z'.2.1, z'.2.2, by simp⟩
  · have h7 := v7 x hx
    have hz : I (33 + 1) x = -1 := z
    by_cases q : (I (1 + 4) x).toInt < now
    · exact absurd hz (h7.1 q)
    · exact (h7.2 (by omega)).2.2.2
  · have := p6 e he x hx
    refine ⟨this.1, ?_⟩
    show (I 121 (29 + 10 * x)).toInt < ((I 121 10).toInt.toNat : Int)
    omega
  · intro i hi _ _ _
    exact Int.le_max_right _ _
  · rw [World.pq (by omega)] at h5
    exact (v7 x hx).1 h5
  · rw [World.pq (by omega)] at h5
    exact (v7 x hx).2 h5
  · show (I 121 10).toInt.toNat ≤ 900 * now
    omega
theorem World.cr {c : Nat} (W : World I nb now nl nc no ni nk hp ps) {J : mx_I} (hc : c = 33 ∨ c = 55) (hT : ∀ k, 1 ≤ k → k ≤ 31 → k ≠ 5 → J k = I k) (hr : ∀ f, 7 ≤ f → f ≤ 12 → J 65 f = row f) (h13 : J 65 13 = -1 ∧ J 65 14 = -1 ∧ J 65 15 = 0)
    (hL : ∀ j, 1 ≤ j → j ≤ 4 → ∀ i, i < 30 → J (c + j) i = I (33 + j) i) (h5 : ∀ i, i < 120 → J (c + 5) i = I 38 i) (h6 : ∀ i, i < 4 → J (c + 6) i = I 39 i) (hC : ∀ j, 7 ≤ j → j ≤ 9 → ∀ i, i < 20 → J (c + j) i = I (33 + j) i) (h9 : J c 9 = I 33 9 ∧ J c 10 = I 33 10) (hb : J 43 3 = I 43 3 ∧ ∀ j, j < 3 → J (44 + j) = I (44 + j)) :
    CR c (pm_of I ps nb nl nc no wr fl row) (hs_of I hp nk now) J J := by
  obtain ⟨⟨⟨s1, s2, s3, s4, s5, s6, s7, s8⟩, ⟨c1, c2, c3, c4, c5, c6, c7⟩, -⟩, -, -, ⟨p1, p2, p3, p4, p5, p6, p7⟩, -⟩ := W
  refine ⟨hc, ⟨fun k k1 k2 k3 => by rw [World.prr (by omega)]; exact hT k k1 k2 k3, fun f f1 f2 => by rw [World.rw5]; exact hr f f1 f2, fun x hx j j1 j2 => ?_, fun e he => ?_, fun i hi j j1 j2 => ?_, ⟨by rw [h9.1]; exact c2, h9.2⟩, fun f f1 f2 => ?_, ⟨s8, by rw [hb.1]; exact c7, fun i hi j hj => ?_⟩⟩, fun _ _ _ _ _ _ _ => rfl⟩
  · rw [hL j j1 j2 x hx]
    show _ = if j = 0 then I 33 x else if j = 5 then _ else if j < 10 then I (33 + j) x else _
    rw [if_neg (by omega), if_neg (by omega), if_pos (by omega)]
  · obtain ⟨q1, q2, q3⟩ := p1 e he
    refine ⟨by rw [h6 e he]; exact q1, q2, fun i hi => ?_⟩
    have q4 : i < (hp e).length := hi
    rw [h5 _ (by omega)]
    refine ⟨q3 i q4, ?_⟩
    have hm : (hp e).getD i 0 ∈ hp e := lw_mem q4 0
    have := (((p2 e he).2 _).mp hm).1
    show (hp e).getD i 0 < 30
    omega
  · rw [hC j j1 j2 i hi]
    show _ = if j = 0 then I 33 i else if j = 5 then _ else if j < 10 then I (33 + j) i else _
    rw [if_neg (by omega), if_neg (by omega), if_pos (by omega)]
  · have : f = 13 ∨ f = 14 ∨ f = 15 := by omega
    rcases this with rfl | rfl | rfl
    · exact h13.1
    · exact h13.2.1
    · exact h13.2.2
  · rw [hb.2 j hj]
    show _ = if 44 + j = 0 then I 33 i else if 44 + j = 5 then _ else if 44 + j < 10 then _ else if 44 + j = 65 then _ else I (44 + j) i
    rw [if_neg (by omega), if_neg (by omega), if_neg (by omega), if_neg (by omega)]
theorem World.mr (W : World I nb now nl nc no ni nk hp ps) {K : mx_I} (hw : ∀ k, k ≠ 4 → K 121 k = I 121 k) (h4 : K 121 4 = row 8) (h21 : K 120 21 = b2i (!wr)) (h25 : K 120 25 = row 10) (h26 : K 120 26 = row 9) (h22 : K 120 22 = row 11) (h23 : row 11 = -1 ∨ (K 120 23 = row 12 ∧ K 120 24 = -1)) (h31 : wr = true → K 120 31 = 0) :
    MR (pm_of I ps nb nl nc no wr fl row) (hs_of I hp nk now) K K := by
  obtain ⟨⟨⟨s1, s2, s3, s4, s5, s6, s7, s8⟩, -, ⟨d1, d2, d3, d4, d5, d6, d7⟩, ⟨e1, e2, e3⟩, -⟩, ⟨r1, r2, r3, r4, r5, r6, r7, r8, r9⟩, -, ⟨p1, p2, p3, p4, p5, p6, p7⟩, lk, ⟨l4, l6, l5⟩, -, lm⟩ := W
  refine ⟨⟨⟨by rw [hw 0 (by omega)]; exact d1, by rw [hw 2 (by omega)]; exact d3, by rw [hw 3 (by omega)]; exact d4, by rw [hw 7 (by omega)]; exact d5, by rw [World.rw5]; exact h4, by rw [hw 5 (by omega), World.pq (by omega)]; exact e2, by rw [hw 1600 (by omega)]; exact l6⟩, ⟨fun i hi => ?_, fun i hi => ?_⟩, fun x hx j hj => ?_, fun x hx => ?_, fun i hi j hj => ?_, fun o ho j hj => ?_⟩, ⟨fun x hx j j1 j2 => ?_, fun i hi j j1 j2 _ => ?_, ⟨by rw [hw 1 (by omega)]; exact d2, fun _ => by rw [hw 9 (by omega)]; exact e3, ?_, by rw [hw 6 (by omega)]; exact d7⟩, s8, fun i hi j hj => ?_⟩, ⟨⟨h21, by rw [World.rw5]; exact h25, by rw [World.rw5]; exact h26⟩, by rw [World.rw5]; exact h22, by rw [World.rw5, World.rw5]; exact h23, h31⟩, fun _ _ _ _ _ _ _ => rfl, fun _ _ _ _ _ => rfl, fun _ _ => rfl, fun _ _ _ => rfl⟩
  · rw [hw _ (by omega), hw _ (by omega), hw _ (by omega)]; exact lm.1 i hi
  · rw [hw _ (by omega), hw _ (by omega)]; exact lm.2 i hi
  · rw [hw _ (by omega), World.pq (by omega), r1 x hx j hj]
  · rw [hw _ (by omega), World.pq (by omega), World.pq (by omega)]; exact r2 x hx
  · rw [hw _ (by omega), World.pq (by omega), r4 i hi j hj]
  · rw [hw _ (by omega), World.pq (by omega), r7 o ho j (by omega)]
  · rw [hw _ (by omega)]
    show _ = if j = 0 then I 33 x else if j = 5 then I 121 (29 + 10 * x) else if j < 10 then I (33 + j) x else _
    by_cases q : j = 5
    · subst q
      rw [if_neg (by omega), if_pos rfl, show 24 + 10 * x + 5 = 29 + 10 * x from by omega]
    · rw [if_neg (by omega), if_neg q, if_pos (by omega)]
      have := r3 x hx (j - 1) (by omega)
      rw [show 25 + 10 * x + (j - 1) = 24 + 10 * x + j from by omega, show 33 + 1 + (j - 1) = 33 + j from by omega] at this
      exact this
  · rw [hw _ (by omega)]
    show _ = if j = 0 then I 33 i else if j = 5 then _ else if j < 10 then I (33 + j) i else _
    rw [if_neg (by omega), if_neg (by omega), if_pos (by omega)]
    have := r5 i hi (j - 7) (by omega)
    rw [show 328 + 14 * i + (j - 7) = 321 + 14 * i + j from by omega, show 33 + 7 + (j - 7) = 33 + j from by omega] at this
    exact this
  · rw [hw 10 (by omega)]
    exact i_nat p7.1
  · rw [hw _ (by omega), r9 i hi j hj]
    show _ = if 44 + j = 0 then I 33 i else if 44 + j = 5 then _ else if 44 + j < 10 then _ else if 44 + j = 65 then _ else I (44 + j) i
    rw [if_neg (by omega), if_neg (by omega), if_neg (by omega), if_neg (by omega)]
end W
