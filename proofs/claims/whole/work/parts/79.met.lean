/-! one more load in thought -/
set_option maxHeartbeats 1000000 in
theorem World.load {I I' : mx_I} {ps : lw_ps} {a1 a2 a3 : Int32} {nb now nl nc no ni nk : Nat} {hp : Nat → List Nat} (W : World I nb now nl nc no ni nk hp ps)
    (hn : nl < 30) (b1 : bnd a1 1 99) (b2 : bnd a2 0 nb) (b3 : bnd a3 now 167)
    (hI : ∀ a, a < 2 ∨ (7 < a ∧ a ≠ 121) → I' a = I a) (hI2 : I' 2 5 = nI (nl + 1)) (hr : ∀ j, j < 5 → ∀ i, I' (3 + j) i = if i = nl then (if j = 0 then a1 else if j = 1 then a2 else if j = 2 then a3 else if j = 3 then -1 else 0) else I (3 + j) i)
    (hw2 : I' 121 2 = nI (nl + 1)) (hwo : ∀ k, k ≠ 2 → (k < 20 + 10 * nl ∨ 30 + 10 * nl ≤ k) → I' 121 k = I 121 k) (hwi : ∀ j, j < 10 → I' 121 (20 + 10 * nl + j) = if j = 0 then a1 else if j = 1 then a2 else if j = 2 then a3 else if j < 7 then -1 else 0) : World I' nb now (nl + 1) nc no ni nk hp ps := by
  obtain ⟨h1, h2, h3, h4, lk, ⟨l4, l6, l5⟩, lc, lm⟩ := W
  obtain ⟨⟨s1, s2, s3, s4, s5, s6, s7, s8⟩, ⟨c1, c2, c3, c4, c5, c6, c7⟩, ⟨d1, d2, d3, d4, d5, d6, d7⟩, ⟨e1, e2, e3⟩, f1, f2⟩ := h1
  obtain ⟨r1, r2, r3, r4, r5, r6, r7, r8, r9⟩ := h2
  obtain ⟨v1, v2, v3, v4, v5, v6, v7, v8⟩ := h3
  obtain ⟨p1, p2, p3, p4, p5, p6, p7⟩ := h4
  have hne : ∀ j i, j < 5 → i ≠ nl → I' (3 + j) i = I (3 + j) i := fun j i hj hi => by rw [hr j hj, if_neg hi]
  refine ⟨⟨⟨s1, s2, s3, by omega, s5, s6, s7, s8⟩, ⟨?_, ?_, hI2, ?_, ?_, ?_, ?_⟩, ⟨?_, ?_, hw2, ?_, ?_, ?_, ?_⟩, ⟨?_, ?_, ?_⟩, ?_, ?_⟩, ⟨?_, ?_, ?_, ?_, ?_, ?_, ?_, ?_, ?_⟩, ⟨?_, ?_, ?_, ?_, ?_, ?_, ?_, ?_⟩, ⟨?_, ?_, ?_, ?_, ?_, ?_, ?_⟩, lk, ⟨by rw [hI 28 (by omega)]; exact l4, by rw [hwo _ (by omega) (by omega)]; exact l6, by rw [hI 28 (by omega)]; exact l5⟩, by rw [hI 29 (by omega), hI 30 (by omega), hI 31 (by omega)]; exact lc, fun i hi => ?_, fun i hi => ?_⟩
  · rw [hI _ (by omega)]; exact c1
  · rw [hI _ (by omega)]; exact c2
  · rw [hI _ (by omega)]; exact c4
  · rw [hI _ (by omega)]; exact c5
  · rw [hI _ (by omega)]; exact c6
  · rw [hI _ (by omega)]; exact c7
  · rw [hwo _ (by omega) (by omega)]; exact d1
  · rw [hwo _ (by omega) (by omega)]; exact d2
  · rw [hwo _ (by omega) (by omega)]; exact d4
  · rw [hwo _ (by omega) (by omega)]; exact d5
  · rw [hwo _ (by omega) (by omega)]; exact d6
  · rw [hwo _ (by omega) (by omega)]; exact d7
  · rw [hwo _ (by omega) (by omega), hI _ (by omega)]; exact e1
  · rw [hwo _ (by omega) (by omega), hI _ (by omega)]; exact e2
  · rw [hwo _ (by omega) (by omega), hI _ (by omega)]; exact e3
  · rw [hI _ (by omega)]; exact f1
  · rw [hI _ (by omega)]; exact f2
  · intro i hi j hj
    by_cases e : i = nl
    · subst e
      rw [hwi j (by omega), show 1 + 2 + j = 3 + j by omega, hr j (by omega), if_pos rfl]
      rcases (show j = 0 ∨ j = 1 ∨ j = 2 ∨ j = 3 by omega) with rfl | rfl | rfl | rfl <;> rfl
    · rw [hwo _ (by omega) (by omega), show 1 + 2 + j = 3 + j by omega, hne j i (by omega) e]
      exact r1 i (by omega) j hj
  · intro i hi
    by_cases e : i = nl
    · subst e
      left
      rw [show 1 + 5 = 3 + 3 by omega, hr 3 (by omega), if_pos rfl]; rfl
    · rw [hwo _ (by omega) (by omega), show 1 + 5 = 3 + 3 by omega, hne 3 i (by omega) e, show 1 + 6 = 3 + 4 by omega, hne 4 i (by omega) e]
      exact r2 i (by omega)
  · intro i hi j hj
    rw [hI (33 + 1 + j) (by omega)]
    by_cases e : i = nl
    · subst e
      rw [show 25 + 10 * i + j = 20 + 10 * i + (5 + j) by omega, hwi (5 + j) (by omega)]
      have := v5 i (Nat.le_refl _) hn
      rcases (show j = 0 ∨ j = 1 ∨ j = 2 ∨ j = 3 by omega) with rfl | rfl | rfl | rfl
      · rw [this.1]; rfl
      · rw [this.2.1]; rfl
      · rw [this.2.2.1]; rfl
      · rw [this.2.2.2]; rfl
    · rw [hwo _ (by omega) (by omega)]
      exact r3 i (by omega) j hj
  · exact r4.congr (fun j hj => hI _ (by omega)) (fun i hi j hj => hwo _ (by omega) (by omega))
  · exact r5.congr (fun j hj => hI _ (by omega)) (fun i hi j hj => hwo _ (by omega) (by omega))
  · exact r6.congr (fun j hj => hI _ (by omega)) (fun i hi j hj => hwo _ (by omega) (by omega))
  · exact r7.congr (fun j hj => hI _ (by omega)) (fun i hi j hj => hwo _ (by omega) (by omega))
  · exact r8.congr (fun j hj => hI _ (by omega)) (fun i hi j hj => hwo _ (by omega) (by omega))
  · exact r9.congr (fun j hj => hI _ (by omega)) (fun i hi j hj => hwo _ (by omega) (by omega))
  · intro i hi
    by_cases e : i = nl
    · subst e
      rw [show 1 + 2 = 3 + 0 by omega, hr 0 (by omega), show 1 + 3 = 3 + 1 by omega, hr 1 (by omega), show 1 + 4 = 3 + 2 by omega, hr 2 (by omega), show 1 + 5 = 3 + 3 by omega, hr 3 (by omega), show 1 + 6 = 3 + 4 by omega, hr 4 (by omega)]
      simp only [if_true]
      have q : (-1 : Int32).toInt = -1 := by decide
      have q0 : (0 : Int32).toInt = 0 := by decide
      refine ⟨b1, b2, ⟨by show (0 : Int) ≤ a3.toInt; have := b3.1; omega, b3.2⟩, ⟨?_, ?_⟩, ⟨?_, ?_⟩⟩
      · show (-1 : Int) ≤ (-1 : Int32).toInt; rw [q]; omega
      · show (-1 : Int32).toInt ≤ (nb : Int); rw [q]; omega
      · show (0 : Int) ≤ (0 : Int32).toInt; rw [q0]; omega
      · show (0 : Int32).toInt ≤ (167 : Int); rw [q0]; omega
    · rw [show 1 + 2 = 3 + 0 by omega, hne 0 i (by omega) e, show 1 + 3 = 3 + 1 by omega, hne 1 i (by omega) e, show 1 + 4 = 3 + 2 by omega, hne 2 i (by omega) e, show 1 + 5 = 3 + 3 by omega, hne 3 i (by omega) e, show 1 + 6 = 3 + 4 by omega, hne 4 i (by omega) e]
      exact v1 i (by omega)
  · simp only [hI (1 + 8) (by omega), hI (1 + 9) (by omega), hI (1 + 10) (by omega), hI (1 + 11) (by omega), hI (1 + 12) (by omega), hI (1 + 13) (by omega), hI (1 + 14) (by omega), hI (1 + 15) (by omega), hI (1 + 16) (by omega)]
    exact v2
  · simp only [hI (1 + 18) (by omega), hI (1 + 19) (by omega), hI (1 + 20) (by omega), hI (1 + 21) (by omega), hI (1 + 22) (by omega)]
    exact v3
  · simp only [hI (1 + 24) (by omega), hI (1 + 25) (by omega)]
    exact v4
  · simp only [hI (33 + 1) (by omega), hI (33 + 2) (by omega), hI (33 + 3) (by omega), hI (33 + 4) (by omega)]
    exact fun i h1 h2 => v5 i (by omega) h2
  · simp only [hI (33 + 7) (by omega), hI (33 + 8) (by omega), hI (33 + 9) (by omega)]
    exact v6
  · simp only [hI (33 + 1) (by omega), hI (33 + 2) (by omega), hI (33 + 3) (by omega), hI (33 + 4) (by omega)]
    intro i hi
    by_cases e : i = nl
    · subst e
      rw [show 1 + 4 = 3 + 2 by omega, hr 2 (by omega), if_pos rfl]
      have := v5 i (Nat.le_refl _) hn
      exact ⟨fun q => by have q' : a3.toInt < now := q; have := b3.1; omega, fun _ => this⟩
    · rw [show 1 + 4 = 3 + 2 by omega, hne 2 i (by omega) e]
      exact v7 i (by omega)
  · simp only [hI (33 + 7) (by omega)]
    exact v8
  · simp only [hI (33 + 6) (by omega), hI (33 + 5) (by omega)]
    exact p1
  · simp only [hI (33 + 1) (by omega), hI (33 + 4) (by omega)]
    intro e he
    refine ⟨(p2 e he).1, fun x => ?_⟩
    rw [(p2 e he).2 x]
    constructor
    · rintro ⟨q1, q2⟩; exact ⟨by omega, q2⟩
    · rintro ⟨q1, q2, q3⟩
      refine ⟨?_, q2, q3⟩
      rcases Nat.lt_or_ge x nl with z | z
      · exact z
      · have ex : x = nl := by omega
        subst ex
        rw [(v5 x (Nat.le_refl _) hn).1] at q2
        have := congrArg Int32.toInt q2
        rw [nI_toInt (by omega)] at this
        have q : (-1 : Int32).toInt = -1 := by decide
        omega
  · simp only [hI (33 + 1) (by omega)]
    intro i hi
    by_cases e : i = nl
    · subst e; exact Or.inl (v5 i (Nat.le_refl _) hn).1
    · exact p3 i (by omega)
  · simp only [hI (33 + 4) (by omega)]
    intro i hi
    by_cases e : i = nl
    · subst e; exact Or.inl (v5 i (Nat.le_refl _) hn).2.2.2
    · exact p4 i (by omega)
  · intro e he
    refine (p5 e he).imp_of_mem (fun {x y} hx hy hxy => ?_)
    have x1 := (((p2 e he).2 x).mp hx).1
    have y1 := (((p2 e he).2 y).mp hy).1
    rw [hwo _ (by omega) (by omega), hwo _ (by omega) (by omega)]
    exact hxy
  · intro e he x hx
    have x1 := (((p2 e he).2 x).mp hx).1
    rw [hwo _ (by omega) (by omega), hwo 10 (by omega) (by omega)]
    exact p6 e he x hx
  · rw [hwo 10 (by omega) (by omega)]; exact p7
  · rw [hwo _ (by omega) (by omega), hwo _ (by omega) (by omega), hwo _ (by omega) (by omega)]; exact lm.1 i hi
  · rw [hwo _ (by omega) (by omega), hwo _ (by omega) (by omega)]; exact lm.2 i hi
/-! when the watched one is met -/
def Mt (P : Pm) (t : Nat) (A B : HS) : Prop := (∀ x, A.r 1 x ≠ -1 → B.r 1 x ≠ -1) ∧ (B.r 65 13 = A.r 65 13 ∨ (B.r 65 13 = nI t ∧ ∀ w : Nat, w < 30 → P.R 65 11 = nI w → B.r 1 w ≠ -1))
theorem Mt.refl {P : Pm} {t : Nat} (A : HS) : Mt P t A A := ⟨fun _ h => h, Or.inl rfl⟩
theorem Mt.trans {P : Pm} {t : Nat} {A B C : HS} (h1 : Mt P t A B) (h2 : Mt P t B C) : Mt P t A C := by
  refine ⟨fun x hx => h2.1 x (h1.1 x hx), ?_⟩
  rcases h2.2 with z | z
  · rcases h1.2 with y | y
    · exact Or.inl (z.trans y)
    · exact Or.inr ⟨z.trans y.1, fun w hw hP => h2.1 w (y.2 w hw hP)⟩
  · exact Or.inr z
theorem Mt.set {P : Pm} {t : Nat} {A : HS} {k i : Nat} {x : Int32} (hk : k ≠ 1) (h65 : k ≠ 65 ∨ i ≠ 13) : Mt P t A (A.set k i x) := by
  refine ⟨fun y hy => ?_, Or.inl (HS.at_or (by omega))⟩
  rw [HS.at_ne (Ne.symm hk)]; exact hy
theorem clamp_lt (x : Int32) : x.toNatClampNeg < 2 ^ 31 := by
  have h1 := x.toInt_lt
  have : (x.toNatClampNeg : Int) = max x.toInt 0 := by
    show ((x.toInt.toNat : Nat) : Int) = _
    omega
  omega
theorem mt_comes {P : Pm} {x e t : Nat} {A : HS} (he : e < 2 ^ 31) (hx : x < 2 ^ 31) : Mt P t A (hs_comes P x e t A) := by
  have r1 : ∀ y, (hs_comes P x e t A).r 1 y = upd (A.r 1) x (nI e) y := fun y => by rw [hs_comes_r (Or.inl (by omega)), ms_ne (by omega), ms_ne (by omega), ms_self]
  refine ⟨fun y hy => ?_, ?_⟩
  · rw [r1]
    by_cases q : y = x
    · subst q; rw [upd_eq]; exact nI_n1 he
    · rw [upd_ne q]; exact hy
  · rw [hs_comes_eq]
    split
    · rename_i q
      right
      refine ⟨by show (mx_set (mx_set (mx_set (mx_set A.r 1 x (nI e)) 2 x (nI t)) 5 x (nI A.st)) 65 13 (nI t)) 65 13 = _; rw [ms_self, upd_eq], fun w hw hP => ?_⟩
      have : x = w := (nI_eq hx (by omega)).mp (q.1.trans hP)
      subst this
      rw [HS.at_ne (by omega)]
      show mx_set (mx_set (mx_set A.r 1 x (nI e)) 2 x (nI t)) 5 x (nI A.st) 1 x ≠ -1
      rw [ms_ne (by omega), ms_ne (by omega), ms_self, upd_eq]
      exact nI_n1 he
    · left
      show mx_set (mx_set (mx_set A.r 1 x (nI e)) 2 x (nI t)) 5 x (nI A.st) 65 13 = _
      rw [ms_ne (by omega), ms_ne (by omega), ms_ne (by omega)]
theorem mt_write {P : Pm} {l c t t' : Nat} {A : HS} : Mt P t' A (hs_write l c t A) := ⟨fun x hx => by rw [hs_write_r (by omega)]; exact hx, Or.inl (hs_write_r (by omega))⟩
theorem mt_one {P : Pm} {w : Bool} {to t c x : Nat} {A : HS} (he : to < 2 ^ 31) (hx : x < 2 ^ 31) : Mt P t A (hs_one P w to t c x A) := by
  have h1 : Mt P t A (hs_comes P x to t (A.set 3 x (A.r 3 x + 1))) := (Mt.set (by omega) (by omega)).trans (mt_comes he hx)
  unfold hs_one
  split
  · exact h1.trans mt_write
  · exact h1
theorem mt_ones {P : Pm} {w : Bool} {to t c : Nat} (he : to < 2 ^ 31) : ∀ (ls : List Nat) (A : HS), (∀ x ∈ ls, x < 2 ^ 31) → Mt P t A (hs_ones P w to t c ls A)
  | [], A, _ => Mt.refl A
  | x :: ls, A, h => (mt_one he (h x (by simp))).trans (mt_ones he ls _ (fun y hy => h y (List.mem_cons_of_mem _ hy)))
theorem mt_carry {P : Pm} {w : Bool} {fr to t c : Nat} {ls : List Nat} {A : HS} (he : to < 2 ^ 31) (hl : ∀ x ∈ ls, x < 2 ^ 31) : Mt P t A (hs_carry P w fr to t c ls A) := by
  have h0 : Mt P t A (hs_drop fr ls A) := ⟨fun _ h => h, Or.inl rfl⟩
  exact (h0.trans (mt_ones he ls _ hl)).trans (Mt.set (by omega) (by omega))
theorem mt_run {P : Pm} {t n : Nat} {f : Nat → HS → HS} {Inv : HS → Prop} (hf : ∀ i A, i < n → Inv A → Mt P t A (f i A) ∧ Inv (f i A)) : ∀ (m i : Nat) (A : HS), i + m = n → Inv A → Mt P t A (hs_run f m i A) ∧ Inv (hs_run f m i A)
  | 0, _, A, _, hA => ⟨Mt.refl A, hA⟩
  | m + 1, i, A, hi, hA => by
    obtain ⟨h1, h2⟩ := hf i A (by omega) hA
    obtain ⟨h3, h4⟩ := mt_run hf m (i + 1) (f i A) (by omega) h2
    exact ⟨h1.trans h3, h4⟩
theorem pick_lt {P : Pm} {A : HS} {e t : Nat} {free own : Int32} (hA : AInv P A []) (he : e < 4) (hl : P.nl ≤ 30) : ∀ x ∈ (hs_pick P A e free own t).1, x < 2 ^ 31 := fun x hx => by
  have := (((hA.1 e he).2 x).mp ((hs_pick_sub P A e free own t).subset hx)).1
  omega
theorem mt_cross1 {P : Pm} {A : HS} {i t : Nat} (hP : POk P) (hA : AInv P A []) (hi : i < P.nc) : Mt P t A (hs_cross1 P i t A) := by
  have hP1 := hP.1
  obtain ⟨w1, w2, w3, w4, w5⟩ := (hP.2.2.2.2.2.2.1 i hi).get hP
  unfold hs_cross1
  simp only
  split
  · exact (((Mt.set (by omega) (by omega)).trans (Mt.set (by omega) (by omega))).trans (Mt.set (by omega) (by omega))).trans (Mt.set (by omega) (by omega))
  · exact ((Mt.set (by omega) (by omega)).trans (Mt.set (by omega) (by omega))).trans (mt_carry (by omega) (pick_lt hA (by omega) (by omega)))
theorem mt_cross {P : Pm} {t : Nat} (hP : POk P) (ht : t < 2 ^ 30) : ∀ (n i : Nat) (A : HS), AInv P A [] → i < P.nc → A.r 7 i = -1 → A.st + 30 * hs_un A P.nc < 2 ^ 29 → Mt P t A (hs_cross P t n i A)
  | 0, i, A, hA, _, _, _ => Mt.refl A
  | n + 1, i, A, hA, hi, hc, hst => by
    obtain ⟨h1, h2, h3⟩ := good_cross1 hP hA hi hc ht hst
    refine (mt_cross1 hP hA hi).trans (mt_run (n := P.nc) (Inv := fun B => AInv P B [] ∧ B.st + 30 * hs_un B P.nc < 2 ^ 29) (fun j B hj hB => ?_) P.nc 0 _ (by omega) ⟨h1.1, by have := h1.2.2.2.1; omega⟩).1
    split
    · rename_i hb
      have h7 := (of_decide_eq_true hb).2.2.1
      have gg := good_cross hP ht n j B hB.1 hj h7 hB.2
      exact ⟨mt_cross hP ht n j B hB.1 hj h7 hB.2, gg.1, by have := gg.2.2.2.1; have := hB.2; omega⟩
    · exact ⟨Mt.refl B, hB⟩
theorem mt_hour {P : Pm} {A : HS} (hP : POk P) (hA : AInv P A []) (hst : A.st ≤ 900 * A.now) (ht : A.now < 168) : Mt P A.now A (hs_hour P A) := by
  have hP1 := hP.1
  obtain ⟨p1, p2, p3, p4, p5, p6⟩ := hour_parts hP hA hst ht
  have m1 : Mt P A.now A (hs_bring P A.now A) := (mt_run (n := P.nl) (Inv := fun _ => True) (fun i B hi _ => by
    refine ⟨?_, trivial⟩
    unfold hs_bring1
    split
    · exact mt_comes (clamp_lt _) (by omega)
    · exact Mt.refl B) P.nl 0 A (by omega) trivial).1
  have m2 : Mt P A.now (hs_bring P A.now A) (hs_fetch P A.now (hs_bring P A.now A)) := (mt_run (n := P.nl) (Inv := fun _ => True) (fun i B hi _ => by
    refine ⟨?_, trivial⟩
    unfold hs_fetch1
    split
    · have h0 : Mt P A.now B (hs_drop (P.R 6 i).toNatClampNeg [i] B) := ⟨fun _ h => h, Or.inl rfl⟩
      exact h0.trans (Mt.set (by omega) (by omega))
    · exact Mt.refl B) P.nl 0 _ (by omega) trivial).1
  have m3 : Mt P A.now (hs_fetch P A.now (hs_bring P A.now A)) (hs_walk P A.now (hs_fetch P A.now (hs_bring P A.now A))) := (mt_run (n := P.nc) (Inv := fun B => AInv P B [] ∧ B.st + 30 * hs_un B P.nc < 2 ^ 29) (fun i B hi hB => by
    have gg := good_walk1 (t := A.now) hP (by omega) hB.1 hi hB.2
    refine ⟨?_, gg.1, by have := gg.2.2.2.1; have := hB.2; omega⟩
    unfold hs_walk1
    split
    · rename_i q
      exact mt_cross hP (by omega) 20 i B hB.1 hi (of_decide_eq_true q).1 hB.2
    · exact Mt.refl B) P.nc 0 _ (by omega) ⟨p3.1, by have := p3.2.2.2.1; omega⟩).1
  have m4 : Mt P A.now (hs_walk P A.now (hs_fetch P A.now (hs_bring P A.now A))) (hs_offers P A.now (hs_walk P A.now (hs_fetch P A.now (hs_bring P A.now A)))) := by
    have key : ∀ (m i : Nat) (B : HS), i + m = P.no → AInv P B [] → B.st + 30 * hs_un B P.nc + 30 * m < 2 ^ 29 → Mt P A.now B (hs_run (hs_offer1 P A.now) m i B) := by
      intro m
      induction m with
      | zero => intro i B _ _ _; exact Mt.refl B
      | succ m ih =>
        intro i B hi hB hs
        have hio : i < P.no := by omega
        obtain ⟨w1, w2, w3, w4, w5⟩ := (hP.2.2.2.2.2.2.2 i hio).get hP
        have gg := good_offer1 (t := A.now) hP (by omega) hB hio (by omega)
        rw [hs_run]
        refine Mt.trans ?_ (ih (i + 1) _ (by omega) gg.1 (by have := gg.2.2.2.1; omega))
        unfold hs_offer1
        split
        · exact mt_carry (by omega) (pick_lt hB (by omega) (by omega))
        · exact Mt.refl B
    exact key P.no 0 _ (by omega) p4.1 (by have := p4.2.2.2.1; have := p3.2.2.2.1; omega)
  exact ((m1.trans m2).trans m3).trans m4
/-- the watched one is met when it is met, whatever the last hour -/
theorem go_met {P : Pm} {fm w : Nat} (hP : POk P) (hB : PB P) (hw : w < P.nl) (h11 : P.R 65 11 = nI w) : ∀ (n : Nat) (A : HS), A.now + n = 168 → HInv P fm A → A.r 65 13 = -1 → ((hs_go P 167 n A).r 65 13 = -1 ∨ ∃ s : Nat, (hs_go P 167 n A).r 65 13 = nI s ∧ A.now ≤ s ∧ s ≤ 167 ∧ (P.R 5 w).toInt ≤ s) ∧ ∀ u : Int, u ≤ 167 → (hs_go P u n A).r 65 13 = if (hs_go P 167 n A).r 65 13 ≠ -1 ∧ ((hs_go P 167 n A).r 65 13).toInt ≤ u then (hs_go P 167 n A).r 65 13 else -1
  | 0, A, hn, hI, h13 => by
    refine ⟨Or.inl h13, fun u hu => ?_⟩
    show A.r 65 13 = _
    rw [if_neg (fun z => z.1 h13)]; exact h13
  | n + 1, A, hn, hI, h13 => by
    have hP1 := hP.1
    obtain ⟨y1, y2, y3⟩ := hI.hour hP hB (by omega)
    have hm := mt_hour hP hI.1 hI.2.2.2.2.1 (by omega)
    rw [hs_go, if_pos ⟨by omega, h13⟩]
    rcases hm.2 with z | ⟨z1, z2⟩
    · -- not met in this hour
      obtain ⟨k1, k2⟩ := go_met hP hB hw h11 n (hs_hour P A) (by omega) y1 (z.trans h13)
      refine ⟨k1.imp id (fun ⟨s, q1, q2, q3, q4⟩ => ⟨s, q1, by omega, q3, q4⟩), fun u hu => ?_⟩
      rw [hs_go]
      by_cases q : (A.now : Int) ≤ u
      · rw [if_pos ⟨q, h13⟩]
        exact k2 u hu
      · rw [if_neg (fun z => q z.1), h13]
        rcases k1 with k | ⟨s, q1, q2, q3, q4⟩
        · rw [if_neg (fun z => z.1 k)]
        · rw [if_neg (fun z => by have := z.2; rw [q1, nI_toInt (by omega)] at this; omega)]
    · -- met
      have hne : (hs_hour P A).r 65 13 ≠ -1 := by rw [z1]; exact nI_n1 (by omega)
      rw [hs_go_stop (fun z => hne z.2)]
      have h5 : (P.R 5 w).toInt ≤ A.now := by
        refine Classical.byContradiction (fun q => z2 w (by omega) h11 ?_)
        exact (y1.2.2.1.2 w hw (by omega)).1
      refine ⟨Or.inr ⟨A.now, z1, Nat.le_refl _, by omega, h5⟩, fun u hu => ?_⟩
      rw [hs_go]
      by_cases q : (A.now : Int) ≤ u
      · rw [if_pos ⟨q, h13⟩, hs_go_stop (fun z => hne z.2), if_pos ⟨hne, by rw [z1, nI_toInt (by omega)]; exact q⟩]
      · rw [if_neg (fun z => q z.1), h13, if_neg (fun z => by have := z.2; rw [z1, nI_toInt (by omega)] at this; exact q this)]
/-- the model's choice -/
def sd_run (m : Nat → Int32) : Nat → Nat → Int32 → Int32 → Int32 × Int32
  | 0, _, b, s => (b, s)
  | k + 1, h, b, s => if m h = -1 ∨ (s ≠ -1 ∧ s < m h) then sd_run m k (h + 1) b s else sd_run m k (h + 1) (nI h) (m h)
theorem sd_stop {m : Nat → Int32} {t : Nat} (hm : ∀ h, h ≤ t → m h = -1 ∨ ∃ s : Nat, m h = nI s ∧ h ≤ s ∧ s ≤ 167) {b s : Int32} (hs : s ≠ -1) : ∀ (k h : Nat), h + k = t + 1 → s.toInt < h → sd_run m k h b s = (b, s)
  | 0, _, _, _ => rfl
  | k + 1, h, hk, h1 => by
    rw [sd_run, if_pos]
    · exact sd_stop hm hs k (h + 1) (by omega) (by omega)
    · rcases hm h (by omega) with z | ⟨q, z1, z2, z3⟩
      · exact Or.inl z
      · refine Or.inr ⟨hs, ?_⟩
        rw [i_lt, z1, nI_toInt (by omega)]
        omega
