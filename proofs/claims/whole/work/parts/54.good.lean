/-! what an hour keeps -/
/-- how many have not crossed -/
def hs_un (A : HS) : Nat → Nat
  | 0 => 0
  | n + 1 => hs_un A n + (if A.r 7 n = -1 then 1 else 0)
theorem un_le {A : HS} : ∀ n, hs_un A n ≤ n
  | 0 => Nat.le_refl _
  | n + 1 => by
    have := un_le (A := A) n
    rw [hs_un]
    split <;> omega
theorem un_mono {A B : HS} (h : ∀ j, B.r 7 j = -1 → A.r 7 j = -1) : ∀ n, hs_un B n ≤ hs_un A n
  | 0 => Nat.le_refl _
  | n + 1 => by
    have := un_mono h n
    rw [hs_un, hs_un]
    by_cases q : B.r 7 n = -1
    · rw [if_pos q, if_pos (h n q)]; omega
    · rw [if_neg q]; omega
theorem un_less {A B : HS} (h : ∀ j, B.r 7 j = -1 → A.r 7 j = -1) {i : Nat} (hA : A.r 7 i = -1) (hB : B.r 7 i ≠ -1) : ∀ n, i < n → hs_un B n + 1 ≤ hs_un A n
  | 0, hi => absurd hi (by omega)
  | n + 1, hi => by
    rw [hs_un, hs_un]
    by_cases e : i = n
    · subst e
      have := un_mono h i
      rw [if_neg hB, if_pos hA]; omega
    · have := un_less h hA hB n (by omega)
      by_cases q : B.r 7 n = -1
      · rw [if_pos q, if_pos (h n q)]; omega
      · rw [if_neg q]; omega
theorem un_pos {A : HS} {i : Nat} (hA : A.r 7 i = -1) : ∀ n, i < n → 1 ≤ hs_un A n
  | 0, hi => absurd hi (by omega)
  | n + 1, hi => by
    rw [hs_un]
    by_cases e : i = n
    · subst e; rw [if_pos hA]; omega
    · have := un_pos hA n (by omega)
      omega
/-- loads that have not come stay as they are -/
def St (A B : HS) : Prop := ∀ x, (A.r 1 x = -1 → B.r 1 x = A.r 1 x ∧ B.r 2 x = A.r 2 x ∧ B.r 3 x = A.r 3 x ∧ B.r 4 x = A.r 4 x) ∧ (A.r 1 x ≠ -1 → B.r 1 x ≠ -1)
theorem St.refl (A : HS) : St A A := fun _ => ⟨fun _ => ⟨rfl, rfl, rfl, rfl⟩, fun h => h⟩
theorem St.trans {A B C : HS} (h1 : St A B) (h2 : St B C) : St A C := fun x => by
  refine ⟨fun hx => ?_, fun hx => (h2 x).2 ((h1 x).2 hx)⟩
  obtain ⟨a1, a2, a3, a4⟩ := (h1 x).1 hx
  obtain ⟨b1, b2, b3, b4⟩ := (h2 x).1 (a1.trans hx)
  exact ⟨b1.trans a1, b2.trans a2, b3.trans a3, b4.trans a4⟩
def Good (P : Pm) (t k : Nat) (A B : HS) : Prop := AInv P B [] ∧ (∀ j, B.r 7 j = A.r 7 j ∨ (A.r 7 j = -1 ∧ B.r 7 j = nI t ∧ j < P.nc)) ∧ (∀ i, P.nc ≤ i → B.r 8 i = A.r 8 i ∧ B.r 9 i = A.r 9 i) ∧
  B.st + 30 * hs_un B P.nc ≤ A.st + 30 * hs_un A P.nc + k ∧ B.now = A.now ∧ St A B ∧ (P.R 65 11 = -1 → B.r 65 13 = A.r 65 13)
theorem Good.refl {P : Pm} {t : Nat} {A : HS} (h : AInv P A []) : Good P t 0 A A := ⟨h, fun _ => Or.inl rfl, fun _ _ => ⟨rfl, rfl⟩, Nat.le_refl _, rfl, St.refl A, fun _ => rfl⟩
theorem Good.trans {P : Pm} {t k k' : Nat} {A B C : HS} (h1 : Good P t k A B) (h2 : Good P t k' B C) (ht : t < 2 ^ 30) : Good P t (k + k') A C := by
  obtain ⟨a1, a2, a3, a4, a5, a6, a7⟩ := h1
  obtain ⟨b1, b2, b3, b4, b5, b6, b7⟩ := h2
  refine ⟨b1, fun j => ?_, fun i hi => ⟨(b3 i hi).1.trans (a3 i hi).1, (b3 i hi).2.trans (a3 i hi).2⟩, by omega, b5.trans a5, a6.trans b6, fun z => (b7 z).trans (a7 z)⟩
  rcases b2 j with h | ⟨h, h', hj⟩
  · rcases a2 j with g | ⟨g, g', gj⟩
    · exact Or.inl (h.trans g)
    · exact Or.inr ⟨g, h.trans g', gj⟩
  · rcases a2 j with g | ⟨g, g', gj⟩
    · exact Or.inr ⟨g ▸ h, h', hj⟩
    · exact absurd (g'.symm.trans h) (nI_n1 (by omega))
theorem Good.weak {P : Pm} {t k k' : Nat} {A B : HS} (h : Good P t k A B) (hk : k ≤ k') : Good P t k' A B := by
  obtain ⟨a1, a2, a3, a4, a5, a6, a7⟩ := h
  exact ⟨a1, a2, a3, by omega, a5, a6, a7⟩
theorem Good.mono {P : Pm} {t k : Nat} {A B : HS} (h : Good P t k A B) (ht : t < 2 ^ 30) : ∀ j, B.r 7 j = -1 → A.r 7 j = -1 := fun j hj => by
  rcases h.2.1 j with g | ⟨g, _⟩
  · exact g ▸ hj
  · exact g
theorem good_run {P : Pm} {t k : Nat} {f : Nat → HS → HS} {n : Nat} (ht : t < 2 ^ 30) (hf : ∀ i A, i < n → AInv P A [] → A.st + 30 * hs_un A P.nc < 2 ^ 29 → Good P t k A (f i A)) :
    ∀ (m i : Nat) (A : HS), i + m = n → AInv P A [] → A.st + 30 * hs_un A P.nc + k * m < 2 ^ 29 → Good P t (k * m) A (hs_run f m i A)
  | 0, _, A, _, hA, _ => by rw [Nat.mul_zero]; exact Good.refl hA
  | m + 1, i, A, hi, hA, hs => by
    rw [Nat.mul_add, Nat.mul_one] at hs
    have h1 := hf i A (by omega) hA (by omega)
    have h2 := good_run ht hf m (i + 1) (f i A) (by omega) h1.1 (by have := h1.2.2.2.1; omega)
    have h3 := h1.trans h2 ht
    rw [hs_run, Nat.mul_add, Nat.mul_one, Nat.add_comm]
    exact h3
theorem un_congr {A B : HS} (h : ∀ j, B.r 7 j = A.r 7 j) (n : Nat) : hs_un B n = hs_un A n := Nat.le_antisymm (un_mono (fun j z => h j ▸ z) n) (un_mono (fun j z => (h j).symm ▸ z) n)
theorem hs_write_r {l c t : Nat} {A : HS} {k i : Nat} (h : k ≠ 44 ∧ k ≠ 45 ∧ k ≠ 46) : (hs_write l c t A).r k i = A.r k i := by
  unfold hs_write
  split
  · show mx_set (mx_set (mx_set A.r 44 A.nk (nI l)) 45 A.nk (nI c)) 46 A.nk (nI t) k i = _
    rw [ms_ne h.2.2, ms_ne h.2.1, ms_ne h.1]
  · rfl
theorem HS.at_or {A : HS} {k i k' i' : Nat} {x : Int32} (h : k' ≠ k ∨ i' ≠ i) : (A.set k i x).r k' i' = A.r k' i' := ms_at h
/-- rows that comes leaves alone -/
theorem hs_one_r {P : Pm} {w : Bool} {to t c x : Nat} {A : HS} {k i : Nat} (h1 : k ≠ 1 ∨ i ≠ x) (h2 : k ≠ 2 ∨ i ≠ x) (h3 : k ≠ 3 ∨ i ≠ x) (h5 : k ≠ 5 ∨ i ≠ x) (hk : k < 10 ∨ (k = 65 ∧ i ≠ 13)) : (hs_one P w to t c x A).r k i = A.r k i := by
  have q : (hs_comes P x to t (A.set 3 x (A.r 3 x + 1))).r k i = A.r k i := by
    rw [hs_comes_r (by omega), ms_at h5, ms_at h2, ms_at h1]
    exact ms_at h3
  unfold hs_one
  split
  · rw [hs_write_r (by omega)]
    exact q
  · exact q
theorem hs_one_1 {P : Pm} {w : Bool} {to t c x : Nat} {A : HS} : (hs_one P w to t c x A).r 1 x = nI to := by
  have q : (hs_comes P x to t (A.set 3 x (A.r 3 x + 1))).r 1 x = nI to := by
    rw [hs_comes_r (by omega), ms_ne (by omega), ms_ne (by omega), ms_self, upd_eq]
  unfold hs_one
  split
  · rw [hs_write_r (by omega)]
    exact q
  · exact q
theorem hs_one_met {P : Pm} {w : Bool} {to t c x : Nat} {A : HS} (hx : x < 2 ^ 30) (hw : P.R 65 11 = -1) : (hs_one P w to t c x A).r 65 13 = A.r 65 13 := by
  have q : (hs_comes P x to t (A.set 3 x (A.r 3 x + 1))).r 65 13 = A.r 65 13 := by
    rw [hs_comes_eq, if_neg (fun z => nI_n1 (e := x) (by omega) (z.1.trans hw))]
    have z : ∀ a b e f : Int32, mx_set (mx_set (mx_set (mx_set A.r 3 x a) 1 x b) 2 x e) 5 x f 65 13 = A.r 65 13 := fun a b e f => by
      rw [ms_ne (by omega), ms_ne (by omega), ms_ne (by omega), ms_ne (by omega)]
    exact z 0 0 0 0
  unfold hs_one
  split
  · rw [hs_write_r (by omega)]
    exact q
  · exact q
theorem hs_one_now {P : Pm} {w : Bool} {to t c x : Nat} {A : HS} : (hs_one P w to t c x A).now = A.now := by
  unfold hs_one
  split
  · unfold hs_write
    split <;> rfl
  · rfl
theorem hs_ones_keep {P : Pm} {w : Bool} {to t c : Nat} (hto : to < 2 ^ 30) : ∀ (ls : List Nat) (A : HS), (∀ x ∈ ls, x < 2 ^ 30) → (∀ k i, 6 ≤ k → k < 10 ∨ (k = 65 ∧ i ≠ 13) → (hs_ones P w to t c ls A).r k i = A.r k i) ∧ (hs_ones P w to t c ls A).now = A.now ∧ (∀ x, x ∉ ls → ∀ k, 1 ≤ k → k ≤ 4 → (hs_ones P w to t c ls A).r k x = A.r k x) ∧ (∀ x, A.r 1 x ≠ -1 → (hs_ones P w to t c ls A).r 1 x ≠ -1) ∧ (P.R 65 11 = -1 → (hs_ones P w to t c ls A).r 65 13 = A.r 65 13)
  | [], A, _ => ⟨fun _ _ _ _ => rfl, rfl, fun _ _ _ _ _ => rfl, fun _ h => h, fun _ => rfl⟩
  | y :: ls, A, hl => by
    obtain ⟨g1, g2, g3, g4, g5⟩ := hs_ones_keep (P := P) (w := w) (t := t) (c := c) hto ls (hs_one P w to t c y A) (fun x hx => hl x (List.mem_cons_of_mem _ hx))
    refine ⟨fun k i h1 h2 => ?_, g2.trans hs_one_now, fun x hx k k1 k4 => ?_, fun x hx => g4 x ?_, fun z => (g5 z).trans (hs_one_met (hl y (by simp)) z)⟩
    · exact (g1 k i h1 h2).trans (hs_one_r (by omega) (by omega) (by omega) (by omega) (by omega))
    · have hxy : x ≠ y := fun z => hx (by simp [z])
      exact (g3 x (fun z => hx (List.mem_cons_of_mem _ z)) k k1 k4).trans (hs_one_r (Or.inr hxy) (Or.inr hxy) (Or.inr hxy) (Or.inr hxy) (by omega))
    · by_cases q : x = y
      · subst q
        rw [hs_one_1]
        exact nI_n1 (by omega)
      · rw [hs_one_r (Or.inr q) (Or.inr q) (Or.inr q) (Or.inr q) (by omega)]
        exact hx
theorem good_carry {P : Pm} {A : HS} {w : Bool} {fr to t c : Nat} {ls : List Nat} (hA : AInv P A []) (hf : fr ≤ P.nb) (ht : to ≤ P.nb) (hb : P.nb ≤ 3) (hl : P.nl ≤ 30) (hs : ls.Sublist (A.hp fr)) (hst : A.st < 2 ^ 29) : Good P t 30 A (hs_carry P w fr to t c ls A) := by
  obtain ⟨h1, h2, h3⟩ := hA.carry (w := w) (h := t) (c := c) hf ht hb hl hs hst
  have hm : ∀ x ∈ ls, x < P.nl ∧ A.r 1 x = nI fr := fun x hx => by
    have := ((hA.1 fr (by omega)).2 x).mp (hs.subset hx)
    exact ⟨this.1, this.2.1⟩
  obtain ⟨g1, g2, g3, g4, g5⟩ := hs_ones_keep (P := P) (w := w) (to := to) (t := t) (c := c) (by omega) ls (hs_drop fr ls A) (fun x hx => by have := (hm x hx).1; omega)
  have e7 : ∀ k i, 6 ≤ k → k < 10 → (hs_carry P w fr to t c ls A).r k i = A.r k i := fun k i k1 k2 => by
    have q := g1 k i k1 (Or.inl k2)
    exact (HS.at_ne (by omega)).trans q
  refine ⟨h1, fun j => Or.inl (e7 7 j (by omega) (by omega)), fun i _ => ⟨e7 8 i (by omega) (by omega), e7 9 i (by omega) (by omega)⟩, ?_, ?_, fun x => ⟨fun hx => ?_, fun hx => ?_⟩, fun z => ?_⟩
  · rw [un_congr (fun j => e7 7 j (by omega) (by omega))]
    omega
  · exact g2
  · have hx2 : x ∉ ls := fun z => by
      have := (hm x z).2
      rw [hx] at this
      exact nI_n1 (by omega) this.symm
    have q : ∀ k, 1 ≤ k → k ≤ 4 → (hs_carry P w fr to t c ls A).r k x = A.r k x := fun k k1 k4 => by
      exact (HS.at_ne (by omega)).trans (g3 x hx2 k k1 k4)
    exact ⟨q 1 (by omega) (by omega), q 2 (by omega) (by omega), q 3 (by omega) (by omega), q 4 (by omega) (by omega)⟩
  · have q := g4 x hx
    rwa [← HS.at_ne (A := hs_ones P w to t c ls (hs_drop fr ls A)) (k := 65) (i := 15) (x := (hs_ones P w to t c ls (hs_drop fr ls A)).r 65 15 + nI ls.length) (show (1 : Nat) ≠ 65 by omega)] at q
  · exact (HS.at_or (Or.inr (by omega))).trans (g5 z)
theorem carry_keep {P : Pm} {A : HS} {w : Bool} {fr to t c : Nat} {ls : List Nat} (hA : AInv P A []) (hf : fr ≤ P.nb) (ht : to ≤ P.nb) (hb : P.nb ≤ 3) (hl : P.nl ≤ 30) (hs : ls.Sublist (A.hp fr)) (hst : A.st < 2 ^ 29) : (∀ k i, 6 ≤ k → k < 10 → (hs_carry P w fr to t c ls A).r k i = A.r k i) ∧ (hs_carry P w fr to t c ls A).st ≤ A.st + 30 := by
  obtain ⟨h1, h2, h3⟩ := hA.carry (w := w) (h := t) (c := c) hf ht hb hl hs hst
  have hm : ∀ x ∈ ls, x < P.nl := fun x hx => (((hA.1 fr (by omega)).2 x).mp (hs.subset hx)).1
  obtain ⟨g1, g2, g3, g4, g5⟩ := hs_ones_keep (P := P) (w := w) (to := to) (t := t) (c := c) (by omega) ls (hs_drop fr ls A) (fun x hx => by have := hm x hx; omega)
  exact ⟨fun k i k1 k2 => (HS.at_ne (by omega)).trans (g1 k i k1 (Or.inl k2)), by omega⟩
/-- a write of rows that count for nothing here -/
theorem good_set {P : Pm} {A : HS} {t k i : Nat} {x : Int32} (hA : AInv P A []) (hk : (8 ≤ k ∧ k ≤ 9 ∧ i < P.nc) ∨ k = 0 ∨ (k = 65 ∧ i ≠ 13)) : Good P t 0 A (A.set k i x) := by
  have q : ∀ k' i', k' ≠ k ∨ i' ≠ i → (A.set k i x).r k' i' = A.r k' i' := fun k' i' h => ms_at h
  refine ⟨hA.set (by omega), fun j => Or.inl (q 7 j (by omega)), fun j hj => ⟨q 8 j (by omega), q 9 j (by omega)⟩, ?_, rfl, fun y => ⟨fun _ => ⟨q 1 y (by omega), q 2 y (by omega), q 3 y (by omega), q 4 y (by omega)⟩, fun h => ?_⟩, fun _ => q 65 13 (by omega)⟩
  · rw [un_congr (fun j => q 7 j (by omega))]
    show A.st + _ ≤ _
    omega
  · rw [q 1 y (by omega)]; exact h
theorem good_cr {P : Pm} {A : HS} {t i : Nat} (hA : AInv P A []) (hi : i < P.nc) (hc : A.r 7 i = -1) (ht : t < 2 ^ 30) : Good P t 0 A (A.set 7 i (nI t)) ∧ (A.set 7 i (nI t)).st + 30 * hs_un (A.set 7 i (nI t)) P.nc + 30 ≤ A.st + 30 * hs_un A P.nc := by
  have q : ∀ k' i', k' ≠ 7 ∨ i' ≠ i → (A.set 7 i (nI t)).r k' i' = A.r k' i' := fun k' i' h => ms_at h
  have q7 : (A.set 7 i (nI t)).r 7 i = nI t := by show mx_set _ 7 i _ 7 i = _; rw [ms_self, upd_eq]
  have hm : ∀ j, (A.set 7 i (nI t)).r 7 j = -1 → A.r 7 j = -1 := fun j hj => by
    by_cases e : j = i
    · subst e; exact hc
    · rw [← q 7 j (Or.inr e)]; exact hj
  have hu := un_less hm hc (by rw [q7]; exact nI_n1 (by omega)) P.nc hi
  have hs : (A.set 7 i (nI t)).st = A.st := rfl
  refine ⟨⟨hA.set (by omega), fun j => ?_, fun j hj => ⟨q 8 j (by omega), q 9 j (by omega)⟩, by omega, rfl, fun y => ⟨fun _ => ⟨q 1 y (by omega), q 2 y (by omega), q 3 y (by omega), q 4 y (by omega)⟩, fun h => ?_⟩, fun _ => q 65 13 (by omega)⟩, by omega⟩
  · by_cases e : j = i
    · subst e; exact Or.inr ⟨hc, q7, hi⟩
    · exact Or.inl (q 7 j (Or.inr e))
  · rw [q 1 y (by omega)]; exact h
