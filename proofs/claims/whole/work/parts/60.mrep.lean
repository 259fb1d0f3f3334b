/-! the model's cells hold the hour's numbers -/
def MTold (P : Pm) (w : Nat → Int32) : Prop :=
  (w 0 = nI P.nb ∧ w 2 = nI P.nl ∧ w 3 = nI P.nc ∧ w 7 = nI P.no ∧ w 4 = P.R 65 8 ∧ w 5 = P.R 1 7 ∧ w 1600 = nI P.ps.length) ∧ LawM P.ps w ∧
  (∀ l, l < P.nl → ∀ j, j < 4 → w (20 + 10 * l + j) = P.R (3 + j) l) ∧ (∀ l, l < P.nl → P.R 6 l = -1 ∨ w (24 + 10 * l) = P.R 7 l) ∧
  (∀ i, i < P.nc → ∀ j, j < 8 → w (320 + 14 * i + j) = P.R (9 + j) i) ∧ (∀ o, o < P.no → ∀ j, j < 4 → w (1500 + 5 * o + j) = P.R (19 + j) o)
/-- what an hour may write -/
def MK (k : Nat) : Prop := k = 1 ∨ k = 6 ∨ k = 9 ∨ k = 10 ∨ (∃ l j, l < 30 ∧ 1 ≤ j ∧ j ≤ 5 ∧ k = 24 + 10 * l + j) ∨ (∃ i j, i < 20 ∧ 7 ≤ j ∧ j ≤ 9 ∧ k = 321 + 14 * i + j) ∨ (600 ≤ k ∧ k < 1500)
theorem MK.no {k : Nat} (h0 : k ≠ 1 ∧ k ≠ 6 ∧ k ≠ 9 ∧ k ≠ 10) (h1 : ∀ l, l < 30 → k ≤ 24 + 10 * l ∨ 29 + 10 * l < k) (h2 : ∀ i, i < 20 → k < 328 + 14 * i ∨ 330 + 14 * i < k) (h3 : k < 600 ∨ 1500 ≤ k) : ¬ MK k := by
  rintro (z | z | z | z | ⟨l, j, hl, a, b, z⟩ | ⟨i, j, hi, a, b, z⟩ | z)
  · omega
  · omega
  · omega
  · omega
  · have := h1 l hl; omega
  · have := h2 i hi; omega
  · omega
theorem MK.big {k : Nat} (h : 1500 ≤ k) : ¬ MK k := MK.no (by omega) (fun _ _ => by omega) (fun _ _ => by omega) (by omega)
theorem MTold.congr {P : Pm} {w w' : Nat → Int32} (hP : P.nl ≤ 30 ∧ P.nc ≤ 20) (h : MTold P w) (hw : ∀ k, ¬ MK k → w' k = w k) : MTold P w' := by
  obtain ⟨⟨a1, a2, a3, a4, a5, a6, a7⟩, b, c1, c2, c3, c4⟩ := h
  have z : ∀ k, k < 9 → k ≠ 1 → k ≠ 6 → w' k = w k := fun k k9 k1 k6 => hw k (MK.no (by omega) (fun _ _ => by omega) (fun _ _ => by omega) (by omega))
  have big : ∀ k, 1500 ≤ k → w' k = w k := fun k hk => hw k (MK.big hk)
  refine ⟨⟨by rw [z 0 (by omega) (by omega) (by omega)]; exact a1, by rw [z 2 (by omega) (by omega) (by omega)]; exact a2, by rw [z 3 (by omega) (by omega) (by omega)]; exact a3, by rw [z 7 (by omega) (by omega) (by omega)]; exact a4, by rw [z 4 (by omega) (by omega) (by omega)]; exact a5, by rw [z 5 (by omega) (by omega) (by omega)]; exact a6, by rw [big _ (by omega)]; exact a7⟩, ⟨fun i hi => ?_, fun i hi => ?_⟩, fun l hl j hj => ?_, fun l hl => ?_, fun i hi j hj => ?_, fun o ho j hj => ?_⟩
  · rw [big _ (by omega), big _ (by omega), big _ (by omega)]; exact b.1 i hi
  · rw [big _ (by omega), big _ (by omega)]; exact b.2 i hi
  · rw [hw _ (MK.no (by omega) (fun _ _ => by omega) (fun _ _ => by omega) (by omega))]; exact c1 l hl j hj
  · rw [hw _ (MK.no (by omega) (fun _ _ => by omega) (fun _ _ => by omega) (by omega))]; exact c2 l hl
  · rw [hw _ (MK.no (by omega) (fun _ _ => by omega) (fun _ _ => by omega) (by omega))]; exact c3 i hi j hj
  · rw [big _ (by omega)]; exact c4 o ho j hj
def MState (P : Pm) (A : HS) (w : Nat → Int32) : Prop :=
  (∀ l, l < P.nl → ∀ j, 1 ≤ j → j ≤ 5 → w (24 + 10 * l + j) = A.r j l) ∧ (∀ i, i < P.nc → ∀ j, 7 ≤ j → j ≤ 9 → (j = 7 ∨ P.fl = true) → w (321 + 14 * i + j) = A.r j i) ∧
  (w 1 = nI A.now ∧ (P.fl = true → w 9 = A.r 0 10) ∧ w 10 = nI A.st ∧ w 6 = nI A.nk) ∧ (A.nk ≤ 300 ∧ ∀ i, i < A.nk → ∀ j, j < 3 → w (600 + 3 * i + j) = A.r (44 + j) i)
def MField (P : Pm) (A : HS) (f : Nat → Int32) : Prop := (f 21 = b2i (!P.wr) ∧ f 25 = P.R 65 10 ∧ f 26 = P.R 65 9) ∧ f 22 = P.R 65 11 ∧ (P.R 65 11 = -1 ∨ (f 23 = P.R 65 12 ∧ f 24 = A.r 65 13)) ∧ (P.wr = true → f 31 = A.r 65 15)
def MFr (P : Pm) (I0 I : mx_I) : Prop := (∀ k, k ≠ 120 → k ≠ 121 → k ≠ 127 → k ≠ 128 → k ≠ 129 → k ≠ 130 → I k = I0 k) ∧ (∀ j, j ≠ 24 → j ≠ 29 → j ≠ 30 → j ≠ 31 → I 120 j = I0 120 j) ∧ (∀ k, ¬ MK k → I 121 k = I0 121 k) ∧ (P.wr = false → ∀ k, 600 ≤ k → I 121 k = I0 121 k)
def MR (P : Pm) (A : HS) (I0 I : mx_I) : Prop := MTold P (I 121) ∧ MState P A (I 121) ∧ MField P A (I 120) ∧ MFr P I0 I
theorem MField.congr {P : Pm} {A B : HS} {f : Nat → Int32} (h : MField P A f) (h1 : B.r 65 13 = A.r 65 13) (h2 : B.r 65 15 = A.r 65 15) : MField P B f := by
  obtain ⟨a, b, c, d⟩ := h
  exact ⟨a, b, by rw [h1]; exact c, by rw [h2]; exact d⟩
section MU
variable {P : Pm} {A : HS} {I0 I : mx_I}
/-- a write of the model's array -/
theorem MR.w (h : MR P A I0 I) (hP : P.nl ≤ 30 ∧ P.nc ≤ 20) {B : HS} {k : Nat} {x : Int32} (hk : MK k) (hk6 : P.wr = false → k < 600) (hS : MState P B (upd (I 121) k x)) (h13 : B.r 65 13 = A.r 65 13) (h15 : B.r 65 15 = A.r 65 15) : MR P B I0 (mx_set I 121 k x) := by
  obtain ⟨g1, g2, g3, f1, f2, f3, f4⟩ := h
  have e : mx_set I 121 k x 121 = upd (I 121) k x := ms_self _ _ _ _
  have e0 : ∀ a, a ≠ 121 → mx_set I 121 k x a = I a := fun a ha => ms_ne ha
  have u : ∀ a, ¬ MK a → upd (I 121) k x a = I 121 a := fun a ha => upd_ne (fun z => ha (z ▸ hk))
  refine ⟨by rw [e]; exact g1.congr hP u, by rw [e]; exact hS, by rw [e0 120 (by omega)]; exact g3.congr h13 h15, fun a a1 a2 a3 a4 a5 a6 => by rw [e0 a a2]; exact f1 a a1 a2 a3 a4 a5 a6, by rw [e0 120 (by omega)]; exact f2, fun a ha => by rw [e, u a ha]; exact f3 a ha, fun hw a ha => ?_⟩
  rw [e, upd_ne (by have := hk6 hw; omega)]
  exact f4 hw a ha
theorem MR.setL (h : MR P A I0 I) (hP : P.nl ≤ 30 ∧ P.nc ≤ 20) {j l : Nat} {x : Int32} (hl : l < P.nl) (hj : 1 ≤ j ∧ j ≤ 5) : MR P (A.set j l x) I0 (mx_set I 121 (24 + 10 * l + j) x) := by
  obtain ⟨s1, s2, ⟨s3, s4, s5, s6⟩, s7, s8⟩ := h.2.1
  refine h.w hP (Or.inr (Or.inr (Or.inr (Or.inr (Or.inl ⟨l, j, by omega, hj.1, hj.2, rfl⟩))))) (fun _ => by omega) ⟨fun l' hl' j' j1 j2 => ?_, fun i hi j' j1 j2 j3 => ?_, ⟨?_, fun hfl => ?_, ?_, ?_⟩, s7, fun i hi j' hj' => ?_⟩ (HS.at_ne (by omega)) (HS.at_ne (by omega))
  · by_cases q : l' = l ∧ j' = j
    · obtain ⟨rfl, rfl⟩ := q
      rw [upd_eq]
      show x = mx_set A.1 j' l' x j' l'
      rw [ms_self, upd_eq]
    · rw [upd_ne (by omega), HS.at_or (by omega)]
      exact s1 l' hl' j' j1 j2
  · rw [upd_ne (by omega), HS.at_ne (by omega)]; exact s2 i hi j' j1 j2 j3
  · rw [upd_ne (by omega)]; exact s3
  · rw [upd_ne (by omega), HS.at_ne (by omega)]; exact s4 hfl
  · rw [upd_ne (by omega)]; exact s5
  · rw [upd_ne (by omega)]; exact s6
  · rw [upd_ne (by omega), HS.at_ne (by omega)]; exact s8 i hi j' hj'
theorem MR.setC (h : MR P A I0 I) (hP : P.nl ≤ 30 ∧ P.nc ≤ 20) {j i : Nat} {x : Int32} (hi : i < P.nc) (hj : 7 ≤ j ∧ j ≤ 9) : MR P (A.set j i x) I0 (mx_set I 121 (321 + 14 * i + j) x) := by
  obtain ⟨s1, s2, ⟨s3, s4, s5, s6⟩, s7, s8⟩ := h.2.1
  refine h.w hP (Or.inr (Or.inr (Or.inr (Or.inr (Or.inr (Or.inl ⟨i, j, by omega, hj.1, hj.2, rfl⟩)))))) (fun _ => by omega) ⟨fun l' hl' j' j1 j2 => ?_, fun i' hi' j' j1 j2 j3 => ?_, ⟨?_, fun hfl => ?_, ?_, ?_⟩, s7, fun i' hi' j' hj' => ?_⟩ (HS.at_ne (by omega)) (HS.at_ne (by omega))
  · rw [upd_ne (by omega), HS.at_ne (by omega)]; exact s1 l' hl' j' j1 j2
  · by_cases q : i' = i ∧ j' = j
    · obtain ⟨rfl, rfl⟩ := q
      rw [upd_eq]
      show x = mx_set A.1 j' i' x j' i'
      rw [ms_self, upd_eq]
    · rw [upd_ne (by omega), HS.at_or (by omega)]
      exact s2 i' hi' j' j1 j2 j3
  · rw [upd_ne (by omega)]; exact s3
  · rw [upd_ne (by omega), HS.at_ne (by omega)]; exact s4 hfl
  · rw [upd_ne (by omega)]; exact s5
  · rw [upd_ne (by omega)]; exact s6
  · rw [upd_ne (by omega), HS.at_ne (by omega)]; exact s8 i' hi' j' hj'
theorem MR.setS (h : MR P A I0 I) (hP : P.nl ≤ 30 ∧ P.nc ≤ 20) {y : Int32} : MR P (A.set 0 10 (A.r 0 10 + y)) I0 (mx_set I 121 9 (I 121 9 + y)) := by
  obtain ⟨s1, s2, ⟨s3, s4, s5, s6⟩, s7, s8⟩ := h.2.1
  refine h.w hP (Or.inr (Or.inr (Or.inl rfl))) (fun _ => by omega) ⟨fun l' hl' j' j1 j2 => ?_, fun i' hi' j' j1 j2 j3 => ?_, ⟨?_, fun hfl => ?_, ?_, ?_⟩, s7, fun i' hi' j' hj' => ?_⟩ (HS.at_ne (by omega)) (HS.at_ne (by omega))
  · rw [upd_ne (by omega), HS.at_ne (by omega)]; exact s1 l' hl' j' j1 j2
  · rw [upd_ne (by omega), HS.at_ne (by omega)]; exact s2 i' hi' j' j1 j2 j3
  · rw [upd_ne (by omega)]; exact s3
  · rw [upd_eq, s4 hfl]
    show A.r 0 10 + y = mx_set A.1 0 10 (A.r 0 10 + y) 0 10
    rw [ms_self, upd_eq]
  · rw [upd_ne (by omega)]; exact s5
  · rw [upd_ne (by omega)]; exact s6
  · rw [upd_ne (by omega), HS.at_ne (by omega)]; exact s8 i' hi' j' hj'
theorem MR.stamp (h : MR P A I0 I) (hP : P.nl ≤ 30 ∧ P.nc ≤ 20) (n : Nat) : MR P (A.1, A.2.1, n, A.2.2.2) I0 (mx_set I 121 10 (nI n)) := by
  obtain ⟨s1, s2, ⟨s3, s4, s5, s6⟩, s7, s8⟩ := h.2.1
  refine h.w hP (Or.inr (Or.inr (Or.inr (Or.inl rfl)))) (fun _ => by omega) ⟨fun l' hl' j' j1 j2 => ?_, fun i' hi' j' j1 j2 j3 => ?_, ⟨?_, fun hfl => ?_, ?_, ?_⟩, s7, fun i' hi' j' hj' => ?_⟩ rfl rfl
  · rw [upd_ne (by omega)]; exact s1 l' hl' j' j1 j2
  · rw [upd_ne (by omega)]; exact s2 i' hi' j' j1 j2 j3
  · rw [upd_ne (by omega)]; exact s3
  · rw [upd_ne (by omega)]; exact s4 hfl
  · rw [upd_eq]
  · rw [upd_ne (by omega)]; exact s6
  · rw [upd_ne (by omega)]; exact s8 i' hi' j' hj'
theorem MR.tick (h : MR P A I0 I) (hP : P.nl ≤ 30 ∧ P.nc ≤ 20) : MR P A.tick I0 (mx_set I 121 1 (nI (A.now + 1))) := by
  obtain ⟨s1, s2, ⟨s3, s4, s5, s6⟩, s7, s8⟩ := h.2.1
  refine h.w hP (Or.inl rfl) (fun _ => by omega) ⟨fun l' hl' j' j1 j2 => ?_, fun i' hi' j' j1 j2 j3 => ?_, ⟨?_, fun hfl => ?_, ?_, ?_⟩, s7, fun i' hi' j' hj' => ?_⟩ rfl rfl
  · rw [upd_ne (by omega)]; exact s1 l' hl' j' j1 j2
  · rw [upd_ne (by omega)]; exact s2 i' hi' j' j1 j2 j3
  · rw [upd_eq]; rfl
  · rw [upd_ne (by omega)]; exact s4 hfl
  · rw [upd_ne (by omega)]; exact s5
  · rw [upd_ne (by omega)]; exact s6
  · rw [upd_ne (by omega)]; exact s8 i' hi' j' hj'
theorem MR.hp (h : MR P A I0 I) (hp : Nat → List Nat) : MR P (A.1, hp, A.2.2) I0 I := h
/-- scratch -/
theorem MR.scr (h : MR P A I0 I) {I' : mx_I} (h1 : ∀ k, k ≠ 120 → k ≠ 127 → k ≠ 128 → k ≠ 129 → k ≠ 130 → I' k = I k) (h2 : ∀ j, j ≠ 29 → j ≠ 30 → I' 120 j = I 120 j) : MR P A I0 I' := by
  obtain ⟨g1, g2, ⟨⟨a1, a2, a3⟩, a4, a5, a6⟩, f1, f2, f3, f4⟩ := h
  have e := h1 121 (by omega) (by omega) (by omega) (by omega) (by omega)
  refine ⟨by rw [e]; exact g1, by rw [e]; exact g2, ⟨⟨by rw [h2 21 (by omega) (by omega)]; exact a1, by rw [h2 25 (by omega) (by omega)]; exact a2, by rw [h2 26 (by omega) (by omega)]; exact a3⟩, by rw [h2 22 (by omega) (by omega)]; exact a4, by rw [h2 23 (by omega) (by omega), h2 24 (by omega) (by omega)]; exact a5, by rw [h2 31 (by omega) (by omega)]; exact a6⟩, fun a a1 a2 a3 a4 a5 a6 => by rw [h1 a a1 a3 a4 a5 a6]; exact f1 a a1 a2 a3 a4 a5 a6, fun j j1 j2 j3 j4 => by rw [h2 j j2 j3]; exact f2 j j1 j2 j3 j4, by rw [e]; exact f3, by rw [e]; exact f4⟩
theorem MR.least (h : MR P A I0 I) (x : Int32) : MR P (A.set 65 14 x) I0 I := by
  obtain ⟨g1, ⟨s1, s2, ⟨s3, s4, s5, s6⟩, s7, s8⟩, g3, g4⟩ := h
  refine ⟨g1, ⟨fun l' hl' j' j1 j2 => ?_, fun i' hi' j' j1 j2 j3 => ?_, ⟨s3, fun hfl => ?_, s5, s6⟩, s7, fun i' hi' j' hj' => ?_⟩, g3.congr (HS.at_or (by omega)) (HS.at_or (by omega)), g4⟩
  · rw [HS.at_ne (by omega)]; exact s1 l' hl' j' j1 j2
  · rw [HS.at_ne (by omega)]; exact s2 i' hi' j' j1 j2 j3
  · rw [HS.at_ne (by omega)]; exact s4 hfl
  · rw [HS.at_ne (by omega)]; exact s8 i' hi' j' hj'
theorem MR.met (h : MR P A I0 I) (x : Int32) : MR P (A.set 65 13 x) I0 (mx_set I 120 24 x) := by
  obtain ⟨g1, ⟨s1, s2, ⟨s3, s4, s5, s6⟩, s7, s8⟩, ⟨⟨a1, a2, a3⟩, a4, a5, a6⟩, f1, f2, f3, f4⟩ := h
  have e : mx_set I 120 24 x 121 = I 121 := ms_ne (by omega)
  have e2 : ∀ j, j ≠ 24 → mx_set I 120 24 x 120 j = I 120 j := fun j hj => ms_at (Or.inr hj)
  refine ⟨by rw [e]; exact g1, ?_, ⟨⟨by rw [e2 21 (by omega)]; exact a1, by rw [e2 25 (by omega)]; exact a2, by rw [e2 26 (by omega)]; exact a3⟩, by rw [e2 22 (by omega)]; exact a4, ?_, fun z => ?_⟩, fun a a1 a2 a3 a4 a5 a6 => by rw [ms_ne a1]; exact f1 a a1 a2 a3 a4 a5 a6, fun j j1 j2 j3 j4 => by rw [e2 j j1]; exact f2 j j1 j2 j3 j4, by rw [e]; exact f3, by rw [e]; exact f4⟩
  · rw [e]
    refine ⟨fun l' hl' j' j1 j2 => ?_, fun i' hi' j' j1 j2 j3 => ?_, ⟨s3, fun hfl => ?_, s5, s6⟩, s7, fun i' hi' j' hj' => ?_⟩
    · rw [HS.at_ne (by omega)]; exact s1 l' hl' j' j1 j2
    · rw [HS.at_ne (by omega)]; exact s2 i' hi' j' j1 j2 j3
    · rw [HS.at_ne (by omega)]; exact s4 hfl
    · rw [HS.at_ne (by omega)]; exact s8 i' hi' j' hj'
  · refine a5.imp id (fun z => ⟨by rw [e2 23 (by omega)]; exact z.1, ?_⟩)
    show mx_set I 120 24 x 120 24 = mx_set A.1 65 13 x 65 13
    rw [ms_self, ms_self, upd_eq, upd_eq]
  · rw [e2 31 (by omega), HS.at_or (by omega)]; exact a6 z
theorem MR.bore (h : MR P A I0 I) (y : Int32) : MR P (A.set 65 15 (A.r 65 15 + y)) I0 (mx_set I 120 31 (I 120 31 + y)) := by
  obtain ⟨g1, ⟨s1, s2, ⟨s3, s4, s5, s6⟩, s7, s8⟩, ⟨⟨a1, a2, a3⟩, a4, a5, a6⟩, f1, f2, f3, f4⟩ := h
  have e : mx_set I 120 31 (I 120 31 + y) 121 = I 121 := ms_ne (by omega)
  have e2 : ∀ j, j ≠ 31 → mx_set I 120 31 (I 120 31 + y) 120 j = I 120 j := fun j hj => ms_at (Or.inr hj)
  refine ⟨by rw [e]; exact g1, ?_, ⟨⟨by rw [e2 21 (by omega)]; exact a1, by rw [e2 25 (by omega)]; exact a2, by rw [e2 26 (by omega)]; exact a3⟩, by rw [e2 22 (by omega)]; exact a4, ?_, fun z => ?_⟩, fun a a1 a2 a3 a4 a5 a6 => by rw [ms_ne a1]; exact f1 a a1 a2 a3 a4 a5 a6, fun j j1 j2 j3 j4 => by rw [e2 j j4]; exact f2 j j1 j2 j3 j4, by rw [e]; exact f3, by rw [e]; exact f4⟩
  · rw [e]
    refine ⟨fun l' hl' j' j1 j2 => ?_, fun i' hi' j' j1 j2 j3 => ?_, ⟨s3, fun hfl => ?_, s5, s6⟩, s7, fun i' hi' j' hj' => ?_⟩
    · rw [HS.at_ne (by omega)]; exact s1 l' hl' j' j1 j2
    · rw [HS.at_ne (by omega)]; exact s2 i' hi' j' j1 j2 j3
    · rw [HS.at_ne (by omega)]; exact s4 hfl
    · rw [HS.at_ne (by omega)]; exact s8 i' hi' j' hj'
  · rw [e2 23 (by omega), e2 24 (by omega), HS.at_or (by omega)]; exact a5
  · show mx_set I 120 31 (I 120 31 + y) 120 31 = mx_set A.1 65 15 (A.r 65 15 + y) 65 15
    rw [ms_self, ms_self, upd_eq, upd_eq, a6 z]
theorem MR.write (h : MR P A I0 I) (hP : P.nl ≤ 30 ∧ P.nc ≤ 20) (hw : P.wr = true) (hn : A.nk < 300) (x i t : Nat) : MR P (hs_write x i t A) I0 (mx_set (mx_set (mx_set (mx_set I 121 (600 + 3 * A.nk) (nI x)) 121 (600 + 3 * A.nk + 1) (nI i)) 121 (600 + 3 * A.nk + 2) (nI t)) 121 6 (nI (A.nk + 1))) := by
  obtain ⟨g1, ⟨s1, s2, ⟨s3, s4, s5, s6⟩, s7, s8⟩, g3, f1, f2, f3, f4⟩ := h
  have ea : hs_write x i t A = (mx_set (mx_set (mx_set A.r 44 A.nk (nI x)) 45 A.nk (nI i)) 46 A.nk (nI t), A.hp, A.st, A.nk + 1, A.now) := by unfold hs_write; rw [if_pos hn]
  have rr : ∀ k j, k ≠ 44 → k ≠ 45 → k ≠ 46 → mx_set (mx_set (mx_set A.r 44 A.nk (nI x)) 45 A.nk (nI i)) 46 A.nk (nI t) k j = A.r k j := fun k j k1 k2 k3 => by rw [ms_ne k3, ms_ne k2, ms_ne k1]
  have e : (mx_set (mx_set (mx_set (mx_set I 121 (600 + 3 * A.nk) (nI x)) 121 (600 + 3 * A.nk + 1) (nI i)) 121 (600 + 3 * A.nk + 2) (nI t)) 121 6 (nI (A.nk + 1))) 121 = upd (upd (upd (upd (I 121) (600 + 3 * A.nk) (nI x)) (600 + 3 * A.nk + 1) (nI i)) (600 + 3 * A.nk + 2) (nI t)) 6 (nI (A.nk + 1)) := by simp only [ms_self]
  have e0 : ∀ a, a ≠ 121 → (mx_set (mx_set (mx_set (mx_set I 121 (600 + 3 * A.nk) (nI x)) 121 (600 + 3 * A.nk + 1) (nI i)) 121 (600 + 3 * A.nk + 2) (nI t)) 121 6 (nI (A.nk + 1))) a = I a := fun a ha => by rw [ms_ne ha, ms_ne ha, ms_ne ha, ms_ne ha]
  have u : ∀ a, a ≠ 6 → (a < 600 + 3 * A.nk ∨ 602 + 3 * A.nk < a) → upd (upd (upd (upd (I 121) (600 + 3 * A.nk) (nI x)) (600 + 3 * A.nk + 1) (nI i)) (600 + 3 * A.nk + 2) (nI t)) 6 (nI (A.nk + 1)) a = I 121 a := fun a a6 ha => by rw [upd_ne a6, upd_ne (by omega), upd_ne (by omega), upd_ne (by omega)]
  have um : ∀ a, ¬ MK a → a ≠ 6 ∧ (a < 600 + 3 * A.nk ∨ 602 + 3 * A.nk < a) := fun a ha => ⟨fun z => ha (Or.inr (Or.inl z)), by
    have : ¬ (600 ≤ a ∧ a < 1500) := fun z => ha (Or.inr (Or.inr (Or.inr (Or.inr (Or.inr (Or.inr z))))))
    omega⟩
  rw [ea]
  refine ⟨by rw [e]; exact g1.congr hP (fun a ha => u a (um a ha).1 (um a ha).2), ?_, by rw [e0 120 (by omega)]; exact g3.congr (rr 65 13 (by omega) (by omega) (by omega)) (rr 65 15 (by omega) (by omega) (by omega)), fun a a1 a2 a3 a4 a5 a6 => by rw [e0 a a2]; exact f1 a a1 a2 a3 a4 a5 a6, by rw [e0 120 (by omega)]; exact f2, fun a ha => by rw [e, u a (um a ha).1 (um a ha).2]; exact f3 a ha, fun z => absurd (hw.symm.trans z) (by simp)⟩
  rw [e]
  refine ⟨fun l' hl' j' j1 j2 => ?_, fun i' hi' j' j1 j2 j3 => ?_, ⟨?_, fun hfl => ?_, ?_, ?_⟩, by show A.nk + 1 ≤ 300; omega, fun i' hi' j' hj' => ?_⟩
  · rw [u _ (by omega) (by omega)]; exact (s1 l' hl' j' j1 j2).trans (rr j' l' (by omega) (by omega) (by omega)).symm
  · rw [u _ (by omega) (by omega)]; exact (s2 i' hi' j' j1 j2 j3).trans (rr j' i' (by omega) (by omega) (by omega)).symm
  · rw [u _ (by omega) (by omega)]; exact s3
  · rw [u _ (by omega) (by omega)]; exact (s4 hfl).trans (rr 0 10 (by omega) (by omega) (by omega)).symm
  · rw [u _ (by omega) (by omega)]; exact s5
  · rw [upd_eq]
  · have hi2 : i' < A.nk + 1 := hi'
    by_cases q : i' = A.nk
    · subst q
      have : j' = 0 ∨ j' = 1 ∨ j' = 2 := by omega
      rcases this with rfl | rfl | rfl
      · rw [upd_ne (by omega), upd_ne (by omega), upd_ne (by omega), Nat.add_zero, upd_eq]
        show nI x = mx_set (mx_set (mx_set A.r 44 A.nk (nI x)) 45 A.nk (nI i)) 46 A.nk (nI t) 44 A.nk
        rw [ms_ne (by omega), ms_ne (by omega), ms_self, upd_eq]
      · rw [upd_ne (by omega), upd_ne (by omega), upd_eq]
        show nI i = mx_set (mx_set (mx_set A.r 44 A.nk (nI x)) 45 A.nk (nI i)) 46 A.nk (nI t) 45 A.nk
        rw [ms_ne (by omega), ms_self, upd_eq]
      · rw [upd_ne (by omega), upd_eq]
        show nI t = mx_set (mx_set (mx_set A.r 44 A.nk (nI x)) 45 A.nk (nI i)) 46 A.nk (nI t) 46 A.nk
        rw [ms_self, upd_eq]
    · rw [u _ (by omega) (by omega)]
      refine (s8 i' (by omega) j' hj').trans ?_
      show A.r (44 + j') i' = mx_set (mx_set (mx_set A.r 44 A.nk (nI x)) 45 A.nk (nI i)) 46 A.nk (nI t) (44 + j') i'
      rw [ms_at (Or.inr q), ms_at (Or.inr q), ms_at (Or.inr q)]
end MU
