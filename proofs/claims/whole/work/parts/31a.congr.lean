/-! what isn't touched stays -/
theorem Rel.congr {I I' : mx_I} {t s b : Nat} {w w' : Nat → Int32} (h : Rel I t s b w) (hI : ∀ a, (t ≤ a ∧ a ≤ t + 31) ∨ (s ≤ a ∧ a ≤ s + 9) ∨ (b ≤ a ∧ a ≤ b + 3) → I' a = I a) (hw : w' = w) : Rel I' t s b w' := by
  subst hw
  obtain ⟨nb, now, nl, nc, no, ni, nk, hp, h1, h2, h3, h4, h5⟩ := h
  have et : ∀ j, j ≤ 31 → I' (t + j) = I (t + j) := fun j hj => hI _ (Or.inl (by omega))
  have es : ∀ j, j ≤ 9 → I' (s + j) = I (s + j) := fun j hj => hI _ (Or.inr (Or.inl (by omega)))
  have eb : ∀ j, j ≤ 3 → I' (b + j) = I (b + j) := fun j hj => hI _ (Or.inr (Or.inr (by omega)))
  have et0 : I' t = I t := hI _ (Or.inl (by omega))
  have es0 : I' s = I s := hI _ (Or.inr (Or.inl (by omega)))
  have eb0 : I' b = I b := hI _ (Or.inr (Or.inr (by omega)))
  refine ⟨nb, now, nl, nc, no, ni, nk, hp, ?_, ?_, ?_, ?_, ?_⟩
  · unfold RScal at h1 ⊢
    rw [et0, es0, eb0, et 1 (by omega), et 7 (by omega), et 17 (by omega), et 23 (by omega)]
    exact h1
  · obtain ⟨r1, r2, r3, r4, r5, r6, r7, r8, r9⟩ := h2
    refine ⟨r1.rows (fun j hj => hI _ (Or.inl (by omega))), ?_, r3.rows (fun j hj => hI _ (Or.inr (Or.inl (by omega)))), r4.rows (fun j hj => hI _ (Or.inl (by omega))), r5.rows (fun j hj => hI _ (Or.inr (Or.inl (by omega)))), r6.rows (fun j hj => hI _ (Or.inl (by omega))), r7.rows (fun j hj => hI _ (Or.inl (by omega))), r8.rows (fun j hj => hI _ (Or.inl (by omega))), r9.rows (fun j hj => hI _ (Or.inr (Or.inr (by omega))))⟩
    rw [et 5 (by omega), et 6 (by omega)]
    exact r2
  · unfold RInv at h3 ⊢
    rw [et 2 (by omega), et 3 (by omega), et 4 (by omega), et 5 (by omega), et 6 (by omega), et 8 (by omega), et 9 (by omega), et 10 (by omega), et 11 (by omega), et 12 (by omega), et 13 (by omega), et 14 (by omega), et 15 (by omega), et 16 (by omega), et 18 (by omega), et 19 (by omega), et 20 (by omega), et 21 (by omega), et 22 (by omega), et 24 (by omega), et 25 (by omega), es 1 (by omega), es 2 (by omega), es 3 (by omega), es 4 (by omega), es 7 (by omega), es 8 (by omega), es 9 (by omega)]
    exact h3
  · unfold RHeap at h4 ⊢
    rw [es 6 (by omega), es 5 (by omega), es 1 (by omega), es 4 (by omega)]
    exact h4
  · exact h5.congr (et 27 (by omega)) (et 28 (by omega)) (et 29 (by omega)) (et 30 (by omega)) (fun _ _ => rfl)
theorem RTape.congr {I I' : mx_I} (h : RTape I) (h1 : I' 47 3 = I 47 3) (h2 : I' 120 11 = I 120 11) (h3 : I' 48 = I 48) (h4 : I' 126 = I 126) : RTape I' := by
  obtain ⟨n, a, b, c, d⟩ := h
  exact ⟨n, a, by rw [h1]; exact b, by rw [h2]; exact c, by rw [h3, h4]; exact d⟩
/-- a step that leaves image, tape and fault: only the world at 1, 33, 43 and the model's array are told anew -/
theorem Sim.world {c c' : Nat} {I I' : mx_I} (h : Sim c I) (hc : c' = 33 ∨ c' = 55) (hR : Rel I' 1 33 43 (I' 121)) (h0 : I' 0 9 = I 0 9) (hk : ∀ a, 74 ≤ a → a ≤ 119 → I' a = I a) (h122 : I' 122 = I 122) (h47 : I' 47 = I 47) (h48 : I' 48 = I 48) (h126 : I' 126 = I 126) (h120 : ∀ j, j = 3 ∨ j = 11 ∨ j = 18 ∨ j = 20 ∨ j = 21 ∨ j = 22 ∨ j = 25 ∨ j = 26 → I' 120 j = I 120 j) : Sim c' I' := by
  obtain ⟨-, -, a2, a3, a4, ⟨a5, a6⟩, a7, a8, a9, a10⟩ := h
  refine ⟨hc, hR, by rw [h120 3 (by simp), h0]; exact a2, ?_, a4.congr (by rw [h47]) (h120 11 (by simp)) h48 h126, ⟨by rw [h120 18 (by simp), h47]; exact a5, by rw [h120 20 (by simp), h47]; exact a6⟩, by rw [h120 21 (by simp)]; exact a7, by rw [h120 22 (by simp)]; exact a8, by rw [h120 25 (by simp)]; exact a9, by rw [h120 26 (by simp)]; exact a10⟩
  rw [h0]
  rcases a3 with z | ⟨z, z2⟩
  · exact Or.inl z
  · exact Or.inr ⟨z, z2.congr (fun a ha => hk a (by omega) (by omega)) h122⟩
