/-! one more offer, list, crosser: the relation behind them -/
set_option maxHeartbeats 1000000 in
theorem Rel.offer {I I' : mx_I} {w' : Nat → Int32} {nb now nl nc no ni nk : Nat} {hp : Nat → List Nat} (h1 : RScal I 1 33 43 (I 121) nb now nl nc no ni nk) (h2 : RTabs I 1 33 43 (I 121) nl nc no ni nk) (h3 : RInv I 1 33 nb now nl nc no ni) (h4 : RHeap I 33 (I 121) hp nb now nl) (h5 : RLaw I (1 + 27) (I 121))
    {val : Nat → Int32} (hn : no < 8) (hv : bnd (val 0) 0 167 ∧ bnd (val 1) 0 (nb - 1) ∧ bnd (val 2) 0 1 ∧ bnd (val 3) 0 99 ∧ bnd (val 4) 0 999) (hI : ∀ a, a < 18 ∨ (23 < a ∧ a ≠ 121) → I' a = I a) (hI2 : I' 18 5 = nI (no + 1)) (hr : ∀ j, j < 5 → ∀ i, I' (19 + j) i = if i = no then val j else I (19 + j) i) (hw : ∀ k, k ≠ 7 ∧ (k < 1500 + 5 * no ∨ 1505 + 5 * no ≤ k) → w' k = I 121 k) (hw2 : w' 7 = nI (no + 1)) (hwi : ∀ j, j < 5 → w' (1500 + 5 * no + j) = val j) : Rel I' 1 33 43 w' := by
  obtain ⟨⟨s1, s2, s3, s4, s5, s6, s7, s8⟩, ⟨c1, c2, c3, c4, c5, c6, c7⟩, ⟨d1, d2, d3, d4, d5, d6, d7⟩, ⟨e1, e2, e3⟩, f1, f2⟩ := h1
  obtain ⟨r1, r2, r3, r4, r5, r6, r7, r8, r9⟩ := h2
  obtain ⟨v1, v2, v3, v4, v5, v6, v7, v8⟩ := h3
  obtain ⟨p1, p2, p3, p4, p5, p6, p7⟩ := h4
  refine ⟨nb, now, nl, nc, (no+1), ni, nk, hp, ⟨⟨s1, s2, s3, s4, s5, by omega, s7, s8⟩, ⟨?_, ?_, ?_, ?_, ?_, ?_, ?_⟩, ⟨?_, ?_, ?_, ?_, ?_, ?_, ?_⟩, ⟨?_, ?_, ?_⟩, ?_, ?_⟩, ⟨?_, ?_, ?_, ?_, ?_, ?_, ?_, ?_, ?_⟩, ⟨?_, ?_, ?_, ?_, ?_, ?_, ?_, ?_⟩, ⟨?_, ?_, ?_, ?_, ?_, ?_, ?_⟩, ?_⟩
  · rw [hI _ (by omega)]; exact c1
  · rw [hI _ (by omega)]; exact c2
  · rw [hI _ (by omega)]; exact c3
  · rw [hI _ (by omega)]; exact c4
  · exact hI2
  · rw [hI _ (by omega)]; exact c6
  · rw [hI _ (by omega)]; exact c7
  · rw [hw _ (by omega)]; exact d1
  · rw [hw _ (by omega)]; exact d2
  · rw [hw _ (by omega)]; exact d3
  · rw [hw _ (by omega)]; exact d4
  · exact hw2
  · rw [hw _ (by omega)]; exact d6
  · rw [hw _ (by omega)]; exact d7
  · rw [hw _ (by omega), hI _ (by omega)]; exact e1
  · rw [hw _ (by omega), hI _ (by omega)]; exact e2
  · rw [hw _ (by omega), hI _ (by omega)]; exact e3
  · rw [hI _ (by omega)]; exact f1
  · rw [hI _ (by omega)]; exact f2
  · exact r1.congr (fun j hj => hI _ (by omega)) (fun i hi j hj => hw _ (by omega))
  · intro i hi; rw [hw _ (by omega), hI (1 + 5) (by omega), hI (1 + 6) (by omega)]; exact r2 i hi
  · exact r3.congr (fun j hj => hI _ (by omega)) (fun i hi j hj => hw _ (by omega))
  · exact r4.congr (fun j hj => hI _ (by omega)) (fun i hi j hj => hw _ (by omega))
  · exact r5.congr (fun j hj => hI _ (by omega)) (fun i hi j hj => hw _ (by omega))
  · exact r6.congr (fun j hj => hI _ (by omega)) (fun i hi j hj => hw _ (by omega))
  · intro i hi j hj
    by_cases e : i = no
    · subst e
      rw [hwi j (by omega), show 1 + 18 + j = 19 + j by omega, hr j (by omega), if_pos rfl]
    · rw [hw _ (by omega), show 1 + 18 + j = 19 + j by omega, hr j (by omega), if_neg e]
      exact (show 19 + j = 1 + 18 + j by omega) ▸ r7 i (by omega) j hj
  · exact r8.congr (fun j hj => hI _ (by omega)) (fun i hi j hj => hw _ (by omega))
  · exact r9.congr (fun j hj => hI _ (by omega)) (fun i hi j hj => hw _ (by omega))
  · simp only [hI (1 + 2) (by omega), hI (1 + 3) (by omega), hI (1 + 4) (by omega), hI (1 + 5) (by omega), hI (1 + 6) (by omega)]; exact v1
  · simp only [hI (1 + 8) (by omega), hI (1 + 9) (by omega), hI (1 + 10) (by omega), hI (1 + 11) (by omega), hI (1 + 12) (by omega), hI (1 + 13) (by omega), hI (1 + 14) (by omega), hI (1 + 15) (by omega), hI (1 + 16) (by omega)]; exact v2
  · intro i hi
    have q : ∀ j, j < 5 → I' (1 + 18 + j) i = if i = no then val j else I (1 + 18 + j) i := fun j hj => by rw [show 1 + 18 + j = 19 + j by omega]; exact hr j hj i
    have q0 := q 0 (by omega)
    have q1 := q 1 (by omega)
    have q2 := q 2 (by omega)
    have q3 := q 3 (by omega)
    have q4 := q 4 (by omega)
    simp only [Nat.reduceAdd] at q0 q1 q2 q3 q4 ⊢
    rw [q0, q1, q2, q3, q4]
    by_cases e : i = no
    · simp only [if_pos e]; exact hv
    · simp only [if_neg e]; exact v3 i (by omega)
  · simp only [hI (1 + 24) (by omega), hI (1 + 25) (by omega)]; exact v4
  · simp only [hI (33 + 1) (by omega), hI (33 + 2) (by omega), hI (33 + 3) (by omega), hI (33 + 4) (by omega)]; exact v5
  · simp only [hI (33 + 7) (by omega), hI (33 + 8) (by omega), hI (33 + 9) (by omega)]; exact v6
  · simp only [hI (1 + 4) (by omega), hI (33 + 1) (by omega), hI (33 + 2) (by omega), hI (33 + 3) (by omega), hI (33 + 4) (by omega)]; exact v7
  · simp only [hI (33 + 7) (by omega)]; exact v8
  · simp only [hI (33 + 6) (by omega), hI (33 + 5) (by omega)]; exact p1
  · simp only [hI (33 + 1) (by omega), hI (33 + 4) (by omega)]; exact p2
  · simp only [hI (33 + 1) (by omega)]; exact p3
  · simp only [hI (33 + 4) (by omega)]; exact p4
  · intro e he; refine (p5 e he).imp_of_mem (fun {x y} hx hy hxy => ?_); have x1 := (((p2 e he).2 x).mp hx).1; have y1 := (((p2 e he).2 y).mp hy).1; rw [hw _ (by omega), hw _ (by omega)]; exact hxy
  · intro e he x hx; have x1 := (((p2 e he).2 x).mp hx).1; rw [hw _ (by omega), hw 10 (by omega)]; exact p6 e he x hx
  · rw [hw 10 (by omega)]; exact p7
  · exact h5.w (fun j hj => hI _ (by omega)) (fun i hi => hw _ (by omega))
set_option maxHeartbeats 1000000 in
theorem Rel.list {I I' : mx_I} {w' : Nat → Int32} {nb now nl nc no ni nk : Nat} {hp : Nat → List Nat} (h1 : RScal I 1 33 43 (I 121) nb now nl nc no ni nk) (h2 : RTabs I 1 33 43 (I 121) nl nc no ni nk) (h3 : RInv I 1 33 nb now nl nc no ni) (h4 : RHeap I 33 (I 121) hp nb now nl) (h5 : RLaw I (1 + 27) (I 121))
    {val : Nat → Int32} (hn : ni < 20) (hv : bnd (val 0) 0 167 ∧ bnd (val 1) 0 nb) (hI : ∀ a, a < 24 ∨ (27 < a ∧ a ≠ 121) → I' a = I a) (hI2 : I' 24 3 = nI (ni + 1)) (hr : ∀ j, j < 3 → ∀ i, I' (25 + j) i = if i = ni then val j else I (25 + j) i) (hw : ∀ k, k ≠ 8 ∧ (k < 1540 + 3 * ni ∨ 1543 + 3 * ni ≤ k) → w' k = I 121 k) (hw2 : w' 8 = nI (ni + 1)) (hwi : ∀ j, j < 3 → w' (1540 + 3 * ni + j) = val j) : Rel I' 1 33 43 w' := by
  obtain ⟨⟨s1, s2, s3, s4, s5, s6, s7, s8⟩, ⟨c1, c2, c3, c4, c5, c6, c7⟩, ⟨d1, d2, d3, d4, d5, d6, d7⟩, ⟨e1, e2, e3⟩, f1, f2⟩ := h1
  obtain ⟨r1, r2, r3, r4, r5, r6, r7, r8, r9⟩ := h2
  obtain ⟨v1, v2, v3, v4, v5, v6, v7, v8⟩ := h3
  obtain ⟨p1, p2, p3, p4, p5, p6, p7⟩ := h4
  refine ⟨nb, now, nl, nc, no, (ni+1), nk, hp, ⟨⟨s1, s2, s3, s4, s5, s6, by omega, s8⟩, ⟨?_, ?_, ?_, ?_, ?_, ?_, ?_⟩, ⟨?_, ?_, ?_, ?_, ?_, ?_, ?_⟩, ⟨?_, ?_, ?_⟩, ?_, ?_⟩, ⟨?_, ?_, ?_, ?_, ?_, ?_, ?_, ?_, ?_⟩, ⟨?_, ?_, ?_, ?_, ?_, ?_, ?_, ?_⟩, ⟨?_, ?_, ?_, ?_, ?_, ?_, ?_⟩, ?_⟩
  · rw [hI _ (by omega)]; exact c1
  · rw [hI _ (by omega)]; exact c2
  · rw [hI _ (by omega)]; exact c3
  · rw [hI _ (by omega)]; exact c4
  · rw [hI _ (by omega)]; exact c5
  · exact hI2
  · rw [hI _ (by omega)]; exact c7
  · rw [hw _ (by omega)]; exact d1
  · rw [hw _ (by omega)]; exact d2
  · rw [hw _ (by omega)]; exact d3
  · rw [hw _ (by omega)]; exact d4
  · rw [hw _ (by omega)]; exact d5
  · exact hw2
  · rw [hw _ (by omega)]; exact d7
  · rw [hw _ (by omega), hI _ (by omega)]; exact e1
  · rw [hw _ (by omega), hI _ (by omega)]; exact e2
  · rw [hw _ (by omega), hI _ (by omega)]; exact e3
  · rw [hI _ (by omega)]; exact f1
  · rw [hI _ (by omega)]; exact f2
  · exact r1.congr (fun j hj => hI _ (by omega)) (fun i hi j hj => hw _ (by omega))
  · intro i hi; rw [hw _ (by omega), hI (1 + 5) (by omega), hI (1 + 6) (by omega)]; exact r2 i hi
  · exact r3.congr (fun j hj => hI _ (by omega)) (fun i hi j hj => hw _ (by omega))
  · exact r4.congr (fun j hj => hI _ (by omega)) (fun i hi j hj => hw _ (by omega))
  · exact r5.congr (fun j hj => hI _ (by omega)) (fun i hi j hj => hw _ (by omega))
  · exact r6.congr (fun j hj => hI _ (by omega)) (fun i hi j hj => hw _ (by omega))
  · exact r7.congr (fun j hj => hI _ (by omega)) (fun i hi j hj => hw _ (by omega))
  · intro i hi j hj
    by_cases e : i = ni
    · subst e
      rw [hwi j (by omega), show 1 + 24 + j = 25 + j by omega, hr j (by omega), if_pos rfl]
    · rw [hw _ (by omega), show 1 + 24 + j = 25 + j by omega, hr j (by omega), if_neg e]
      exact (show 25 + j = 1 + 24 + j by omega) ▸ r8 i (by omega) j hj
  · exact r9.congr (fun j hj => hI _ (by omega)) (fun i hi j hj => hw _ (by omega))
  · simp only [hI (1 + 2) (by omega), hI (1 + 3) (by omega), hI (1 + 4) (by omega), hI (1 + 5) (by omega), hI (1 + 6) (by omega)]; exact v1
  · simp only [hI (1 + 8) (by omega), hI (1 + 9) (by omega), hI (1 + 10) (by omega), hI (1 + 11) (by omega), hI (1 + 12) (by omega), hI (1 + 13) (by omega), hI (1 + 14) (by omega), hI (1 + 15) (by omega), hI (1 + 16) (by omega)]; exact v2
  · simp only [hI (1 + 18) (by omega), hI (1 + 19) (by omega), hI (1 + 20) (by omega), hI (1 + 21) (by omega), hI (1 + 22) (by omega)]; exact v3
  · intro i hi
    have q : ∀ j, j < 3 → I' (1 + 24 + j) i = if i = ni then val j else I (1 + 24 + j) i := fun j hj => by rw [show 1 + 24 + j = 25 + j by omega]; exact hr j hj i
    have q0 := q 0 (by omega)
    have q1 := q 1 (by omega)
    simp only [Nat.reduceAdd] at q0 q1 ⊢
    rw [q0, q1]
    by_cases e : i = ni
    · simp only [if_pos e]; exact hv
    · simp only [if_neg e]; exact v4 i (by omega)
  · simp only [hI (33 + 1) (by omega), hI (33 + 2) (by omega), hI (33 + 3) (by omega), hI (33 + 4) (by omega)]; exact v5
  · simp only [hI (33 + 7) (by omega), hI (33 + 8) (by omega), hI (33 + 9) (by omega)]; exact v6
  · simp only [hI (1 + 4) (by omega), hI (33 + 1) (by omega), hI (33 + 2) (by omega), hI (33 + 3) (by omega), hI (33 + 4) (by omega)]; exact v7
  · simp only [hI (33 + 7) (by omega)]; exact v8
  · simp only [hI (33 + 6) (by omega), hI (33 + 5) (by omega)]; exact p1
  · simp only [hI (33 + 1) (by omega), hI (33 + 4) (by omega)]; exact p2
  · simp only [hI (33 + 1) (by omega)]; exact p3
  · simp only [hI (33 + 4) (by omega)]; exact p4
  · intro e he; refine (p5 e he).imp_of_mem (fun {x y} hx hy hxy => ?_); have x1 := (((p2 e he).2 x).mp hx).1; have y1 := (((p2 e he).2 y).mp hy).1; rw [hw _ (by omega), hw _ (by omega)]; exact hxy
  · intro e he x hx; have x1 := (((p2 e he).2 x).mp hx).1; rw [hw _ (by omega), hw 10 (by omega)]; exact p6 e he x hx
  · rw [hw 10 (by omega)]; exact p7
  · exact h5.w (fun j hj => hI _ (by omega)) (fun i hi => hw _ (by omega))
set_option maxHeartbeats 1000000 in
theorem Rel.crosser {I I' : mx_I} {w' : Nat → Int32} {nb now nl nc no ni nk : Nat} {hp : Nat → List Nat} (h1 : RScal I 1 33 43 (I 121) nb now nl nc no ni nk) (h2 : RTabs I 1 33 43 (I 121) nl nc no ni nk) (h3 : RInv I 1 33 nb now nl nc no ni) (h4 : RHeap I 33 (I 121) hp nb now nl) (h5 : RLaw I (1 + 27) (I 121))
    {val : Nat → Int32} (hn : nc < 20) (hv : bnd (val 0) 0 167 ∧ bnd (val 1) 0 (nb - 1) ∧ bnd (val 2) 0 1 ∧ bnd (val 3) 0 99 ∧ bnd (val 4) 0 (val 3).toInt ∧ bnd (val 5) 0 9) (h6 : val 6 = 0) (h7 : val 7 = 0) (h8 : val 8 = 0) (hI : ∀ a, a < 8 ∨ (17 < a ∧ a ≠ 121) → I' a = I a) (hI2 : I' 8 9 = nI (nc + 1)) (hr : ∀ j, j < 9 → ∀ i, I' (9 + j) i = if i = nc then val j else I (9 + j) i) (hw : ∀ k, k ≠ 3 ∧ (k < 320 + 14 * nc ∨ 334 + 14 * nc ≤ k) → w' k = I 121 k) (hw2 : w' 3 = nI (nc + 1)) (hwi : ∀ j, j < 14 → w' (320 + 14 * nc + j) = if j < 8 then val j else if j = 8 then -1 else 0) : Rel I' 1 33 43 w' := by
  obtain ⟨⟨s1, s2, s3, s4, s5, s6, s7, s8⟩, ⟨c1, c2, c3, c4, c5, c6, c7⟩, ⟨d1, d2, d3, d4, d5, d6, d7⟩, ⟨e1, e2, e3⟩, f1, f2⟩ := h1
  obtain ⟨r1, r2, r3, r4, r5, r6, r7, r8, r9⟩ := h2
  obtain ⟨v1, v2, v3, v4, v5, v6, v7, v8⟩ := h3
  obtain ⟨p1, p2, p3, p4, p5, p6, p7⟩ := h4
  refine ⟨nb, now, nl, (nc+1), no, ni, nk, hp, ⟨⟨s1, s2, s3, s4, by omega, s6, s7, s8⟩, ⟨?_, ?_, ?_, ?_, ?_, ?_, ?_⟩, ⟨?_, ?_, ?_, ?_, ?_, ?_, ?_⟩, ⟨?_, ?_, ?_⟩, ?_, ?_⟩, ⟨?_, ?_, ?_, ?_, ?_, ?_, ?_, ?_, ?_⟩, ⟨?_, ?_, ?_, ?_, ?_, ?_, ?_, ?_⟩, ⟨?_, ?_, ?_, ?_, ?_, ?_, ?_⟩, ?_⟩
  · rw [hI _ (by omega)]; exact c1
  · rw [hI _ (by omega)]; exact c2
  · rw [hI _ (by omega)]; exact c3
  · exact hI2
  · rw [hI _ (by omega)]; exact c5
  · rw [hI _ (by omega)]; exact c6
  · rw [hI _ (by omega)]; exact c7
  · rw [hw _ (by omega)]; exact d1
  · rw [hw _ (by omega)]; exact d2
  · rw [hw _ (by omega)]; exact d3
  · exact hw2
  · rw [hw _ (by omega)]; exact d5
  · rw [hw _ (by omega)]; exact d6
  · rw [hw _ (by omega)]; exact d7
  · rw [hw _ (by omega), hI _ (by omega)]; exact e1
  · rw [hw _ (by omega), hI _ (by omega)]; exact e2
  · rw [hw _ (by omega), hI _ (by omega)]; exact e3
  · rw [hI _ (by omega)]; exact f1
  · rw [hI _ (by omega)]; exact f2
  · exact r1.congr (fun j hj => hI _ (by omega)) (fun i hi j hj => hw _ (by omega))
  · intro i hi; rw [hw _ (by omega), hI (1 + 5) (by omega), hI (1 + 6) (by omega)]; exact r2 i hi
  · exact r3.congr (fun j hj => hI _ (by omega)) (fun i hi j hj => hw _ (by omega))
  · intro i hi j hj
    by_cases e : i = nc
    · subst e
      rw [hwi j (by omega), if_pos hj, show 1 + 8 + j = 9 + j by omega, hr j (by omega), if_pos rfl]
    · rw [hw _ (by omega), show 1 + 8 + j = 9 + j by omega, hr j (by omega), if_neg e]
      exact (show 9 + j = 1 + 8 + j by omega) ▸ r4 i (by omega) j hj
  · intro i hi j hj
    rw [hI _ (by omega)]
    by_cases e : i = nc
    · subst e
      rw [show 328 + 14 * i + j = 320 + 14 * i + (8 + j) by omega, hwi (8 + j) (by omega), if_neg (by omega)]
      have z := v6 i (Nat.le_refl _) hn
      rcases (show j = 0 ∨ j = 1 ∨ j = 2 by omega) with rfl | rfl | rfl
      · rw [z.1]; rfl
      · rw [z.2.1]; rfl
      · rw [z.2.2]; rfl
    · rw [hw _ (by omega)]
      exact r5 i (by omega) j hj
  · intro i hi j hj
    have j0 : j = 0 := by omega
    subst j0
    by_cases e : i = nc
    · subst e
      rw [show 331 + 14 * i + 0 = 320 + 14 * i + 11 by omega, hwi 11 (by omega), if_neg (by omega), if_neg (by omega), show 1 + 16 + 0 = 9 + 8 by omega, hr 8 (by omega), if_pos rfl, h8]
    · rw [hw _ (by omega), show 1 + 16 + 0 = 9 + 8 by omega, hr 8 (by omega), if_neg e]
      exact r6 i (by omega) 0 hj
  · exact r7.congr (fun j hj => hI _ (by omega)) (fun i hi j hj => hw _ (by omega))
  · exact r8.congr (fun j hj => hI _ (by omega)) (fun i hi j hj => hw _ (by omega))
  · exact r9.congr (fun j hj => hI _ (by omega)) (fun i hi j hj => hw _ (by omega))
  · simp only [hI (1 + 2) (by omega), hI (1 + 3) (by omega), hI (1 + 4) (by omega), hI (1 + 5) (by omega), hI (1 + 6) (by omega)]; exact v1
  · intro i hi
    have q : ∀ j, j < 9 → I' (1 + 8 + j) i = if i = nc then val j else I (1 + 8 + j) i := fun j hj => by rw [show 1 + 8 + j = 9 + j by omega]; exact hr j hj i
    have q0 := q 0 (by omega)
    have q1 := q 1 (by omega)
    have q2 := q 2 (by omega)
    have q3 := q 3 (by omega)
    have q4 := q 4 (by omega)
    have q5 := q 5 (by omega)
    have q6 := q 6 (by omega)
    have q7 := q 7 (by omega)
    have q8 := q 8 (by omega)
    simp only [Nat.reduceAdd] at q0 q1 q2 q3 q4 q5 q6 q7 q8 ⊢
    rw [q0, q1, q2, q3, q4, q5, q6, q7, q8]
    by_cases e : i = nc
    · simp only [if_pos e]
      rw [h6, h7, h8]
      exact ⟨hv.1, hv.2.1, hv.2.2.1, hv.2.2.2.1, hv.2.2.2.2.1, hv.2.2.2.2.2, ⟨by decide, by decide⟩, ⟨by decide, by decide⟩, ⟨by decide, by decide⟩, fun z => absurd z (by decide)⟩
    · simp only [if_neg e]
      have z := v2 i (by omega)
      exact ⟨z.1, z.2.1, z.2.2.1, z.2.2.2.1, z.2.2.2.2.1, z.2.2.2.2.2.1, z.2.2.2.2.2.2.1, z.2.2.2.2.2.2.2.1, z.2.2.2.2.2.2.2.2.1, fun y => by have q9 : (I 16 i).toInt < nc := z.2.2.2.2.2.2.2.2.2 y; show (I 16 i).toInt < ((nc + 1 : Nat) : Int); omega⟩
  · simp only [hI (1 + 18) (by omega), hI (1 + 19) (by omega), hI (1 + 20) (by omega), hI (1 + 21) (by omega), hI (1 + 22) (by omega)]; exact v3
  · simp only [hI (1 + 24) (by omega), hI (1 + 25) (by omega)]; exact v4
  · simp only [hI (33 + 1) (by omega), hI (33 + 2) (by omega), hI (33 + 3) (by omega), hI (33 + 4) (by omega)]; exact v5
  · simp only [hI (33 + 7) (by omega), hI (33 + 8) (by omega), hI (33 + 9) (by omega)]; exact fun i h1 h2 => v6 i (by omega) h2
  · simp only [hI (1 + 4) (by omega), hI (33 + 1) (by omega), hI (33 + 2) (by omega), hI (33 + 3) (by omega), hI (33 + 4) (by omega)]; exact v7
  · simp only [hI (33 + 7) (by omega)]
    intro i hi
    by_cases e : i = nc
    · subst e; exact Or.inl (v6 i (Nat.le_refl _) hn).1
    · exact v8 i (by omega)
  · simp only [hI (33 + 6) (by omega), hI (33 + 5) (by omega)]; exact p1
  · simp only [hI (33 + 1) (by omega), hI (33 + 4) (by omega)]; exact p2
  · simp only [hI (33 + 1) (by omega)]; exact p3
  · simp only [hI (33 + 4) (by omega)]; exact p4
  · intro e he; refine (p5 e he).imp_of_mem (fun {x y} hx hy hxy => ?_); have x1 := (((p2 e he).2 x).mp hx).1; have y1 := (((p2 e he).2 y).mp hy).1; rw [hw _ (by omega), hw _ (by omega)]; exact hxy
  · intro e he x hx; have x1 := (((p2 e he).2 x).mp hx).1; rw [hw _ (by omega), hw 10 (by omega)]; exact p6 e he x hx
  · rw [hw 10 (by omega)]; exact p7
  · exact h5.w (fun j hj => hI _ (by omega)) (fun i hi => hw _ (by omega))
theorem pr_cases {l : Launch} {Mx Mm : mx_M} {As : List Value} (h : ∀ c I, Sim c I → ∃ (v : Int32) (J : mx_I), mx_Spec l Mx 100 0 0 (.ref 0 :: As) (sk0 c, I) (fun r h' => r = some (.int v) ∧ h' = (sk0 c, J)) ∧ mx_Spec l Mm 100 0 0 (.ref 120 :: As) (sk0 c, J) (fun r h' => r = some (.int v) ∧ ∃ K : mx_I, h' = (sk0 c, K) ∧ Sim c K)) : mx_PrI l Sim Mx Mm As := by
  intro c I hs
  obtain ⟨v, J, hx, hm⟩ := h c I hs
  refine ⟨_, hx, ?_⟩
  rintro _ _ ⟨rfl, rfl⟩
  refine ⟨_, _, _, rfl, rfl, _, hm, ?_⟩
  rintro _ _ ⟨rfl, K, rfl, hk⟩
  exact ⟨rfl, c, K, rfl, hk⟩
def isW (nb : Int) (a b e : Int32) : Bool := inR a 0 (nb - 1) && inR b 0 1 && inR e 0 99
theorem sp_isWalk {l : Launch} {d c : Nat} {I : mx_I} (a b e : Int32) {n : Nat} (hn : I 1 5 = nI n) (h3 : n ≤ 3) : mx_Spec l mX11_isWalk (d + 1) 0 0 [.ref 0, .int a, .int b, .int e] (sk0 c, I) (fun r h' => r = some (.int (b2i (isW n a b e))) ∧ h' = (sk0 c, I)) := by
  have en := nI_toInt (n := n) (by omega)
  have fa : a < 0 → inR a 0 ((n : Int) - 1) = false := fun h => inR_f.mpr (by have : a.toInt < 0 := (i_lt _ _).mp h; omega)
  have fb : I 1 5 ≤ a → inR a 0 ((n : Int) - 1) = false := fun h => inR_f.mpr (by rw [hn, i_le, en] at h; omega)
  have fc : ¬ a < 0 → ¬ I 1 5 ≤ a → inR a 0 ((n : Int) - 1) = true := fun h g => inR_t.mpr (by
    have h' : ¬ a.toInt < 0 := fun z => h ((i_lt _ _).mpr z)
    have g' : ¬ (n : Int) ≤ a.toInt := fun z => g (by rw [hn, i_le, en]; exact z)
    omega)
  have fe : e < 0 → inR e 0 99 = false := fun h => inR_f.mpr (by have : e.toInt < 0 := (i_lt _ _).mp h; omega)
  have fg : 99 < e → inR e 0 99 = false := fun h => inR_f.mpr (by have : 99 < e.toInt := (i_lt _ _).mp h; omega)
  have ft : ¬ e < 0 → ¬ 99 < e → inR e 0 99 = true := fun h g => inR_t.mpr (by
    have h' : ¬ e.toInt < 0 := fun z => h ((i_lt _ _).mpr z)
    have g' : ¬ 99 < e.toInt := fun z => g ((i_lt _ _).mpr z)
    omega)
  refine sn_X11_isWalk a b e (fun h => ⟨by simp [isW, fa h, b2i], rfl⟩) (fun _ h => ⟨by simp [isW, fb h, b2i], rfl⟩) (fun h1 h2 q h => ⟨by simp [isW, fe h, b2i], rfl⟩) (fun h1 h2 q h g => ⟨by simp [isW, fg g, b2i], rfl⟩) (fun h1 h2 q h g => ⟨by simp [isW, fc h1 h2, ft h g, q, inR01_0, b2i], rfl⟩) (fun h1 h2 q q1 => ⟨by simp [isW, inR01_n q q1, b2i], rfl⟩) (fun h1 h2 q q1 h => ⟨by simp [isW, fe h, b2i], rfl⟩) (fun h1 h2 q q1 h g => ⟨by simp [isW, fg g, b2i], rfl⟩) (fun h1 h2 q q1 h g => ⟨by simp [isW, fc h1 h2, ft h g, q1, inR01_1, b2i], rfl⟩)
theorem sp_isCrossing {l : Launch} {d c : Nat} {I : mx_I} (a b e : Int32) {n : Nat} (hn : I 121 0 = nI n) (h3 : n ≤ 3) : mx_Spec l mX12_isCrossing (d + 2) 0 0 [.ref 120, .int a, .int b, .int e] (sk0 c, I) (fun r h' => r = some (.int (b2i (isW n a b e))) ∧ h' = (sk0 c, I)) := by
  refine sn_X12_isCrossing a b e ⟨_, sp_isIn _ _ _, ?_⟩
  rintro _ _ ⟨rfl, rfl⟩
  rw [hn, nI_sub1 (by omega), show ((0 : Int32).toInt) = 0 from rfl]
  cases h1 : inR a 0 ((n : Int) - 1) with
  | false => exact sg_X12_isCrossing_13 _ _ _ _ (fun _ => ⟨by simp [isW, h1, b2i], rfl⟩) (fun z => absurd rfl z)
  | true =>
    refine sg_X12_isCrossing_13 _ _ _ _ (fun z => absurd z (by decide)) (fun _ => ⟨_, sp_isIn _ _ _, ?_⟩)
    rintro _ _ ⟨rfl, rfl⟩
    rw [show ((0 : Int32).toInt) = 0 from rfl, show ((1 : Int32).toInt) = 1 from by decide]
    cases h2 : inR b 0 1 with
    | false => exact sg_X12_isCrossing_22 _ _ _ _ (fun _ => ⟨by simp [isW, h2, b2i], rfl⟩) (fun z => absurd rfl z)
    | true =>
      refine sg_X12_isCrossing_22 _ _ _ _ (fun z => absurd z (by decide)) (fun _ => ⟨_, sp_isIn _ _ _, ?_⟩)
      rintro _ _ ⟨rfl, rfl⟩
      rw [show ((0 : Int32).toInt) = 0 from rfl, show ((99 : Int32).toInt) = 99 from by decide]
      cases h3 : inR e 0 99 with
      | false => exact sg_X12_isCrossing_32 _ _ _ _ (fun _ => ⟨by simp [isW, h3, b2i], rfl⟩) (fun z => absurd rfl z)
      | true => exact sg_X12_isCrossing_32 _ _ _ _ (fun z => absurd z (by decide)) (fun _ => ⟨by simp [isW, h1, h2, h3, b2i], rfl⟩)
theorem isW_t {nb : Int} {a b e : Int32} (h : isW nb a b e = true) : bnd a 0 (nb - 1) ∧ bnd b 0 1 ∧ bnd e 0 99 := by
  simp only [isW, Bool.and_eq_true] at h
  exact ⟨inRb h.1.1, inRb h.1.2, inRb h.2⟩
