/-! set, fetch, kind: the relation behind them -/
set_option maxHeartbeats 1000000 in
theorem Rel.toll {I I' : mx_I} {w' : Nat → Int32} {nb now nl nc no ni nk : Nat} {hp : Nat → List Nat} (h1 : RScal I 1 33 43 (I 121) nb now nl nc no ni nk) (h2 : RTabs I 1 33 43 (I 121) nl nc no ni nk) (h3 : RInv I 1 33 nb now nl nc no ni) (h4 : RHeap I 33 (I 121) hp nb now nl) (h5 : RLaw I (1 + 27) (I 121))
    {x : Int32} (hx : bnd x (-1) 999) (hI : ∀ a, a ≠ 1 ∧ a ≠ 121 → I' a = I a) (h1' : ∀ j, j ≠ 6 → I' 1 j = I 1 j) (h16 : I' 1 6 = x) (hw : ∀ k, k ≠ 4 → w' k = I 121 k) (hw4 : w' 4 = x) : Rel I' 1 33 43 w' := by
  obtain ⟨⟨s1, s2, s3, s4, s5, s6, s7, s8⟩, ⟨c1, c2, c3, c4, c5, c6, c7⟩, ⟨d1, d2, d3, d4, d5, d6, d7⟩, ⟨e1, e2, e3⟩, f1, f2⟩ := h1
  obtain ⟨r1, r2, r3, r4, r5, r6, r7, r8, r9⟩ := h2
  obtain ⟨v1, v2, v3, v4, v5, v6, v7, v8⟩ := h3
  obtain ⟨p1, p2, p3, p4, p5, p6, p7⟩ := h4
  refine ⟨nb, now, nl, nc, no, ni, nk, hp, ⟨⟨s1, s2, s3, s4, s5, s6, s7, s8⟩, ⟨?_, ?_, ?_, ?_, ?_, ?_, ?_⟩, ⟨?_, ?_, ?_, ?_, ?_, ?_, ?_⟩, ⟨?_, ?_, ?_⟩, ?_, ?_⟩, ⟨?_, ?_, ?_, ?_, ?_, ?_, ?_, ?_, ?_⟩, ⟨?_, ?_, ?_, ?_, ?_, ?_, ?_, ?_⟩, ⟨?_, ?_, ?_, ?_, ?_, ?_, ?_⟩, ?_⟩
  · rw [h1' 5 (by decide)]; exact c1
  · rw [hI _ (by omega)]; exact c2
  · rw [hI _ (by omega)]; exact c3
  · rw [hI _ (by omega)]; exact c4
  · rw [hI _ (by omega)]; exact c5
  · rw [hI _ (by omega)]; exact c6
  · rw [hI _ (by omega)]; exact c7
  · rw [hw _ (by omega)]; exact d1
  · rw [hw _ (by omega)]; exact d2
  · rw [hw _ (by omega)]; exact d3
  · rw [hw _ (by omega)]; exact d4
  · rw [hw _ (by omega)]; exact d5
  · rw [hw _ (by omega)]; exact d6
  · rw [hw _ (by omega)]; exact d7
  · rw [hw4, h16]
  · rw [hw _ (by omega), h1' 7 (by decide)]; exact e2
  · rw [hw _ (by omega), hI _ (by omega)]; exact e3
  · rw [h16]; exact hx
  · rw [h1' 7 (by decide)]; exact f2
  · exact r1.congr (fun j hj => hI _ (by omega)) (fun i hi j hj => hw _ (by omega))
  · intro i hi; rw [hw _ (by omega), hI (1 + 5) (by omega), hI (1 + 6) (by omega)]; exact r2 i hi
  · exact r3.congr (fun j hj => hI _ (by omega)) (fun i hi j hj => hw _ (by omega))
  · exact r4.congr (fun j hj => hI _ (by omega)) (fun i hi j hj => hw _ (by omega))
  · exact r5.congr (fun j hj => hI _ (by omega)) (fun i hi j hj => hw _ (by omega))
  · exact r6.congr (fun j hj => hI _ (by omega)) (fun i hi j hj => hw _ (by omega))
  · exact r7.congr (fun j hj => hI _ (by omega)) (fun i hi j hj => hw _ (by omega))
  · exact r8.congr (fun j hj => hI _ (by omega)) (fun i hi j hj => hw _ (by omega))
  · exact r9.congr (fun j hj => hI _ (by omega)) (fun i hi j hj => hw _ (by omega))
  · simp only [hI (1 + 2) (by omega), hI (1 + 3) (by omega), hI (1 + 4) (by omega), hI (1 + 5) (by omega), hI (1 + 6) (by omega)]; exact v1
  · simp only [hI (1 + 8) (by omega), hI (1 + 9) (by omega), hI (1 + 10) (by omega), hI (1 + 11) (by omega), hI (1 + 12) (by omega), hI (1 + 13) (by omega), hI (1 + 14) (by omega), hI (1 + 15) (by omega), hI (1 + 16) (by omega)]; exact v2
  · simp only [hI (1 + 18) (by omega), hI (1 + 19) (by omega), hI (1 + 20) (by omega), hI (1 + 21) (by omega), hI (1 + 22) (by omega)]; exact v3
  · simp only [hI (1 + 24) (by omega), hI (1 + 25) (by omega)]; exact v4
  · simp only [hI (33 + 1) (by omega), hI (33 + 2) (by omega), hI (33 + 3) (by omega), hI (33 + 4) (by omega)]; exact v5
  · simp only [hI (33 + 7) (by omega), hI (33 + 8) (by omega), hI (33 + 9) (by omega)]; exact v6
  · simp only [hI (1 + 4) (by omega), hI (33 + 1) (by omega), hI (33 + 2) (by omega), hI (33 + 3) (by omega), hI (33 + 4) (by omega)]; exact v7
  · simp only [hI (33 + 7) (by omega)]; exact v8
  · simp only [hI (33 + 6) (by omega), hI (33 + 5) (by omega)]; exact p1
  · simp only [hI (33 + 1) (by omega), hI (33 + 4) (by omega)]; exact p2
  · simp only [hI (33 + 1) (by omega)]; exact p3
  · simp only [hI (33 + 4) (by omega)]; exact p4
  · intro e he; refine (p5 e he).imp_of_mem (fun {x y} hx hy hxy => ?_); have x1 := (((p2 e he).2 x).mp hx).1; have y1 := (((p2 e he).2 y).mp hy).1; rw [hw _ (by omega), hw _ (by omega)]; exact hxy
  · intro e he x hx; have x1 := (((p2 e he).2 x).mp hx).1; rw [hw _ (by omega), hw 10 (by omega)]; exact p6 e he x hx
  · rw [hw 10 (by omega)]; exact p7
  · exact h5.w (fun j hj => hI _ (by omega)) (fun i hi => hw _ (by omega))
set_option maxHeartbeats 1000000 in
theorem Rel.strict {I I' : mx_I} {w' : Nat → Int32} {nb now nl nc no ni nk : Nat} {hp : Nat → List Nat} (h1 : RScal I 1 33 43 (I 121) nb now nl nc no ni nk) (h2 : RTabs I 1 33 43 (I 121) nl nc no ni nk) (h3 : RInv I 1 33 nb now nl nc no ni) (h4 : RHeap I 33 (I 121) hp nb now nl) (h5 : RLaw I (1 + 27) (I 121))
    {x : Int32} (hx : bnd x 0 1) (hI : ∀ a, a ≠ 1 ∧ a ≠ 121 → I' a = I a) (h1' : ∀ j, j ≠ 7 → I' 1 j = I 1 j) (h16 : I' 1 7 = x) (hw : ∀ k, k ≠ 5 → w' k = I 121 k) (hw4 : w' 5 = x) : Rel I' 1 33 43 w' := by
  obtain ⟨⟨s1, s2, s3, s4, s5, s6, s7, s8⟩, ⟨c1, c2, c3, c4, c5, c6, c7⟩, ⟨d1, d2, d3, d4, d5, d6, d7⟩, ⟨e1, e2, e3⟩, f1, f2⟩ := h1
  obtain ⟨r1, r2, r3, r4, r5, r6, r7, r8, r9⟩ := h2
  obtain ⟨v1, v2, v3, v4, v5, v6, v7, v8⟩ := h3
  obtain ⟨p1, p2, p3, p4, p5, p6, p7⟩ := h4
  refine ⟨nb, now, nl, nc, no, ni, nk, hp, ⟨⟨s1, s2, s3, s4, s5, s6, s7, s8⟩, ⟨?_, ?_, ?_, ?_, ?_, ?_, ?_⟩, ⟨?_, ?_, ?_, ?_, ?_, ?_, ?_⟩, ⟨?_, ?_, ?_⟩, ?_, ?_⟩, ⟨?_, ?_, ?_, ?_, ?_, ?_, ?_, ?_, ?_⟩, ⟨?_, ?_, ?_, ?_, ?_, ?_, ?_, ?_⟩, ⟨?_, ?_, ?_, ?_, ?_, ?_, ?_⟩, ?_⟩
  · rw [h1' 5 (by decide)]; exact c1
  · rw [hI _ (by omega)]; exact c2
  · rw [hI _ (by omega)]; exact c3
  · rw [hI _ (by omega)]; exact c4
  · rw [hI _ (by omega)]; exact c5
  · rw [hI _ (by omega)]; exact c6
  · rw [hI _ (by omega)]; exact c7
  · rw [hw _ (by omega)]; exact d1
  · rw [hw _ (by omega)]; exact d2
  · rw [hw _ (by omega)]; exact d3
  · rw [hw _ (by omega)]; exact d4
  · rw [hw _ (by omega)]; exact d5
  · rw [hw _ (by omega)]; exact d6
  · rw [hw _ (by omega)]; exact d7
  · rw [hw _ (by omega), h1' 6 (by decide)]; exact e1
  · rw [hw4, h16]
  · rw [hw _ (by omega), hI _ (by omega)]; exact e3
  · rw [h1' 6 (by decide)]; exact f1
  · rw [h16]; exact hx
  · exact r1.congr (fun j hj => hI _ (by omega)) (fun i hi j hj => hw _ (by omega))
  · intro i hi; rw [hw _ (by omega), hI (1 + 5) (by omega), hI (1 + 6) (by omega)]; exact r2 i hi
  · exact r3.congr (fun j hj => hI _ (by omega)) (fun i hi j hj => hw _ (by omega))
  · exact r4.congr (fun j hj => hI _ (by omega)) (fun i hi j hj => hw _ (by omega))
  · exact r5.congr (fun j hj => hI _ (by omega)) (fun i hi j hj => hw _ (by omega))
  · exact r6.congr (fun j hj => hI _ (by omega)) (fun i hi j hj => hw _ (by omega))
  · exact r7.congr (fun j hj => hI _ (by omega)) (fun i hi j hj => hw _ (by omega))
  · exact r8.congr (fun j hj => hI _ (by omega)) (fun i hi j hj => hw _ (by omega))
  · exact r9.congr (fun j hj => hI _ (by omega)) (fun i hi j hj => hw _ (by omega))
  · simp only [hI (1 + 2) (by omega), hI (1 + 3) (by omega), hI (1 + 4) (by omega), hI (1 + 5) (by omega), hI (1 + 6) (by omega)]; exact v1
  · simp only [hI (1 + 8) (by omega), hI (1 + 9) (by omega), hI (1 + 10) (by omega), hI (1 + 11) (by omega), hI (1 + 12) (by omega), hI (1 + 13) (by omega), hI (1 + 14) (by omega), hI (1 + 15) (by omega), hI (1 + 16) (by omega)]; exact v2
  · simp only [hI (1 + 18) (by omega), hI (1 + 19) (by omega), hI (1 + 20) (by omega), hI (1 + 21) (by omega), hI (1 + 22) (by omega)]; exact v3
  · simp only [hI (1 + 24) (by omega), hI (1 + 25) (by omega)]; exact v4
  · simp only [hI (33 + 1) (by omega), hI (33 + 2) (by omega), hI (33 + 3) (by omega), hI (33 + 4) (by omega)]; exact v5
  · simp only [hI (33 + 7) (by omega), hI (33 + 8) (by omega), hI (33 + 9) (by omega)]; exact v6
  · simp only [hI (1 + 4) (by omega), hI (33 + 1) (by omega), hI (33 + 2) (by omega), hI (33 + 3) (by omega), hI (33 + 4) (by omega)]; exact v7
  · simp only [hI (33 + 7) (by omega)]; exact v8
  · simp only [hI (33 + 6) (by omega), hI (33 + 5) (by omega)]; exact p1
  · simp only [hI (33 + 1) (by omega), hI (33 + 4) (by omega)]; exact p2
  · simp only [hI (33 + 1) (by omega)]; exact p3
  · simp only [hI (33 + 4) (by omega)]; exact p4
  · intro e he; refine (p5 e he).imp_of_mem (fun {x y} hx hy hxy => ?_); have x1 := (((p2 e he).2 x).mp hx).1; have y1 := (((p2 e he).2 y).mp hy).1; rw [hw _ (by omega), hw _ (by omega)]; exact hxy
  · intro e he x hx; have x1 := (((p2 e he).2 x).mp hx).1; rw [hw _ (by omega), hw 10 (by omega)]; exact p6 e he x hx
  · rw [hw 10 (by omega)]; exact p7
  · exact h5.w (fun j hj => hI _ (by omega)) (fun i hi => hw _ (by omega))
set_option maxHeartbeats 1000000 in
theorem Rel.maybe {I I' : mx_I} {w' : Nat → Int32} {nb now nl nc no ni nk : Nat} {hp : Nat → List Nat} (h1 : RScal I 1 33 43 (I 121) nb now nl nc no ni nk) (h2 : RTabs I 1 33 43 (I 121) nl nc no ni nk) (h3 : RInv I 1 33 nb now nl nc no ni) (h4 : RHeap I 33 (I 121) hp nb now nl) (h5 : RLaw I (1 + 27) (I 121))
    {x : Int32} {k : Nat} (hk : k < nc) (hx : bnd x 0 1) (hI : ∀ a, a ≠ 17 ∧ a ≠ 121 → I' a = I a) (hr : ∀ i, i ≠ k → I' 17 i = I 17 i) (hrk : I' 17 k = x) (hw : ∀ j, j ≠ 331 + 14 * k → w' j = I 121 j) (hwk : w' (331 + 14 * k) = x) : Rel I' 1 33 43 w' := by
  obtain ⟨⟨s1, s2, s3, s4, s5, s6, s7, s8⟩, ⟨c1, c2, c3, c4, c5, c6, c7⟩, ⟨d1, d2, d3, d4, d5, d6, d7⟩, ⟨e1, e2, e3⟩, f1, f2⟩ := h1
  obtain ⟨r1, r2, r3, r4, r5, r6, r7, r8, r9⟩ := h2
  obtain ⟨v1, v2, v3, v4, v5, v6, v7, v8⟩ := h3
  obtain ⟨p1, p2, p3, p4, p5, p6, p7⟩ := h4
  refine ⟨nb, now, nl, nc, no, ni, nk, hp, ⟨⟨s1, s2, s3, s4, s5, s6, s7, s8⟩, ⟨?_, ?_, ?_, ?_, ?_, ?_, ?_⟩, ⟨?_, ?_, ?_, ?_, ?_, ?_, ?_⟩, ⟨?_, ?_, ?_⟩, ?_, ?_⟩, ⟨?_, ?_, ?_, ?_, ?_, ?_, ?_, ?_, ?_⟩, ⟨?_, ?_, ?_, ?_, ?_, ?_, ?_, ?_⟩, ⟨?_, ?_, ?_, ?_, ?_, ?_, ?_⟩, ?_⟩
  · rw [hI _ (by omega)]; exact c1
  · rw [hI _ (by omega)]; exact c2
  · rw [hI _ (by omega)]; exact c3
  · rw [hI _ (by omega)]; exact c4
  · rw [hI _ (by omega)]; exact c5
  · rw [hI _ (by omega)]; exact c6
  · rw [hI _ (by omega)]; exact c7
  · rw [hw _ (by omega)]; exact d1
  · rw [hw _ (by omega)]; exact d2
  · rw [hw _ (by omega)]; exact d3
  · rw [hw _ (by omega)]; exact d4
  · rw [hw _ (by omega)]; exact d5
  · rw [hw _ (by omega)]; exact d6
  · rw [hw _ (by omega)]; exact d7
  · rw [hw _ (by omega), hI _ (by omega)]; exact e1
  · rw [hw _ (by omega), hI _ (by omega)]; exact e2
  · rw [hw _ (by omega), hI _ (by omega)]; exact e3
  · rw [hI _ (by omega)]; exact f1
  · rw [hI _ (by omega)]; exact f2
  · exact r1.congr (fun j hj => hI _ (by omega)) (fun i hi j hj => hw _ (by omega))
  · intro i hi; rw [hw _ (by omega), hI (1 + 5) (by omega), hI (1 + 6) (by omega)]; exact r2 i hi
  · exact r3.congr (fun j hj => hI _ (by omega)) (fun i hi j hj => hw _ (by omega))
  · exact r4.congr (fun j hj => hI _ (by omega)) (fun i hi j hj => hw _ (by omega))
  · exact r5.congr (fun j hj => hI _ (by omega)) (fun i hi j hj => hw _ (by omega))
  · intro i hi j hj
    have j0 : j = 0 := by omega
    subst j0
    by_cases e : i = k
    · subst e
      rw [show 331 + 14 * i + 0 = 331 + 14 * i by omega, hwk]
      exact hrk.symm
    · rw [hw _ (by omega)]
      exact (r6 i hi 0 hj).trans (hr i e).symm
  · exact r7.congr (fun j hj => hI _ (by omega)) (fun i hi j hj => hw _ (by omega))
  · exact r8.congr (fun j hj => hI _ (by omega)) (fun i hi j hj => hw _ (by omega))
  · exact r9.congr (fun j hj => hI _ (by omega)) (fun i hi j hj => hw _ (by omega))
  · simp only [hI (1 + 2) (by omega), hI (1 + 3) (by omega), hI (1 + 4) (by omega), hI (1 + 5) (by omega), hI (1 + 6) (by omega)]; exact v1
  · simp only [hI (1 + 8) (by omega), hI (1 + 9) (by omega), hI (1 + 10) (by omega), hI (1 + 11) (by omega), hI (1 + 12) (by omega), hI (1 + 13) (by omega), hI (1 + 14) (by omega), hI (1 + 15) (by omega)]
    intro i hi
    have z := v2 i hi
    by_cases e : i = k
    · subst e
      exact ⟨z.1, z.2.1, z.2.2.1, z.2.2.2.1, z.2.2.2.2.1, z.2.2.2.2.2.1, z.2.2.2.2.2.2.1, z.2.2.2.2.2.2.2.1, by rw [show 1 + 16 = 17 from rfl, hrk]; exact hx, z.2.2.2.2.2.2.2.2.2⟩
    · exact ⟨z.1, z.2.1, z.2.2.1, z.2.2.2.1, z.2.2.2.2.1, z.2.2.2.2.2.1, z.2.2.2.2.2.2.1, z.2.2.2.2.2.2.2.1, by rw [show 1 + 16 = 17 from rfl, hr i e]; exact z.2.2.2.2.2.2.2.2.1, z.2.2.2.2.2.2.2.2.2⟩
  · simp only [hI (1 + 18) (by omega), hI (1 + 19) (by omega), hI (1 + 20) (by omega), hI (1 + 21) (by omega), hI (1 + 22) (by omega)]; exact v3
  · simp only [hI (1 + 24) (by omega), hI (1 + 25) (by omega)]; exact v4
  · simp only [hI (33 + 1) (by omega), hI (33 + 2) (by omega), hI (33 + 3) (by omega), hI (33 + 4) (by omega)]; exact v5
  · simp only [hI (33 + 7) (by omega), hI (33 + 8) (by omega), hI (33 + 9) (by omega)]; exact v6
  · simp only [hI (1 + 4) (by omega), hI (33 + 1) (by omega), hI (33 + 2) (by omega), hI (33 + 3) (by omega), hI (33 + 4) (by omega)]; exact v7
  · simp only [hI (33 + 7) (by omega)]; exact v8
  · simp only [hI (33 + 6) (by omega), hI (33 + 5) (by omega)]; exact p1
  · simp only [hI (33 + 1) (by omega), hI (33 + 4) (by omega)]; exact p2
  · simp only [hI (33 + 1) (by omega)]; exact p3
  · simp only [hI (33 + 4) (by omega)]; exact p4
  · intro e he; refine (p5 e he).imp_of_mem (fun {x y} hx hy hxy => ?_); have x1 := (((p2 e he).2 x).mp hx).1; have y1 := (((p2 e he).2 y).mp hy).1; rw [hw _ (by omega), hw _ (by omega)]; exact hxy
  · intro e he x hx; have x1 := (((p2 e he).2 x).mp hx).1; rw [hw _ (by omega), hw 10 (by omega)]; exact p6 e he x hx
  · rw [hw 10 (by omega)]; exact p7
  · exact h5.w (fun j hj => hI _ (by omega)) (fun i hi => hw _ (by omega))
set_option maxHeartbeats 1000000 in
theorem Rel.fetch {I I' : mx_I} {w' : Nat → Int32} {nb now nl nc no ni nk : Nat} {hp : Nat → List Nat} (h1 : RScal I 1 33 43 (I 121) nb now nl nc no ni nk) (h2 : RTabs I 1 33 43 (I 121) nl nc no ni nk) (h3 : RInv I 1 33 nb now nl nc no ni) (h4 : RHeap I 33 (I 121) hp nb now nl) (h5 : RLaw I (1 + 27) (I 121))
    {k : Nat} {x y : Int32} (hk : k < nl) (hx : bnd x (-1) nb) (hy : x = -1 ∨ bnd y 0 167) (hI : ∀ a, a ≠ 6 ∧ a ≠ 7 ∧ a ≠ 121 → I' a = I a) (h6 : ∀ i, i ≠ k → I' 6 i = I 6 i) (h6k : I' 6 k = x) (h7 : ∀ i, i ≠ k → I' 7 i = I 7 i) (h7k : I' 7 k = if x = -1 then I 7 k else y) (hw : ∀ j, j ≠ 23 + 10 * k → j ≠ 24 + 10 * k → w' j = I 121 j) (hwx : w' (23 + 10 * k) = x) (hwy : x = -1 ∨ w' (24 + 10 * k) = y) : Rel I' 1 33 43 w' := by
  obtain ⟨⟨s1, s2, s3, s4, s5, s6, s7, s8⟩, ⟨c1, c2, c3, c4, c5, c6, c7⟩, ⟨d1, d2, d3, d4, d5, d6, d7⟩, ⟨e1, e2, e3⟩, f1, f2⟩ := h1
  obtain ⟨r1, r2, r3, r4, r5, r6, r7, r8, r9⟩ := h2
  obtain ⟨v1, v2, v3, v4, v5, v6, v7, v8⟩ := h3
  obtain ⟨p1, p2, p3, p4, p5, p6, p7⟩ := h4
  refine ⟨nb, now, nl, nc, no, ni, nk, hp, ⟨⟨s1, s2, s3, s4, s5, s6, s7, s8⟩, ⟨?_, ?_, ?_, ?_, ?_, ?_, ?_⟩, ⟨?_, ?_, ?_, ?_, ?_, ?_, ?_⟩, ⟨?_, ?_, ?_⟩, ?_, ?_⟩, ⟨?_, ?_, ?_, ?_, ?_, ?_, ?_, ?_, ?_⟩, ⟨?_, ?_, ?_, ?_, ?_, ?_, ?_, ?_⟩, ⟨?_, ?_, ?_, ?_, ?_, ?_, ?_⟩, ?_⟩
  · rw [hI _ (by omega)]; exact c1
  · rw [hI _ (by omega)]; exact c2
  · rw [hI _ (by omega)]; exact c3
  · rw [hI _ (by omega)]; exact c4
  · rw [hI _ (by omega)]; exact c5
  · rw [hI _ (by omega)]; exact c6
  · rw [hI _ (by omega)]; exact c7
  · rw [hw _ (by omega) (by omega)]; exact d1
  · rw [hw _ (by omega) (by omega)]; exact d2
  · rw [hw _ (by omega) (by omega)]; exact d3
  · rw [hw _ (by omega) (by omega)]; exact d4
  · rw [hw _ (by omega) (by omega)]; exact d5
  · rw [hw _ (by omega) (by omega)]; exact d6
  · rw [hw _ (by omega) (by omega)]; exact d7
  · rw [hw _ (by omega) (by omega), hI _ (by omega)]; exact e1
  · rw [hw _ (by omega) (by omega), hI _ (by omega)]; exact e2
  · rw [hw _ (by omega) (by omega), hI _ (by omega)]; exact e3
  · rw [hI _ (by omega)]; exact f1
  · rw [hI _ (by omega)]; exact f2
  · intro i hi j hj
    by_cases e : i = k
    · subst e
      by_cases j3 : j = 3
      · subst j3
        rw [show 20 + 10 * i + 3 = 23 + 10 * i by omega, hwx]
        exact h6k.symm
      · rw [hw _ (by omega) (by omega), hI _ (by omega)]
        exact r1 i hi j hj
    · rw [hw _ (by omega) (by omega)]
      by_cases j3 : j = 3
      · subst j3
        exact (r1 i hi 3 hj).trans (h6 i e).symm
      · rw [hI _ (by omega)]
        exact r1 i hi j hj
  · intro i hi
    rw [show 1 + 5 = 6 from rfl, show 1 + 6 = 7 from rfl]
    by_cases e : i = k
    · subst e
      rw [h6k, h7k]
      rcases hwy with q | q
      · exact Or.inl q
      · by_cases q1 : x = -1
        · exact Or.inl q1
        · rw [if_neg q1]; exact Or.inr q
    · rw [h6 i e, h7 i e, hw _ (by omega) (by omega)]
      exact r2 i hi
  · exact r3.congr (fun j hj => hI _ (by omega)) (fun i hi j hj => hw _ (by omega) (by omega))
  · exact r4.congr (fun j hj => hI _ (by omega)) (fun i hi j hj => hw _ (by omega) (by omega))
  · exact r5.congr (fun j hj => hI _ (by omega)) (fun i hi j hj => hw _ (by omega) (by omega))
  · exact r6.congr (fun j hj => hI _ (by omega)) (fun i hi j hj => hw _ (by omega) (by omega))
  · exact r7.congr (fun j hj => hI _ (by omega)) (fun i hi j hj => hw _ (by omega) (by omega))
  · exact r8.congr (fun j hj => hI _ (by omega)) (fun i hi j hj => hw _ (by omega) (by omega))
  · exact r9.congr (fun j hj => hI _ (by omega)) (fun i hi j hj => hw _ (by omega) (by omega))
  · simp only [hI (1 + 2) (by omega), hI (1 + 3) (by omega), hI (1 + 4) (by omega)]
    intro i hi
    have z := v1 i hi
    refine ⟨z.1, z.2.1, z.2.2.1, ?_, ?_⟩
    · rw [show 1 + 5 = 6 from rfl]
      by_cases e : i = k
      · subst e; rw [h6k]; exact hx
      · rw [h6 i e]; exact z.2.2.2.1
    · rw [show 1 + 6 = 7 from rfl]
      by_cases e : i = k
      · subst e
        rw [h7k]
        by_cases q1 : x = -1
        · rw [if_pos q1]; exact z.2.2.2.2
        · rw [if_neg q1]; exact hy.resolve_left q1
      · rw [h7 i e]; exact z.2.2.2.2
  · simp only [hI (1 + 8) (by omega), hI (1 + 9) (by omega), hI (1 + 10) (by omega), hI (1 + 11) (by omega), hI (1 + 12) (by omega), hI (1 + 13) (by omega), hI (1 + 14) (by omega), hI (1 + 15) (by omega), hI (1 + 16) (by omega)]; exact v2
  · simp only [hI (1 + 18) (by omega), hI (1 + 19) (by omega), hI (1 + 20) (by omega), hI (1 + 21) (by omega), hI (1 + 22) (by omega)]; exact v3
  · simp only [hI (1 + 24) (by omega), hI (1 + 25) (by omega)]; exact v4
  · simp only [hI (33 + 1) (by omega), hI (33 + 2) (by omega), hI (33 + 3) (by omega), hI (33 + 4) (by omega)]; exact v5
  · simp only [hI (33 + 7) (by omega), hI (33 + 8) (by omega), hI (33 + 9) (by omega)]; exact v6
  · simp only [hI (1 + 4) (by omega), hI (33 + 1) (by omega), hI (33 + 2) (by omega), hI (33 + 3) (by omega), hI (33 + 4) (by omega)]; exact v7
  · simp only [hI (33 + 7) (by omega)]; exact v8
  · simp only [hI (33 + 6) (by omega), hI (33 + 5) (by omega)]; exact p1
  · simp only [hI (33 + 1) (by omega), hI (33 + 4) (by omega)]; exact p2
  · simp only [hI (33 + 1) (by omega)]; exact p3
  · simp only [hI (33 + 4) (by omega)]; exact p4
  · intro e he; refine (p5 e he).imp_of_mem (fun {x y} hx hy hxy => ?_); have x1 := (((p2 e he).2 x).mp hx).1; have y1 := (((p2 e he).2 y).mp hy).1; rw [hw _ (by omega) (by omega), hw _ (by omega) (by omega)]; exact hxy
  · intro e he x hx; have x1 := (((p2 e he).2 x).mp hx).1; rw [hw _ (by omega) (by omega), hw 10 (by omega) (by omega)]; exact p6 e he x hx
  · rw [hw 10 (by omega) (by omega)]; exact p7
  · exact h5.w (fun j hj => hI _ (by omega)) (fun i hi => hw _ (by omega) (by omega))
set_option maxHeartbeats 1000000 in
theorem Rel.kind {I I' : mx_I} {w' : Nat → Int32} {nb now nl nc no ni nk : Nat} {hp : Nat → List Nat} (h1 : RScal I 1 33 43 (I 121) nb now nl nc no ni nk) (h2 : RTabs I 1 33 43 (I 121) nl nc no ni nk) (h3 : RInv I 1 33 nb now nl nc no ni) (h4 : RHeap I 33 (I 121) hp nb now nl) (h5 : RLaw I (1 + 27) (I 121))
    {k : Nat} {x y : Int32} (hk : k < nc) (hx : bnd x 0 2) (hy : bnd y 0 24) (hxy : x.toInt = 2 → y.toInt < nc) (hI : ∀ a, a ≠ 15 ∧ a ≠ 16 ∧ a ≠ 121 → I' a = I a) (h6 : ∀ i, i ≠ k → I' 15 i = I 15 i) (h6k : I' 15 k = x) (h7 : ∀ i, i ≠ k → I' 16 i = I 16 i) (h7k : I' 16 k = y) (hw : ∀ j, j ≠ 326 + 14 * k ∧ j ≠ 327 + 14 * k → w' j = I 121 j) (hwx : w' (326 + 14 * k) = x) (hwy : w' (327 + 14 * k) = y) : Rel I' 1 33 43 w' := by
  obtain ⟨⟨s1, s2, s3, s4, s5, s6, s7, s8⟩, ⟨c1, c2, c3, c4, c5, c6, c7⟩, ⟨d1, d2, d3, d4, d5, d6, d7⟩, ⟨e1, e2, e3⟩, f1, f2⟩ := h1
  obtain ⟨r1, r2, r3, r4, r5, r6, r7, r8, r9⟩ := h2
  obtain ⟨v1, v2, v3, v4, v5, v6, v7, v8⟩ := h3
  obtain ⟨p1, p2, p3, p4, p5, p6, p7⟩ := h4
  refine ⟨nb, now, nl, nc, no, ni, nk, hp, ⟨⟨s1, s2, s3, s4, s5, s6, s7, s8⟩, ⟨?_, ?_, ?_, ?_, ?_, ?_, ?_⟩, ⟨?_, ?_, ?_, ?_, ?_, ?_, ?_⟩, ⟨?_, ?_, ?_⟩, ?_, ?_⟩, ⟨?_, ?_, ?_, ?_, ?_, ?_, ?_, ?_, ?_⟩, ⟨?_, ?_, ?_, ?_, ?_, ?_, ?_, ?_⟩, ⟨?_, ?_, ?_, ?_, ?_, ?_, ?_⟩, ?_⟩
  · rw [hI _ (by omega)]; exact c1
  · rw [hI _ (by omega)]; exact c2
  · rw [hI _ (by omega)]; exact c3
  · rw [hI _ (by omega)]; exact c4
  · rw [hI _ (by omega)]; exact c5
  · rw [hI _ (by omega)]; exact c6
  · rw [hI _ (by omega)]; exact c7
  · rw [hw _ (by omega)]; exact d1
  · rw [hw _ (by omega)]; exact d2
  · rw [hw _ (by omega)]; exact d3
  · rw [hw _ (by omega)]; exact d4
  · rw [hw _ (by omega)]; exact d5
  · rw [hw _ (by omega)]; exact d6
  · rw [hw _ (by omega)]; exact d7
  · rw [hw _ (by omega), hI _ (by omega)]; exact e1
  · rw [hw _ (by omega), hI _ (by omega)]; exact e2
  · rw [hw _ (by omega), hI _ (by omega)]; exact e3
  · rw [hI _ (by omega)]; exact f1
  · rw [hI _ (by omega)]; exact f2
  · exact r1.congr (fun j hj => hI _ (by omega)) (fun i hi j hj => hw _ (by omega))
  · intro i hi; rw [hw _ (by omega), hI (1 + 5) (by omega), hI (1 + 6) (by omega)]; exact r2 i hi
  · exact r3.congr (fun j hj => hI _ (by omega)) (fun i hi j hj => hw _ (by omega))
  · intro i hi j hj
    by_cases e : i = k
    · subst e
      by_cases j6 : j = 6
      · subst j6
        rw [show 320 + 14 * i + 6 = 326 + 14 * i by omega, hwx]
        exact h6k.symm
      · by_cases j7 : j = 7
        · subst j7
          rw [show 320 + 14 * i + 7 = 327 + 14 * i by omega, hwy]
          exact h7k.symm
        · rw [hw _ (by omega), hI _ (by omega)]
          exact r4 i hi j hj
    · rw [hw _ (by omega)]
      by_cases j6 : j = 6
      · subst j6
        exact (r4 i hi 6 hj).trans (h6 i e).symm
      · by_cases j7 : j = 7
        · subst j7
          exact (r4 i hi 7 hj).trans (h7 i e).symm
        · rw [hI _ (by omega)]
          exact r4 i hi j hj
  · exact r5.congr (fun j hj => hI _ (by omega)) (fun i hi j hj => hw _ (by omega))
  · exact r6.congr (fun j hj => hI _ (by omega)) (fun i hi j hj => hw _ (by omega))
  · exact r7.congr (fun j hj => hI _ (by omega)) (fun i hi j hj => hw _ (by omega))
  · exact r8.congr (fun j hj => hI _ (by omega)) (fun i hi j hj => hw _ (by omega))
  · exact r9.congr (fun j hj => hI _ (by omega)) (fun i hi j hj => hw _ (by omega))
  · simp only [hI (1 + 2) (by omega), hI (1 + 3) (by omega), hI (1 + 4) (by omega), hI (1 + 5) (by omega), hI (1 + 6) (by omega)]; exact v1
  · simp only [hI (1 + 8) (by omega), hI (1 + 9) (by omega), hI (1 + 10) (by omega), hI (1 + 11) (by omega), hI (1 + 12) (by omega), hI (1 + 13) (by omega), hI (1 + 16) (by omega)]
    intro i hi
    have z := v2 i hi
    rw [show 1 + 14 = 15 from rfl, show 1 + 15 = 16 from rfl]
    by_cases e : i = k
    · subst e
      rw [h6k, h7k]
      exact ⟨z.1, z.2.1, z.2.2.1, z.2.2.2.1, z.2.2.2.2.1, z.2.2.2.2.2.1, hx, hy, z.2.2.2.2.2.2.2.2.1, hxy⟩
    · rw [h6 i e, h7 i e]
      exact z
  · simp only [hI (1 + 18) (by omega), hI (1 + 19) (by omega), hI (1 + 20) (by omega), hI (1 + 21) (by omega), hI (1 + 22) (by omega)]; exact v3
  · simp only [hI (1 + 24) (by omega), hI (1 + 25) (by omega)]; exact v4
  · simp only [hI (33 + 1) (by omega), hI (33 + 2) (by omega), hI (33 + 3) (by omega), hI (33 + 4) (by omega)]; exact v5
  · simp only [hI (33 + 7) (by omega), hI (33 + 8) (by omega), hI (33 + 9) (by omega)]; exact v6
  · simp only [hI (1 + 4) (by omega), hI (33 + 1) (by omega), hI (33 + 2) (by omega), hI (33 + 3) (by omega), hI (33 + 4) (by omega)]; exact v7
  · simp only [hI (33 + 7) (by omega)]; exact v8
  · simp only [hI (33 + 6) (by omega), hI (33 + 5) (by omega)]; exact p1
  · simp only [hI (33 + 1) (by omega), hI (33 + 4) (by omega)]; exact p2
  · simp only [hI (33 + 1) (by omega)]; exact p3
  · simp only [hI (33 + 4) (by omega)]; exact p4
  · intro e he; refine (p5 e he).imp_of_mem (fun {x y} hx hy hxy => ?_); have x1 := (((p2 e he).2 x).mp hx).1; have y1 := (((p2 e he).2 y).mp hy).1; rw [hw _ (by omega), hw _ (by omega)]; exact hxy
  · intro e he x hx; have x1 := (((p2 e he).2 x).mp hx).1; rw [hw _ (by omega), hw 10 (by omega)]; exact p6 e he x hx
  · rw [hw 10 (by omega)]; exact p7
  · exact h5.w (fun j hj => hI _ (by omega)) (fun i hi => hw _ (by omega))
