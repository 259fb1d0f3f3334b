/-! the class's cells hold the hour's numbers -/
def pm_way (P : Pm) (k i : Nat) : Prop := ∃ f t : Nat, f ≤ P.nb ∧ t ≤ P.nb ∧ f ≠ t ∧ P.R k i + P.R (k + 1) i = nI f ∧ P.R k i + 1 - P.R (k + 1) i = nI t
def POk (P : Pm) : Prop := (1 ≤ P.nb ∧ P.nb ≤ 3 ∧ P.nl ≤ 30 ∧ P.nc ≤ 20 ∧ P.no ≤ 8) ∧ lw_ok P.ps ∧ (P.R 1 5 = nI P.nb ∧ P.R 2 5 = nI P.nl ∧ P.R 8 9 = nI P.nc ∧ P.R 18 5 = nI P.no ∧ P.R 28 4 = nI P.ps.length ∧ P.R 65 7 = b2i P.wr) ∧ LawC P.ps (P.R 29) (P.R 30) (P.R 31) ∧
  (∀ l, l < P.nl → ∃ e : Nat, e ≤ P.nb ∧ P.R 4 l = nI e) ∧ (∀ l, l < P.nl → P.R 6 l = -1 ∨ ∃ e : Nat, e ≤ P.nb ∧ P.R 6 l = nI e) ∧ (∀ i, i < P.nc → pm_way P 10 i) ∧ (∀ o, o < P.no → pm_way P 20 o)
theorem pm_way.get {P : Pm} {k i : Nat} (hP : POk P) (h : pm_way P k i) : P.R k i + P.R (k + 1) i = nI (pm_fr P k i) ∧ P.R k i + 1 - P.R (k + 1) i = nI (pm_to P k i) ∧ pm_fr P k i ≤ P.nb ∧ pm_to P k i ≤ P.nb ∧ pm_fr P k i ≠ pm_to P k i := by
  obtain ⟨f, t, h1, h2, h3, h4, h5⟩ := h
  have := hP.1
  have e1 : pm_fr P k i = f := by unfold pm_fr; rw [h4, nI_clamp (by omega)]
  have e2 : pm_to P k i = t := by unfold pm_to; rw [h5, nI_clamp (by omega)]
  rw [e1, e2]
  exact ⟨h4, h5, h1, h2, h3⟩
def CHp (c : Nat) (hp : Nat → List Nat) (I : mx_I) : Prop := ∀ e, e < 4 → I (c + 6) e = nI (hp e).length ∧ (hp e).length ≤ 30 ∧ ∀ i, i < (hp e).length → I (c + 5) (30 * e + i) = nI ((hp e).getD i 0) ∧ (hp e).getD i 0 < 30
def CRep (c : Nat) (P : Pm) (A : HS) (I : mx_I) : Prop :=
  (∀ k, 1 ≤ k → k ≤ 31 → k ≠ 5 → I k = P.R k) ∧ (∀ f, 7 ≤ f → f ≤ 12 → I 65 f = P.R 65 f) ∧
  (∀ l, l < 30 → ∀ j, 1 ≤ j → j ≤ 4 → I (c + j) l = A.r j l) ∧ CHp c A.hp I ∧ (∀ i, i < 20 → ∀ j, 7 ≤ j → j ≤ 9 → I (c + j) i = A.r j i) ∧
  (I c 9 = nI A.now ∧ I c 10 = A.r 0 10) ∧ (∀ f, 13 ≤ f → f ≤ 15 → I 65 f = A.r 65 f) ∧ (A.nk ≤ 300 ∧ I 43 3 = nI A.nk ∧ ∀ i, i < A.nk → ∀ j, j < 3 → I (44 + j) i = A.r (44 + j) i)
def CFr (c : Nat) (w : Bool) (I I' : mx_I) : Prop := ∀ k, (k < c ∨ c + 9 < k) → k ≠ 65 → (w = true → k < 43 ∨ 46 < k) → k ≠ 72 → k ≠ 73 → k ≠ 32 → I' k = I k
def CR (c : Nat) (P : Pm) (A : HS) (I0 I : mx_I) : Prop := (c = 33 ∨ c = 55) ∧ CRep c P A I ∧ CFr c P.wr I0 I
theorem at9_c {c : Nat} (h : c = 33 ∨ c = 55) : at9 (sk0 c) c := by
  rcases h with rfl | rfl
  · exact at9_33 _
  · exact at9_55 _
theorem upd_sync {f g : Nat → Int32} {i i' : Nat} {x : Int32} (h : f i' = g i') : upd f i x i' = upd g i x i' := by
  by_cases e : i' = i
  · subst e; rw [upd_eq, upd_eq]
  · rw [upd_ne e, upd_ne e, h]
theorem ms_sync {I A : mx_I} {c j j' i i' : Nat} {x : Int32} (h : I (c + j') i' = A j' i') : mx_set I (c + j) i x (c + j') i' = mx_set A j i x j' i' := by
  by_cases e : j' = j
  · subst e; rw [ms_self, ms_self]; exact upd_sync h
  · rw [ms_ne (by omega), ms_ne e, h]
theorem ms_sync0 {I A : mx_I} {k i i' : Nat} {x : Int32} {k' : Nat} (h : I k' i' = A k' i') : mx_set I k i x k' i' = mx_set A k i x k' i' := by
  by_cases e : k' = k
  · subst e; rw [ms_self, ms_self]; exact upd_sync h
  · rw [ms_ne e, ms_ne e, h]
theorem ms_at {I : mx_I} {k i k' i' : Nat} {x : Int32} (h : k' ≠ k ∨ i' ≠ i) : mx_set I k i x k' i' = I k' i' := by
  by_cases e : k' = k
  · subst e; rw [ms_self, upd_ne (h.resolve_left (fun z => z rfl))]
  · rw [ms_ne e]
theorem HS.at_ne {A : HS} {k i k' i' : Nat} {x : Int32} (h : k' ≠ k) : (A.set k i x).r k' i' = A.r k' i' := ms_at (Or.inl h)
section CU
variable {c : Nat} {P : Pm} {A : HS} {I0 I : mx_I}
theorem CHp.congr {hp : Nat → List Nat} {I I' : mx_I} (h : CHp c hp I) (h5 : I' (c + 5) = I (c + 5)) (h6 : I' (c + 6) = I (c + 6)) : CHp c hp I' := by
  intro e he
  rw [h5, h6]
  exact h e he
theorem CR.scr {I' : mx_I} (h : CR c P A I0 I) (h1 : ∀ k, k ≠ 72 → k ≠ 73 → k ≠ 32 → k ≠ 65 → I' k = I k) (h2 : ∀ f, f ≠ 5 → I' 65 f = I 65 f) : CR c P A I0 I' := by
  obtain ⟨hc, ⟨g1, g2, g3, g4, g5, g6, g7, g8⟩, hf⟩ := h
  refine ⟨hc, ⟨fun k k1 k2 k3 => ?_, fun f f1 f2 => ?_, fun l hl j j1 j2 => ?_, ?_, fun i hi j j1 j2 => ?_, ?_, fun f f1 f2 => ?_, ⟨g8.1, ?_, fun i hi j hj => ?_⟩⟩, fun k k1 k2 k3 k4 k5 k6 => ?_⟩
  · rw [h1 k (by omega) (by omega) (by omega) (by omega)]; exact g1 k k1 k2 k3
  · rw [h2 f (by omega)]; exact g2 f f1 f2
  · rw [h1 _ (by omega) (by omega) (by omega) (by omega)]; exact g3 l hl j j1 j2
  · exact g4.congr (h1 _ (by omega) (by omega) (by omega) (by omega)) (h1 _ (by omega) (by omega) (by omega) (by omega))
  · rw [h1 _ (by omega) (by omega) (by omega) (by omega)]; exact g5 i hi j j1 j2
  · rw [h1 _ (by omega) (by omega) (by omega) (by omega)]; exact g6
  · rw [h2 f (by omega)]; exact g7 f f1 f2
  · rw [h1 _ (by omega) (by omega) (by omega) (by omega)]; exact g8.2.1
  · rw [h1 _ (by omega) (by omega) (by omega) (by omega)]; exact g8.2.2 i hi j hj
  · rw [h1 k k4 k5 k6 k2]; exact hf k k1 k2 k3 k4 k5 k6
theorem CR.setL (h : CR c P A I0 I) {j l : Nat} {x : Int32} (hj : 1 ≤ j ∧ j ≤ 4) : CR c P (A.set j l x) I0 (mx_set I (c + j) l x) := by
  obtain ⟨hc, ⟨g1, g2, g3, g4, g5, g6, g7, g8⟩, hf⟩ := h
  refine ⟨hc, ⟨fun k k1 k2 k3 => ?_, fun f f1 f2 => ?_, fun l' hl j' j1 j2 => ms_sync (g3 l' hl j' j1 j2), ?_, fun i hi j j1 j2 => ms_sync (g5 i hi j j1 j2), ?_, fun f f1 f2 => ?_, ⟨g8.1, ?_, fun i hi j hj => ?_⟩⟩, fun k k1 k2 k3 k4 k5 k6 => ?_⟩
  · rw [ms_ne (by omega)]; exact g1 k k1 k2 k3
  · rw [ms_ne (by omega)]; exact g2 f f1 f2
  · exact g4.congr (ms_ne (by omega)) (ms_ne (by omega))
  · rw [ms_ne (by omega)]
    exact ⟨g6.1, by rw [g6.2]; exact (HS.at_ne (by omega)).symm⟩
  · rw [ms_ne (by omega)]
    exact (g7 f f1 f2).trans (HS.at_ne (by omega)).symm
  · rw [ms_ne (by omega)]; exact g8.2.1
  · rw [ms_ne (by omega)]
    exact (g8.2.2 i hi j hj).trans (HS.at_ne (by omega)).symm
  · rw [ms_ne (by omega)]; exact hf k k1 k2 k3 k4 k5 k6
theorem CR.setC (h : CR c P A I0 I) {j l : Nat} {x : Int32} (hj : 7 ≤ j ∧ j ≤ 9) : CR c P (A.set j l x) I0 (mx_set I (c + j) l x) := by
  obtain ⟨hc, ⟨g1, g2, g3, g4, g5, g6, g7, g8⟩, hf⟩ := h
  refine ⟨hc, ⟨fun k k1 k2 k3 => ?_, fun f f1 f2 => ?_, fun l' hl j' j1 j2 => ms_sync (g3 l' hl j' j1 j2), ?_, fun i hi j j1 j2 => ms_sync (g5 i hi j j1 j2), ?_, fun f f1 f2 => ?_, ⟨g8.1, ?_, fun i hi j hj => ?_⟩⟩, fun k k1 k2 k3 k4 k5 k6 => ?_⟩
  · rw [ms_ne (by omega)]; exact g1 k k1 k2 k3
  · rw [ms_ne (by omega)]; exact g2 f f1 f2
  · exact g4.congr (ms_ne (by omega)) (ms_ne (by omega))
  · rw [ms_ne (by omega)]
    exact ⟨g6.1, by rw [g6.2]; exact (HS.at_ne (by omega)).symm⟩
  · rw [ms_ne (by omega)]
    exact (g7 f f1 f2).trans (HS.at_ne (by omega)).symm
  · rw [ms_ne (by omega)]; exact g8.2.1
  · rw [ms_ne (by omega)]
    exact (g8.2.2 i hi j hj).trans (HS.at_ne (by omega)).symm
  · rw [ms_ne (by omega)]; exact hf k k1 k2 k3 k4 k5 k6
theorem CR.setS (h : CR c P A I0 I) {x : Int32} : CR c P (A.set 0 10 x) I0 (mx_set I c 10 x) := by
  obtain ⟨hc, ⟨g1, g2, g3, g4, g5, g6, g7, g8⟩, hf⟩ := h
  refine ⟨hc, ⟨fun k k1 k2 k3 => ?_, fun f f1 f2 => ?_, fun l' hl j j1 j2 => ?_, ?_, fun i hi j j1 j2 => ?_, ⟨?_, ?_⟩, fun f f1 f2 => ?_, ⟨g8.1, ?_, fun i hi j hj => ?_⟩⟩, fun k k1 k2 k3 k4 k5 k6 => ?_⟩
  · rw [ms_ne (by omega)]; exact g1 k k1 k2 k3
  · rw [ms_ne (by omega)]; exact g2 f f1 f2
  · rw [ms_ne (by omega)]; exact (g3 l' hl j j1 j2).trans (HS.at_ne (by omega)).symm
  · exact g4.congr (ms_ne (by omega)) (ms_ne (by omega))
  · rw [ms_ne (by omega)]; exact (g5 i hi j j1 j2).trans (HS.at_ne (by omega)).symm
  · rw [ms_at (Or.inr (by omega))]; exact g6.1
  · show mx_set I c 10 x c 10 = mx_set A.1 0 10 x 0 10
    rw [ms_self, ms_self, upd_eq, upd_eq]
  · rw [ms_ne (by omega)]; exact (g7 f f1 f2).trans (HS.at_ne (by omega)).symm
  · rw [ms_ne (by omega)]; exact g8.2.1
  · rw [ms_ne (by omega)]; exact (g8.2.2 i hi j hj).trans (HS.at_ne (by omega)).symm
  · rw [ms_ne (by omega)]; exact hf k k1 k2 k3 k4 k5 k6
theorem CR.setX (h : CR c P A I0 I) {f : Nat} {x : Int32} (hff : 13 ≤ f ∧ f ≤ 15) : CR c P (A.set 65 f x) I0 (mx_set I 65 f x) := by
  obtain ⟨hc, ⟨g1, g2, g3, g4, g5, g6, g7, g8⟩, hf⟩ := h
  refine ⟨hc, ⟨fun k k1 k2 k3 => ?_, fun f' f1 f2 => ?_, fun l' hl j j1 j2 => ?_, ?_, fun i hi j j1 j2 => ?_, ?_, fun f f1 f2 => ms_sync0 (g7 f f1 f2), ⟨g8.1, ?_, fun i hi j hj => ?_⟩⟩, fun k k1 k2 k3 k4 k5 k6 => ?_⟩
  · rw [ms_ne (by omega)]; exact g1 k k1 k2 k3
  · rw [ms_at (Or.inr (by omega))]; exact g2 f' f1 f2
  · rw [ms_ne (by omega)]; exact (g3 l' hl j j1 j2).trans (HS.at_ne (by omega)).symm
  · exact g4.congr (ms_ne (by omega)) (ms_ne (by omega))
  · rw [ms_ne (by omega)]; exact (g5 i hi j j1 j2).trans (HS.at_ne (by omega)).symm
  · rw [ms_ne (by omega)]; exact ⟨g6.1, g6.2.trans (HS.at_ne (by omega)).symm⟩
  · rw [ms_ne (by omega)]; exact g8.2.1
  · rw [ms_ne (by omega)]; exact (g8.2.2 i hi j hj).trans (HS.at_ne (by omega)).symm
  · rw [ms_ne (by omega)]; exact hf k k1 k2 k3 k4 k5 k6
/-- what the class has no cells for -/
theorem CR.row5 (h : CR c P A I0 I) {l : Nat} {x : Int32} : CR c P (A.set 5 l x) I0 I := by
  obtain ⟨hc, ⟨g1, g2, g3, g4, g5, g6, g7, g8⟩, hf⟩ := h
  refine ⟨hc, ⟨g1, g2, fun l' hl j j1 j2 => ?_, g4, fun i hi j j1 j2 => ?_, ⟨g6.1, ?_⟩, fun f f1 f2 => ?_, ⟨g8.1, g8.2.1, fun i hi j hj => ?_⟩⟩, hf⟩
  · exact (g3 l' hl j j1 j2).trans (HS.at_ne (by omega)).symm
  · exact (g5 i hi j j1 j2).trans (HS.at_ne (by omega)).symm
  · exact g6.2.trans (HS.at_ne (by omega)).symm
  · exact (g7 f f1 f2).trans (HS.at_ne (by omega)).symm
  · exact (g8.2.2 i hi j hj).trans (HS.at_ne (by omega)).symm
theorem CR.stamp (h : CR c P A I0 I) (n : Nat) : CR c P (A.1, A.2.1, n, A.2.2.2) I0 I := h
theorem CR.push (h : CR c P A I0 I) {e l : Nat} (he : e < 4) (hl : l < 30) (hn : (A.hp e).length < 30) : CR c P (A.setH e (A.hp e ++ [l])) I0 (mx_set (mx_set I (c + 5) (30 * e + (A.hp e).length) (nI l)) (c + 6) e (nI ((A.hp e).length + 1))) := by
  obtain ⟨hc, ⟨g1, g2, g3, g4, g5, g6, g7, g8⟩, hf⟩ := h
  have n : ∀ k, k ≠ c + 5 → k ≠ c + 6 → (mx_set (mx_set I (c + 5) (30 * e + (A.hp e).length) (nI l)) (c + 6) e (nI ((A.hp e).length + 1))) k = I k := fun k k1 k2 => by rw [ms_ne k2, ms_ne k1]
  have r5 : (mx_set (mx_set I (c + 5) (30 * e + (A.hp e).length) (nI l)) (c + 6) e (nI ((A.hp e).length + 1))) (c + 5) = upd (I (c + 5)) (30 * e + (A.hp e).length) (nI l) := by rw [ms_ne (by omega), ms_self]
  have r6 : (mx_set (mx_set I (c + 5) (30 * e + (A.hp e).length) (nI l)) (c + 6) e (nI ((A.hp e).length + 1))) (c + 6) = upd (I (c + 6)) e (nI ((A.hp e).length + 1)) := by rw [ms_self, ms_ne (by omega)]
  generalize mx_set (mx_set I (c + 5) (30 * e + (A.hp e).length) (nI l)) (c + 6) e (nI ((A.hp e).length + 1)) = J at n r5 r6
  refine ⟨hc, ⟨fun k k1 k2 k3 => ?_, fun f f1 f2 => ?_, fun l' hl j j1 j2 => ?_, fun e' he' => ?_, fun i hi j j1 j2 => ?_, ?_, fun f f1 f2 => ?_, ⟨g8.1, ?_, fun i hi j hj => ?_⟩⟩, fun k k1 k2 k3 k4 k5 k6 => ?_⟩
  · rw [n k (by omega) (by omega)]; exact g1 k k1 k2 k3
  · rw [n _ (by omega) (by omega)]; exact g2 f f1 f2
  · rw [n _ (by omega) (by omega)]; exact g3 l' hl j j1 j2
  · rw [r5, r6]
    show upd (I (c + 6)) e (nI ((A.hp e).length + 1)) e' = nI (if e' = e then A.hp e ++ [l] else A.hp e').length ∧ (if e' = e then A.hp e ++ [l] else A.hp e').length ≤ 30 ∧ ∀ i, i < (if e' = e then A.hp e ++ [l] else A.hp e').length → upd (I (c + 5)) (30 * e + (A.hp e).length) (nI l) (30 * e' + i) = nI ((if e' = e then A.hp e ++ [l] else A.hp e').getD i 0) ∧ (if e' = e then A.hp e ++ [l] else A.hp e').getD i 0 < 30
    obtain ⟨w1, w2, w3⟩ := g4 e' he'
    by_cases q : e' = e
    · subst q
      rw [if_pos rfl, upd_eq]
      refine ⟨by simp, by simp; omega, fun i hi => ?_⟩
      rw [List.length_append] at hi
      by_cases q2 : i = (A.hp e').length
      · subst q2
        rw [upd_eq, List.getD_eq_getElem?_getD, List.getElem?_append_right (by omega)]
        simp [hl]
      · have hi' : i < (A.hp e').length := by simp at hi; omega
        rw [upd_ne (by omega), List.getD_eq_getElem?_getD, List.getElem?_append_left hi', ← List.getD_eq_getElem?_getD]
        exact w3 i hi'
    · rw [if_neg q, upd_ne q]
      refine ⟨w1, w2, fun i hi => ?_⟩
      rw [upd_ne (by omega)]
      exact w3 i hi
  · rw [n _ (by omega) (by omega)]; exact g5 i hi j j1 j2
  · rw [n _ (by omega) (by omega)]; exact g6
  · rw [n _ (by omega) (by omega)]; exact g7 f f1 f2
  · rw [n _ (by omega) (by omega)]; exact g8.2.1
  · rw [n _ (by omega) (by omega)]; exact g8.2.2 i hi j hj
  · rw [n _ (by omega) (by omega)]; exact hf k k1 k2 k3 k4 k5 k6
end CU
