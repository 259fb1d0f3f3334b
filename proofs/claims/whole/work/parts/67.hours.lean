/-! the world behind hours; hours -/
theorem Rel.congr2 {I I' : mx_I} {t s b : Nat} {w w' : Nat → Int32} (h : Rel I t s b w) (hI : ∀ a, (t ≤ a ∧ a ≤ t + 30) ∨ (s ≤ a ∧ a ≤ s + 9) ∨ (b ≤ a ∧ a ≤ b + 3) → I' a = I a) (hw : w' = w) : Rel I' t s b w' := by
  subst hw
  obtain ⟨nb, now, nl, nc, no, ni, nk, hp, h1, h2, h3, h4, h5⟩ := h
  have et : ∀ j, j ≤ 30 → I' (t + j) = I (t + j) := fun j hj => hI _ (Or.inl (by omega))
  have es : ∀ j, j ≤ 9 → I' (s + j) = I (s + j) := fun j hj => hI _ (Or.inr (Or.inl (by omega)))
  have eb : ∀ j, j ≤ 3 → I' (b + j) = I (b + j) := fun j hj => hI _ (Or.inr (Or.inr (by omega)))
  have et0 : I' t = I t := hI _ (Or.inl (by omega))
  have es0 : I' s = I s := hI _ (Or.inr (Or.inl (by omega)))
  have eb0 : I' b = I b := hI _ (Or.inr (Or.inr (by omega)))
  refine ⟨nb, now, nl, nc, no, ni, nk, hp, ?_, ?_, ?_, ?_, ?_⟩
  · unfold RScal at h1 ⊢
    rw [et0, es0, eb0, et 1 (by omega), et 7 (by omega), et 17 (by omega), et 23 (by omega)]
    exact h1
  · obtain ⟨r1, r2, r3, r4, r5, r6, r7, r8, r9⟩ := h2
    refine ⟨r1.rows (fun j hj => hI _ (Or.inl (by omega))), ?_, r3.rows (fun j hj => hI _ (Or.inr (Or.inl (by omega)))), r4.rows (fun j hj => hI _ (Or.inl (by omega))), r5.rows (fun j hj => hI _ (Or.inr (Or.inl (by omega)))), r6.rows (fun j hj => hI _ (Or.inl (by omega))), r7.rows (fun j hj => hI _ (Or.inl (by omega))), r8.rows (fun j hj => hI _ (Or.inl (by omega))), r9.rows (fun j hj => hI _ (Or.inr (Or.inr (by omega))))⟩
    rw [et 5 (by omega), et 6 (by omega)]
    exact r2
  · unfold RInv at h3 ⊢
    rw [et 2 (by omega), et 3 (by omega), et 4 (by omega), et 5 (by omega), et 6 (by omega), et 8 (by omega), et 9 (by omega), et 10 (by omega), et 11 (by omega), et 12 (by omega), et 13 (by omega), et 14 (by omega), et 15 (by omega), et 16 (by omega), et 18 (by omega), et 19 (by omega), et 20 (by omega), et 21 (by omega), et 22 (by omega), et 24 (by omega), et 25 (by omega), es 1 (by omega), es 2 (by omega), es 3 (by omega), es 4 (by omega), es 7 (by omega), es 8 (by omega), es 9 (by omega)]
    exact h3
  · unfold RHeap at h4 ⊢
    rw [es 6 (by omega), es 5 (by omega), es 1 (by omega), es 4 (by omega)]
    exact h4
  · exact h5.congr (et 27 (by omega)) (et 28 (by omega)) (et 29 (by omega)) (et 30 (by omega)) (fun _ _ => rfl)
/-- what a thought leaves of the model -/
def Same (K0 K : mx_I) : Prop := (∀ k, k ≠ 120 → k ≠ 123 → k ≠ 127 → k ≠ 128 → k ≠ 129 → k ≠ 130 → K k = K0 k) ∧ (∀ j, j < 21 → K 120 j = K0 120 j) ∧ (K 120 21 = 0 ∧ K 120 22 = -1 ∧ K 120 25 = 0 ∧ K 120 26 = 0)
theorem Same.trans {K0 K1 K2 : mx_I} (h1 : Same K0 K1) (h2 : Same K1 K2) : Same K0 K2 := ⟨fun k a b c d e f => (h2.1 k a b c d e f).trans (h1.1 k a b c d e f), fun j hj => (h2.2.1 j hj).trans (h1.2.1 j hj), h2.2.2⟩
theorem Sim.same {c c' : Nat} {I K0 K : mx_I} (h : Sim c I) (hc : c' = 33 ∨ c' = 55) (hI : ∀ k, k ≠ 32 → (k < 55 ∨ 73 < k) → K0 k = I k) (hs : Same K0 K) : Sim c' K := by
  obtain ⟨-, a1, a2, a3, a4, ⟨a5, a6⟩, -⟩ := h
  obtain ⟨s1, s2, s3⟩ := hs
  have r : ∀ k, k ≠ 32 → (k < 55 ∨ 73 < k) → k ≠ 120 → k ≠ 123 → k ≠ 127 → k ≠ 128 → k ≠ 129 → k ≠ 130 → K k = I k := fun k k1 k2 k3 k4 k5 k6 k7 k8 => (s1 k k3 k4 k5 k6 k7 k8).trans (hI k k1 k2)
  have r120 : ∀ j, j < 21 → K 120 j = I 120 j := fun j hj => (s2 j hj).trans (by rw [hI 120 (by omega) (by omega)])
  have w : ∀ a, a ≤ 122 → a ≠ 32 → (a < 55 ∨ 73 < a) → a ≠ 120 → K a = I a := fun a h1 h2 h3 h4 => r a h2 h3 h4 (by omega) (by omega) (by omega) (by omega) (by omega)
  refine ⟨hc, a1.congr2 (fun a ha => w a (by omega) (by omega) (by omega) (by omega)) (w 121 (by omega) (by omega) (by omega) (by omega)), by rw [r120 3 (by omega), w 0 (by omega) (by omega) (by omega) (by omega)]; exact a2, ?_, a4.congr (by rw [w 47 (by omega) (by omega) (by omega) (by omega)]) (r120 11 (by omega)) (w 48 (by omega) (by omega) (by omega) (by omega)) (r 126 (by omega) (by omega) (by omega) (by omega) (by omega) (by omega) (by omega) (by omega)), ⟨by rw [r120 18 (by omega), w 47 (by omega) (by omega) (by omega) (by omega)]; exact a5, by rw [r120 20 (by omega), w 47 (by omega) (by omega) (by omega) (by omega)]; exact a6⟩, s3⟩
  rw [w 0 (by omega) (by omega) (by omega) (by omega)]
  rcases a3 with z | ⟨z, z2⟩
  · exact Or.inl z
  · exact Or.inr ⟨z, z2.congr2 (fun a ha => w a (by omega) (by omega) (by omega) (by omega)) (w 122 (by omega) (by omega) (by omega) (by omega))⟩
theorem thought_end {P : Pm} {K0 K1 K2 K3 K4 : mx_I} (b1 : ∀ k, k ≠ 120 → k ≠ 123 → K1 k = K0 k) (b2 : ∀ j, j ≠ 21 → K1 120 j = K0 120 j) (b4 : ∀ i, i < 600 → K1 123 i = K0 121 i) (m1 : ∀ k, k ≠ 120 → k ≠ 121 → K2 k = K1 k) (m2 : ∀ j, j < 21 → K2 120 j = K1 120 j) (m3 : ∀ i, 600 ≤ i → K2 121 i = K1 121 i) (F : MFr P K2 K3) (hw : P.wr = false)
    (e1 : ∀ k, k ≠ 120 → k ≠ 121 → K4 k = K3 k) (e2 : ∀ j, j ≠ 21 → j ≠ 22 → j ≠ 25 → j ≠ 26 → K4 120 j = K3 120 j) (e3 : K4 120 21 = 0 ∧ K4 120 22 = -1 ∧ K4 120 25 = 0 ∧ K4 120 26 = 0) (e4 : ∀ i, i < 600 → K4 121 i = K3 123 i) (e5 : ∀ i, 600 ≤ i → K4 121 i = K3 121 i) : Same K0 K4 := by
  obtain ⟨f1, f2, f3, f4⟩ := F
  refine ⟨fun k k1 k2 k3 k4 k5 k6 => ?_, fun j hj => ?_, e3⟩
  · by_cases q : k = 121
    · subst q
      funext i
      by_cases hi : i < 600
      · rw [e4 i hi, f1 123 (by omega) (by omega) (by omega) (by omega) (by omega) (by omega), m1 123 (by omega) (by omega)]
        exact b4 i hi
      · rw [e5 i (by omega), f4 hw i (by omega), m3 i (by omega), b1 121 (by omega) (by omega)]
    · rw [e1 k k1 q, f1 k k1 q k3 k4 k5 k6, m1 k k1 q, b1 k k1 k2]
  · rw [e2 j (by omega) (by omega) (by omega) (by omega), f2 j (by omega) (by omega) (by omega) (by omega), m2 j hj, b2 j (by omega)]
theorem CRep.congr {c : Nat} {P : Pm} {A : HS} {I J : mx_I} (h : CRep c P A I) (hc : c = 33 ∨ c = 55) (hJ : ∀ k, k ≤ 73 → J k = I k) : CRep c P A J := by
  obtain ⟨g1, g2, g3, g4, g5, g6, g7, g8⟩ := h
  refine ⟨fun k k1 k2 k3 => by rw [hJ k (by omega)]; exact g1 k k1 k2 k3, fun f f1 f2 => by rw [hJ 65 (by omega)]; exact g2 f f1 f2, fun x hx j j1 j2 => by rw [hJ _ (by omega)]; exact g3 x hx j j1 j2, g4.congr (hJ _ (by omega)) (hJ _ (by omega)), fun i hi j j1 j2 => by rw [hJ _ (by omega)]; exact g5 i hi j j1 j2, by rw [hJ c (by omega)]; exact g6, fun f f1 f2 => by rw [hJ 65 (by omega)]; exact g7 f f1 f2, ⟨g8.1, by rw [hJ 43 (by omega)]; exact g8.2.1, fun i hi j hj => by rw [hJ _ (by omega)]; exact g8.2.2 i hi j hj⟩⟩
def pm_row (wr : Bool) (toll hired absent watched wend : Int32) : Nat → Int32 := fun f => if f = 7 then b2i wr else if f = 8 then toll else if f = 9 then hired else if f = 10 then absent else if f = 11 then watched else if f = 12 then wend else 0
section W
variable {I : mx_I} {nb now nl nc no ni nk : Nat} {hp : Nat → List Nat} {ps : lw_ps} {wr fl : Bool} {row : Nat → Int32}
theorem PlanOk.cplan {fm : Nat} {J J' : mx_I} (h : PlanOk I nl nc no ni fm J) (hl : nl ≤ 30 ∧ nc ≤ 20 ∧ no ≤ 8) (hJ : ∀ k, 67 ≤ k → k ≤ 70 → J' k = J k) : CPlan (pm_of I ps nb nl nc no wr fl row) fm J' := by
  obtain ⟨b1, b2, b3, b4, b5⟩ := h
  intro t ht
  rw [hJ 67 (by omega) (by omega), hJ 68 (by omega) (by omega), hJ 69 (by omega) (by omega), hJ 70 (by omega) (by omega)]
  refine ⟨fun i hi => ?_, fun i hi => ?_, fun i hi => ?_, fun i hi => ?_⟩
  · have hi' : i < nl := hi
    rw [b1 t ht i (by omega), World.pq (by omega)]
    exact ⟨fun z => z.2, fun z => ⟨hi', z⟩⟩
  · have hi' : i < nl := hi
    rw [b2 t ht i (by omega), World.pq (by omega), World.pq (by omega)]
    exact ⟨fun z => z.2, fun z => ⟨hi', z⟩⟩
  · have hi' : i < nc := hi
    rw [b3 t ht i (by omega)]
    unfold hs_wk wkI
    rw [World.pq (by omega), World.pq (by omega), World.pq (by omega)]
    exact ⟨fun z => z.2, fun z => ⟨hi', z⟩⟩
  · have hi' : i < no := hi
    rw [b4 t ht i (by omega), World.pq (by omega)]
    exact ⟨fun z => z.2, fun z => ⟨hi', z⟩⟩
theorem World.make {l : Launch} {c d fm : Nat} {J : mx_I} (W : World I nb now nl nc no ni nk hp ps) (hfm : fm ≤ 168) (hJ : ∀ k, k ≤ 31 → J k = I k) {Pq : Option Value → mx_H → Prop} (kk : ∀ I', (∀ a, a < 67 ∨ 71 < a → I' a = J a) → PlanOk I nl nc no ni fm I' → Pq none (sk0 c, I')) : mx_K1 l mX7_make (d + 2) [.ref 66, .ref 1, .int (nI fm)] (sk0 c, J) Pq := by
  obtain ⟨⟨⟨s1, s2, s3, s4, s5, s6, s7, s8⟩, ⟨c1, c2, c3, c4, c5, c6, c7⟩, -⟩, -, ⟨v1, v2, v3, v4, -⟩, -⟩ := W
  have key := sp_make (l := l) (c := c) (d := d) (I := J) (nl := nl) (nc := nc) (no := no) (ni := ni) hfm ⟨by rw [hJ 2 (by omega)]; exact c3, by rw [hJ 8 (by omega)]; exact c4, by rw [hJ 18 (by omega)]; exact c5, by rw [hJ 24 (by omega)]; exact c6⟩ ⟨s4, s5, s6, s7⟩ (fun i hi => by rw [hJ 5 (by omega), hJ 7 (by omega)]; exact ⟨(v1 i hi).2.2.1, (v1 i hi).2.2.2.2⟩) (fun i hi => by rw [hJ 9 (by omega), hJ 15 (by omega), hJ 16 (by omega)]; exact ⟨(v2 i hi).1, (v2 i hi).2.2.2.2.2.2.1, (v2 i hi).2.2.2.2.2.2.2.1⟩) (fun i hi => by rw [hJ 19 (by omega)]; exact (v3 i hi).1) (fun i hi => by rw [hJ 25 (by omega)]; exact (v4 i hi).1)
  have e : ∀ I' : mx_I, PlanOk J nl nc no ni fm I' → PlanOk I nl nc no ni fm I' := fun I' h => by
    unfold PlanOk wkI at h
    rw [hJ 5 (by omega), hJ 6 (by omega), hJ 7 (by omega), hJ 9 (by omega), hJ 15 (by omega), hJ 16 (by omega), hJ 19 (by omega), hJ 25 (by omega)] at h
    exact h
  refine ⟨_, key, ?_⟩
  rintro _ _ ⟨rfl, I', rfl, h1, h2⟩
  exact kk I' h1 (e I' h2)
set_option maxHeartbeats 1000000 in
theorem World.behind {fm : Nat} {K : mx_I} {A : HS} (W : World I nb now nl nc no ni nk hp ps) (hH : HInv (pm_of I ps nb nl nc no wr true row) fm A) (hC : CRep 33 (pm_of I ps nb nl nc no wr true row) A K) (hM : MTold (pm_of I ps nb nl nc no wr true row) (K 121)) (hS : MState (pm_of I ps nb nl nc no wr true row) A (K 121)) (hT : ∀ k, 1 ≤ k → k ≤ 31 → K k = I k) (h8 : K 121 8 = I 121 8) (hm : ∀ i, i < 20 → K 121 (331 + 14 * i) = I 121 (331 + 14 * i)) (hbig : ∀ k, 1500 ≤ k → K 121 k = I 121 k) (hr8 : row 8 = I 1 6) : Rel K 1 33 43 (K 121) := by
  obtain ⟨⟨⟨s1, s2, s3, s4, s5, s6, s7, s8⟩, ⟨c1, c2, c3, c4, c5, c6, c7⟩, ⟨d1, d2, d3, d4, d5, d6, d7⟩, ⟨e1, e2, e3⟩, f1, f2⟩, ⟨r1, r2, r3, r4, r5, r6, r7, r8, r9⟩, ⟨v1, v2, v3, v4, v5, v6, v7, v8⟩, -, lk, ⟨l4, l6, l5⟩, lc, lm⟩ := W
  obtain ⟨⟨a1, a2, a3, a4, a5, a6⟩, -, ⟨t1, t2⟩, b4, b5, b6, ⟨x1, x2⟩⟩ := hH
  obtain ⟨g1, g2, g3, g4, g5, g6, g7, g8⟩ := hC
  obtain ⟨⟨m1, m2, m3, m4, m5, m6, m7⟩, m8, m9, m10, m11, m12⟩ := hM
  obtain ⟨n1, n2, ⟨n3, n4, n5, n6⟩, n7, n8⟩ := hS
  have p : ∀ k i, k ≠ 65 → (pm_of I ps nb nl nc no wr true row).R k i = I k i := fun k i hk => World.pq hk
  refine ⟨nb, A.now, nl, nc, no, ni, A.nk, A.hp, ⟨⟨s1, s2, b6, s4, s5, s6, s7, n7⟩, ⟨by rw [hT 1 (by omega) (by omega)]; exact c1, g6.1, by rw [hT 2 (by omega) (by omega)]; exact c3, by rw [hT 8 (by omega) (by omega)]; exact c4, by rw [hT 18 (by omega) (by omega)]; exact c5, by rw [hT 24 (by omega) (by omega)]; exact c6, g8.2.1⟩, ⟨m1, n3, m2, m3, m4, by rw [h8]; exact d6, n6⟩, ⟨by rw [m5, World.rw5, hr8, hT 1 (by omega) (by omega)], by rw [m6, p 1 7 (by omega), hT 1 (by omega) (by omega)], by rw [n4 rfl, g6.2]⟩, by rw [hT 1 (by omega) (by omega)]; exact f1, by rw [hT 1 (by omega) (by omega)]; exact f2⟩, ⟨fun i hi j hj => ?_, fun i hi => ?_, fun i hi j hj => ?_, fun i hi j hj => ?_, fun i hi j hj => ?_, fun i hi j hj => ?_, fun i hi j hj => ?_, fun i hi j hj => ?_, fun i hi j hj => ?_⟩, ⟨?_, ?_, ?_, ?_, ?_, ?_, ?_, ?_⟩, ⟨?_, ?_, ?_, ?_, ?_, ?_, ?_⟩, ps, lk, by rw [hT 28 (by omega) (by omega)]; exact l4, by rw [hbig _ (by omega)]; exact l6, by rw [hT 28 (by omega) (by omega)]; exact l5, by rw [hT 29 (by omega) (by omega), hT 30 (by omega) (by omega), hT 31 (by omega) (by omega)]; exact lc, m8⟩
  · rw [m9 i hi j hj, p _ _ (by omega), hT _ (by omega) (by omega)]
  · have := m10 i hi
    rw [p _ _ (by omega), p _ _ (by omega)] at this
    rw [hT (1 + 5) (by omega) (by omega), hT (1 + 6) (by omega) (by omega)]
    exact this
  · have q1 := n1 i hi (j + 1) (by omega) (by omega)
    have hi' : i < nl := hi
    have q2 := g3 i (by omega) (j + 1) (by omega) (by omega)
    rw [show 25 + 10 * i + j = 24 + 10 * i + (j + 1) from by omega, q1, show 33 + 1 + j = 33 + (j + 1) from by omega, q2]
  · rw [m11 i hi j hj, p _ _ (by omega), hT _ (by omega) (by omega)]
  · have hi' : i < nc := hi
    have q1 := n2 i hi (j + 7) (by omega) (by omega) (Or.inr rfl)
    have q2 := g5 i (by omega) (j + 7) (by omega) (by omega)
    rw [show 328 + 14 * i + j = 321 + 14 * i + (j + 7) from by omega, q1, show 33 + 7 + j = 33 + (j + 7) from by omega, q2]
  · have hi' : i < nc := hi
    have j0 : j = 0 := by omega
    subst j0
    refine Eq.trans ?_ (congrFun (hT (1 + 16 + 0) (by omega) (by omega)) i).symm
    rw [Nat.add_zero, hm i (by omega)]
    exact r6 i hi 0 (by omega)
  · rw [hbig _ (by omega), hT _ (by omega) (by omega)]; exact r7 i hi j hj
  · rw [hbig _ (by omega), hT _ (by omega) (by omega)]; exact r8 i hi j hj
  · rw [n8 i hi j hj, show 43 + 1 + j = 44 + j from by omega, g8.2.2 i hi j hj]
  · simp only [hT (1 + 2) (by omega) (by omega), hT (1 + 3) (by omega) (by omega), hT (1 + 4) (by omega) (by omega), hT (1 + 5) (by omega) (by omega), hT (1 + 6) (by omega) (by omega)]; exact v1
  · simp only [hT (1 + 8) (by omega) (by omega), hT (1 + 9) (by omega) (by omega), hT (1 + 10) (by omega) (by omega), hT (1 + 11) (by omega) (by omega), hT (1 + 12) (by omega) (by omega), hT (1 + 13) (by omega) (by omega), hT (1 + 14) (by omega) (by omega), hT (1 + 15) (by omega) (by omega), hT (1 + 16) (by omega) (by omega)]; exact v2
  · simp only [hT (1 + 18) (by omega) (by omega), hT (1 + 19) (by omega) (by omega), hT (1 + 20) (by omega) (by omega), hT (1 + 21) (by omega) (by omega), hT (1 + 22) (by omega) (by omega)]; exact v3
  · simp only [hT (1 + 24) (by omega) (by omega), hT (1 + 25) (by omega) (by omega)]; exact v4
  · intro x h1 h2
    have z := x1 x h1 h2
    rw [g3 x h2 1 (by omega) (by omega), g3 x h2 2 (by omega) (by omega), g3 x h2 3 (by omega) (by omega), g3 x h2 4 (by omega) (by omega)]
    exact z
  · intro i h1 h2
    have z := x2 i h1 h2
    rw [g5 i h2 7 (by omega) (by omega), g5 i h2 8 (by omega) (by omega), g5 i h2 9 (by omega) (by omega)]
    exact z
  · intro x hx
    have hx' : x < 30 := by omega
    have z1 := t1 x hx
    have z2 := t2 x hx
    rw [p _ _ (by omega)] at z1 z2
    rw [g3 x hx' 1 (by omega) (by omega), g3 x hx' 2 (by omega) (by omega), g3 x hx' 3 (by omega) (by omega), g3 x hx' 4 (by omega) (by omega), hT (1 + 4) (by omega) (by omega)]
    exact ⟨z1, z2⟩
  · intro i hi
    rw [g5 i (by omega) 7 (by omega) (by omega)]
    exact b4 i hi
  · intro e he
    obtain ⟨y1, y2, y3⟩ := g4 e he
    exact ⟨y1, y2, fun i hi => (y3 i hi).1⟩
  · intro e he
    refine ⟨(a1 e he).1, fun x => ?_⟩
    rw [(a1 e he).2 x]
    constructor
    · rintro ⟨z1, z2, z3, -⟩
      have hx : x < nl := z1
      exact ⟨hx, (g3 x (by omega) 1 (by omega) (by omega)).trans z2, (g3 x (by omega) 4 (by omega) (by omega)).trans z3⟩
    · rintro ⟨z1, z2, z3⟩
      exact ⟨z1, (g3 x (by omega) 1 (by omega) (by omega)).symm.trans z2, (g3 x (by omega) 4 (by omega) (by omega)).symm.trans z3, by simp⟩
  · intro x hx
    rw [g3 x (by omega) 1 (by omega) (by omega)]
    exact a2 x hx
  · intro x hx
    rw [g3 x (by omega) 4 (by omega) (by omega)]
    exact (a3 x hx).1
  · intro e he
    refine (a4 e he).1.imp_of_mem (fun {x y} hx hy hxy => ?_)
    have x1 := (((a1 e he).2 x).mp hx).1
    have y1 := (((a1 e he).2 y).mp hy).1
    rw [show 29 + 10 * x = 24 + 10 * x + 5 from by omega, show 29 + 10 * y = 24 + 10 * y + 5 from by omega, n1 x x1 5 (by omega) (by omega), n1 y y1 5 (by omega) (by omega)]
    exact hxy
  · intro e he x hx
    have x1 := (((a1 e he).2 x).mp hx).1
    rw [show 29 + 10 * x = 24 + 10 * x + 5 from by omega, n1 x x1 5 (by omega) (by omega), n5, nI_toInt (by omega)]
    exact (a4 e he).2 x hx
  · rw [n5, nI_toInt (by omega)]
    omega
end W
