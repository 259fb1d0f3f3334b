/-! the class: a load comes, heaps are cut, what is borne -/
section C
variable {l : Launch} {c : Nat} {P : Pm} {I0 : mx_I}
theorem CR.cc {A : HS} {I : mx_I} (h : CR c P A I0 I) : c = 33 ∨ c = 55 := h.1
theorem CR.told {A : HS} {I : mx_I} (h : CR c P A I0 I) {k : Nat} (k1 : 1 ≤ k) (k2 : k ≤ 31) (k3 : k ≠ 5) : I k = P.R k := h.2.1.1 k k1 k2 k3
theorem CR.crs {A : HS} {I : mx_I} (h : CR c P A I0 I) {f : Nat} (k1 : 7 ≤ f) (k2 : f ≤ 12) : I 65 f = P.R 65 f := h.2.1.2.1 f k1 k2
theorem CR.ld {A : HS} {I : mx_I} (h : CR c P A I0 I) {j x : Nat} (hx : x < 30) (k1 : 1 ≤ j) (k2 : j ≤ 4) : I (c + j) x = A.r j x := h.2.1.2.2.1 x hx j k1 k2
theorem CR.heap {A : HS} {I : mx_I} (h : CR c P A I0 I) : CHp c A.hp I := h.2.1.2.2.2.1
theorem CR.cro {A : HS} {I : mx_I} (h : CR c P A I0 I) {j x : Nat} (hx : x < 20) (k1 : 7 ≤ j) (k2 : j ≤ 9) : I (c + j) x = A.r j x := h.2.1.2.2.2.2.1 x hx j k1 k2
theorem CR.now {A : HS} {I : mx_I} (h : CR c P A I0 I) : I c 9 = nI A.now := h.2.1.2.2.2.2.2.1.1
theorem CR.tolls {A : HS} {I : mx_I} (h : CR c P A I0 I) : I c 10 = A.r 0 10 := h.2.1.2.2.2.2.2.1.2
theorem CR.x {A : HS} {I : mx_I} (h : CR c P A I0 I) {f : Nat} (k1 : 13 ≤ f) (k2 : f ≤ 15) : I 65 f = A.r 65 f := h.2.1.2.2.2.2.2.2.1 f k1 k2
theorem CR.book {A : HS} {I : mx_I} (h : CR c P A I0 I) : A.nk ≤ 300 ∧ I 43 3 = nI A.nk ∧ ∀ i, i < A.nk → ∀ j, j < 3 → I (44 + j) i = A.r (44 + j) i := h.2.1.2.2.2.2.2.2.2
theorem hs_comes_eq (P : Pm) (x e t : Nat) (A : HS) : hs_comes P x e t A = if nI x = P.R 65 11 ∧ nI e = P.R 65 12 ∧ A.r 65 13 = -1 then HS.set (mx_set (mx_set (mx_set A.r 1 x (nI e)) 2 x (nI t)) 5 x (nI A.st), (fun y => if y = e then A.hp e ++ [x] else A.hp y), A.st + 1, A.nk, A.now) 65 13 (nI t) else (mx_set (mx_set (mx_set A.r 1 x (nI e)) 2 x (nI t)) 5 x (nI A.st), (fun y => if y = e then A.hp e ++ [x] else A.hp y), A.st + 1, A.nk, A.now) := by
  unfold hs_comes
  split <;> rfl
set_option maxHeartbeats 1000000 in
theorem sp_arrive {d : Nat} {A : HS} {I : mx_I} {x e t : Nat} (h : CR c P A I0 I) (hx : x < 30) (he : e < 4) (hn : (A.hp e).length < 30) :
    mx_Spec l mX1_arrive (d + 2) 0 0 [.ref 65, .int (nI x), .int (nI e), .int (nI t)] (sk0 c, I) (fun r h' => r = none ∧ ∃ I', h' = (sk0 c, I') ∧ CR c P (hs_comes P x e t A) I0 I' ∧ I' 72 = I 72 ∧ I' 65 5 = I 65 5) := by
  have hc := h.cc
  obtain ⟨w1, w2, w3⟩ := h.heap e he
  have B : CR c P (mx_set (mx_set (mx_set A.r 1 x (nI e)) 2 x (nI t)) 5 x (nI A.st), (fun y => if y = e then A.hp e ++ [x] else A.hp y), A.st + 1, A.nk, A.now) I0 (mx_set (mx_set (mx_set (mx_set I (c + 5) (30 * e + (A.hp e).length) (nI x)) (c + 6) e (nI ((A.hp e).length + 1))) (c + 1) x (nI e)) (c + 2) x (nI t)) :=
    ((((h.push (l := x) he hx hn).setL (j := 1) (l := x) (x := nI e) (by omega)).setL (j := 2) (l := x) (x := nI t) (by omega)).row5 (l := x) (x := nI A.st)).stamp (A.st + 1)
  have f72 : (mx_set (mx_set (mx_set (mx_set I (c + 5) (30 * e + (A.hp e).length) (nI x)) (c + 6) e (nI ((A.hp e).length + 1))) (c + 1) x (nI e)) (c + 2) x (nI t)) 72 = I 72 := by
    rw [ms_ne (by omega), ms_ne (by omega), ms_ne (by omega), ms_ne (by omega)]
  have f65 : (mx_set (mx_set (mx_set (mx_set I (c + 5) (30 * e + (A.hp e).length) (nI x)) (c + 6) e (nI ((A.hp e).length + 1))) (c + 1) x (nI e)) (c + 2) x (nI t)) 65 = I 65 := by
    rw [ms_ne (by omega), ms_ne (by omega), ms_ne (by omega), ms_ne (by omega)]
  refine sn_X1_arrive _ _ _ (at9_c hc) ⟨fun r h' => r = none ∧ h' = (sk0 c, mx_set (mx_set (mx_set (mx_set I (c + 5) (30 * e + (A.hp e).length) (nI x)) (c + 6) e (nI ((A.hp e).length + 1))) (c + 1) x (nI e)) (c + 2) x (nI t)), ?_, ?_⟩
  · have ix : (nI e * 30 + nI (A.hp e).length : Int32) = nI (30 * e + (A.hp e).length) := by
      rw [show (30 : Int32) = nI 30 from rfl, pk_mul, nI_add, Nat.mul_comm]
    have S := fun Q => @sn_X9_append l d Q c I c (nI x) (nI e) (nI t) (at9_c hc)
    rw [nI_clamp (n := e) (by omega), w1, ix, nI_clamp (n := x) (by omega), nI_clamp (by omega), nI_1] at S
    have e30 : ¬ (30 : Int32) ≤ nI (A.hp e).length := fun z => by rw [show (30 : Int32) = nI 30 from rfl, nI_leI (by omega) (by omega)] at z; omega
    have b1 : vp_in (nI e) 4 := i_vp (by omega) (by omega)
    have b2 : vp_in (nI x) 30 := i_vp (by omega) (by omega)
    have b3 : vp_in (nI (30 * e + (A.hp e).length)) 120 := i_vp (by omega) (by omega)
    apply S <;> intros <;> with_reducible first | exact b1 | exact b2 | exact b3 | exact absurd ‹(30 : Int32) ≤ _› e30 | exact ⟨rfl, rfl⟩
  · rintro _ _ ⟨rfl, rfl⟩
    rw [hs_comes_eq]
    have c11 := B.crs (f := 11) (by omega) (by omega)
    have c12 := B.crs (f := 12) (by omega) (by omega)
    have c13 : _ = A.r 65 13 := (B.x (f := 13) (by omega) (by omega)).trans (by show mx_set (mx_set (mx_set A.r 1 x (nI e)) 2 x (nI t)) 5 x (nI A.st) 65 13 = _; rw [ms_ne (by omega), ms_ne (by omega), ms_ne (by omega)])
    generalize mx_set (mx_set (mx_set (mx_set I (c + 5) (30 * e + (A.hp e).length) (nI x)) (c + 6) e (nI ((A.hp e).length + 1))) (c + 1) x (nI e)) (c + 2) x (nI t) = J at *
    refine sg_X1_arrive_10 (at9_c hc) _ _ _ (fun g1 => ⟨rfl, J, rfl, ?_, f72, by rw [f65]⟩) (fun g1 g2 => ⟨rfl, J, rfl, ?_, f72, by rw [f65]⟩) (fun g1 g2 g3 => ⟨rfl, J, rfl, ?_, f72, by rw [f65]⟩) (fun g1 g2 g3 => ⟨rfl, _, rfl, ?_, by rw [ms_ne (by omega)]; exact f72, by rw [ms_self, upd_ne (by omega), f65]⟩)
    · rw [if_neg (fun z => g1 (z.1.trans c11.symm))]; exact B
    · rw [if_neg (fun z => g2 (z.2.1.trans c12.symm))]; exact B
    · rw [if_neg (fun z => g3 (c13.trans z.2.2))]; exact B
    · rw [if_pos ⟨g1.trans c11, g2.trans c12, c13.symm.trans g3⟩]
      exact B.setX (by omega)
/-- the two hands of drop -/
def dr_go : List Nat → List Nat → List Nat
  | [], _ => []
  | x :: xs, [] => x :: dr_go xs []
  | x :: xs, y :: ys => if x = y then dr_go xs ys else x :: dr_go xs (y :: ys)
theorem dr_nil : ∀ xs, dr_go xs [] = xs
  | [] => rfl
  | x :: xs => by rw [dr_go, dr_nil xs]
theorem dr_eq : ∀ {xs ys : List Nat}, ys.Sublist xs → xs.Nodup → dr_go xs ys = xs.filter (fun x => !ys.contains x)
  | [], _, h, _ => by rw [dr_go]; simp
  | x :: xs, [], _, _ => by
    rw [dr_nil]
    exact (List.filter_eq_self.mpr (fun a _ => by simp)).symm
  | x :: xs, y :: ys, h, hd => by
    rw [dr_go]
    have hx := List.nodup_cons.mp hd
    split
    · rename_i e
      subst e
      have h1 : ys.Sublist xs := by
        cases h with
        | cons _ h => exact absurd (h.subset (by simp)) hx.1
        | cons_cons _ h => exact h
      rw [dr_eq h1 hx.2, List.filter_cons]
      simp
      refine List.filter_congr (fun a ha => ?_)
      have : a ≠ x := fun z => hx.1 (z ▸ ha)
      simp [this]
    · rename_i e
      have h1 : (y :: ys).Sublist xs := by
        cases h with
        | cons _ h => exact h
        | cons_cons _ h => exact absurd rfl e
      have h2 : x ∉ y :: ys := fun z => hx.1 (h1.subset z)
      rw [dr_eq h1 hx.2, List.filter_cons]
      have h3 : (y :: ys).contains x = false := by simpa using h2
      rw [h3]
      simp
set_option maxHeartbeats 2000000 in
theorem dr_loop {d : Nat} {Q : Option Value → mx_H → Prop} {e n m : Nat} (hc : c = 33 ∨ c = 55) (he : e < 4) (hn : n ≤ 30) (hm : m ≤ 30) : ∀ (xs ys K : List Nat) (i dd : Nat) (I : mx_I), K.length ≤ i → i + xs.length = n → dd + ys.length = m → I (c + 6) e = nI n →
    (∀ j, j < K.length → I (c + 5) (30 * e + j) = nI (K.getD j 0)) → (∀ j, j < xs.length → I (c + 5) (30 * e + (i + j)) = nI (xs.getD j 0) ∧ xs.getD j 0 < 30) → (∀ j, j < ys.length → I 72 (dd + j) = nI (ys.getD j 0) ∧ ys.getD j 0 < 30) →
    (∀ I', (∀ k, k ≠ c + 5 → k ≠ c + 6 → I' k = I k) → (∀ j, (j < 30 * e ∨ 30 * e + 30 ≤ j) → I' (c + 5) j = I (c + 5) j) → I' (c + 6) = upd (I (c + 6)) e (nI (K ++ dr_go xs ys).length) → (∀ j, j < (K ++ dr_go xs ys).length → I' (c + 5) (30 * e + j) = nI ((K ++ dr_go xs ys).getD j 0)) → Q none (sk0 c, I')) →
    mx_Go l (mx_rm (d + 1) 0 0) mX9_drop (mx_Z Q 0 0) 0 0 15 [.ref c, .ref 72, .int (nI m), .int (nI e), .int (nI (30 * e)), .int (nI K.length), .int (nI dd), .int (nI i), .retAddr 0] [] (sk0 c, I) := by
  intro xs
  induction xs with
  | nil =>
    intro ys K i dd I hK hi hd h6 hk hx hy hQ
    simp at hi
    have e1 : nI n ≤ nI i := (nI_leI (by omega) (by omega)).mpr (by omega)
    have b1 : vp_in (nI e) 4 := i_vp (by omega) (by omega)
    have S := @sg_X9_drop_15 l d Q c I c (at9_c hc) (nI m) (nI e) (nI (30 * e)) (nI K.length) (nI dd) (nI i)
    rw [nI_clamp (n := e) (by omega), h6] at S
    apply S <;> intros <;> with_reducible first | exact b1 | exact absurd e1 ‹_› | skip
    have q : K ++ dr_go [] ys = K := by simp [dr_go]
    rw [q] at hQ
    refine hQ _ (fun k k1 k2 => ms_ne k2) (fun j hj => by rw [ms_ne (by omega)]) (ms_self _ _ _ _) (fun j hj => by rw [ms_ne (by omega)]; exact hk j hj)
  | cons x xs ih =>
    intro ys K i dd I hK hi hd h6 hk hx hy hQ
    simp only [List.length_cons] at hi
    have e1 : ¬ nI n ≤ nI i := fun z => by rw [nI_leI (by omega) (by omega)] at z; omega
    have b1 : vp_in (nI e) 4 := i_vp (by omega) (by omega)
    obtain ⟨x0, x30⟩ := hx 0 (by simp)
    simp only [Nat.add_zero, List.getD_cons_zero] at x0 x30
    have hx' : ∀ j, j < xs.length → I (c + 5) (30 * e + (i + 1 + j)) = nI (xs.getD j 0) ∧ xs.getD j 0 < 30 := fun j hj => by
      have := hx (j + 1) (by simp; omega)
      rw [show i + (j + 1) = i + 1 + j from by omega] at this
      simpa using this
    have S := @sg_X9_drop_15 l d Q c I c (at9_c hc) (nI m) (nI e) (nI (30 * e)) (nI K.length) (nI dd) (nI i)
    rw [nI_clamp (n := e) (by omega), h6, nI_add, nI_add, nI_clamp (n := 30 * e + i) (by omega), nI_clamp (n := 30 * e + K.length) (by omega), x0, nI_clamp (n := dd) (by omega), nI_1, nI_1, nI_1] at S
    have b2 : vp_in (nI (30 * e + i)) 120 := i_vp (by omega) (by omega)
    have b3 : vp_in (nI (30 * e + K.length)) 120 := i_vp (by omega) (by omega)
    -- the load is kept
    have keep : (K ++ [x]) ++ dr_go xs ys = K ++ dr_go (x :: xs) ys → ∀ z : Int32, mx_Go l (mx_rm (d + 1) 0 0) mX9_drop (mx_Z Q 0 0) 0 0 15 [.ref c, .ref 72, .int (nI m), .int (nI e), .int (nI (30 * e)), .int (nI (K.length + 1)), .int (nI dd), .int (nI (i + 1)), .int z] [] (sk0 c, mx_set I (c + 5) (30 * e + K.length) (nI x)) := by
      intro hq z
      refine mx_fg (L' := [.ref c, .ref 72, .int (nI m), .int (nI e), .int (nI (30 * e)), .int (nI (K ++ [x]).length), .int (nI dd), .int (nI (i + 1)), .retAddr 0]) (by simp [mx_le]) ?_
      refine ih ys (K ++ [x]) (i + 1) dd _ (by simp; omega) (by omega) hd (by rw [ms_ne (by omega)]; exact h6) (fun j hj => ?_) (fun j hj => ?_) (fun j hj => by rw [ms_ne (by omega)]; exact hy j hj) (fun I' g1 g2 g3 g4 => ?_)
      · rw [ms_self]
        simp at hj
        by_cases q : j = K.length
        · subst q
          rw [upd_eq, List.getD_eq_getElem?_getD, List.getElem?_append_right (by omega)]
          simp
        · rw [upd_ne (by omega), List.getD_eq_getElem?_getD, List.getElem?_append_left (by omega), ← List.getD_eq_getElem?_getD]
          exact hk j (by omega)
      · rw [ms_self, upd_ne (by omega)]
        exact hx' j hj
      · rw [hq] at g3 g4
        refine hQ I' (fun k k1 k2 => by rw [g1 k k1 k2, ms_ne k1]) (fun j hj => by rw [g2 j hj, ms_self, upd_ne (by omega)]) (by rw [g3, ms_ne (by omega)]) g4
    cases ys with
    | nil =>
      simp at hd
      have e2 : nI m ≤ nI dd := (nI_leI (by omega) (by omega)).mpr (by omega)
      apply S <;> intros <;> with_reducible first | exact b1 | exact b2 | exact b3 | exact absurd ‹nI n ≤ nI i› e1 | exact absurd e2 ‹_› | skip
      exact keep (by simp [dr_go]) _
    | cons y ys =>
      simp only [List.length_cons] at hd
      have e2 : ¬ nI m ≤ nI dd := fun z => by rw [nI_leI (by omega) (by omega)] at z; omega
      have e3 : ¬ (30 : Int32) ≤ nI dd := fun z => by rw [show (30 : Int32) = nI 30 from rfl, nI_leI (by omega) (by omega)] at z; omega
      have b4 : vp_in (nI dd) 30 := i_vp (by omega) (by omega)
      obtain ⟨y0, y30⟩ := hy 0 (by simp)
      simp only [Nat.add_zero, List.getD_cons_zero] at y0 y30
      rw [y0] at S
      apply S <;> intros <;> with_reducible first | exact b1 | exact b2 | exact b3 | exact b4 | exact absurd ‹nI n ≤ nI i› e1 | exact absurd ‹nI m ≤ nI dd› e2 | exact absurd ‹(30 : Int32) ≤ nI dd› e3 | skip
      · rename_i g
        have hxy : ¬ x = y := fun z => g (by rw [z])
        exact keep (by rw [dr_go, if_neg hxy]; simp) _
      · rename_i g
        have hxy : x = y := (nI_eq (by omega) (by omega)).mp g
        refine mx_fg (L' := [.ref c, .ref 72, .int (nI m), .int (nI e), .int (nI (30 * e)), .int (nI K.length), .int (nI (dd + 1)), .int (nI (i + 1)), .retAddr 0]) (by simp [mx_le]) ?_
        refine ih ys K (i + 1) (dd + 1) I (by omega) (by omega) (by omega) h6 hk hx' (fun j hj => ?_) (fun I' g1 g2 g3 g4 => ?_)
        · have := hy (j + 1) (by simp; omega)
          rw [show dd + (j + 1) = dd + 1 + j from by omega] at this
          simpa using this
        · have q : dr_go (x :: xs) (y :: ys) = dr_go xs ys := by rw [dr_go, if_pos hxy]
          rw [q] at hQ
          exact hQ I' g1 g2 g3 g4
/-- what was picked -/
def Picked (I : mx_I) (ls : List Nat) : Prop := I 65 5 = nI ls.length ∧ ∀ j, j < ls.length → I 72 j = nI (ls.getD j 0)
theorem sp_drop {d : Nat} {A : HS} {I : mx_I} {e : Nat} {ls : List Nat} (h : CR c P A I0 I) (hA : AInv P A []) (hl : P.nl ≤ 30) (he : e < 4) (hs : ls.Sublist (A.hp e)) (hp : ∀ j, j < ls.length → I 72 j = nI (ls.getD j 0)) :
    mx_Spec l mX9_drop (d + 1) 0 0 [.ref c, .ref 72, .int (nI ls.length), .int (nI e)] (sk0 c, I) (fun r h' => r = none ∧ ∃ I', h' = (sk0 c, I') ∧ CR c P (hs_drop e ls A) I0 I' ∧ I' 72 = I 72 ∧ I' 65 = I 65) := by
  have hc := h.cc
  obtain ⟨w1, w2, w3⟩ := h.heap e he
  have hn := hA.len he
  have hll := hs.length_le
  have hdr : dr_go (A.hp e) ls = (A.hp e).filter (fun x => !ls.contains x) := dr_eq hs (hA.1 e he).1
  have hlt : ∀ x ∈ A.hp e, x < 30 := fun x hx => by have := (((hA.1 e he).2 x).mp hx).1; omega
  refine sn_X9_drop _ _ _ (at9_c hc) ?_
  rw [show (nI e * 30 : Int32) = nI (30 * e) from by rw [show (30 : Int32) = nI 30 from rfl, pk_mul, Nat.mul_comm]]
  refine dr_loop (n := (A.hp e).length) hc he (by omega) (by omega) (A.hp e) ls [] 0 0 I (by simp) (by simp) (by simp) w1 (fun j hj => absurd hj (by simp)) (fun j hj => by rw [Nat.zero_add]; exact w3 j hj) (fun j hj => ⟨by rw [Nat.zero_add]; exact hp j hj, hlt _ (hs.subset (lw_mem hj 0))⟩) (fun I' g1 g2 g3 g4 => ?_)
  rw [List.nil_append, hdr] at g3 g4
  refine ⟨rfl, I', rfl, ?_, g1 72 (by omega) (by omega), g1 65 (by omega) (by omega)⟩
  obtain ⟨_, ⟨q1, q2, q3, q4, q5, q6, q7, q8⟩, hf⟩ := h
  have n : ∀ k, k ≠ c + 5 → k ≠ c + 6 → I' k = I k := g1
  refine ⟨hc, ⟨fun k k1 k2 k3 => ?_, fun f f1 f2 => ?_, fun l' hl j j1 j2 => ?_, fun e' he' => ?_, fun i hi j j1 j2 => ?_, ?_, fun f f1 f2 => ?_, ⟨q8.1, ?_, fun i hi j hj => ?_⟩⟩, fun k k1 k2 k3 k4 k5 k6 => ?_⟩
  · rw [n k (by omega) (by omega)]; exact q1 k k1 k2 k3
  · rw [n _ (by omega) (by omega)]; exact q2 f f1 f2
  · rw [n _ (by omega) (by omega)]; exact q3 l' hl j j1 j2
  · obtain ⟨v1, v2, v3⟩ := q4 e' he'
    rw [g3]
    show upd (I (c + 6)) e (nI ((A.hp e).filter (fun x => !ls.contains x)).length) e' = nI (if e' = e then (A.hp e).filter (fun x => !ls.contains x) else A.hp e').length ∧ (if e' = e then (A.hp e).filter (fun x => !ls.contains x) else A.hp e').length ≤ 30 ∧ ∀ i, i < (if e' = e then (A.hp e).filter (fun x => !ls.contains x) else A.hp e').length → I' (c + 5) (30 * e' + i) = nI ((if e' = e then (A.hp e).filter (fun x => !ls.contains x) else A.hp e').getD i 0) ∧ (if e' = e then (A.hp e).filter (fun x => !ls.contains x) else A.hp e').getD i 0 < 30
    by_cases q : e' = e
    · subst q
      rw [if_pos rfl, upd_eq]
      refine ⟨rfl, ?_, fun i hi => ⟨g4 i hi, hlt _ (List.mem_filter.mp (lw_mem hi 0)).1⟩⟩
      have := List.length_filter_le (fun x => !ls.contains x) (A.hp e')
      omega
    · rw [if_neg q, upd_ne q]
      refine ⟨v1, v2, fun i hi => ⟨?_, (v3 i hi).2⟩⟩
      rw [g2 _ (by omega)]
      exact (v3 i hi).1
  · rw [n _ (by omega) (by omega)]; exact q5 i hi j j1 j2
  · rw [n _ (by omega) (by omega)]; exact q6
  · rw [n _ (by omega) (by omega)]; exact q7 f f1 f2
  · rw [n _ (by omega) (by omega)]; exact q8.2.1
  · rw [n _ (by omega) (by omega)]; exact q8.2.2 i hi j hj
  · rw [n _ (by omega) (by omega)]; exact hf k k1 k2 k3 k4 k5 k6
end C
