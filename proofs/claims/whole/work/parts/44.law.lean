/-! what a law says: one meaning for both -/
def lw_both (k : Nat) (a b : Int32) : Int32 :=
  if k = 13 then a + b else if k = 14 then a - b else if k = 15 then a * b else if k = 16 then a / b
  else if k = 17 then (if a < b then 1 else 0) else if k = 18 then (if a = b then 1 else 0) else if k = 19 then (if b < a then 1 else 0)
  else if k = 21 then a &&& b else a ||| b
def lw_e1 (f : Nat → Int32) (st : List Int32) (p : Nat × Int32) : List Int32 :=
  if p.1 = 0 then p.2 :: st else if p.1 < 8 then f p.1 :: st
  else match st with
    | [] => []
    | a :: s1 => if p.1 = 16 then lw_both 16 a p.2 :: s1 else if p.1 = 20 then (1 - a) :: s1 else match s1 with
      | [] => []
      | b :: s2 => lw_both p.1 b a :: s2
def lw_ev (f : Nat → Int32) : List Int32 → List (Nat × Int32) → List Int32
  | st, [] => st
  | st, p :: ps => lw_ev f (lw_e1 f st p) ps
def lw_lets (f : Nat → Int32) : lw_ps → Bool
  | [] => true
  | q :: qs => if q.2 = [] ∨ (lw_ev f [] q.2).headD 0 = 1 then decide (q.1 = 0) else lw_lets f qs
def VT : List Bool → List Int32 → Prop
  | [], [] => True
  | t :: s, v :: st => (t = true → v = 0 ∨ v = 1) ∧ VT s st
  | _, _ => False
theorem VT.len : ∀ {s : List Bool} {st : List Int32}, VT s st → s.length = st.length
  | [], [], _ => rfl
  | _ :: _, _ :: _, h => by simp [VT.len h.2]
  | [], _ :: _, h => h.elim
  | _ :: _, [], h => h.elim
theorem lw_b01 {k : Nat} {a b : Int32} (hk : 17 ≤ k ∧ k ≤ 19) : lw_both k a b = 0 ∨ lw_both k a b = 1 := by
  have : k = 17 ∨ k = 18 ∨ k = 19 := by omega
  rcases this with rfl | rfl | rfl
  · show (if a < b then (1 : Int32) else 0) = 0 ∨ (if a < b then (1 : Int32) else 0) = 1
    split <;> simp
  · show (if a = b then (1 : Int32) else 0) = 0 ∨ (if a = b then (1 : Int32) else 0) = 1
    split <;> simp
  · show (if b < a then (1 : Int32) else 0) = 0 ∨ (if b < a then (1 : Int32) else 0) = 1
    split <;> simp
theorem lw_c01 {k : Nat} {a b : Int32} (hk : k = 21 ∨ k = 22) (ha : a = 0 ∨ a = 1) (hb : b = 0 ∨ b = 1) : lw_both k a b = 0 ∨ lw_both k a b = 1 := by
  rcases hk with rfl | rfl <;> rcases ha with rfl | rfl <;> rcases hb with rfl | rfl <;> decide
/-- the cases of a step -/
def LwC (f : Nat → Int32) (s : List Bool) (st : List Int32) (p : Nat × Int32) (s' : List Bool) (st' : List Int32) : Prop :=
  (p.1 = 0 ∧ 0 ≤ p.2.toInt ∧ s.length < 60 ∧ s' = false :: s ∧ st' = p.2 :: st) ∨
  (1 ≤ p.1 ∧ p.1 ≤ 7 ∧ s.length < 60 ∧ s' = false :: s ∧ st' = f p.1 :: st) ∨
  (∃ s1 a st1, p.1 = 16 ∧ 0 < p.2.toInt ∧ s1.length < 59 ∧ s = false :: s1 ∧ s' = false :: s1 ∧ st = a :: st1 ∧ st' = lw_both 16 a p.2 :: st1) ∨
  (∃ s1 a st1, p.1 = 20 ∧ s = true :: s1 ∧ s' = true :: s1 ∧ st = a :: st1 ∧ st' = (1 - a) :: st1) ∨
  (∃ s1 a b st1 t t', (p.1 = 13 ∨ p.1 = 14 ∨ p.1 = 15 ∨ p.1 = 17 ∨ p.1 = 18 ∨ p.1 = 19 ∨ p.1 = 21 ∨ p.1 = 22) ∧ s = t :: t :: s1 ∧ s' = t' :: s1 ∧ st = a :: b :: st1 ∧ st' = lw_both p.1 b a :: st1)
theorem lw_cases {f : Nat → Int32} {s s' : List Bool} {st : List Int32} {p : Nat × Int32} (hv : VT s st) (ht : lw_t1 s p = some s') : LwC f s st p s' (lw_e1 f st p) ∧ VT s' (lw_e1 f st p) := by
  obtain ⟨k, v⟩ := p
  simp only [lw_t1] at ht
  split at ht
  · rename_i h0
    subst h0
    split at ht
    · rename_i h1
      cases ht
      exact ⟨Or.inl ⟨rfl, h1.1, h1.2, rfl, rfl⟩, fun z => absurd z (by simp), hv⟩
    · exact absurd ht (by simp)
  · rename_i h0
    split at ht
    · rename_i h8
      split at ht
      · rename_i h1
        cases ht
        have e : lw_e1 f st (k, v) = f k :: st := by simp [lw_e1, h0, h8]
        rw [e]
        exact ⟨Or.inr (Or.inl ⟨by show 1 ≤ k; omega, by show k ≤ 7; omega, h1, rfl, rfl⟩), fun z => absurd z (by simp), hv⟩
      · exact absurd ht (by simp)
    · rename_i h8
      cases s with
      | nil => exact absurd ht (by simp)
      | cons a1 s1 =>
        cases st with
        | nil => exact hv.elim
        | cons x1 st1 =>
          simp only at ht
          split at ht
          · rename_i h16
            subst h16
            split at ht
            · rename_i h1
              cases ht
              obtain ⟨rfl, h2, h3⟩ := h1
              exact ⟨Or.inr (Or.inr (Or.inl ⟨_, _, _, rfl, h2, h3, rfl, rfl, rfl, rfl⟩)), fun z => absurd z (by simp), hv.2⟩
            · exact absurd ht (by simp)
          · rename_i h16
            split at ht
            · rename_i h20
              subst h20
              split at ht
              · rename_i h1
                cases ht
                subst h1
                refine ⟨Or.inr (Or.inr (Or.inr (Or.inl ⟨_, _, _, rfl, rfl, rfl, rfl, rfl⟩))), fun _ => ?_, hv.2⟩
                rcases hv.1 rfl with e | e <;> rw [e] <;> decide
              · exact absurd ht (by simp)
            · rename_i h20
              cases s1 with
              | nil => exact absurd ht (by simp)
              | cons b1 s2 =>
                cases st1 with
                | nil => exact hv.2.elim
                | cons y1 st2 =>
                  have e : lw_e1 f (x1 :: y1 :: st2) (k, v) = lw_both k y1 x1 :: st2 := by simp [lw_e1, h0, h8, h16, h20]
                  rw [e]
                  simp only at ht
                  split at ht
                  · rename_i h1
                    split at ht
                    · rename_i h2
                      cases ht
                      obtain ⟨rfl, rfl⟩ := h2
                      exact ⟨Or.inr (Or.inr (Or.inr (Or.inr ⟨_, _, _, _, _, _, by simp only; omega, rfl, rfl, rfl, rfl⟩))), fun z => absurd z (by simp), hv.2.2⟩
                    · exact absurd ht (by simp)
                  · split at ht
                    · rename_i h1
                      split at ht
                      · rename_i h2
                        cases ht
                        obtain ⟨rfl, rfl⟩ := h2
                        exact ⟨Or.inr (Or.inr (Or.inr (Or.inr ⟨_, _, _, _, _, _, by simp only; omega, rfl, rfl, rfl, rfl⟩))), fun _ => lw_b01 h1, hv.2.2⟩
                      · exact absurd ht (by simp)
                    · split at ht
                      · rename_i h1
                        split at ht
                        · rename_i h2
                          cases ht
                          obtain ⟨rfl, rfl⟩ := h2
                          exact ⟨Or.inr (Or.inr (Or.inr (Or.inr ⟨_, _, _, _, _, _, by simp only; omega, rfl, rfl, rfl, rfl⟩))), fun _ => lw_c01 h1 (hv.2.1 rfl) (hv.1 rfl), hv.2.2⟩
                        · exact absurd ht (by simp)
                      · exact absurd ht (by simp)
/-- a pile in a row of cells, the topmost first -/
def Pl (row : Nat → Int32) : List Int32 → Prop
  | [] => True
  | a :: st => row st.length = a ∧ Pl row st
theorem Pl.up {row : Nat → Int32} {k : Nat} {x : Int32} : ∀ {st : List Int32}, Pl row st → st.length ≤ k → Pl (upd row k x) st
  | [], _, _ => trivial
  | a :: st, h, hk => ⟨by rw [upd_ne (by simp at hk; omega)]; exact h.1, Pl.up h.2 (by simp at hk; omega)⟩
theorem Pl.put {row : Nat → Int32} {x : Int32} {st : List Int32} (h : Pl row st) : Pl (upd row st.length x) (x :: st) := ⟨upd_eq _ _ _, h.up (Nat.le_refl _)⟩
