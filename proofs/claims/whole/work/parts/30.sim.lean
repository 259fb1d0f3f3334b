/-! what the class's cells and the model's cells have in common -/
theorem ms_row (I : mx_I) (k i : Nat) (x : Int32) (a : Nat) : mx_set I k i x a = if a = k then upd (I k) i x else I a := rfl
theorem ms_ne {I : mx_I} {k i a : Nat} {x : Int32} (h : a ≠ k) : mx_set I k i x a = I a := mx_row_ne h
theorem ms_self (I : mx_I) (k i : Nat) (x : Int32) : mx_set I k i x k = upd (I k) i x := mx_row_self I k _
theorem upd_ne {f : Nat → Int32} {k j : Nat} {x : Int32} (h : j ≠ k) : upd f k x j = f j := if_neg h
theorem upd_eq (f : Nat → Int32) (k : Nat) (x : Int32) : upd f k x k = x := if_pos rfl
/-- a table: entry j of row i of the model's array is the class's cell + j at i -/
def Tab (w : Nat → Int32) (base stride : Nat) (I : mx_I) (cell n m : Nat) : Prop := ∀ i, i < n → ∀ j, j < m → w (base + stride * i + j) = I (cell + j) i
theorem Tab.congr {w w' : Nat → Int32} {base stride : Nat} {I I' : mx_I} {cell n m : Nat} (h : Tab w base stride I cell n m) (hI : ∀ j, j < m → I' (cell + j) = I (cell + j)) (hw : ∀ i, i < n → ∀ j, j < m → w' (base + stride * i + j) = w (base + stride * i + j)) : Tab w' base stride I' cell n m := by
  intro i hi j hj
  rw [hw i hi j hj, hI j hj]
  exact h i hi j hj
theorem Tab.rows {w : Nat → Int32} {base stride : Nat} {I I' : mx_I} {cell n m : Nat} (h : Tab w base stride I cell n m) (hI : ∀ j, j < m → I' (cell + j) = I (cell + j)) : Tab w base stride I' cell n m := h.congr hI (fun _ _ _ _ => rfl)
/-- a write of the model's array that misses the table -/
theorem Tab.out {w : Nat → Int32} {base stride : Nat} {I : mx_I} {cell n m k : Nat} {x : Int32} (h : Tab w base stride I cell n m) (hk : ∀ i, i < n → ∀ j, j < m → base + stride * i + j ≠ k) : Tab (upd w k x) base stride I cell n m := by
  intro i hi j hj
  rw [upd_ne (hk i hi j hj)]
  exact h i hi j hj
/-- a write of the class's row behind the table -/
theorem Tab.behind {w : Nat → Int32} {base stride : Nat} {I : mx_I} {cell n m a k : Nat} {x : Int32} (h : Tab w base stride I cell n m) (hk : n ≤ k) : Tab w base stride (mx_set I a k x) cell n m := by
  intro i hi j hj
  rw [h i hi j hj]
  by_cases ha : cell + j = a
  · rw [ha, ms_self, upd_ne (by omega)]
  · rw [ms_ne ha]
theorem Tab.off {w : Nat → Int32} {base stride : Nat} {I : mx_I} {cell n m a k : Nat} {x : Int32} (h : Tab w base stride I cell n m) (ha : a < cell ∨ cell + m ≤ a) : Tab w base stride (mx_set I a k x) cell n m := by
  intro i hi j hj
  rw [h i hi j hj, ms_ne (by omega)]
/-- one more row -/
theorem Tab.push {w : Nat → Int32} {base stride : Nat} {I : mx_I} {cell n m : Nat} (h : Tab w base stride I cell n m) (hn : ∀ j, j < m → w (base + stride * n + j) = I (cell + j) n) : Tab w base stride I cell (n + 1) m := by
  intro i hi j hj
  by_cases e : i = n
  · subst e; exact hn j hj
  · exact h i (by omega) j hj
theorem Tab.zero {w : Nat → Int32} {base stride : Nat} {I : mx_I} {cell m : Nat} : Tab w base stride I cell 0 m := fun i hi => absurd hi (Nat.not_lt_zero i)
/-- the laws: ps: word (0 take, 1 leave) and steps of each line (the model's codes) -/
abbrev lw_ps : Type := List (Int32 × List (Nat × Int32))
def lw_enc : Nat × Int32 → List Int32
  | (0, v) => [v]
  | (13, _) => [-16]
  | (14, _) => [-17]
  | (15, _) => [-18]
  | (16, v) => [v, -19]
  | (17, _) => [-22]
  | (18, _) => [-23]
  | (19, _) => [-24]
  | (20, _) => [-7]
  | (21, _) => [-6]
  | (22, _) => [-5]
  | (k, _) => [-(nI k + 7)]
/-- what lies on the pile (true: 0 or 1) behind a step; none where it runs under, or is of the wrong sort, or a step is none, or it is deeper than 60 -/
def lw_t1 (s : List Bool) (p : Nat × Int32) : Option (List Bool) :=
  if p.1 = 0 then (if 0 ≤ p.2.toInt ∧ s.length < 60 then some (false :: s) else none)
  else if p.1 < 8 then (if s.length < 60 then some (false :: s) else none)
  else match s with
    | [] => none
    | a :: s1 =>
      if p.1 = 16 then (if a = false ∧ 0 < p.2.toInt ∧ s1.length < 59 then some (false :: s1) else none)
      else if p.1 = 20 then (if a = true then some (true :: s1) else none)
      else match s1 with
        | [] => none
        | b :: s2 =>
          if 13 ≤ p.1 ∧ p.1 ≤ 15 then (if a = false ∧ b = false then some (false :: s2) else none)
          else if 17 ≤ p.1 ∧ p.1 ≤ 19 then (if a = false ∧ b = false then some (true :: s2) else none)
          else if p.1 = 21 ∨ p.1 = 22 then (if a = true ∧ b = true then some (true :: s2) else none)
          else none
def lw_ty : List Bool → List (Nat × Int32) → Option (List Bool)
  | s, [] => some s
  | s, p :: ps => match lw_t1 s p with
    | none => none
    | some s' => lw_ty s' ps
def lw_all (ps : lw_ps) : List (Nat × Int32) := ps.flatMap (·.2)
def lw_code (ps : lw_ps) : List Int32 := (lw_all ps).flatMap lw_enc
def lw_ok (ps : lw_ps) : Prop := ps.length ≤ 16 ∧ (lw_code ps).length ≤ 400 ∧ ∀ q ∈ ps, (q.1 = 0 ∨ q.1 = 1) ∧ (q.2 = [] ∨ lw_ty [] q.2 = some [true])
def LawC (ps : lw_ps) (code start take : Nat → Int32) : Prop :=
  (∀ i, i < ps.length → take i = 1 - (ps.getD i (0, [])).1) ∧ (∀ i, i ≤ ps.length → start i = nI (lw_code (ps.take i)).length) ∧ ∀ i, i < (lw_code ps).length → code i = (lw_code ps).getD i 0
def LawM (ps : lw_ps) (w : Nat → Int32) : Prop :=
  (∀ i, i < ps.length → w (1605 + i) = (ps.getD i (0, [])).1 ∧ w (1625 + i) = nI (lw_all (ps.take i)).length ∧ w (1645 + i) = nI (lw_all (ps.take (i + 1))).length) ∧
  ∀ i, i < (lw_all ps).length → w (1665 + 2 * i) = nI ((lw_all ps).getD i (0, 0)).1 ∧ w (1666 + 2 * i) = ((lw_all ps).getD i (0, 0)).2
def RLaw (I : mx_I) (c : Nat) (w : Nat → Int32) : Prop := ∃ ps : lw_ps, lw_ok ps ∧ I c 4 = nI ps.length ∧ w 1600 = nI ps.length ∧ I c 5 = nI (lw_code ps).length ∧ LawC ps (I (c + 1)) (I (c + 2)) (I (c + 3)) ∧ LawM ps w
theorem RLaw.congr {I I' : mx_I} {c : Nat} {w w' : Nat → Int32} (h : RLaw I c w) (h0 : I' c = I c) (h1 : I' (c + 1) = I (c + 1)) (h2 : I' (c + 2) = I (c + 2)) (h3 : I' (c + 3) = I (c + 3)) (hw : ∀ i, 1600 ≤ i → w' i = w i) : RLaw I' c w' := by
  obtain ⟨ps, a, b, e, f, g, k1, k2⟩ := h
  refine ⟨ps, a, by rw [h0]; exact b, by rw [hw _ (by omega)]; exact e, by rw [h0]; exact f, by rw [h1, h2, h3]; exact g, fun i hi => ?_, fun i hi => ?_⟩
  · rw [hw _ (by omega), hw _ (by omega), hw _ (by omega)]; exact k1 i hi
  · rw [hw _ (by omega), hw _ (by omega)]; exact k2 i hi
/-- within bounds -/
def bnd (x : Int32) (lo hi : Int) : Prop := lo ≤ x.toInt ∧ x.toInt ≤ hi
/-- numbers of a world: bridges, now, loads, crossers, offers, lists, lines of the book -/
def RScal (I : mx_I) (t s b : Nat) (w : Nat → Int32) (nb now nl nc no ni nk : Nat) : Prop :=
  (1 ≤ nb ∧ nb ≤ 3 ∧ now ≤ 168 ∧ nl ≤ 30 ∧ nc ≤ 20 ∧ no ≤ 8 ∧ ni ≤ 20 ∧ nk ≤ 300) ∧
  (I t 5 = nI nb ∧ I s 9 = nI now ∧ I (t + 1) 5 = nI nl ∧ I (t + 7) 9 = nI nc ∧ I (t + 17) 5 = nI no ∧ I (t + 23) 3 = nI ni ∧ I b 3 = nI nk) ∧
  (w 0 = nI nb ∧ w 1 = nI now ∧ w 2 = nI nl ∧ w 3 = nI nc ∧ w 7 = nI no ∧ w 8 = nI ni ∧ w 6 = nI nk) ∧
  (w 4 = I t 6 ∧ w 5 = I t 7 ∧ w 9 = I s 10) ∧ (bnd (I t 6) (-1) 999 ∧ bnd (I t 7) 0 1)
def RInv (I : mx_I) (t s : Nat) (nb now nl nc no ni : Nat) : Prop :=
  (∀ l, l < nl → bnd (I (t + 2) l) 1 99 ∧ bnd (I (t + 3) l) 0 nb ∧ bnd (I (t + 4) l) 0 167 ∧ bnd (I (t + 5) l) (-1) nb ∧ bnd (I (t + 6) l) 0 167) ∧
  (∀ c, c < nc → bnd (I (t + 8) c) 0 167 ∧ bnd (I (t + 9) c) 0 (nb - 1) ∧ bnd (I (t + 10) c) 0 1 ∧ bnd (I (t + 11) c) 0 99 ∧ bnd (I (t + 12) c) 0 (I (t + 11) c).toInt ∧ bnd (I (t + 13) c) 0 9 ∧ bnd (I (t + 14) c) 0 2 ∧ bnd (I (t + 15) c) 0 24 ∧ bnd (I (t + 16) c) 0 1 ∧ ((I (t + 14) c).toInt = 2 → (I (t + 15) c).toInt < nc)) ∧
  (∀ o, o < no → bnd (I (t + 18) o) 0 167 ∧ bnd (I (t + 19) o) 0 (nb - 1) ∧ bnd (I (t + 20) o) 0 1 ∧ bnd (I (t + 21) o) 0 99 ∧ bnd (I (t + 22) o) 0 999) ∧
  (∀ i, i < ni → bnd (I (t + 24) i) 0 167 ∧ bnd (I (t + 25) i) 0 nb) ∧
  (∀ l, nl ≤ l → l < 30 → I (s + 1) l = -1 ∧ I (s + 2) l = -1 ∧ I (s + 3) l = 0 ∧ I (s + 4) l = 0) ∧
  (∀ c, nc ≤ c → c < 20 → I (s + 7) c = -1 ∧ I (s + 8) c = 0 ∧ I (s + 9) c = 0) ∧
  (∀ l, l < nl → ((I (t + 4) l).toInt < now → I (s + 1) l ≠ -1) ∧ ((now : Int) ≤ (I (t + 4) l).toInt → I (s + 1) l = -1 ∧ I (s + 2) l = -1 ∧ I (s + 3) l = 0 ∧ I (s + 4) l = 0)) ∧
  (∀ c, c < nc → I (s + 7) c = -1 ∨ (0 ≤ (I (s + 7) c).toInt ∧ (I (s + 7) c).toInt < now))
/-- the heaps, as lists -/
def RHeap (I : mx_I) (s : Nat) (w : Nat → Int32) (hp : Nat → List Nat) (nb now nl : Nat) : Prop :=
  (∀ e, e < 4 → I (s + 6) e = nI (hp e).length ∧ (hp e).length ≤ 30 ∧ ∀ i, i < (hp e).length → I (s + 5) (30 * e + i) = nI ((hp e).getD i 0)) ∧
  (∀ e, e < 4 → (hp e).Nodup ∧ ∀ l, l ∈ hp e ↔ (l < nl ∧ I (s + 1) l = nI e ∧ I (s + 4) l = 0)) ∧
  (∀ l, l < nl → I (s + 1) l = -1 ∨ ∃ e, e ≤ nb ∧ I (s + 1) l = nI e) ∧ (∀ l, l < nl → I (s + 4) l = 0 ∨ I (s + 4) l = 1) ∧
  (∀ e, e < 4 → (hp e).Pairwise (fun a b => (w (29 + 10 * a)).toInt < (w (29 + 10 * b)).toInt)) ∧
  (∀ e, e < 4 → ∀ l ∈ hp e, 0 ≤ (w (29 + 10 * l)).toInt ∧ (w (29 + 10 * l)).toInt < (w 10).toInt) ∧ (0 ≤ (w 10).toInt ∧ (w 10).toInt ≤ 900 * now)
def RTabs (I : mx_I) (t s b : Nat) (w : Nat → Int32) (nl nc no ni nk : Nat) : Prop :=
  Tab w 20 10 I (t + 2) nl 4 ∧ (∀ l, l < nl → I (t + 5) l = -1 ∨ w (24 + 10 * l) = I (t + 6) l) ∧ Tab w 25 10 I (s + 1) nl 4 ∧ Tab w 320 14 I (t + 8) nc 8 ∧ Tab w 328 14 I (s + 7) nc 3 ∧ Tab w 331 14 I (t + 16) nc 1 ∧ Tab w 1500 5 I (t + 18) no 5 ∧ Tab w 1540 3 I (t + 24) ni 3 ∧ Tab w 600 3 I (b + 1) nk 3
def Rel (I : mx_I) (t s b : Nat) (w : Nat → Int32) : Prop := ∃ (nb now nl nc no ni nk : Nat) (hp : Nat → List Nat),
  RScal I t s b w nb now nl nc no ni nk ∧ RTabs I t s b w nl nc no ni nk ∧ RInv I t s nb now nl nc no ni ∧ RHeap I s w hp nb now nl ∧ RLaw I (t + 27) w
def RTape (I : mx_I) : Prop := ∃ n : Nat, n ≤ 400 ∧ I 47 3 = nI n ∧ I 120 11 = nI n ∧ ∀ i, i < n → I 48 i = I 126 i ∧ bnd (I 48 i) 0 255
def Sim (c : Nat) (I : mx_I) : Prop := (c = 33 ∨ c = 55) ∧ Rel I 1 33 43 (I 121) ∧ I 120 3 = I 0 9 ∧ (I 0 9 = 0 ∨ (I 0 9 = 1 ∧ Rel I 74 106 116 (I 122))) ∧ RTape I ∧ (I 120 18 = I 47 4 ∧ I 120 20 = I 47 5) ∧ (I 120 21 = 0 ∧ I 120 22 = -1 ∧ I 120 25 = 0 ∧ I 120 26 = 0)
