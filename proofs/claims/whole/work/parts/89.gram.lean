/-! the law's text: a grammar, and a reader with a stack, over any tokens -/
abbrev LX : Type := Nat × Nat × Nat × Int32
def LX.tk (L : LX) : Nat := L.2.1
def LX.pl (L : LX) : Nat := L.2.2.1
def LX.vl (L : LX) : Int32 := L.2.2.2
abbrev GSt : Type := List (Nat × Int32)
abbrev GR : Type := Except (Nat × Nat) (LX × GSt)
/-- the class's reader: what it awaits, what is held, open, brackets, right side, code, (lines, this line), fault -/
abbrev RdS : Type := Nat × List Nat × Nat × Nat × Bool × List Int32 × (List (Int32 × Nat) × Int32) × (Nat × Nat)
def rnk (h : Nat) : Nat := if h = 5 then 1 else if h = 6 then 2 else if h = 7 then 3 else if h = 22 ∨ h = 23 ∨ h = 24 then 4 else if h = 16 ∨ h = 17 then 5 else if h = 18 ∨ h = 19 then 6 else 0
def rel (r : Nat) : List Nat → List Int32 → Nat → List Nat × List Int32 × Nat
  | [], C, o => ([], C, o)
  | h :: H, C, o => if r ≤ rnk h then rel r H (C ++ [-(nI h)]) (if h = 7 then o - 1 else o) else (h :: H, C, o)
def rdFail (k p : Nat) (s : RdS) : RdS := (8, s.2.1, s.2.2.1, s.2.2.2.1, s.2.2.2.2.1, s.2.2.2.2.2.1, s.2.2.2.2.2.2.1, (k, p))
def rdUnit (L : LX) : RdS → RdS
  | (_, H, o, b, rt, C, g, f) => if L.tk = 1 then (if rt = true then 6 else 5, H, o, b, rt, C ++ [L.vl], g, f) else if 8 ≤ L.tk ∧ L.tk ≤ 14 then (if rt = true then 6 else 5, H, o, b, rt, C ++ [-(nI L.tk)], g, f) else rdFail 1 L.pl (8, H, o, b, rt, C, g, f)
def rdJoin (aw : Nat) (rt' : Bool) (L : LX) : RdS → RdS
  | (_, H, o, b, _, C, g, f) => (aw, L.tk :: (rel (rnk L.tk) H C o).1, (rel (rnk L.tk) H C o).2.2, b, rt', (rel (rnk L.tk) H C o).2.1, g, f)
def rdClosed (L : LX) : RdS → RdS
  | (aw, H, o, b, rt, C, g, f) =>
    if L.tk = 6 ∨ L.tk = 5 then rdJoin 2 rt L (aw, H, o, b, rt, C, g, f)
    else if L.tk = 21 ∧ 0 < b then (7, (rel 1 H C o).1.tail, (rel 1 H C o).2.2 - 1, b - 1, rt, (rel 1 H C o).2.1, g, f)
    else if L.tk = 15 ∧ b = 0 then (0, (rel 1 H C o).1, (rel 1 H C o).2.2, b, rt, (rel 1 H C o).2.1, (g.1 ++ [(g.2, (rel 1 H C o).2.1.length)], g.2), f)
    else rdFail 1 L.pl (aw, H, o, b, rt, C, g, f)
def rdStep (L : LX) : RdS → RdS
  | (aw, H, o, b, rt, C, g, f) =>
    if aw = 0 then (if L.tk = 0 then (8, H, o, b, rt, C, g, f) else if L.tk ≠ 2 ∧ L.tk ≠ 3 then rdFail 1 L.pl (aw, H, o, b, rt, C, g, f) else if 16 ≤ g.1.length then rdFail 3 L.pl (aw, H, o, b, rt, C, g, f) else (1, [], 0, 0, rt, C, (g.1, if L.tk = 2 then 0 else 1), f))
    else if aw = 1 then (if L.tk = 4 then (2, H, o, b, rt, C, g, f) else if L.tk = 15 then (0, H, o, b, rt, C, (g.1 ++ [(g.2, C.length)], g.2), f) else rdFail 1 L.pl (aw, H, o, b, rt, C, g, f))
    else if aw = 2 then (if L.tk ≠ 7 ∧ L.tk ≠ 20 then rdUnit L (aw, H, o, b, false, C, g, f) else if 8 ≤ o then rdFail 3 L.pl (aw, H, o, b, rt, C, g, f) else (2, L.tk :: H, o + 1, (if L.tk = 20 then b + 1 else b), rt, C, g, f))
    else if aw = 3 then rdUnit L (aw, H, o, b, rt, C, g, f)
    else if aw = 4 then (if L.tk = 1 ∧ L.vl = 0 then rdFail 2 L.pl (aw, H, o, b, rt, C, g, f) else if L.tk = 1 then rdUnit L (aw, H, o, b, rt, C, g, f) else rdFail 1 L.pl (aw, H, o, b, rt, C, g, f))
    else if aw = 5 then (if 22 ≤ L.tk ∧ L.tk ≤ 24 then rdJoin 3 true L (aw, H, o, b, rt, C, g, f) else if 16 ≤ L.tk ∧ L.tk ≤ 19 then rdJoin (if L.tk = 19 then 4 else 3) rt L (aw, H, o, b, rt, C, g, f) else rdFail 1 L.pl (aw, H, o, b, rt, C, g, f))
    else if aw = 6 then (if 16 ≤ L.tk ∧ L.tk ≤ 19 then rdJoin (if L.tk = 19 then 4 else 3) rt L (aw, H, o, b, rt, C, g, f) else rdClosed L (aw, H, o, b, rt, C, g, f))
    else rdClosed L (aw, H, o, b, rt, C, g, f)
section G
variable (nx : LX → LX)
def crun : Nat → RdS → LX → RdS
  | 0, s, _ => s
  | m + 1, s, L => if s.1 = 8 then s else crun m (rdStep L s) (nx L)
/-- the grammar -/
def gUnit (L : LX) : GR := if L.tk = 1 then .ok (nx L, [(0, L.vl)]) else if 8 ≤ L.tk ∧ L.tk ≤ 14 then .ok (nx L, [(L.tk - 7, L.vl)]) else .error (1, L.pl)
def gProdL : Nat → LX → GR
  | 0, _ => .error (9, 0)
  | m + 1, L =>
    if L.tk = 18 then (match gUnit nx (nx L) with
      | .error e => .error e
      | .ok (L1, s1) => match gProdL m L1 with
        | .error e => .error e
        | .ok (L2, s2) => .ok (L2, s1 ++ (15, 0) :: s2))
    else if L.tk = 19 then (if (nx L).tk ≠ 1 then .error (1, (nx L).pl) else if (nx L).vl = 0 then .error (2, (nx L).pl) else match gProdL m (nx (nx L)) with
      | .error e => .error e
      | .ok (L2, s2) => .ok (L2, (16, (nx L).vl) :: s2))
    else .ok (L, [])
def gProd (m : Nat) (L : LX) : GR := match gUnit nx L with
  | .error e => .error e
  | .ok (L1, s1) => match gProdL nx m L1 with
    | .error e => .error e
    | .ok (L2, s2) => .ok (L2, s1 ++ s2)
def gSumL : Nat → LX → GR
  | 0, _ => .error (9, 0)
  | m + 1, L =>
    if L.tk = 16 ∨ L.tk = 17 then (match gProd nx m (nx L) with
      | .error e => .error e
      | .ok (L1, s1) => match gSumL m L1 with
        | .error e => .error e
        | .ok (L2, s2) => .ok (L2, s1 ++ (L.tk - 3, 0) :: s2))
    else .ok (L, [])
def gSum (m : Nat) (L : LX) : GR := match gProd nx m L with
  | .error e => .error e
  | .ok (L1, s1) => match gSumL nx m L1 with
    | .error e => .error e
    | .ok (L2, s2) => .ok (L2, s1 ++ s2)
/-- 0 any, 1 its loop, 2 every, 3 its loop, 4 one test -/
def gCond : Nat → Nat → Nat → LX → GR
  | 0, _, _, _ => .error (9, 0)
  | m + 1, q, d, L =>
    if q = 0 then (match gCond m 2 d L with
      | .error e => .error e
      | .ok (L1, s1) => match gCond m 1 d L1 with
        | .error e => .error e
        | .ok (L2, s2) => .ok (L2, s1 ++ s2))
    else if q = 1 then (if L.tk = 5 then (match gCond m 2 d (nx L) with
      | .error e => .error e
      | .ok (L1, s1) => match gCond m 1 d L1 with
        | .error e => .error e
        | .ok (L2, s2) => .ok (L2, s1 ++ (22, 0) :: s2)) else .ok (L, []))
    else if q = 2 then (match gCond m 4 d L with
      | .error e => .error e
      | .ok (L1, s1) => match gCond m 3 d L1 with
        | .error e => .error e
        | .ok (L2, s2) => .ok (L2, s1 ++ s2))
    else if q = 3 then (if L.tk = 6 then (match gCond m 4 d (nx L) with
      | .error e => .error e
      | .ok (L1, s1) => match gCond m 3 d L1 with
        | .error e => .error e
        | .ok (L2, s2) => .ok (L2, s1 ++ (21, 0) :: s2)) else .ok (L, []))
    else if L.tk = 7 then (if d = 8 then .error (3, L.pl) else match gCond m 4 (d + 1) (nx L) with
      | .error e => .error e
      | .ok (L1, s1) => .ok (L1, s1 ++ [(20, 0)]))
    else if L.tk = 20 then (if d = 8 then .error (3, L.pl) else match gCond m 0 (d + 1) (nx L) with
      | .error e => .error e
      | .ok (L1, s1) => if L1.tk = 21 then .ok (nx L1, s1) else .error (1, L1.pl))
    else match gSum nx m L with
      | .error e => .error e
      | .ok (L1, s1) => if 22 ≤ L1.tk ∧ L1.tk ≤ 24 then (match gSum nx m (nx L1) with
        | .error e => .error e
        | .ok (L2, s2) => .ok (L2, s1 ++ (s2 ++ [(L1.tk - 5, 0)]))) else .error (1, L1.pl)
end G
/-! what is released -/
theorem rel_nil {r : Nat} {C : List Int32} {o : Nat} : rel r [] C o = ([], C, o) := rfl
theorem rel_yes {r h : Nat} {H : List Nat} {C : List Int32} {o : Nat} (q : r ≤ rnk h) : rel r (h :: H) C o = rel r H (C ++ [-(nI h)]) (if h = 7 then o - 1 else o) := by rw [rel, if_pos q]
theorem rel_no {r h : Nat} {H : List Nat} {C : List Int32} {o : Nat} (q : rnk h < r) : rel r (h :: H) C o = (h :: H, C, o) := by rw [rel, if_neg (by omega)]
theorem rel_rel {r r' : Nat} (h : r' ≤ r) : ∀ (H : List Nat) (C : List Int32) (o : Nat), rel r' (rel r H C o).1 (rel r H C o).2.1 (rel r H C o).2.2 = rel r' H C o
  | [], C, o => rfl
  | x :: H, C, o => by
    by_cases q : r ≤ rnk x
    · rw [rel_yes q, rel_yes (show r' ≤ rnk x by omega)]
      exact rel_rel h H _ _
    · rw [rel_no (by omega)]
/-- nothing there is released -/
def Top (r : Nat) (H : List Nat) : Prop := H = [] ∨ ∃ x T, H = x :: T ∧ rnk x < r
theorem Top.rel {r : Nat} {H : List Nat} (h : Top r H) {C : List Int32} {o : Nat} : rel r H C o = (H, C, o) := by
  rcases h with rfl | ⟨x, T, rfl, hx⟩
  · rfl
  · exact rel_no hx
theorem Top.cons {r x : Nat} {H : List Nat} (h : rnk x < r) : Top r (x :: H) := Or.inr ⟨x, H, rfl, h⟩
theorem Top.le {r r' : Nat} {H : List Nat} (h : Top r H) (hr : r ≤ r') : Top r' H := by
  rcases h with rfl | ⟨x, T, rfl, hx⟩
  · exact Or.inl rfl
  · exact Or.inr ⟨x, T, rfl, by omega⟩
/-- two states that release alike -/
def Rq (r : Nat) (H : List Nat) (C : List Int32) (o : Nat) (H' : List Nat) (C' : List Int32) (o' : Nat) : Prop := ∀ r', r' ≤ r → rel r' H C o = rel r' H' C' o'
theorem Rq.refl {r : Nat} {H : List Nat} {C : List Int32} {o : Nat} : Rq r H C o H C o := fun _ _ => rfl
theorem Rq.of {r : Nat} {H : List Nat} {C : List Int32} {o : Nat} {H' : List Nat} {C' : List Int32} {o' : Nat} (h : rel r H C o = rel r H' C' o') : Rq r H C o H' C' o' := fun r' hr => by
  rw [← rel_rel hr H C o, ← rel_rel hr H' C' o', h]
theorem Rq.le {r r' : Nat} {H : List Nat} {C : List Int32} {o : Nat} {H' : List Nat} {C' : List Int32} {o' : Nat} (h : Rq r H C o H' C' o') (hr : r' ≤ r) : Rq r' H C o H' C' o' := fun x hx => h x (by omega)
theorem Rq.trans {r : Nat} {H : List Nat} {C : List Int32} {o : Nat} {H' : List Nat} {C' : List Int32} {o' : Nat} {H2 : List Nat} {C2 : List Int32} {o2 : Nat} (h : Rq r H C o H' C' o') (h2 : Rq r H' C' o' H2 C2 o2) : Rq r H C o H2 C2 o2 := fun x hx => (h x hx).trans (h2 x hx)
theorem Rq.pop {r x : Nat} {H : List Nat} {C : List Int32} {o : Nat} (hx : r ≤ rnk x) (h7 : x ≠ 7) : Rq r (x :: H) C o H (C ++ [-(nI x)]) o := fun r' hr => by
  rw [rel_yes (by omega), if_neg h7]
theorem Rq.pop7 {r : Nat} {H : List Nat} {C : List Int32} {o : Nat} (hr : r ≤ 3) : Rq r (7 :: H) C (o + 1) H (C ++ [-(nI 7)]) o := fun r' hr' => by
  rw [rel_yes (show r' ≤ rnk 7 by show r' ≤ 3; omega), if_pos rfl, Nat.add_sub_cancel]
