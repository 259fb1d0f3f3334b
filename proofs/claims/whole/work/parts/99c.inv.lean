/-! what holds of the reader's states -/
def topr : List Nat → Nat
  | [] => 0
  | x :: _ => rnk x
def Hok : List Nat → Prop
  | [] => True
  | x :: H => x ≤ 24 ∧ (x = 7 ∨ x = 20 ∨ topr H < rnk x) ∧ Hok H
theorem topr_le : ∀ H : List Nat, topr H ≤ 6
  | [] => by show 0 ≤ 6; omega
  | x :: _ => rnk_le x
theorem Hok.len : ∀ {H : List Nat}, Hok H → H.length ≤ 7 * (c7 H + c20 H) + topr H
  | [], _ => by show 0 ≤ _; omega
  | x :: H, h => by
    have ih := Hok.len h.2.2
    have r6 := topr_le H
    rcases h.2.1 with q | q | q
    · subst q; show H.length + 1 ≤ 7 * ((1 + c7 H) + (0 + c20 H)) + 3; omega
    · subst q; show H.length + 1 ≤ 7 * ((0 + c7 H) + (1 + c20 H)) + 0; omega
    · show H.length + 1 ≤ 7 * (((if x = 7 then 1 else 0) + c7 H) + ((if x = 20 then 1 else 0) + c20 H)) + rnk x
      generalize (if x = 7 then 1 else 0) = i7
      generalize (if x = 20 then 1 else 0) = i20
      omega
theorem Hok.lt64 {H : List Nat} (h : Hok H) (ho : c7 H + c20 H ≤ 8) : H.length < 64 := by
  have := h.len
  have := topr_le H
  omega
theorem Hok.le24 : ∀ {H : List Nat}, Hok H → ∀ x ∈ H, x ≤ 24
  | [], _, x, hx => absurd hx (by simp)
  | y :: H, h, x, hx => by
    rcases List.mem_cons.mp hx with q | q
    · rw [q]; exact h.1
    · exact Hok.le24 h.2.2 x q
theorem rel_ole (r : Nat) : ∀ (H : List Nat) (C : List Int32) (o : Nat), (rel r H C o).2.2 ≤ o
  | [], C, o => Nat.le_refl _
  | x :: H, C, o => by
    by_cases q : r ≤ rnk x
    · rw [rel_yes q]
      have := rel_ole r H (C ++ [-(nI x)]) (if x = 7 then o - 1 else o)
      by_cases w : x = 7
      · rw [if_pos w] at this ⊢; omega
      · rw [if_neg w] at this ⊢; omega
    · rw [rel_no (by omega)]; exact Nat.le_refl _
theorem rel_ok {r : Nat} (hr : 1 ≤ r) : ∀ (H : List Nat) (C : List Int32) (o : Nat), Hok H → o = c7 H + c20 H → Hok (rel r H C o).1 ∧ (rel r H C o).2.2 = c7 (rel r H C o).1 + c20 (rel r H C o).1 ∧ c20 (rel r H C o).1 = c20 H ∧ topr (rel r H C o).1 < r
  | [], C, o, _, ho => ⟨trivial, ho, rfl, hr⟩
  | x :: H, C, o, h, ho => by
    by_cases q : r ≤ rnk x
    · rw [rel_yes q]
      have n20 : x ≠ 20 := fun z => by
        subst z
        have : rnk 20 = 0 := rfl
        omega
      have ho' : (if x = 7 then o - 1 else o) = c7 H + c20 H := by
        have ho2 : o = ((if x = 7 then 1 else 0) + c7 H) + ((if x = 20 then 1 else 0) + c20 H) := ho
        rw [if_neg n20] at ho2
        by_cases w : x = 7
        · rw [if_pos w] at ho2 ⊢; omega
        · rw [if_neg w] at ho2 ⊢; omega
      obtain ⟨a1, a2, a3, a4⟩ := rel_ok hr H (C ++ [-(nI x)]) _ h.2.2 ho'
      refine ⟨a1, a2, a3.trans ?_, a4⟩
      show c20 H = (if x = 20 then 1 else 0) + c20 H
      rw [if_neg n20]; omega
    · rw [rel_no (by omega)]
      exact ⟨h, ho, rfl, by show rnk x < r; omega⟩
def RdK (k : Nat) (H : List Nat) (o b : Nat) (C : List Int32) : Prop := Hok H ∧ o = c7 H + c20 H ∧ b = c20 H ∧ o ≤ 8 ∧ C.length + H.length + 1 ≤ k
def RdI (k : Nat) (s : RdS) : Prop := s.1 ≤ 8 ∧ (s.1 = 0 → s.2.2.2.2.2.1.length ≤ k) ∧ (1 ≤ s.1 → s.1 ≤ 7 → RdK k s.2.1 s.2.2.1 s.2.2.2.1 s.2.2.2.2.2.1)
section S
variable {aw : Nat} {H : List Nat} {o b : Nat} {rt : Bool} {C : List Int32} {g : List (Int32 × Nat) × Int32} {f : Nat × Nat} {k : Nat} {L : LX}
theorem RdI.fail {j p : Nat} {s : RdS} : RdI k (rdFail j p s) := ⟨Nat.le_refl 8, fun z => absurd z (by show ¬ 8 = 0; omega), fun _ z => absurd z (by show ¬ 8 ≤ 7; omega)⟩
theorem RdI.on {a' : Nat} (ha : 1 ≤ a' ∧ a' ≤ 7) (h : RdK k H o b C) : RdI k (a', H, o, b, rt, C, g, f) := ⟨by show a' ≤ 8; omega, fun z => absurd z (by show ¬ a' = 0; omega), fun _ _ => h⟩
theorem RdK.app {x : Int32} (h : RdK k H o b C) : RdK (k + 1) H o b (C ++ [x]) := by
  obtain ⟨h1, h2, h3, h4, h5⟩ := h
  exact ⟨h1, h2, h3, h4, by rw [List.length_append]; show C.length + 1 + H.length + 1 ≤ k + 1; omega⟩
theorem RdK.more (h : RdK k H o b C) : RdK (k + 1) H o b C := ⟨h.1, h.2.1, h.2.2.1, h.2.2.2.1, by have := h.2.2.2.2; omega⟩
theorem RdI.unit (h : RdK k H o b C) : RdI (k + 1) (rdUnit L (aw, H, o, b, rt, C, g, f)) := by
  have hb : (if rt = true then 6 else 5) = 5 ∨ (if rt = true then 6 else 5) = 6 := bw_56 rt
  rw [rdUnit]
  by_cases q1 : L.tk = 1
  · rw [if_pos q1]
    exact RdI.on (by omega) h.app
  · rw [if_neg q1]
    by_cases q2 : 8 ≤ L.tk ∧ L.tk ≤ 14
    · rw [if_pos q2]
      exact RdI.on (by omega) h.app
    · rw [if_neg q2]
      exact RdI.fail
theorem RdI.join {a' : Nat} {rt' : Bool} (ha : 1 ≤ a' ∧ a' ≤ 7) (ht : L.tk ≤ 24) (hr : 1 ≤ rnk L.tk) (h7 : L.tk ≠ 7) (h20 : L.tk ≠ 20) (h : RdK k H o b C) : RdI (k + 1) (rdJoin a' rt' L (aw, H, o, b, rt, C, g, f)) := by
  obtain ⟨h1, h2, h3, h4, h5⟩ := h
  obtain ⟨a1, a2, a3, a4⟩ := rel_ok hr H C o h1 h2
  have hl := (rel_len (rnk L.tk) H C o).2
  have ho := rel_ole (rnk L.tk) H C o
  rw [rdJoin]
  refine RdI.on ha ⟨⟨ht, Or.inr (Or.inr a4), a1⟩, ?_, ?_, by omega, ?_⟩
  · show _ = ((if L.tk = 7 then 1 else 0) + c7 _) + ((if L.tk = 20 then 1 else 0) + c20 _)
    rw [if_neg h7, if_neg h20, a2]; omega
  · show _ = (if L.tk = 20 then 1 else 0) + c20 _
    rw [if_neg h20, a3, h3]; omega
  · show _ + ((rel (rnk L.tk) H C o).1.length + 1) + 1 ≤ _
    omega
theorem rel1 (h : RdK k H o b C) (hb : 0 < b) : ∃ T, (rel 1 H C o).1 = 20 :: T ∧ RdK k T ((rel 1 H C o).2.2 - 1) (b - 1) (rel 1 H C o).2.1 ∧ 0 < (rel 1 H C o).2.2 := by
  obtain ⟨h1, h2, h3, h4, h5⟩ := h
  obtain ⟨a1, a2, a3, a4⟩ := rel_ok (r := 1) (by omega) H C o h1 h2
  have hl := (rel_len 1 H C o).2
  have ho := rel_ole 1 H C o
  cases q : (rel 1 H C o).1 with
  | nil =>
    rw [q] at a3
    have : 0 = c20 H := a3
    omega
  | cons x T =>
    rw [q] at a1 a2 a3 a4 hl
    have a4' : rnk x < 1 := a4
    have hx : x = 20 := by
      rcases a1.2.1 with w | w | w
      · subst w; exact absurd a4' (by decide)
      · exact w
      · omega
    subst hx
    have b2 : (rel 1 H C o).2.2 = (0 + c7 T) + (1 + c20 T) := a2
    have b3 : 1 + c20 T = c20 H := a3
    have hl' : (rel 1 H C o).2.1.length + (T.length + 1) = C.length + H.length := hl
    exact ⟨T, rfl, ⟨a1.2.2, by omega, by omega, by omega, by omega⟩, by omega⟩
theorem RdI.closed (h : RdK k H o b C) : RdI (k + 1) (rdClosed L (aw, H, o, b, rt, C, g, f)) := by
  rw [rdClosed]
  by_cases q1 : L.tk = 6 ∨ L.tk = 5
  · rw [if_pos q1]
    have hr : 1 ≤ rnk L.tk := by rcases q1 with q | q <;> rw [q] <;> decide
    exact RdI.join (by omega) (by omega) hr (by omega) (by omega) h
  rw [if_neg q1]
  by_cases q2 : L.tk = 21 ∧ 0 < b
  · rw [if_pos q2]
    obtain ⟨T, e, hk, -⟩ := rel1 h q2.2
    rw [e]
    exact RdI.on (by omega) hk.more
  rw [if_neg q2]
  by_cases q3 : L.tk = 15 ∧ b = 0
  · rw [if_pos q3]
    have hl := (rel_len 1 H C o).2
    have h5 := h.2.2.2.2
    exact ⟨by show 0 ≤ 8; omega, fun _ => by show (rel 1 H C o).2.1.length ≤ k + 1; omega, fun z => absurd z (by show ¬ 1 ≤ 0; omega)⟩
  rw [if_neg q3]
  exact RdI.fail
theorem RdI.step (h : RdI k (aw, H, o, b, rt, C, g, f)) (h8 : aw ≠ 8) : RdI (k + 1) (rdStep L (aw, H, o, b, rt, C, g, f)) := by
  obtain ⟨h1, h2, h3⟩ := h
  have h1' : aw ≤ 8 := h1
  rw [rdStep]
  by_cases a0 : aw = 0
  · rw [if_pos a0]
    have hC : C.length ≤ k := h2 a0
    by_cases t0 : L.tk = 0
    · rw [if_pos t0]
      exact RdI.fail (s := (aw, H, o, b, rt, C, g, f)) (j := f.1) (p := f.2)
    rw [if_neg t0]
    by_cases t2 : L.tk ≠ 2 ∧ L.tk ≠ 3
    · rw [if_pos t2]; exact RdI.fail
    rw [if_neg t2]
    by_cases t3 : 16 ≤ g.1.length
    · rw [if_pos t3]; exact RdI.fail
    rw [if_neg t3]
    exact RdI.on (by omega) ⟨trivial, rfl, rfl, by omega, by show C.length + 0 + 1 ≤ k + 1; omega⟩
  rw [if_neg a0]
  have hk : RdK k H o b C := h3 (by show 1 ≤ aw; omega) (by show aw ≤ 7; omega)
  by_cases a1 : aw = 1
  · rw [if_pos a1]
    by_cases t4 : L.tk = 4
    · rw [if_pos t4]; exact RdI.on (by omega) hk.more
    rw [if_neg t4]
    by_cases t15 : L.tk = 15
    · rw [if_pos t15]
      have h5 := hk.2.2.2.2
      exact ⟨by show 0 ≤ 8; omega, fun _ => by show C.length ≤ k + 1; omega, fun z => absurd z (by show ¬ 1 ≤ 0; omega)⟩
    rw [if_neg t15]; exact RdI.fail
  rw [if_neg a1]
  by_cases a2 : aw = 2
  · rw [if_pos a2]
    by_cases t7 : L.tk ≠ 7 ∧ L.tk ≠ 20
    · rw [if_pos t7]; exact RdI.unit hk
    rw [if_neg t7]
    by_cases t8 : 8 ≤ o
    · rw [if_pos t8]; exact RdI.fail
    rw [if_neg t8]
    obtain ⟨k1, k2, k3, k4, k5⟩ := hk
    have t720 : L.tk = 7 ∨ L.tk = 20 := by omega
    refine RdI.on (by omega) ?_
    rcases t720 with q | q
    · rw [q]
      exact ⟨⟨by omega, Or.inl rfl, k1⟩, by show o + 1 = (1 + c7 H) + (0 + c20 H); omega, by show b = 0 + c20 H; omega, by omega, by show C.length + (H.length + 1) + 1 ≤ k + 1; omega⟩
    · rw [q]
      exact ⟨⟨by omega, Or.inr (Or.inl rfl), k1⟩, by show o + 1 = (0 + c7 H) + (1 + c20 H); omega, by show b + 1 = 1 + c20 H; omega, by omega, by show C.length + (H.length + 1) + 1 ≤ k + 1; omega⟩
  rw [if_neg a2]
  by_cases a3 : aw = 3
  · rw [if_pos a3]; exact RdI.unit hk
  rw [if_neg a3]
  by_cases a4 : aw = 4
  · rw [if_pos a4]
    by_cases t1 : L.tk = 1 ∧ L.vl = 0
    · rw [if_pos t1]; exact RdI.fail
    rw [if_neg t1]
    by_cases t2 : L.tk = 1
    · rw [if_pos t2]; exact RdI.unit hk
    rw [if_neg t2]; exact RdI.fail
  rw [if_neg a4]
  have reck : 16 ≤ L.tk ∧ L.tk ≤ 19 → RdI (k + 1) (rdJoin (if L.tk = 19 then 4 else 3) rt L (aw, H, o, b, rt, C, g, f)) := fun t => by
    have hr : 1 ≤ rnk L.tk := by
      have : L.tk = 16 ∨ L.tk = 17 ∨ L.tk = 18 ∨ L.tk = 19 := by omega
      rcases this with q | q | q | q <;> rw [q] <;> decide
    refine RdI.join ?_ (by omega) hr (by omega) (by omega) hk
    by_cases w : L.tk = 19
    · rw [if_pos w]; omega
    · rw [if_neg w]; omega
  by_cases a5 : aw = 5
  · rw [if_pos a5]
    by_cases t1 : 22 ≤ L.tk ∧ L.tk ≤ 24
    · rw [if_pos t1]
      have hr : 1 ≤ rnk L.tk := by
        have : L.tk = 22 ∨ L.tk = 23 ∨ L.tk = 24 := by omega
        rcases this with q | q | q <;> rw [q] <;> decide
      exact RdI.join (by omega) (by omega) hr (by omega) (by omega) hk
    rw [if_neg t1]
    by_cases t2 : 16 ≤ L.tk ∧ L.tk ≤ 19
    · rw [if_pos t2]; exact reck t2
    rw [if_neg t2]; exact RdI.fail
  rw [if_neg a5]
  by_cases a6 : aw = 6
  · rw [if_pos a6]
    by_cases t2 : 16 ≤ L.tk ∧ L.tk ≤ 19
    · rw [if_pos t2]; exact reck t2
    rw [if_neg t2]; exact RdI.closed hk
  rw [if_neg a6]; exact RdI.closed hk
theorem RdK.roomy (h : RdK k H o b C) (hk : k ≤ 400) : Roomy H o C := by
  obtain ⟨h1, h2, h3, h4, h5⟩ := h
  exact ⟨h1.lt64 (by omega), by omega, h1.le24, by omega, by omega⟩
theorem RdK.bo (h : RdK k H o b C) (hb : 0 < b) : 0 < (rel 1 H C o).1.length ∧ 0 < (rel 1 H C o).2.2 := by
  obtain ⟨T, e, -, h2⟩ := rel1 h hb
  rw [e]
  exact ⟨Nat.succ_pos _, h2⟩
theorem rd_end (h : L.tk = 0) : (rdStep L (aw, H, o, b, rt, C, g, f)).1 = 8 := by
  have u : ∀ {aw : Nat} {rt : Bool}, (rdUnit L (aw, H, o, b, rt, C, g, f)).1 = 8 := fun {aw rt} => by
    rw [rdUnit, if_neg (by omega), if_neg (by omega)]; rfl
  have cl : (rdClosed L (aw, H, o, b, rt, C, g, f)).1 = 8 := by
    rw [rdClosed, if_neg (by omega), if_neg (by omega), if_neg (by omega)]; rfl
  rw [rdStep]
  by_cases a0 : aw = 0
  · rw [if_pos a0, if_pos h]
  rw [if_neg a0]
  by_cases a1 : aw = 1
  · rw [if_pos a1, if_neg (by omega), if_neg (by omega)]; rfl
  rw [if_neg a1]
  by_cases a2 : aw = 2
  · rw [if_pos a2, if_pos (by omega)]; exact u
  rw [if_neg a2]
  by_cases a3 : aw = 3
  · rw [if_pos a3]; exact u
  rw [if_neg a3]
  by_cases a4 : aw = 4
  · rw [if_pos a4, if_neg (by omega), if_neg (by omega)]; rfl
  rw [if_neg a4]
  by_cases a5 : aw = 5
  · rw [if_pos a5, if_neg (by omega), if_neg (by omega)]; rfl
  rw [if_neg a5]
  by_cases a6 : aw = 6
  · rw [if_pos a6, if_neg (by omega)]; exact cl
  rw [if_neg a6]; exact cl
/-- faults are of the three kinds -/
def Fk (s : RdS) : Prop := 1 ≤ s.2.2.2.2.2.2.2.1 ∧ s.2.2.2.2.2.2.2.1 ≤ 3
theorem Fk.fail {j p : Nat} {s : RdS} (hj : 1 ≤ j ∧ j ≤ 3) : Fk (rdFail j p s) := hj
theorem Fk.step (h : 1 ≤ f.1 ∧ f.1 ≤ 3) : Fk (rdStep L (aw, H, o, b, rt, C, g, f)) := by
  have u : ∀ {aw : Nat} {rt : Bool}, Fk (rdUnit L (aw, H, o, b, rt, C, g, f)) := fun {aw rt} => by
    rw [rdUnit]
    split
    · exact h
    · split
      · exact h
      · exact Fk.fail (by omega)
  have cl : Fk (rdClosed L (aw, H, o, b, rt, C, g, f)) := by
    rw [rdClosed]
    split
    · exact h
    · split
      · exact h
      · split
        · exact h
        · exact Fk.fail (by omega)
  have jn : ∀ {a' : Nat} {rt' : Bool}, Fk (rdJoin a' rt' L (aw, H, o, b, rt, C, g, f)) := fun {_ _} => h
  rw [rdStep]
  by_cases a0 : aw = 0
  · rw [if_pos a0]
    split
    · exact h
    · split
      · exact Fk.fail (by omega)
      · split
        · exact Fk.fail (by omega)
        · exact h
  rw [if_neg a0]
  by_cases a1 : aw = 1
  · rw [if_pos a1]
    split
    · exact h
    · split
      · exact h
      · exact Fk.fail (by omega)
  rw [if_neg a1]
  by_cases a2 : aw = 2
  · rw [if_pos a2]
    split
    · exact u
    · split
      · exact Fk.fail (by omega)
      · exact h
  rw [if_neg a2]
  by_cases a3 : aw = 3
  · rw [if_pos a3]; exact u
  rw [if_neg a3]
  by_cases a4 : aw = 4
  · rw [if_pos a4]
    split
    · exact Fk.fail (by omega)
    · split
      · exact u
      · exact Fk.fail (by omega)
  rw [if_neg a4]
  by_cases a5 : aw = 5
  · rw [if_pos a5]
    split
    · exact jn
    · split
      · exact jn
      · exact Fk.fail (by omega)
  rw [if_neg a5]
  by_cases a6 : aw = 6
  · rw [if_pos a6]
    split
    · exact jn
    · exact cl
  rw [if_neg a6]; exact cl
end S
section H
variable {nx : LX → LX} {ms : LX → Nat}
theorem Fk.run : ∀ (m : Nat) (s : RdS) (L : LX), Fk s → Fk (crun nx m s L)
  | 0, s, L, h => h
  | m + 1, (aw, H, o, b, rt, C, g, f), L, h => by
    rw [crun]
    by_cases q : aw = 8
    · rw [if_pos q]; exact h
    · rw [if_neg q]; exact Fk.run m _ _ (Fk.step h)
theorem crun_ends (hx : Lexy nx ms) : ∀ (m : Nat) (s : RdS) (L : LX), ms L < m → (crun nx m s L).1 = 8
  | 0, s, L, h => absurd h (Nat.not_lt_zero _)
  | m + 1, (aw, H, o, b, rt, C, g, f), L, h => by
    rw [crun]
    by_cases q : aw = 8
    · rw [if_pos q]; exact q
    · rw [if_neg q]
      by_cases t : L.tk = 0
      · have e := rd_end (aw := aw) (H := H) (o := o) (b := b) (rt := rt) (C := C) (g := g) (f := f) t
        rw [crun_rest e]; exact e
      · have := hx.1 L t
        exact crun_ends hx m _ _ (by omega)
def rd0 : RdS := (0, [], 0, 0, false, [], ([], 0), (0, 0))
/-- what the class's reader comes to -/
theorem class_law (hx : Lexy nx ms) {L : LX} (hv : Vok L) (hm : ms L ≤ 400) :
    (∀ ps, gLaw nx 2000 402 [] L = .ok ps → lw_ok ps ∧ ∃ H o b rt ls cur, crun nx 401 rd0 L = (8, H, o, b, rt, lw_code ps, (ls, cur), (0, 0)) ∧ LR ps ls) ∧ (∀ e, gLaw nx 2000 402 [] L = .error e → (1 ≤ e.1 ∧ e.1 ≤ 3) ∧ ∃ H o b rt C g, crun nx 401 rd0 L = (8, H, o, b, rt, C, g, e)) := by
  have hg : LwGood ms 400 [] L := ⟨by show 0 ≤ 16; omega, by show 0 + ms L ≤ 400; omega, fun q hq => absurd hq (by simp)⟩
  have hl : LR [] [] := ⟨rfl, fun i hi => absurd hi (Nat.not_lt_zero _)⟩
  have he : (crun nx 401 rd0 L).1 = 8 := crun_ends hx 401 _ _ (by omega)
  refine ⟨fun ps h => ?_, fun e h => ?_⟩
  · obtain ⟨i1, -⟩ := lawful hx (K := 2000) (N := 400) 402 L [] [] (by omega) (by omega) hv hg hl [] 0 0 false 0 (0, 0)
    obtain ⟨H, o, b, rt, ls, cur, L', r1, r2, L2, r3⟩ := i1 ps h
    exact ⟨r3.ok (Nat.le_refl _), H, o, b, rt, ls, cur, Rc.run r1 rfl he, r2⟩
  · obtain ⟨-, i2⟩ := lawful hx (K := 2000) (N := 400) 402 L [] [] (by omega) (by omega) hv hg hl [] 0 0 false 0 (0, 0)
    obtain ⟨-, i3⟩ := lawful hx (K := 2000) (N := 400) 402 L [] [] (by omega) (by omega) hv hg hl [] 0 0 false 0 (1, 0)
    obtain ⟨H, o, b, rt, C, g, L', r1⟩ := i2 e h
    obtain ⟨H', o', b', rt', C', g', L2, j, r2⟩ := i3 e h
    refine ⟨?_, H, o, b, rt, C, g, Rc.run r1 rfl he⟩
    have := Fk.run (nx := nx) (0 + j) (0, [], 0, 0, false, [], ([], 0), (1, 0)) L ⟨by show 1 ≤ 1; omega, by show 1 ≤ 3; omega⟩
    rw [show ([] : List Int32) = lw_code [] from rfl, r2 0] at this
    exact this
end H
