/-! what the grammar yields is well made -/
theorem ty_app : ∀ (s : List Bool) (a b : GSt), lw_ty s (a ++ b) = (match lw_ty s a with
  | none => none
  | some s' => lw_ty s' b)
  | s, [], b => rfl
  | s, p :: a, b => by
    rw [List.cons_append, lw_ty, lw_ty]
    cases lw_t1 s p with
    | none => rfl
    | some s' => exact ty_app s' a b
theorem ty_then {s s1 s2 : List Bool} {a b : GSt} (h1 : lw_ty s a = some s1) (h2 : lw_ty s1 b = some s2) : lw_ty s (a ++ b) = some s2 := by rw [ty_app, h1]; exact h2
theorem ty_one {s s1 : List Bool} {p : Nat × Int32} (h : lw_t1 s p = some s1) : lw_ty s [p] = some s1 := by rw [lw_ty, h]; rfl
theorem ty_cons {s s1 s2 : List Bool} {p : Nat × Int32} {b : GSt} (h1 : lw_t1 s p = some s1) (h2 : lw_ty s1 b = some s2) : lw_ty s (p :: b) = some s2 := by rw [lw_ty, h1]; exact h2
theorem ty_ar {s : List Bool} {k : Nat} (h1 : 13 ≤ k) (h2 : k ≤ 15) : lw_t1 (false :: false :: s) (k, 0) = some (false :: s) := by
  have : k = 13 ∨ k = 14 ∨ k = 15 := by omega
  rcases this with rfl | rfl | rfl <;> rfl
theorem ty_cmp {s : List Bool} {k : Nat} (h1 : 17 ≤ k) (h2 : k ≤ 19) : lw_t1 (false :: false :: s) (k, 0) = some (true :: s) := by
  have : k = 17 ∨ k = 18 ∨ k = 19 := by omega
  rcases this with rfl | rfl | rfl <;> rfl
theorem ty_ao {s : List Bool} {k : Nat} (h : k = 21 ∨ k = 22) : lw_t1 (true :: true :: s) (k, 0) = some (true :: s) := by rcases h with rfl | rfl <;> rfl
theorem ty_not {s : List Bool} : lw_t1 (true :: s) (20, 0) = some (true :: s) := rfl
section G
variable {nx : LX → LX} {ms : LX → Nat}
/-- lexers of which the grammar makes sense -/
def Lexy (nx : LX → LX) (ms : LX → Nat) : Prop := (∀ L : LX, L.tk ≠ 0 → ms (nx L) < ms L) ∧ ∀ L : LX, 0 ≤ (nx L).vl.toInt
def Vok (L : LX) : Prop := 0 ≤ L.vl.toInt
theorem g_unit (hx : Lexy nx ms) {L L1 : LX} {s : GSt} {T : List Bool} (hv : Vok L) (hT : T.length < 60) (h : gUnit nx L = .ok (L1, s)) : (encs s).length + ms L1 ≤ ms L ∧ Vok L1 ∧ lw_ty T s = some (false :: T) := by
  unfold gUnit at h
  by_cases q1 : L.tk = 1
  · rw [if_pos q1] at h
    cases h
    have := hx.1 L (by omega)
    refine ⟨by show 1 + ms (nx L) ≤ ms L; omega, hx.2 L, ty_one ?_⟩
    unfold lw_t1
    rw [if_pos rfl, if_pos ⟨hv, hT⟩]
  · rw [if_neg q1] at h
    by_cases q2 : 8 ≤ L.tk ∧ L.tk ≤ 14
    · rw [if_pos q2] at h
      cases h
      have := hx.1 L (by omega)
      refine ⟨by rw [encs_cons, enc_name q2.1 q2.2]; show 1 + ms (nx L) ≤ ms L; omega, hx.2 L, ty_one ?_⟩
      unfold lw_t1
      rw [if_neg (by show ¬ L.tk - 7 = 0; omega), if_pos (by show L.tk - 7 < 8; omega), if_pos hT]
    · rw [if_neg q2] at h; exact absurd h (by simp)
theorem g_prodL (hx : Lexy nx ms) : ∀ (m : Nat) {L L1 : LX} {s : GSt} {T : List Bool}, Vok L → T.length < 58 → gProdL nx m L = .ok (L1, s) → (encs s).length + ms L1 ≤ ms L ∧ Vok L1 ∧ lw_ty (false :: T) s = some (false :: T)
  | 0, L, L1, s, T, _, _, h => by rw [gProdL] at h; exact absurd h (by simp)
  | m + 1, L, L1, s, T, hv, hT, h => by
    rw [gProdL] at h
    by_cases q18 : L.tk = 18
    · rw [if_pos q18] at h
      have hl := hx.1 L (by omega)
      cases hu : gUnit nx (nx L) with
      | error e => rw [hu] at h; exact absurd h (by simp)
      | ok p =>
        obtain ⟨L2, s1⟩ := p
        rw [hu] at h
        simp only at h
        cases hp : gProdL nx m L2 with
        | error e => rw [hp] at h; exact absurd h (by simp)
        | ok p =>
          obtain ⟨L3, s2⟩ := p
          rw [hp] at h
          cases h
          obtain ⟨a1, a2, a3⟩ := g_unit hx (T := false :: T) (hx.2 L) (by show T.length + 1 < 60; omega) hu
          obtain ⟨b1, b2, b3⟩ := g_prodL hx m (T := T) a2 hT hp
          refine ⟨?_, b2, ty_then a3 (ty_cons (ty_ar (by omega) (by omega)) b3)⟩
          rw [encs_app, encs_cons, List.length_append, List.length_append]
          show _ + (1 + _) + _ ≤ _
          omega
    rw [if_neg q18] at h
    by_cases q19 : L.tk = 19
    · rw [if_pos q19] at h
      have hl := hx.1 L (by omega)
      by_cases q1 : (nx L).tk ≠ 1
      · rw [if_pos q1] at h; exact absurd h (by simp)
      rw [if_neg q1] at h
      by_cases q0 : (nx L).vl = 0
      · rw [if_pos q0] at h; exact absurd h (by simp)
      rw [if_neg q0] at h
      have hl2 := hx.1 (nx L) (by omega)
      cases hp : gProdL nx m (nx (nx L)) with
      | error e => rw [hp] at h; exact absurd h (by simp)
      | ok p =>
        obtain ⟨L3, s2⟩ := p
        rw [hp] at h
        cases h
        obtain ⟨b1, b2, b3⟩ := g_prodL hx m (T := T) (hx.2 (nx L)) hT hp
        have pos : 0 < (nx L).vl.toInt := by
          have h0 := hx.2 L
          have : ¬ (nx L).vl.toInt = 0 := fun z => q0 (Int32.toInt_inj.mp z)
          omega
        refine ⟨?_, b2, ty_cons (s1 := false :: T) ?_ b3⟩
        · rw [encs_cons, List.length_append]
          show 2 + _ + _ ≤ _
          omega
        · show (if _ then _ else _) = _
          rw [if_neg (by omega), if_neg (by omega)]
          show (if _ then _ else _) = _
          rw [if_pos rfl, if_pos ⟨rfl, pos, by omega⟩]
    rw [if_neg q19] at h
    cases h
    exact ⟨by rw [encs_nil]; show 0 + _ ≤ _; omega, hv, rfl⟩
theorem g_prod (hx : Lexy nx ms) {m : Nat} {L L1 : LX} {s : GSt} {T : List Bool} (hv : Vok L) (hT : T.length < 58) (h : gProd nx m L = .ok (L1, s)) : (encs s).length + ms L1 ≤ ms L ∧ Vok L1 ∧ lw_ty T s = some (false :: T) := by
  rw [gProd] at h
  cases hu : gUnit nx L with
  | error e => rw [hu] at h; exact absurd h (by simp)
  | ok p =>
    obtain ⟨L2, s1⟩ := p
    rw [hu] at h
    simp only at h
    cases hp : gProdL nx m L2 with
    | error e => rw [hp] at h; exact absurd h (by simp)
    | ok p =>
      obtain ⟨L3, s2⟩ := p
      rw [hp] at h
      cases h
      obtain ⟨a1, a2, a3⟩ := g_unit hx (T := T) hv (by omega) hu
      obtain ⟨b1, b2, b3⟩ := g_prodL hx m (T := T) a2 hT hp
      exact ⟨by rw [encs_app, List.length_append]; omega, b2, ty_then a3 b3⟩
theorem g_sumL (hx : Lexy nx ms) : ∀ (m : Nat) {L L1 : LX} {s : GSt} {T : List Bool}, Vok L → T.length < 57 → gSumL nx m L = .ok (L1, s) → (encs s).length + ms L1 ≤ ms L ∧ Vok L1 ∧ lw_ty (false :: T) s = some (false :: T)
  | 0, L, L1, s, T, _, _, h => by rw [gSumL] at h; exact absurd h (by simp)
  | m + 1, L, L1, s, T, hv, hT, h => by
    rw [gSumL] at h
    by_cases q : L.tk = 16 ∨ L.tk = 17
    · rw [if_pos q] at h
      have hl := hx.1 L (by omega)
      cases hu : gProd nx m (nx L) with
      | error e => rw [hu] at h; exact absurd h (by simp)
      | ok p =>
        obtain ⟨L2, s1⟩ := p
        rw [hu] at h
        simp only at h
        cases hp : gSumL nx m L2 with
        | error e => rw [hp] at h; exact absurd h (by simp)
        | ok p =>
          obtain ⟨L3, s2⟩ := p
          rw [hp] at h
          cases h
          obtain ⟨a1, a2, a3⟩ := g_prod hx (T := false :: T) (hx.2 L) (by show T.length + 1 < 58; omega) hu
          obtain ⟨b1, b2, b3⟩ := g_sumL hx m (T := T) a2 hT hp
          refine ⟨?_, b2, ty_then a3 (ty_cons (ty_ar (by omega) (by omega)) b3)⟩
          have en : (lw_enc (L.tk - 3, 0)).length = 1 := by rcases q with q | q <;> rw [q] <;> rfl
          rw [encs_app, encs_cons, List.length_append, List.length_append, en]
          omega
    rw [if_neg q] at h
    cases h
    exact ⟨by rw [encs_nil]; show 0 + _ ≤ _; omega, hv, rfl⟩
theorem g_sum (hx : Lexy nx ms) {m : Nat} {L L1 : LX} {s : GSt} {T : List Bool} (hv : Vok L) (hT : T.length < 57) (h : gSum nx m L = .ok (L1, s)) : (encs s).length + ms L1 ≤ ms L ∧ Vok L1 ∧ lw_ty T s = some (false :: T) := by
  rw [gSum] at h
  cases hu : gProd nx m L with
  | error e => rw [hu] at h; exact absurd h (by simp)
  | ok p =>
    obtain ⟨L2, s1⟩ := p
    rw [hu] at h
    simp only at h
    cases hp : gSumL nx m L2 with
    | error e => rw [hp] at h; exact absurd h (by simp)
    | ok p =>
      obtain ⟨L3, s2⟩ := p
      rw [hp] at h
      cases h
      obtain ⟨a1, a2, a3⟩ := g_prod hx (T := T) hv (by omega) hu
      obtain ⟨b1, b2, b3⟩ := g_sumL hx m (T := T) a2 hT hp
      exact ⟨by rw [encs_app, List.length_append]; omega, b2, ty_then a3 b3⟩
def gOff (q : Nat) : Nat := if q = 0 then 0 else if q = 1 then 0 else if q = 2 then 1 else if q = 3 then 1 else 2
def gIn (q : Nat) (T : List Bool) : List Bool := if q = 1 ∨ q = 3 then true :: T else T
set_option maxHeartbeats 1000000 in
theorem g_cond (hx : Lexy nx ms) : ∀ (m : Nat) {q d : Nat} {L L1 : LX} {s : GSt} {T : List Bool}, q ≤ 4 → d ≤ 8 → T.length ≤ 2 * d + gOff q → Vok L → gCond nx m q d L = .ok (L1, s) → (encs s).length + ms L1 ≤ ms L ∧ Vok L1 ∧ lw_ty (gIn q T) s = some (true :: T)
  | 0, q, d, L, L1, s, T, _, _, _, _, h => by rw [gCond] at h; exact absurd h (by simp)
  | m + 1, q, d, L, L1, s, T, hq, hd, hT, hv, h => by
    have two : ∀ {q1 q2 : Nat} {Lx : LX} {k : Option (Nat × Int32)} {T1 : List Bool} {pre : GSt}, q1 ≤ 4 → q2 ≤ 4 → Vok Lx → T1.length ≤ 2 * d + gOff q1 → T.length ≤ 2 * d + gOff q2 → lw_ty (true :: T1) pre = some (gIn q2 T) → (encs pre).length + ms Lx ≤ ms L → (match gCond nx m q1 d Lx with
        | .error e => .error e
        | .ok (L1, s1) => match gCond nx m q2 d L1 with
          | .error e => .error e
          | .ok (L2, s2) => .ok (L2, s1 ++ (pre ++ s2)) : GR) = .ok (L1, s) → (encs s).length + ms L1 ≤ ms L ∧ Vok L1 ∧ lw_ty (gIn q1 T1) s = some (true :: T) := by
      intro q1 q2 Lx k T1 pre h1 h2 hvx ht1 ht2 hpre hlen hh
      cases hu : gCond nx m q1 d Lx with
      | error e => rw [hu] at hh; exact absurd hh (by simp)
      | ok p =>
        obtain ⟨L2, s1⟩ := p
        rw [hu] at hh
        simp only at hh
        cases hp : gCond nx m q2 d L2 with
        | error e => rw [hp] at hh; exact absurd hh (by simp)
        | ok p =>
          obtain ⟨L3, s2⟩ := p
          rw [hp] at hh
          cases hh
          obtain ⟨a1, a2, a3⟩ := g_cond hx m h1 hd ht1 hvx hu
          obtain ⟨b1, b2, b3⟩ := g_cond hx m (T := T) h2 hd ht2 a2 hp
          refine ⟨?_, b2, ty_then a3 (ty_then hpre b3)⟩
          rw [encs_app, encs_app, List.length_append, List.length_append]
          omega
    rw [gCond] at h
    by_cases q0 : q = 0
    · subst q0
      rw [if_pos rfl] at h
      exact two (q1 := 2) (q2 := 1) (k := none) (pre := []) (T1 := T) (by omega) (by omega) hv (by have : T.length ≤ 2 * d + 0 := hT; show _ ≤ 2 * d + 1; omega) hT rfl (by rw [encs_nil]; show 0 + _ ≤ _; omega) h
    rw [if_neg q0] at h
    by_cases q1 : q = 1
    · subst q1
      rw [if_pos rfl] at h
      have hT' : T.length ≤ 2 * d + 0 := hT
      by_cases t5 : L.tk = 5
      · rw [if_pos t5] at h
        have hl := hx.1 L (by omega)
        exact two (q1 := 2) (q2 := 1) (k := none) (pre := [(22, 0)]) (T1 := true :: T) (by omega) (by omega) (hx.2 L) (by show T.length + 1 ≤ 2 * d + 1; omega) hT (ty_one (ty_ao (Or.inr rfl))) (by show 1 + _ ≤ _; omega) h
      · rw [if_neg t5] at h
        cases h
        exact ⟨by rw [encs_nil]; show 0 + _ ≤ _; omega, hv, rfl⟩
    rw [if_neg q1] at h
    by_cases q2 : q = 2
    · subst q2
      rw [if_pos rfl] at h
      have hT' : T.length ≤ 2 * d + 1 := hT
      exact two (q1 := 4) (q2 := 3) (k := none) (pre := []) (T1 := T) (by omega) (by omega) hv (by show _ ≤ 2 * d + 2; omega) hT rfl (by rw [encs_nil]; show 0 + _ ≤ _; omega) h
    rw [if_neg q2] at h
    by_cases q3 : q = 3
    · subst q3
      rw [if_pos rfl] at h
      have hT' : T.length ≤ 2 * d + 1 := hT
      by_cases t6 : L.tk = 6
      · rw [if_pos t6] at h
        have hl := hx.1 L (by omega)
        exact two (q1 := 4) (q2 := 3) (k := none) (pre := [(21, 0)]) (T1 := true :: T) (by omega) (by omega) (hx.2 L) (by show T.length + 1 ≤ 2 * d + 2; omega) hT (ty_one (ty_ao (Or.inl rfl))) (by show 1 + _ ≤ _; omega) h
      · rw [if_neg t6] at h
        cases h
        exact ⟨by rw [encs_nil]; show 0 + _ ≤ _; omega, hv, rfl⟩
    rw [if_neg q3] at h
    have q4 : q = 4 := by omega
    subst q4
    have hT' : T.length ≤ 2 * d + 2 := hT
    by_cases t7 : L.tk = 7
    · rw [if_pos t7] at h
      by_cases d8 : d = 8
      · rw [if_pos d8] at h; exact absurd h (by simp)
      rw [if_neg d8] at h
      have hl := hx.1 L (by omega)
      cases hu : gCond nx m 4 (d + 1) (nx L) with
      | error e => rw [hu] at h; exact absurd h (by simp)
      | ok p =>
        obtain ⟨L2, s1⟩ := p
        rw [hu] at h
        cases h
        obtain ⟨a1, a2, a3⟩ := g_cond hx m (T := T) (by omega) (by omega) (by show _ ≤ 2 * (d + 1) + 2; omega) (hx.2 L) hu
        refine ⟨?_, a2, ty_then a3 (ty_one ty_not)⟩
        rw [encs_app, List.length_append]
        show _ + 1 + _ ≤ _
        omega
    rw [if_neg t7] at h
    by_cases t20 : L.tk = 20
    · rw [if_pos t20] at h
      by_cases d8 : d = 8
      · rw [if_pos d8] at h; exact absurd h (by simp)
      rw [if_neg d8] at h
      have hl := hx.1 L (by omega)
      cases hu : gCond nx m 0 (d + 1) (nx L) with
      | error e => rw [hu] at h; exact absurd h (by simp)
      | ok p =>
        obtain ⟨L2, s1⟩ := p
        rw [hu] at h
        simp only at h
        by_cases t21 : L2.tk = 21
        · rw [if_pos t21] at h
          cases h
          have hl2 := hx.1 L2 (by omega)
          obtain ⟨a1, a2, a3⟩ := g_cond hx m (T := T) (by omega) (by omega) (by show _ ≤ 2 * (d + 1) + 0; omega) (hx.2 L) hu
          exact ⟨by omega, hx.2 L2, a3⟩
        · rw [if_neg t21] at h; exact absurd h (by simp)
    rw [if_neg t20] at h
    cases hu : gSum nx m L with
    | error e => rw [hu] at h; exact absurd h (by simp)
    | ok p =>
      obtain ⟨L2, s1⟩ := p
      rw [hu] at h
      simp only at h
      by_cases tc : 22 ≤ L2.tk ∧ L2.tk ≤ 24
      · rw [if_pos tc] at h
        have hl2 := hx.1 L2 (by omega)
        cases hp : gSum nx m (nx L2) with
        | error e => rw [hp] at h; exact absurd h (by simp)
        | ok p =>
          obtain ⟨L3, s2⟩ := p
          rw [hp] at h
          cases h
          obtain ⟨a1, a2, a3⟩ := g_sum hx (T := T) hv (by omega) hu
          obtain ⟨b1, b2, b3⟩ := g_sum hx (T := false :: T) (hx.2 L2) (by show T.length + 1 < 57; omega) hp
          refine ⟨?_, b2, ty_then a3 (ty_then b3 (ty_one (ty_cmp (by omega) (by omega))))⟩
          have en : (lw_enc (L2.tk - 5, 0)).length = 1 := by
            have : L2.tk = 22 ∨ L2.tk = 23 ∨ L2.tk = 24 := by omega
            rcases this with q | q | q <;> rw [q] <;> rfl
          rw [encs_app, encs_app, encs_cons, encs_nil, List.length_append, List.length_append, List.length_append, en]
          show _ + (_ + (1 + 0)) + _ ≤ _
          omega
      · rw [if_neg tc] at h; exact absurd h (by simp)
end G
