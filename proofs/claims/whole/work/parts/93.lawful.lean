/-! whole laws -/
def LR (ps : lw_ps) (ls : List (Int32 × Nat)) : Prop := ls.length = ps.length ∧ ∀ i, i < ps.length → ls.getD i (0, 0) = ((ps.getD i (0, [])).1, (lw_code (ps.take (i + 1))).length)
theorem lw_code_app (a b : lw_ps) : lw_code (a ++ b) = lw_code a ++ lw_code b := by
  unfold lw_code lw_all
  rw [List.flatMap_append, List.flatMap_append]
theorem lw_code_one (w : Int32) (s : GSt) : lw_code [(w, s)] = encs s := by
  unfold lw_code lw_all encs
  simp
theorem getD_l {α : Type} (l : List α) (a d : α) : (l ++ [a]).getD l.length d = a := by
  rw [List.getD_eq_getElem?_getD, List.getElem?_append_right (Nat.le_refl _), Nat.sub_self]; rfl
theorem getD_i {α : Type} (l : List α) (a d : α) {i : Nat} (h : i < l.length) : (l ++ [a]).getD i d = l.getD i d := by
  rw [List.getD_eq_getElem?_getD, List.getD_eq_getElem?_getD, List.getElem?_append_left h]
theorem LR.snoc {ps : lw_ps} {ls : List (Int32 × Nat)} (h : LR ps ls) (w : Int32) (s : GSt) : LR (ps ++ [(w, s)]) (ls ++ [(w, (lw_code ps ++ encs s).length)]) := by
  refine ⟨by simp [h.1], fun i hi => ?_⟩
  rw [List.length_append] at hi
  have hi' : i < ps.length + 1 := hi
  by_cases q : i = ps.length
  · subst q
    rw [← h.1, getD_l, h.1, getD_l, List.take_of_length_le (by rw [List.length_append]; exact Nat.le_refl _), lw_code_app, lw_code_one]
  · rw [getD_i _ _ _ (by rw [h.1]; omega), getD_i _ _ _ (by omega), h.2 i (by omega), List.take_append_of_le_length (by omega)]
section G
variable (nx : LX → LX)
def gLaw (K : Nat) : Nat → lw_ps → LX → Except (Nat × Nat) lw_ps
  | 0, _, _ => .error (9, 0)
  | m + 1, ps, L =>
    if L.tk = 0 then .ok ps
    else if L.tk ≠ 2 ∧ L.tk ≠ 3 then .error (1, L.pl)
    else if 16 ≤ ps.length then .error (3, L.pl)
    else if (nx L).tk = 4 then (match gCond nx K 0 0 (nx (nx L)) with
      | .error e => .error e
      | .ok (L2, s) => if L2.tk = 15 then gLaw K m (ps ++ [(if L.tk = 2 then 0 else 1, s)]) (nx L2) else .error (1, L2.pl))
    else if (nx L).tk = 15 then gLaw K m (ps ++ [(if L.tk = 2 then 0 else 1, [])]) (nx (nx L))
    else .error (1, (nx L).pl)
end G
section H
variable {nx : LX → LX} {ms : LX → Nat}
def LwGood (ms : LX → Nat) (N : Nat) (ps : lw_ps) (L : LX) : Prop := ps.length ≤ 16 ∧ (lw_code ps).length + ms L ≤ N ∧ ∀ q ∈ ps, (q.1 = 0 ∨ q.1 = 1) ∧ (q.2 = [] ∨ lw_ty [] q.2 = some [true])
theorem LwGood.ok {N : Nat} {ps : lw_ps} {L : LX} (h : LwGood ms N ps L) (hN : N ≤ 400) : lw_ok ps := ⟨h.1, by have := h.2.1; omega, h.2.2⟩
set_option maxHeartbeats 1000000 in
theorem lawful (hx : Lexy nx ms) {K N : Nat} : ∀ (m : Nat) (L : LX) (ps : lw_ps) (ls : List (Int32 × Nat)), ms L < m → 4 * ms L + 4 ≤ K → Vok L → LwGood ms N ps L → LR ps ls → ∀ H o b rt cur f,
    (∀ ps', gLaw nx K m ps L = .ok ps' → ∃ H' o' b' rt' ls' cur' L', Rc nx (0, H, o, b, rt, lw_code ps, (ls, cur), f) L (8, H', o', b', rt', lw_code ps', (ls', cur'), f) L' ∧ LR ps' ls' ∧ ∃ L2, LwGood ms N ps' L2) ∧ (∀ e, gLaw nx K m ps L = .error e → Fl nx (0, H, o, b, rt, lw_code ps, (ls, cur), f) L e)
  | 0, L, ps, ls, hm => absurd hm (Nat.not_lt_zero _)
  | m + 1, L, ps, ls, hm => by
    intro hK hv hg hl H o b rt cur f
    have n08 : ((0, H, o, b, rt, lw_code ps, (ls, cur), f) : RdS).1 ≠ 8 := by show (0 : Nat) ≠ 8; omega
    rw [gLaw]
    by_cases t0 : L.tk = 0
    · rw [if_pos t0]
      refine ⟨fun ps' h => ?_, fun e h => absurd h (by simp)⟩
      cases h
      refine ⟨H, o, b, rt, ls, cur, nx L, Rc.to n08 ?_, hl, L, hg⟩
      rw [rdStep, if_pos rfl, if_pos t0]
    rw [if_neg t0]
    by_cases t23 : L.tk ≠ 2 ∧ L.tk ≠ 3
    · rw [if_pos t23]
      refine ⟨fun ps' h => absurd h (by simp), fun e h => ?_⟩
      cases h
      refine Fl.now n08 (H := H) (o := o) (b := b) (rt := rt) (C := lw_code ps) (g := (ls, cur)) ?_
      rw [rdStep, if_pos rfl, if_neg t0, if_pos t23]; rfl
    rw [if_neg t23]
    by_cases t16 : 16 ≤ ps.length
    · rw [if_pos t16]
      refine ⟨fun ps' h => absurd h (by simp), fun e h => ?_⟩
      cases h
      refine Fl.now n08 (H := H) (o := o) (b := b) (rt := rt) (C := lw_code ps) (g := (ls, cur)) ?_
      rw [rdStep, if_pos rfl, if_neg t0, if_neg t23, if_pos (by show 16 ≤ ls.length; rw [hl.1]; exact t16)]; rfl
    rw [if_neg t16]
    have hl1 := hx.1 L t0
    obtain ⟨w, hw⟩ : ∃ w : Int32, w = if L.tk = 2 then 0 else 1 := ⟨_, rfl⟩
    have hw01 : w = 0 ∨ w = 1 := by rw [hw]; split <;> simp
    rw [← hw]
    have st : Rc nx (0, H, o, b, rt, lw_code ps, (ls, cur), f) L (1, [], 0, 0, rt, lw_code ps, (ls, w), f) (nx L) := Rc.to n08 (by
      rw [rdStep, if_pos rfl, if_neg t0, if_neg t23, if_neg (by show ¬ 16 ≤ ls.length; rw [hl.1]; exact t16), hw])
    have n18 : ((1, [], 0, 0, rt, lw_code ps, (ls, w), f) : RdS).1 ≠ 8 := by show (1 : Nat) ≠ 8; omega
    by_cases t4 : (nx L).tk = 4
    · rw [if_pos t4]
      have hl2 := hx.1 (nx L) (by omega)
      have st2 : Rc nx (1, [], 0, 0, rt, lw_code ps, (ls, w), f) (nx L) (2, [], 0, 0, rt, lw_code ps, (ls, w), f) (nx (nx L)) := Rc.to n18 (by
        rw [rdStep, if_neg (by omega), if_pos rfl, if_pos t4])
      obtain ⟨k1, k2⟩ := (cond hx.1 K).1 0 (nx (nx L)) [] 0 rt (lw_code ps) (ls, w) f (by omega) (by omega) (Or.inl rfl)
      cases hc : gCond nx K 0 0 (nx (nx L)) with
      | error e =>
        refine ⟨fun ps' h => absurd h (by simp), fun e' h => ?_⟩
        cases h
        exact (k2 e hc).back (st.trans st2)
      | ok p =>
        obtain ⟨L2, s⟩ := p
        obtain ⟨l1, l2, l3, aw', H', C', o', rt', l4, l5, l6⟩ := k1 L2 s hc
        rw [if_pos rfl] at l1
        have n5 := l2 rfl
        have n6 := l3 rfl
        obtain ⟨a1, a2, a3⟩ := g_cond hx K (q := 0) (d := 0) (T := []) (by omega) (by omega) (by show 0 ≤ _; omega) (hx.2 (nx L)) hc
        have h8 : ((aw', H', o', 0, rt', C', (ls, w), f) : RdS).1 ≠ 8 := l4.n8
        simp only
        by_cases t15 : L2.tk = 15
        · rw [if_pos t15]
          have hl3 := hx.1 L2 (by omega)
          have hr : rel 1 H' C' o' = ([], lw_code ps ++ encs s, 0) := (l6 1 (Nat.le_refl _)).trans rfl
          have ec : lw_code (ps ++ [(w, s)]) = lw_code ps ++ encs s := by rw [lw_code_app, lw_code_one]
          have st3 : Rc nx (aw', H', o', 0, rt', C', (ls, w), f) L2 (0, [], 0, 0, rt', lw_code (ps ++ [(w, s)]), (ls ++ [(w, (lw_code ps ++ encs s).length)], w), f) (nx L2) := Rc.to h8 (by
            rw [l4.step, rdClosed, if_neg (by omega), if_neg (by omega), if_pos ⟨t15, rfl⟩, hr, ec])
          have hg' : LwGood ms N (ps ++ [(w, s)]) (nx L2) := by
            refine ⟨by rw [List.length_append]; show ps.length + 1 ≤ 16; omega, ?_, fun q hq => ?_⟩
            · have := hg.2.1
              rw [ec, List.length_append]; omega
            · rcases List.mem_append.mp hq with z | z
              · exact hg.2.2 q z
              · have := List.mem_singleton.mp z
                subst this
                exact ⟨hw01, Or.inr a3⟩
          obtain ⟨i1, i2⟩ := lawful (K := K) (N := N) hx m (nx L2) (ps ++ [(w, s)]) _ (by omega) (by omega) (hx.2 L2) hg' (hl.snoc w s) [] 0 0 rt' w f
          refine ⟨fun ps' h => ?_, fun e h => ?_⟩
          · obtain ⟨H2, o2, b2, rt2, ls2, cur2, L3, r1, r2, r3⟩ := i1 ps' h
            exact ⟨H2, o2, b2, rt2, ls2, cur2, L3, ((st.trans st2).trans l5).trans (st3.trans r1), r2, r3⟩
          · exact (i2 e h).back (((st.trans st2).trans l5).trans st3)
        · rw [if_neg t15]
          refine ⟨fun ps' h => absurd h (by simp), fun e h => ?_⟩
          cases h
          refine (Fl.now h8 (H := H') (o := o') (b := 0) (rt := rt') (C := C') (g := (ls, w)) ?_).back ((st.trans st2).trans l5)
          rw [l4.step, rdClosed, if_neg (by omega), if_neg (by omega), if_neg (fun z => t15 z.1)]; rfl
    rw [if_neg t4]
    by_cases t15 : (nx L).tk = 15
    · rw [if_pos t15]
      have hl2 := hx.1 (nx L) (by omega)
      have ec : lw_code (ps ++ [(w, [])]) = lw_code ps := by rw [lw_code_app, lw_code_one, encs_nil, List.append_nil]
      have st2 : Rc nx (1, [], 0, 0, rt, lw_code ps, (ls, w), f) (nx L) (0, [], 0, 0, rt, lw_code (ps ++ [(w, [])]), (ls ++ [(w, (lw_code ps ++ encs []).length)], w), f) (nx (nx L)) := Rc.to n18 (by
        rw [rdStep, if_neg (by omega), if_pos rfl, if_neg t4, if_pos t15, ec, encs_nil, List.append_nil])
      have hg' : LwGood ms N (ps ++ [(w, [])]) (nx (nx L)) := by
        refine ⟨by rw [List.length_append]; show ps.length + 1 ≤ 16; omega, ?_, fun q hq => ?_⟩
        · have := hg.2.1
          rw [ec]; omega
        · rcases List.mem_append.mp hq with z | z
          · exact hg.2.2 q z
          · have := List.mem_singleton.mp z
            subst this
            exact ⟨hw01, Or.inl rfl⟩
      obtain ⟨i1, i2⟩ := lawful (K := K) (N := N) hx m (nx (nx L)) (ps ++ [(w, [])]) _ (by omega) (by omega) (hx.2 (nx L)) hg' (hl.snoc w []) [] 0 0 rt w f
      refine ⟨fun ps' h => ?_, fun e h => ?_⟩
      · obtain ⟨H2, o2, b2, rt2, ls2, cur2, L3, r1, r2, r3⟩ := i1 ps' h
        exact ⟨H2, o2, b2, rt2, ls2, cur2, L3, (st.trans st2).trans r1, r2, r3⟩
      · exact (i2 e h).back (st.trans st2)
    rw [if_neg t15]
    refine ⟨fun ps' h => absurd h (by simp), fun e h => ?_⟩
    cases h
    refine (Fl.now n18 (H := []) (o := 0) (b := 0) (rt := rt) (C := lw_code ps) (g := (ls, w)) ?_).back st
    rw [rdStep, if_neg (by omega), if_pos rfl, if_neg t4, if_neg t15]; rfl
/-- once at rest, always -/
theorem crun_rest {s : RdS} {L : LX} (h : s.1 = 8) : ∀ m, crun nx m s L = s
  | 0 => rfl
  | m + 1 => by rw [crun, if_pos h]
theorem crun_more : ∀ (m k : Nat) (s : RdS) (L : LX), (crun nx m s L).1 = 8 → crun nx (m + k) s L = crun nx m s L
  | 0, k, s, L, h => by
    have h' : s.1 = 8 := h
    rw [crun_rest h' (0 + k)]; rfl
  | m + 1, k, s, L, h => by
    rw [show m + 1 + k = (m + k) + 1 from by omega, crun, crun]
    rw [crun] at h
    by_cases q : s.1 = 8
    · rw [if_pos q, if_pos q]
    · rw [if_neg q, if_neg q]
      rw [if_neg q] at h
      exact crun_more m k _ _ h
theorem Rc.run {s s' : RdS} {L L' : LX} (h : Rc nx s L s' L') (h8 : s'.1 = 8) {m : Nat} (hm : (crun nx m s L).1 = 8) : crun nx m s L = s' := by
  obtain ⟨j, h⟩ := h
  rw [← crun_more m j s L hm, h m, crun_rest h8]
end H
