/-! conditions -/
section H
variable {nx : LX → LX} {ms : LX → Nat}
/-- behind a test -/
def Cl (aw : Nat) (L : LX) : Prop := (aw = 6 ∧ ¬ (16 ≤ L.tk ∧ L.tk ≤ 19)) ∨ aw = 7
theorem Cl.n8 {aw : Nat} {L : LX} (h : Cl aw L) : aw ≠ 8 := by rcases h with h | h <;> omega
theorem Cl.step {aw : Nat} {L : LX} (h : Cl aw L) {H o b rt C g f} : rdStep L (aw, H, o, b, rt, C, g, f) = rdClosed L (aw, H, o, b, rt, C, g, f) := by
  rcases h with ⟨rfl, h⟩ | rfl
  · rw [rdStep, if_neg (by omega), if_neg (by omega), if_neg (by omega), if_neg (by omega), if_neg (by omega), if_neg (by omega), if_pos rfl, if_neg h]
  · rw [rdStep, if_neg (by omega), if_neg (by omega), if_neg (by omega), if_neg (by omega), if_neg (by omega), if_neg (by omega), if_neg (by omega)]
def Oke (nx : LX → LX) (ms : LX → Nat) (s : RdS) (L : LX) (strict : Bool) (r : Nat) (H : List Nat) (o b : Nat) (C : List Int32) (g : List (Int32 × Nat) × Int32) (f : Nat × Nat) (no5 no6 : Bool) (L2 : LX) (s2 : GSt) : Prop :=
  (if strict = true then ms L2 < ms L else ms L2 ≤ ms L) ∧ (no5 = true → L2.tk ≠ 5) ∧ (no6 = true → L2.tk ≠ 6) ∧ ∃ aw' H' C' o' rt', Cl aw' L2 ∧ Rc nx s L (aw', H', o', b, rt', C', g, f) L2 ∧ Rq r H' C' o' H (C ++ encs s2) o
/-- a loop's joint -/
theorem cl_join {aw : Nat} {L : LX} {H1 C1 o1 H C o b rt g f} (h : Cl aw L) (h56 : L.tk = 6 ∨ L.tk = 5) (hq : rel (rnk L.tk) H1 C1 o1 = (H, C, o)) : Rc nx (aw, H1, o1, b, rt, C1, g, f) L (2, L.tk :: H, o, b, rt, C, g, f) (nx L) := Rc.to h.n8 (by
  rw [h.step, rdClosed, if_pos h56, rdJoin, hq])
set_option maxHeartbeats 1000000 in
theorem cond (hms : ∀ L : LX, L.tk ≠ 0 → ms (nx L) < ms L) : ∀ (m : Nat),
    (∀ d L H b rt C g f, 4 * ms L + 4 ≤ m → d ≤ 8 → Top 1 H → (∀ L2 s2, gCond nx m 0 d L = .ok (L2, s2) → Oke nx ms (2, H, d, b, rt, C, g, f) L true 1 H d b C g f true true L2 s2) ∧ (∀ e, gCond nx m 0 d L = .error e → Fl nx (2, H, d, b, rt, C, g, f) L e)) ∧
    (∀ d L H b rt C g f aw H1 C1 o1, 4 * ms L + 1 ≤ m → d ≤ 8 → Top 1 H → Cl aw L → L.tk ≠ 6 → Rq 1 H1 C1 o1 H C d → (∀ L2 s2, gCond nx m 1 d L = .ok (L2, s2) → Oke nx ms (aw, H1, o1, b, rt, C1, g, f) L false 1 H d b C g f true true L2 s2) ∧ (∀ e, gCond nx m 1 d L = .error e → Fl nx (aw, H1, o1, b, rt, C1, g, f) L e)) ∧
    (∀ d L H b rt C g f, 4 * ms L + 3 ≤ m → d ≤ 8 → Top 2 H → (∀ L2 s2, gCond nx m 2 d L = .ok (L2, s2) → Oke nx ms (2, H, d, b, rt, C, g, f) L true 2 H d b C g f false true L2 s2) ∧ (∀ e, gCond nx m 2 d L = .error e → Fl nx (2, H, d, b, rt, C, g, f) L e)) ∧
    (∀ d L H b rt C g f aw H1 C1 o1, 4 * ms L + 1 ≤ m → d ≤ 8 → Top 2 H → Cl aw L → Rq 2 H1 C1 o1 H C d → (∀ L2 s2, gCond nx m 3 d L = .ok (L2, s2) → Oke nx ms (aw, H1, o1, b, rt, C1, g, f) L false 2 H d b C g f false true L2 s2) ∧ (∀ e, gCond nx m 3 d L = .error e → Fl nx (aw, H1, o1, b, rt, C1, g, f) L e)) ∧
    (∀ d L H b rt C g f, 4 * ms L + 2 ≤ m → d ≤ 8 → Top 4 H → (∀ L2 s2, gCond nx m 4 d L = .ok (L2, s2) → Oke nx ms (2, H, d, b, rt, C, g, f) L true 3 H d b C g f false false L2 s2) ∧ (∀ e, gCond nx m 4 d L = .error e → Fl nx (2, H, d, b, rt, C, g, f) L e))
  | 0 => ⟨fun d L H b rt C g f h => absurd h (by omega), fun d L H b rt C g f aw H1 C1 o1 h => absurd h (by omega), fun d L H b rt C g f h => absurd h (by omega), fun d L H b rt C g f aw H1 C1 o1 h => absurd h (by omega), fun d L H b rt C g f h => absurd h (by omega)⟩
  | m + 1 => by
    obtain ⟨c0, c1, c2, c3, c4⟩ := cond hms m
    have n28 : ∀ {H : List Nat} {o b : Nat} {rt : Bool} {C : List Int32} {g : List (Int32 × Nat) × Int32} {f : Nat × Nat}, ((2, H, o, b, rt, C, g, f) : RdS).1 ≠ 8 := fun {_ _ _ _ _ _ _} => by show (2 : Nat) ≠ 8; omega
    refine ⟨fun d L H b rt C g f hm hd ht => ?_, fun d L H b rt C g f aw H1 C1 o1 hm hd ht hcl h6 hq => ?_, fun d L H b rt C g f hm hd ht => ?_, fun d L H b rt C g f aw H1 C1 o1 hm hd ht hcl hq => ?_, fun d L H b rt C g f hm hd ht => ?_⟩
    · -- any
      rw [gCond, if_pos rfl]
      obtain ⟨k1, k2⟩ := c2 d L H b rt C g f (by omega) hd (ht.le (by omega))
      cases hg : gCond nx m 2 d L with
      | error e =>
        refine ⟨fun L2 s2 h => absurd h (by simp), fun e' h => ?_⟩
        cases h
        exact k2 e hg
      | ok p =>
        obtain ⟨L1, s1⟩ := p
        obtain ⟨l1, -, l3, aw', H', C', o', rt', l4, l5, l6⟩ := k1 L1 s1 hg
        rw [if_pos rfl] at l1
        obtain ⟨j1, j2⟩ := c1 d L1 H b rt' (C ++ encs s1) g f aw' H' C' o' (by omega) hd ht l4 (l3 rfl) (l6.le (by omega))
        simp only
        cases hp : gCond nx m 1 d L1 with
        | error e =>
          refine ⟨fun L2 s2 h => absurd h (by simp), fun e' h => ?_⟩
          cases h
          exact (j2 e hp).back l5
        | ok p =>
          obtain ⟨L2, s2⟩ := p
          refine ⟨fun L2' s2' h => ?_, fun e' h => absurd h (by simp)⟩
          cases h
          obtain ⟨i1, i2, i3, aw2, H2, C2, o2, rt2, i4, i5, i6⟩ := j1 L2 s2 hp
          rw [if_neg (by simp)] at i1
          exact ⟨by rw [if_pos rfl]; omega, i2, i3, aw2, H2, C2, o2, rt2, i4, l5.trans i5, by rw [encs_app, ← List.append_assoc]; exact i6⟩
    · -- its loop
      rw [gCond, if_neg (by omega), if_pos rfl]
      by_cases q : L.tk = 5
      · rw [if_pos q]
        have hl := hms L (by omega)
        have hr : rel (rnk L.tk) H1 C1 o1 = (H, C, d) := by rw [q]; exact (hq 1 (Nat.le_refl _)).trans ht.rel
        have st := cl_join (nx := nx) (b := b) (rt := rt) (g := g) (f := f) hcl (Or.inr q) hr
        rw [q] at st
        obtain ⟨k1, k2⟩ := c2 d (nx L) (5 :: H) b rt C g f (by omega) hd (Top.cons (by decide))
        cases hg : gCond nx m 2 d (nx L) with
        | error e =>
          refine ⟨fun L2 s2 h => absurd h (by simp), fun e' h => ?_⟩
          cases h
          exact (k2 e hg).back st
        | ok p =>
          obtain ⟨L1, s1⟩ := p
          obtain ⟨l1, -, l3, aw', H', C', o', rt', l4, l5, l6⟩ := k1 L1 s1 hg
          rw [if_pos rfl] at l1
          have q2 : Rq 1 H' C' o' H (C ++ encs s1 ++ [-(nI 5)]) d := (l6.le (by omega)).trans (Rq.pop (by decide) (by omega))
          obtain ⟨j1, j2⟩ := c1 d L1 H b rt' _ g f aw' H' C' o' (by omega) hd ht l4 (l3 rfl) q2
          simp only
          cases hp : gCond nx m 1 d L1 with
          | error e =>
            refine ⟨fun L2 s2 h => absurd h (by simp), fun e' h => ?_⟩
            cases h
            exact (j2 e hp).back (st.trans l5)
          | ok p =>
            obtain ⟨L2, s2⟩ := p
            refine ⟨fun L2' s2' h => ?_, fun e' h => absurd h (by simp)⟩
            cases h
            obtain ⟨i1, i2, i3, aw2, H2, C2, o2, rt2, i4, i5, i6⟩ := j1 L2 s2 hp
            rw [if_neg (by simp)] at i1
            refine ⟨by rw [if_neg (by simp)]; omega, i2, i3, aw2, H2, C2, o2, rt2, i4, (st.trans l5).trans i5, ?_⟩
            rw [encs_app, encs_cons, show lw_enc (22, 0) = [-(nI 5)] from rfl]
            simp only [List.append_assoc] at i6 ⊢
            exact i6
      · rw [if_neg q]
        refine ⟨fun L2 s2 h => ?_, fun e h => absurd h (by simp)⟩
        cases h
        exact ⟨by rw [if_neg (by simp)]; omega, fun _ => q, fun _ => h6, aw, H1, C1, o1, rt, hcl, Rc.refl, by rw [encs_nil, List.append_nil]; exact hq⟩
    · -- every
      rw [gCond, if_neg (by omega), if_neg (by omega), if_pos rfl]
      obtain ⟨k1, k2⟩ := c4 d L H b rt C g f (by omega) hd (ht.le (by omega))
      cases hg : gCond nx m 4 d L with
      | error e =>
        refine ⟨fun L2 s2 h => absurd h (by simp), fun e' h => ?_⟩
        cases h
        exact k2 e hg
      | ok p =>
        obtain ⟨L1, s1⟩ := p
        obtain ⟨l1, -, -, aw', H', C', o', rt', l4, l5, l6⟩ := k1 L1 s1 hg
        rw [if_pos rfl] at l1
        obtain ⟨j1, j2⟩ := c3 d L1 H b rt' (C ++ encs s1) g f aw' H' C' o' (by omega) hd ht l4 (l6.le (by omega))
        simp only
        cases hp : gCond nx m 3 d L1 with
        | error e =>
          refine ⟨fun L2 s2 h => absurd h (by simp), fun e' h => ?_⟩
          cases h
          exact (j2 e hp).back l5
        | ok p =>
          obtain ⟨L2, s2⟩ := p
          refine ⟨fun L2' s2' h => ?_, fun e' h => absurd h (by simp)⟩
          cases h
          obtain ⟨i1, i2, i3, aw2, H2, C2, o2, rt2, i4, i5, i6⟩ := j1 L2 s2 hp
          rw [if_neg (by simp)] at i1
          exact ⟨by rw [if_pos rfl]; omega, i2, i3, aw2, H2, C2, o2, rt2, i4, l5.trans i5, by rw [encs_app, ← List.append_assoc]; exact i6⟩
    · -- its loop
      rw [gCond, if_neg (by omega), if_neg (by omega), if_neg (by omega), if_pos rfl]
      by_cases q : L.tk = 6
      · rw [if_pos q]
        have hl := hms L (by omega)
        have hr : rel (rnk L.tk) H1 C1 o1 = (H, C, d) := by rw [q]; exact (hq 2 (Nat.le_refl _)).trans ht.rel
        have st := cl_join (nx := nx) (b := b) (rt := rt) (g := g) (f := f) hcl (Or.inl q) hr
        rw [q] at st
        obtain ⟨k1, k2⟩ := c4 d (nx L) (6 :: H) b rt C g f (by omega) hd (Top.cons (by decide))
        cases hg : gCond nx m 4 d (nx L) with
        | error e =>
          refine ⟨fun L2 s2 h => absurd h (by simp), fun e' h => ?_⟩
          cases h
          exact (k2 e hg).back st
        | ok p =>
          obtain ⟨L1, s1⟩ := p
          obtain ⟨l1, -, -, aw', H', C', o', rt', l4, l5, l6⟩ := k1 L1 s1 hg
          rw [if_pos rfl] at l1
          have q2 : Rq 2 H' C' o' H (C ++ encs s1 ++ [-(nI 6)]) d := (l6.le (by omega)).trans (Rq.pop (by decide) (by omega))
          obtain ⟨j1, j2⟩ := c3 d L1 H b rt' _ g f aw' H' C' o' (by omega) hd ht l4 q2
          simp only
          cases hp : gCond nx m 3 d L1 with
          | error e =>
            refine ⟨fun L2 s2 h => absurd h (by simp), fun e' h => ?_⟩
            cases h
            exact (j2 e hp).back (st.trans l5)
          | ok p =>
            obtain ⟨L2, s2⟩ := p
            refine ⟨fun L2' s2' h => ?_, fun e' h => absurd h (by simp)⟩
            cases h
            obtain ⟨i1, i2, i3, aw2, H2, C2, o2, rt2, i4, i5, i6⟩ := j1 L2 s2 hp
            rw [if_neg (by simp)] at i1
            refine ⟨by rw [if_neg (by simp)]; omega, i2, i3, aw2, H2, C2, o2, rt2, i4, (st.trans l5).trans i5, ?_⟩
            rw [encs_app, encs_cons, show lw_enc (21, 0) = [-(nI 6)] from rfl]
            simp only [List.append_assoc] at i6 ⊢
            exact i6
      · rw [if_neg q]
        refine ⟨fun L2 s2 h => ?_, fun e h => absurd h (by simp)⟩
        cases h
        exact ⟨by rw [if_neg (by simp)]; omega, fun z => absurd z (by simp), fun _ => q, aw, H1, C1, o1, rt, hcl, Rc.refl, by rw [encs_nil, List.append_nil]; exact hq⟩
    · -- one test
      rw [gCond, if_neg (by omega), if_neg (by omega), if_neg (by omega), if_neg (by omega)]
      by_cases q7 : L.tk = 7
      · rw [if_pos q7]
        by_cases q8 : d = 8
        · rw [if_pos q8]
          refine ⟨fun L2 s2 h => absurd h (by simp), fun e h => ?_⟩
          cases h
          refine Fl.now n28 (H := H) (o := d) (b := b) (rt := rt) (C := C) (g := g) ?_
          rw [rdStep, if_neg (by omega), if_neg (by omega), if_pos rfl, if_neg (fun z => z.1 q7), if_pos (by omega)]; rfl
        rw [if_neg q8]
        have hl := hms L (by omega)
        have st : Rc nx (2, H, d, b, rt, C, g, f) L (2, 7 :: H, d + 1, b, rt, C, g, f) (nx L) := Rc.to n28 (by
          rw [rdStep, if_neg (by omega), if_neg (by omega), if_pos rfl, if_neg (fun z => z.1 q7), if_neg (by omega), if_neg (by omega), q7])
        obtain ⟨k1, k2⟩ := c4 (d + 1) (nx L) (7 :: H) b rt C g f (by omega) (by omega) (Top.cons (by decide))
        cases hg : gCond nx m 4 (d + 1) (nx L) with
        | error e =>
          refine ⟨fun L2 s2 h => absurd h (by simp), fun e' h => ?_⟩
          cases h
          exact (k2 e hg).back st
        | ok p =>
          obtain ⟨L1, s1⟩ := p
          obtain ⟨l1, -, -, aw', H', C', o', rt', l4, l5, l6⟩ := k1 L1 s1 hg
          rw [if_pos rfl] at l1
          refine ⟨fun L2' s2' h => ?_, fun e' h => absurd h (by simp)⟩
          cases h
          refine ⟨by rw [if_pos rfl]; omega, fun z => absurd z (by simp), fun z => absurd z (by simp), aw', H', C', o', rt', l4, st.trans l5, ?_⟩
          rw [encs_app, encs_cons, show lw_enc (20, 0) = [-(nI 7)] from rfl, encs_nil, List.append_nil, ← List.append_assoc]
          exact l6.trans (Rq.pop7 (Nat.le_refl _))
      rw [if_neg q7]
      by_cases q20 : L.tk = 20
      · rw [if_pos q20]
        by_cases q8 : d = 8
        · rw [if_pos q8]
          refine ⟨fun L2 s2 h => absurd h (by simp), fun e h => ?_⟩
          cases h
          refine Fl.now n28 (H := H) (o := d) (b := b) (rt := rt) (C := C) (g := g) ?_
          rw [rdStep, if_neg (by omega), if_neg (by omega), if_pos rfl, if_neg (fun z => z.2 q20), if_pos (by omega)]; rfl
        rw [if_neg q8]
        have hl := hms L (by omega)
        have st : Rc nx (2, H, d, b, rt, C, g, f) L (2, 20 :: H, d + 1, b + 1, rt, C, g, f) (nx L) := Rc.to n28 (by
          rw [rdStep, if_neg (by omega), if_neg (by omega), if_pos rfl, if_neg (fun z => z.2 q20), if_neg (by omega), if_pos q20, q20])
        obtain ⟨k1, k2⟩ := c0 (d + 1) (nx L) (20 :: H) (b + 1) rt C g f (by omega) (by omega) (Top.cons (by decide))
        cases hg : gCond nx m 0 (d + 1) (nx L) with
        | error e =>
          refine ⟨fun L2 s2 h => absurd h (by simp), fun e' h => ?_⟩
          cases h
          exact (k2 e hg).back st
        | ok p =>
          obtain ⟨L1, s1⟩ := p
          obtain ⟨l1, l2, l3, aw', H', C', o', rt', l4, l5, l6⟩ := k1 L1 s1 hg
          rw [if_pos rfl] at l1
          have n5 := l2 rfl
          have n6 := l3 rfl
          have h8 : ((aw', H', o', b + 1, rt', C', g, f) : RdS).1 ≠ 8 := l4.n8
          simp only
          by_cases q21 : L1.tk = 21
          · rw [if_pos q21]
            refine ⟨fun L2' s2' h => ?_, fun e' h => absurd h (by simp)⟩
            cases h
            have hl1 := hms L1 (by omega)
            have hr : rel 1 H' C' o' = (20 :: H, C ++ encs s1, d + 1) := (l6 1 (Nat.le_refl _)).trans (rel_no (by decide))
            have st2 : Rc nx (aw', H', o', b + 1, rt', C', g, f) L1 (7, H, d, b, rt', C ++ encs s1, g, f) (nx L1) := Rc.to h8 (by
              rw [l4.step, rdClosed, if_neg (by omega), if_pos ⟨q21, by omega⟩, hr]; rfl)
            exact ⟨by rw [if_pos rfl]; omega, fun z => absurd z (by simp), fun z => absurd z (by simp), 7, H, _, d, rt', Or.inr rfl, (st.trans l5).trans st2, Rq.refl⟩
          · rw [if_neg q21]
            refine ⟨fun L2' s2' h => absurd h (by simp), fun e' h => ?_⟩
            cases h
            refine (Fl.now h8 (H := H') (o := o') (b := b + 1) (rt := rt') (C := C') (g := g) ?_).back (st.trans l5)
            rw [l4.step, rdClosed, if_neg (by omega), if_neg (fun z => q21 z.1), if_neg (by omega)]; rfl
      rw [if_neg q20]
      obtain ⟨k1, k2⟩ := sum hms (m := m) (L := L) (by omega) (un2 (H := H) (o := d) (b := b) (rt := rt) (C := C) (g := g) (f := f) ⟨q7, q20⟩) (ht.le (by omega))
      cases hg : gSum nx m L with
      | error e =>
        refine ⟨fun L2 s2 h => absurd h (by simp), fun e' h => ?_⟩
        cases h
        exact k2 e hg
      | ok p =>
        obtain ⟨L1, s1⟩ := p
        obtain ⟨l1, l2, H1, C1, o1, rc, hr1⟩ := k1 L1 s1 hg
        have n58 : ((bw false, H1, o1, b, false, C1, g, f) : RdS).1 ≠ 8 := bw8 (rt := false)
        simp only
        by_cases qc : 22 ≤ L1.tk ∧ L1.tk ≤ 24
        · rw [if_pos qc]
          have hl1 := hms L1 (by omega)
          have hc3 : L1.tk = 22 ∨ L1.tk = 23 ∨ L1.tk = 24 := by omega
          have rk : rnk L1.tk = 4 := by rcases hc3 with q | q | q <;> rw [q] <;> rfl
          have hr4 : rel 4 H1 C1 o1 = (H, C ++ encs s1, d) := by
            rw [← rel_rel (show 4 ≤ 5 by omega) H1 C1 o1, hr1]
            exact ht.rel
          have st : Rc nx (bw false, H1, o1, b, false, C1, g, f) L1 (3, L1.tk :: H, d, b, true, C ++ encs s1, g, f) (nx L1) := Rc.to n58 (by
            show rdStep L1 (5, H1, o1, b, false, C1, g, f) = _
            rw [rdStep, if_neg (by omega), if_neg (by omega), if_neg (by omega), if_neg (by omega), if_neg (by omega), if_pos rfl, if_pos qc, rdJoin, rk, hr4])
          obtain ⟨k3, k4⟩ := sum hms (m := m) (L := nx L1) (by omega) (un3 (H := L1.tk :: H) (o := d) (b := b) (rt := true) (C := C ++ encs s1) (g := g) (f := f)) (Top.cons (by omega))
          cases hg2 : gSum nx m (nx L1) with
          | error e =>
            refine ⟨fun L2 s2 h => absurd h (by simp), fun e' h => ?_⟩
            cases h
            exact (k4 e hg2).back (rc.trans st)
          | ok p =>
            obtain ⟨L2, s2⟩ := p
            refine ⟨fun L2' s2' h => ?_, fun e' h => absurd h (by simp)⟩
            cases h
            obtain ⟨j1, j2, H', C', o', j3, j4⟩ := k3 L2 s2 hg2
            refine ⟨by rw [if_pos rfl]; omega, fun z => absurd z (by simp), fun z => absurd z (by simp), 6, H', C', o', true, Or.inl ⟨rfl, j2⟩, (rc.trans st).trans j3, ?_⟩
            have en : lw_enc (L1.tk - 5, 0) = [-(nI L1.tk)] := by rcases hc3 with q | q | q <;> rw [q] <;> rfl
            have q5 : Rq 5 H' C' o' (L1.tk :: H) (C ++ encs s1 ++ encs s2) d := Rq.of (by rw [j4]; exact (Top.cons (by omega) : Top 5 (L1.tk :: H)).rel.symm)
            have := (q5.le (show 3 ≤ 5 by omega)).trans (Rq.pop (by omega) (by omega))
            rw [encs_app, encs_app, encs_cons, en, encs_nil, List.append_nil]
            simp only [List.append_assoc] at this ⊢
            exact this
        · rw [if_neg qc]
          refine ⟨fun L2' s2' h => absurd h (by simp), fun e' h => ?_⟩
          cases h
          refine (Fl.now n58 (H := H1) (o := o1) (b := b) (rt := false) (C := C1) (g := g) ?_).back rc
          show rdStep L1 (5, H1, o1, b, false, C1, g, f) = _
          rw [rdStep, if_neg (by omega), if_neg (by omega), if_neg (by omega), if_neg (by omega), if_neg (by omega), if_pos rfl, if_neg qc, if_neg l2]; rfl
end H
