/-! the reader with a stack follows the grammar -/
def encs (s : GSt) : List Int32 := s.flatMap lw_enc
theorem encs_app (a b : GSt) : encs (a ++ b) = encs a ++ encs b := List.flatMap_append
theorem encs_cons (p : Nat × Int32) (b : GSt) : encs (p :: b) = lw_enc p ++ encs b := rfl
theorem encs_nil : encs [] = [] := rfl
theorem enc_name {t : Nat} {v : Int32} (h1 : 8 ≤ t) (h2 : t ≤ 14) : lw_enc (t - 7, v) = [-(nI t)] := by
  have : t = 8 ∨ t = 9 ∨ t = 10 ∨ t = 11 ∨ t = 12 ∨ t = 13 ∨ t = 14 := by omega
  rcases this with rfl | rfl | rfl | rfl | rfl | rfl | rfl <;> rfl
theorem rel_top (r : Nat) : ∀ (H : List Nat) (C : List Int32) (o : Nat), Top r (rel r H C o).1
  | [], C, o => Or.inl rfl
  | x :: H, C, o => by
    by_cases q : r ≤ rnk x
    · rw [rel_yes q]; exact rel_top r H _ _
    · rw [rel_no (by omega)]; exact Top.cons (by omega)
def bw (rt : Bool) : Nat := if rt = true then 6 else 5
theorem bw_56 (rt : Bool) : bw rt = 5 ∨ bw rt = 6 := by cases rt <;> simp [bw]
section G
variable (nx : LX → LX)
def Rc (s : RdS) (L : LX) (s' : RdS) (L' : LX) : Prop := ∃ j, ∀ m, crun nx (m + j) s L = crun nx m s' L'
def Fl (s : RdS) (L : LX) (e : Nat × Nat) : Prop := ∃ H o b rt C g L', Rc nx s L (8, H, o, b, rt, C, g, e) L'
end G
section H
variable {nx : LX → LX} {ms : LX → Nat}
theorem Rc.refl {s : RdS} {L : LX} : Rc nx s L s L := ⟨0, fun _ => rfl⟩
theorem Rc.trans {s s1 s2 : RdS} {L L1 L2 : LX} (h1 : Rc nx s L s1 L1) (h2 : Rc nx s1 L1 s2 L2) : Rc nx s L s2 L2 := by
  obtain ⟨j1, h1⟩ := h1
  obtain ⟨j2, h2⟩ := h2
  exact ⟨j2 + j1, fun m => by rw [← Nat.add_assoc, h1, h2]⟩
theorem Rc.step {s : RdS} {L : LX} (h : s.1 ≠ 8) : Rc nx s L (rdStep L s) (nx L) := ⟨1, fun m => by rw [crun, if_neg h]⟩
theorem Rc.to {s s1 : RdS} {L : LX} (h : s.1 ≠ 8) (e : rdStep L s = s1) : Rc nx s L s1 (nx L) := e ▸ Rc.step h
theorem Fl.back {s s1 : RdS} {L L1 : LX} {e : Nat × Nat} (h1 : Rc nx s L s1 L1) (h2 : Fl nx s1 L1 e) : Fl nx s L e := by
  obtain ⟨H, o, b, rt, C, g, L', h2⟩ := h2
  exact ⟨H, o, b, rt, C, g, L', h1.trans h2⟩
theorem Fl.now {s : RdS} {L : LX} {H o b rt C g} {e : Nat × Nat} (h : s.1 ≠ 8) (e1 : rdStep L s = (8, H, o, b, rt, C, g, e)) : Fl nx s L e := ⟨H, o, b, rt, C, g, nx L, Rc.to h e1⟩
/-- where a unit is next -/
def Un (s : RdS) (L : LX) (H : List Nat) (o b : Nat) (rt : Bool) (C : List Int32) (g : List (Int32 × Nat) × Int32) (f : Nat × Nat) : Prop := s.1 ≠ 8 ∧ rdStep L s = rdUnit L (3, H, o, b, rt, C, g, f)
theorem un_ok {s : RdS} {L L1 : LX} {H o b rt C g f} {s1 : GSt} (hu : Un s L H o b rt C g f) (h : gUnit nx L = .ok (L1, s1)) : L1 = nx L ∧ L.tk ≠ 0 ∧ Rc nx s L (bw rt, H, o, b, rt, C ++ encs s1, g, f) (nx L) := by
  unfold gUnit at h
  obtain ⟨h8, hst⟩ := hu
  by_cases q1 : L.tk = 1
  · rw [if_pos q1] at h
    cases h
    refine ⟨rfl, by omega, Rc.to h8 ?_⟩
    rw [hst, rdUnit, if_pos q1]; rfl
  · rw [if_neg q1] at h
    by_cases q2 : 8 ≤ L.tk ∧ L.tk ≤ 14
    · rw [if_pos q2] at h
      cases h
      refine ⟨rfl, by omega, Rc.to h8 ?_⟩
      rw [hst, rdUnit, if_neg q1, if_pos q2, encs_cons, enc_name q2.1 q2.2, encs_nil, List.append_nil]; rfl
    · rw [if_neg q2] at h; exact absurd h (by simp)
theorem un_er {s : RdS} {L : LX} {H o b rt C g f} {e : Nat × Nat} (hu : Un s L H o b rt C g f) (h : gUnit nx L = .error e) : Fl nx s L e := by
  unfold gUnit at h
  obtain ⟨h8, hst⟩ := hu
  by_cases q1 : L.tk = 1
  · rw [if_pos q1] at h; exact absurd h (by simp)
  · rw [if_neg q1] at h
    by_cases q2 : 8 ≤ L.tk ∧ L.tk ≤ 14
    · rw [if_pos q2] at h; exact absurd h (by simp)
    · rw [if_neg q2] at h
      cases h
      refine Fl.now h8 (H := H) (o := o) (b := b) (rt := rt) (C := C) (g := g) ?_
      rw [hst, rdUnit, if_neg q1, if_neg q2]; rfl
theorem un3 {L : LX} {H o b rt C g f} : Un (3, H, o, b, rt, C, g, f) L H o b rt C g f := ⟨by show (3 : Nat) ≠ 8; omega, rfl⟩
theorem un2 {L : LX} {H o b rt C g f} (h : L.tk ≠ 7 ∧ L.tk ≠ 20) : Un (2, H, o, b, rt, C, g, f) L H o b false C g f := by
  refine ⟨by show (2 : Nat) ≠ 8; omega, ?_⟩
  rw [rdStep, if_neg (by omega), if_neg (by omega), if_pos rfl, if_pos h]
  rfl
theorem bw8 {rt : Bool} : bw rt ≠ 8 := by cases rt <;> simp [bw]
theorem bw_join {L : LX} {H o b rt C g f} (h1 : 16 ≤ L.tk) (h2 : L.tk ≤ 19) {H0 C0 o0} (hr : rel (rnk L.tk) H C o = (H0, C0, o0)) : rdStep L (bw rt, H, o, b, rt, C, g, f) = (if L.tk = 19 then 4 else 3, L.tk :: H0, o0, b, rt, C0, g, f) := by
  rcases bw_56 rt with q | q <;> rw [q]
  · rw [rdStep, if_neg (by omega), if_neg (by omega), if_neg (by omega), if_neg (by omega), if_neg (by omega), if_pos rfl, if_neg (by omega), if_pos ⟨h1, h2⟩, rdJoin, hr]
  · rw [rdStep, if_neg (by omega), if_neg (by omega), if_neg (by omega), if_neg (by omega), if_neg (by omega), if_neg (by omega), if_pos rfl, if_pos ⟨h1, h2⟩, rdJoin, hr]
theorem prodL (hms : ∀ L : LX, L.tk ≠ 0 → ms (nx L) < ms L) : ∀ (m : Nat) (L : LX), ms L < m → ∀ {H o b rt C g f H0 C0 o0}, rel 6 H C o = (H0, C0, o0) →
    (∀ L2 s2, gProdL nx m L = .ok (L2, s2) → ms L2 ≤ ms L ∧ ¬ (L2.tk = 18 ∨ L2.tk = 19) ∧ ∃ H' C' o', Rc nx (bw rt, H, o, b, rt, C, g, f) L (bw rt, H', o', b, rt, C', g, f) L2 ∧ rel 6 H' C' o' = (H0, C0 ++ encs s2, o0)) ∧ (∀ e, gProdL nx m L = .error e → Fl nx (bw rt, H, o, b, rt, C, g, f) L e)
  | 0, L, hm => absurd hm (Nat.not_lt_zero _)
  | m + 1, L, hm => by
    rename_i H o b rt C g f H0 C0 o0
    intro hr
    have ht : Top 6 H0 := by have := rel_top 6 H C o; rw [hr] at this; exact this
    rw [gProdL]
    by_cases q18 : L.tk = 18
    · rw [if_pos q18]
      have hl := hms L (by omega)
      have st : Rc nx (bw rt, H, o, b, rt, C, g, f) L (3, 18 :: H0, o0, b, rt, C0, g, f) (nx L) := Rc.to bw8 (by
        rw [bw_join (H0 := H0) (C0 := C0) (o0 := o0) (by omega) (by omega) (by rw [q18]; exact hr), q18, if_neg (by omega)])
      cases hu : gUnit nx (nx L) with
      | error e =>
        refine ⟨fun L2 s2 h => absurd h (by simp), fun e' h => ?_⟩
        cases h
        exact (un_er un3 hu).back st
      | ok p =>
        obtain ⟨L1, s1⟩ := p
        obtain ⟨rfl, n0, rc⟩ := un_ok (H := 18 :: H0) (o := o0) (b := b) (rt := rt) (C := C0) (g := g) (f := f) un3 hu
        have hl2 := hms (nx L) n0
        have hr' : rel 6 (18 :: H0) (C0 ++ encs s1) o0 = (H0, C0 ++ encs s1 ++ [-(nI 18)], o0) := by
          rw [rel_yes (by decide), if_neg (by omega), ht.rel]
        obtain ⟨i1, i2⟩ := prodL hms m (nx (nx L)) (by omega) (b := b) (rt := rt) (g := g) (f := f) hr'
        simp only
        cases hp : gProdL nx m (nx (nx L)) with
        | error e =>
          refine ⟨fun L2 s2 h => absurd h (by simp), fun e' h => ?_⟩
          cases h
          exact (i2 e hp).back (st.trans rc)
        | ok p =>
          obtain ⟨L2, s2⟩ := p
          refine ⟨fun L2' s2' h => ?_, fun e' h => absurd h (by simp)⟩
          cases h
          obtain ⟨j1, j2, H', C', o', j3, j4⟩ := i1 L2 s2 hp
          refine ⟨by omega, j2, H', C', o', (st.trans rc).trans j3, ?_⟩
          rw [j4, encs_app, encs_cons]
          simp [lw_enc, List.append_assoc]
          rfl
    rw [if_neg q18]
    by_cases q19 : L.tk = 19
    · rw [if_pos q19]
      have hl := hms L (by omega)
      have st : Rc nx (bw rt, H, o, b, rt, C, g, f) L (4, 19 :: H0, o0, b, rt, C0, g, f) (nx L) := Rc.to bw8 (by
        rw [bw_join (H0 := H0) (C0 := C0) (o0 := o0) (by omega) (by omega) (by rw [q19]; exact hr), q19, if_pos rfl])
      have n48 : ((4, 19 :: H0, o0, b, rt, C0, g, f) : RdS).1 ≠ 8 := by show (4 : Nat) ≠ 8; omega
      by_cases q1 : (nx L).tk ≠ 1
      · rw [if_pos q1]
        refine ⟨fun L2 s2 h => absurd h (by simp), fun e h => ?_⟩
        cases h
        refine (Fl.now n48 (H := 19 :: H0) (o := o0) (b := b) (rt := rt) (C := C0) (g := g) ?_).back st
        rw [rdStep, if_neg (by omega), if_neg (by omega), if_neg (by omega), if_neg (by omega), if_pos rfl, if_neg (fun z => q1 z.1), if_neg q1]; rfl
      rw [if_neg q1]
      have q1' : (nx L).tk = 1 := Classical.byContradiction q1
      by_cases q0 : (nx L).vl = 0
      · rw [if_pos q0]
        refine ⟨fun L2 s2 h => absurd h (by simp), fun e h => ?_⟩
        cases h
        refine (Fl.now n48 (H := 19 :: H0) (o := o0) (b := b) (rt := rt) (C := C0) (g := g) ?_).back st
        rw [rdStep, if_neg (by omega), if_neg (by omega), if_neg (by omega), if_neg (by omega), if_pos rfl, if_pos ⟨q1', q0⟩]; rfl
      rw [if_neg q0]
      have hl2 := hms (nx L) (by omega)
      have st2 : Rc nx (4, 19 :: H0, o0, b, rt, C0, g, f) (nx L) (bw rt, 19 :: H0, o0, b, rt, C0 ++ [(nx L).vl], g, f) (nx (nx L)) := Rc.to n48 (by
        rw [rdStep, if_neg (by omega), if_neg (by omega), if_neg (by omega), if_neg (by omega), if_pos rfl, if_neg (fun z => q0 z.2), if_pos q1', rdUnit, if_pos q1']; rfl)
      have hr' : rel 6 (19 :: H0) (C0 ++ [(nx L).vl]) o0 = (H0, C0 ++ [(nx L).vl] ++ [-(nI 19)], o0) := by
        rw [rel_yes (by decide), if_neg (by omega), ht.rel]
      obtain ⟨i1, i2⟩ := prodL hms m (nx (nx L)) (by omega) (b := b) (rt := rt) (g := g) (f := f) hr'
      cases hp : gProdL nx m (nx (nx L)) with
      | error e =>
        refine ⟨fun L2 s2 h => absurd h (by simp), fun e' h => ?_⟩
        cases h
        exact (i2 e hp).back (st.trans st2)
      | ok p =>
        obtain ⟨L2, s2⟩ := p
        refine ⟨fun L2' s2' h => ?_, fun e' h => absurd h (by simp)⟩
        cases h
        obtain ⟨j1, j2, H', C', o', j3, j4⟩ := i1 L2 s2 hp
        refine ⟨by omega, j2, H', C', o', (st.trans st2).trans j3, ?_⟩
        rw [j4, encs_cons]
        simp [lw_enc, List.append_assoc]
        rfl
    rw [if_neg q19]
    refine ⟨fun L2 s2 h => ?_, fun e h => absurd h (by simp)⟩
    cases h
    exact ⟨Nat.le_refl _, by omega, H, C, o, Rc.refl, by rw [hr, encs_nil, List.append_nil]⟩
theorem prod (hms : ∀ L : LX, L.tk ≠ 0 → ms (nx L) < ms L) {m : Nat} {s : RdS} {L : LX} (hm : ms L ≤ m) {H o b rt C g f} (hu : Un s L H o b rt C g f) (ht : Top 6 H) :
    (∀ L2 s2, gProd nx m L = .ok (L2, s2) → ms L2 < ms L ∧ ¬ (L2.tk = 18 ∨ L2.tk = 19) ∧ ∃ H' C' o', Rc nx s L (bw rt, H', o', b, rt, C', g, f) L2 ∧ rel 6 H' C' o' = (H, C ++ encs s2, o)) ∧ (∀ e, gProd nx m L = .error e → Fl nx s L e) := by
  rw [gProd]
  cases hg : gUnit nx L with
  | error e =>
    refine ⟨fun L2 s2 h => absurd h (by simp), fun e' h => ?_⟩
    cases h
    exact un_er hu hg
  | ok p =>
    obtain ⟨L1, s1⟩ := p
    obtain ⟨rfl, n0, rc⟩ := un_ok hu hg
    have hl := hms L n0
    obtain ⟨i1, i2⟩ := prodL hms m (nx L) (by omega) (b := b) (rt := rt) (g := g) (f := f) (ht.rel (C := C ++ encs s1) (o := o))
    simp only
    cases hp : gProdL nx m (nx L) with
    | error e =>
      refine ⟨fun L2 s2 h => absurd h (by simp), fun e' h => ?_⟩
      cases h
      exact (i2 e hp).back rc
    | ok p =>
      obtain ⟨L2, s2⟩ := p
      refine ⟨fun L2' s2' h => ?_, fun e' h => absurd h (by simp)⟩
      cases h
      obtain ⟨j1, j2, H', C', o', j3, j4⟩ := i1 L2 s2 hp
      exact ⟨by omega, j2, H', C', o', rc.trans j3, by rw [j4, encs_app, List.append_assoc]⟩
theorem sumL (hms : ∀ L : LX, L.tk ≠ 0 → ms (nx L) < ms L) : ∀ (m : Nat) (L : LX), ms L < m → ¬ (L.tk = 18 ∨ L.tk = 19) → ∀ {H o b rt C g f H0 C0 o0}, rel 5 H C o = (H0, C0, o0) →
    (∀ L2 s2, gSumL nx m L = .ok (L2, s2) → ms L2 ≤ ms L ∧ ¬ (16 ≤ L2.tk ∧ L2.tk ≤ 19) ∧ ∃ H' C' o', Rc nx (bw rt, H, o, b, rt, C, g, f) L (bw rt, H', o', b, rt, C', g, f) L2 ∧ rel 5 H' C' o' = (H0, C0 ++ encs s2, o0)) ∧ (∀ e, gSumL nx m L = .error e → Fl nx (bw rt, H, o, b, rt, C, g, f) L e)
  | 0, L, hm, _ => absurd hm (Nat.not_lt_zero _)
  | m + 1, L, hm, hn => by
    rename_i H o b rt C g f H0 C0 o0
    intro hr
    have ht : Top 5 H0 := by have := rel_top 5 H C o; rw [hr] at this; exact this
    rw [gSumL]
    by_cases q : L.tk = 16 ∨ L.tk = 17
    · rw [if_pos q]
      have hl := hms L (by omega)
      have rk : rnk L.tk = 5 := by rcases q with q | q <;> rw [q] <;> rfl
      have st : Rc nx (bw rt, H, o, b, rt, C, g, f) L (3, L.tk :: H0, o0, b, rt, C0, g, f) (nx L) := Rc.to bw8 (by
        rw [bw_join (H0 := H0) (C0 := C0) (o0 := o0) (by omega) (by omega) (by rw [rk]; exact hr), if_neg (by omega)])
      obtain ⟨k1, k2⟩ := prod hms (m := m) (L := nx L) (by omega) (un3 (H := L.tk :: H0) (o := o0) (b := b) (rt := rt) (C := C0) (g := g) (f := f)) (Top.cons (by omega))
      cases hg : gProd nx m (nx L) with
      | error e =>
        refine ⟨fun L2 s2 h => absurd h (by simp), fun e' h => ?_⟩
        cases h
        exact (k2 e hg).back st
      | ok p =>
        obtain ⟨L1, s1⟩ := p
        obtain ⟨l1, l2, H1, C1, o1, rc, hr1⟩ := k1 L1 s1 hg
        have hr' : rel 5 H1 C1 o1 = (H0, C0 ++ encs s1 ++ [-(nI L.tk)], o0) := by
          rw [← rel_rel (show 5 ≤ 6 by omega) H1 C1 o1, hr1]
          show rel 5 (L.tk :: H0) (C0 ++ encs s1) o0 = _
          rw [rel_yes (by omega), if_neg (by omega), ht.rel]
        obtain ⟨i1, i2⟩ := sumL hms m L1 (by omega) l2 (b := b) (rt := rt) (g := g) (f := f) hr'
        simp only
        cases hp : gSumL nx m L1 with
        | error e =>
          refine ⟨fun L2 s2 h => absurd h (by simp), fun e' h => ?_⟩
          cases h
          exact (i2 e hp).back (st.trans rc)
        | ok p =>
          obtain ⟨L2, s2⟩ := p
          refine ⟨fun L2' s2' h => ?_, fun e' h => absurd h (by simp)⟩
          cases h
          obtain ⟨j1, j2, H', C', o', j3, j4⟩ := i1 L2 s2 hp
          refine ⟨by omega, j2, H', C', o', (st.trans rc).trans j3, ?_⟩
          rw [j4, encs_app, encs_cons]
          have en : lw_enc (L.tk - 3, 0) = [-(nI L.tk)] := by rcases q with q | q <;> rw [q] <;> rfl
          rw [en]
          simp only [List.append_assoc]
    rw [if_neg q]
    refine ⟨fun L2 s2 h => ?_, fun e h => absurd h (by simp)⟩
    cases h
    exact ⟨Nat.le_refl _, by omega, H, C, o, Rc.refl, by rw [hr, encs_nil, List.append_nil]⟩
theorem sum (hms : ∀ L : LX, L.tk ≠ 0 → ms (nx L) < ms L) {m : Nat} {s : RdS} {L : LX} (hm : ms L ≤ m) {H o b rt C g f} (hu : Un s L H o b rt C g f) (ht : Top 5 H) :
    (∀ L2 s2, gSum nx m L = .ok (L2, s2) → ms L2 < ms L ∧ ¬ (16 ≤ L2.tk ∧ L2.tk ≤ 19) ∧ ∃ H' C' o', Rc nx s L (bw rt, H', o', b, rt, C', g, f) L2 ∧ rel 5 H' C' o' = (H, C ++ encs s2, o)) ∧ (∀ e, gSum nx m L = .error e → Fl nx s L e) := by
  rw [gSum]
  obtain ⟨k1, k2⟩ := prod hms hm hu (ht.le (by omega))
  cases hg : gProd nx m L with
  | error e =>
    refine ⟨fun L2 s2 h => absurd h (by simp), fun e' h => ?_⟩
    cases h
    exact k2 e hg
  | ok p =>
    obtain ⟨L1, s1⟩ := p
    obtain ⟨l1, l2, H1, C1, o1, rc, hr1⟩ := k1 L1 s1 hg
    have hr' : rel 5 H1 C1 o1 = (H, C ++ encs s1, o) := by
      rw [← rel_rel (show 5 ≤ 6 by omega) H1 C1 o1, hr1]
      exact ht.rel
    obtain ⟨i1, i2⟩ := sumL hms m L1 (by omega) l2 (b := b) (rt := rt) (g := g) (f := f) hr'
    simp only
    cases hp : gSumL nx m L1 with
    | error e =>
      refine ⟨fun L2 s2 h => absurd h (by simp), fun e' h => ?_⟩
      cases h
      exact (i2 e hp).back rc
    | ok p =>
      obtain ⟨L2, s2⟩ := p
      refine ⟨fun L2' s2' h => ?_, fun e' h => absurd h (by simp)⟩
      cases h
      obtain ⟨j1, j2, H', C', o', j3, j4⟩ := i1 L2 s2 hp
      exact ⟨by omega, j2, H', C', o', rc.trans j3, by rw [j4, encs_app, List.append_assoc]⟩
end H
