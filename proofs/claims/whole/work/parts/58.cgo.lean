/-! hours that go by: what holds between them; the class -/
def TInv (P : Pm) (A : HS) : Prop := (∀ x, x < P.nl → (P.R 5 x).toInt < A.now → A.r 1 x ≠ -1) ∧ (∀ x, x < P.nl → (A.now : Int) ≤ (P.R 5 x).toInt → A.r 1 x = -1 ∧ A.r 2 x = -1 ∧ A.r 3 x = 0 ∧ A.r 4 x = 0)
def XInv (P : Pm) (A : HS) : Prop := (∀ x, P.nl ≤ x → x < 30 → A.r 1 x = -1 ∧ A.r 2 x = -1 ∧ A.r 3 x = 0 ∧ A.r 4 x = 0) ∧ (∀ i, P.nc ≤ i → i < 20 → A.r 7 i = -1 ∧ A.r 8 i = 0 ∧ A.r 9 i = 0)
def HInv (P : Pm) (fm : Nat) (A : HS) : Prop := AInv P A [] ∧ WInv P fm A.now A ∧ TInv P A ∧ (∀ i, i < P.nc → A.r 7 i = -1 ∨ (0 ≤ (A.r 7 i).toInt ∧ (A.r 7 i).toInt < A.now)) ∧ A.st ≤ 900 * A.now ∧ A.now ≤ 168 ∧ XInv P A
def PB (P : Pm) : Prop := ∀ i, i < P.nc → bnd (P.R 9 i) 0 167 ∧ bnd (P.R 16 i) 0 24
theorem good_bring {P : Pm} {t : Nat} (hP : POk P) : ∀ (m i : Nat) (A : HS), i + m = P.nl → AInv P A [] → A.st + m < 2 ^ 30 → AInv P (hs_run (hs_bring1 P t) m i A) [] ∧ (hs_run (hs_bring1 P t) m i A).st ≤ A.st + m ∧ (∀ k j, k ≠ 1 → k ≠ 2 → k ≠ 5 → (k ≠ 65 ∨ j ≠ 13) → (hs_run (hs_bring1 P t) m i A).r k j = A.r k j) ∧ (hs_run (hs_bring1 P t) m i A).now = A.now ∧ (∀ x, x < P.nl → P.R 5 x = nI t → i ≤ x → (hs_run (hs_bring1 P t) m i A).r 1 x ≠ -1) ∧ (∀ x, ¬ (x < P.nl ∧ P.R 5 x = nI t ∧ i ≤ x) → (hs_run (hs_bring1 P t) m i A).r 1 x = A.r 1 x ∧ (hs_run (hs_bring1 P t) m i A).r 2 x = A.r 2 x) ∧ (P.R 65 11 = -1 → (hs_run (hs_bring1 P t) m i A).r 65 13 = A.r 65 13)
  | 0, i, A, hi, hA, _ => ⟨hA, Nat.le_refl _, fun _ _ _ _ _ _ => rfl, rfl, fun x hx _ hix => absurd hi (by omega), fun _ _ => ⟨rfl, rfl⟩, fun _ => rfl⟩
  | m + 1, i, A, hi, hA, hst => by
    obtain ⟨g1, g2, g3, g4, g5, g6, g7⟩ := good_bring1 (t := t) hP hA (by omega : i < P.nl) (by omega)
    obtain ⟨f1, f2, f3, f4, f5, f6, f7⟩ := good_bring (t := t) hP m (i + 1) (hs_bring1 P t i A) (by omega) g1 (by omega)
    rw [hs_run]
    refine ⟨f1, by omega, fun k j k1 k2 k5 k65 => (f3 k j k1 k2 k5 k65).trans (g3 k j (fun z => absurd z (by omega)) k65), f4.trans g4, fun x hx h5 hix => ?_, fun x hx => ?_, fun z => (f7 z).trans (g7 z)⟩
    · by_cases q : x = i
      · subst q
        rw [(f6 x (fun z => absurd z.2.2 (by omega))).1]
        exact g5 h5
      · exact f5 x hx h5 (by omega)
    · obtain ⟨r1, r2⟩ := f6 x (fun z => hx ⟨z.1, z.2.1, by omega⟩)
      by_cases q : x = i
      · subst q
        have hn : ¬ P.R 5 x = nI t := fun z => hx ⟨by omega, z, by omega⟩
        rw [r1, r2, g6 hn]
        exact ⟨rfl, rfl⟩
      · rw [r1, r2, g3 1 x (fun _ => q) (by omega), g3 2 x (fun _ => q) (by omega)]
        exact ⟨rfl, rfl⟩
theorem cross_done {P : Pm} {t i : Nat} {A : HS} (hP : POk P) (ht : t < 2 ^ 30) (hA : AInv P A []) (hi : i < P.nc) (hc : A.r 7 i = -1) (hst : A.st + 30 * hs_un A P.nc < 2 ^ 29) (n : Nat) : (hs_cross P t (n + 1) i A).r 7 i ≠ -1 := by
  obtain ⟨h1, h2, h3⟩ := good_cross1 hP hA hi hc ht hst
  have h4 := good_run (P := P) (t := t) (k := 0) (f := fun j B => if hs_behind P j i B = true then hs_cross P t n j B else B) (n := P.nc) ht (fun j B hj hB hs => by
    split
    · rename_i hb
      exact good_cross hP ht n j B hB hj (of_decide_eq_true hb).2.2.1 hs
    · exact Good.refl hB) P.nc 0 (hs_cross1 P i t A) (by omega) h1.1 (by have := h1.2.2.2.1; omega)
  intro z
  have := h4.mono ht i z
  rw [h3] at this
  exact nI_n1 (by omega) this
theorem walk_done {P : Pm} {t i : Nat} (hP : POk P) (ht : t < 2 ^ 30) (hi : i < P.nc) (hf : ∀ B : HS, B.r 7 i = -1 → hs_goes P i t B = true) : ∀ (m j : Nat) (A : HS), j + m = P.nc → j ≤ i → AInv P A [] → A.st + 30 * hs_un A P.nc < 2 ^ 29 → (hs_run (hs_walk1 P t) m j A).r 7 i ≠ -1
  | 0, j, A, hj, hji, _, _ => absurd hi (by omega)
  | m + 1, j, A, hj, hji, hA, hst => by
    rw [hs_run]
    have gd := good_walk1 (t := t) hP ht hA (by omega : j < P.nc) hst
    by_cases q : j = i
    · subst q
      have h1 : (hs_walk1 P t j A).r 7 j ≠ -1 := by
        by_cases w : A.r 7 j = -1
        · unfold hs_walk1
          rw [if_pos (hf A w)]
          exact cross_done hP ht hA hi w hst 19
        · exact fun z => w (gd.mono ht j z)
      have h2 := good_run (P := P) (t := t) (k := 0) (f := hs_walk1 P t) (n := P.nc) ht (fun i A hi hA hs => good_walk1 hP ht hA hi hs) m (j + 1) _ (by omega) gd.1 (by have := gd.2.2.2.1; omega)
      exact fun z => h1 (h2.mono ht j z)
    · exact walk_done hP ht hi hf m (j + 1) _ (by omega) (by omega) gd.1 (by have := gd.2.2.2.1; omega)
/-- the parts of an hour -/
theorem hour_parts {P : Pm} {A : HS} (hP : POk P) (hA : AInv P A []) (hst : A.st ≤ 900 * A.now) (ht : A.now < 168) :
    AInv P (hs_bring P A.now A) [] ∧ (hs_bring P A.now A).st + 30 * hs_un (hs_bring P A.now A) P.nc < 2 ^ 28 ∧ Good P A.now 0 (hs_bring P A.now A) (hs_fetch P A.now (hs_bring P A.now A)) ∧ Good P A.now 0 (hs_fetch P A.now (hs_bring P A.now A)) (hs_walk P A.now (hs_fetch P A.now (hs_bring P A.now A))) ∧ Good P A.now 240 (hs_walk P A.now (hs_fetch P A.now (hs_bring P A.now A))) (hs_offers P A.now (hs_walk P A.now (hs_fetch P A.now (hs_bring P A.now A)))) ∧ (hs_bring P A.now A).st ≤ A.st + 30 := by
  have hP1 := hP.1
  obtain ⟨f1, f2, f3, f4, f5, f6, f7⟩ := good_bring (t := A.now) hP P.nl 0 A (by omega) hA (by omega)
  have hu := un_le (A := hs_bring P A.now A) P.nc
  have f2' : (hs_bring P A.now A).st ≤ A.st + P.nl := f2
  have g1 : Good P A.now 0 (hs_bring P A.now A) (hs_fetch P A.now (hs_bring P A.now A)) := by
    have := good_run (P := P) (t := A.now) (k := 0) (f := hs_fetch1 P A.now) (n := P.nl) (by omega) (fun i B hi hB _ => good_fetch1 hP hB hi) P.nl 0 (hs_bring P A.now A) (by omega) f1 (by omega)
    rw [Nat.zero_mul] at this
    exact this
  have s1 := g1.2.2.2.1
  have g2 : Good P A.now 0 (hs_fetch P A.now (hs_bring P A.now A)) (hs_walk P A.now (hs_fetch P A.now (hs_bring P A.now A))) := by
    have := good_run (P := P) (t := A.now) (k := 0) (f := hs_walk1 P A.now) (n := P.nc) (by omega) (fun i B hi hB hs => good_walk1 hP (by omega) hB hi hs) P.nc 0 _ (by omega) g1.1 (by omega)
    rw [Nat.zero_mul] at this
    exact this
  have s2 := g2.2.2.2.1
  have g3 : Good P A.now 240 (hs_walk P A.now (hs_fetch P A.now (hs_bring P A.now A))) (hs_offers P A.now (hs_walk P A.now (hs_fetch P A.now (hs_bring P A.now A)))) := by
    have := good_run (P := P) (t := A.now) (k := 30) (f := hs_offer1 P A.now) (n := P.no) (by omega) (fun i B hi hB hs => good_offer1 hP (by omega) hB hi hs) P.no 0 _ (by omega) g2.1 (by omega)
    exact this.weak (by omega)
  exact ⟨f1, by omega, g1, g2, g3, by omega⟩
theorem HInv.hour {P : Pm} {fm : Nat} {A : HS} (hP : POk P) (hB : PB P) (h : HInv P fm A) (ht : A.now < 168) : HInv P fm (hs_hour P A) ∧ (hs_hour P A).now = A.now + 1 ∧ (P.R 65 11 = -1 → (hs_hour P A).r 65 13 = A.r 65 13) := by
  have hP1 := hP.1
  obtain ⟨a1, a2, a3, a4, a5, a6, a7⟩ := h
  obtain ⟨f1, f2, f3, f4, f5, f6, f7⟩ := good_bring (t := A.now) hP P.nl 0 A (by omega) a1 (by omega)
  obtain ⟨p1, p2, p3, p4, p5, p6⟩ := hour_parts hP a1 a5 ht
  have G := ((p3.trans p4 (by omega)).trans p5 (by omega))
  have hnow : (hs_hour P A).now = A.now + 1 := by
    show (hs_offers P A.now (hs_walk P A.now (hs_fetch P A.now (hs_bring P A.now A)))).now + 1 = _
    rw [G.2.2.2.2.1]
    exact congrArg (· + 1) f4
  have hr : (hs_hour P A).r = (hs_offers P A.now (hs_walk P A.now (hs_fetch P A.now (hs_bring P A.now A)))).r := rfl
  have hst : (hs_hour P A).st = (hs_offers P A.now (hs_walk P A.now (hs_fetch P A.now (hs_bring P A.now A)))).st := rfl
  have t0 : ∀ x : Int32, x = nI A.now ↔ x.toInt = A.now := fun x => by rw [i_eq, nI_toInt (by omega)]
  have un0 : hs_un (hs_bring P A.now A) P.nc ≤ 20 := Nat.le_trans (un_le _) (by omega)
  have r7 : ∀ j, (hs_bring P A.now A).r 7 j = A.r 7 j := fun j => f3 7 j (by omega) (by omega) (by omega) (by omega)
  have St1 := G.2.2.2.2.2.1
  obtain ⟨G1, G2, G3, G4, G5, G6, G7⟩ := G
  refine ⟨⟨G1, ?_, ⟨fun x hx h5 => ?_, fun x hx h5 => ?_⟩, fun i hi => ?_, ?_, by omega, ⟨fun x hx h30 => ?_, fun i hi h20 => ?_⟩⟩, hnow, fun z => ?_⟩
  · -- WInv
    intro i hi h15 h7 hab
    have h7' : (hs_walk P A.now (hs_fetch P A.now (hs_bring P A.now A))).r 7 i = -1 := p5.mono (by omega) i h7
    have hA7 : A.r 7 i = -1 := by
      rw [← r7]
      exact p3.mono (by omega) i (p4.mono (by omega) i h7')
    have hw := a2 i hi h15 hA7 hab
    rw [hnow]
    refine Classical.byContradiction (fun hno => ?_)
    obtain ⟨⟨b1, b2⟩, b3, b4⟩ := hB i hi
    have hle : (P.R 9 i).toInt + (P.R 16 i).toInt ≤ A.now := by
      have : ¬ (((A.now + 1 : Nat) : Int) ≤ (P.R 9 i).toInt + (P.R 16 i).toInt) := fun z => hno (Int.le_trans z (Int.le_max_left _ _))
      omega
    obtain ⟨n9, e9, l9⟩ := i_of (x := P.R 9 i) (hi := 167) (inR_t.mpr ⟨b1, b2⟩)
    obtain ⟨n16, e16, l16⟩ := i_of (x := P.R 16 i) (hi := 24) (inR_t.mpr ⟨b3, b4⟩)
    have q9 : (P.R 9 i).toInt = n9 := by
      rw [e9] at b2 ⊢
      have : n9 < 2 ^ 31 := by omega
      rw [nI_toInt this]
    have q16 : (P.R 16 i).toInt = n16 := by
      rw [e16] at b4 ⊢
      have : n16 < 2 ^ 31 := by omega
      rw [nI_toInt this]
    have forced : ∀ B : HS, B.r 7 i = -1 → hs_goes P i A.now B = true := fun B hB7 => by
      refine decide_eq_true ⟨hB7, hab, ?_, Or.inr ⟨h15, Or.inl ?_⟩⟩
      · rw [e9, nI_leI (by omega) (by omega)]; omega
      · rw [e9, e16, nI_add, nI_leI (by omega) (by omega)]; omega
    exact walk_done hP (by omega) hi forced P.nc 0 _ (by omega) (by omega) p3.1 (by have := p3.2.2.2.1; omega) h7'
  · rw [hnow] at h5
    refine (St1 x).2 ?_
    by_cases q : P.R 5 x = nI A.now
    · exact f5 x hx q (by omega)
    · have := (f6 x (fun z => q z.2.1)).1
      have h5' : (P.R 5 x).toInt ≠ A.now := fun z => q ((t0 _).mpr z)
      show (hs_run (hs_bring1 P A.now) P.nl 0 A).r 1 x ≠ -1
      rw [this]
      exact a3.1 x hx (by omega)
  · rw [hnow] at h5
    have q : ¬ P.R 5 x = nI A.now := fun z => by have := (t0 _).mp z; omega
    obtain ⟨s1, s2, s3, s4⟩ := a3.2 x hx (by omega)
    obtain ⟨e1, e2⟩ := f6 x (fun z => q z.2.1)
    have e3 := f3 3 x (by omega) (by omega) (by omega) (by omega)
    have e4 := f3 4 x (by omega) (by omega) (by omega) (by omega)
    obtain ⟨d1, d2, d3, d4⟩ := (St1 x).1 (e1.trans s1)
    exact ⟨d1.trans (e1.trans s1), d2.trans (e2.trans s2), d3.trans (e3.trans s3), d4.trans (e4.trans s4)⟩
  · rw [hnow, hr]
    rcases G2 i with g | ⟨_, g, _⟩
    · rw [g, r7]
      rcases a4 i hi with w | w
      · exact Or.inl w
      · exact Or.inr ⟨w.1, by omega⟩
    · rw [g, nI_toInt (by omega)]
      exact Or.inr ⟨by omega, by omega⟩
  · rw [hnow, hst]
    omega
  · obtain ⟨s1, s2, s3, s4⟩ := a7.1 x hx h30
    obtain ⟨e1, e2⟩ := f6 x (fun z => absurd z.1 (by omega))
    have e3 := f3 3 x (by omega) (by omega) (by omega) (by omega)
    have e4 := f3 4 x (by omega) (by omega) (by omega) (by omega)
    obtain ⟨d1, d2, d3, d4⟩ := (St1 x).1 (e1.trans s1)
    exact ⟨d1.trans (e1.trans s1), d2.trans (e2.trans s2), d3.trans (e3.trans s3), d4.trans (e4.trans s4)⟩
  · obtain ⟨s1, s2, s3⟩ := a7.2 i hi h20
    have e8 := f3 8 i (by omega) (by omega) (by omega) (by omega)
    have e9 := f3 9 i (by omega) (by omega) (by omega) (by omega)
    have g7 : (hs_hour P A).r 7 i = A.r 7 i := by
      rw [hr]
      rcases G2 i with g | ⟨_, _, g⟩
      · rw [g, r7]
      · omega
    exact ⟨g7.trans s1, ((G3 i hi).1.trans e8).trans s2, ((G3 i hi).2.trans e9).trans s3⟩
  · exact (G7 z).trans (f7 z)
/-- hours up to u, or till the watched one is there -/
def hs_go (P : Pm) (u : Int) : Nat → HS → HS
  | 0, A => A
  | n + 1, A => if (A.now : Int) ≤ u ∧ A.r 65 13 = -1 then hs_go P u n (hs_hour P A) else A
theorem CR.tick {c : Nat} {P : Pm} {I0 : mx_I} {A : HS} {I : mx_I} (h : CR c P A I0 I) : CR c P A.tick I0 (mx_set I c 9 (nI (A.now + 1))) := by
  obtain ⟨hc, ⟨g1, g2, g3, g4, g5, g6, g7, g8⟩, hf⟩ := h
  refine ⟨hc, ⟨fun k k1 k2 k3 => ?_, fun f f1 f2 => ?_, fun l' hl j j1 j2 => ?_, ?_, fun i hi j j1 j2 => ?_, ⟨?_, ?_⟩, fun f f1 f2 => ?_, ⟨g8.1, ?_, fun i hi j hj => ?_⟩⟩, fun k k1 k2 k3 k4 k5 k6 => ?_⟩
  · rw [ms_ne (by omega)]; exact g1 k k1 k2 k3
  · rw [ms_ne (by omega)]; exact g2 f f1 f2
  · rw [ms_ne (by omega)]; exact g3 l' hl j j1 j2
  · exact g4.congr (ms_ne (by omega)) (ms_ne (by omega))
  · rw [ms_ne (by omega)]; exact g5 i hi j j1 j2
  · rw [ms_self, upd_eq]; rfl
  · rw [ms_at (Or.inr (by omega))]; exact g6.2
  · rw [ms_ne (by omega)]; exact g7 f f1 f2
  · rw [ms_ne (by omega)]; exact g8.2.1
  · rw [ms_ne (by omega)]; exact g8.2.2 i hi j hj
  · rw [ms_ne (by omega)]; exact hf k k1 k2 k3 k4 k5 k6
section C
variable {l : Launch} {c : Nat} {P : Pm} {I0 : mx_I}
set_option maxHeartbeats 1000000 in
theorem sp_pass {d fm : Nat} {A : HS} {I : mx_I} (hP : POk P) (hwr : P.wr = true → P.R 65 9 = 0) (hpl : CPlan P fm I0) (h : CR c P A I0 I) (hA : AInv P A []) (hW : WInv P fm A.now A) (hT : TInv P A) (hst : A.st ≤ 900 * A.now) (ht : A.now < 168) :
    mx_Spec l mX1_pass (d + 25) 0 0 [.ref 65, .int (nI A.now)] (sk0 c, I) (fun r h' => r = none ∧ ∃ I', h' = (sk0 c, I') ∧ CR c P (hs_offers P A.now (hs_walk P A.now (hs_fetch P A.now (hs_bring P A.now A)))) I0 I') := by
  have hP1 := hP.1
  obtain ⟨m1, m2, m3, m4⟩ := hpl A.now ht
  obtain ⟨p1, p2, p3, p4, p5, p6⟩ := hour_parts hP hA hst ht
  obtain ⟨f1, f2, f3, f4, f5, f6, f7⟩ := good_bring (t := A.now) hP P.nl 0 A (by omega) hA (by omega)
  have hcc := h.cc
  have b1 : vp_in (nI A.now) 168 := i_vp (by omega) (by omega)
  have W1 : WInv P fm A.now (hs_fetch P A.now (hs_bring P A.now A)) := hW.mono (fun j z => by
    have := p3.mono (by omega) j z
    rw [show (hs_bring P A.now A).r 7 j = A.r 7 j from f3 7 j (by omega) (by omega) (by omega) (by omega)] at this
    exact this)
  have hx : ∀ x, 0 ≤ x → x < P.nl → P.R 5 x = nI A.now → A.r 1 x = -1 := fun x _ hx h5 => (hT.2 x hx (by rw [h5, nI_toInt (by omega)]; omega)).1
  -- behind the fetching
  have k70 : ∀ J, CR c P (hs_fetch P A.now (hs_bring P A.now A)) I0 J → mx_Go l (mx_rm (d + 25) 0 0) mX1_pass (mx_Z (fun r h' => r = none ∧ ∃ I', h' = (sk0 c, I') ∧ CR c P (hs_offers P A.now (hs_walk P A.now (hs_fetch P A.now (hs_bring P A.now A)))) I0 I') 0 0) 0 0 70 [.ref 65, .int (nI A.now), .int ((J 69 (nI A.now).toNatClampNeg) &&& ((J 65 10) ^^^ (-1))), .int 0, .retAddr 0, .retAddr 0, .retAddr 0] [] (sk0 c, J) := by
    intro J hJ
    rw [nI_clamp (n := A.now) (by omega), hJ.old (k := 69) (by omega), hJ.crs (f := 10) (by omega) (by omega)]
    refine wa_loop (i := 0) hP ht (fun i hi => ?_) P.nc _ J (by omega) hJ p3.1 W1 (by have := p3.2.2.2.1; omega) (fun J2 hJ2 => ?_)
    · rw [b_and, b_not _ (by omega), Bool.and_eq_true, m3 i hi]
      cases bt (P.R 65 10) i <;> simp
    · refine of_loop (i := 0) (d := d + 21) hP ht hwr (fun i hi => ?_) P.no (hs_walk P A.now (hs_fetch P A.now (hs_bring P A.now A))) J2 (by omega) hJ2 p4.1 (by have := p4.2.2.2.1; have := p3.2.2.2.1; omega) (fun J3 hJ3 => ⟨rfl, J3, rfl, hJ3⟩)
      rw [b_and, Bool.and_eq_true, m4 i hi]
      exact And.comm
  have fetch0 : (∀ i, i < P.nl → ¬ (P.R 6 i ≠ -1 ∧ P.R 7 i = nI A.now)) → hs_fetch P A.now (hs_bring P A.now A) = hs_bring P A.now A := fun z => run_id (n := P.nl) (fun i hi => by unfold hs_fetch1; rw [if_neg (fun w => z i hi w.1)]) P.nl 0 (by omega)
  -- behind the bringing, no fetching
  have nof : ∀ J, CR c P (hs_bring P A.now A) I0 J → J 68 (nI A.now).toNatClampNeg = 0 → CR c P (hs_fetch P A.now (hs_bring P A.now A)) I0 J := fun J hJ z => by
    rw [nI_clamp (n := A.now) (by omega), hJ.old (k := 68) (by omega)] at z
    rw [fetch0 (fun i hi w => by have := (m2 i hi).mpr w; rw [z, b_0] at this; exact absurd this (by simp))]
    exact hJ
  have fet : ∀ J, CR c P (hs_bring P A.now A) I0 J → mx_K1 l mX1_fetchOff (d + 24) [.ref 65, .int (J 68 (nI A.now).toNatClampNeg)] (sk0 c, J) (fun r h' => mx_Go l (mx_rm (d + 24 + 1) 0 0) mX1_pass (mx_Z (fun r h' => r = none ∧ ∃ I', h' = (sk0 c, I') ∧ CR c P (hs_offers P A.now (hs_walk P A.now (hs_fetch P A.now (hs_bring P A.now A)))) I0 I') 0 0) 0 0 51 [.ref 65, .int (nI A.now), .retAddr 0, .retAddr 0, .retAddr 0, .retAddr 0, .retAddr 0] (r.toList ++ []) h') := by
    intro J hJ
    rw [nI_clamp (n := A.now) (by omega), hJ.old (k := 68) (by omega)]
    refine ⟨fun r h' => r = none ∧ ∃ I', h' = (sk0 c, I') ∧ CR c P (hs_fetch P A.now (hs_bring P A.now A)) I0 I', sn_X1_fetchOff _ (at9_c hcc) (fe_loop (d := d + 21) (i := 0) hP m2 P.nl _ J (by omega) hJ p1 (fun J2 hJ2 => ⟨rfl, J2, rfl, hJ2⟩)), ?_⟩
    rintro _ _ ⟨rfl, J2, rfl, hJ2⟩
    exact sg_X1_pass_51 (at9_c hcc) _ b1 (k70 J2 hJ2)
  have bring0 : I 67 (nI A.now).toNatClampNeg = 0 → CR c P (hs_bring P A.now A) I0 I := fun z => by
    rw [nI_clamp (n := A.now) (by omega), h.old (k := 67) (by omega)] at z
    have : hs_bring P A.now A = A := run_id (n := P.nl) (fun i hi => by
      unfold hs_bring1
      rw [if_neg]
      rintro ⟨w, _⟩
      have := (m1 i hi).mpr w
      rw [z, b_0] at this
      exact absurd this (by simp)) P.nl 0 (by omega)
    rw [this]; exact h
  refine sn_X1_pass _ (at9_c hcc) b1 (fun _ => b1) (fun _ _ => b1) (fun g1 g2 => k70 I (nof I (bring0 g1) g2)) (fun _ _ => b1) (fun g1 g2 => fet I (bring0 g1)) (fun _ => b1) (fun g1 => ?_)
  rw [nI_clamp (n := A.now) (by omega), h.old (k := 67) (by omega)]
  refine ⟨fun r h' => r = none ∧ ∃ I', h' = (sk0 c, I') ∧ CR c P (hs_bring P A.now A) I0 I', sn_X1_bring _ _ (at9_c hcc) (br_loop (d := d + 21) (i := 0) hP m1 P.nl A I (by omega) h hA (by omega) hx (fun J hJ => ⟨rfl, J, rfl, hJ⟩)), ?_⟩
  rintro _ _ ⟨rfl, J, rfl, hJ⟩
  exact sg_X1_pass_26 (at9_c hcc) _ b1 (fun _ => b1) (fun g => k70 J (nof J hJ g)) (fun _ => b1) (fun _ => fet J hJ)
theorem go_loop {d fm : Nat} {Q : Option Value → mx_H → Prop} {u : Int32} (hP : POk P) (hB : PB P) (hwr : P.wr = true → P.R 65 9 = 0) (hpl : CPlan P fm I0) : ∀ (n : Nat) (A : HS) (I : mx_I), A.now + n = 168 → CR c P A I0 I → HInv P fm A →
    (∀ I', CR c P (hs_go P u.toInt n A) I0 I' → HInv P fm (hs_go P u.toInt n A) → Q none (sk0 c, I')) →
    mx_Go l (mx_rm (d + 26) 0 0) mX1_goOn (mx_Z Q 0 0) 0 0 8 [.ref 65, .int u, .int (nI A.now)] [] (sk0 c, I) := by
  intro n
  induction n with
  | zero =>
    intro A I hn h hI hQ
    have e1 : (168 : Int32) ≤ nI A.now := by rw [show (168 : Int32) = nI 168 from rfl, nI_leI (by omega) (by omega)]; omega
    exact sg_X1_goOn_8 (at9_c h.cc) _ _ (fun _ => hQ I h hI) (fun _ _ => hQ I h hI) (fun _ z => absurd e1 z) (fun _ z => absurd e1 z)
  | succ n ih =>
    intro A I hn h hI hQ
    have e1 : ¬ (168 : Int32) ≤ nI A.now := fun z => by rw [show (168 : Int32) = nI 168 from rfl, nI_leI (by omega) (by omega)] at z; omega
    have e2 : u < nI A.now ↔ u.toInt < A.now := by rw [i_lt, nI_toInt (by omega)]
    have hm := h.x (f := 13) (by omega) (by omega)
    rw [hs_go] at hQ
    have stop : ¬ ((A.now : Int) ≤ u.toInt ∧ A.r 65 13 = -1) → Q none (sk0 c, I) := fun z => by
      rw [if_neg z] at hQ
      exact hQ I h hI
    refine sg_X1_goOn_8 (at9_c h.cc) _ _ (fun g => stop (fun z => by have := e2.mp g; omega)) (fun _ z => absurd z e1) (fun _ _ g => stop (fun z => g (hm.trans z.2))) (fun g _ g3 => ?_)
    have hc : (A.now : Int) ≤ u.toInt ∧ A.r 65 13 = -1 := ⟨by have : ¬ u.toInt < A.now := fun z => g (e2.mpr z); omega, hm.symm.trans g3⟩
    rw [if_pos hc] at hQ
    obtain ⟨hI1, hI2, hI3⟩ := hI.hour hP hB (by omega)
    obtain ⟨a1, a2, a3, a4, a5, a6, a7⟩ := hI
    refine ⟨_, sp_pass (d := d) hP hwr hpl h a1 a2 a3 a5 (by omega), ?_⟩
    rintro _ _ ⟨rfl, J, rfl, hJ⟩
    refine sg_X1_goOn_33 (at9_c h.cc) _ _ ?_
    have hn2 : (hs_offers P A.now (hs_walk P A.now (hs_fetch P A.now (hs_bring P A.now A)))).now = A.now := Nat.succ.inj hI2
    have hJ2 := hJ.tick
    rw [hn2] at hJ2
    have hJ3 : CR c P (hs_hour P A) I0 (mx_set J c 9 (nI (A.now + 1))) := hJ2
    rw [nI_1]
    have k := ih (hs_hour P A) _ (by omega) hJ3 hI1 hQ
    rw [hI2] at k
    exact k
theorem sp_goOn {d fm : Nat} {A : HS} {I : mx_I} {u : Int32} (hP : POk P) (hB : PB P) (hwr : P.wr = true → P.R 65 9 = 0) (hpl : CPlan P fm I0) (h : CR c P A I0 I) (hI : HInv P fm A) :
    mx_Spec l mX1_goOn (d + 26) 0 0 [.ref 65, .int u] (sk0 c, I) (fun r h' => r = none ∧ ∃ I', h' = (sk0 c, I') ∧ CR c P (hs_go P u.toInt (168 - A.now) A) I0 I' ∧ HInv P fm (hs_go P u.toInt (168 - A.now) A)) := by
  refine sn_X1_goOn _ (at9_c h.cc) ?_
  rw [h.now]
  exact go_loop hP hB hwr hpl (168 - A.now) A I (by have := hI.2.2.2.2.2.1; omega) h hI (fun I' g1 g2 => ⟨rfl, I', rfl, g1, g2⟩)
end C
