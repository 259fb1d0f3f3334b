/-! the class: the plan -/
def Bits (row : Nat → Int32) (k : Nat) (p : Nat → Nat → Prop) : Prop := ∀ t, t < 168 → ∀ i, i < 32 → (bt (row t) i = true ↔ (i < k ∧ p i t))
theorem Bits.zero {row : Nat → Int32} {p : Nat → Nat → Prop} (h : ∀ t, t < 168 → row t = 0) : Bits row 0 p := fun t ht i hi => by rw [h t ht, b_0]; simp
theorem bits_key {k i : Nat} {p : Nat → Prop} : (i < k + 1 ∧ p i) ↔ ((i < k ∧ p i) ∨ (i = k ∧ p k)) := by
  constructor
  · rintro ⟨a, b⟩
    by_cases q : i = k
    · subst q; exact Or.inr ⟨rfl, b⟩
    · exact Or.inl ⟨by omega, b⟩
  · rintro (⟨a, b⟩ | ⟨rfl, b⟩)
    · exact ⟨by omega, b⟩
    · exact ⟨by omega, b⟩
theorem Bits.put {row : Nat → Int32} {k h : Nat} {p : Nat → Nat → Prop} (hB : Bits row k p) (hk : k < 32) (hp : ∀ t, t < 168 → (p k t ↔ t = h)) : Bits (upd row h (row h ||| ((1 : Int32) <<< (nI k &&& 31)))) (k + 1) p := by
  intro t ht i hi
  rw [bits_key (p := fun i => p i t), hp t ht]
  by_cases q : t = h
  · subst q
    rw [upd_eq, b_set hk _ hi, Bool.or_eq_true, hB t ht i hi, decide_eq_true_eq]
    simp
  · rw [upd_ne q, hB t ht i hi]
    simp [q]
theorem Bits.skip {row : Nat → Int32} {k : Nat} {p : Nat → Nat → Prop} (hB : Bits row k p) (hp : ∀ t, t < 168 → ¬ p k t) : Bits row (k + 1) p := by
  intro t ht i hi
  rw [bits_key (p := fun i => p i t), hB t ht i hi]
  have := hp t ht
  constructor
  · exact Or.inl
  · rintro (z | z)
    · exact z
    · exact absurd z.2 this
theorem bnd_nat {x : Int32} {hi : Int} (h : bnd x 0 hi) : ∃ k : Nat, x = nI k ∧ (k : Int) ≤ hi := i_of (inR_t.mpr h)
def wkI (I : mx_I) (fm i t : Nat) : Prop := (I 15 i = 0 ∧ I 9 i = nI t) ∨ (I 15 i = 1 ∧ (I 9 i).toInt ≤ t ∧ (t : Int) ≤ max ((I 9 i).toInt + (I 16 i).toInt) fm)
theorem imax {x y : Nat} (hx : x < 2 ^ 30) (hy : y < 2 ^ 30) : (if nI x < nI y then nI y else nI x) = nI (max x y) := by
  by_cases h : x < y
  · rw [if_pos ((nI_ltI (by omega) (by omega)).mpr h), Nat.max_eq_right (by omega)]
  · rw [if_neg (fun z => h ((nI_ltI (by omega) (by omega)).mp z)), Nat.max_eq_left (by omega)]
theorem imin {x y : Nat} (hx : x < 2 ^ 30) (hy : y < 2 ^ 30) : (if nI x < nI y then nI x else nI y) = nI (min x y) := by
  by_cases h : x < y
  · rw [if_pos ((nI_ltI (by omega) (by omega)).mpr h), Nat.min_eq_left (by omega)]
  · rw [if_neg (fun z => h ((nI_ltI (by omega) (by omega)).mp z)), Nat.min_eq_right (by omega)]
section C
variable {l : Launch} {c : Nat}
theorem pc_loop {d : Nat} {Q : Option Value → mx_H → Prop} {k f L : Nat} {p : Nat → Nat → Prop} {x2 x3 : Int32} (hk : k < 20) (hL : L ≤ 167) :
    ∀ (m h : Nat) (I : mx_I), h + m = L + 1 → f ≤ h → (∀ t, t < 168 → ∀ i, i < 32 → (bt (I 69 t) i = true ↔ ((i < k ∧ p i t) ∨ (i = k ∧ f ≤ t ∧ t < h)))) →
    (∀ I', (∀ a, a ≠ 69 → I' a = I a) → (∀ t, t < 168 → ∀ i, i < 32 → (bt (I' 69 t) i = true ↔ ((i < k ∧ p i t) ∨ (i = k ∧ f ≤ t ∧ t ≤ L)))) → Q none (sk0 c, I')) →
    mx_Go l (mx_rm (d + 1) 0 0) mX7_planCrosser (mx_Z Q 0 0) 0 0 65 [.ref 66, .ref 8, .int (nI k), .int x2, .int x3, .int (nI L), .int (nI h)] [] (sk0 c, I) := by
  intro m
  induction m with
  | zero =>
    intro h I hh hf hB hQ
    have e1 : nI L < nI h := (nI_ltI (by omega) (by omega)).mpr (by omega)
    refine sg_X7_planCrosser_65 _ _ _ _ _ (fun _ => hQ I (fun _ _ => rfl) (fun t ht i hi => ?_)) (fun z => absurd e1 z) (fun z => absurd e1 z) (fun z => absurd e1 z)
    rw [hB t ht i hi]
    have : t < h ↔ t ≤ L := by omega
    rw [this]
  | succ m ih =>
    intro h I hh hf hB hQ
    have e1 : ¬ nI L < nI h := fun z => by rw [nI_ltI (by omega) (by omega)] at z; omega
    have b1 : vp_in (nI h) 168 := i_vp (by omega) (by omega)
    refine sg_X7_planCrosser_65 _ _ _ _ _ (fun z => absurd z e1) (fun _ => b1) (fun _ => b1) (fun _ => ?_)
    rw [nI_clamp (n := h) (by omega), nI_1]
    refine ih (h + 1) _ (by omega) (by omega) (fun t ht i hi => ?_) (fun I' g1 g2 => hQ I' (fun a ha => by rw [g1 a ha, ms_ne ha]) g2)
    rw [ms_self]
    by_cases q : t = h
    · subst q
      rw [upd_eq, b_set (by omega) _ hi, Bool.or_eq_true, hB t ht i hi, decide_eq_true_eq]
      constructor
      · rintro ((z | z) | z)
        · exact Or.inl z
        · exact absurd z.2.2 (by omega)
        · exact Or.inr ⟨z, hf, by omega⟩
      · rintro (z | z)
        · exact Or.inl (Or.inl z)
        · exact Or.inr z.1
    · rw [upd_ne q, hB t ht i hi]
      have : t < h ↔ t < h + 1 := by omega
      rw [this]
set_option maxHeartbeats 1000000 in
theorem sp_planCrosser {d k fm : Nat} {I J : mx_I} (hk : k < 20) (hfm : fm ≤ 168) (b9 : bnd (I 9 k) 0 167) (b15 : bnd (I 15 k) 0 2) (b16 : bnd (I 16 k) 0 24) (hJ : ∀ a, a < 67 ∨ 71 < a → J a = I a) (hB : Bits (J 69) k (wkI I fm)) :
    mx_Spec l mX7_planCrosser (d + 1) 0 0 [.ref 66, .ref 8, .int (nI k), .int (nI fm)] (sk0 c, J) (fun r h' => r = none ∧ ∃ J', h' = (sk0 c, J') ∧ (∀ a, a ≠ 69 → J' a = J a) ∧ Bits (J' 69) (k + 1) (wkI I fm)) := by
  obtain ⟨f, e9, l9⟩ := bnd_nat b9
  obtain ⟨v, e16, l16⟩ := bnd_nat b16
  have t9 : (I 9 k).toInt = f := by rw [e9, nI_toInt (by omega)]
  have t16 : (I 16 k).toInt = v := by rw [e16, nI_toInt (by omega)]
  have S := fun Q => @sn_X7_planCrosser l d Q c J (nI k) (nI fm)
  rw [nI_clamp (n := k) (by omega), hJ 15 (by omega), hJ 9 (by omega), hJ 16 (by omega), e9, e16, nI_add, imax (by omega) (by omega), show (167 : Int32) = nI 167 from rfl, imin (by omega) (by omega), nI_clamp (n := f) (by omega)] at S
  have b1 : vp_in (nI k) 20 := i_vp (by omega) (by omega)
  have b2 : vp_in (nI f) 168 := i_vp (by omega) (by omega)
  have n01 : ∀ x : Int32, x = 0 → ¬ x = 1 := fun x h => by rw [h]; decide
  refine S _ b1 b1 (fun _ => b1) (fun g1 g2 => ⟨rfl, J, rfl, fun _ _ => rfl, hB.skip (fun t ht z => ?_)⟩) (fun _ _ => b1) (fun g1 g2 => ?_) (fun _ => b2) (fun _ => b2) (fun _ => b1) (fun g1 g2 => ⟨rfl, _, rfl, fun a ha => ms_ne ha, ?_⟩) (fun g1 g2 => absurd g2 (n01 _ g1)) (fun g1 g2 => absurd g2 (n01 _ g1))
  · rcases z with z | z
    · exact g1 z.1
    · exact g2 z.1
  · have hw : ∀ t, t < 168 → (wkI I fm k t ↔ (f ≤ t ∧ t ≤ min (max (f + v) fm) 167)) := fun t ht => by
      unfold wkI
      rw [t9, t16]
      constructor
      · rintro (z | ⟨_, z1, z2⟩)
        · exact absurd z.1 g1
        · omega
      · rintro ⟨z1, z2⟩
        exact Or.inr ⟨g2, by omega, by omega⟩
    refine pc_loop (f := f) (p := wkI I fm) hk (by omega) (min (max (f + v) fm) 167 + 1 - f) f J (by omega) (Nat.le_refl _) (fun t ht i hi => ?_) (fun J' h1 h2 => ⟨rfl, J', rfl, h1, fun t ht i hi => ?_⟩)
    · rw [hB t ht i hi]
      exact ⟨Or.inl, fun z => z.elim id (fun w => absurd w.2 (by omega))⟩
    · rw [h2 t ht i hi, bits_key (p := fun i => wkI I fm i t), hw t ht]
  · rw [ms_self]
    refine hB.put (by omega) (fun t ht => ?_)
    unfold wkI
    rw [e9]
    constructor
    · rintro (z | z)
      · exact ((nI_eq (by omega) (by omega)).mp z.2).symm
      · exact absurd z.1 g2
    · intro z
      rw [z]
      exact Or.inl ⟨g1, rfl⟩
def PlanOk (I : mx_I) (nl nc no ni fm : Nat) (J : mx_I) : Prop := Bits (J 67) nl (fun i t => I 5 i = nI t) ∧ Bits (J 68) nl (fun i t => I 6 i ≠ -1 ∧ I 7 i = nI t) ∧ Bits (J 69) nc (wkI I fm) ∧ Bits (J 70) no (fun i t => I 19 i = nI t) ∧ Bits (J 71) ni (fun i t => I 25 i = nI t)
theorem fr_ne {I : mx_I} {k n a : Nat} {v : Int32} (h : a ≠ k) : mx_fillr I k n v a = I a := mx_row_ne h
theorem fr_eq {I : mx_I} {k n j : Nat} {v : Int32} (h : j < n) : mx_fillr I k n v k j = v := by unfold mx_fillr; rw [mx_row_self, if_pos h]
set_option maxHeartbeats 2000000 in
theorem sp_make {d : Nat} {I : mx_I} {nl nc no ni fm : Nat} (hfm : fm ≤ 168) (hn : I 2 5 = nI nl ∧ I 8 9 = nI nc ∧ I 18 5 = nI no ∧ I 24 3 = nI ni) (hl : nl ≤ 30 ∧ nc ≤ 20 ∧ no ≤ 8 ∧ ni ≤ 20)
    (hL : ∀ i, i < nl → bnd (I 5 i) 0 167 ∧ bnd (I 7 i) 0 167) (hC : ∀ i, i < nc → bnd (I 9 i) 0 167 ∧ bnd (I 15 i) 0 2 ∧ bnd (I 16 i) 0 24) (hO : ∀ i, i < no → bnd (I 19 i) 0 167) (hI : ∀ i, i < ni → bnd (I 25 i) 0 167) :
    mx_Spec l mX7_make (d + 2) 0 0 [.ref 66, .ref 1, .int (nI fm)] (sk0 c, I) (fun r h' => r = none ∧ ∃ I', h' = (sk0 c, I') ∧ (∀ a, a < 67 ∨ 71 < a → I' a = I a) ∧ PlanOk I nl nc no ni fm I') := by
  -- lists
  have l4 : ∀ (m k : Nat) (J : mx_I), k + m = ni → (∀ a, a < 67 ∨ 71 < a → J a = I a) → (Bits (J 67) nl (fun i t => I 5 i = nI t) ∧ Bits (J 68) nl (fun i t => I 6 i ≠ -1 ∧ I 7 i = nI t) ∧ Bits (J 69) nc (wkI I fm) ∧ Bits (J 70) no (fun i t => I 19 i = nI t) ∧ Bits (J 71) k (fun i t => I 25 i = nI t)) →
      mx_Go l (mx_rm (d + 2) 0 0) mX7_make (mx_Z (fun r h' => r = none ∧ ∃ I', h' = (sk0 c, I') ∧ (∀ a, a < 67 ∨ 71 < a → I' a = I a) ∧ PlanOk I nl nc no ni fm I') 0 0) 0 0 182 [.ref 66, .ref 1, .int (nI fm), .int (nI k)] [] (sk0 c, J) := by
    intro m
    induction m with
    | zero =>
      intro k J hk hJ hB
      have e : k = ni := by omega
      subst e
      have e1 : J 24 3 ≤ nI k := by rw [hJ 24 (by omega), hn.2.2.2, nI_leI (by omega) (by omega)]; omega
      exact sg_X7_make_182 _ _ (fun _ => ⟨rfl, J, rfl, hJ, hB⟩) (fun z => absurd e1 z) (fun z => absurd e1 z) (fun z => absurd e1 z) (fun z => absurd e1 z)
    | succ m ih =>
      intro k J hk hJ hB
      have e1 : ¬ J 24 3 ≤ nI k := fun z => by rw [hJ 24 (by omega), hn.2.2.2, nI_leI (by omega) (by omega)] at z; omega
      obtain ⟨h, eh, lh⟩ := bnd_nat (hI k (by omega))
      have b1 : vp_in (nI k) 20 := i_vp (by omega) (by omega)
      have b2 : vp_in (nI h) 168 := i_vp (by omega) (by omega)
      have S := fun Q => @sg_X7_make_182 l (d + 1) Q c J (nI fm) (nI k)
      rw [nI_clamp (n := k) (by omega), hJ 25 (by omega), eh, nI_clamp (n := h) (by omega), nI_1] at S
      refine S _ (fun z => absurd z e1) (fun _ => b1) (fun _ => b2) (fun _ => b2) (fun _ => ih (k + 1) _ (by omega) (fun a ha => by rw [ms_ne (by omega)]; exact hJ a ha) ?_)
      rw [ms_ne (show (67 : Nat) ≠ 71 by omega), ms_ne (show (68 : Nat) ≠ 71 by omega), ms_ne (show (69 : Nat) ≠ 71 by omega), ms_ne (show (70 : Nat) ≠ 71 by omega), ms_self]
      exact ⟨hB.1, hB.2.1, hB.2.2.1, hB.2.2.2.1, hB.2.2.2.2.put (by omega) (fun t ht => by rw [eh, nI_eq (by omega) (by omega)]; exact eq_comm)⟩
  -- offers
  have l3 : ∀ (m k : Nat) (J : mx_I), k + m = no → (∀ a, a < 67 ∨ 71 < a → J a = I a) → (Bits (J 67) nl (fun i t => I 5 i = nI t) ∧ Bits (J 68) nl (fun i t => I 6 i ≠ -1 ∧ I 7 i = nI t) ∧ Bits (J 69) nc (wkI I fm) ∧ Bits (J 70) k (fun i t => I 19 i = nI t) ∧ Bits (J 71) 0 (fun i t => I 25 i = nI t)) →
      mx_Go l (mx_rm (d + 2) 0 0) mX7_make (mx_Z (fun r h' => r = none ∧ ∃ I', h' = (sk0 c, I') ∧ (∀ a, a < 67 ∨ 71 < a → I' a = I a) ∧ PlanOk I nl nc no ni fm I') 0 0) 0 0 143 [.ref 66, .ref 1, .int (nI fm), .int (nI k)] [] (sk0 c, J) := by
    intro m
    induction m with
    | zero =>
      intro k J hk hJ hB
      have e : k = no := by omega
      subst e
      have e1 : J 18 5 ≤ nI k := by rw [hJ 18 (by omega), hn.2.2.1, nI_leI (by omega) (by omega)]; omega
      exact sg_X7_make_143 _ _ (fun _ => l4 ni 0 J (by omega) hJ hB) (fun z => absurd e1 z) (fun z => absurd e1 z) (fun z => absurd e1 z) (fun z => absurd e1 z)
    | succ m ih =>
      intro k J hk hJ hB
      have e1 : ¬ J 18 5 ≤ nI k := fun z => by rw [hJ 18 (by omega), hn.2.2.1, nI_leI (by omega) (by omega)] at z; omega
      obtain ⟨h, eh, lh⟩ := bnd_nat (hO k (by omega))
      have b1 : vp_in (nI k) 8 := i_vp (by omega) (by omega)
      have b2 : vp_in (nI h) 168 := i_vp (by omega) (by omega)
      have S := fun Q => @sg_X7_make_143 l (d + 1) Q c J (nI fm) (nI k)
      rw [nI_clamp (n := k) (by omega), hJ 19 (by omega), eh, nI_clamp (n := h) (by omega), nI_1] at S
      refine S _ (fun z => absurd z e1) (fun _ => b1) (fun _ => b2) (fun _ => b2) (fun _ => ih (k + 1) _ (by omega) (fun a ha => by rw [ms_ne (by omega)]; exact hJ a ha) ?_)
      rw [ms_ne (show (67 : Nat) ≠ 70 by omega), ms_ne (show (68 : Nat) ≠ 70 by omega), ms_ne (show (69 : Nat) ≠ 70 by omega), ms_ne (show (71 : Nat) ≠ 70 by omega), ms_self]
      exact ⟨hB.1, hB.2.1, hB.2.2.1, hB.2.2.2.1.put (by omega) (fun t ht => by rw [eh, nI_eq (by omega) (by omega)]; exact eq_comm), hB.2.2.2.2⟩
  -- crossers
  have l2 : ∀ (m k : Nat) (J : mx_I), k + m = nc → (∀ a, a < 67 ∨ 71 < a → J a = I a) → (Bits (J 67) nl (fun i t => I 5 i = nI t) ∧ Bits (J 68) nl (fun i t => I 6 i ≠ -1 ∧ I 7 i = nI t) ∧ Bits (J 69) k (wkI I fm) ∧ Bits (J 70) 0 (fun i t => I 19 i = nI t) ∧ Bits (J 71) 0 (fun i t => I 25 i = nI t)) →
      mx_Go l (mx_rm (d + 2) 0 0) mX7_make (mx_Z (fun r h' => r = none ∧ ∃ I', h' = (sk0 c, I') ∧ (∀ a, a < 67 ∨ 71 < a → I' a = I a) ∧ PlanOk I nl nc no ni fm I') 0 0) 0 0 114 [.ref 66, .ref 1, .int (nI fm), .int (nI k)] [] (sk0 c, J) := by
    intro m
    induction m with
    | zero =>
      intro k J hk hJ hB
      have e : k = nc := by omega
      subst e
      have e1 : J 8 9 ≤ nI k := by rw [hJ 8 (by omega), hn.2.1, nI_leI (by omega) (by omega)]; omega
      exact sg_X7_make_114 _ _ (fun _ => l3 no 0 J (by omega) hJ hB) (fun z => absurd e1 z)
    | succ m ih =>
      intro k J hk hJ hB
      have e1 : ¬ J 8 9 ≤ nI k := fun z => by rw [hJ 8 (by omega), hn.2.1, nI_leI (by omega) (by omega)] at z; omega
      obtain ⟨b9, b15, b16⟩ := hC k (by omega)
      refine sg_X7_make_114 _ _ (fun z => absurd z e1) (fun _ => ⟨_, sp_planCrosser (d := d) (I := I) (by omega) hfm b9 b15 b16 hJ hB.2.2.1, ?_⟩)
      rintro _ _ ⟨rfl, J', rfl, h1, h2⟩
      refine sg_X7_make_135 _ _ ?_
      rw [nI_1]
      refine ih (k + 1) J' (by omega) (fun a ha => by rw [h1 a (by omega)]; exact hJ a ha) ?_
      rw [h1 67 (by omega), h1 68 (by omega), h1 70 (by omega), h1 71 (by omega)]
      exact ⟨hB.1, hB.2.1, h2, hB.2.2.2.1, hB.2.2.2.2⟩
  -- loads
  have l1 : ∀ (m k : Nat) (J : mx_I), k + m = nl → (∀ a, a < 67 ∨ 71 < a → J a = I a) → (Bits (J 67) k (fun i t => I 5 i = nI t) ∧ Bits (J 68) k (fun i t => I 6 i ≠ -1 ∧ I 7 i = nI t) ∧ Bits (J 69) 0 (wkI I fm) ∧ Bits (J 70) 0 (fun i t => I 19 i = nI t) ∧ Bits (J 71) 0 (fun i t => I 25 i = nI t)) →
      mx_Go l (mx_rm (d + 2) 0 0) mX7_make (mx_Z (fun r h' => r = none ∧ ∃ I', h' = (sk0 c, I') ∧ (∀ a, a < 67 ∨ 71 < a → I' a = I a) ∧ PlanOk I nl nc no ni fm I') 0 0) 0 0 42 [.ref 66, .ref 1, .int (nI fm), .int (nI k)] [] (sk0 c, J) := by
    intro m
    induction m with
    | zero =>
      intro k J hk hJ hB
      have e : k = nl := by omega
      subst e
      have e1 : J 2 5 ≤ nI k := by rw [hJ 2 (by omega), hn.1, nI_leI (by omega) (by omega)]; omega
      exact sg_X7_make_42 _ _ (fun _ => l2 nc 0 J (by omega) hJ hB) (fun z => absurd e1 z) (fun z => absurd e1 z) (fun z => absurd e1 z) (fun z => absurd e1 z) (fun z => absurd e1 z) (fun z => absurd e1 z) (fun z => absurd e1 z) (fun z => absurd e1 z) (fun z => absurd e1 z)
    | succ m ih =>
      intro k J hk hJ hB
      have e1 : ¬ J 2 5 ≤ nI k := fun z => by rw [hJ 2 (by omega), hn.1, nI_leI (by omega) (by omega)] at z; omega
      obtain ⟨h, eh, lh⟩ := bnd_nat (hL k (by omega)).1
      obtain ⟨g, eg, lg⟩ := bnd_nat (hL k (by omega)).2
      have b1 : vp_in (nI k) 30 := i_vp (by omega) (by omega)
      have b2 : vp_in (nI h) 168 := i_vp (by omega) (by omega)
      have b3 : vp_in (nI g) 168 := i_vp (by omega) (by omega)
      have S := fun Q => @sg_X7_make_42 l (d + 1) Q c J (nI fm) (nI k)
      rw [nI_clamp (n := k) (by omega), hJ 5 (by omega), hJ 6 (by omega), hJ 7 (by omega), eh, eg, nI_clamp (n := h) (by omega), nI_clamp (n := g) (by omega), nI_1] at S
      have p5 := hB.1.put (h := h) (by omega : k < 32) (fun t ht => by rw [eh, nI_eq (by omega) (by omega)]; exact eq_comm)
      refine S _ (fun z => absurd z e1) (fun _ => b1) (fun _ => b2) (fun _ => b2) (fun _ => b1) (fun _ g6 => ih (k + 1) _ (by omega) (fun a ha => by rw [ms_ne (by omega)]; exact hJ a ha) ?_) (fun _ _ => b1) (fun _ _ => b3) (fun _ _ => b3) (fun _ g6 => ih (k + 1) _ (by omega) (fun a ha => by rw [ms_ne (by omega), ms_ne (by omega)]; exact hJ a ha) ?_)
      · rw [ms_ne (show (68 : Nat) ≠ 67 by omega), ms_ne (show (69 : Nat) ≠ 67 by omega), ms_ne (show (70 : Nat) ≠ 67 by omega), ms_ne (show (71 : Nat) ≠ 67 by omega), ms_self]
        exact ⟨p5, hB.2.1.skip (fun t ht z => z.1 g6), hB.2.2.1, hB.2.2.2.1, hB.2.2.2.2⟩
      · rw [ms_ne (show (67 : Nat) ≠ 68 by omega), ms_ne (show (69 : Nat) ≠ 68 by omega), ms_ne (show (70 : Nat) ≠ 68 by omega), ms_ne (show (71 : Nat) ≠ 68 by omega), ms_ne (show (69 : Nat) ≠ 67 by omega), ms_ne (show (70 : Nat) ≠ 67 by omega), ms_ne (show (71 : Nat) ≠ 67 by omega), ms_self, ms_self, ms_ne (show (68 : Nat) ≠ 67 by omega)]
        refine ⟨p5, hB.2.1.put (by omega) (fun t ht => ?_), hB.2.2.1, hB.2.2.2.1, hB.2.2.2.2⟩
        rw [eg, nI_eq (by omega) (by omega)]
        exact ⟨fun z => z.2.symm, fun z => ⟨g6, z.symm⟩⟩
  refine sn_X7_make _ ⟨_, sp_fill (sk_67 c) (by decide), ?_⟩
  rintro _ _ ⟨rfl, rfl⟩
  refine sg_X7_make_8 _ ⟨_, sp_fill (sk_68 c) (by decide), ?_⟩
  rintro _ _ ⟨rfl, rfl⟩
  refine sg_X7_make_16 _ ⟨_, sp_fill (sk_69 c) (by decide), ?_⟩
  rintro _ _ ⟨rfl, rfl⟩
  refine sg_X7_make_24 _ ⟨_, sp_fill (sk_70 c) (by decide), ?_⟩
  rintro _ _ ⟨rfl, rfl⟩
  refine sg_X7_make_32 _ ⟨_, sp_fill (sk_71 c) (by decide), ?_⟩
  rintro _ _ ⟨rfl, rfl⟩
  refine sg_X7_make_40 _ ?_
  refine l1 nl 0 _ (by omega) (fun a ha => by rw [fr_ne (by omega), fr_ne (by omega), fr_ne (by omega), fr_ne (by omega), fr_ne (by omega)]) ⟨Bits.zero (fun t ht => ?_), Bits.zero (fun t ht => ?_), Bits.zero (fun t ht => ?_), Bits.zero (fun t ht => ?_), Bits.zero (fun t ht => ?_)⟩
  · rw [fr_ne (by omega), fr_ne (by omega), fr_ne (by omega), fr_ne (by omega), fr_eq ht]
  · rw [fr_ne (by omega), fr_ne (by omega), fr_ne (by omega), fr_eq ht]
  · rw [fr_ne (by omega), fr_ne (by omega), fr_eq ht]
  · rw [fr_ne (by omega), fr_eq ht]
  · rw [fr_eq ht]
end C
