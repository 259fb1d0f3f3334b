/-! the class: one hour -/
theorem AInv.out {P : Pm} {A : HS} {x : Nat} (h : AInv P A []) (hx : x < P.nl) (h1 : A.r 1 x = -1) : AInv P A [x] := by
  obtain ⟨a1, a2, a3, a4, a5, a6⟩ := h
  refine ⟨fun e he => ⟨(a1 e he).1, fun y => ?_⟩, a2, a3, a4, by simp, fun y hy => ?_⟩
  · rw [(a1 e he).2 y]
    simp
    intro _ h2 _ z
    subst z
    rw [h1] at h2
    exact nI_n1 (by omega) h2.symm
  · simp at hy
    subst hy
    exact ⟨hx, (a3 y hx).2 h1⟩
theorem AInv.gone {P : Pm} {A : HS} {x : Nat} (h : AInv P A [x]) (hne : A.r 1 x ≠ -1) : AInv P (A.set 4 x 1) [] := by
  obtain ⟨a1, a2, a3, a4, a5, a6⟩ := h
  have r1 : (A.set 4 x 1).r 1 = A.r 1 := by show mx_set A.1 4 x 1 1 = A.1 1; rw [ms_ne (by omega)]
  have r5 : (A.set 4 x 1).r 5 = A.r 5 := by show mx_set A.1 4 x 1 5 = A.1 5; rw [ms_ne (by omega)]
  have r4 : (A.set 4 x 1).r 4 = upd (A.r 4) x 1 := by show mx_set A.1 4 x 1 4 = _; rw [ms_self]
  refine ⟨fun e he => ⟨(a1 e he).1, fun y => ?_⟩, fun y hy => ?_, fun y hy => ?_, fun e he => ?_, by simp, fun y hy => by simp at hy⟩
  · show y ∈ A.hp e ↔ _
    rw [(a1 e he).2 y, r1, r4]
    by_cases q : y = x
    · subst q
      rw [upd_eq]
      simp
    · rw [upd_ne q]
      simp [q]
  · rw [r1]; exact a2 y hy
  · rw [r4, r1]
    by_cases q : y = x
    · subst q
      rw [upd_eq]
      exact ⟨Or.inr rfl, fun z => absurd z hne⟩
    · rw [upd_ne q]
      exact a3 y hy
  · rw [r5]; exact a4 e he
theorem run_id {f : Nat → HS → HS} {n : Nat} {A : HS} (h : ∀ i, i < n → f i A = A) : ∀ (m i : Nat), i + m = n → hs_run f m i A = A
  | 0, _, _ => rfl
  | m + 1, i, hi => by
    rw [hs_run, h i (by omega)]
    exact run_id h m (i + 1) (by omega)
def hs_wk (P : Pm) (fm i t : Nat) : Prop := (P.R 15 i = 0 ∧ P.R 9 i = nI t) ∨ (P.R 15 i = 1 ∧ (P.R 9 i).toInt ≤ t ∧ (t : Int) ≤ max ((P.R 9 i).toInt + (P.R 16 i).toInt) fm)
/-- the plan -/
def CPlan (P : Pm) (fm : Nat) (I : mx_I) : Prop := ∀ t, t < 168 → (∀ i, i < P.nl → (bt (I 67 t) i = true ↔ P.R 5 i = nI t)) ∧ (∀ i, i < P.nl → (bt (I 68 t) i = true ↔ (P.R 6 i ≠ -1 ∧ P.R 7 i = nI t))) ∧ (∀ i, i < P.nc → (bt (I 69 t) i = true ↔ hs_wk P fm i t)) ∧ (∀ i, i < P.no → (bt (I 70 t) i = true ↔ P.R 19 i = nI t))
def WInv (P : Pm) (fm t : Nat) (A : HS) : Prop := ∀ i, i < P.nc → P.R 15 i = 1 → A.r 7 i = -1 → bt (P.R 65 10) i = false → (t : Int) ≤ max ((P.R 9 i).toInt + (P.R 16 i).toInt) fm
section C
variable {l : Launch} {c : Nat} {P : Pm} {I0 : mx_I}
theorem CR.old {A : HS} {I : mx_I} (h : CR c P A I0 I) {k : Nat} (hk : 66 ≤ k ∧ k ≤ 71) : I k = I0 k := h.2.2 k (by have := h.1; omega) (by omega) (by omega) (by omega) (by omega) (by omega)
theorem b_get1 {x : Int32} {n : Nat} (hn : n < 32) : ((x >>> (nI n &&& 31)) &&& 1) = 1 ↔ bt x n = true := by rw [b_get hn]; exact b2i_1
theorem good_bring1 {A : HS} {t i : Nat} (hP : POk P) (hA : AInv P A []) (hi : i < P.nl) (hst : A.st < 2 ^ 30) : AInv P (hs_bring1 P t i A) [] ∧ (hs_bring1 P t i A).st ≤ A.st + 1 ∧ (∀ k j, (k = 1 ∨ k = 2 ∨ k = 5 → j ≠ i) → (k ≠ 65 ∨ j ≠ 13) → (hs_bring1 P t i A).r k j = A.r k j) ∧ (hs_bring1 P t i A).now = A.now ∧ (P.R 5 i = nI t → (hs_bring1 P t i A).r 1 i ≠ -1) ∧ (¬ P.R 5 i = nI t → hs_bring1 P t i A = A) ∧ (P.R 65 11 = -1 → (hs_bring1 P t i A).r 65 13 = A.r 65 13) := by
  have hP1 := hP.1
  obtain ⟨e, he, h4⟩ := hP.2.2.2.2.1 i hi
  unfold hs_bring1
  split
  · rename_i q
    rw [h4, nI_clamp (by omega)]
    refine ⟨(hA.out hi q.2).comes he (by omega) hst, Nat.le_refl _, fun k j hk hk2 => ?_, rfl, fun _ => ?_, fun z => absurd q.1 z, fun z => ?_⟩
    · rw [hs_comes_r hk2, ms_at (by omega), ms_at (by omega), ms_at (by omega)]
    · rw [hs_comes_r (by omega), ms_ne (by omega), ms_ne (by omega), ms_self, upd_eq]
      exact nI_n1 (by omega)
    · rw [hs_comes_eq, if_neg (fun w => nI_n1 (e := i) (by omega) (w.1.trans z))]
      rfl
  · rename_i q
    exact ⟨hA, by omega, fun _ _ _ _ => rfl, rfl, fun z w => q ⟨z, w⟩, fun _ => rfl, fun _ => rfl⟩
set_option maxHeartbeats 1000000 in
theorem br_loop {d : Nat} {Q : Option Value → mx_H → Prop} {t : Nat} {x1 : Int32} (hP : POk P) (hm : ∀ i, i < P.nl → (bt x1 i = true ↔ P.R 5 i = nI t)) : ∀ (m i : Nat) (A : HS) (I : mx_I), i + m = P.nl → CR c P A I0 I → AInv P A [] → A.st + m < 2 ^ 30 → (∀ x, i ≤ x → x < P.nl → P.R 5 x = nI t → A.r 1 x = -1) →
    (∀ I', CR c P (hs_run (hs_bring1 P t) m i A) I0 I' → Q none (sk0 c, I')) →
    mx_Go l (mx_rm (d + 3) 0 0) mX1_bring (mx_Z Q 0 0) 0 0 2 [.ref 65, .int x1, .int (nI t), .int (nI i)] [] (sk0 c, I) := by
  have hP1 := hP.1
  intro m
  induction m with
  | zero =>
    intro i A I hi h hA hst hx hQ
    have e1 : I 2 5 ≤ nI i := by rw [h.told (k := 2) (by omega) (by omega) (by omega), hP.2.2.1.2.1, nI_leI (by omega) (by omega)]; omega
    exact sg_X1_bring_2 (at9_c h.cc) _ _ _ (fun _ => hQ I h) (fun z => absurd e1 z) (fun z => absurd e1 z) (fun z => absurd e1 z)
  | succ m ih =>
    intro i A I hi h hA hst hx hQ
    have e1 : ¬ I 2 5 ≤ nI i := fun z => by rw [h.told (k := 2) (by omega) (by omega) (by omega), hP.2.2.1.2.1, nI_leI (by omega) (by omega)] at z; omega
    obtain ⟨g1, g2, g3, g4, g5, g6, g7⟩ := good_bring1 (t := t) hP hA (by omega : i < P.nl) (by omega)
    have nx : ∀ J, CR c P (hs_bring1 P t i A) I0 J → mx_Go l (mx_rm (d + 3) 0 0) mX1_bring (mx_Z Q 0 0) 0 0 2 [.ref 65, .int x1, .int (nI t), .int (nI i + 1)] [] (sk0 c, J) := fun J hJ => by
      rw [nI_1]
      refine ih (i + 1) _ J (by omega) hJ g1 (by omega) (fun x hx1 hx2 hx3 => ?_) (fun I' h' => hQ I' h')
      rw [g3 1 x (by omega) (by omega)]
      exact hx x (by omega) hx2 hx3
    refine sg_X1_bring_2 (at9_c h.cc) _ _ _ (fun z => absurd z e1) (fun _ g => ?_) (fun _ _ => i_vp (by omega) (by omega)) (fun _ g => ?_)
    · have hn : ¬ P.R 5 i = nI t := fun z => g ((b_get1 (by omega)).mpr ((hm i (by omega)).mpr z))
      refine nx I ?_
      rw [g6 hn]; exact h
    · have hy : P.R 5 i = nI t := (hm i (by omega)).mp ((b_get1 (by omega)).mp g)
      obtain ⟨e, he, h4⟩ := hP.2.2.2.2.1 i (by omega)
      have hat := hx i (by omega) (by omega) hy
      have hroom := (hA.out (by omega) hat).room (e := e) (by omega)
      rw [nI_clamp (n := i) (by omega), h.told (k := 4) (by omega) (by omega) (by omega), h4]
      refine ⟨_, sp_arrive (t := t) h (by omega) (by omega) (by omega), ?_⟩
      rintro _ _ ⟨rfl, I', rfl, h', -, -⟩
      refine sg_X1_bring_43 (at9_c h.cc) _ _ _ (nx I' ?_)
      unfold hs_bring1
      rw [if_pos ⟨hy, hat⟩, h4, nI_clamp (by omega)]
      exact h'
theorem good_fetch1 {A : HS} {t i : Nat} (hP : POk P) (hA : AInv P A []) (hi : i < P.nl) : Good P t 0 A (hs_fetch1 P t i A) := by
  have hP1 := hP.1
  unfold hs_fetch1
  split
  · rename_i q
    obtain ⟨e, he, h6⟩ := (hP.2.2.2.2.2.1 i hi).resolve_left q.1.1
    rw [h6, nI_clamp (by omega)]
    have hmem : i ∈ A.hp e := ((hA.1 e (by omega)).2 i).mpr ⟨hi, by rw [q.2.1, h6], q.2.2, by simp⟩
    have hd := hA.drop (ls := [i]) (by omega : e < 4) (List.singleton_sublist.mpr hmem)
    have hne : A.r 1 i ≠ -1 := by rw [q.2.1, h6]; exact nI_n1 (by omega)
    have q4 : ∀ k j, k ≠ 4 ∨ j ≠ i → ((hs_drop e [i] A).set 4 i 1).r k j = A.r k j := fun k j z => HS.at_or z
    refine ⟨hd.gone hne, fun j => Or.inl (q4 7 j (by omega)), fun j _ => ⟨q4 8 j (by omega), q4 9 j (by omega)⟩, ?_, rfl, fun y => ⟨fun hy => ?_, fun hy => ?_⟩, fun _ => q4 65 13 (by omega)⟩
    · rw [un_congr (fun j => q4 7 j (by omega))]
      show A.st + _ ≤ _
      omega
    · have : y ≠ i := fun z => hne (z ▸ hy)
      exact ⟨q4 1 y (by omega), q4 2 y (by omega), q4 3 y (by omega), q4 4 y (by omega)⟩
    · rw [q4 1 y (by omega)]; exact hy
  · exact Good.refl hA
set_option maxHeartbeats 1000000 in
theorem fe_loop {d : Nat} {Q : Option Value → mx_H → Prop} {t : Nat} {x1 : Int32} (hP : POk P) (hm : ∀ i, i < P.nl → (bt x1 i = true ↔ (P.R 6 i ≠ -1 ∧ P.R 7 i = nI t))) : ∀ (m i : Nat) (A : HS) (I : mx_I), i + m = P.nl → CR c P A I0 I → AInv P A [] →
    (∀ I', CR c P (hs_run (hs_fetch1 P t) m i A) I0 I' → Q none (sk0 c, I')) →
    mx_Go l (mx_rm (d + 3) 0 0) mX1_fetchOff (mx_Z Q 0 0) 0 0 2 [.ref 65, .int x1, .int (nI i), .retAddr 0] [] (sk0 c, I) := by
  have hP1 := hP.1
  intro m
  induction m with
  | zero =>
    intro i A I hi h hA hQ
    have e1 : I 2 5 ≤ nI i := by rw [h.told (k := 2) (by omega) (by omega) (by omega), hP.2.2.1.2.1, nI_leI (by omega) (by omega)]; omega
    exact sg_X1_fetchOff_2 (at9_c h.cc) _ _ (fun _ => hQ I h) (fun z => absurd e1 z) (fun z => absurd e1 z) (fun z => absurd e1 z)
  | succ m ih =>
    intro i A I hi h hA hQ
    have hcc := h.cc
    have e1 : ¬ I 2 5 ≤ nI i := fun z => by rw [h.told (k := 2) (by omega) (by omega) (by omega), hP.2.2.1.2.1, nI_leI (by omega) (by omega)] at z; omega
    have gd := good_fetch1 (t := t) hP hA (by omega : i < P.nl)
    have nx : ∀ J (z : Value), CR c P (hs_fetch1 P t i A) I0 J → mx_Go l (mx_rm (d + 3) 0 0) mX1_fetchOff (mx_Z Q 0 0) 0 0 2 [.ref 65, .int x1, .int (nI i + 1), z] [] (sk0 c, J) := fun J z hJ => by
      rw [nI_1]
      refine mx_fg (L' := [.ref 65, .int x1, .int (nI (i + 1)), .retAddr 0]) (by simp [mx_le]) ?_
      exact ih (i + 1) _ J (by omega) hJ gd.1 (fun I' h' => hQ I' h')
    have skip : ¬ ((P.R 6 i ≠ -1 ∧ P.R 7 i = nI t) ∧ A.r 1 i = P.R 6 i ∧ A.r 4 i = 0) → CR c P (hs_fetch1 P t i A) I0 I := fun z => by
      unfold hs_fetch1
      rw [if_neg z]; exact h
    refine sg_X1_fetchOff_2 (at9_c hcc) _ _ (fun z => absurd z e1) (fun _ => i_vp (by omega) (by omega)) (fun _ g => ?_) (fun _ g => ?_)
    · exact nx I _ (skip (fun z => g ((b_get1 (by omega)).mpr ((hm i (by omega)).mpr z.1))))
    · have hy := (hm i (by omega)).mp ((b_get1 (by omega)).mp g)
      obtain ⟨e, he, h6⟩ := (hP.2.2.2.2.2.1 i (by omega)).resolve_left hy.1
      have k6 : I 6 (nI i).toNatClampNeg = nI e := by rw [nI_clamp (n := i) (by omega), h.told (k := 6) (by omega) (by omega) (by omega), h6]
      rw [k6]
      have he2 : inR (nI e) 0 P.nb = true := inR_t.mpr (by rw [nI_toInt (by omega)]; omega)
      refine ⟨_, sp_hasEnd (n := P.nb) (nI e) (by rw [h.told (k := 1) (by omega) (by omega) (by omega)]; exact hP.2.2.1.1) (by omega), ?_⟩
      rintro _ _ ⟨rfl, rfl⟩
      rw [he2]
      refine sg_X1_fetchOff_46 (at9_c hcc) _ _ _ _ (fun z => absurd z (by decide)) (fun _ => ?_)
      have S := fun Q => @sn_X9_isAt l (d + 1) Q c I c (nI i) (nI e) (at9_c hcc)
      rw [nI_clamp (n := i) (by omega), h.ld (j := 1) (by omega) (by omega) (by omega), h.ld (j := 4) (by omega) (by omega) (by omega)] at S
      refine ⟨fun r h' => r = some (.int (b2i (decide (A.r 1 i = nI e ∧ A.r 4 i = 0)))) ∧ h' = (sk0 c, I), S _ (i_vp (by omega) (by omega)) (fun z => ⟨by rw [decide_eq_false (fun w => z w.1)]; rfl, rfl⟩) (fun _ => i_vp (by omega) (by omega)) (fun _ z => ⟨by rw [decide_eq_false (fun w => z w.2)]; rfl, rfl⟩) (fun z w => ⟨by rw [decide_eq_true ⟨z, w⟩]; rfl, rfl⟩), ?_⟩
      rintro _ _ ⟨rfl, rfl⟩
      refine sg_X1_fetchOff_58 (at9_c hcc) _ _ _ _ (fun z => ?_) (fun z => ?_)
      · have hno : ¬ (A.r 1 i = nI e ∧ A.r 4 i = 0) := of_decide_eq_false (b2i_0.mp z)
        exact nx I _ (skip (fun w => hno ⟨by rw [w.2.1, h6], w.2.2⟩))
      · have hyes : A.r 1 i = nI e ∧ A.r 4 i = 0 := by
          refine Classical.byContradiction (fun w => z ?_)
          rw [decide_eq_false w]; rfl
        have hmem : i ∈ A.hp e := ((hA.1 e (by omega)).2 i).mpr ⟨by omega, hyes.1, hyes.2, by simp⟩
        have h2 : CR c P A I0 (mx_set I 72 0 (nI i)) := h.scr (fun k k1 _ _ _ => ms_ne k1) (fun f _ => by rw [ms_ne (by omega)])
        refine ⟨_, sp_drop (d := d + 1) (ls := [i]) h2 hA (by omega) (by omega) (List.singleton_sublist.mpr hmem) (fun j hj => ?_), ?_⟩
        · have : j = 0 := by simpa using hj
          subst this
          rw [ms_self, upd_eq]; rfl
        · rintro _ _ ⟨rfl, I', rfl, h', -, -⟩
          refine sg_X1_fetchOff_81 (at9_c hcc) _ _ _ (i_vp (by omega) (by omega)) (nx _ _ ?_)
          rw [nI_clamp (n := i) (by omega)]
          unfold hs_fetch1
          rw [if_pos ⟨hy, by rw [hyes.1, h6], hyes.2⟩, h6, nI_clamp (by omega)]
          exact h'.setL (j := 4) (by omega)
end C
