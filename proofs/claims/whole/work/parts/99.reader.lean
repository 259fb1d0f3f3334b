/-! the class's reader, the other steps -/
section S
variable {zp : Prop} {aw : Nat} {H : List Nat} {o b : Nat} {rt : Bool} {C : List Int32} {ls : List (Int32 × Nat)} {cur : Int32} {f : Nat × Nat} {I : mx_I} {l : Launch} {c : Nat}
theorem sp_reckC {d : Nat} {L : LX} (h : RdC zp (aw, H, o, b, rt, C, (ls, cur), f) I) (ha : aw ≠ 0 ∧ aw ≠ 8) (ht : TkC L I) (hr : Roomy H o C) : mx_Spec l mX8_stepReckoning (d + 4) 0 0 [.ref 47] (sk0 c, I) (fun r h' => r = none ∧ ∃ J, h' = (sk0 c, J) ∧ FrS I J ∧ RdC zp (rdJoin (if L.tk = 19 then 4 else 3) rt L (aw, H, o, b, rt, C, (ls, cur), f)) J) := by
  refine sn_X8_stepReckoning ⟨_, sp_joinC (d := d) h ht hr, ?_⟩
  rintro _ _ ⟨rfl, J, rfl, hF, hJ⟩
  have e := (ht.fr hF).eq (y := 19) (by omega)
  refine sg_X8_stepReckoning_4 (fun z => ⟨rfl, _, rfl, hF.trans (FrS.set (by omega)), ?_⟩) (fun z => ⟨rfl, _, rfl, hF.trans (FrS.set (by omega)), ?_⟩)
  · rw [rdJoin, if_neg (fun w => z (e.mpr w))]
    exact RdC.goto (a' := 3) hJ (Or.inr (Or.inr ha))
  · rw [rdJoin, if_pos (e.mp z)]
    exact RdC.goto (a' := 4) hJ (Or.inr (Or.inr ha))
theorem sp_divC {d : Nat} {L : LX} (h : RdC zp (4, H, o, b, rt, C, (ls, cur), f) I) (ht : TkC L I) (hr : Roomy H o C) (hz : zp) : mx_Spec l mX8_stepDivisor (d + 3) 0 0 [.ref 47] (sk0 c, I) (fun r h' => r = none ∧ ∃ J, h' = (sk0 c, J) ∧ FrS I J ∧ RdC zp (rdStep L (4, H, o, b, rt, C, (ls, cur), f)) J) := by
  have e1 := ht.eq (y := 1) (by omega)
  rw [rdStep, if_neg (by omega), if_neg (by omega), if_neg (by omega), if_neg (by omega), if_pos rfl]
  refine sn_X8_stepDivisor (fun n1 _ => ⟨_, sp_failC (d := d + 1) (k := 1) h ht.2.2.1 (by omega), ?_⟩) (fun n1 y1 => absurd y1 n1) (fun y1 _ n1 => absurd y1 n1) (fun y1 z0 _ => ⟨_, sp_unitC (d := d) h ⟨by omega, by omega⟩ ht hr hz, ?_⟩) (fun y1 z0 => ⟨_, sp_failC (d := d + 1) (k := 2) h ht.2.2.1 (by omega), ?_⟩)
  · have m1 : ¬ L.tk = 1 := fun z => n1 (e1.mpr z)
    rintro _ _ ⟨rfl, J, rfl, hF, hJ⟩
    refine sg_X8_stepDivisor_43 ⟨rfl, J, rfl, hF, ?_⟩
    rw [if_neg (fun z => m1 z.1), if_neg m1]; exact hJ
  · have m1 : L.tk = 1 := e1.mp y1
    rw [ht.2.2.2 m1] at z0
    rintro _ _ ⟨rfl, J, rfl, hF, hJ⟩
    refine sg_X8_stepDivisor_35 ⟨rfl, J, rfl, hF, ?_⟩
    rw [if_neg (fun z => z0 z.2), if_pos m1]; exact hJ
  · have m1 : L.tk = 1 := e1.mp y1
    rw [ht.2.2.2 m1] at z0
    rintro _ _ ⟨rfl, J, rfl, hF, hJ⟩
    refine sg_X8_stepDivisor_20 ⟨rfl, J, rfl, hF, ?_⟩
    rw [if_pos ⟨m1, z0⟩]; exact hJ
theorem sp_closeC {d : Nat} (h : RdC zp (aw, H, o, b, rt, C, (ls, cur), f) I) (ha : aw ≠ 0 ∧ aw ≠ 8) : mx_Spec l mX3_closeLine (d + 1) 0 0 [.ref 49] (sk0 c, I) (fun r h' => r = none ∧ ∃ J, h' = (sk0 c, J) ∧ FrS I J ∧ RdC zp (0, H, o, b, rt, C, (ls ++ [(cur, C.length)], cur), f) (mx_set J 47 9 0)) := by
  obtain ⟨⟨p1, p2, p3, p4, p5⟩, h2, h3, h4, ⟨l1, l2, l3, l4⟩, h6, h7⟩ := h
  have p4' : I 49 5 = nI C.length := p4
  have l2' : I 49 4 = nI ls.length := l2
  obtain ⟨w1, w2⟩ : ls.length < 16 ∧ I 52 ls.length = 1 - cur := (h6.resolve_left ha.1).resolve_left ha.2
  have e1 : ¬ (16 : Int32) ≤ I 49 4 := fun z => by rw [l2', show (16 : Int32) = nI 16 from rfl, nI_leI (by omega) (by omega)] at z; omega
  have S := fun Q => @sn_X3_closeLine l d Q c I
  rw [l2', nI_1, nI_clamp (n := ls.length + 1) (by omega), p4'] at S
  rw [l2'] at e1
  have q49 : ∀ x, x ≠ 4 → mx_set (mx_set I 49 4 (nI (ls.length + 1))) 51 (ls.length + 1) (nI C.length) 49 x = I 49 x := fun x hx => by rw [ms_ne (by omega), ms_at (Or.inr hx)]
  have q4 : mx_set (mx_set I 49 4 (nI (ls.length + 1))) 51 (ls.length + 1) (nI C.length) 49 4 = nI (ls.length + 1) := by rw [ms_ne (by omega), ms_self, upd_eq]
  have q51 : ∀ x, x ≠ ls.length + 1 → mx_set (mx_set I 49 4 (nI (ls.length + 1))) 51 (ls.length + 1) (nI C.length) 51 x = I 51 x := fun x hx => by rw [ms_at (Or.inr hx), ms_ne (by omega)]
  have q51' : mx_set (mx_set I 49 4 (nI (ls.length + 1))) 51 (ls.length + 1) (nI C.length) 51 (ls.length + 1) = nI C.length := by rw [ms_self, upd_eq]
  have qk : ∀ k, k ≠ 49 → k ≠ 51 → mx_set (mx_set I 49 4 (nI (ls.length + 1))) 51 (ls.length + 1) (nI C.length) k = I k := fun k a b => by rw [ms_ne b, ms_ne a]
  refine S _ (fun z => absurd z e1) (fun _ => i_vp (by omega) (by omega)) (fun _ => ⟨rfl, _, rfl, ⟨fun k a b => qk k (by omega) (by omega), fun g hg => by rw [qk 47 (by omega) (by omega)]⟩, ?_⟩)
  generalize mx_set (mx_set I 49 4 (nI (ls.length + 1))) 51 (ls.length + 1) (nI C.length) = J at q49 q4 q51 q51' qk ⊢
  have hp : Rp H C o J := ⟨by rw [qk 47 (by omega) (by omega)]; exact p1, by rw [qk 54 (by omega) (by omega)]; exact p2, by rw [qk 47 (by omega) (by omega)]; exact p3, by rw [q49 5 (by omega)]; exact p4, fun i hi => by rw [qk 50 (by omega) (by omega)]; exact p5 i hi⟩
  have hl : LnC (ls ++ [(cur, C.length)]) J := by
    refine ⟨by rw [List.length_append]; show ls.length + 1 ≤ 16; omega, by rw [List.length_append]; exact q4, by rw [q51 0 (by omega)]; exact l3, fun i hi => ?_⟩
    rw [List.length_append] at hi
    have hi' : i < ls.length + 1 := hi
    by_cases q : i = ls.length
    · subst q
      rw [getD_l, qk 52 (by omega) (by omega), q51']
      exact ⟨w2, rfl⟩
    · rw [getD_i _ _ _ (by omega), qk 52 (by omega) (by omega), q51 (i + 1) (by omega)]
      exact l4 i (by show i < ls.length; omega)
  have hft : FtC f J := ⟨fun z => by rw [qk 47 (by omega) (by omega)]; exact h7.1 z, fun z => by rw [qk 47 (by omega) (by omega)]; exact h7.2 z⟩
  exact ⟨hp.off (by omega), by rw [ms_self, upd_eq]; rfl, by rw [ms_at (Or.inr (by omega)), qk 47 (by omega) (by omega)]; exact h3, by rw [ms_at (Or.inr (by omega)), qk 47 (by omega) (by omega)]; exact h4, hl.off, Or.inl rfl, hft.off (by omega)⟩
theorem sp_headC {d : Nat} {L : LX} (h : RdC zp (1, H, o, b, rt, C, (ls, cur), f) I) (ht : TkC L I) : mx_Spec l mX8_stepHead (d + 2) 0 0 [.ref 47] (sk0 c, I) (fun r h' => r = none ∧ ∃ J, h' = (sk0 c, J) ∧ FrS I J ∧ RdC zp (rdStep L (1, H, o, b, rt, C, (ls, cur), f)) J) := by
  have e4 := ht.eq (y := 4) (by omega)
  have e15 := ht.eq (y := 15) (by omega)
  rw [rdStep, if_neg (by omega), if_pos rfl]
  refine sn_X8_stepHead (fun n4 n15 => ⟨_, sp_failC (d := d) (k := 1) h ht.2.2.1 (by omega), ?_⟩) (fun n4 y15 => ?_) (fun y4 => ⟨rfl, _, rfl, FrS.set (by omega), ?_⟩)
  · rintro _ _ ⟨rfl, J, rfl, hF, hJ⟩
    refine sg_X8_stepHead_45 ⟨rfl, J, rfl, hF, ?_⟩
    rw [if_neg (fun z => n4 (e4.mpr z)), if_neg (fun z => n15 (e15.mpr z))]; exact hJ
  · refine ⟨_, sp_closeC (d := d) h ⟨by omega, by omega⟩, ?_⟩
    rintro _ _ ⟨rfl, J, rfl, hF, hJ⟩
    refine sg_X8_stepHead_32 ⟨rfl, _, rfl, hF.trans (FrS.set (by omega)), ?_⟩
    rw [if_neg (fun z => n4 (e4.mpr z)), if_pos (e15.mp y15)]; exact hJ
  · rw [if_pos (e4.mp y4)]
    exact RdC.goto (a' := 2) h (Or.inr (Or.inr ⟨by omega, by omega⟩))
theorem sp_closedC {d : Nat} {L : LX} (h : RdC zp (aw, H, o, b, rt, C, (ls, cur), f) I) (ha : aw ≠ 0 ∧ aw ≠ 8) (ht : TkC L I) (hr : Roomy H o C) (hb : b ≤ 64) (hbo : 0 < b → 0 < (rel 1 H C o).1.length ∧ 0 < (rel 1 H C o).2.2) : mx_Spec l mX8_stepClosed (d + 4) 0 0 [.ref 47] (sk0 c, I) (fun r h' => r = none ∧ ∃ J, h' = (sk0 c, J) ∧ FrS I J ∧ RdC zp (rdClosed L (aw, H, o, b, rt, C, (ls, cur), f)) J) := by
  have e5 := ht.eq (y := 5) (by omega)
  have e6 := ht.eq (y := 6) (by omega)
  have e15 := ht.eq (y := 15) (by omega)
  have e21 := ht.eq (y := 21) (by omega)
  have hp : Rp H C o I := h.1
  have h8 : I 47 8 = nI b := h.2.2.1
  have b0 : I 47 8 = 0 ↔ b = 0 := by rw [h8]; exact (nI_255 (by omega) (y := 0) (by omega)).2.2
  have ble : I 47 8 ≤ 0 ↔ b = 0 := by rw [h8, show (0 : Int32) = nI 0 from rfl, nI_leI (by omega) (by omega)]; omega
  obtain ⟨r1, r2, r3, r4, r5⟩ := id hr
  have bad : ¬ (L.tk = 6 ∨ L.tk = 5) → ¬ (L.tk = 21 ∧ 0 < b) → ¬ (L.tk = 15 ∧ b = 0) → mx_K1 l mX8_fail (d + 3) [.ref 47, .int 1] (sk0 c, I) (fun r h' => mx_Go l (mx_rm (d + 3 + 1) 0 0) mX8_stepClosed (mx_Z (fun r h' => r = none ∧ ∃ J, h' = (sk0 c, J) ∧ FrS I J ∧ RdC zp (rdClosed L (aw, H, o, b, rt, C, (ls, cur), f)) J) 0 0) 0 0 147 [.ref 47] (r.toList ++ []) h') := fun n1 n2 n3 => by
    refine ⟨_, sp_failC (d := d + 2) (k := 1) h ht.2.2.1 (by omega), ?_⟩
    rintro _ _ ⟨rfl, J, rfl, hF, hJ⟩
    refine sg_X8_stepClosed_147 ⟨rfl, J, rfl, hF, ?_⟩
    rw [rdClosed, if_neg n1, if_neg n2, if_neg n3]; exact hJ
  have join : (L.tk = 6 ∨ L.tk = 5) → mx_K1 l mX8_join (d + 3) [.ref 47] (sk0 c, I) (fun r h' => mx_Go l (mx_rm (d + 3 + 1) 0 0) mX8_stepClosed (mx_Z (fun r h' => r = none ∧ ∃ J, h' = (sk0 c, J) ∧ FrS I J ∧ RdC zp (rdClosed L (aw, H, o, b, rt, C, (ls, cur), f)) J) 0 0) 0 0 21 [.ref 47] (r.toList ++ []) h') := fun y => by
    refine ⟨_, sp_joinC (d := d) h ht hr, ?_⟩
    rintro _ _ ⟨rfl, J, rfl, hF, hJ⟩
    refine sg_X8_stepClosed_21 ⟨rfl, _, rfl, hF.trans (FrS.set (by omega)), ?_⟩
    rw [rdClosed, if_pos y, rdJoin]
    exact RdC.goto (a' := 2) hJ (Or.inr (Or.inr ha))
  have stop : ¬ (L.tk = 6 ∨ L.tk = 5) → L.tk = 15 → b = 0 → mx_K1 l mX8_rank (d + 3) [.int 5] (sk0 c, I) (fun r h' => mx_Go l (mx_rm (d + 3 + 1) 0 0) mX8_stepClosed (mx_Z (fun r h' => r = none ∧ ∃ J, h' = (sk0 c, J) ∧ FrS I J ∧ RdC zp (rdClosed L (aw, H, o, b, rt, C, (ls, cur), f)) J) 0 0) 0 0 124 [.ref 47] (r.toList ++ [.ref 47]) h') := fun n56 y15 yb => by
    refine ⟨_, sp_rank (d := d + 2) (x := 5) (by omega), ?_⟩
    rintro _ _ ⟨rfl, rfl⟩
    refine sg_X8_stepClosed_124 _ ⟨_, sp_release (d := d + 1) (r := 1) (by omega) H hp (by omega) (by omega) r3 r4 r5, ?_⟩
    rintro _ _ ⟨rfl, J, rfl, hF, hR⟩
    refine sg_X8_stepClosed_127 ⟨_, sp_closeC (d := d + 2) (h.fr hF hR) ha, ?_⟩
    rintro _ _ ⟨rfl, K, rfl, hF2, hK⟩
    refine sg_X8_stepClosed_134 ⟨rfl, _, rfl, (hF.s.trans hF2).trans (FrS.set (by omega)), ?_⟩
    rw [rdClosed, if_neg n56, if_neg (by omega), if_pos ⟨y15, yb⟩]
    exact hK
  refine sn_X8_stepClosed (fun y6 => join (Or.inl (e6.mp y6))) (fun n6 n5 n21 n15 => bad (fun z => z.elim (fun w => n6 (e6.mpr w)) (fun w => n5 (e5.mpr w))) (fun z => n21 (e21.mpr z.1)) (fun z => n15 (e15.mpr z.1))) (fun n6 n5 n21 y15 nb => bad (fun z => z.elim (fun w => n6 (e6.mpr w)) (fun w => n5 (e5.mpr w))) (fun z => n21 (e21.mpr z.1)) (fun z => nb (b0.mpr z.2))) (fun n6 n5 n21 y15 yb => stop (fun z => z.elim (fun w => n6 (e6.mpr w)) (fun w => n5 (e5.mpr w))) (e15.mp y15) (b0.mp yb)) (fun n6 n5 y21 yb n15 => bad (fun z => z.elim (fun w => n6 (e6.mpr w)) (fun w => n5 (e5.mpr w))) (fun z => by have := ble.mp yb; omega) (fun z => n15 (e15.mpr z.1))) (fun n6 n5 y21 yb y15 => by have := e21.mp y21; have := e15.mp y15; omega) (fun n6 n5 y21 yb y15 => by have := e21.mp y21; have := e15.mp y15; omega) (fun n6 n5 y21 nb => ?_) (fun _ y5 => join (Or.inr (e5.mp y5)))
  have n56 : ¬ (L.tk = 6 ∨ L.tk = 5) := fun z => z.elim (fun w => n6 (e6.mpr w)) (fun w => n5 (e5.mpr w))
  have bpos : 0 < b := by have : ¬ b = 0 := fun z => nb (ble.mpr z); omega
  obtain ⟨t1, t2⟩ := hbo bpos
  refine ⟨_, sp_rank (d := d + 2) (x := 5) (by omega), ?_⟩
  rintro _ _ ⟨rfl, rfl⟩
  refine sg_X8_stepClosed_50 _ ⟨_, sp_release (d := d + 1) (r := 1) (by omega) H hp (by omega) (by omega) r3 r4 r5, ?_⟩
  rintro _ _ ⟨rfl, J, rfl, hF, hR⟩
  have hJ := h.fr hF hR
  rw [rdClosed, if_neg n56, if_pos ⟨e21.mp y21, bpos⟩]
  have hl := (rel_len 1 H C o).1
  obtain ⟨x, T, hT⟩ : ∃ x T, (rel 1 H C o).1 = x :: T := by
    cases q : (rel 1 H C o).1 with
    | nil => rw [q] at t1; exact absurd t1 (Nat.lt_irrefl _)
    | cons x T => exact ⟨x, T, rfl⟩
  rw [hT] at hJ hl
  rw [hT]
  have hl' : T.length + 1 ≤ H.length := hl
  have ho2 : (rel 1 H C o).2.2 ≤ 64 := by
    have : ∀ (H : List Nat) (C : List Int32) (o : Nat), (rel 1 H C o).2.2 ≤ o := fun H => by
      induction H with
      | nil => intro C o; exact Nat.le_refl _
      | cons x H ih =>
        intro C o
        by_cases q : 1 ≤ rnk x
        · rw [rel_yes q]
          have := ih (C ++ [-(nI x)]) (if x = 7 then o - 1 else o)
          by_cases w : x = 7
          · rw [if_pos w] at this ⊢; omega
          · rw [if_neg w] at this ⊢; omega
        · rw [rel_no (by omega)]; exact Nat.le_refl _
    exact Nat.le_trans (this H C o) r5
  generalize (rel 1 H C o).2.2 = o2 at hJ t2 ho2 ⊢
  generalize (rel 1 H C o).2.1 = C2 at hJ ⊢
  obtain ⟨⟨p1, ⟨p2, p2'⟩, p3, p4, p5⟩, h2, h3, h4, h5, h6, h7⟩ := hJ
  have p1' : J 47 6 = nI (T.length + 1) := p1
  have p3' : J 47 7 = nI o2 := p3
  have h3' : J 47 8 = nI b := h3
  have e6' : ¬ J 47 6 ≤ 0 := fun z => by rw [p1', show (0 : Int32) = nI 0 from rfl, nI_leI (by omega) (by omega)] at z; omega
  refine sg_X8_stepClosed_53 (fun z => absurd z e6') (fun _ => ⟨rfl, _, rfl, hF.s.trans ((((FrS.set (by omega)).trans (FrS.set (by omega))).trans (FrS.set (by omega))).trans (FrS.set (by omega))), ?_⟩)
  rw [p1', p3', h3', show (1 : Int32) = nI 1 from rfl, pk_sub (by omega), pk_sub (by omega), pk_sub (by omega)]
  refine ⟨⟨?_, ?_, ?_, ?_, fun i hi => ?_⟩, ?_, ?_, ?_, h5.off.off.off.off, ?_, (((h7.off (by omega)).off (by omega)).off (by omega)).off (by omega)⟩
  · rw [ms_at (Or.inr (by omega)), ms_at (Or.inr (by omega)), ms_at (Or.inr (by omega)), ms_self, upd_eq]; rfl
  · rw [ms_ne (by omega), ms_ne (by omega), ms_ne (by omega), ms_ne (by omega)]; exact p2'
  · rw [ms_at (Or.inr (by omega)), ms_self, upd_eq]
  · rw [ms_ne (by omega), ms_ne (by omega), ms_ne (by omega), ms_ne (by omega)]; exact p4
  · rw [ms_ne (by omega), ms_ne (by omega), ms_ne (by omega), ms_ne (by omega)]; exact p5 i hi
  · rw [ms_self, upd_eq]; rfl
  · rw [ms_at (Or.inr (by omega)), ms_at (Or.inr (by omega)), ms_self, upd_eq]
  · rw [ms_at (Or.inr (by omega)), ms_at (Or.inr (by omega)), ms_at (Or.inr (by omega)), ms_at (Or.inr (by omega))]; exact h4
  · rcases h6 with w | w | w
    · exact absurd w ha.1
    · exact absurd w ha.2
    · exact Or.inr (Or.inr ⟨w.1, by rw [ms_ne (by omega), ms_ne (by omega), ms_ne (by omega), ms_ne (by omega)]; exact w.2⟩)
theorem sp_leftC {d : Nat} {L : LX} (h : RdC zp (5, H, o, b, rt, C, (ls, cur), f) I) (ht : TkC L I) (hr : Roomy H o C) : mx_Spec l mX8_stepLeft (d + 5) 0 0 [.ref 47] (sk0 c, I) (fun r h' => r = none ∧ ∃ J, h' = (sk0 c, J) ∧ FrS I J ∧ RdC zp (rdStep L (5, H, o, b, rt, C, (ls, cur), f)) J) := by
  have l22 := ht.lt (y := 22) (by omega)
  have l16 := ht.lt (y := 16) (by omega)
  have g19 := ht.gt (y := 19) (by omega)
  have g24 := ht.gt (y := 24) (by omega)
  have h5 : ∀ (P : RdS → Prop), P (if 22 ≤ L.tk ∧ L.tk ≤ 24 then rdJoin 3 true L (5, H, o, b, rt, C, (ls, cur), f) else if 16 ≤ L.tk ∧ L.tk ≤ 19 then rdJoin (if L.tk = 19 then 4 else 3) rt L (5, H, o, b, rt, C, (ls, cur), f) else rdFail 1 L.pl (5, H, o, b, rt, C, (ls, cur), f)) → P (rdStep L (5, H, o, b, rt, C, (ls, cur), f)) := fun P hP => by
    rw [rdStep, if_neg (by omega), if_neg (by omega), if_neg (by omega), if_neg (by omega), if_neg (by omega), if_pos rfl]; exact hP
  have bad : ¬ (22 ≤ L.tk ∧ L.tk ≤ 24) → ¬ (16 ≤ L.tk ∧ L.tk ≤ 19) → mx_K1 l mX8_fail (d + 4) [.ref 47, .int 1] (sk0 c, I) (fun r h' => mx_Go l (mx_rm (d + 4 + 1) 0 0) mX8_stepLeft (mx_Z (fun r h' => r = none ∧ ∃ J, h' = (sk0 c, J) ∧ FrS I J ∧ RdC zp (rdStep L (5, H, o, b, rt, C, (ls, cur), f)) J) 0 0) 0 0 65 [.ref 47] (r.toList ++ []) h') := fun n1 n2 => by
    refine ⟨_, sp_failC (d := d + 3) (k := 1) h ht.2.2.1 (by omega), ?_⟩
    rintro _ _ ⟨rfl, J, rfl, hF, hJ⟩
    refine sg_X8_stepLeft_65 ⟨rfl, J, rfl, hF, h5 (fun z => RdC zp z J) ?_⟩
    rw [if_neg n1, if_neg n2]; exact hJ
  have reck : ¬ (22 ≤ L.tk ∧ L.tk ≤ 24) → (16 ≤ L.tk ∧ L.tk ≤ 19) → mx_K1 l mX8_stepReckoning (d + 4) [.ref 47] (sk0 c, I) (fun r h' => mx_Go l (mx_rm (d + 4 + 1) 0 0) mX8_stepLeft (mx_Z (fun r h' => r = none ∧ ∃ J, h' = (sk0 c, J) ∧ FrS I J ∧ RdC zp (rdStep L (5, H, o, b, rt, C, (ls, cur), f)) J) 0 0) 0 0 57 [.ref 47] (r.toList ++ []) h') := fun n1 y2 => by
    refine ⟨_, sp_reckC (d := d) h ⟨by omega, by omega⟩ ht hr, ?_⟩
    rintro _ _ ⟨rfl, J, rfl, hF, hJ⟩
    refine sg_X8_stepLeft_57 ⟨rfl, J, rfl, hF, h5 (fun z => RdC zp z J) ?_⟩
    rw [if_neg n1, if_pos y2]; exact hJ
  refine sn_X8_stepLeft (fun a1 a2 => bad (fun z => by have := l22.mp a1; omega) (fun z => by have := l16.mp a2; omega)) (fun a1 a2 a3 => bad (fun z => by have := l22.mp a1; omega) (fun z => by have := g19.mp a3; omega)) (fun a1 a2 a3 => reck (fun z => by have := l22.mp a1; omega) ⟨by have : ¬ L.tk < 16 := fun z => a2 (l16.mpr z); omega, by have : ¬ 19 < L.tk := fun z => a3 (g19.mpr z); omega⟩) (fun a1 a2 a3 => bad (fun z => by have := g24.mp a2; omega) (fun z => by have := g24.mp a2; omega)) (fun a1 a2 a3 a4 => bad (fun z => by have := g24.mp a2; omega) (fun z => by have := g24.mp a2; omega)) (fun a1 a2 a3 a4 => by have := g24.mp a2; exact absurd (g19.mpr (by omega)) a4) (fun a1 a2 => ⟨_, sp_joinC (d := d + 1) h ht hr, ?_⟩)
  have y : 22 ≤ L.tk ∧ L.tk ≤ 24 := ⟨by have : ¬ L.tk < 22 := fun z => a1 (l22.mpr z); omega, by have : ¬ 24 < L.tk := fun z => a2 (g24.mpr z); omega⟩
  rintro _ _ ⟨rfl, J, rfl, hF, hJ⟩
  refine sg_X8_stepLeft_22 ⟨rfl, _, rfl, (hF.trans (FrS.set (by omega))).trans (FrS.set (by omega)), h5 (fun z => RdC zp z _) ?_⟩
  rw [if_pos y, rdJoin]
  exact RdC.goto (a' := 3) (RdC.rt' (r' := true) hJ) (Or.inr (Or.inr ⟨by omega, by omega⟩))
theorem sp_rightC {d : Nat} {L : LX} (h : RdC zp (6, H, o, b, rt, C, (ls, cur), f) I) (ht : TkC L I) (hr : Roomy H o C) (hb : b ≤ 64) (hbo : 0 < b → 0 < (rel 1 H C o).1.length ∧ 0 < (rel 1 H C o).2.2) : mx_Spec l mX8_stepRight (d + 5) 0 0 [.ref 47] (sk0 c, I) (fun r h' => r = none ∧ ∃ J, h' = (sk0 c, J) ∧ FrS I J ∧ RdC zp (rdStep L (6, H, o, b, rt, C, (ls, cur), f)) J) := by
  have l16 := ht.lt (y := 16) (by omega)
  have g19 := ht.gt (y := 19) (by omega)
  have h6 : ∀ (P : RdS → Prop), P (if 16 ≤ L.tk ∧ L.tk ≤ 19 then rdJoin (if L.tk = 19 then 4 else 3) rt L (6, H, o, b, rt, C, (ls, cur), f) else rdClosed L (6, H, o, b, rt, C, (ls, cur), f)) → P (rdStep L (6, H, o, b, rt, C, (ls, cur), f)) := fun P hP => by
    rw [rdStep, if_neg (by omega), if_neg (by omega), if_neg (by omega), if_neg (by omega), if_neg (by omega), if_neg (by omega), if_pos rfl]; exact hP
  have cl : ¬ (16 ≤ L.tk ∧ L.tk ≤ 19) → mx_K1 l mX8_stepClosed (d + 4) [.ref 47] (sk0 c, I) (fun r h' => mx_Go l (mx_rm (d + 4 + 1) 0 0) mX8_stepRight (mx_Z (fun r h' => r = none ∧ ∃ J, h' = (sk0 c, J) ∧ FrS I J ∧ RdC zp (rdStep L (6, H, o, b, rt, C, (ls, cur), f)) J) 0 0) 0 0 29 [.ref 47] (r.toList ++ []) h') := fun n2 => by
    refine ⟨_, sp_closedC (d := d) h ⟨by omega, by omega⟩ ht hr hb hbo, ?_⟩
    rintro _ _ ⟨rfl, J, rfl, hF, hJ⟩
    refine sg_X8_stepRight_29 ⟨rfl, J, rfl, hF, h6 (fun z => RdC zp z J) ?_⟩
    rw [if_neg n2]; exact hJ
  refine sn_X8_stepRight (fun a1 => cl (fun z => by have := l16.mp a1; omega)) (fun a1 a2 => cl (fun z => by have := g19.mp a2; omega)) (fun a1 a2 => ⟨_, sp_reckC (d := d) h ⟨by omega, by omega⟩ ht hr, ?_⟩)
  have y : 16 ≤ L.tk ∧ L.tk ≤ 19 := ⟨by have : ¬ L.tk < 16 := fun z => a1 (l16.mpr z); omega, by have : ¬ 19 < L.tk := fun z => a2 (g19.mpr z); omega⟩
  rintro _ _ ⟨rfl, J, rfl, hF, hJ⟩
  refine sg_X8_stepRight_22 ⟨rfl, J, rfl, hF, h6 (fun z => RdC zp z J) ?_⟩
  rw [if_pos y]; exact hJ
end S
