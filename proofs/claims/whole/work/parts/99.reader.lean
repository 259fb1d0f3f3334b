/-! the class's reader, the other steps -/
section S
variable {aw : Nat} {H : List Nat} {o b : Nat} {rt : Bool} {C : List Int32} {ls : List (Int32 × Nat)} {cur : Int32} {f : Nat × Nat} {I : mx_I} {l : Launch} {c : Nat}
theorem sp_reckC {d : Nat} {L : LX} (h : RdC (aw, H, o, b, rt, C, (ls, cur), f) I) (ha : aw ≠ 0 ∧ aw ≠ 8) (ht : TkC L I) (hr : Roomy H o C) : mx_Spec l mX8_stepReckoning (d + 4) 0 0 [.ref 47] (sk0 c, I) (fun r h' => r = none ∧ ∃ J, h' = (sk0 c, J) ∧ FrS I J ∧ RdC (rdJoin (if L.tk = 19 then 4 else 3) rt L (aw, H, o, b, rt, C, (ls, cur), f)) J) := by
  refine sn_X8_stepReckoning ⟨_, sp_joinC (d := d) h ht hr, ?_⟩
  rintro _ _ ⟨rfl, J, rfl, hF, hJ⟩
  have e := (ht.fr hF).eq (y := 19) (by omega)
  refine sg_X8_stepReckoning_4 (fun z => ⟨rfl, _, rfl, hF.trans (FrS.set (by omega)), ?_⟩) (fun z => ⟨rfl, _, rfl, hF.trans (FrS.set (by omega)), ?_⟩)
  · rw [rdJoin, if_neg (fun w => z (e.mpr w))]
    exact RdC.goto (a' := 3) hJ (Or.inr (Or.inr ha))
  · rw [rdJoin, if_pos (e.mp z)]
    exact RdC.goto (a' := 4) hJ (Or.inr (Or.inr ha))
theorem sp_divC {d : Nat} {L : LX} (h : RdC (4, H, o, b, rt, C, (ls, cur), f) I) (ht : TkC L I) (hr : Roomy H o C) : mx_Spec l mX8_stepDivisor (d + 3) 0 0 [.ref 47] (sk0 c, I) (fun r h' => r = none ∧ ∃ J, h' = (sk0 c, J) ∧ FrS I J ∧ RdC (rdStep L (4, H, o, b, rt, C, (ls, cur), f)) J) := by
  have e1 := ht.eq (y := 1) (by omega)
  rw [rdStep, if_neg (by omega), if_neg (by omega), if_neg (by omega), if_neg (by omega), if_pos rfl]
  refine sn_X8_stepDivisor (fun n1 _ => ⟨_, sp_failC (d := d + 1) (k := 1) h ht.2.2.1 (by omega), ?_⟩) (fun n1 y1 => absurd y1 n1) (fun y1 _ n1 => absurd y1 n1) (fun y1 z0 _ => ⟨_, sp_unitC (d := d) h ⟨by omega, by omega⟩ ht hr, ?_⟩) (fun y1 z0 => ⟨_, sp_failC (d := d + 1) (k := 2) h ht.2.2.1 (by omega), ?_⟩)
  · have m1 : ¬ L.tk = 1 := fun z => n1 (e1.mpr z)
    rintro _ _ ⟨rfl, J, rfl, hF, hJ⟩
    refine sg_X8_stepDivisor_43 ⟨rfl, J, rfl, hF, ?_⟩
    rw [if_neg (fun z => m1 z.1), if_neg m1]; exact hJ
  · have m1 : L.tk = 1 := e1.mp y1
    rw [ht.2.2.2 m1] at z0
    rintro _ _ ⟨rfl, J, rfl, hF, hJ⟩
    refine sg_X8_stepDivisor_35 ⟨rfl, J, rfl, hF, ?_⟩
    rw [if_neg (fun z => z0 z.2), if_pos m1]; exact hJ
  · have m1 : L.tk = 1 := e1.mp y1
    rw [ht.2.2.2 m1] at z0
    rintro _ _ ⟨rfl, J, rfl, hF, hJ⟩
    refine sg_X8_stepDivisor_20 ⟨rfl, J, rfl, hF, ?_⟩
    rw [if_pos ⟨m1, z0⟩]; exact hJ
theorem sp_closeC {d : Nat} (h : RdC (aw, H, o, b, rt, C, (ls, cur), f) I) (ha : aw ≠ 0 ∧ aw ≠ 8) : mx_Spec l mX3_closeLine (d + 1) 0 0 [.ref 49] (sk0 c, I) (fun r h' => r = none ∧ ∃ J, h' = (sk0 c, J) ∧ FrS I J ∧ RdC (0, H, o, b, rt, C, (ls ++ [(cur, C.length)], cur), f) (mx_set J 47 9 0)) := by
  obtain ⟨⟨p1, p2, p3, p4, p5⟩, h2, h3, h4, ⟨l1, l2, l3, l4⟩, h6, h7⟩ := h
  have p4' : I 49 5 = nI C.length := p4
  have l2' : I 49 4 = nI ls.length := l2
  obtain ⟨w1, w2⟩ : ls.length < 16 ∧ I 52 ls.length = 1 - cur := (h6.resolve_left ha.1).resolve_left ha.2
  have e1 : ¬ (16 : Int32) ≤ I 49 4 := fun z => by rw [l2', show (16 : Int32) = nI 16 from rfl, nI_leI (by omega) (by omega)] at z; omega
  have S := fun Q => @sn_X3_closeLine l d Q c I
  rw [l2', nI_1, nI_clamp (n := ls.length + 1) (by omega), p4'] at S
  rw [l2'] at e1
  have q49 : ∀ x, x ≠ 4 → mx_set (mx_set I 49 4 (nI (ls.length + 1))) 51 (ls.length + 1) (nI C.length) 49 x = I 49 x := fun x hx => by rw [ms_ne (by omega), ms_at (Or.inr hx)]
  have q4 : mx_set (mx_set I 49 4 (nI (ls.length + 1))) 51 (ls.length + 1) (nI C.length) 49 4 = nI (ls.length + 1) := by rw [ms_ne (by omega), ms_self, upd_eq]
  have q51 : ∀ x, x ≠ ls.length + 1 → mx_set (mx_set I 49 4 (nI (ls.length + 1))) 51 (ls.length + 1) (nI C.length) 51 x = I 51 x := fun x hx => by rw [ms_at (Or.inr hx), ms_ne (by omega)]
  have q51' : mx_set (mx_set I 49 4 (nI (ls.length + 1))) 51 (ls.length + 1) (nI C.length) 51 (ls.length + 1) = nI C.length := by rw [ms_self, upd_eq]
  have qk : ∀ k, k ≠ 49 → k ≠ 51 → mx_set (mx_set I 49 4 (nI (ls.length + 1))) 51 (ls.length + 1) (nI C.length) k = I k := fun k a b => by rw [ms_ne b, ms_ne a]
  refine S _ (fun z => absurd z e1) (fun _ => i_vp (by omega) (by omega)) (fun _ => ⟨rfl, _, rfl, ⟨fun k a b => qk k (by omega) (by omega), fun g hg => by rw [qk 47 (by omega) (by omega)]⟩, ?_⟩)
  generalize mx_set (mx_set I 49 4 (nI (ls.length + 1))) 51 (ls.length + 1) (nI C.length) = J at q49 q4 q51 q51' qk ⊢
  have hp : Rp H C o J := ⟨by rw [qk 47 (by omega) (by omega)]; exact p1, by rw [qk 54 (by omega) (by omega)]; exact p2, by rw [qk 47 (by omega) (by omega)]; exact p3, by rw [q49 5 (by omega)]; exact p4, fun i hi => by rw [qk 50 (by omega) (by omega)]; exact p5 i hi⟩
  have hl : LnC (ls ++ [(cur, C.length)]) J := by
    refine ⟨by rw [List.length_append]; show ls.length + 1 ≤ 16; omega, by rw [List.length_append]; exact q4, by rw [q51 0 (by omega)]; exact l3, fun i hi => ?_⟩
    rw [List.length_append] at hi
    have hi' : i < ls.length + 1 := hi
    by_cases q : i = ls.length
    · subst q
      rw [getD_l, qk 52 (by omega) (by omega), q51']
      exact ⟨w2, rfl⟩
    · rw [getD_i _ _ _ (by omega), qk 52 (by omega) (by omega), q51 (i + 1) (by omega)]
      exact l4 i (by show i < ls.length; omega)
  have hft : FtC f J := ⟨fun z => by rw [qk 47 (by omega) (by omega)]; exact h7.1 z, fun z => by rw [qk 47 (by omega) (by omega)]; exact h7.2 z⟩
  exact ⟨hp.off (by omega), by rw [ms_self, upd_eq]; rfl, by rw [ms_at (Or.inr (by omega)), qk 47 (by omega) (by omega)]; exact h3, by rw [ms_at (Or.inr (by omega)), qk 47 (by omega) (by omega)]; exact h4, hl.off, Or.inl rfl, hft.off (by omega)⟩
theorem sp_headC {d : Nat} {L : LX} (h : RdC (1, H, o, b, rt, C, (ls, cur), f) I) (ht : TkC L I) : mx_Spec l mX8_stepHead (d + 2) 0 0 [.ref 47] (sk0 c, I) (fun r h' => r = none ∧ ∃ J, h' = (sk0 c, J) ∧ FrS I J ∧ RdC (rdStep L (1, H, o, b, rt, C, (ls, cur), f)) J) := by
  have e4 := ht.eq (y := 4) (by omega)
  have e15 := ht.eq (y := 15) (by omega)
  rw [rdStep, if_neg (by omega), if_pos rfl]
  refine sn_X8_stepHead (fun n4 n15 => ⟨_, sp_failC (d := d) (k := 1) h ht.2.2.1 (by omega), ?_⟩) (fun n4 y15 => ?_) (fun y4 => ⟨rfl, _, rfl, FrS.set (by omega), ?_⟩)
  · rintro _ _ ⟨rfl, J, rfl, hF, hJ⟩
    refine sg_X8_stepHead_45 ⟨rfl, J, rfl, hF, ?_⟩
    rw [if_neg (fun z => n4 (e4.mpr z)), if_neg (fun z => n15 (e15.mpr z))]; exact hJ
  · refine ⟨_, sp_closeC (d := d) h ⟨by omega, by omega⟩, ?_⟩
    rintro _ _ ⟨rfl, J, rfl, hF, hJ⟩
    refine sg_X8_stepHead_32 ⟨rfl, _, rfl, hF.trans (FrS.set (by omega)), ?_⟩
    rw [if_neg (fun z => n4 (e4.mpr z)), if_pos (e15.mp y15)]; exact hJ
  · rw [if_pos (e4.mp y4)]
    exact RdC.goto (a' := 2) h (Or.inr (Or.inr ⟨by omega, by omega⟩))
end S
