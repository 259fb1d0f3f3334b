/-! the class's reader: conditions, lines -/
section S
variable {zp : Prop} {aw : Nat} {H : List Nat} {o b : Nat} {rt : Bool} {C : List Int32} {ls : List (Int32 × Nat)} {cur : Int32} {f : Nat × Nat} {I : mx_I} {l : Launch} {c : Nat}
theorem RdC.ob {o' b' : Nat} (h : RdC zp (aw, H, o, b, rt, C, (ls, cur), f) I) : RdC zp (aw, H, o', b', rt, C, (ls, cur), f) (mx_set (mx_set I 47 7 (nI o')) 47 8 (nI b')) := by
  obtain ⟨⟨p1, p2, p3, p4, p5⟩, h2, h3, h4, h5, h6, h7⟩ := h
  refine ⟨⟨?_, ?_, ?_, ?_, fun i hi => ?_⟩, ?_, ?_, ?_, h5.off.off, ?_, (h7.off (by omega)).off (by omega)⟩
  · rw [ms_at (Or.inr (by omega)), ms_at (Or.inr (by omega))]; exact p1
  · rw [ms_ne (by omega), ms_ne (by omega)]; exact p2
  · rw [ms_at (Or.inr (by omega)), ms_self, upd_eq]
  · rw [ms_ne (by omega), ms_ne (by omega)]; exact p4
  · rw [ms_ne (by omega), ms_ne (by omega)]; exact p5 i hi
  · rw [ms_at (Or.inr (by omega)), ms_at (Or.inr (by omega))]; exact h2
  · rw [ms_self, upd_eq]
  · rw [ms_at (Or.inr (by omega)), ms_at (Or.inr (by omega))]; exact h4
  · rcases h6 with w | w | w
    · exact Or.inl w
    · exact Or.inr (Or.inl w)
    · exact Or.inr (Or.inr ⟨w.1, by rw [ms_ne (by omega), ms_ne (by omega)]; exact w.2⟩)
theorem sp_condC {d : Nat} {L : LX} (h : RdC zp (2, H, o, b, rt, C, (ls, cur), f) I) (ht : TkC L I) (hr : Roomy H o C) : mx_Spec l mX8_stepCondition (d + 3) 0 0 [.ref 47] (sk0 c, I) (fun r h' => r = none ∧ ∃ J, h' = (sk0 c, J) ∧ FrS I J ∧ RdC (3 ≤ (rdStep L (2, H, o, b, rt, C, (ls, cur), f)).1 ∧ (rdStep L (2, H, o, b, rt, C, (ls, cur), f)).1 ≤ 7) (rdStep L (2, H, o, b, rt, C, (ls, cur), f)) J) := by
  have e7 := ht.eq (y := 7) (by omega)
  have e20 := ht.eq (y := 20) (by omega)
  have h7 : I 47 7 = nI o := h.1.2.2.1
  have h8 : I 47 8 = nI b := h.2.2.1
  have lo : I 47 7 < 8 ↔ o < 8 := by rw [h7, show (8 : Int32) = nI 8 from rfl, nI_ltI (by have := hr.2.2.2.2; omega) (by omega)]
  have hs : ∀ (P : RdS → Prop), P (if L.tk ≠ 7 ∧ L.tk ≠ 20 then rdUnit L (2, H, o, b, false, C, (ls, cur), f) else if 8 ≤ o then rdFail 3 L.pl (2, H, o, b, rt, C, (ls, cur), f) else (2, L.tk :: H, o + 1, (if L.tk = 20 then b + 1 else b), rt, C, (ls, cur), f)) → P (rdStep L (2, H, o, b, rt, C, (ls, cur), f)) := fun P hP => by
    rw [rdStep, if_neg (by omega), if_neg (by omega), if_pos rfl]; exact hP
  have bad : (L.tk = 7 ∨ L.tk = 20) → ¬ o < 8 → mx_K1 l mX8_fail (d + 2) [.ref 47, .int 3] (sk0 c, I) (fun r h' => mx_Go l (mx_rm (d + 2 + 1) 0 0) mX8_stepCondition (mx_Z (fun r h' => r = none ∧ ∃ J, h' = (sk0 c, J) ∧ FrS I J ∧ RdC (3 ≤ (rdStep L (2, H, o, b, rt, C, (ls, cur), f)).1 ∧ (rdStep L (2, H, o, b, rt, C, (ls, cur), f)).1 ≤ 7) (rdStep L (2, H, o, b, rt, C, (ls, cur), f)) J) 0 0) 0 0 44 [.ref 47] (r.toList ++ []) h') := fun y n => by
    refine ⟨_, sp_failC (d := d + 1) (k := 3) h ht.2.2.1 (by omega), ?_⟩
    rintro _ _ ⟨rfl, J, rfl, hF, hJ⟩
    refine sg_X8_stepCondition_44 ⟨rfl, J, rfl, hF, hs (fun z => RdC (3 ≤ z.1 ∧ z.1 ≤ 7) z J) ?_⟩
    rw [if_neg (by omega), if_pos (by omega)]; exact hJ.mono (fun z => absurd z.2 (by show ¬ 8 ≤ 7; omega))
  have good : ∀ b' : Nat, (L.tk = 7 ∨ L.tk = 20) → o < 8 → (if L.tk = 20 then b + 1 else b) = b' → mx_K1 l mX8_hold (d + 2) [.ref 47, .int (I 47 12)] (sk0 c, mx_set (mx_set I 47 7 (nI (o + 1))) 47 8 (nI b')) (fun r h' => mx_Go l (mx_rm (d + 2 + 1) 0 0) mX8_stepCondition (mx_Z (fun r h' => r = none ∧ ∃ J, h' = (sk0 c, J) ∧ FrS I J ∧ RdC (3 ≤ (rdStep L (2, H, o, b, rt, C, (ls, cur), f)).1 ∧ (rdStep L (2, H, o, b, rt, C, (ls, cur), f)).1 ≤ 7) (rdStep L (2, H, o, b, rt, C, (ls, cur), f)) J) 0 0) 0 0 88 [.ref 47] (r.toList ++ []) h') := fun b' y n hb => by
    have h2 : RdC zp (2, H, o + 1, b', rt, C, (ls, cur), f) (mx_set (mx_set I 47 7 (nI (o + 1))) 47 8 (nI b')) := RdC.ob h
    have hp : Rp H C (o + 1) (mx_set (mx_set I 47 7 (nI (o + 1))) 47 8 (nI b')) := h2.1
    rw [ht.2.1]
    refine ⟨_, sp_hold (d := d + 1) hp hr.1, ?_⟩
    rintro _ _ ⟨rfl, J, rfl, hF, hR⟩
    refine sg_X8_stepCondition_88 ⟨rfl, J, rfl, ((FrS.set (by omega)).trans (FrS.set (by omega))).trans hF.s, hs (fun z => RdC (3 ≤ z.1 ∧ z.1 ≤ 7) z J) ?_⟩
    rw [if_neg (by omega), if_neg (by omega), hb]
    exact (RdC.fr h2 hF hR).mono (fun z => absurd z.1 (by show ¬ 3 ≤ 2; omega))
  have S := fun Q => @sn_X8_stepCondition l (d + 2) Q c I
  rw [h7, h8, nI_1 o, nI_1 b, Int32.add_zero] at S
  rw [h7] at lo
  refine S _ (fun y7 yo n20 => good b (Or.inl (e7.mp y7)) (lo.mp yo) (if_neg (fun z => n20 (e20.mpr z)))) (fun y7 yo y20 => by have := e7.mp y7; have := e20.mp y20; omega) (fun y7 no => bad (Or.inl (e7.mp y7)) (fun z => no (lo.mpr z))) (fun n7 y20 _ n20 => absurd y20 n20) (fun n7 y20 yo _ => good (b + 1) (Or.inr (e20.mp y20)) (lo.mp yo) (if_pos (e20.mp y20))) (fun n7 y20 no => bad (Or.inr (e20.mp y20)) (fun z => no (lo.mpr z))) (fun n7 n20 => ?_)
  have hF : FrS I (mx_set I 47 10 0) := FrS.set (by omega)
  have h2 : RdC True (2, H, o, b, false, C, (ls, cur), f) (mx_set I 47 10 0) := RdC.rt' (r' := false) h
  refine ⟨_, sp_unitC (d := d) h2 ⟨by omega, by omega⟩ (ht.fr hF) hr trivial, ?_⟩
  rintro _ _ ⟨rfl, J, rfl, hF2, hJ⟩
  refine sg_X8_stepCondition_27 ⟨rfl, J, rfl, hF.trans hF2, hs (fun z => RdC (3 ≤ z.1 ∧ z.1 ≤ 7) z J) ?_⟩
  rw [if_pos ⟨fun z => n7 (e7.mpr z), fun z => n20 (e20.mpr z)⟩]; exact RdC.mono (fun _ => trivial) hJ
end S
