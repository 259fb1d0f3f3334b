/-! the class's reader: a line begins -/
/-- what is sure at rest and ahead of a line -/
def RdZ (s : RdS) (I : mx_I) : Prop := I 47 9 = nI s.1 ∧ (I 49 5 = nI s.2.2.2.2.2.1.length ∧ ∀ i, i < s.2.2.2.2.2.1.length → I 50 i = s.2.2.2.2.2.1.getD i 0) ∧ LnC s.2.2.2.2.2.2.1.1 I ∧ FtC s.2.2.2.2.2.2.2 I
def RdW (s : RdS) (I : mx_I) : Prop := RdZ s I ∧ (1 ≤ s.1 → s.1 ≤ 7 → RdC (3 ≤ s.1 ∧ s.1 ≤ 7) s I)
theorem RdC.z {zp : Prop} {s : RdS} {I : mx_I} (h : RdC zp s I) : RdZ s I := ⟨h.2.1, ⟨h.1.2.2.2.1, h.1.2.2.2.2⟩, h.2.2.2.2.1, h.2.2.2.2.2.2⟩
theorem RdC.w {zp : Prop} {s : RdS} {I : mx_I} (h : RdC zp s I) (hz : 3 ≤ s.1 → s.1 ≤ 7 → zp) : RdW s I := ⟨h.z, fun _ _ => h.mono (fun z => hz z.1 z.2)⟩
section S
variable {H : List Nat} {o b : Nat} {rt : Bool} {C : List Int32} {ls : List (Int32 × Nat)} {cur : Int32} {f : Nat × Nat} {I : mx_I} {l : Launch} {c : Nat}
theorem RdZ.begin {w x : Int32} (h : RdZ (0, H, o, b, rt, C, (ls, cur), f) I) (hl : ls.length < 16) (hx : x = 1 - w) : RdC False (1, [], 0, 0, rt, C, (ls, w), f) (mx_set (mx_set (mx_set (mx_set (mx_set I 52 ls.length x) 47 6 0) 47 7 0) 47 8 0) 47 9 1) := by
  obtain ⟨h2, ⟨p4, p5⟩, ⟨l1, l2, l3, l4⟩, h7⟩ := h
  refine ⟨⟨?_, trivial, ?_, ?_, fun i hi => ?_⟩, ?_, ?_, fun z => z.elim, ⟨l1, ?_, ?_, fun i hi => ?_⟩, Or.inr (Or.inr ⟨hl, ?_⟩), ?_⟩
  · rw [ms_at (Or.inr (by omega)), ms_at (Or.inr (by omega)), ms_at (Or.inr (by omega)), ms_self, upd_eq]; rfl
  · rw [ms_at (Or.inr (by omega)), ms_at (Or.inr (by omega)), ms_self, upd_eq]; rfl
  · rw [ms_ne (by omega), ms_ne (by omega), ms_ne (by omega), ms_ne (by omega), ms_ne (by omega)]; exact p4
  · rw [ms_ne (by omega), ms_ne (by omega), ms_ne (by omega), ms_ne (by omega), ms_ne (by omega)]; exact p5 i hi
  · rw [ms_self, upd_eq]; rfl
  · rw [ms_at (Or.inr (by omega)), ms_self, upd_eq]; rfl
  · rw [ms_ne (by omega), ms_ne (by omega), ms_ne (by omega), ms_ne (by omega), ms_ne (by omega)]; exact l2
  · rw [ms_ne (by omega), ms_ne (by omega), ms_ne (by omega), ms_ne (by omega), ms_ne (by omega)]; exact l3
  · have hi' : i < ls.length := hi
    have e52 : mx_set (mx_set (mx_set (mx_set (mx_set I 52 ls.length x) 47 6 0) 47 7 0) 47 8 0) 47 9 1 52 i = I 52 i := by
      rw [ms_ne (by omega), ms_ne (by omega), ms_ne (by omega), ms_ne (by omega), ms_at (Or.inr (by omega))]
    have e51 : mx_set (mx_set (mx_set (mx_set (mx_set I 52 ls.length x) 47 6 0) 47 7 0) 47 8 0) 47 9 1 51 (i + 1) = I 51 (i + 1) := by
      rw [ms_ne (by omega), ms_ne (by omega), ms_ne (by omega), ms_ne (by omega), ms_ne (by omega)]
    rw [e52, e51]; exact l4 i hi
  · show mx_set (mx_set (mx_set (mx_set (mx_set I 52 ls.length x) 47 6 0) 47 7 0) 47 8 0) 47 9 1 52 ls.length = 1 - w
    rw [ms_ne (by omega), ms_ne (by omega), ms_ne (by omega), ms_ne (by omega), ms_self, upd_eq]; exact hx
  · have hf : FtC f (mx_set I 52 ls.length x) := ⟨fun z => by rw [ms_ne (by omega)]; exact h7.1 z, fun z => by rw [ms_ne (by omega)]; exact h7.2 z⟩
    exact (((hf.off (by omega)).off (by omega)).off (by omega)).off (by omega)
theorem sp_failZ {d k p aw : Nat} (h : RdZ (aw, H, o, b, rt, C, (ls, cur), f) I) (hp : I 47 13 = nI p) (hk : k ≠ 0) : mx_Spec l mX8_fail (d + 1) 0 0 [.ref 47, .int (nI k)] (sk0 c, I) (fun r h' => r = none ∧ ∃ J, h' = (sk0 c, J) ∧ FrS I J ∧ RdZ (8, H, o, b, rt, C, (ls, cur), (k, p)) J) := by
  refine sn_X8_fail _ ⟨rfl, _, rfl, ((FrS.set (by omega)).trans (FrS.set (by omega))).trans (FrS.set (by omega)), ?_⟩
  obtain ⟨h2, ⟨p4, p5⟩, h5, h7⟩ := h
  refine ⟨by rw [ms_self, upd_eq]; rfl, ⟨?_, fun i hi => ?_⟩, h5.off.off.off, ⟨fun z => absurd z hk, fun _ => ⟨?_, ?_⟩⟩⟩
  · rw [ms_ne (by omega), ms_ne (by omega), ms_ne (by omega)]; exact p4
  · rw [ms_ne (by omega), ms_ne (by omega), ms_ne (by omega)]; exact p5 i hi
  · rw [ms_at (Or.inr (by omega)), ms_at (Or.inr (by omega)), ms_self, upd_eq]
  · rw [ms_at (Or.inr (by omega)), ms_self, upd_eq, hp]
theorem sp_lineC {d : Nat} {L : LX} (h : RdZ (0, H, o, b, rt, C, (ls, cur), f) I) (ht : TkC L I) : mx_Spec l mX8_stepLine (d + 2) 0 0 [.ref 47] (sk0 c, I) (fun r h' => r = none ∧ ∃ J, h' = (sk0 c, J) ∧ FrS I J ∧ RdW (rdStep L (0, H, o, b, rt, C, (ls, cur), f)) J) := by
  have e0 := ht.eq (y := 0) (by omega)
  have e2 := ht.eq (y := 2) (by omega)
  have e3 := ht.eq (y := 3) (by omega)
  have hl4 : I 49 4 = nI ls.length := h.2.2.1.2.1
  have l16 : ls.length ≤ 16 := h.2.2.1.1
  have lt16 : I 49 4 < 16 ↔ ls.length < 16 := by rw [hl4, show (16 : Int32) = nI 16 from rfl, nI_ltI (by omega) (by omega)]
  have hs : ∀ (P : RdS → Prop), P (if L.tk = 0 then (8, H, o, b, rt, C, (ls, cur), f) else if L.tk ≠ 2 ∧ L.tk ≠ 3 then rdFail 1 L.pl (0, H, o, b, rt, C, (ls, cur), f) else if 16 ≤ ls.length then rdFail 3 L.pl (0, H, o, b, rt, C, (ls, cur), f) else (1, [], 0, 0, rt, C, (ls, if L.tk = 2 then 0 else 1), f)) → P (rdStep L (0, H, o, b, rt, C, (ls, cur), f)) := fun P hP => by
    rw [rdStep, if_pos rfl]; exact hP
  have line : ∀ (a w : Int32), ¬ L.tk = 0 → ¬ (L.tk ≠ 2 ∧ L.tk ≠ 3) → (if L.tk = 2 then 0 else 1) = w → a = 0 ∨ a = 1 → a = 1 - w → mx_K1 l mX3_beginLine (d + 1) [.ref 49, .int a] (sk0 c, I) (fun r h' => mx_Go l (mx_rm (d + 1 + 1) 0 0) mX8_stepLine (mx_Z (fun r h' => r = none ∧ ∃ J, h' = (sk0 c, J) ∧ FrS I J ∧ RdW (rdStep L (0, H, o, b, rt, C, (ls, cur), f)) J) 0 0) 0 0 60 [.ref 47] (r.toList ++ []) h') := by
    intro a w n0 n23 hw ha01 ha
    refine ⟨fun r h' => (ls.length < 16 ∧ r = some (.int 1) ∧ h' = (sk0 c, mx_set I 52 ls.length a)) ∨ (¬ ls.length < 16 ∧ r = some (.int 0) ∧ h' = (sk0 c, I)), ?_, ?_⟩
    · have S := fun Q => @sn_X3_beginLine l d Q c I a
      rw [hl4, nI_clamp (n := ls.length) (by omega)] at S
      rw [hl4] at lt16
      refine S _ (fun z _ => i_vp (lt16.mp z) (by omega)) (fun z a0 => Or.inl ⟨lt16.mp z, rfl, by rw [a0]⟩) (fun z _ => i_vp (lt16.mp z) (by omega)) (fun z a0 => Or.inl ⟨lt16.mp z, rfl, by rw [ha01.resolve_left a0]⟩) (fun z => Or.inr ⟨fun q => z (lt16.mpr q), rfl, rfl⟩)
    · rintro r h' (⟨z, rfl, rfl⟩ | ⟨z, rfl, rfl⟩)
      · have f52 : FrS I (mx_set I 52 ls.length a) := ⟨fun k k1 k2 => ms_ne (by omega), fun g _ => by rw [ms_ne (by omega)]⟩
        refine sg_X8_stepLine_60 _ (fun _ => ⟨rfl, _, rfl, (((f52.trans (FrS.set (by omega))).trans (FrS.set (by omega))).trans (FrS.set (by omega))).trans (FrS.set (by omega)), hs (fun s => RdW s _) ?_⟩) (fun z => absurd z (by decide))
        rw [if_neg n0, if_neg n23, if_neg (by omega), hw]
        exact (RdZ.begin h z ha).w (fun q _ => absurd q (by show ¬ 3 ≤ 1; omega))
      · refine sg_X8_stepLine_60 _ (fun z => absurd rfl z) (fun _ => ⟨_, sp_failZ (d := d) (k := 3) h ht.2.2.1 (by omega), ?_⟩)
        rintro _ _ ⟨rfl, J, rfl, hF, hJ⟩
        refine sg_X8_stepLine_68 ⟨rfl, J, rfl, hF, hs (fun s => RdW s J) ?_⟩
        rw [if_neg n0, if_neg n23, if_pos (by omega)]; exact ⟨hJ, fun _ q => absurd q (by show ¬ 8 ≤ 7; omega)⟩
  refine sn_X8_stepLine (fun n0 y2 n2 => absurd y2 n2) (fun n0 y2 _ => line 1 0 (fun z => n0 (e0.mpr z)) (fun z => z.1 (e2.mp y2)) (if_pos (e2.mp y2)) (Or.inr rfl) (by decide)) (fun n0 n2 y3 _ => line 0 1 (fun z => n0 (e0.mpr z)) (fun z => z.2 (e3.mp y3)) (if_neg (fun z => n2 (e2.mpr z))) (Or.inl rfl) (by decide)) (fun n0 n2 y3 y2 => absurd y2 n2) (fun n0 n2 n3 => ⟨_, sp_failZ (d := d) (k := 1) h ht.2.2.1 (by omega), ?_⟩) (fun y0 => ⟨rfl, _, rfl, FrS.set (by omega), hs (fun s => RdW s _) ?_⟩)
  · rintro _ _ ⟨rfl, J, rfl, hF, hJ⟩
    refine sg_X8_stepLine_37 ⟨rfl, J, rfl, hF, hs (fun s => RdW s J) ?_⟩
    rw [if_neg (fun z => n0 (e0.mpr z)), if_pos ⟨fun z => n2 (e2.mpr z), fun z => n3 (e3.mpr z)⟩]; exact ⟨hJ, fun _ q => absurd q (by show ¬ 8 ≤ 7; omega)⟩
  · rw [if_pos (e0.mp y0)]
    obtain ⟨h2, ⟨p4, p5⟩, h5, h7⟩ := h
    refine ⟨⟨by rw [ms_self, upd_eq]; rfl, ⟨?_, fun i hi => ?_⟩, h5.off, h7.off (by omega)⟩, fun _ q => absurd q (by show ¬ 8 ≤ 7; omega)⟩
    · rw [ms_ne (by omega)]; exact p4
    · rw [ms_ne (by omega)]; exact p5 i hi
end S
