/-! the class's reader, a step -/
def LnC (ls : List (Int32 × Nat)) (I : mx_I) : Prop := ls.length ≤ 16 ∧ I 49 4 = nI ls.length ∧ I 51 0 = 0 ∧ ∀ i, i < ls.length → I 52 i = 1 - (ls.getD i (0, 0)).1 ∧ I 51 (i + 1) = nI (ls.getD i (0, 0)).2
def FtC (f : Nat × Nat) (I : mx_I) : Prop := (f.1 = 0 → I 47 4 = 0 ∧ I 47 5 = -1) ∧ (f.1 ≠ 0 → I 47 4 = nI f.1 ∧ I 47 5 = nI f.2)
def RdC (zp : Prop) (s : RdS) (I : mx_I) : Prop := Rp s.2.1 s.2.2.2.2.2.1 s.2.2.1 I ∧ I 47 9 = nI s.1 ∧ I 47 8 = nI s.2.2.2.1 ∧ (zp → I 47 10 = b2i s.2.2.2.2.1) ∧ LnC s.2.2.2.2.2.2.1.1 I ∧ (s.1 = 0 ∨ s.1 = 8 ∨ (s.2.2.2.2.2.2.1.1.length < 16 ∧ I 52 s.2.2.2.2.2.2.1.1.length = 1 - s.2.2.2.2.2.2.1.2)) ∧ FtC s.2.2.2.2.2.2.2 I
def FrS (I J : mx_I) : Prop := (∀ k, k ≠ 47 → (k < 49 ∨ 54 < k) → J k = I k) ∧ ∀ f, f = 3 ∨ 11 ≤ f → J 47 f = I 47 f
theorem FrS.refl {I : mx_I} : FrS I I := ⟨fun _ _ _ => rfl, fun _ _ => rfl⟩
theorem FrS.trans {I J K : mx_I} (h1 : FrS I J) (h2 : FrS J K) : FrS I K := ⟨fun k a b => (h2.1 k a b).trans (h1.1 k a b), fun f a => (h2.2 f a).trans (h1.2 f a)⟩
theorem FrR.s {I J : mx_I} (h : FrR I J) : FrS I J := ⟨fun k a b => h.1 k a (by omega) (by omega) (by omega), fun f a => h.2.1 f (by omega) (by omega)⟩
theorem FrS.set {I : mx_I} {f : Nat} {x : Int32} (h : f ≠ 3 ∧ f < 11) : FrS I (mx_set I 47 f x) := ⟨fun k a b => ms_ne a, fun g hg => ms_at (Or.inr (by omega))⟩
theorem Rp.off {H C o} {I : mx_I} {f : Nat} {x : Int32} (h : Rp H C o I) (hf : f ≠ 6 ∧ f ≠ 7) : Rp H C o (mx_set I 47 f x) := ⟨by rw [ms_at (Or.inr (by omega))]; exact h.1, by rw [ms_ne (by omega)]; exact h.2.1, by rw [ms_at (Or.inr (by omega))]; exact h.2.2.1, by rw [ms_ne (by omega)]; exact h.2.2.2.1, fun i hi => by rw [ms_ne (by omega)]; exact h.2.2.2.2 i hi⟩
theorem LnC.off {ls} {I : mx_I} {f : Nat} {x : Int32} (h : LnC ls I) : LnC ls (mx_set I 47 f x) := ⟨h.1, by rw [ms_ne (by omega)]; exact h.2.1, by rw [ms_ne (by omega)]; exact h.2.2.1, fun i hi => by rw [ms_ne (by omega), ms_ne (by omega)]; exact h.2.2.2 i hi⟩
theorem FtC.off {t : Nat × Nat} {I : mx_I} {f : Nat} {x : Int32} (h : FtC t I) (hf : f ≠ 4 ∧ f ≠ 5) : FtC t (mx_set I 47 f x) := ⟨fun z => by rw [ms_at (Or.inr (by omega)), ms_at (Or.inr (by omega))]; exact h.1 z, fun z => by rw [ms_at (Or.inr (by omega)), ms_at (Or.inr (by omega))]; exact h.2 z⟩
section S
variable {zp : Prop} {aw : Nat} {H : List Nat} {o b : Nat} {rt : Bool} {C : List Int32} {ls : List (Int32 × Nat)} {cur : Int32} {f : Nat × Nat} {I : mx_I}
theorem RdC.fr {H' C' o'} {J : mx_I} (h : RdC zp (aw, H, o, b, rt, C, (ls, cur), f) I) (hF : FrR I J) (hR : Rp H' C' o' J) : RdC zp (aw, H', o', b, rt, C', (ls, cur), f) J := by
  obtain ⟨-, h2, h3, h4, ⟨l1, l2, l3, l4⟩, h6, h7⟩ := h
  refine ⟨hR, by rw [hF.2.1 9 (by omega) (by omega)]; exact h2, by rw [hF.2.1 8 (by omega) (by omega)]; exact h3, by rw [hF.2.1 10 (by omega) (by omega)]; exact h4, ⟨l1, by rw [hF.2.2 4 (by omega)]; exact l2, by rw [hF.1 51 (by omega) (by omega) (by omega) (by omega)]; exact l3, fun i hi => by rw [hF.1 51 (by omega) (by omega) (by omega) (by omega), hF.1 52 (by omega) (by omega) (by omega) (by omega)]; exact l4 i hi⟩, ?_, ⟨fun z => by rw [hF.2.1 4 (by omega) (by omega), hF.2.1 5 (by omega) (by omega)]; exact h7.1 z, fun z => by rw [hF.2.1 4 (by omega) (by omega), hF.2.1 5 (by omega) (by omega)]; exact h7.2 z⟩⟩
  rcases h6 with z | z | z
  · exact Or.inl z
  · exact Or.inr (Or.inl z)
  · exact Or.inr (Or.inr ⟨z.1, by rw [hF.1 52 (by omega) (by omega) (by omega) (by omega)]; exact z.2⟩)
theorem RdC.goto {a' : Nat} (h : RdC zp (aw, H, o, b, rt, C, (ls, cur), f) I) (ha : a' = 0 ∨ a' = 8 ∨ (aw ≠ 0 ∧ aw ≠ 8)) : RdC zp (a', H, o, b, rt, C, (ls, cur), f) (mx_set I 47 9 (nI a')) := by
  obtain ⟨h1, h2, h3, h4, h5, h6, h7⟩ := h
  refine ⟨h1.off (by omega), by rw [ms_self, upd_eq], by rw [ms_at (Or.inr (by omega))]; exact h3, by rw [ms_at (Or.inr (by omega))]; exact h4, h5.off, ?_, h7.off (by omega)⟩
  rcases ha with z | z | z
  · exact Or.inl z
  · exact Or.inr (Or.inl z)
  · rcases h6 with w | w | w
    · exact absurd w z.1
    · exact absurd w z.2
    · exact Or.inr (Or.inr ⟨w.1, by rw [ms_ne (by omega)]; exact w.2⟩)
theorem RdC.mono {zq : Prop} {s : RdS} (hz : zq → zp) (h : RdC zp s I) : RdC zq s I := ⟨h.1, h.2.1, h.2.2.1, fun z => h.2.2.2.1 (hz z), h.2.2.2.2⟩
theorem RdC.rt' {r' : Bool} {zq : Prop} (h : RdC zq (aw, H, o, b, rt, C, (ls, cur), f) I) : RdC zp (aw, H, o, b, r', C, (ls, cur), f) (mx_set I 47 10 (b2i r')) := by
  obtain ⟨h1, h2, h3, h4, h5, h6, h7⟩ := h
  refine ⟨h1.off (by omega), by rw [ms_at (Or.inr (by omega))]; exact h2, by rw [ms_at (Or.inr (by omega))]; exact h3, fun _ => by rw [ms_self, upd_eq], h5.off, ?_, h7.off (by omega)⟩
  rcases h6 with w | w | w
  · exact Or.inl w
  · exact Or.inr (Or.inl w)
  · exact Or.inr (Or.inr ⟨w.1, by rw [ms_ne (by omega)]; exact w.2⟩)
variable {l : Launch} {c : Nat}
theorem sp_failC {d k p : Nat} (h : RdC zp (aw, H, o, b, rt, C, (ls, cur), f) I) (hp : I 47 13 = nI p) (hk : k ≠ 0) : mx_Spec l mX8_fail (d + 1) 0 0 [.ref 47, .int (nI k)] (sk0 c, I) (fun r h' => r = none ∧ ∃ J, h' = (sk0 c, J) ∧ FrS I J ∧ RdC zp (8, H, o, b, rt, C, (ls, cur), (k, p)) J) := by
  refine sn_X8_fail _ ⟨rfl, _, rfl, ((FrS.set (by omega)).trans (FrS.set (by omega))).trans (FrS.set (by omega)), ?_⟩
  obtain ⟨h1, h2, h3, h4, h5, h6, h7⟩ := h
  refine ⟨((h1.off (by omega)).off (by omega)).off (by omega), by rw [ms_self, upd_eq]; rfl, by rw [ms_at (Or.inr (by omega)), ms_at (Or.inr (by omega)), ms_at (Or.inr (by omega))]; exact h3, by rw [ms_at (Or.inr (by omega)), ms_at (Or.inr (by omega)), ms_at (Or.inr (by omega))]; exact h4, h5.off.off.off, Or.inr (Or.inl rfl), ⟨fun z => absurd z hk, fun _ => ⟨?_, ?_⟩⟩⟩
  · rw [ms_at (Or.inr (by omega)), ms_at (Or.inr (by omega)), ms_self, upd_eq]
  · rw [ms_at (Or.inr (by omega)), ms_self, upd_eq, hp]
/-- the token that was read -/
def TkC (L : LX) (I : mx_I) : Prop := L.tk ≤ 25 ∧ I 47 12 = nI L.tk ∧ I 47 13 = nI L.pl ∧ (L.tk = 1 → I 47 14 = L.vl)
theorem TkC.fr {L : LX} {J : mx_I} (h : TkC L I) (hF : FrS I J) : TkC L J := ⟨h.1, by rw [hF.2 12 (by omega)]; exact h.2.1, by rw [hF.2 13 (by omega)]; exact h.2.2.1, fun z => by rw [hF.2 14 (by omega)]; exact h.2.2.2 z⟩
theorem TkC.eq {L : LX} (h : TkC L I) {y : Nat} (hy : y ≤ 255) : I 47 12 = nI y ↔ L.tk = y := by rw [h.2.1]; exact (nI_255 (by have := h.1; omega) hy).2.2
theorem TkC.lt {L : LX} (h : TkC L I) {y : Nat} (hy : y ≤ 255) : I 47 12 < nI y ↔ L.tk < y := by rw [h.2.1]; exact (nI_255 (by have := h.1; omega) hy).1
theorem TkC.gt {L : LX} (h : TkC L I) {y : Nat} (hy : y ≤ 255) : nI y < I 47 12 ↔ y < L.tk := by rw [h.2.1]; exact (nI_255 hy (by have := h.1; omega)).1
/-- what holds of what is held -/
def c20 : List Nat → Nat
  | [] => 0
  | h :: H => (if h = 20 then 1 else 0) + c20 H
def Roomy (H : List Nat) (o : Nat) (C : List Int32) : Prop := H.length < 64 ∧ C.length + H.length < 400 ∧ (∀ x ∈ H, x ≤ 24) ∧ c7 H ≤ o ∧ o ≤ 64
theorem sp_unitC {d : Nat} {L : LX} (h : RdC zp (aw, H, o, b, rt, C, (ls, cur), f) I) (ha : aw ≠ 0 ∧ aw ≠ 8) (ht : TkC L I) (hr : Roomy H o C) (hz : zp) : mx_Spec l mX8_stepUnit (d + 2) 0 0 [.ref 47] (sk0 c, I) (fun r h' => r = none ∧ ∃ J, h' = (sk0 c, J) ∧ FrS I J ∧ RdC zp (rdUnit L (aw, H, o, b, rt, C, (ls, cur), f)) J) := by
  have e1 := ht.eq (y := 1) (by omega)
  have e8 := ht.lt (y := 8) (by omega)
  have e14 := ht.gt (y := 14) (by omega)
  have bad : ¬ L.tk = 1 → ¬ (8 ≤ L.tk ∧ L.tk ≤ 14) → mx_K1 l mX8_fail (d + 1) [.ref 47, .int 1] (sk0 c, I) (fun r h' => mx_Go l (mx_rm (d + 1 + 1) 0 0) mX8_stepUnit (mx_Z (fun r h' => r = none ∧ ∃ J, h' = (sk0 c, J) ∧ FrS I J ∧ RdC zp (rdUnit L (aw, H, o, b, rt, C, (ls, cur), f)) J) 0 0) 0 0 60 [.ref 47] (r.toList ++ []) h') := fun n1 n2 => by
    refine ⟨_, sp_failC (d := d) (k := 1) h ht.2.2.1 (by omega), ?_⟩
    rintro _ _ ⟨rfl, J, rfl, hF, hJ⟩
    refine sg_X8_stepUnit_60 ⟨rfl, J, rfl, hF, ?_⟩
    rw [rdUnit, if_neg n1, if_neg n2]; exact hJ
  have good : ∀ (x : Int32), rdUnit L (aw, H, o, b, rt, C, (ls, cur), f) = (if rt = true then 6 else 5, H, o, b, rt, C ++ [x], (ls, cur), f) → ∀ (J : mx_I), FrR I J → Rp H (C ++ [x]) o J → (J 47 10 = 0 → (none : Option Value) = none ∧ ∃ J', ((sk0 c, mx_set J 47 9 5) : mx_H) = (sk0 c, J') ∧ FrS I J' ∧ RdC zp (rdUnit L (aw, H, o, b, rt, C, (ls, cur), f)) J') ∧ (¬ J 47 10 = 0 → (none : Option Value) = none ∧ ∃ J', ((sk0 c, mx_set J 47 9 6) : mx_H) = (sk0 c, J') ∧ FrS I J' ∧ RdC zp (rdUnit L (aw, H, o, b, rt, C, (ls, cur), f)) J') := by
    intro x hx J hF hR
    have hJ : RdC zp (aw, H, o, b, rt, C ++ [x], (ls, cur), f) J := h.fr hF hR
    have j10 : J 47 10 = b2i rt := hJ.2.2.2.1 hz
    rw [hx, j10]
    refine ⟨fun z => ⟨rfl, _, rfl, hF.s.trans (FrS.set (by omega)), ?_⟩, fun z => ⟨rfl, _, rfl, hF.s.trans (FrS.set (by omega)), ?_⟩⟩
    · have : rt = false := b2i_0.mp z
      subst this
      exact RdC.goto (a' := 5) hJ (Or.inr (Or.inr ha))
    · have : rt = true := by
        cases q : rt with
        | true => rfl
        | false => exact absurd (b2i_0.mpr q) z
      subst this
      exact RdC.goto (a' := 6) hJ (Or.inr (Or.inr ha))
  refine sn_X8_stepUnit (fun n1 n2 => bad (fun z => n1 (e1.mpr z)) (fun z => by have := e8.mp n2; omega)) (fun n1 _ n3 => bad (fun z => n1 (e1.mpr z)) (fun z => by have := e14.mp n3; omega)) (fun n1 n2 n3 => ?_) (fun y1 => ?_)
  · have m1 : ¬ L.tk = 1 := fun z => n1 (e1.mpr z)
    have m2 : 8 ≤ L.tk ∧ L.tk ≤ 14 := ⟨by have : ¬ L.tk < 8 := fun z => n2 (e8.mpr z); omega, by have : ¬ 14 < L.tk := fun z => n3 (e14.mpr z); omega⟩
    rw [ht.2.1]
    have hp : Rp H C o I := h.1
    refine ⟨_, sp_put (d := d) hp (by have := hr.2.1; omega), ?_⟩
    rintro _ _ ⟨rfl, J, rfl, hF, hR⟩
    obtain ⟨g1, g2⟩ := good _ (by rw [rdUnit, if_neg m1, if_pos m2]) J hF hR
    exact sg_X8_stepUnit_52 g1 g2
  · have m1 : L.tk = 1 := e1.mp y1
    rw [ht.2.2.2 m1]
    have hp : Rp H C o I := h.1
    refine ⟨_, sp_put (d := d) hp (by have := hr.2.1; omega), ?_⟩
    rintro _ _ ⟨rfl, J, rfl, hF, hR⟩
    obtain ⟨g1, g2⟩ := good _ (by rw [rdUnit, if_pos m1]) J hF hR
    exact sg_X8_stepUnit_19 g1 g2
theorem rel_len (r : Nat) : ∀ (H : List Nat) (C : List Int32) (o : Nat), (rel r H C o).1.length ≤ H.length ∧ (rel r H C o).2.1.length + (rel r H C o).1.length = C.length + H.length
  | [], C, o => ⟨Nat.le_refl _, rfl⟩
  | x :: H, C, o => by
    by_cases q : r ≤ rnk x
    · rw [rel_yes q]
      obtain ⟨a1, a2⟩ := rel_len r H (C ++ [-(nI x)]) (if x = 7 then o - 1 else o)
      rw [List.length_append] at a2
      have a2' : (rel r H (C ++ [-(nI x)]) (if x = 7 then o - 1 else o)).2.1.length + (rel r H (C ++ [-(nI x)]) (if x = 7 then o - 1 else o)).1.length = C.length + 1 + H.length := a2
      exact ⟨by show _ ≤ H.length + 1; omega, by show _ = C.length + (H.length + 1); omega⟩
    · rw [rel_no (by omega)]; exact ⟨Nat.le_refl _, rfl⟩
theorem sp_joinC {d : Nat} {L : LX} (h : RdC zp (aw, H, o, b, rt, C, (ls, cur), f) I) (ht : TkC L I) (hr : Roomy H o C) : mx_Spec l mX8_join (d + 3) 0 0 [.ref 47] (sk0 c, I) (fun r h' => r = none ∧ ∃ J, h' = (sk0 c, J) ∧ FrS I J ∧ RdC zp (aw, L.tk :: (rel (rnk L.tk) H C o).1, (rel (rnk L.tk) H C o).2.2, b, rt, (rel (rnk L.tk) H C o).2.1, (ls, cur), f) J) := by
  obtain ⟨r1, r2, r3, r4, r5⟩ := hr
  have hp : Rp H C o I := h.1
  refine sn_X8_join ?_
  rw [ht.2.1]
  refine ⟨_, sp_rank (d := d + 1) (by have := ht.1; omega), ?_⟩
  rintro _ _ ⟨rfl, rfl⟩
  refine sg_X8_join_8 _ ⟨_, sp_release (d := d) (rnk_le _) H hp (by omega) (by omega) r3 r4 r5, ?_⟩
  rintro _ _ ⟨rfl, J, rfl, hF, hR⟩
  refine sg_X8_join_11 ?_
  rw [(ht.fr hF.s).2.1]
  have hl := (rel_len (rnk L.tk) H C o).1
  refine ⟨_, sp_hold (d := d + 1) hR (by omega), ?_⟩
  rintro _ _ ⟨rfl, K, rfl, hF2, hR2⟩
  exact sg_X8_join_19 ⟨rfl, K, rfl, hF.s.trans hF2.s, (h.fr hF hR).fr hF2 hR2⟩
end S
