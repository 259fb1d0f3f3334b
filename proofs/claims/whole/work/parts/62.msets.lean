/-! the model: a load comes, is written, loads are set down -/
section M
variable {l : Launch} {c : Nat} {P : Pm} {I0 : mx_I}
set_option maxHeartbeats 1000000 in
theorem sp_mcomes {d : Nat} {A : HS} {I : mx_I} {x e t : Nat} (hP : P.nl ≤ 30 ∧ P.nc ≤ 20) (h : MR P A I0 I) (hx : x < P.nl) :
    mx_Spec l mX12_comes (d + 2) 0 0 [.ref 120, .int (nI x), .int (nI e), .int (nI t)] (sk0 c, I) (fun r h' => r = none ∧ ∃ I', h' = (sk0 c, I') ∧ MR P (hs_comes P x e t A) I0 I' ∧ I' 130 = I 130 ∧ I' 120 30 = I 120 30) := by
  refine sn_X12_comes _ _ _ ⟨_, sp_loads 5 rfl (by omega) (by omega), ?_⟩
  rintro _ _ ⟨rfl, rfl⟩
  refine sg_X12_comes_7 _ _ _ ⟨_, sp_loads 6 rfl (by omega) (by omega), ?_⟩
  rintro _ _ ⟨rfl, rfl⟩
  have h1 := h.setL hP (j := 1) (l := x) (x := nI e) hx (by omega)
  have h2 := h1.setL hP (j := 2) (l := x) (x := nI t) hx (by omega)
  rw [show 20 + 10 * x + 5 = 24 + 10 * x + 1 from by omega, show 20 + 10 * x + 6 = 24 + 10 * x + 2 from by omega]
  have k130 : (mx_set (mx_set I 121 (24 + 10 * x + 1) (nI e)) 121 (24 + 10 * x + 2) (nI t)) 130 = I 130 := by rw [ms_ne (by omega), ms_ne (by omega)]
  have k120 : (mx_set (mx_set I 121 (24 + 10 * x + 1) (nI e)) 121 (24 + 10 * x + 2) (nI t)) 120 = I 120 := by rw [ms_ne (by omega), ms_ne (by omega)]
  generalize mx_set (mx_set I 121 (24 + 10 * x + 1) (nI e)) 121 (24 + 10 * x + 2) (nI t) = J at h2 k130 k120 ⊢
  refine sg_X12_comes_15 _ _ _ ?_
  rw [h2.2.1.2.2.1.2.2.1]
  refine ⟨_, sp_loads 9 rfl (by omega) (by omega), ?_⟩
  rintro _ _ ⟨rfl, rfl⟩
  have h3 := h2.setL hP (j := 5) (l := x) (x := nI A.st) hx (by omega)
  rw [show 20 + 10 * x + 9 = 24 + 10 * x + 5 from by omega]
  have e10 : mx_set J 121 (24 + 10 * x + 5) (nI ((A.set 1 x (nI e)).set 2 x (nI t)).st) 121 10 = nI A.st := by
    rw [ms_self, upd_ne (by omega)]; exact h2.2.1.2.2.1.2.2.1
  have h4 := (h3.stamp hP (A.st + 1)).hp (fun y => if y = e then A.hp e ++ [x] else A.hp y)
  have S := @sg_X12_comes_29 l (d + 1) (fun r h' => r = none ∧ ∃ I', h' = (sk0 c, I') ∧ MR P (hs_comes P x e t A) I0 I' ∧ I' 130 = I 130 ∧ I' 120 30 = I 120 30) c (mx_set J 121 (24 + 10 * x + 5) (nI ((A.set 1 x (nI e)).set 2 x (nI t)).st)) (nI x) (nI e) (nI t)
  rw [e10, nI_1, ms_ne (show (120 : Nat) ≠ 121 by omega), k120] at S
  have m130 : (mx_set (mx_set J 121 (24 + 10 * x + 5) (nI ((A.set 1 x (nI e)).set 2 x (nI t)).st)) 121 10 (nI (A.st + 1))) 130 = I 130 := by rw [ms_ne (by omega), ms_ne (by omega)]; exact k130
  have m120 : (mx_set (mx_set J 121 (24 + 10 * x + 5) (nI ((A.set 1 x (nI e)).set 2 x (nI t)).st)) 121 10 (nI (A.st + 1))) 120 = I 120 := by rw [ms_ne (by omega), ms_ne (by omega)]; exact k120
  obtain ⟨-, f22, f23, -⟩ := h.2.2.1
  have none_ : ¬ (nI x = P.R 65 11 ∧ nI e = P.R 65 12 ∧ A.r 65 13 = -1) → ∃ I', ((sk0 c, mx_set (mx_set J 121 (24 + 10 * x + 5) (nI ((A.set 1 x (nI e)).set 2 x (nI t)).st)) 121 10 (nI (A.st + 1))) : mx_H) = (sk0 c, I') ∧ MR P (hs_comes P x e t A) I0 I' ∧ I' 130 = I 130 ∧ I' 120 30 = I 120 30 := fun z => by
    refine ⟨_, rfl, ?_, m130, by rw [m120]⟩
    rw [hs_comes_eq, if_neg z]
    exact h4
  have hne : nI x = P.R 65 11 → ¬ P.R 65 11 = -1 := fun z w => nI_n1 (e := x) (by omega) (z.trans w)
  refine S (fun g => ⟨rfl, none_ (fun z => g (z.1.trans f22.symm))⟩) (fun g1 g2 => ⟨rfl, none_ (fun z => g2 ?_)⟩) (fun g1 g2 g3 => ⟨rfl, none_ (fun z => g3 ?_)⟩) (fun g1 g2 g3 => ⟨rfl, _, rfl, ?_, by rw [ms_ne (by omega)]; exact m130, by rw [ms_self, upd_ne (by omega), m120]⟩)
  · exact z.2.1.trans ((f23.resolve_left (hne z.1)).1).symm
  · exact ((f23.resolve_left (hne z.1)).2).trans z.2.2
  · have g1' : nI x = P.R 65 11 := g1.trans f22
    obtain ⟨w1, w2⟩ := f23.resolve_left (hne g1')
    rw [hs_comes_eq, if_pos ⟨g1', g2.trans w1, w2.symm.trans g3⟩]
    exact h4.met (nI t)
set_option maxHeartbeats 1000000 in
theorem sp_mwrites {d : Nat} {A : HS} {I : mx_I} {x i t : Nat} {a2 : Int32} {w : Bool} (hP : P.nl ≤ 30 ∧ P.nc ≤ 20) (h : MR P A I0 I) (hw : w = true → P.wr = true ∧ a2 = nI i ∧ i < 20) (hw2 : w = false → P.wr = false ∨ a2 = -1) :
    mx_Spec l mX12_writes (d + 1) 0 0 [.ref 120, .int (nI x), .int a2, .int (nI t)] (sk0 c, I) (fun r h' => r = none ∧ ∃ I', h' = (sk0 c, I') ∧ MR P (if w = true then hs_write x i t A else A) I0 I' ∧ I' 130 = I 130 ∧ I' 120 30 = I 120 30) := by
  obtain ⟨⟨f21, -⟩, -⟩ := h.2.2.1
  have s6 : I 121 6 = nI A.nk := h.2.1.2.2.1.2.2.2
  have hnk := h.2.1.2.2.2.1
  cases w with
  | false =>
    have skip : ∀ (h0 : I 120 21 = 0) (h1 : ¬ a2 = -1), False := fun h0 h1 => by
      rcases hw2 rfl with z | z
      · rw [f21, z] at h0; exact absurd h0 (by decide)
      · exact h1 z
    refine sn_X12_writes _ _ _ (fun _ => ⟨rfl, I, rfl, h, rfl, rfl⟩) (fun _ _ => ⟨rfl, I, rfl, h, rfl, rfl⟩) (fun z1 z2 => (skip z1 z2).elim) (fun z1 z2 => (skip z1 z2).elim) (fun z1 z2 => (skip z1 z2).elim) (fun z1 z2 => (skip z1 z2).elim) (fun z1 z2 => (skip z1 z2).elim)
  | true =>
    obtain ⟨w1, w2, w3⟩ := hw rfl
    have e0 : I 120 21 = 0 := by rw [f21, w1]; rfl
    have e2 : ¬ a2 = -1 := by rw [w2]; exact nI_n1 (by omega)
    have S := fun Q => @sn_X12_writes l d Q c I (nI x) a2 (nI t)
    have ix : (600 + (3 * nI A.nk) : Int32) = nI (600 + 3 * A.nk) := by rw [show (600 : Int32) = nI 600 from rfl, show (3 : Int32) = nI 3 from rfl, pk_mul, nI_add]
    have ix1 : (nI (600 + 3 * A.nk) + 1 : Int32) = nI (600 + 3 * A.nk + 1) := nI_1 _
    have ix2 : (nI (600 + 3 * A.nk) + 2 : Int32) = nI (600 + 3 * A.nk + 2) := nI_add _ 2
    rw [s6, ix, ix1, ix2] at S
    have e300 : nI A.nk = 300 ↔ A.nk = 300 := by rw [show (300 : Int32) = nI 300 from rfl, nI_eq (by omega) (by omega)]
    refine S _ (fun z => absurd e0 z) (fun _ z => absurd z e2) (fun _ _ z => i_vp ?_ (by omega)) (fun _ _ z => i_vp ?_ (by omega)) (fun _ _ z => i_vp ?_ (by omega)) (fun _ _ z => ?_) (fun _ _ z => ⟨rfl, I, rfl, ?_, rfl, rfl⟩)
    · rw [e300] at z; omega
    · rw [e300] at z; omega
    · rw [e300] at z; omega
    · have z' : A.nk < 300 := by rw [e300] at z; omega
      rw [nI_clamp (by omega), nI_clamp (by omega), nI_clamp (by omega)]
      have e6 : (mx_set (mx_set (mx_set I 121 (600 + 3 * A.nk) (nI x)) 121 (600 + 3 * A.nk + 1) a2) 121 (600 + 3 * A.nk + 2) (nI t)) 121 6 = nI A.nk := by
        rw [ms_self, upd_ne (by omega), ms_self, upd_ne (by omega), ms_self, upd_ne (by omega)]; exact s6
      rw [e6, nI_1, w2]
      refine ⟨rfl, _, rfl, ?_, by rw [ms_ne (by omega), ms_ne (by omega), ms_ne (by omega), ms_ne (by omega)], by rw [ms_ne (by omega), ms_ne (by omega), ms_ne (by omega), ms_ne (by omega)]⟩
      exact h.write hP w1 z' x i t
    · have z' : ¬ A.nk < 300 := by rw [e300] at z; omega
      have : hs_write x i t A = A := by unfold hs_write; rw [if_neg z']
      rw [if_pos rfl, this]
      exact h
set_option maxHeartbeats 1000000 in
theorem sd_loop {d : Nat} {Q : Option Value → mx_H → Prop} {ls : List Nat} {to t i0 : Nat} {a2 : Int32} {w : Bool} (hP : P.nl ≤ 30 ∧ P.nc ≤ 20) (hlen : ls.length ≤ 30) (hls : ∀ x ∈ ls, x < P.nl) (hw : w = true → P.wr = true ∧ a2 = nI i0 ∧ i0 < 20) (hw2 : w = false → P.wr = false ∨ a2 = -1) :
    ∀ (m i : Nat) (A : HS) (I : mx_I), i + m = ls.length → MR P A I0 I → Taken I ls →
    (∀ I', MR P (HS.set (hs_ones P w to t i0 (ls.drop i) A) 65 15 ((hs_ones P w to t i0 (ls.drop i) A).r 65 15 + nI ls.length)) I0 I' → Q none (sk0 c, I')) →
    mx_Go l (mx_rm (d + 3) 0 0) mX12_setsDown (mx_Z Q 0 0) 0 0 3 [.ref 120, .int a2, .int (nI to), .int (nI t), .int (nI i), .retAddr 0] [] (sk0 c, I) := by
  intro m
  induction m with
  | zero =>
    intro i A I hi h ht hQ
    have e1 : I 120 30 ≤ nI i := by rw [ht.1, nI_leI (by omega) (by omega)]; omega
    rw [List.drop_eq_nil_of_le (by omega), hs_ones_nil] at hQ
    refine sg_X12_setsDown_3 _ _ _ _ (fun _ => hQ _ ?_) (fun z => absurd e1 z) (fun z => absurd e1 z)
    rw [ht.1]
    exact h.bore _
  | succ m ih =>
    intro i A I hi h ht hQ
    have hlt : i < ls.length := by omega
    have hmem : ls.getD i 0 ∈ ls := lw_mem hlt 0
    have hx := hls _ hmem
    rw [lw_getD hlt 0] at hQ
    have hv := ht.2 i hlt
    have e1 : ¬ I 120 30 ≤ nI i := fun z => by rw [ht.1, nI_leI (by omega) (by omega)] at z; omega
    generalize ls.getD i 0 = x at hx hQ hv
    have S := @sg_X12_setsDown_3 l (d + 2) Q c I a2 (nI to) (nI t) (nI i)
    rw [nI_clamp (n := i) (by omega), hv] at S
    refine S (fun z => absurd z e1) (fun _ => i_vp (by omega) (by omega)) (fun _ => ⟨_, sp_ofLoad 7 rfl (by omega) (by omega), ?_⟩)
    rintro _ _ ⟨rfl, rfl⟩
    rw [show 20 + 10 * x + 7 = 24 + 10 * x + 3 from by omega, h.at hx (by omega) (by omega)]
    refine sg_X12_setsDown_34 _ _ _ _ _ _ _ _ ⟨_, sp_loads 7 rfl (by omega) (by omega), ?_⟩
    rintro _ _ ⟨rfl, rfl⟩
    rw [show 20 + 10 * x + 7 = 24 + 10 * x + 3 from by omega]
    have h1 := h.setL hP (j := 3) (l := x) (x := A.r 3 x + 1) hx (by omega)
    have t130 : (mx_set I 121 (24 + 10 * x + 3) (A.r 3 x + 1)) 130 = I 130 := ms_ne (by omega)
    have t120 : (mx_set I 121 (24 + 10 * x + 3) (A.r 3 x + 1)) 120 = I 120 := ms_ne (by omega)
    generalize mx_set I 121 (24 + 10 * x + 3) (A.r 3 x + 1) = J at h1 t130 t120 ⊢
    refine sg_X12_setsDown_39 _ _ _ _ _ ⟨_, sp_mcomes (d := d) hP h1 hx, ?_⟩
    rintro _ _ ⟨rfl, J2, rfl, h2, u130, u120⟩
    refine sg_X12_setsDown_47 _ _ _ _ _ ⟨_, sp_mwrites (d := d + 1) (i := i0) (w := w) hP h2 hw hw2, ?_⟩
    rintro _ _ ⟨rfl, J3, rfl, h3, v130, v120⟩
    refine sg_X12_setsDown_55 _ _ _ _ _ ?_
    rw [nI_1]
    refine mx_fg (L' := [.ref 120, .int a2, .int (nI to), .int (nI t), .int (nI (i + 1)), .retAddr 0]) (by simp [mx_le]) ?_
    refine ih (i + 1) _ J3 (by omega) h3 ⟨by rw [v120, u120, t120]; exact ht.1, fun j hj => by rw [v130, u130, t130]; exact ht.2 j hj⟩ (fun I' h' => hQ I' ?_)
    exact h'
theorem sp_setsDown {d : Nat} {A : HS} {I : mx_I} {ls : List Nat} {fr to t i0 : Nat} {a2 : Int32} {w : Bool} (hP : P.nl ≤ 30 ∧ P.nc ≤ 20) (hlen : ls.length ≤ 30) (hls : ∀ x ∈ ls, x < P.nl) (hw : w = true → P.wr = true ∧ a2 = nI i0 ∧ i0 < 20) (hw2 : w = false → P.wr = false ∨ a2 = -1) (h : MR P A I0 I) (ht : Taken I ls) :
    mx_Spec l mX12_setsDown (d + 3) 0 0 [.ref 120, .int a2, .int (nI to), .int (nI t)] (sk0 c, I) (fun r h' => r = none ∧ ∃ I', h' = (sk0 c, I') ∧ MR P (hs_carry P w fr to t i0 ls A) I0 I') := by
  refine sn_X12_setsDown _ _ _ ?_
  refine sd_loop (d := d) (ls := ls) (w := w) (i0 := i0) hP hlen hls hw hw2 ls.length 0 (hs_drop fr ls A) I (by omega) (h.hp _) ht (fun I' h' => ⟨rfl, I', rfl, ?_⟩)
  rw [List.drop_zero] at h'
  exact h'
end M
