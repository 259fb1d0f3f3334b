/-! image -/
def CopyT (I J : mx_I) (t u : Nat) : Prop := (J u 5 = I t 5 ∧ J u 6 = I t 6 ∧ J u 7 = I t 7 ∧ J (u + 1) 5 = I (t + 1) 5 ∧ J (u + 7) 9 = I (t + 7) 9 ∧ J (u + 17) 5 = I (t + 17) 5 ∧ J (u + 23) 3 = I (t + 23) 3 ∧ J (u + 27) 4 = I (t + 27) 4 ∧ J (u + 27) 5 = I (t + 27) 5) ∧ (∀ j, 2 ≤ j → j ≤ 6 → ∀ i, i < 30 → J (u + j) i = I (t + j) i) ∧ (∀ j, 8 ≤ j → j ≤ 16 → ∀ i, i < 20 → J (u + j) i = I (t + j) i) ∧ (∀ j, 18 ≤ j → j ≤ 22 → ∀ i, i < 8 → J (u + j) i = I (t + j) i) ∧ (∀ j, 24 ≤ j → j ≤ 26 → ∀ i, i < 20 → J (u + j) i = I (t + j) i) ∧ (∀ i, i < 400 → J (u + 28) i = I (t + 28) i) ∧ (∀ i, i < 17 → J (u + 29) i = I (t + 29) i) ∧ (∀ i, i < 16 → J (u + 30) i = I (t + 30) i)
def CopyS (I J : mx_I) (s u : Nat) : Prop := (J u 9 = I s 9 ∧ J u 10 = I s 10) ∧ (∀ j, 1 ≤ j → j ≤ 4 → ∀ i, i < 30 → J (u + j) i = I (s + j) i) ∧ (∀ i, i < 120 → J (u + 5) i = I (s + 5) i) ∧ (∀ i, i < 4 → J (u + 6) i = I (s + 6) i) ∧ (∀ j, 7 ≤ j → j ≤ 9 → ∀ i, i < 20 → J (u + j) i = I (s + j) i)
def CopyB (I J : mx_I) (b u : Nat) : Prop := J u 3 = I b 3 ∧ ∀ j, 1 ≤ j → j ≤ 3 → ∀ i, i < 300 → J (u + j) i = I (b + j) i
set_option maxHeartbeats 2000000 in
theorem Rel.move {I J : mx_I} {t s b t' s' b' : Nat} {w w' : Nat → Int32} (h : Rel I t s b w) (hT : CopyT I J t t') (hS : CopyS I J s s') (hB : CopyB I J b b') (hw : ∀ k, k < 2490 → w' k = w k) : Rel J t' s' b' w' := by
  obtain ⟨nb, now, nl, nc, no, ni, nk, hp, ⟨⟨s1, s2, s3, s4, s5, s6, s7, s8⟩, ⟨c1, c2, c3, c4, c5, c6, c7⟩, ⟨d1, d2, d3, d4, d5, d6, d7⟩, ⟨e1, e2, e3⟩, f1, f2⟩, ⟨r1, r2, r3, r4, r5, r6, r7, r8, r9⟩, ⟨v1, v2, v3, v4, v5, v6, v7, v8⟩, ⟨p1, p2, p3, p4, p5, p6, p7⟩, ps, lk, l4, l6, l5, ⟨lc1, lc2, lc3⟩, lm1, lm2⟩ := h
  obtain ⟨⟨t1, t2, t3, t4, t5, t6, t7, t8, t9⟩, tL, tC, tO, tI, tk, tst, tt⟩ := hT
  obtain ⟨⟨u1, u2⟩, uL, u5, u6, uC⟩ := hS
  obtain ⟨b1, b2⟩ := hB
  have hla : (lw_all ps).length ≤ 400 := Nat.le_trans (lw_all_code ps) lk.2.1
  have hlp : ps.length ≤ 16 := lk.1
  refine ⟨nb, now, nl, nc, no, ni, nk, hp, ⟨⟨s1, s2, s3, s4, s5, s6, s7, s8⟩, ⟨t1.trans c1, u1.trans c2, t4.trans c3, t5.trans c4, t6.trans c5, t7.trans c6, b1.trans c7⟩, ⟨(hw 0 (by omega)).trans d1, (hw 1 (by omega)).trans d2, (hw 2 (by omega)).trans d3, (hw 3 (by omega)).trans d4, (hw 7 (by omega)).trans d5, (hw 8 (by omega)).trans d6, (hw 6 (by omega)).trans d7⟩, ⟨by rw [hw 4 (by omega), t2]; exact e1, by rw [hw 5 (by omega), t3]; exact e2, by rw [hw 9 (by omega), u2]; exact e3⟩, by rw [t2]; exact f1, by rw [t3]; exact f2⟩, ⟨fun i hi j hj => ?_, fun i hi => ?_, fun i hi j hj => ?_, fun i hi j hj => ?_, fun i hi j hj => ?_, fun i hi j hj => ?_, fun i hi j hj => ?_, fun i hi j hj => ?_, fun i hi j hj => ?_⟩, ⟨fun i hi => ?_, fun i hi => ?_, fun i hi => ?_, fun i hi => ?_, fun i h1 h2 => ?_, fun i h1 h2 => ?_, fun i hi => ?_, fun i hi => ?_⟩, ⟨fun e he => ?_, fun e he => ⟨(p2 e he).1, fun x => ?_⟩, fun i hi => ?_, fun i hi => ?_, fun e he => ?_, fun e he x hx => ?_, ?_⟩, ps, lk, t8.trans l4, (hw 1600 (by omega)).trans l6, t9.trans l5, ⟨fun i hi => ?_, fun i hi => ?_, fun i hi => ?_⟩, fun i hi => ?_, fun i hi => ?_⟩
  · rw [hw _ (by omega), r1 i hi j hj, show t' + 2 + j = t' + (2 + j) from by omega, tL (2 + j) (by omega) (by omega) i (by omega), show t + (2 + j) = t + 2 + j from by omega]
  · rw [hw _ (by omega), tL 5 (by omega) (by omega) i (by omega), tL 6 (by omega) (by omega) i (by omega)]; exact r2 i hi
  · rw [hw _ (by omega), r3 i hi j hj, show s' + 1 + j = s' + (1 + j) from by omega, uL (1 + j) (by omega) (by omega) i (by omega), show s + (1 + j) = s + 1 + j from by omega]
  · rw [hw _ (by omega), r4 i hi j hj, show t' + 8 + j = t' + (8 + j) from by omega, tC (8 + j) (by omega) (by omega) i (by omega), show t + (8 + j) = t + 8 + j from by omega]
  · rw [hw _ (by omega), r5 i hi j hj, show s' + 7 + j = s' + (7 + j) from by omega, uC (7 + j) (by omega) (by omega) i (by omega), show s + (7 + j) = s + 7 + j from by omega]
  · rw [hw _ (by omega), r6 i hi j hj, show t' + 16 + j = t' + (16 + j) from by omega, tC (16 + j) (by omega) (by omega) i (by omega), show t + (16 + j) = t + 16 + j from by omega]
  · rw [hw _ (by omega), r7 i hi j hj, show t' + 18 + j = t' + (18 + j) from by omega, tO (18 + j) (by omega) (by omega) i (by omega), show t + (18 + j) = t + 18 + j from by omega]
  · rw [hw _ (by omega), r8 i hi j hj, show t' + 24 + j = t' + (24 + j) from by omega, tI (24 + j) (by omega) (by omega) i (by omega), show t + (24 + j) = t + 24 + j from by omega]
  · rw [hw _ (by omega), r9 i hi j hj, show b' + 1 + j = b' + (1 + j) from by omega, b2 (1 + j) (by omega) (by omega) i (by omega), show b + (1 + j) = b + 1 + j from by omega]
  · rw [tL 2 (by omega) (by omega) i (by omega), tL 3 (by omega) (by omega) i (by omega), tL 4 (by omega) (by omega) i (by omega), tL 5 (by omega) (by omega) i (by omega), tL 6 (by omega) (by omega) i (by omega)]; exact v1 i hi
  · rw [tC 8 (by omega) (by omega) i (by omega), tC 9 (by omega) (by omega) i (by omega), tC 10 (by omega) (by omega) i (by omega), tC 11 (by omega) (by omega) i (by omega), tC 12 (by omega) (by omega) i (by omega), tC 13 (by omega) (by omega) i (by omega), tC 14 (by omega) (by omega) i (by omega), tC 15 (by omega) (by omega) i (by omega), tC 16 (by omega) (by omega) i (by omega)]; exact v2 i hi
  · rw [tO 18 (by omega) (by omega) i (by omega), tO 19 (by omega) (by omega) i (by omega), tO 20 (by omega) (by omega) i (by omega), tO 21 (by omega) (by omega) i (by omega), tO 22 (by omega) (by omega) i (by omega)]; exact v3 i hi
  · rw [tI 24 (by omega) (by omega) i (by omega), tI 25 (by omega) (by omega) i (by omega)]; exact v4 i hi
  · rw [uL 1 (by omega) (by omega) i h2, uL 2 (by omega) (by omega) i h2, uL 3 (by omega) (by omega) i h2, uL 4 (by omega) (by omega) i h2]; exact v5 i h1 h2
  · rw [uC 7 (by omega) (by omega) i h2, uC 8 (by omega) (by omega) i h2, uC 9 (by omega) (by omega) i h2]; exact v6 i h1 h2
  · rw [tL 4 (by omega) (by omega) i (by omega), uL 1 (by omega) (by omega) i (by omega), uL 2 (by omega) (by omega) i (by omega), uL 3 (by omega) (by omega) i (by omega), uL 4 (by omega) (by omega) i (by omega)]; exact v7 i hi
  · rw [uC 7 (by omega) (by omega) i (by omega)]; exact v8 i hi
  · obtain ⟨q1, q2, q3⟩ := p1 e he
    exact ⟨by rw [u6 e he]; exact q1, q2, fun i hi => by rw [u5 _ (by omega)]; exact q3 i hi⟩
  · rw [(p2 e he).2 x]
    constructor
    · rintro ⟨a1, a2, a3⟩; exact ⟨a1, by rw [uL 1 (by omega) (by omega) x (by omega)]; exact a2, by rw [uL 4 (by omega) (by omega) x (by omega)]; exact a3⟩
    · rintro ⟨a1, a2, a3⟩; exact ⟨a1, by rw [uL 1 (by omega) (by omega) x (by omega)] at a2; exact a2, by rw [uL 4 (by omega) (by omega) x (by omega)] at a3; exact a3⟩
  · rw [uL 1 (by omega) (by omega) i (by omega)]; exact p3 i hi
  · rw [uL 4 (by omega) (by omega) i (by omega)]; exact p4 i hi
  · refine (p5 e he).imp_of_mem (fun {x y} hx hy hxy => ?_)
    have x1 := (((p2 e he).2 x).mp hx).1
    have y1 := (((p2 e he).2 y).mp hy).1
    rw [hw _ (by omega), hw _ (by omega)]; exact hxy
  · have x1 := (((p2 e he).2 x).mp hx).1
    rw [hw _ (by omega), hw 10 (by omega)]; exact p6 e he x hx
  · rw [hw 10 (by omega)]; exact p7
  · rw [tt i (by omega)]; exact lc1 i hi
  · rw [tst i (by omega)]; exact lc2 i hi
  · rw [tk i (by have := lk.2.1; omega)]; exact lc3 i hi
  · rw [hw _ (by omega), hw _ (by omega), hw _ (by omega)]; exact lm1 i hi
  · rw [hw _ (by omega), hw _ (by omega)]; exact lm2 i hi
section C
variable {l : Launch} {c : Nat}
set_option maxHeartbeats 1000000 in
theorem cp_T74 {d : Nat} {I : mx_I} {Pq : Option Value → mx_H → Prop} (kk : ∀ J : mx_I, (∀ k, k < 74 ∨ 104 < k → J k = I k) → CopyT I J 1 74 → Pq none (sk0 c, J)) : mx_K1 l mX10_copyFrom (d + 2) [.ref 74, .ref 1] (sk0 c, I) Pq := by
  refine ⟨fun r h' => r = none ∧ ∃ J, h' = (sk0 c, J) ∧ (∀ k, k < 74 ∨ 104 < k → J k = I k) ∧ CopyT I J 1 74, sn_X10_copyFrom_74_1 ?_, ?_⟩
  · have a0 : ∀ k, k ≠ 74 → (mx_set (mx_set (mx_set I 74 5 (I 1 5)) 74 6 (I 1 6)) 74 7 (I 1 7)) k = I k := fun k hk => by rw [ms_ne hk, ms_ne hk, ms_ne hk]
    have a1 : (mx_set (mx_set (mx_set I 74 5 (I 1 5)) 74 6 (I 1 6)) 74 7 (I 1 7)) 74 5 = I 1 5 ∧ (mx_set (mx_set (mx_set I 74 5 (I 1 5)) 74 6 (I 1 6)) 74 7 (I 1 7)) 74 6 = I 1 6 ∧ (mx_set (mx_set (mx_set I 74 5 (I 1 5)) 74 6 (I 1 6)) 74 7 (I 1 7)) 74 7 = I 1 7 := by simp [ms_self, upd]
    generalize mx_set (mx_set (mx_set I 74 5 (I 1 5)) 74 6 (I 1 6)) 74 7 (I 1 7) = I0 at a0 a1 ⊢
    refine cp_L75 (d := d) (fun J1 h1 => ?_)
    refine sg_X10_copyFrom_74_1_35 (cp_C81 (d := d) (fun J2 h2 => ?_))
    refine sg_X10_copyFrom_74_1_46 (cp_O91 (d := d) (fun J3 h3 => ?_))
    refine sg_X10_copyFrom_74_1_57 (cp_I97 (d := d) (fun J4 h4 => ?_))
    refine sg_X10_copyFrom_74_1_68 (cp_W101_28 (d := d) (fun J5 h5 => ?_))
    refine sg_X10_copyFrom_74_1_79 ⟨rfl, J5, rfl, fun k hk => ?_, ?_⟩
    · rw [h5.1 k (by omega), h4.1 k (by omega), h3.1 k (by omega), h2.1 k (by omega), h1.1 k (by omega), a0 k (by omega)]
    · obtain ⟨f1, l5, l1, l2, l3, l4, l6⟩ := h1
      obtain ⟨f2, m9, m1, m2, m3, m4, m5, m6, m7, m8, m10⟩ := h2
      obtain ⟨f3, n5, n1, n2, n3, n4, n6⟩ := h3
      obtain ⟨f4, o3, o1, o2, o4⟩ := h4
      obtain ⟨f5, q4, q5, q1, q2, q3⟩ := h5
      refine ⟨⟨?_, ?_, ?_, ?_, ?_, ?_, ?_, ?_, ?_⟩, fun j j1 j2 i hi => ?_, fun j j1 j2 i hi => ?_, fun j j1 j2 i hi => ?_, fun j j1 j2 i hi => ?_, fun i hi => ?_, fun i hi => ?_, fun i hi => ?_⟩
      · rw [f5 74 (by omega), f4 74 (by omega), f3 74 (by omega), f2 74 (by omega), f1 74 (by omega)]; exact a1.1
      · rw [f5 74 (by omega), f4 74 (by omega), f3 74 (by omega), f2 74 (by omega), f1 74 (by omega)]; exact a1.2.1
      · rw [f5 74 (by omega), f4 74 (by omega), f3 74 (by omega), f2 74 (by omega), f1 74 (by omega)]; exact a1.2.2
      · rw [f5 75 (by omega), f4 75 (by omega), f3 75 (by omega), f2 75 (by omega), l5, a0 2 (by omega)]
      · rw [f5 81 (by omega), f4 81 (by omega), f3 81 (by omega), m9, f1 8 (by omega), a0 8 (by omega)]
      · rw [f5 91 (by omega), f4 91 (by omega), n5, f2 18 (by omega), f1 18 (by omega), a0 18 (by omega)]
      · rw [f5 97 (by omega), o3, f3 24 (by omega), f2 24 (by omega), f1 24 (by omega), a0 24 (by omega)]
      · rw [q4, f4 28 (by omega), f3 28 (by omega), f2 28 (by omega), f1 28 (by omega), a0 28 (by omega)]
      · rw [q5, f4 28 (by omega), f3 28 (by omega), f2 28 (by omega), f1 28 (by omega), a0 28 (by omega)]
      · rw [f5 _ (by omega), f4 _ (by omega), f3 _ (by omega), f2 _ (by omega), ← a0 (1 + j) (by omega)]
        have : j = 2 ∨ j = 3 ∨ j = 4 ∨ j = 5 ∨ j = 6 := by omega
        rcases this with rfl | rfl | rfl | rfl | rfl
        · exact l1 i hi
        · exact l2 i hi
        · exact l3 i hi
        · exact l4 i hi
        · exact l6 i hi
      · rw [f5 _ (by omega), f4 _ (by omega), f3 _ (by omega), ← a0 (1 + j) (by omega), ← f1 (1 + j) (by omega)]
        have : j = 8 ∨ j = 9 ∨ j = 10 ∨ j = 11 ∨ j = 12 ∨ j = 13 ∨ j = 14 ∨ j = 15 ∨ j = 16 := by omega
        rcases this with rfl | rfl | rfl | rfl | rfl | rfl | rfl | rfl | rfl
        · exact m1 i hi
        · exact m2 i hi
        · exact m3 i hi
        · exact m4 i hi
        · exact m5 i hi
        · exact m6 i hi
        · exact m7 i hi
        · exact m8 i hi
        · exact m10 i hi
      · rw [f5 _ (by omega), f4 _ (by omega), ← a0 (1 + j) (by omega), ← f1 (1 + j) (by omega), ← f2 (1 + j) (by omega)]
        have : j = 18 ∨ j = 19 ∨ j = 20 ∨ j = 21 ∨ j = 22 := by omega
        rcases this with rfl | rfl | rfl | rfl | rfl
        · exact n1 i hi
        · exact n2 i hi
        · exact n3 i hi
        · exact n4 i hi
        · exact n6 i hi
      · rw [f5 _ (by omega), ← a0 (1 + j) (by omega), ← f1 (1 + j) (by omega), ← f2 (1 + j) (by omega), ← f3 (1 + j) (by omega)]
        have : j = 24 ∨ j = 25 ∨ j = 26 := by omega
        rcases this with rfl | rfl | rfl
        · exact o1 i hi
        · exact o2 i hi
        · exact o4 i hi
      · rw [← a0 (1 + 28) (by omega), ← f1 (1 + 28) (by omega), ← f2 (1 + 28) (by omega), ← f3 (1 + 28) (by omega), ← f4 (1 + 28) (by omega)]; exact q1 i hi
      · rw [← a0 (1 + 29) (by omega), ← f1 (1 + 29) (by omega), ← f2 (1 + 29) (by omega), ← f3 (1 + 29) (by omega), ← f4 (1 + 29) (by omega)]; exact q2 i hi
      · rw [← a0 (1 + 30) (by omega), ← f1 (1 + 30) (by omega), ← f2 (1 + 30) (by omega), ← f3 (1 + 30) (by omega), ← f4 (1 + 30) (by omega)]; exact q3 i hi
  · rintro _ _ ⟨rfl, J, rfl, h1, h2⟩
    exact kk J h1 h2
set_option maxHeartbeats 1000000 in
theorem cp_T1 {d : Nat} {I : mx_I} {Pq : Option Value → mx_H → Prop} (kk : ∀ J : mx_I, (∀ k, k < 1 ∨ 31 < k → J k = I k) → CopyT I J 74 1 → Pq none (sk0 c, J)) : mx_K1 l mX10_copyFrom (d + 2) [.ref 1, .ref 74] (sk0 c, I) Pq := by
  refine ⟨fun r h' => r = none ∧ ∃ J, h' = (sk0 c, J) ∧ (∀ k, k < 1 ∨ 31 < k → J k = I k) ∧ CopyT I J 74 1, sn_X10_copyFrom_1_74 ?_, ?_⟩
  · have a0 : ∀ k, k ≠ 1 → (mx_set (mx_set (mx_set I 1 5 (I 74 5)) 1 6 (I 74 6)) 1 7 (I 74 7)) k = I k := fun k hk => by rw [ms_ne hk, ms_ne hk, ms_ne hk]
    have a1 : (mx_set (mx_set (mx_set I 1 5 (I 74 5)) 1 6 (I 74 6)) 1 7 (I 74 7)) 1 5 = I 74 5 ∧ (mx_set (mx_set (mx_set I 1 5 (I 74 5)) 1 6 (I 74 6)) 1 7 (I 74 7)) 1 6 = I 74 6 ∧ (mx_set (mx_set (mx_set I 1 5 (I 74 5)) 1 6 (I 74 6)) 1 7 (I 74 7)) 1 7 = I 74 7 := by simp [ms_self, upd]
    generalize mx_set (mx_set (mx_set I 1 5 (I 74 5)) 1 6 (I 74 6)) 1 7 (I 74 7) = I0 at a0 a1 ⊢
    refine cp_L2 (d := d) (fun J1 h1 => ?_)
    refine sg_X10_copyFrom_1_74_35 (cp_C8 (d := d) (fun J2 h2 => ?_))
    refine sg_X10_copyFrom_1_74_46 (cp_O18 (d := d) (fun J3 h3 => ?_))
    refine sg_X10_copyFrom_1_74_57 (cp_I24 (d := d) (fun J4 h4 => ?_))
    refine sg_X10_copyFrom_1_74_68 (cp_W28_101 (d := d) (fun J5 h5 => ?_))
    refine sg_X10_copyFrom_1_74_79 ⟨rfl, J5, rfl, fun k hk => ?_, ?_⟩
    · rw [h5.1 k (by omega), h4.1 k (by omega), h3.1 k (by omega), h2.1 k (by omega), h1.1 k (by omega), a0 k (by omega)]
    · obtain ⟨f1, l5, l1, l2, l3, l4, l6⟩ := h1
      obtain ⟨f2, m9, m1, m2, m3, m4, m5, m6, m7, m8, m10⟩ := h2
      obtain ⟨f3, n5, n1, n2, n3, n4, n6⟩ := h3
      obtain ⟨f4, o3, o1, o2, o4⟩ := h4
      obtain ⟨f5, q4, q5, q1, q2, q3⟩ := h5
      refine ⟨⟨?_, ?_, ?_, ?_, ?_, ?_, ?_, ?_, ?_⟩, fun j j1 j2 i hi => ?_, fun j j1 j2 i hi => ?_, fun j j1 j2 i hi => ?_, fun j j1 j2 i hi => ?_, fun i hi => ?_, fun i hi => ?_, fun i hi => ?_⟩
      · rw [f5 1 (by omega), f4 1 (by omega), f3 1 (by omega), f2 1 (by omega), f1 1 (by omega)]; exact a1.1
      · rw [f5 1 (by omega), f4 1 (by omega), f3 1 (by omega), f2 1 (by omega), f1 1 (by omega)]; exact a1.2.1
      · rw [f5 1 (by omega), f4 1 (by omega), f3 1 (by omega), f2 1 (by omega), f1 1 (by omega)]; exact a1.2.2
      · rw [f5 2 (by omega), f4 2 (by omega), f3 2 (by omega), f2 2 (by omega), l5, a0 75 (by omega)]
      · rw [f5 8 (by omega), f4 8 (by omega), f3 8 (by omega), m9, f1 81 (by omega), a0 81 (by omega)]
      · rw [f5 18 (by omega), f4 18 (by omega), n5, f2 91 (by omega), f1 91 (by omega), a0 91 (by omega)]
      · rw [f5 24 (by omega), o3, f3 97 (by omega), f2 97 (by omega), f1 97 (by omega), a0 97 (by omega)]
      · rw [q4, f4 101 (by omega), f3 101 (by omega), f2 101 (by omega), f1 101 (by omega), a0 101 (by omega)]
      · rw [q5, f4 101 (by omega), f3 101 (by omega), f2 101 (by omega), f1 101 (by omega), a0 101 (by omega)]
      · rw [f5 _ (by omega), f4 _ (by omega), f3 _ (by omega), f2 _ (by omega), ← a0 (74 + j) (by omega)]
        have : j = 2 ∨ j = 3 ∨ j = 4 ∨ j = 5 ∨ j = 6 := by omega
        rcases this with rfl | rfl | rfl | rfl | rfl
        · exact l1 i hi
        · exact l2 i hi
        · exact l3 i hi
        · exact l4 i hi
        · exact l6 i hi
      · rw [f5 _ (by omega), f4 _ (by omega), f3 _ (by omega), ← a0 (74 + j) (by omega), ← f1 (74 + j) (by omega)]
        have : j = 8 ∨ j = 9 ∨ j = 10 ∨ j = 11 ∨ j = 12 ∨ j = 13 ∨ j = 14 ∨ j = 15 ∨ j = 16 := by omega
        rcases this with rfl | rfl | rfl | rfl | rfl | rfl | rfl | rfl | rfl
        · exact m1 i hi
        · exact m2 i hi
        · exact m3 i hi
        · exact m4 i hi
        · exact m5 i hi
        · exact m6 i hi
        · exact m7 i hi
        · exact m8 i hi
        · exact m10 i hi
      · rw [f5 _ (by omega), f4 _ (by omega), ← a0 (74 + j) (by omega), ← f1 (74 + j) (by omega), ← f2 (74 + j) (by omega)]
        have : j = 18 ∨ j = 19 ∨ j = 20 ∨ j = 21 ∨ j = 22 := by omega
        rcases this with rfl | rfl | rfl | rfl | rfl
        · exact n1 i hi
        · exact n2 i hi
        · exact n3 i hi
        · exact n4 i hi
        · exact n6 i hi
      · rw [f5 _ (by omega), ← a0 (74 + j) (by omega), ← f1 (74 + j) (by omega), ← f2 (74 + j) (by omega), ← f3 (74 + j) (by omega)]
        have : j = 24 ∨ j = 25 ∨ j = 26 := by omega
        rcases this with rfl | rfl | rfl
        · exact o1 i hi
        · exact o2 i hi
        · exact o4 i hi
      · rw [← a0 (74 + 28) (by omega), ← f1 (74 + 28) (by omega), ← f2 (74 + 28) (by omega), ← f3 (74 + 28) (by omega), ← f4 (74 + 28) (by omega)]; exact q1 i hi
      · rw [← a0 (74 + 29) (by omega), ← f1 (74 + 29) (by omega), ← f2 (74 + 29) (by omega), ← f3 (74 + 29) (by omega), ← f4 (74 + 29) (by omega)]; exact q2 i hi
      · rw [← a0 (74 + 30) (by omega), ← f1 (74 + 30) (by omega), ← f2 (74 + 30) (by omega), ← f3 (74 + 30) (by omega), ← f4 (74 + 30) (by omega)]; exact q3 i hi
  · rintro _ _ ⟨rfl, J, rfl, h1, h2⟩
    exact kk J h1 h2
end C
set_option maxHeartbeats 2000000 in
theorem p_image {l : Launch} (a : Int32) (ha : a = 0 ∨ a = 1) : mx_PrI l Sim mX11_image mX12_image [.int a] := by
  intro c I hs
  obtain ⟨hc, a1, a2, a3, a4, ⟨a5, a6⟩, a7⟩ := id hs
  by_cases g : a = 0
  · by_cases g2 : I 0 9 = 0
    · exact pr_no 0 hs (sn_X11_image _ (fun _ _ => ⟨by rw [g2], rfl⟩) (fun _ _ => Or.inl g2) (fun _ z => absurd g2 z) (fun z => absurd g z)) (sn_X12_image _ (fun z => absurd g z) (fun _ z => absurd (a2.trans g2) z) (fun _ _ => ⟨rfl, rfl⟩))
    · obtain ⟨b1, b2⟩ := a3.resolve_left g2
      -- gone back to
      refine pr_go (fun v c1 J => c1 = c ∧ v = 1 ∧ (∀ k, k = 0 ∨ k = 32 ∨ 46 < k → J k = I k) ∧ CopyT I J 74 1 ∧ CopyS I J 106 33 ∧ CopyB I J 116 43) ?_ ?_
      · refine sn_X11_image _ (fun _ z => absurd z g2) (fun _ z => absurd z g2) (fun _ _ => ?_) (fun z => absurd g z)
        refine cp_T1 (d := 97) (fun J1 h1 hT => ?_)
        refine sg_X11_image_63 _ (cp_S33 (d := 98) (fun J2 h2 => ?_))
        refine sg_X11_image_74 _ (cp_B43 (d := 98) (fun J3 h3 => ?_))
        obtain ⟨f2, w9, w10, w1, w2, w3, w4, w5, w6, w7, w8, w11⟩ := h2
        obtain ⟨f3, x3, x1, x2, x4⟩ := h3
        have j0 : J3 0 9 = 1 := by rw [f3 0 (by omega), f2 0 (by omega), h1 0 (by omega)]; exact b1
        refine sg_X11_image_85 _ ⟨_, c, J3, rfl, rfl, rfl, j0, fun k hk => by rw [f3 k (by omega), f2 k (by omega), h1 k (by omega)], ?_, ?_, ?_⟩ (Or.inr j0)
        · have r : ∀ k, k ≤ 31 → J3 k = J1 k := fun k hk => by rw [f3 k (by omega), f2 k (by omega)]
          obtain ⟨⟨t1, t2, t3, t4, t5, t6, t7, t8, t9⟩, tL, tC, tO, tI, tk, tst, tt⟩ := hT
          exact ⟨⟨by rw [r _ (by omega)]; exact t1, by rw [r _ (by omega)]; exact t2, by rw [r _ (by omega)]; exact t3, by rw [r _ (by omega)]; exact t4, by rw [r _ (by omega)]; exact t5, by rw [r _ (by omega)]; exact t6, by rw [r _ (by omega)]; exact t7, by rw [r _ (by omega)]; exact t8, by rw [r _ (by omega)]; exact t9⟩, fun j j1 j2 i hi => by rw [r _ (by omega)]; exact tL j j1 j2 i hi, fun j j1 j2 i hi => by rw [r _ (by omega)]; exact tC j j1 j2 i hi, fun j j1 j2 i hi => by rw [r _ (by omega)]; exact tO j j1 j2 i hi, fun j j1 j2 i hi => by rw [r _ (by omega)]; exact tI j j1 j2 i hi, fun i hi => by rw [r _ (by omega)]; exact tk i hi, fun i hi => by rw [r _ (by omega)]; exact tst i hi, fun i hi => by rw [r _ (by omega)]; exact tt i hi⟩
        · refine ⟨⟨by rw [f3 33 (by omega), w9, h1 106 (by omega)], by rw [f3 33 (by omega), w10, h1 106 (by omega)]⟩, fun j j1 j2 i hi => ?_, fun i hi => by rw [f3 _ (by omega), ← h1 (106 + 5) (by omega)]; exact w5 i hi, fun i hi => by rw [f3 _ (by omega), ← h1 (106 + 6) (by omega)]; exact w6 i hi, fun j j1 j2 i hi => ?_⟩
          · rw [f3 _ (by omega), ← h1 (106 + j) (by omega)]
            have : j = 1 ∨ j = 2 ∨ j = 3 ∨ j = 4 := by omega
            rcases this with rfl | rfl | rfl | rfl
            · exact w1 i hi
            · exact w2 i hi
            · exact w3 i hi
            · exact w4 i hi
          · rw [f3 _ (by omega), ← h1 (106 + j) (by omega)]
            have : j = 7 ∨ j = 8 ∨ j = 9 := by omega
            rcases this with rfl | rfl | rfl
            · exact w7 i hi
            · exact w8 i hi
            · exact w11 i hi
        · refine ⟨by rw [x3, f2 116 (by omega), h1 116 (by omega)], fun j j1 j2 i hi => ?_⟩
          rw [← h1 (116 + j) (by omega), ← f2 (116 + j) (by omega)]
          have : j = 1 ∨ j = 2 ∨ j = 3 := by omega
          rcases this with rfl | rfl | rfl
          · exact x1 i hi
          · exact x2 i hi
          · exact x4 i hi
      · rintro v cc J ⟨rfl, rfl, hF, hT, hS, hB⟩
        have lp : ∀ (m i : Nat) (K : mx_I), i + m = 2490 → (∀ k, k ≠ 121 → K k = J k) → (∀ k, k < i → K 121 k = J 122 k) → mx_Go l (mx_rm (99 + 1) 0 0) mX12_image (mx_Z (fun r h' => r = some (.int 1) ∧ ∃ (c2 : Nat) (K : mx_I), h' = (sk0 c2, K) ∧ Sim c2 K) 0 0) 0 0 15 [.ref 120, .int a, .int (nI i)] [] (sk0 cc, K) := by
          intro m
          induction m with
          | zero =>
            intro i K hi hK hw
            have e1 : (2490 : Int32) ≤ nI i := by rw [show (2490 : Int32) = nI 2490 from rfl, nI_leI (by omega) (by omega)]; omega
            refine sg_X12_image_15 _ _ (fun _ => ⟨rfl, cc, _, rfl, ?_⟩) (fun z => absurd e1 z) (fun z => absurd e1 z) (fun z => absurd e1 z) (fun z => absurd e1 z) (fun z => absurd e1 z) (fun z => absurd e1 z)
            have kn : ∀ k, k ≠ 120 → mx_set K 120 3 1 k = K k := fun k hk => ms_ne hk
            have kj : ∀ j, j ≠ 3 → mx_set K 120 3 1 120 j = I 120 j := fun j hj => by rw [ms_at (Or.inr hj), hK 120 (by omega), hF 120 (by omega)]
            have k3 : mx_set K 120 3 1 120 3 = 1 := by rw [ms_self, upd_eq]
            generalize mx_set K 120 3 1 = K' at kn kj k3
            have kI : ∀ k, k = 0 ∨ 46 < k → k ≠ 120 → k ≠ 121 → K' k = I k := fun k h1 h2 h3 => by rw [kn k h2, hK k h3, hF k (by omega)]
            have kJ : ∀ k, k ≠ 120 → k ≠ 121 → K' k = J k := fun k h2 h3 => by rw [kn k h2, hK k h3]
            have hR : Rel J 1 33 43 (K' 121) := b2.move hT hS hB (fun k hk => by rw [kn 121 (by omega), hw k (by omega), hF 122 (by omega)])
            refine ⟨hc, hR.congr2 (fun k hk => kJ k (by omega) (by omega)) rfl, by rw [k3, kI 0 (by omega) (by omega) (by omega)]; exact b1.symm, Or.inr ⟨by rw [kI 0 (by omega) (by omega) (by omega)]; exact b1, b2.congr2 (fun k hk => kI k (by omega) (by omega) (by omega)) (kI 122 (by omega) (by omega) (by omega))⟩, a4.congr (by rw [kI 47 (by omega) (by omega) (by omega)]) (kj 11 (by omega)) (kI 48 (by omega) (by omega) (by omega)) (kI 126 (by omega) (by omega) (by omega)), ⟨by rw [kj 18 (by omega), kI 47 (by omega) (by omega) (by omega)]; exact a5, by rw [kj 20 (by omega), kI 47 (by omega) (by omega) (by omega)]; exact a6⟩, by rw [kj 21 (by omega), kj 22 (by omega), kj 25 (by omega), kj 26 (by omega)]; exact a7⟩
          | succ m ih =>
            intro i K hi hK hw
            have e1 : ¬ (2490 : Int32) ≤ nI i := fun z => by rw [show (2490 : Int32) = nI 2490 from rfl, nI_leI (by omega) (by omega)] at z; omega
            refine sg_X12_image_15 _ _ (fun z => absurd z e1) (fun _ _ => i_vp (by omega) (by omega)) (fun _ _ => i_vp (by omega) (by omega)) (fun _ _ => ?_) (fun _ z => absurd g z) (fun _ z => absurd g z) (fun _ z => absurd g z)
            rw [nI_clamp (n := i) (by omega), nI_1]
            refine ih (i + 1) _ (by omega) (fun k hk => by rw [ms_ne hk]; exact hK k hk) (fun k hk => ?_)
            rw [ms_self]
            by_cases q : k = i
            · subst q
              rw [upd_eq, hK 122 (by omega)]
            · rw [upd_ne q]; exact hw k (by omega)
        have e3 : ¬ J 120 3 = 0 := by rw [hF 120 (by omega), a2]; exact g2
        exact sn_X12_image _ (fun z => absurd g z) (fun _ _ => lp 2490 0 J (by omega) (fun _ _ => rfl) (fun k hk => absurd hk (by omega))) (fun _ z => absurd z e3)
  · -- taken
    refine pr_go (fun v c1 J => c1 = c ∧ v = 1 ∧ (∀ k, k ≠ 0 → (k < 74 ∨ k = 105 ∨ 119 < k) → J k = I k) ∧ J 0 9 = 1 ∧ CopyT I J 1 74 ∧ CopyS I J 33 106 ∧ CopyB I J 43 116) ?_ ?_
    · refine sn_X11_image _ (fun z => absurd z g) (fun z => absurd z g) (fun z => absurd z g) (fun _ => ?_)
      refine cp_T74 (d := 97) (fun J1 h1 hT => ?_)
      refine sg_X11_image_15 _ (cp_S106 (d := 98) (fun J2 h2 => ?_))
      refine sg_X11_image_26 _ (cp_B116 (d := 98) (fun J3 h3 => ?_))
      obtain ⟨f2, w9, w10, w1, w2, w3, w4, w5, w6, w7, w8, w11⟩ := h2
      obtain ⟨f3, x3, x1, x2, x4⟩ := h3
      have jn : ∀ k, k ≠ 0 → mx_set J3 0 9 1 k = J3 k := fun k hk => ms_ne hk
      have j0 : mx_set J3 0 9 1 0 9 = 1 := by rw [ms_self, upd_eq]
      refine sg_X11_image_37 _ ⟨_, c, _, rfl, rfl, rfl, rfl, fun k k0 hk => by rw [jn k k0, f3 k (by omega), f2 k (by omega), h1 k (by omega)], j0, ?_, ?_, ?_⟩
      · have r : ∀ k, 74 ≤ k → k ≤ 104 → mx_set J3 0 9 1 k = J1 k := fun k k1 k2 => by rw [jn k (by omega), f3 k (by omega), f2 k (by omega)]
        obtain ⟨⟨t1, t2, t3, t4, t5, t6, t7, t8, t9⟩, tL, tC, tO, tI, tk, tst, tt⟩ := hT
        exact ⟨⟨by rw [r _ (by omega) (by omega)]; exact t1, by rw [r _ (by omega) (by omega)]; exact t2, by rw [r _ (by omega) (by omega)]; exact t3, by rw [r _ (by omega) (by omega)]; exact t4, by rw [r _ (by omega) (by omega)]; exact t5, by rw [r _ (by omega) (by omega)]; exact t6, by rw [r _ (by omega) (by omega)]; exact t7, by rw [r _ (by omega) (by omega)]; exact t8, by rw [r _ (by omega) (by omega)]; exact t9⟩, fun j j1 j2 i hi => by rw [r _ (by omega) (by omega)]; exact tL j j1 j2 i hi, fun j j1 j2 i hi => by rw [r _ (by omega) (by omega)]; exact tC j j1 j2 i hi, fun j j1 j2 i hi => by rw [r _ (by omega) (by omega)]; exact tO j j1 j2 i hi, fun j j1 j2 i hi => by rw [r _ (by omega) (by omega)]; exact tI j j1 j2 i hi, fun i hi => by rw [r _ (by omega) (by omega)]; exact tk i hi, fun i hi => by rw [r _ (by omega) (by omega)]; exact tst i hi, fun i hi => by rw [r _ (by omega) (by omega)]; exact tt i hi⟩
      · refine ⟨⟨by rw [jn 106 (by omega), f3 106 (by omega), w9, h1 33 (by omega)], by rw [jn 106 (by omega), f3 106 (by omega), w10, h1 33 (by omega)]⟩, fun j j1 j2 i hi => ?_, fun i hi => by rw [jn _ (by omega), f3 _ (by omega), ← h1 (33 + 5) (by omega)]; exact w5 i hi, fun i hi => by rw [jn _ (by omega), f3 _ (by omega), ← h1 (33 + 6) (by omega)]; exact w6 i hi, fun j j1 j2 i hi => ?_⟩
        · rw [jn _ (by omega), f3 _ (by omega), ← h1 (33 + j) (by omega)]
          have : j = 1 ∨ j = 2 ∨ j = 3 ∨ j = 4 := by omega
          rcases this with rfl | rfl | rfl | rfl
          · exact w1 i hi
          · exact w2 i hi
          · exact w3 i hi
          · exact w4 i hi
        · rw [jn _ (by omega), f3 _ (by omega), ← h1 (33 + j) (by omega)]
          have : j = 7 ∨ j = 8 ∨ j = 9 := by omega
          rcases this with rfl | rfl | rfl
          · exact w7 i hi
          · exact w8 i hi
          · exact w11 i hi
      · refine ⟨by rw [jn 116 (by omega), x3, f2 43 (by omega), h1 43 (by omega)], fun j j1 j2 i hi => ?_⟩
        rw [jn _ (by omega), ← h1 (43 + j) (by omega), ← f2 (43 + j) (by omega)]
        have : j = 1 ∨ j = 2 ∨ j = 3 := by omega
        rcases this with rfl | rfl | rfl
        · exact x1 i hi
        · exact x2 i hi
        · exact x4 i hi
    · rintro v cc J ⟨rfl, rfl, hF, h9, hT, hS, hB⟩
      have lp : ∀ (m i : Nat) (K : mx_I), i + m = 2490 → (∀ k, k ≠ 122 → K k = J k) → (∀ k, k < i → K 122 k = J 121 k) → mx_Go l (mx_rm (99 + 1) 0 0) mX12_image (mx_Z (fun r h' => r = some (.int 1) ∧ ∃ (c2 : Nat) (K : mx_I), h' = (sk0 c2, K) ∧ Sim c2 K) 0 0) 0 0 15 [.ref 120, .int a, .int (nI i)] [] (sk0 cc, K) := by
        intro m
        induction m with
        | zero =>
          intro i K hi hK hw
          have e1 : (2490 : Int32) ≤ nI i := by rw [show (2490 : Int32) = nI 2490 from rfl, nI_leI (by omega) (by omega)]; omega
          refine sg_X12_image_15 _ _ (fun _ => ⟨rfl, cc, _, rfl, ?_⟩) (fun z => absurd e1 z) (fun z => absurd e1 z) (fun z => absurd e1 z) (fun z => absurd e1 z) (fun z => absurd e1 z) (fun z => absurd e1 z)
          have kn : ∀ k, k ≠ 120 → mx_set K 120 3 1 k = K k := fun k hk => ms_ne hk
          have kj : ∀ j, j ≠ 3 → mx_set K 120 3 1 120 j = I 120 j := fun j hj => by rw [ms_at (Or.inr hj), hK 120 (by omega), hF 120 (by omega) (by omega)]
          have k3 : mx_set K 120 3 1 120 3 = 1 := by rw [ms_self, upd_eq]
          generalize mx_set K 120 3 1 = K' at kn kj k3
          have kJ : ∀ k, k ≠ 120 → k ≠ 122 → K' k = J k := fun k h2 h3 => by rw [kn k h2, hK k h3]
          have kI : ∀ k, k ≠ 0 → (k < 74 ∨ 119 < k) → k ≠ 120 → k ≠ 122 → K' k = I k := fun k h0 h1 h2 h3 => by rw [kJ k h2 h3, hF k h0 (by omega)]
          have hR : Rel J 74 106 116 (K' 122) := a1.move hT hS hB (fun k hk => by rw [kn 122 (by omega), hw k (by omega), hF 121 (by omega) (by omega)])
          have k09 : K' 0 9 = 1 := by rw [kJ 0 (by omega) (by omega)]; exact h9
          refine ⟨hc, a1.congr2 (fun k hk => kI k (by omega) (by omega) (by omega) (by omega)) (kI 121 (by omega) (by omega) (by omega) (by omega)), by rw [k3, k09], Or.inr ⟨k09, hR.congr2 (fun k hk => kJ k (by omega) (by omega)) rfl⟩, a4.congr (by rw [kI 47 (by omega) (by omega) (by omega) (by omega)]) (kj 11 (by omega)) (kI 48 (by omega) (by omega) (by omega) (by omega)) (kI 126 (by omega) (by omega) (by omega) (by omega)), ⟨by rw [kj 18 (by omega), kI 47 (by omega) (by omega) (by omega) (by omega)]; exact a5, by rw [kj 20 (by omega), kI 47 (by omega) (by omega) (by omega) (by omega)]; exact a6⟩, by rw [kj 21 (by omega), kj 22 (by omega), kj 25 (by omega), kj 26 (by omega)]; exact a7⟩
        | succ m ih =>
          intro i K hi hK hw
          have e1 : ¬ (2490 : Int32) ≤ nI i := fun z => by rw [show (2490 : Int32) = nI 2490 from rfl, nI_leI (by omega) (by omega)] at z; omega
          refine sg_X12_image_15 _ _ (fun z => absurd z e1) (fun _ z => absurd z g) (fun _ z => absurd z g) (fun _ z => absurd z g) (fun _ _ => i_vp (by omega) (by omega)) (fun _ _ => i_vp (by omega) (by omega)) (fun _ _ => ?_)
          rw [nI_clamp (n := i) (by omega), nI_1]
          refine ih (i + 1) _ (by omega) (fun k hk => by rw [ms_ne hk]; exact hK k hk) (fun k hk => ?_)
          rw [ms_self]
          by_cases q : k = i
          · subst q
            rw [upd_eq, hK 121 (by omega)]
          · rw [upd_ne q]; exact hw k (by omega)
      exact sn_X12_image _ (fun _ => lp 2490 0 J (by omega) (fun _ _ => rfl) (fun k hk => absurd hk (by omega))) (fun z => absurd z g) (fun z => absurd z g)
