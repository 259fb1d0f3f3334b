/-! the class: choose -/
section C
variable {l : Launch} {c : Nat} {P : Pm} {I0 : mx_I}
theorem sub_sub3 (a b w : Int32) : a - b - w = a - (b + w) := Int32.sub_sub a b w
set_option maxHeartbeats 2000000 in
theorem ch_loop {d : Nat} {Q : Option Value → mx_H → Prop} {A : HS} {e t : Nat} {free own : Int32} (hP : POk P) (he : e < 4) (hA : AInv P A []) :
    ∀ (xs : List Nat) (i : Nat) (acc : List Nat) (s : Int32) (I : mx_I), (A.hp e).drop i = xs → CR c P A I0 I → Picked I acc → acc.length ≤ i → i ≤ (A.hp e).length → (I 73 3 = nI (A.hp e).length ∧ I 73 4 = own ∧ I 73 5 = nI t) →
    (∀ I', CR c P A I0 I' → Picked I' (pk_go (P.R 3) (decide (P.R 1 7 = 1)) (hs_lets P A e own t) free xs s acc).1 → Q (some (.int (pk_go (P.R 3) (decide (P.R 1 7 = 1)) (hs_lets P A e own t) free xs s acc).2)) (sk0 c, I')) →
    mx_Go l (mx_rm (d + 3) 0 0) mX1_choose (mx_Z Q 0 0) 0 0 44 [.ref 65, .int (nI e), .int free, .int own, .int (nI t), .int (free - s), .int s, .int (nI i), .retAddr 0, .retAddr 0] [] (sk0 c, I) := by
  have hP1 := hP.1
  have hlen := hA.len he
  intro xs
  induction xs with
  | nil =>
    intro i acc s I hi h hp hacc hin hf hQ
    obtain ⟨w1, w2, w3⟩ := h.heap e he
    have hi2 : (A.hp e).length ≤ i := by
      have := congrArg List.length hi
      simp at this
      omega
    have S := @sg_X1_choose_44 l (d + 2) Q c I (at9_c h.cc) (nI e) free own (nI t) (free - s) s (nI i)
    rw [nI_clamp (n := e) (by omega), w1] at S
    have e1 : nI (A.hp e).length ≤ nI i := (nI_leI (by omega) (by omega)).mpr hi2
    have b1 : vp_in (nI e) 4 := i_vp (by omega) (by omega)
    apply S <;> intros <;> with_reducible first | exact b1 | exact absurd e1 ‹_› | skip
    exact hQ I h hp
  | cons x xs ih =>
    intro i acc s I hi h hp hacc hin hf hQ
    have hc := h.cc
    obtain ⟨w1, w2, w3⟩ := h.heap e he
    have hlt : i < (A.hp e).length := by
      have := congrArg List.length hi
      simp at this
      omega
    have hx : (A.hp e).getD i 0 = x ∧ (A.hp e).drop (i + 1) = xs := by
      rw [lw_getD hlt 0] at hi
      exact ⟨(List.cons.inj hi).1, (List.cons.inj hi).2⟩
    obtain ⟨w4, w5⟩ := w3 i hlt
    rw [hx.1] at w4 w5
    have hxn : x < P.nl := by
      have hm : x ∈ A.hp e := hx.1 ▸ lw_mem hlt 0
      exact (((hA.1 e he).2 x).mp hm).1
    have ix : (nI e * 30 + nI i : Int32) = nI (30 * e + i) := by rw [show (30 : Int32) = nI 30 from rfl, pk_mul, nI_add, Nat.mul_comm]
    have S := @sg_X1_choose_44 l (d + 2) Q c I (at9_c hc) (nI e) free own (nI t) (free - s) s (nI i)
    simp only [ms_ne (show c + 2 ≠ 73 by omega), ms_ne (show c + 3 ≠ 73 by omega)] at S
    rw [nI_clamp (n := e) (by omega), w1, ix, nI_clamp (n := 30 * e + i) (by omega), w4, nI_clamp (n := x) (by omega), h.told (k := 3) (by omega) (by omega) (by omega), h.ld (j := 2) (by omega) (by omega) (by omega), h.ld (j := 3) (by omega) (by omega) (by omega), h.told (k := 1) (by omega) (by omega) (by omega)] at S
    have e1 : ¬ nI (A.hp e).length ≤ nI i := fun z => by rw [nI_leI (by omega) (by omega)] at z; omega
    have b1 : vp_in (nI e) 4 := i_vp (by omega) (by omega)
    have b2 : vp_in (nI (30 * e + i)) 120 := i_vp (by omega) (by omega)
    have b3 : vp_in (nI x) 30 := i_vp (by omega) (by omega)
    have lp : ∀ (acc' : List Nat) (s' : Int32) (J : mx_I) (y z : Value), pk_go (P.R 3) (decide (P.R 1 7 = 1)) (hs_lets P A e own t) free (x :: xs) s acc = pk_go (P.R 3) (decide (P.R 1 7 = 1)) (hs_lets P A e own t) free xs s' acc' → CR c P A I0 J → Picked J acc' → acc'.length ≤ i + 1 → (J 73 3 = nI (A.hp e).length ∧ J 73 4 = own ∧ J 73 5 = nI t) → mx_Go l (mx_rm (d + 3) 0 0) mX1_choose (mx_Z Q 0 0) 0 0 44 [.ref 65, .int (nI e), .int free, .int own, .int (nI t), .int (free - s'), .int s', .int (nI i + 1), y, z] [] (sk0 c, J) := by
      intro acc' s' J y z hq hJ hpJ ha hfJ
      rw [nI_1]
      refine mx_fg (L' := [.ref 65, .int (nI e), .int free, .int own, .int (nI t), .int (free - s'), .int s', .int (nI (i + 1)), .retAddr 0, .retAddr 0]) (by simp [mx_le]) ?_
      refine ih (i + 1) acc' s' J hx.2 hJ hpJ ha (by omega) hfJ (fun I' g1 g2 => ?_)
      rw [hq] at hQ
      exact hQ I' g1 g2
    apply S <;> intros <;> with_reducible first | exact b1 | exact b2 | exact b3 | exact absurd ‹nI (A.hp e).length ≤ nI i› e1 | skip
    · rename_i g1 g2
      have hr : ¬ free - s < P.R 3 x := fun z => by rw [i_lt] at z; rw [i_le] at g2; omega
      have hn28 := h.told (k := 28) (by omega) (by omega) (by omega)
      refine ⟨_, sp_lets (f := lw_f (P.R 3 x) (free - s) (nI t - A.r 2 x) (nI (A.hp e).length) own (nI t) (A.r 3 x)) hP.2.1 ?_ ?_ ?_, ?_⟩
      · simp only [ms_ne (show (28 : Nat) ≠ 73 by omega)]
        rw [hn28]; exact hP.2.2.1.2.2.2.2.1
      · simp only [ms_ne (show (29 : Nat) ≠ 73 by omega), ms_ne (show (30 : Nat) ≠ 73 by omega), ms_ne (show (31 : Nat) ≠ 73 by omega)]
        rw [h.told (k := 29) (by omega) (by omega) (by omega), h.told (k := 30) (by omega) (by omega) (by omega), h.told (k := 31) (by omega) (by omega) (by omega)]
        exact hP.2.2.2.1
      · intro j j1 j7
        obtain ⟨f3, f4, f5⟩ := hf
        have : j = 1 ∨ j = 2 ∨ j = 3 ∨ j = 4 ∨ j = 5 ∨ j = 6 ∨ j = 7 := by omega
        rcases this with rfl | rfl | rfl | rfl | rfl | rfl | rfl <;> simp [ms_self, upd, lw_f, f3, f4, f5]
      · rintro _ _ ⟨rfl, I', rfl, hI⟩
        have hI2 : ∀ k, k ≠ 32 → k ≠ 73 → I' k = I k := fun k k1 k2 => by
          rw [hI k k1]
          simp only [ms_ne k2]
        have hCR : CR c P A I0 I' := h.scr (fun k k1 k2 k3 k4 => hI2 k k3 k2) (fun f _ => by rw [hI2 65 (by omega) (by omega)])
        have hp' : Picked I' acc := ⟨by rw [hI2 65 (by omega) (by omega)]; exact hp.1, fun j hj => by rw [hI2 72 (by omega) (by omega)]; exact hp.2 j hj⟩
        have hf' : I' 73 3 = nI (A.hp e).length ∧ I' 73 4 = own ∧ I' 73 5 = nI t := by
          obtain ⟨f3, f4, f5⟩ := hf
          rw [hI 73 (by omega)]
          simp [ms_self, upd, f3, f4, f5]
        have T := @sg_X1_choose_177 l (d + 2) Q c I' (at9_c hc) (nI e) free own (nI t) (free - s) s (nI i) (nI x) (P.R 3 x) (b2i (lw_lets (lw_f (P.R 3 x) (free - s) (nI t - A.r 2 x) (nI (A.hp e).length) own (nI t) (A.r 3 x)) P.ps))
        rw [hp'.1, nI_clamp (by omega), nI_1 acc.length, sub_sub3] at T
        refine T (fun g => ?_) (fun _ => i_vp (by omega) (by omega)) (fun g => ?_)
        · have gl : hs_lets P A e own t x (free - s) = false := b2i_0.mp g
          refine lp acc s I' _ _ ?_ hCR hp' (by omega) hf'
          rw [pk_go, if_neg hr, gl]
          simp
        · have gl : hs_lets P A e own t x (free - s) = true := by
            cases hq : hs_lets P A e own t x (free - s) with
            | true => rfl
            | false => exact absurd (b2i_0.mpr hq) g
          refine lp (acc ++ [x]) (s + P.R 3 x) _ _ _ ?_ ?_ ?_ (by simp; omega) ?_
          · rw [pk_go, if_neg hr, if_pos gl]
          · refine hCR.scr (fun k k1 k2 k3 k4 => by rw [ms_ne k4, ms_ne k1]) (fun f hf5 => by rw [ms_self, upd_ne hf5, ms_ne (by omega)])
          · refine ⟨by rw [ms_self, upd_eq]; simp, fun j hj => ?_⟩
            rw [ms_ne (by omega), ms_self]
            simp at hj
            by_cases q : j = acc.length
            · subst q
              rw [upd_eq, List.getD_eq_getElem?_getD, List.getElem?_append_right (by omega)]
              simp
            · rw [upd_ne q, List.getD_eq_getElem?_getD, List.getElem?_append_left (by omega), ← List.getD_eq_getElem?_getD]
              exact hp'.2 j (by omega)
          · rw [ms_ne (by omega), ms_ne (by omega)]; exact hf'
    · rename_i g1 g2 g3
      have hr : free - s < P.R 3 x := by rw [i_lt]; rw [i_le] at g2; omega
      refine lp acc s I _ _ ?_ h hp (by omega) hf
      rw [pk_go, if_pos hr, decide_eq_false g3]
      simp
    · rename_i g1 g2 g3
      have hr : free - s < P.R 3 x := by rw [i_lt]; rw [i_le] at g2; omega
      have hq : pk_go (P.R 3) (decide (P.R 1 7 = 1)) (hs_lets P A e own t) free (x :: xs) s acc = (acc, s) := by
        rw [pk_go, if_pos hr, decide_eq_true g3]
        simp
      rw [hq] at hQ
      exact hQ I h hp
theorem sp_choose {d : Nat} {A : HS} {I : mx_I} {e t : Nat} {free own : Int32} (hP : POk P) (h : CR c P A I0 I) (hA : AInv P A []) (he : e ≤ P.nb) :
    mx_Spec l mX1_choose (d + 3) 0 0 [.ref 65, .int (nI e), .int free, .int own, .int (nI t)] (sk0 c, I) (fun r h' => r = some (.int (hs_pick P A e free own t).2) ∧ ∃ I', h' = (sk0 c, I') ∧ CR c P A I0 I' ∧ Picked I' (hs_pick P A e free own t).1) := by
  have hP1 := hP.1
  have hc := h.cc
  obtain ⟨w1, w2, w3⟩ := h.heap e (by omega)
  refine sn_X1_choose _ _ _ _ (at9_c hc) (i_vp (by omega) (by omega)) ?_
  rw [nI_clamp (n := e) (by omega), ms_ne (show c + 6 ≠ 65 by omega), w1]
  have hz : free = free - 0 := (Int32.sub_zero free).symm
  have key := ch_loop (l := l) (d := d) (Q := fun r h' => r = some (.int (hs_pick P A e free own t).2) ∧ ∃ I', h' = (sk0 c, I') ∧ CR c P A I0 I' ∧ Picked I' (hs_pick P A e free own t).1) (t := t) (free := free) (own := own) hP (by omega : e < 4) hA (A.hp e) 0 [] 0 (mx_set (mx_set (mx_set (mx_set I 65 5 0) 73 3 (nI (A.hp e).length)) 73 4 own) 73 5 (nI t)) (List.drop_zero) (h.scr (fun k k1 k2 k3 k4 => by rw [ms_ne k2, ms_ne k2, ms_ne k2, ms_ne k4]) (fun f hf => by rw [ms_ne (by omega), ms_ne (by omega), ms_ne (by omega), ms_self, upd_ne hf])) ⟨by rw [ms_ne (by omega), ms_ne (by omega), ms_ne (by omega), ms_self, upd_eq]; rfl, fun j hj => absurd hj (by simp)⟩ (by simp) (by simp) (by simp [ms_self, upd]) (fun I' g1 g2 => ⟨rfl, I', rfl, g1, g2⟩)
  rw [Int32.sub_zero] at key
  exact key
end C
