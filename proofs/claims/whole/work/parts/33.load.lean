/-! load -/
def mw_new (I : mx_I) (n : Nat) (a1 a2 a3 : Int32) : mx_I := mx_set (mx_set (mx_set (mx_set (mx_set (mx_set (mx_set (mx_set (mx_set (mx_set (mx_set I 121 2 (nI (n + 1))) 121 (20 + 10 * n + 0) a1) 121 (20 + 10 * n + 1) a2) 121 (20 + 10 * n + 2) a3) 121 (20 + 10 * n + 3) (-1)) 121 (20 + 10 * n + 4) (-1)) 121 (20 + 10 * n + 5) (-1)) 121 (20 + 10 * n + 6) (-1)) 121 (20 + 10 * n + 7) 0) 121 (20 + 10 * n + 8) 0) 121 (20 + 10 * n + 9) 0
theorem sp_newLoad {l : Launch} {d c : Nat} {I : mx_I} {n : Nat} (hn : I 121 2 = nI n) (h : n < 30) (a1 a2 a3 : Int32) : mx_Spec l mX12_newLoad (d + 2) 0 0 [.ref 120, .int a1, .int a2, .int a3] (sk0 c, I) (fun r h' => r = none ∧ h' = (sk0 c, mw_new I n a1 a2 a3)) := by
  refine sn_X12_newLoad a1 a2 a3 ?_
  rw [hn, show nI n + 1 = nI (n + 1) from nI_1 n]
  refine ⟨_, sp_loads 0 rfl h (by decide), ?_⟩
  rintro _ _ ⟨rfl, rfl⟩
  refine sg_X12_newLoad_26 _ _ _ _ ⟨_, sp_loads 1 rfl h (by decide), ?_⟩
  rintro _ _ ⟨rfl, rfl⟩
  refine sg_X12_newLoad_34 _ _ _ _ ⟨_, sp_loads 2 rfl h (by decide), ?_⟩
  rintro _ _ ⟨rfl, rfl⟩
  refine sg_X12_newLoad_42 _ _ _ _ ⟨_, sp_loads 3 rfl h (by decide), ?_⟩
  rintro _ _ ⟨rfl, rfl⟩
  refine sg_X12_newLoad_50 _ _ _ _ ⟨_, sp_loads 4 rfl h (by decide), ?_⟩
  rintro _ _ ⟨rfl, rfl⟩
  refine sg_X12_newLoad_58 _ _ _ _ ⟨_, sp_loads 5 rfl h (by decide), ?_⟩
  rintro _ _ ⟨rfl, rfl⟩
  refine sg_X12_newLoad_66 _ _ _ _ ⟨_, sp_loads 6 rfl h (by decide), ?_⟩
  rintro _ _ ⟨rfl, rfl⟩
  refine sg_X12_newLoad_75 _ _ _ _ ⟨_, sp_loads 7 rfl h (by decide), ?_⟩
  rintro _ _ ⟨rfl, rfl⟩
  refine sg_X12_newLoad_84 _ _ _ _ ⟨_, sp_loads 8 rfl h (by decide), ?_⟩
  rintro _ _ ⟨rfl, rfl⟩
  refine sg_X12_newLoad_93 _ _ _ _ ⟨_, sp_loads 9 rfl h (by decide), ?_⟩
  rintro _ _ ⟨rfl, rfl⟩
  exact sg_X12_newLoad_102 _ _ _ _ ⟨rfl, rfl⟩
theorem mw_new_ne {I : mx_I} {n a : Nat} {a1 a2 a3 : Int32} (h : a ≠ 121) : mw_new I n a1 a2 a3 a = I a := by
  unfold mw_new; rw [ms_ne h, ms_ne h, ms_ne h, ms_ne h, ms_ne h, ms_ne h, ms_ne h, ms_ne h, ms_ne h, ms_ne h, ms_ne h]
theorem mw_new_out {I : mx_I} {n k : Nat} {a1 a2 a3 : Int32} (h2 : k ≠ 2) (h : k < 20 + 10 * n ∨ 30 + 10 * n ≤ k) : mw_new I n a1 a2 a3 121 k = I 121 k := by
  unfold mw_new
  simp only [ms_self]
  rw [upd_ne (by omega), upd_ne (by omega), upd_ne (by omega), upd_ne (by omega), upd_ne (by omega), upd_ne (by omega), upd_ne (by omega), upd_ne (by omega), upd_ne (by omega), upd_ne (by omega), upd_ne h2]
theorem mw_new_in {I : mx_I} {n : Nat} {a1 a2 a3 : Int32} : ∀ j, j < 10 → mw_new I n a1 a2 a3 121 (20 + 10 * n + j) = if j = 0 then a1 else if j = 1 then a2 else if j = 2 then a3 else if j < 7 then -1 else 0 := by
  intro j hj
  unfold mw_new
  simp only [ms_self, upd]
  rcases (show j = 0 ∨ j = 1 ∨ j = 2 ∨ j = 3 ∨ j = 4 ∨ j = 5 ∨ j = 6 ∨ j = 7 ∨ j = 8 ∨ j = 9 by omega) with rfl | rfl | rfl | rfl | rfl | rfl | rfl | rfl | rfl | rfl <;> simp
theorem mw_new_2 {I : mx_I} {n : Nat} {a1 a2 a3 : Int32} : mw_new I n a1 a2 a3 121 2 = nI (n + 1) := by
  unfold mw_new
  simp only [ms_self]
  rw [upd_ne (by omega), upd_ne (by omega), upd_ne (by omega), upd_ne (by omega), upd_ne (by omega), upd_ne (by omega), upd_ne (by omega), upd_ne (by omega), upd_ne (by omega), upd_ne (by omega), upd_eq]
/-- the class's cells behind Loads.add -/
def cw_new (I : mx_I) (n : Nat) (a1 a2 a3 : Int32) : mx_I := mx_set (mx_set (mx_set (mx_set (mx_set (mx_set I 3 n a1) 4 n a2) 5 n a3) 6 n (-1)) 7 n 0) 2 5 (nI (n + 1))
theorem sp_addL {l : Launch} {d c : Nat} {I : mx_I} {n : Nat} (hn : I 2 5 = nI n) (h : n ≤ 30) (a1 a2 a3 : Int32) : mx_Spec l mX5_add (d + 1) 0 0 [.ref 2, .int a1, .int a2, .int a3] (sk0 c, I) (fun r h' => r = some (.int (if n < 30 then nI n else -1)) ∧ h' = (sk0 c, if n < 30 then cw_new I n a1 a2 a3 else I)) := by
  have hb : I 2 5 < 30 → n < 30 := fun z => by rw [hn, i_lt, nI_toInt (by omega)] at z; have : (n : Int) < 30 := z; omega
  have hv : I 2 5 < 30 → vp_in (I 2 5) 30 := fun z => by rw [hn]; exact i_vp (hb z) (by omega)
  refine sn_X5_add a1 a2 a3 hv hv hv hv hv (fun z => ?_) (fun z => ?_)
  · rw [if_pos (hb z), if_pos (hb z), hn, nI_clamp (by omega), show nI n + 1 = nI (n + 1) from nI_1 n]
    exact ⟨by rw [show nI (n + 1) - 1 = nI n from nI_pred n], rfl⟩
  · have : ¬ n < 30 := fun q => z (by rw [hn]; exact nI_lt q (by decide))
    rw [if_neg this, if_neg this]
    exact ⟨rfl, rfl⟩
theorem cw_new_ne {I : mx_I} {n a : Nat} {a1 a2 a3 : Int32} (h : a < 2 ∨ 7 < a) : cw_new I n a1 a2 a3 a = I a := by
  unfold cw_new; rw [ms_ne (by omega), ms_ne (by omega), ms_ne (by omega), ms_ne (by omega), ms_ne (by omega), ms_ne (by omega)]
theorem cw_new_2 {I : mx_I} {n : Nat} {a1 a2 a3 : Int32} : cw_new I n a1 a2 a3 2 5 = nI (n + 1) := by
  unfold cw_new; rw [ms_self, upd_eq]
theorem cw_new_row {I : mx_I} {n : Nat} {a1 a2 a3 : Int32} {j i : Nat} (hj : j < 5) : cw_new I n a1 a2 a3 (3 + j) i = if i = n then (if j = 0 then a1 else if j = 1 then a2 else if j = 2 then a3 else if j = 3 then -1 else 0) else I (3 + j) i := by
  unfold cw_new
  rcases (show j = 0 ∨ j = 1 ∨ j = 2 ∨ j = 3 ∨ j = 4 by omega) with rfl | rfl | rfl | rfl | rfl <;> simp [ms_row, upd]
theorem RLaw.w {I I' : mx_I} {c : Nat} {w w' : Nat → Int32} (h : RLaw I c w) (h0 : ∀ j, j ≤ 3 → I' (c + j) = I (c + j)) (hw : ∀ i, 1600 ≤ i → w' i = w i) : RLaw I' c w' := h.congr (h0 0 (by omega)) (h0 1 (by omega)) (h0 2 (by omega)) (h0 3 (by omega)) hw
set_option maxHeartbeats 1000000 in
theorem Rel.load {I I' : mx_I} {w' : Nat → Int32} {a1 a2 a3 : Int32} {nb now nl nc no ni nk : Nat} {hp : Nat → List Nat} (h1 : RScal I 1 33 43 (I 121) nb now nl nc no ni nk) (h2 : RTabs I 1 33 43 (I 121) nl nc no ni nk) (h3 : RInv I 1 33 nb now nl nc no ni) (h4 : RHeap I 33 (I 121) hp nb now nl) (h5 : RLaw I (1 + 27) (I 121))
    (hn : nl < 30) (b1 : bnd a1 1 99) (b2 : bnd a2 0 nb) (b3 : bnd a3 now 167)
    (hI : ∀ a, a < 2 ∨ (7 < a ∧ a ≠ 121) → I' a = I a) (hI2 : I' 2 5 = nI (nl + 1)) (hr : ∀ j, j < 5 → ∀ i, I' (3 + j) i = if i = nl then (if j = 0 then a1 else if j = 1 then a2 else if j = 2 then a3 else if j = 3 then -1 else 0) else I (3 + j) i)
    (hw2 : w' 2 = nI (nl + 1)) (hwo : ∀ k, k ≠ 2 → (k < 20 + 10 * nl ∨ 30 + 10 * nl ≤ k) → w' k = I 121 k) (hwi : ∀ j, j < 10 → w' (20 + 10 * nl + j) = if j = 0 then a1 else if j = 1 then a2 else if j = 2 then a3 else if j < 7 then -1 else 0) : Rel I' 1 33 43 w' := by
  obtain ⟨⟨s1, s2, s3, s4, s5, s6, s7, s8⟩, ⟨c1, c2, c3, c4, c5, c6, c7⟩, ⟨d1, d2, d3, d4, d5, d6, d7⟩, ⟨e1, e2, e3⟩, f1, f2⟩ := h1
  obtain ⟨r1, r2, r3, r4, r5, r6, r7, r8, r9⟩ := h2
  obtain ⟨v1, v2, v3, v4, v5, v6, v7, v8⟩ := h3
  obtain ⟨p1, p2, p3, p4, p5, p6, p7⟩ := h4
  have hne : ∀ j i, j < 5 → i ≠ nl → I' (3 + j) i = I (3 + j) i := fun j i hj hi => by rw [hr j hj, if_neg hi]
  refine ⟨nb, now, nl + 1, nc, no, ni, nk, hp, ⟨⟨s1, s2, s3, by omega, s5, s6, s7, s8⟩, ⟨?_, ?_, hI2, ?_, ?_, ?_, ?_⟩, ⟨?_, ?_, hw2, ?_, ?_, ?_, ?_⟩, ⟨?_, ?_, ?_⟩, ?_, ?_⟩, ⟨?_, ?_, ?_, ?_, ?_, ?_, ?_, ?_, ?_⟩, ⟨?_, ?_, ?_, ?_, ?_, ?_, ?_, ?_⟩, ⟨?_, ?_, ?_, ?_, ?_, ?_, ?_⟩, ?_⟩
  · rw [hI _ (by omega)]; exact c1
  · rw [hI _ (by omega)]; exact c2
  · rw [hI _ (by omega)]; exact c4
  · rw [hI _ (by omega)]; exact c5
  · rw [hI _ (by omega)]; exact c6
  · rw [hI _ (by omega)]; exact c7
  · rw [hwo _ (by omega) (by omega)]; exact d1
  · rw [hwo _ (by omega) (by omega)]; exact d2
  · rw [hwo _ (by omega) (by omega)]; exact d4
  · rw [hwo _ (by omega) (by omega)]; exact d5
  · rw [hwo _ (by omega) (by omega)]; exact d6
  · rw [hwo _ (by omega) (by omega)]; exact d7
  · rw [hwo _ (by omega) (by omega), hI _ (by omega)]; exact e1
  · rw [hwo _ (by omega) (by omega), hI _ (by omega)]; exact e2
  · rw [hwo _ (by omega) (by omega), hI _ (by omega)]; exact e3
  · rw [hI _ (by omega)]; exact f1
  · rw [hI _ (by omega)]; exact f2
  · intro i hi j hj
    by_cases e : i = nl
    · subst e
      rw [hwi j (by omega), show 1 + 2 + j = 3 + j by omega, hr j (by omega), if_pos rfl]
      rcases (show j = 0 ∨ j = 1 ∨ j = 2 ∨ j = 3 by omega) with rfl | rfl | rfl | rfl <;> rfl
    · rw [hwo _ (by omega) (by omega), show 1 + 2 + j = 3 + j by omega, hne j i (by omega) e]
      exact r1 i (by omega) j hj
  · intro i hi
    by_cases e : i = nl
    · subst e
      left
      rw [show 1 + 5 = 3 + 3 by omega, hr 3 (by omega), if_pos rfl]; rfl
    · rw [hwo _ (by omega) (by omega), show 1 + 5 = 3 + 3 by omega, hne 3 i (by omega) e, show 1 + 6 = 3 + 4 by omega, hne 4 i (by omega) e]
      exact r2 i (by omega)
  · intro i hi j hj
    rw [hI _ (by omega)]
    by_cases e : i = nl
    · subst e
      rw [show 25 + 10 * i + j = 20 + 10 * i + (5 + j) by omega, hwi (5 + j) (by omega)]
      have := v5 i (Nat.le_refl _) hn
      rcases (show j = 0 ∨ j = 1 ∨ j = 2 ∨ j = 3 by omega) with rfl | rfl | rfl | rfl
      · rw [this.1]; rfl
      · rw [this.2.1]; rfl
      · rw [this.2.2.1]; rfl
      · rw [this.2.2.2]; rfl
    · rw [hwo _ (by omega) (by omega)]
      exact r3 i (by omega) j hj
  · exact r4.congr (fun j hj => hI _ (by omega)) (fun i hi j hj => hwo _ (by omega) (by omega))
  · exact r5.congr (fun j hj => hI _ (by omega)) (fun i hi j hj => hwo _ (by omega) (by omega))
  · exact r6.congr (fun j hj => hI _ (by omega)) (fun i hi j hj => hwo _ (by omega) (by omega))
  · exact r7.congr (fun j hj => hI _ (by omega)) (fun i hi j hj => hwo _ (by omega) (by omega))
  · exact r8.congr (fun j hj => hI _ (by omega)) (fun i hi j hj => hwo _ (by omega) (by omega))
  · exact r9.congr (fun j hj => hI _ (by omega)) (fun i hi j hj => hwo _ (by omega) (by omega))
  · intro i hi
    by_cases e : i = nl
    · subst e
      rw [show 1 + 2 = 3 + 0 by omega, hr 0 (by omega), show 1 + 3 = 3 + 1 by omega, hr 1 (by omega), show 1 + 4 = 3 + 2 by omega, hr 2 (by omega), show 1 + 5 = 3 + 3 by omega, hr 3 (by omega), show 1 + 6 = 3 + 4 by omega, hr 4 (by omega)]
      simp only [if_true]
      have q : (-1 : Int32).toInt = -1 := by decide
      have q0 : (0 : Int32).toInt = 0 := by decide
      refine ⟨b1, b2, ⟨by show (0 : Int) ≤ a3.toInt; have := b3.1; omega, b3.2⟩, ⟨?_, ?_⟩, ⟨?_, ?_⟩⟩
      · show (-1 : Int) ≤ (-1 : Int32).toInt; rw [q]; omega
      · show (-1 : Int32).toInt ≤ (nb : Int); rw [q]; omega
      · show (0 : Int) ≤ (0 : Int32).toInt; rw [q0]; omega
      · show (0 : Int32).toInt ≤ (167 : Int); rw [q0]; omega
    · rw [show 1 + 2 = 3 + 0 by omega, hne 0 i (by omega) e, show 1 + 3 = 3 + 1 by omega, hne 1 i (by omega) e, show 1 + 4 = 3 + 2 by omega, hne 2 i (by omega) e, show 1 + 5 = 3 + 3 by omega, hne 3 i (by omega) e, show 1 + 6 = 3 + 4 by omega, hne 4 i (by omega) e]
      exact v1 i (by omega)
  · simp only [hI (1 + 8) (by omega), hI (1 + 9) (by omega), hI (1 + 10) (by omega), hI (1 + 11) (by omega), hI (1 + 12) (by omega), hI (1 + 13) (by omega), hI (1 + 14) (by omega), hI (1 + 15) (by omega), hI (1 + 16) (by omega)]
    exact v2
  · simp only [hI (1 + 18) (by omega), hI (1 + 19) (by omega), hI (1 + 20) (by omega), hI (1 + 21) (by omega), hI (1 + 22) (by omega)]
    exact v3
  · simp only [hI (1 + 24) (by omega), hI (1 + 25) (by omega)]
    exact v4
  · simp only [hI (33 + 1) (by omega), hI (33 + 2) (by omega), hI (33 + 3) (by omega), hI (33 + 4) (by omega)]
    exact fun i h1 h2 => v5 i (by omega) h2
  · simp only [hI (33 + 7) (by omega), hI (33 + 8) (by omega), hI (33 + 9) (by omega)]
    exact v6
  · simp only [hI (33 + 1) (by omega), hI (33 + 2) (by omega), hI (33 + 3) (by omega), hI (33 + 4) (by omega)]
    intro i hi
    by_cases e : i = nl
    · subst e
      rw [show 1 + 4 = 3 + 2 by omega, hr 2 (by omega), if_pos rfl]
      have := v5 i (Nat.le_refl _) hn
      exact ⟨fun q => by have q' : a3.toInt < now := q; have := b3.1; omega, fun _ => this⟩
    · rw [show 1 + 4 = 3 + 2 by omega, hne 2 i (by omega) e]
      exact v7 i (by omega)
  · simp only [hI (33 + 7) (by omega)]
    exact v8
  · simp only [hI (33 + 6) (by omega), hI (33 + 5) (by omega)]
    exact p1
  · simp only [hI (33 + 1) (by omega), hI (33 + 4) (by omega)]
    intro e he
    refine ⟨(p2 e he).1, fun x => ?_⟩
    rw [(p2 e he).2 x]
    constructor
    · rintro ⟨q1, q2⟩; exact ⟨by omega, q2⟩
    · rintro ⟨q1, q2, q3⟩
      refine ⟨?_, q2, q3⟩
      rcases Nat.lt_or_ge x nl with z | z
      · exact z
      · have ex : x = nl := by omega
        subst ex
        rw [(v5 x (Nat.le_refl _) hn).1] at q2
        have := congrArg Int32.toInt q2
        rw [nI_toInt (by omega)] at this
        have q : (-1 : Int32).toInt = -1 := by decide
        omega
  · simp only [hI (33 + 1) (by omega)]
    intro i hi
    by_cases e : i = nl
    · subst e; exact Or.inl (v5 i (Nat.le_refl _) hn).1
    · exact p3 i (by omega)
  · simp only [hI (33 + 4) (by omega)]
    intro i hi
    by_cases e : i = nl
    · subst e; exact Or.inl (v5 i (Nat.le_refl _) hn).2.2.2
    · exact p4 i (by omega)
  · intro e he
    refine (p5 e he).imp_of_mem (fun {x y} hx hy hxy => ?_)
    have x1 := (((p2 e he).2 x).mp hx).1
    have y1 := (((p2 e he).2 y).mp hy).1
    rw [hwo _ (by omega) (by omega), hwo _ (by omega) (by omega)]
    exact hxy
  · intro e he x hx
    have x1 := (((p2 e he).2 x).mp hx).1
    rw [hwo _ (by omega) (by omega), hwo 10 (by omega) (by omega)]
    exact p6 e he x hx
  · rw [hwo 10 (by omega) (by omega)]; exact p7
  · exact h5.w (fun j hj => hI _ (by omega)) (fun i hi => hwo _ (by omega) (by omega))
def ok_load (a1 a2 a3 : Int32) (I : mx_I) : Bool := inR a1 1 99 && inR a2 0 (I 1 5).toInt && inR a3 (I 33 9).toInt 167 && decide ((I 2 5).toInt < 30)
theorem inRb {x : Int32} {lo hi : Int} (h : inR x lo hi = true) : bnd x lo hi := inR_t.mp h
set_option maxHeartbeats 1000000 in
theorem p_load {l : Launch} (a1 a2 a3 : Int32) : mx_PrI l Sim mX11_load mX12_load [.int a1, .int a2, .int a3] := by
  refine pr_upd (fun _ I => if ok_load a1 a2 a3 I = true then I 2 5 else -1) (fun _ I => if ok_load a1 a2 a3 I = true then cw_new I (I 2 5).toNatClampNeg a1 a2 a3 else I) (fun _ I => if ok_load a1 a2 a3 I = true then mw_new (cw_new I (I 2 5).toNatClampNeg a1 a2 a3) (I 2 5).toNatClampNeg a1 a2 a3 else I) (fun c I hs => ?_) (fun c I hs => ?_) (fun c I hs => ?_)
  · obtain ⟨nb, now, nl, nc, no, ni, nk, hp, ⟨⟨s1, s2, s3, s4, -⟩, ⟨c1, c2, c3, -⟩, -⟩, -⟩ := hs.2.1
    have c3 : I 2 5 = nI nl := c3
    have e1 : (I 1 5).toInt = nb := by rw [c1]; exact nI_toInt (by omega)
    have e2 : (I 33 9).toInt = now := by rw [c2]; exact nI_toInt (by omega)
    have e3 : (I 2 5).toInt = nl := by rw [c3]; exact nI_toInt (by omega)
    have e4 : (I 2 5).toNatClampNeg = nl := by rw [c3]; exact nI_clamp (by omega)
    simp only [ok_load, e1, e2, e3, e4]
    refine sn_X11_load a1 a2 a3 (fun h => ?_) (fun h g => ?_) (fun h g => ⟨_, sp_hasEnd a2 c1 s2, ?_⟩)
    · have h' : a1.toInt < 1 := (i_lt _ _).mp h
      rw [(inR_f.mpr (by omega) : inR a1 1 99 = false)]; exact ⟨rfl, rfl⟩
    · have g' : 99 < a1.toInt := (i_lt _ _).mp g
      rw [(inR_f.mpr (by omega) : inR a1 1 99 = false)]; exact ⟨rfl, rfl⟩
    · have h' : ¬ a1.toInt < 1 := fun z => h ((i_lt _ _).mpr z)
      have g' : ¬ 99 < a1.toInt := fun z => g ((i_lt _ _).mpr z)
      rw [(inR_t.mpr (by omega) : inR a1 1 99 = true)]
      rintro _ _ ⟨rfl, rfl⟩
      cases h2 : inR a2 0 nb with
      | false => exact sg_X11_load_19 _ _ _ _ (fun _ => ⟨rfl, rfl⟩) (fun z => absurd rfl z)
      | true =>
        refine sg_X11_load_19 _ _ _ _ (fun z => absurd z (by decide)) (fun _ => ⟨_, sp_isAhead a3 c2 s3, ?_⟩)
        rintro _ _ ⟨rfl, rfl⟩
        cases h3 : inR a3 now 167 with
        | false => exact sg_X11_load_27 _ _ _ _ (fun z => absurd rfl z) (fun _ => ⟨rfl, rfl⟩)
        | true =>
          refine sg_X11_load_27 _ _ _ _ (fun _ => ⟨_, sp_addL c3 s4 a1 a2 a3, ?_⟩) (fun z => absurd z (by decide))
          rintro _ _ ⟨rfl, rfl⟩
          refine sg_X11_load_45 _ _ _ _ ⟨?_, ?_⟩
          · by_cases hn : nl < 30
            · have hn' : (nl : Int) < 30 := by omega
              simp [hn, hn', c3]
            · have hn' : ¬ (nl : Int) < 30 := by omega
              simp [hn, hn']
          · by_cases hn : nl < 30
            · have hn' : (nl : Int) < 30 := by omega
              simp [hn, hn']
            · have hn' : ¬ (nl : Int) < 30 := by omega
              simp [hn, hn']
  · obtain ⟨nb, now, nl, nc, no, ni, nk, hp, ⟨⟨s1, s2, s3, s4, -⟩, ⟨c1, c2, c3, -⟩, ⟨d1, d2, d3, -⟩, -⟩, -⟩ := hs.2.1
    have c3 : I 2 5 = nI nl := c3
    have e1 : (I 1 5).toInt = nb := by rw [c1]; exact nI_toInt (by omega)
    have e2 : (I 33 9).toInt = now := by rw [c2]; exact nI_toInt (by omega)
    have e3 : (I 2 5).toInt = nl := by rw [c3]; exact nI_toInt (by omega)
    have e4 : (I 2 5).toNatClampNeg = nl := by rw [c3]; exact nI_clamp (by omega)
    have kk : ok_load a1 a2 a3 I = (inR a1 1 99 && inR a2 0 nb && inR a3 now 167 && decide ((nl : Int) < 30)) := by simp only [ok_load, e1, e2, e3]
    rw [e4]
    have z0 : ∀ j, (if ok_load a1 a2 a3 I = true then cw_new I nl a1 a2 a3 else I) 121 j = I 121 j := fun j => by
      split
      · rw [cw_new_ne (by omega)]
      · rfl
    refine sn_X12_load a1 a2 a3 ⟨_, sp_isIn _ _ _, ?_⟩
    rintro _ _ ⟨rfl, rfl⟩
    rw [show ((1 : Int32).toInt) = 1 from by decide, show ((99 : Int32).toInt) = 99 from by decide]
    cases h1 : inR a1 1 99 with
    | false =>
      have kf : ok_load a1 a2 a3 I = false := by rw [kk, h1]; rfl
      rw [kf]
      exact sg_X12_load_7 _ _ _ _ (fun _ => ⟨rfl, rfl⟩) (fun z => absurd rfl z)
    | true =>
      refine sg_X12_load_7 _ _ _ _ (fun z => absurd z (by decide)) (fun _ => ⟨_, sp_isEnd a2 ((z0 0).trans d1) s2, ?_⟩)
      rintro _ _ ⟨rfl, rfl⟩
      cases h2 : inR a2 0 nb with
      | false =>
        have kf : ok_load a1 a2 a3 I = false := by rw [kk, h1, h2]; rfl
        rw [kf]
        exact sg_X12_load_15 _ _ _ _ (fun _ => ⟨rfl, rfl⟩) (fun z => absurd rfl z)
      | true =>
        refine sg_X12_load_15 _ _ _ _ (fun z => absurd z (by decide)) (fun _ => ⟨_, sp_isHour a3 ((z0 1).trans d2) s3, ?_⟩)
        rintro _ _ ⟨rfl, rfl⟩
        cases h3 : inR a3 now 167 with
        | false =>
          have kf : ok_load a1 a2 a3 I = false := by rw [kk, h1, h2, h3]; rfl
          rw [kf]
          exact sg_X12_load_23 _ _ _ _ (fun _ => ⟨rfl, rfl⟩) (fun z => absurd rfl z) (fun z => absurd rfl z)
        | true =>
          by_cases hn : nl < 30
          · have hn' : (nl : Int) < 30 := by omega
            have kf : ok_load a1 a2 a3 I = true := by rw [kk, h1, h2, h3]; simp [hn']
            rw [kf]
            simp only [if_true]
            have q2 : cw_new I nl a1 a2 a3 121 2 = nI nl := by rw [cw_new_ne (by omega)]; exact d3
            refine sg_X12_load_23 _ _ _ _ (fun z => absurd z (by decide)) (fun _ _ => ⟨_, sp_newLoad q2 hn a1 a2 a3, ?_⟩) (fun _ z => ?_)
            · rintro _ _ ⟨rfl, rfl⟩
              refine sg_X12_load_46 _ _ _ ⟨?_, rfl⟩
              rw [mw_new_2, show nI (nl + 1) - 1 = nI nl from nI_pred nl, c3]
            · rw [q2, show (30 : Int32) = nI 30 from rfl, nI_eq (by omega) (by omega)] at z
              omega
          · have hn' : ¬ (nl : Int) < 30 := by omega
            have kf : ok_load a1 a2 a3 I = false := by rw [kk, h1, h2, h3]; simp [hn']
            rw [kf]
            refine sg_X12_load_23 _ _ _ _ (fun z => absurd z (by decide)) (fun _ z => ?_) (fun _ _ => ⟨rfl, rfl⟩)
            refine absurd ?_ z
            show I 121 2 = 30
            rw [d3, show nl = 30 by omega]; rfl
  · cases kf : ok_load a1 a2 a3 I with
    | false => simpa using hs
    | true =>
      simp only [if_true]
      obtain ⟨nb, now, nl, nc, no, ni, nk, hp, g1, g2, g3, g4, g5⟩ := hs.2.1
      have c3 : I 2 5 = nI nl := g1.2.1.2.2.1
      have s4 := g1.1.2.2.2.1
      have e1 : (I 1 5).toInt = nb := by rw [g1.2.1.1]; exact nI_toInt (by have := g1.1.2.1; omega)
      have e2 : (I 33 9).toInt = now := by rw [g1.2.1.2.1]; exact nI_toInt (by have := g1.1.2.2.1; omega)
      have e3 : (I 2 5).toInt = nl := by rw [c3]; exact nI_toInt (by omega)
      have e4 : (I 2 5).toNatClampNeg = nl := by rw [c3]; exact nI_clamp (by omega)
      simp only [ok_load, e1, e2, e3, Bool.and_eq_true, decide_eq_true_eq] at kf
      obtain ⟨⟨⟨h1, h2⟩, h3⟩, h4⟩ := kf
      rw [e4]
      have rI : ∀ a, a < 2 ∨ (7 < a ∧ a ≠ 121) → mw_new (cw_new I nl a1 a2 a3) nl a1 a2 a3 a = I a := fun a h => by rw [mw_new_ne (by omega), cw_new_ne (by omega)]
      refine hs.world hs.1 ?_ (by rw [rI 0 (by omega)]) (fun a h1 h2 => rI a (by omega)) (rI _ (by omega)) (rI _ (by omega)) (rI _ (by omega)) (rI _ (by omega)) (fun j _ => by rw [rI 120 (by omega)])
      refine Rel.load g1 g2 g3 g4 g5 (by omega) (inRb h1) (inRb h2) (inRb h3) rI ?_ (fun j hj i => ?_) mw_new_2 (fun k h1 h2 => ?_) (fun j hj => mw_new_in j hj)
      · rw [mw_new_ne (by omega)]; exact cw_new_2
      · rw [mw_new_ne (by omega)]; exact cw_new_row hj
      · rw [mw_new_out h1 h2, cw_new_ne (by omega)]
