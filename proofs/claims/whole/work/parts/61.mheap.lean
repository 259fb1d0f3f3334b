/-! the model: a heap is laid, what is taken -/
theorem gd_ins {X Y : List Nat} {k j : Nat} : (X ++ k :: Y).getD j 0 = if j < X.length then (X ++ Y).getD j 0 else if j = X.length then k else (X ++ Y).getD (j - 1) 0 := by
  simp only [List.getD_eq_getElem?_getD]
  split
  · rename_i h
    rw [List.getElem?_append_left h, List.getElem?_append_left h]
  · rename_i h
    rw [List.getElem?_append_right (by omega)]
    split
    · rename_i h2
      rw [h2, Nat.sub_self]; rfl
    · rename_i h2
      obtain ⟨m, hm⟩ : ∃ m, j - X.length = m + 1 := ⟨j - X.length - 1, by omega⟩
      rw [hm, List.getElem?_cons_succ, List.getElem?_append_right (by omega), show j - 1 - X.length = m from by omega]
theorem fl_in {L : List Nat} (hd : L.Nodup) {k : Nat} (h : k ∈ L) : ∃ X Y : List Nat, L.filter (fun x => decide (x < k)) = X ++ Y ∧ L.filter (fun x => decide (x < k + 1)) = X ++ k :: Y ∧ (∀ x ∈ X, x ∈ L) ∧ (∀ x ∈ Y, x ∈ L) ∧ ∀ R : Nat → Nat → Prop, L.Pairwise R → (∀ x ∈ X, R x k) ∧ ∀ y ∈ Y, R k y := by
  obtain ⟨X0, Y0, rfl⟩ := List.append_of_mem h
  have hd2 := List.nodup_append.mp hd
  have hX : k ∉ X0 := fun z => hd2.2.2 k z k (by simp) rfl
  have hY : k ∉ Y0 := (List.nodup_cons.mp hd2.2.1).1
  refine ⟨X0.filter (fun x => decide (x < k)), Y0.filter (fun x => decide (x < k)), ?_, ?_, fun x hx => ?_, fun x hx => ?_, fun R hR => ?_⟩
  · rw [List.filter_append, List.filter_cons]
    simp
  · rw [List.filter_append, List.filter_cons]
    have e1 : X0.filter (fun x => decide (x < k + 1)) = X0.filter (fun x => decide (x < k)) := List.filter_congr (fun x hx => by
      have : x ≠ k := fun z => hX (z ▸ hx)
      simp; omega)
    have e2 : Y0.filter (fun x => decide (x < k + 1)) = Y0.filter (fun x => decide (x < k)) := List.filter_congr (fun x hx => by
      have : x ≠ k := fun z => hY (z ▸ hx)
      simp; omega)
    rw [e1, e2]
    simp
  · exact List.mem_append_left _ (List.mem_filter.mp hx).1
  · exact List.mem_append_right _ (List.mem_cons_of_mem _ (List.mem_filter.mp hx).1)
  · obtain ⟨a, b, c⟩ := List.pairwise_append.mp hR
    exact ⟨fun x hx => c x (List.mem_filter.mp hx).1 k (by simp), fun y hy => (List.pairwise_cons.mp b).1 y (List.mem_filter.mp hy).1⟩
theorem fl_out {L : List Nat} {k : Nat} (h : k ∉ L) : L.filter (fun x => decide (x < k + 1)) = L.filter (fun x => decide (x < k)) := List.filter_congr (fun x hx => by
  have : x ≠ k := fun z => h (z ▸ hx)
  simp; omega)
def HPl (I : mx_I) (L : List Nat) : Prop := I 120 29 = nI L.length ∧ ∀ j, j < L.length → I 129 j = nI (L.getD j 0)
/-- laying a heap writes nothing else -/
def LF (Ib I : mx_I) : Prop := (∀ k, k ≠ 120 → k ≠ 129 → I k = Ib k) ∧ (∀ j, j ≠ 29 → I 120 j = Ib 120 j)
def Taken (I : mx_I) (L : List Nat) : Prop := I 120 30 = nI L.length ∧ ∀ j, j < L.length → I 130 j = nI (L.getD j 0)
section M
variable {l : Launch} {c : Nat} {P : Pm} {I0 : mx_I}
theorem MR.at {A : HS} {I : mx_I} (h : MR P A I0 I) {x j : Nat} (hx : x < P.nl) (j1 : 1 ≤ j) (j5 : j ≤ 5) : I 121 (24 + 10 * x + j) = A.r j x := h.2.1.1 x hx j j1 j5
theorem MR.ld {A : HS} {I : mx_I} (h : MR P A I0 I) {x j : Nat} (hx : x < P.nl) (hj : j < 4) : I 121 (20 + 10 * x + j) = P.R (3 + j) x := h.1.2.2.1 x hx j hj
theorem MR.cr {A : HS} {I : mx_I} (h : MR P A I0 I) {i j : Nat} (hi : i < P.nc) (hj : j < 8) : I 121 (320 + 14 * i + j) = P.R (9 + j) i := h.1.2.2.2.2.1 i hi j hj
theorem MR.cs {A : HS} {I : mx_I} (h : MR P A I0 I) {i : Nat} (hi : i < P.nc) : I 121 (321 + 14 * i + 7) = A.r 7 i := h.2.1.2.1 i hi 7 (by omega) (by omega) (Or.inl rfl)
theorem MR.cs8 {A : HS} {I : mx_I} (h : MR P A I0 I) (hfl : P.fl = true) {i j : Nat} (hi : i < P.nc) (j1 : 7 ≤ j) (j2 : j ≤ 9) : I 121 (321 + 14 * i + j) = A.r j i := h.2.1.2.1 i hi j j1 j2 (Or.inr hfl)
theorem MR.of {A : HS} {I : mx_I} (h : MR P A I0 I) {o j : Nat} (ho : o < P.no) (hj : j < 4) : I 121 (1500 + 5 * o + j) = P.R (19 + j) o := h.1.2.2.2.2.2 o ho j hj
theorem sp_isThere {d : Nat} {A : HS} {I : mx_I} {x : Nat} {y : Int32} (h : MR P A I0 I) (hx : x < P.nl) (hP : P.nl ≤ 30) : mx_Spec l mX12_isThere (d + 2) 0 0 [.ref 120, .int (nI x), .int y] (sk0 c, I) (fun r h' => r = some (.int (b2i (decide (A.r 1 x = y ∧ A.r 4 x = 0)))) ∧ h' = (sk0 c, I)) := by
  refine sn_X12_isThere _ _ ⟨_, sp_ofLoad 5 rfl (by omega) (by omega), ?_⟩
  rintro _ _ ⟨rfl, rfl⟩
  rw [show 20 + 10 * x + 5 = 24 + 10 * x + 1 from by omega, h.at hx (by omega) (by omega)]
  refine sg_X12_isThere_6 _ _ _ (fun g => ⟨by rw [decide_eq_false (fun z => g z.1)]; rfl, rfl⟩) (fun g => ⟨_, sp_ofLoad 8 rfl (by omega) (by omega), ?_⟩)
  rintro _ _ ⟨rfl, rfl⟩
  rw [show 20 + 10 * x + 8 = 24 + 10 * x + 4 from by omega, h.at hx (by omega) (by omega)]
  exact sg_X12_isThere_17 _ _ _ (fun g2 => ⟨by rw [decide_eq_false (fun z => g2 z.2)]; rfl, rfl⟩) (fun g2 => ⟨by rw [decide_eq_true ⟨g, g2⟩]; rfl, rfl⟩)
set_option maxHeartbeats 1000000 in
theorem lh_ins {d : Nat} {Q : Option Value → mx_H → Prop} {Ib : mx_I} {A : HS} {e : Int32} {k : Nat} {X Y : List Nat} (hP : P.nl ≤ 30) (hk : k < P.nl) (hX : ∀ x ∈ X, x < P.nl ∧ (A.r 5 x).toInt < (A.r 5 k).toInt) (hY : ∀ y ∈ Y, y < P.nl ∧ (A.r 5 k).toInt < (A.r 5 y).toInt) (hlen : X.length + Y.length < 30) :
    ∀ (m : Nat) (I : mx_I), m ≤ Y.length → LF Ib I → MR P A I0 I → I 120 29 = nI (X.length + Y.length) → (∀ j, j < X.length + m → I 129 j = nI ((X ++ Y).getD j 0)) → (∀ j, X.length + m ≤ j → j < X.length + Y.length → I 129 (j + 1) = nI ((X ++ Y).getD j 0)) →
    (∀ (I' : mx_I) (y : Int32), LF Ib I' → MR P A I0 I' → HPl I' (X ++ k :: Y) → mx_Go l (mx_rm (d + 2) 0 0) mX12_laysHeap (mx_Z Q 0 0) 0 0 7 [.ref 120, .int e, .int (nI k + 1), .int y] [] (sk0 c, I')) →
    mx_Go l (mx_rm (d + 2) 0 0) mX12_laysHeap (mx_Z Q 0 0) 0 0 34 [.ref 120, .int e, .int (nI k), .int (nI (X.length + m))] [] (sk0 c, I) := by
  intro m
  -- put in
  have put : ∀ (I : mx_I), LF Ib I → MR P A I0 I → I 120 29 = nI (X.length + Y.length) → (∀ j, j < X.length → I 129 j = nI ((X ++ Y).getD j 0)) → (∀ j, X.length ≤ j → j < X.length + Y.length → I 129 (j + 1) = nI ((X ++ Y).getD j 0)) →
      (∀ (I' : mx_I) (y : Int32), LF Ib I' → MR P A I0 I' → HPl I' (X ++ k :: Y) → mx_Go l (mx_rm (d + 2) 0 0) mX12_laysHeap (mx_Z Q 0 0) 0 0 7 [.ref 120, .int e, .int (nI k + 1), .int y] [] (sk0 c, I')) →
      mx_Go l (mx_rm (d + 2) 0 0) mX12_laysHeap (mx_Z Q 0 0) 0 0 7 [.ref 120, .int e, .int (nI k + 1), .int (nI X.length)] [] (sk0 c, mx_set (mx_set I 129 X.length (nI k)) 120 29 (I 120 29 + 1)) := by
    intro I hf h h29 ha hb hQ
    refine hQ _ _ ⟨fun a a1 a2 => by rw [ms_ne a1, ms_ne a2]; exact hf.1 a a1 a2, fun j hj => by rw [ms_self, upd_ne hj, ms_ne (by omega)]; exact hf.2 j hj⟩ (h.scr (fun a a1 a2 a3 a4 a5 => by rw [ms_ne a1, ms_ne a4]) (fun j j1 j2 => by rw [ms_self, upd_ne j1, ms_ne (by omega)])) ⟨?_, fun j hj => ?_⟩
    · rw [ms_self, upd_eq, h29, nI_1]
      congr 1
      simp; omega
    · rw [ms_ne (by omega), ms_self, gd_ins]
      simp only [List.length_append, List.length_cons] at hj
      by_cases q : j < X.length
      · rw [if_pos q, upd_ne (by omega)]; exact ha j q
      · rw [if_neg q]
        by_cases q2 : j = X.length
        · rw [if_pos q2, q2, upd_eq]
        · rw [if_neg q2, upd_ne q2]
          have := hb (j - 1) (by omega) (by omega)
          rw [show j - 1 + 1 = j from by omega] at this
          exact this
  induction m with
  | zero =>
    intro I hm hf h h29 ha hb hQ
    rw [Nat.add_zero] at ha hb ⊢
    have b1 : vp_in (nI X.length) 30 := i_vp (by omega) (by omega)
    have S := @sg_X12_laysHeap_34 l (d + 1) Q c I e (nI k) (nI X.length)
    rw [nI_clamp (n := X.length) (by omega)] at S
    by_cases q : X.length = 0
    · have e0 : nI X.length ≤ 0 := by rw [q]; decide
      exact S (fun _ => b1) (fun _ => put I hf h h29 ha hb hQ) (fun z => absurd e0 z) (fun z => absurd e0 z)
    · obtain ⟨n, hn⟩ : ∃ n, X.length = n + 1 := ⟨X.length - 1, by omega⟩
      have e0 : ¬ nI X.length ≤ 0 := nI_nle (by omega) (by omega)
      have e1 : nI X.length - 1 = nI n := by rw [hn]; exact nI_pred n
      have hv := ha n (by omega)
      have hgx : (X ++ Y).getD n 0 = X.getD n 0 := by rw [List.getD_eq_getElem?_getD, List.getD_eq_getElem?_getD, List.getElem?_append_left (by omega)]
      rw [hgx] at hv
      have hmem : X.getD n 0 ∈ X := lw_mem (by omega) 0
      obtain ⟨x1, x2⟩ := hX _ hmem
      rw [e1, nI_clamp (n := n) (by omega), hv] at S
      refine S (fun z => absurd z e0) (fun z => absurd z e0) (fun _ => i_vp (by omega) (by omega)) (fun _ => ⟨_, sp_ofLoad 9 rfl (by omega) (by omega), ?_⟩)
      rintro _ _ ⟨rfl, rfl⟩
      refine sg_X12_laysHeap_52 _ _ _ _ ⟨_, sp_ofLoad 9 rfl (by omega) (by omega), ?_⟩
      rintro _ _ ⟨rfl, rfl⟩
      have T := @sg_X12_laysHeap_59 l (d + 1) Q c I e (nI k) (nI X.length) (I 121 (20 + 10 * k + 9)) (I 121 (20 + 10 * X.getD n 0 + 9))
      rw [nI_clamp (n := X.length) (by omega), show 20 + 10 * k + 9 = 24 + 10 * k + 5 from by omega, show 20 + 10 * X.getD n 0 + 9 = 24 + 10 * X.getD n 0 + 5 from by omega, h.at hk (by omega) (by omega), h.at x1 (by omega) (by omega)] at T
      rw [show 20 + 10 * k + 9 = 24 + 10 * k + 5 from by omega, show 20 + 10 * X.getD n 0 + 9 = 24 + 10 * X.getD n 0 + 5 from by omega, h.at hk (by omega) (by omega), h.at x1 (by omega) (by omega)]
      have e5 : A.r 5 (X.getD n 0) ≤ A.r 5 k := by rw [i_le]; omega
      exact T (fun _ => b1) (fun _ => put I hf h h29 ha hb hQ) (fun z => absurd e5 z) (fun z => absurd e5 z) (fun z => absurd e5 z)
  | succ m ih =>
    intro I hm hf h h29 ha hb hQ
    have e0 : ¬ nI (X.length + (m + 1)) ≤ 0 := nI_nle (by omega) (by omega)
    have e1 : nI (X.length + (m + 1)) - 1 = nI (X.length + m) := nI_pred (X.length + m)
    have e2 : nI (X.length + (m + 1)) + (-1) = nI (X.length + m) := nI_m1 (X.length + m)
    have hv := ha (X.length + m) (by omega)
    have hgy : (X ++ Y).getD (X.length + m) 0 = Y.getD m 0 := by rw [List.getD_eq_getElem?_getD, List.getD_eq_getElem?_getD, List.getElem?_append_right (by omega), Nat.add_sub_cancel_left]
    have hmem : Y.getD m 0 ∈ Y := lw_mem (by omega) 0
    obtain ⟨x1, x2⟩ := hY _ hmem
    have b1 : vp_in (nI (X.length + (m + 1))) 30 := i_vp (by omega) (by omega)
    have b2 : vp_in (nI (X.length + m)) 30 := i_vp (by omega) (by omega)
    have S := @sg_X12_laysHeap_34 l (d + 1) Q c I e (nI k) (nI (X.length + (m + 1)))
    have hv' := hv
    rw [hgy] at hv'
    rw [e1, nI_clamp (n := X.length + m) (by omega), hv'] at S
    refine S (fun z => absurd z e0) (fun z => absurd z e0) (fun _ => b2) (fun _ => ⟨_, sp_ofLoad 9 rfl (by omega) (by omega), ?_⟩)
    rintro _ _ ⟨rfl, rfl⟩
    refine sg_X12_laysHeap_52 _ _ _ _ ⟨_, sp_ofLoad 9 rfl (by omega) (by omega), ?_⟩
    rintro _ _ ⟨rfl, rfl⟩
    have T := @sg_X12_laysHeap_59 l (d + 1) Q c I e (nI k) (nI (X.length + (m + 1))) (I 121 (20 + 10 * k + 9)) (I 121 (20 + 10 * Y.getD m 0 + 9))
    rw [e1, e2, nI_clamp (n := X.length + (m + 1)) (by omega), nI_clamp (n := X.length + m) (by omega), hv, show 20 + 10 * k + 9 = 24 + 10 * k + 5 from by omega, show 20 + 10 * Y.getD m 0 + 9 = 24 + 10 * Y.getD m 0 + 5 from by omega, h.at hk (by omega) (by omega), h.at x1 (by omega) (by omega)] at T
    rw [show 20 + 10 * k + 9 = 24 + 10 * k + 5 from by omega, show 20 + 10 * Y.getD m 0 + 9 = 24 + 10 * Y.getD m 0 + 5 from by omega, h.at hk (by omega) (by omega), h.at x1 (by omega) (by omega)]
    have e5 : ¬ A.r 5 (Y.getD m 0) ≤ A.r 5 k := fun z => by rw [i_le] at z; omega
    refine T (fun z => absurd z e5) (fun z => absurd z e5) (fun _ => b2) (fun _ => b1) (fun _ => ?_)
    refine ih _ (by omega) ⟨fun a a1 a2 => by rw [ms_ne a2]; exact hf.1 a a1 a2, fun j hj => by rw [ms_ne (by omega)]; exact hf.2 j hj⟩ (h.scr (fun a a1 a2 a3 a4 a5 => ms_ne a4) (fun j j1 j2 => by rw [ms_ne (by omega)])) (by rw [ms_ne (by omega)]; exact h29) (fun j hj => ?_) (fun j j1 j2 => ?_) hQ
    · rw [ms_self, upd_ne (by omega)]; exact ha j (by omega)
    · rw [ms_self]
      by_cases q : j = X.length + m
      · subst q
        rw [show X.length + m + 1 = X.length + (m + 1) from rfl, upd_eq]
      · rw [upd_ne (by omega)]; exact hb j (by omega) j2
set_option maxHeartbeats 1000000 in
theorem lh_loop {d : Nat} {Q : Option Value → mx_H → Prop} {Ib : mx_I} {A : HS} {e : Nat} (hP : P.nl ≤ 30) (he : e < 4) (hA : AInv P A []) :
    ∀ (m k : Nat) (I : mx_I), k + m = P.nl → LF Ib I → MR P A I0 I → HPl I ((A.hp e).filter (fun x => decide (x < k))) → (∀ I', LF Ib I' → MR P A I0 I' → HPl I' (A.hp e) → Q none (sk0 c, I')) →
    mx_Go l (mx_rm (d + 3) 0 0) mX12_laysHeap (mx_Z Q 0 0) 0 0 7 [.ref 120, .int (nI e), .int (nI k), .retAddr 0] [] (sk0 c, I) := by
  have hlen := hA.len he
  obtain ⟨hnd, hmem⟩ := hA.1 e he
  intro m
  induction m with
  | zero =>
    intro k I hk hf h hH hQ
    have e1 : I 121 2 ≤ nI k := by rw [h.1.1.2.1, nI_leI (by omega) (by omega)]; omega
    refine sg_X12_laysHeap_7 _ _ (fun _ => hQ I hf h ?_) (fun z => absurd e1 z)
    rw [List.filter_eq_self.mpr (fun x hx => by have := ((hmem x).mp hx).1; simp; omega)] at hH
    exact hH
  | succ m ih =>
    intro k I hk hf h hH hQ
    have e1 : ¬ I 121 2 ≤ nI k := fun z => by rw [h.1.1.2.1, nI_leI (by omega) (by omega)] at z; omega
    refine sg_X12_laysHeap_7 _ _ (fun z => absurd z e1) (fun _ => ⟨_, sp_isThere (d := d) h (by omega) hP, ?_⟩)
    rintro _ _ ⟨rfl, rfl⟩
    have hm : k ∈ A.hp e ↔ (A.r 1 k = nI e ∧ A.r 4 k = 0) := by
      rw [hmem k]
      exact ⟨fun z => ⟨z.2.1, z.2.2.1⟩, fun z => ⟨by omega, z.1, z.2, by simp⟩⟩
    have nx : ∀ (I' : mx_I) (y : Value), LF Ib I' → MR P A I0 I' → HPl I' ((A.hp e).filter (fun x => decide (x < k + 1))) → mx_Go l (mx_rm (d + 3) 0 0) mX12_laysHeap (mx_Z Q 0 0) 0 0 7 [.ref 120, .int (nI e), .int (nI k + 1), y] [] (sk0 c, I') := fun I' y hf' h' hH' => by
      rw [nI_1]
      refine mx_fg (L' := [.ref 120, .int (nI e), .int (nI (k + 1)), .retAddr 0]) (by simp [mx_le]) ?_
      exact ih (k + 1) I' (by omega) hf' h' hH' hQ
    refine sg_X12_laysHeap_23 _ _ _ (fun z => ?_) (fun z => ?_)
    · have hin : k ∈ A.hp e := by
        refine Classical.byContradiction (fun w => z ?_)
        rw [decide_eq_false (fun v => w (hm.mpr v))]; rfl
      obtain ⟨X, Y, x1, x2, x3, x4, x5⟩ := fl_in hnd hin
      obtain ⟨y1, y2⟩ := x5 _ (hA.2.2.2.1 e he).1
      rw [x1] at hH
      have hl2 : ((A.hp e).filter (fun x => decide (x < k + 1))).length ≤ (A.hp e).length := List.length_filter_le _ _
      rw [x2] at hl2
      simp only [List.length_append, List.length_cons] at hl2
      have h29 := hH.1
      rw [List.length_append] at h29
      rw [h29]
      refine lh_ins (d := d + 1) (X := X) (Y := Y) hP (by omega) (fun x hx => ⟨((hmem x).mp (x3 x hx)).1, y1 x hx⟩) (fun y hy => ⟨((hmem y).mp (x4 y hy)).1, y2 y hy⟩) (by omega) Y.length I (Nat.le_refl _) hf h h29 (fun j hj => hH.2 j (by rw [List.length_append]; omega)) (fun j j1 j2 => absurd j2 (by omega)) (fun I' y hf' h' hH' => nx I' _ hf' h' (by rw [x2]; exact hH'))
    · have hno : k ∉ A.hp e := fun w => by
        rw [decide_eq_true (hm.mp w)] at z
        exact absurd z (by decide)
      exact nx I _ hf h (by rw [fl_out hno]; exact hH)
theorem sp_laysHeap {d : Nat} {A : HS} {I : mx_I} {e : Nat} (hP : P.nl ≤ 30) (he : e < 4) (hA : AInv P A []) (h : MR P A I0 I) : mx_Spec l mX12_laysHeap (d + 3) 0 0 [.ref 120, .int (nI e)] (sk0 c, I) (fun r h' => r = none ∧ ∃ I', h' = (sk0 c, I') ∧ MR P A I0 I' ∧ HPl I' (A.hp e) ∧ LF I I') := by
  refine sn_X12_laysHeap _ ?_
  refine lh_loop (d := d) (e := e) (Ib := I) hP he hA P.nl 0 _ (by omega) ⟨fun a a1 a2 => ms_ne a1, fun j hj => by rw [ms_self, upd_ne hj]⟩ (h.scr (fun a a1 a2 a3 a4 a5 => ms_ne a1) (fun j j1 j2 => by rw [ms_self, upd_ne j1])) ?_ (fun I' hf' h' hH => ⟨rfl, I', rfl, h', hH, hf'⟩)
  have e0 : (A.hp e).filter (fun x => decide (x < 0)) = [] := List.filter_eq_nil_iff.mpr (fun x _ => by simp)
  rw [e0]
  exact ⟨by rw [ms_self, upd_eq]; rfl, fun j hj => absurd hj (by simp)⟩
set_option maxHeartbeats 1000000 in
theorem tk_loop {d : Nat} {Q : Option Value → mx_H → Prop} {A : HS} {e t : Nat} {free own x1 x2 : Int32} (hP : POk P) (he : e < 4) (hA : AInv P A []) (hf : x2 - own = free) :
    ∀ (xs : List Nat) (i : Nat) (acc : List Nat) (s : Int32) (I : mx_I), (A.hp e).drop i = xs → MR P A I0 I → HPl I (A.hp e) → Taken I acc → acc.length ≤ i → i ≤ (A.hp e).length →
    (∀ I', MR P A I0 I' → Taken I' (pk_go (P.R 3) (decide (P.R 1 7 = 1)) (hs_lets P A e own t) free xs s acc).1 → Q (some (.int (pk_go (P.R 3) (decide (P.R 1 7 = 1)) (hs_lets P A e own t) free xs s acc).2)) (sk0 c, I')) →
    mx_Go l (mx_rm (d + 4) 0 0) mX12_takes (mx_Z Q 0 0) 0 0 16 [.ref 120, .int x1, .int x2, .int own, .int (nI t), .int s, .int (nI i), .retAddr 0, .retAddr 0] [] (sk0 c, I) := by
  have hP1 := hP.1
  have hlen := hA.len he
  intro xs
  induction xs with
  | nil =>
    intro i acc s I hi h hH ht hacc hin hQ
    have hi2 : (A.hp e).length ≤ i := by
      have := congrArg List.length hi
      simp at this
      omega
    have e1 : I 120 29 ≤ nI i := by rw [hH.1, nI_leI (by omega) (by omega)]; exact hi2
    exact sg_X12_takes_16 _ _ _ _ _ _ (fun _ => hQ I h ht) (fun z => absurd e1 z) (fun z => absurd e1 z)
  | cons x xs ih =>
    intro i acc s I hi h hH ht hacc hin hQ
    have hlt : i < (A.hp e).length := by
      have := congrArg List.length hi
      simp at this
      omega
    have hx : (A.hp e).getD i 0 = x ∧ (A.hp e).drop (i + 1) = xs := by
      rw [lw_getD hlt 0] at hi
      exact ⟨(List.cons.inj hi).1, (List.cons.inj hi).2⟩
    have hxn : x < P.nl := by
      have hm : x ∈ A.hp e := hx.1 ▸ lw_mem hlt 0
      exact (((hA.1 e he).2 x).mp hm).1
    have e1 : ¬ I 120 29 ≤ nI i := fun z => by rw [hH.1, nI_leI (by omega) (by omega)] at z; omega
    have hv := hH.2 i hlt
    rw [hx.1] at hv
    have S := @sg_X12_takes_16 l (d + 3) Q c I x1 x2 own (nI t) s (nI i)
    rw [nI_clamp (n := i) (by omega), hv, hf] at S
    refine S (fun z => absurd z e1) (fun _ => i_vp (by omega) (by omega)) (fun _ => ⟨_, sp_ofLoad 0 rfl (by omega) (by omega), ?_⟩)
    rintro _ _ ⟨rfl, rfl⟩
    rw [h.ld hxn (by omega)]
    have lp : ∀ (acc' : List Nat) (s' : Int32) (J : mx_I) (y z : Value), pk_go (P.R 3) (decide (P.R 1 7 = 1)) (hs_lets P A e own t) free (x :: xs) s acc = pk_go (P.R 3) (decide (P.R 1 7 = 1)) (hs_lets P A e own t) free xs s' acc' → MR P A I0 J → HPl J (A.hp e) → Taken J acc' → acc'.length ≤ i + 1 → mx_Go l (mx_rm (d + 4) 0 0) mX12_takes (mx_Z Q 0 0) 0 0 16 [.ref 120, .int x1, .int x2, .int own, .int (nI t), .int s', .int (nI i + 1), y, z] [] (sk0 c, J) := by
      intro acc' s' J y z hq hJ hHJ htJ ha
      rw [nI_1]
      refine mx_fg (L' := [.ref 120, .int x1, .int x2, .int own, .int (nI t), .int s', .int (nI (i + 1)), .retAddr 0, .retAddr 0]) (by simp [mx_le]) ?_
      refine ih (i + 1) acc' s' J hx.2 hJ hHJ htJ ha (by omega) (fun I' g1 g2 => ?_)
      rw [hq] at hQ
      exact hQ I' g1 g2
    refine sg_X12_takes_49 _ _ _ _ _ _ _ _ _ (fun g => ?_) (fun g g2 => ?_) (fun g g2 => ?_)
    · have hr : ¬ free - s < P.R 3 x := fun z => by rw [i_lt] at z; have g' : (P.R 3 x).toInt ≤ (free - s).toInt := (i_le _ _).mp g; omega
      refine ⟨_, sp_isTaken (d := d) hP.2.1 h.1.1.2.2.2.2.2.2 h.1.2.1 (by omega) (free - s) own (nI t), ?_⟩
      rintro _ _ ⟨rfl, I1, rfl, hI1⟩
      have hlets : lw_lets (lw_f (I 121 (20 + 10 * x)) (free - s) (nI t - I 121 (26 + 10 * x)) (I 120 29) own (nI t) (I 121 (27 + 10 * x))) P.ps = hs_lets P A e own t x (free - s) := by
        unfold hs_lets
        rw [hH.1, show 26 + 10 * x = 24 + 10 * x + 2 from by omega, show 27 + 10 * x = 24 + 10 * x + 3 from by omega, h.at hxn (by omega) (by omega), h.at hxn (by omega) (by omega), show 20 + 10 * x = 20 + 10 * x + 0 from rfl, h.ld hxn (by omega)]
      rw [hlets]
      have h1 : MR P A I0 I1 := h.scr (fun a a1 a2 a3 a4 a5 => hI1 a a2 a3) (fun j _ _ => by rw [hI1 120 (by omega) (by omega)])
      have hH1 : HPl I1 (A.hp e) := by
        unfold HPl
        rw [hI1 120 (by omega) (by omega), hI1 129 (by omega) (by omega)]; exact hH
      have ht1 : Taken I1 acc := by
        unfold Taken
        rw [hI1 120 (by omega) (by omega), hI1 130 (by omega) (by omega)]; exact ht
      have T := @sg_X12_takes_78 l (d + 3) Q c I1 x1 x2 own (nI t) s (nI i) (nI x) (free - s) (b2i (hs_lets P A e own t x (free - s)))
      rw [ht1.1, nI_clamp (n := acc.length) (by omega), nI_1] at T
      refine T (fun _ => i_vp (by omega) (by omega)) (fun z => ⟨_, sp_ofLoad 0 rfl (by omega) (by omega), ?_⟩) (fun z => ?_)
      · have hl : hs_lets P A e own t x (free - s) = true := by
          cases q : hs_lets P A e own t x (free - s) with
          | true => rfl
          | false => rw [q] at z; exact absurd rfl z
        rintro _ _ ⟨rfl, rfl⟩
        have h2 : MR P A I0 (mx_set (mx_set I1 130 acc.length (nI x)) 120 30 (nI (acc.length + 1))) := h1.scr (fun a a1 a2 a3 a4 a5 => by rw [ms_ne a1, ms_ne a5]) (fun j j1 j2 => by rw [ms_self, upd_ne j2, ms_ne (by omega)])
        rw [h2.ld hxn (by omega)]
        refine sg_X12_takes_114 _ _ _ _ _ _ _ _ _ _ ?_
        refine lp (acc ++ [x]) (s + P.R 3 x) _ _ _ ?_ h2 ?_ ?_ (by simp; omega)
        · rw [pk_go, if_neg hr, if_pos hl]
        · refine ⟨by rw [ms_self, upd_ne (by omega), ms_ne (by omega)]; exact hH1.1, fun j hj => by rw [ms_ne (by omega), ms_ne (by omega)]; exact hH1.2 j hj⟩
        · refine ⟨by rw [ms_self, upd_eq]; simp, fun j hj => ?_⟩
          rw [ms_ne (by omega), ms_self]
          simp at hj
          by_cases q : j = acc.length
          · subst q
            rw [upd_eq, List.getD_eq_getElem?_getD, List.getElem?_append_right (by omega)]
            simp
          · rw [upd_ne q, List.getD_eq_getElem?_getD, List.getElem?_append_left (by omega), ← List.getD_eq_getElem?_getD]
            exact ht1.2 j (by omega)
      · have hl : hs_lets P A e own t x (free - s) = false := b2i_0.mp z
        refine lp acc s I1 _ _ ?_ h1 hH1 ht1 (by omega)
        rw [pk_go, if_neg hr, hl]
        simp
    · have hr : free - s < P.R 3 x := by rw [i_lt]; have g' : ¬ (P.R 3 x).toInt ≤ (free - s).toInt := fun z => g ((i_le _ _).mpr z); omega
      refine lp acc s I _ _ ?_ h hH ht (by omega)
      have g3 : ¬ P.R 1 7 = 1 := fun z => g2 (h.1.1.2.2.2.2.2.1.trans z)
      rw [pk_go, if_pos hr, decide_eq_false g3]
      simp
    · have hr : free - s < P.R 3 x := by rw [i_lt]; have g' : ¬ (P.R 3 x).toInt ≤ (free - s).toInt := fun z => g ((i_le _ _).mpr z); omega
      have g3 : P.R 1 7 = 1 := h.1.1.2.2.2.2.2.1.symm.trans g2
      have hq : pk_go (P.R 3) (decide (P.R 1 7 = 1)) (hs_lets P A e own t) free (x :: xs) s acc = (acc, s) := by
        rw [pk_go, if_pos hr, decide_eq_true g3]
        simp
      rw [hq] at hQ
      exact hQ I h ht
theorem sp_takes {d : Nat} {A : HS} {I : mx_I} {e t : Nat} {x2 own : Int32} (hP : POk P) (he : e ≤ P.nb) (hA : AInv P A []) (h : MR P A I0 I) :
    mx_Spec l mX12_takes (d + 4) 0 0 [.ref 120, .int (nI e), .int x2, .int own, .int (nI t)] (sk0 c, I) (fun r h' => r = some (.int (hs_pick P A e (x2 - own) own t).2) ∧ ∃ I', h' = (sk0 c, I') ∧ MR P A I0 I' ∧ Taken I' (hs_pick P A e (x2 - own) own t).1) := by
  have hP1 := hP.1
  refine sn_X12_takes _ _ _ _ ⟨_, sp_laysHeap (d := d) (by omega) (by omega) hA h, ?_⟩
  rintro _ _ ⟨rfl, I1, rfl, h1, hH, -⟩
  refine sg_X12_takes_5 _ _ _ _ ?_
  refine tk_loop (d := d) (free := x2 - own) hP (by omega) hA rfl (A.hp e) 0 [] 0 _ (List.drop_zero) (h1.scr (fun a a1 a2 a3 a4 a5 => ms_ne a1) (fun j j1 j2 => by rw [ms_self, upd_ne j2])) ⟨by rw [ms_self, upd_ne (by omega)]; exact hH.1, fun j hj => by rw [ms_ne (by omega)]; exact hH.2 j hj⟩ ⟨by rw [ms_self, upd_eq]; rfl, fun j hj => absurd hj (by simp)⟩ (by simp) (by simp) (fun I' g1 g2 => ⟨rfl, I', rfl, g1, g2⟩)
end M
