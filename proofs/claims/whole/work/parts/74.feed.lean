/-! feed -/
def by_ (w : Int32) (j : Nat) : Int32 := ((w.toUInt32 >>> ((nI (24 - 8 * j)).toUInt32 &&& Int32.toUInt32 31)).toInt32) &&& 255
theorem and255 (y : Int32) : bnd (y &&& 255) 0 255 := by
  have h : (y &&& 255).toBitVec.toNat ≤ 255 := by
    rw [Int32.toBitVec_and, BitVec.toNat_and]
    exact Nat.le_trans Nat.and_le_right (by decide)
  have e : (y &&& 255).toInt = ((y &&& 255).toBitVec.toNat : Int) := BitVec.toInt_eq_toNat_of_lt (by omega)
  unfold bnd
  rw [e]
  omega
theorem byte_eq (x : Int32) {j : Nat} (hj : j < 4) : ((x >>> ((nI (24 - 8 * j)) &&& 31)) &&& 255) = by_ x j := by
  refine b_ext fun i hi => ?_
  unfold by_
  rw [b_and, b_and, b_255, b_ushr _ (by omega), b_sshr _ (by omega) x hi]
  by_cases q : i < 8
  · rw [if_pos (by omega)]
  · simp [q]
def sh_ : Nat → Int32
  | 0 => 24
  | 1 => 16
  | 2 => 8
  | 3 => 0
  | _ => -8
theorem sh_s {j : Nat} (h : j < 4) : sh_ j + (-8) = sh_ (j + 1) := by
  have : j = 0 ∨ j = 1 ∨ j = 2 ∨ j = 3 := by omega
  rcases this with rfl | rfl | rfl | rfl <;> decide
theorem sh_n {j : Nat} (h : j < 4) : sh_ j = nI (24 - 8 * j) ∧ ¬ sh_ j < 0 := by
  have : j = 0 ∨ j = 1 ∨ j = 2 ∨ j = 3 := by omega
  rcases this with rfl | rfl | rfl | rfl <;> decide
theorem takeFour_K {l : Launch} {c d n : Nat} {I : mx_I} {x : Int32} {Pq : Option Value → mx_H → Prop} (h : I 47 3 = nI n) (hn : n + 4 ≤ 400) (kk : ∀ J : mx_I, (∀ k, k ≠ 47 → k ≠ 48 → J k = I k) → (∀ j, j ≠ 3 → J 47 j = I 47 j) → J 47 3 = nI (n + 4) → (∀ i, i < n → J 48 i = I 48 i) → (∀ j, j < 4 → J 48 (n + j) = by_ x j) → Pq none (sk0 c, J)) : mx_K1 l mX8_takeFour (d + 1) [.ref 47, .int x] (sk0 c, I) Pq := by
  refine ⟨fun r h' => r = none ∧ ∃ J, h' = (sk0 c, J) ∧ (∀ k, k ≠ 47 → k ≠ 48 → J k = I k) ∧ (∀ j, j ≠ 3 → J 47 j = I 47 j) ∧ J 47 3 = nI (n + 4) ∧ (∀ i, i < n → J 48 i = I 48 i) ∧ (∀ j, j < 4 → J 48 (n + j) = by_ x j), sn_X8_takeFour _ ?_, ?_⟩
  · have lp : ∀ (m j : Nat) (J : mx_I), j + m = 4 → (∀ k, k ≠ 47 → k ≠ 48 → J k = I k) → (∀ j, j ≠ 3 → J 47 j = I 47 j) → J 47 3 = nI (n + j) → (∀ i, i < n → J 48 i = I 48 i) → (∀ j', j' < j → J 48 (n + j') = by_ x j') → mx_Go l (mx_rm (d + 1) 0 0) mX8_takeFour (mx_Z (fun r h' => r = none ∧ ∃ J, h' = (sk0 c, J) ∧ (∀ k, k ≠ 47 → k ≠ 48 → J k = I k) ∧ (∀ j, j ≠ 3 → J 47 j = I 47 j) ∧ J 47 3 = nI (n + 4) ∧ (∀ i, i < n → J 48 i = I 48 i) ∧ (∀ j, j < 4 → J 48 (n + j) = by_ x j)) 0 0) 0 0 3 [.ref 47, .int x, .int (sh_ j)] [] (sk0 c, J) := by
      intro m
      induction m with
      | zero =>
        intro j J hj h1 h2 h3 h4 h5
        have e : j = 4 := by omega
        subst e
        exact sg_X8_takeFour_3 _ _ (fun _ => ⟨rfl, J, rfl, h1, h2, h3, h4, h5⟩) (fun z => absurd (by decide) z) (fun z => absurd (by decide) z) (fun z => absurd (by decide) z)
      | succ m ih =>
        intro j J hj h1 h2 h3 h4 h5
        obtain ⟨e1, e2⟩ := sh_n (j := j) (by omega)
        have e3 : ¬ (400 : Int32) ≤ J 47 3 := fun z => by rw [h3, show (400 : Int32) = nI 400 from rfl, nI_leI (by omega) (by omega)] at z; omega
        refine sg_X8_takeFour_3 _ _ (fun z => absurd z e2) (fun _ z => absurd z e3) (fun _ _ => by rw [h3]; exact i_vp (by omega) (by omega)) (fun _ _ => ?_)
        rw [sh_s (by omega), h3, nI_clamp (n := n + j) (by omega), nI_1, e1]
        refine ih (j + 1) _ (by omega) (fun k k1 k2 => by rw [ms_ne k1, ms_ne k2]; exact h1 k k1 k2) (fun i hi => by rw [ms_self, upd_ne hi, ms_ne (by omega)]; exact h2 i hi) (by rw [ms_self, upd_eq]; rfl) (fun i hi => by rw [ms_ne (by omega), ms_self, upd_ne (by omega)]; exact h4 i hi) (fun j' hj' => ?_)
        rw [ms_ne (by omega), ms_self]
        by_cases q : j' = j
        · subst q; rw [upd_eq]; rfl
        · rw [upd_ne (by omega)]; exact h5 j' (by omega)
    exact lp 4 0 I (by omega) (fun _ _ _ => rfl) (fun _ _ => rfl) h (fun _ _ => rfl) (fun j hj => absurd hj (by omega))
  · rintro _ _ ⟨rfl, J, rfl, h1, h2, h3, h4, h5⟩
    exact kk J h1 h2 h3 h4 h5
def fd_ (a b c d e : Int32) (k : Nat) : Int32 := by_ (if k < 4 then a else if k < 8 then b else if k < 12 then c else if k < 16 then d else e) (k % 4)
set_option maxHeartbeats 2000000 in
theorem p_feed {l : Launch} (a1 a2 a3 a4 a5 : Int32) : mx_PrI l Sim mX11_feed mX12_feed [.int a1, .int a2, .int a3, .int a4, .int a5] := by
  intro c I hs
  obtain ⟨hc, r1, r2, r3, ⟨n, hn, t1, t2, t3⟩, ⟨r5, r6⟩, r7⟩ := id hs
  have e20 : (nI n + 20 : Int32) = nI (n + 20) := nI_add n 20
  have e400 : nI (n + 20) ≤ 400 ↔ n + 20 ≤ 400 := by rw [show (400 : Int32) = nI 400 from rfl, nI_leI (by omega) (by omega)]
  by_cases g : n + 20 ≤ 400
  case neg =>
    have g1 : ¬ I 47 3 + 20 ≤ 400 := fun z => by rw [t1, e20, e400] at z; exact g z
    have g2 : ¬ I 120 11 + 20 ≤ 400 := fun z => by rw [t2, e20, e400] at z; exact g z
    refine pr_no (-1) hs (sn_X11_feed _ _ _ _ _ ⟨fun r h' => r = some (.int (-1)) ∧ h' = (sk0 c, I), sn_X8_take _ _ _ _ _ (fun z => absurd z g1) (fun _ => ⟨rfl, rfl⟩), ?_⟩) (sn_X12_feed _ _ _ _ _ (fun z => absurd z g2) (fun _ => ⟨rfl, rfl⟩))
    rintro _ _ ⟨rfl, rfl⟩
    exact sg_X11_feed_14 _ _ _ _ _ _ ⟨rfl, rfl⟩
  have g1 : I 47 3 + 20 ≤ 400 := by rw [t1, e20, e400]; exact g
  refine pr_go (fun v c1 J => c1 = c ∧ v = nI (n + 20) ∧ (∀ k, k ≠ 47 → k ≠ 48 → J k = I k) ∧ (∀ j, j ≠ 3 → J 47 j = I 47 j) ∧ J 47 3 = nI (n + 20) ∧ (∀ i, i < n → J 48 i = I 48 i) ∧ (∀ j, j < 20 → J 48 (n + j) = fd_ a1 a2 a3 a4 a5 j)) ?_ ?_
  · refine sn_X11_feed _ _ _ _ _ ⟨fun r h' => r = some (.int (nI (n + 20))) ∧ ∃ J, h' = (sk0 c, J) ∧ (∀ k, k ≠ 47 → k ≠ 48 → J k = I k) ∧ (∀ j, j ≠ 3 → J 47 j = I 47 j) ∧ J 47 3 = nI (n + 20) ∧ (∀ i, i < n → J 48 i = I 48 i) ∧ (∀ j, j < 20 → J 48 (n + j) = fd_ a1 a2 a3 a4 a5 j), sn_X8_take _ _ _ _ _ (fun _ => ?_) (fun z => absurd g1 z), ?_⟩
    · refine takeFour_K (d := 97) t1 (by omega) (fun J1 x1 y1 z1 u1 v1 => ?_)
      refine sg_X8_take_20 _ _ _ _ _ (takeFour_K (d := 97) (n := n + 4) z1 (by omega) (fun J2 x2 y2 z2 u2 v2 => ?_))
      refine sg_X8_take_25 _ _ _ _ _ (takeFour_K (d := 97) (n := n + 8) z2 (by omega) (fun J3 x3 y3 z3 u3 v3 => ?_))
      refine sg_X8_take_30 _ _ _ _ _ (takeFour_K (d := 97) (n := n + 12) z3 (by omega) (fun J4 x4 y4 z4 u4 v4 => ?_))
      refine sg_X8_take_36 _ _ _ _ _ (takeFour_K (d := 97) (n := n + 16) z4 (by omega) (fun J5 x5 y5 z5 u5 v5 => ?_))
      refine sg_X8_take_42 _ _ _ _ _ ⟨by rw [z5], J5, rfl, fun k k1 k2 => by rw [x5 k k1 k2, x4 k k1 k2, x3 k k1 k2, x2 k k1 k2, x1 k k1 k2], fun j hj => by rw [y5 j hj, y4 j hj, y3 j hj, y2 j hj, y1 j hj], z5, fun i hi => by rw [u5 i (by omega), u4 i (by omega), u3 i (by omega), u2 i (by omega), u1 i (by omega)], fun j hj => ?_⟩
      by_cases q4 : j < 4
      · rw [u5 _ (by omega), u4 _ (by omega), u3 _ (by omega), u2 _ (by omega), v1 j q4]
        unfold fd_
        rw [if_pos q4, Nat.mod_eq_of_lt q4]
      by_cases q8 : j < 8
      · rw [u5 _ (by omega), u4 _ (by omega), u3 _ (by omega), show n + j = n + 4 + (j - 4) from by omega, v2 (j - 4) (by omega)]
        unfold fd_
        rw [if_neg q4, if_pos q8, show j % 4 = j - 4 from by omega]
      by_cases q12 : j < 12
      · rw [u5 _ (by omega), u4 _ (by omega), show n + j = n + 8 + (j - 8) from by omega, v3 (j - 8) (by omega)]
        unfold fd_
        rw [if_neg q4, if_neg q8, if_pos q12, show j % 4 = j - 8 from by omega]
      by_cases q16 : j < 16
      · rw [u5 _ (by omega), show n + j = n + 12 + (j - 12) from by omega, v4 (j - 12) (by omega)]
        unfold fd_
        rw [if_neg q4, if_neg q8, if_neg q12, if_pos q16, show j % 4 = j - 12 from by omega]
      · rw [show n + j = n + 16 + (j - 16) from by omega, v5 (j - 16) (by omega)]
        unfold fd_
        rw [if_neg q4, if_neg q8, if_neg q12, if_neg q16, show j % 4 = j - 16 from by omega]
    · rintro _ _ ⟨rfl, J, rfl, h1, h2, h3, h4, h5⟩
      exact sg_X11_feed_14 _ _ _ _ _ _ ⟨_, c, J, rfl, rfl, rfl, rfl, h1, h2, h3, h4, h5⟩
  · rintro v cc J ⟨rfl, rfl, h1, h2, h3, h4, h5⟩
    have j11 : J 120 11 = nI n := by rw [h1 120 (by omega) (by omega)]; exact t2
    have g2 : J 120 11 + 20 ≤ 400 := by rw [j11, e20, e400]; exact g
    have lp : ∀ (m k : Nat) (K : mx_I), k + m = 20 → (∀ x, x ≠ 120 → x ≠ 126 → K x = J x) → (∀ j, j ≠ 11 → K 120 j = J 120 j) → K 120 11 = nI (n + k) → (∀ i, i < n → K 126 i = J 126 i) → (∀ j, j < k → K 126 (n + j) = fd_ a1 a2 a3 a4 a5 j) → mx_Go l (mx_rm (99 + 1) 0 0) mX12_feed (mx_Z (fun r h' => r = some (.int (nI (n + 20))) ∧ ∃ (c2 : Nat) (K : mx_I), h' = (sk0 c2, K) ∧ Sim c2 K) 0 0) 0 0 18 [.ref 120, .int a1, .int a2, .int a3, .int a4, .int a5, .int (nI k), .retAddr 0] [] (sk0 cc, K) := by
      intro m
      induction m with
      | zero =>
        intro k K hk k1 k2 k3 k4 k5
        have e : k = 20 := by omega
        subst e
        have e1 : (20 : Int32) ≤ nI 20 := by decide
        refine sg_X12_feed_18 _ _ _ _ _ _ (fun _ => ⟨by rw [k3], cc, K, rfl, ?_⟩) (fun z => absurd e1 z) (fun z => absurd e1 z) (fun z => absurd e1 z) (fun z => absurd e1 z) (fun z => absurd e1 z) (fun z => absurd e1 z) (fun z => absurd e1 z) (fun z => absurd e1 z) (fun z => absurd e1 z) (fun z => absurd e1 z)
        have kI : ∀ x, x ≠ 47 → x ≠ 48 → x ≠ 120 → x ≠ 126 → K x = I x := fun x q1 q2 q3 q4 => by rw [k1 x q3 q4, h1 x q1 q2]
        have k47 : ∀ j, j ≠ 3 → K 47 j = I 47 j := fun j hj => by rw [k1 47 (by omega) (by omega)]; exact h2 j hj
        have k120 : ∀ j, j ≠ 11 → K 120 j = I 120 j := fun j hj => by rw [k2 j hj, h1 120 (by omega) (by omega)]
        refine ⟨hc, r1.congr2 (fun x hx => kI x (by omega) (by omega) (by omega) (by omega)) (kI 121 (by omega) (by omega) (by omega) (by omega)), by rw [k120 3 (by omega), kI 0 (by omega) (by omega) (by omega) (by omega)]; exact r2, ?_, ⟨n + 20, g, by rw [k1 47 (by omega) (by omega)]; exact h3, k3, fun i hi => ?_⟩, ⟨by rw [k120 18 (by omega), k47 4 (by omega)]; exact r5, by rw [k120 20 (by omega), k47 5 (by omega)]; exact r6⟩, by rw [k120 21 (by omega), k120 22 (by omega), k120 25 (by omega), k120 26 (by omega)]; exact r7⟩
        · rw [kI 0 (by omega) (by omega) (by omega) (by omega)]
          rcases r3 with z | ⟨z, z2⟩
          · exact Or.inl z
          · exact Or.inr ⟨z, z2.congr2 (fun x hx => kI x (by omega) (by omega) (by omega) (by omega)) (kI 122 (by omega) (by omega) (by omega) (by omega))⟩
        · rw [k1 48 (by omega) (by omega)]
          by_cases q : i < n
          · rw [h4 i q, k4 i q, h1 126 (by omega) (by omega)]
            exact t3 i q
          · have q5 := h5 (i - n) (by omega)
            have q6 := k5 (i - n) (by omega)
            rw [show n + (i - n) = i from by omega] at q5 q6
            rw [q5, q6]
            exact ⟨rfl, and255 _⟩
      | succ m ih =>
        intro k K hk k1 k2 k3 k4 k5
        have cmp : ∀ j : Nat, j < 2 ^ 31 → (nI j ≤ nI k ↔ j ≤ k) := fun j hj => nI_leI hj (by omega)
        have e1 : ¬ (20 : Int32) ≤ nI k := fun z => by have := (cmp 20 (by omega)).mp z; omega
        have b1 : vp_in (K 120 11) 400 := by rw [k3]; exact i_vp (by omega) (by omega)
        have esh : (24 - (8 * (nI k - nI k / 4 * 4)) : Int32) = nI (24 - 8 * (k % 4)) := by
          rw [show (4 : Int32) = nI 4 from rfl, pk_rem (by omega) (by omega) (by omega), show (8 : Int32) = nI 8 from rfl, pk_mul, show (24 : Int32) = nI 24 from rfl, pk_sub (by omega)]
        have nx : ∀ (w y : Int32), w = (if k < 4 then a1 else if k < 8 then a2 else if k < 12 then a3 else if k < 16 then a4 else a5) → mx_Go l (mx_rm (99 + 1) 0 0) mX12_feed (mx_Z (fun r h' => r = some (.int (nI (n + 20))) ∧ ∃ (c2 : Nat) (K : mx_I), h' = (sk0 c2, K) ∧ Sim c2 K) 0 0) 0 0 18 [.ref 120, .int a1, .int a2, .int a3, .int a4, .int a5, .int (nI k + 1), .int y] [] (sk0 cc, mx_set (mx_set K 126 (K 120 11).toNatClampNeg ((w >>> ((24 - (8 * (nI k - nI k / 4 * 4))) &&& 31)) &&& 255)) 120 11 (K 120 11 + 1)) := by
          intro w y hw
          rw [esh, byte_eq w (by omega), k3, nI_clamp (n := n + k) (by omega), nI_1, nI_1]
          refine mx_fg (L' := [.ref 120, .int a1, .int a2, .int a3, .int a4, .int a5, .int (nI (k + 1)), .retAddr 0]) (by simp [mx_le]) ?_
          refine ih (k + 1) _ (by omega) (fun x x1 x2 => by rw [ms_ne x1, ms_ne x2]; exact k1 x x1 x2) (fun j hj => by rw [ms_self, upd_ne hj, ms_ne (by omega)]; exact k2 j hj) (by rw [ms_self, upd_eq]; rfl) (fun i hi => by rw [ms_ne (by omega), ms_self, upd_ne (by omega)]; exact k4 i hi) (fun j hj => ?_)
          rw [ms_ne (by omega), ms_self]
          by_cases q : j = k
          · subst q
            rw [upd_eq, hw]; rfl
          · rw [upd_ne (by omega)]; exact k5 j (by omega)
        refine sg_X12_feed_18 _ _ _ _ _ _ (fun z => absurd z e1) (fun _ _ _ _ _ => b1) (fun _ z4 z8 z12 z16 => nx _ _ ?_) (fun _ _ _ _ _ => b1) (fun _ z4 z8 z12 z16 => nx _ _ ?_) (fun _ _ _ _ => b1) (fun _ z4 z8 z12 => nx _ _ ?_) (fun _ _ _ => b1) (fun _ z4 z8 => nx _ _ ?_) (fun _ _ => b1) (fun _ z4 => nx _ _ ?_)
        · have q4 := (cmp 4 (by omega)).mp z4
          have q8 := (cmp 8 (by omega)).mp z8
          have q12 := (cmp 12 (by omega)).mp z12
          have q16 := (cmp 16 (by omega)).mp z16
          rw [if_neg (by omega), if_neg (by omega), if_neg (by omega), if_neg (by omega)]
        · have q4 := (cmp 4 (by omega)).mp z4
          have q8 := (cmp 8 (by omega)).mp z8
          have q12 := (cmp 12 (by omega)).mp z12
          have q16 : ¬ 16 ≤ k := fun z => z16 ((cmp 16 (by omega)).mpr z)
          rw [if_neg (by omega), if_neg (by omega), if_neg (by omega), if_pos (by omega)]
        · have q4 := (cmp 4 (by omega)).mp z4
          have q8 := (cmp 8 (by omega)).mp z8
          have q12 : ¬ 12 ≤ k := fun z => z12 ((cmp 12 (by omega)).mpr z)
          rw [if_neg (by omega), if_neg (by omega), if_pos (by omega)]
        · have q4 := (cmp 4 (by omega)).mp z4
          have q8 : ¬ 8 ≤ k := fun z => z8 ((cmp 8 (by omega)).mpr z)
          rw [if_neg (by omega), if_pos (by omega)]
        · have q4 : ¬ 4 ≤ k := fun z => z4 ((cmp 4 (by omega)).mpr z)
          rw [if_pos (by omega)]
    exact sn_X12_feed _ _ _ _ _ (fun _ => lp 20 0 J (by omega) (fun _ _ _ => rfl) (fun _ _ => rfl) j11 (fun _ _ => rfl) (fun j hj => absurd hj (by omega))) (fun z => absurd g2 z)
