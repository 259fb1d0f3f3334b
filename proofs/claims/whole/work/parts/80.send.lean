/-! send -/
set_option maxHeartbeats 1000000 in
theorem Rel.garb {I F : mx_I} {w : Nat → Int32} {n : Nat} (h : Rel I 1 33 43 w) (hn : I 2 5 = nI n) (h30 : n ≤ 30) (hF : ∀ k, 1 ≤ k → k ≤ 46 → k ≠ 32 → (k < 3 ∨ 7 < k) → F k = I k) (hr : ∀ j, j < 5 → ∀ i, i ≠ n → F (3 + j) i = I (3 + j) i) : Rel F 1 33 43 w := by
  obtain ⟨nb, now, nl, nc, no, ni, nk, hp, ⟨⟨s1, s2, s3, s4, s5, s6, s7, s8⟩, ⟨c1, c2, c3, c4, c5, c6, c7⟩, d, ⟨e1, e2, e3⟩, f1, f2⟩, ⟨r1, r2, r3, r4, r5, r6, r7, r8, r9⟩, ⟨v1, v2, v3, v4, v5, v6, v7, v8⟩, ⟨p1, p2, p3, p4, p5, p6, p7⟩, h5⟩ := h
  have e : nl = n := by
    have : nI nl = nI n := by rw [← hn]; exact c3.symm
    exact (nI_eq (by omega) (by omega)).mp this
  subst e
  have f : ∀ k, 1 ≤ k → k ≤ 46 → k ≠ 32 → (k < 3 ∨ 7 < k) → F k = I k := hF
  have g : ∀ k i, 3 ≤ k → k ≤ 7 → i < nl → F k i = I k i := fun k i k1 k2 hi => by
    have := hr (k - 3) (by omega) i (by omega)
    rw [show 3 + (k - 3) = k from by omega] at this
    exact this
  refine ⟨nb, now, nl, nc, no, ni, nk, hp, ⟨⟨s1, s2, s3, s4, s5, s6, s7, s8⟩, ⟨by rw [f 1 (by omega) (by omega) (by omega) (by omega)]; exact c1, by rw [f 33 (by omega) (by omega) (by omega) (by omega)]; exact c2, by rw [f _ (by omega) (by omega) (by omega) (by omega)]; exact c3, by rw [f _ (by omega) (by omega) (by omega) (by omega)]; exact c4, by rw [f _ (by omega) (by omega) (by omega) (by omega)]; exact c5, by rw [f _ (by omega) (by omega) (by omega) (by omega)]; exact c6, by rw [f _ (by omega) (by omega) (by omega) (by omega)]; exact c7⟩, d, ⟨by rw [f 1 (by omega) (by omega) (by omega) (by omega)]; exact e1, by rw [f 1 (by omega) (by omega) (by omega) (by omega)]; exact e2, by rw [f 33 (by omega) (by omega) (by omega) (by omega)]; exact e3⟩, by rw [f 1 (by omega) (by omega) (by omega) (by omega)]; exact f1, by rw [f 1 (by omega) (by omega) (by omega) (by omega)]; exact f2⟩, ⟨fun i hi j hj => by rw [g _ i (by omega) (by omega) hi]; exact r1 i hi j hj, fun i hi => by rw [g _ i (by omega) (by omega) hi, g _ i (by omega) (by omega) hi]; exact r2 i hi, r3.rows (fun j hj => f _ (by omega) (by omega) (by omega) (by omega)), r4.rows (fun j hj => f _ (by omega) (by omega) (by omega) (by omega)), r5.rows (fun j hj => f _ (by omega) (by omega) (by omega) (by omega)), r6.rows (fun j hj => f _ (by omega) (by omega) (by omega) (by omega)), r7.rows (fun j hj => f _ (by omega) (by omega) (by omega) (by omega)), r8.rows (fun j hj => f _ (by omega) (by omega) (by omega) (by omega)), r9.rows (fun j hj => f _ (by omega) (by omega) (by omega) (by omega))⟩, ⟨fun i hi => by rw [g (1 + 2) i (by omega) (by omega) hi, g (1 + 3) i (by omega) (by omega) hi, g (1 + 4) i (by omega) (by omega) hi, g (1 + 5) i (by omega) (by omega) hi, g (1 + 6) i (by omega) (by omega) hi]; exact v1 i hi, ?_, ?_, ?_, ?_, ?_, ?_, ?_⟩, ⟨?_, ?_, ?_, ?_, p5, p6, p7⟩, h5.congr (f _ (by omega) (by omega) (by omega) (by omega)) (f _ (by omega) (by omega) (by omega) (by omega)) (f _ (by omega) (by omega) (by omega) (by omega)) (f _ (by omega) (by omega) (by omega) (by omega)) (fun _ _ => rfl)⟩
  · simp only [f (1 + 8) (by omega) (by omega) (by omega) (by omega), f (1 + 9) (by omega) (by omega) (by omega) (by omega), f (1 + 10) (by omega) (by omega) (by omega) (by omega), f (1 + 11) (by omega) (by omega) (by omega) (by omega), f (1 + 12) (by omega) (by omega) (by omega) (by omega), f (1 + 13) (by omega) (by omega) (by omega) (by omega), f (1 + 14) (by omega) (by omega) (by omega) (by omega), f (1 + 15) (by omega) (by omega) (by omega) (by omega), f (1 + 16) (by omega) (by omega) (by omega) (by omega)]; exact v2
  · simp only [f (1 + 18) (by omega) (by omega) (by omega) (by omega), f (1 + 19) (by omega) (by omega) (by omega) (by omega), f (1 + 20) (by omega) (by omega) (by omega) (by omega), f (1 + 21) (by omega) (by omega) (by omega) (by omega), f (1 + 22) (by omega) (by omega) (by omega) (by omega)]; exact v3
  · simp only [f (1 + 24) (by omega) (by omega) (by omega) (by omega), f (1 + 25) (by omega) (by omega) (by omega) (by omega)]; exact v4
  · simp only [f (33 + 1) (by omega) (by omega) (by omega) (by omega), f (33 + 2) (by omega) (by omega) (by omega) (by omega), f (33 + 3) (by omega) (by omega) (by omega) (by omega), f (33 + 4) (by omega) (by omega) (by omega) (by omega)]; exact v5
  · simp only [f (33 + 7) (by omega) (by omega) (by omega) (by omega), f (33 + 8) (by omega) (by omega) (by omega) (by omega), f (33 + 9) (by omega) (by omega) (by omega) (by omega)]; exact v6
  · simp only [f (33 + 1) (by omega) (by omega) (by omega) (by omega), f (33 + 2) (by omega) (by omega) (by omega) (by omega), f (33 + 3) (by omega) (by omega) (by omega) (by omega), f (33 + 4) (by omega) (by omega) (by omega) (by omega)]
    intro i hi
    rw [g (1 + 4) i (by omega) (by omega) hi]
    exact v7 i hi
  · simp only [f (33 + 7) (by omega) (by omega) (by omega) (by omega)]; exact v8
  · simp only [f (33 + 6) (by omega) (by omega) (by omega) (by omega), f (33 + 5) (by omega) (by omega) (by omega) (by omega)]; exact p1
  · simp only [f (33 + 1) (by omega) (by omega) (by omega) (by omega), f (33 + 4) (by omega) (by omega) (by omega) (by omega)]; exact p2
  · simp only [f (33 + 1) (by omega) (by omega) (by omega) (by omega)]; exact p3
  · simp only [f (33 + 4) (by omega) (by omega) (by omega) (by omega)]; exact p4
theorem Sim.same2 {c c' n : Nat} {I K0 K : mx_I} (h : Sim c I) (hc : c' = 33 ∨ c' = 55) (hn : I 2 5 = nI n) (h30 : n ≤ 30) (hI : ∀ k, k ≠ 32 → (k < 55 ∨ 73 < k) → (k < 3 ∨ 7 < k) → K0 k = I k) (hr : ∀ j, j < 5 → ∀ i, i ≠ n → K0 (3 + j) i = I (3 + j) i) (hs : Same K0 K) : Sim c' K := by
  obtain ⟨-, a1, a2, a3, a4, ⟨a5, a6⟩, -⟩ := h
  obtain ⟨s1, s2, s3⟩ := hs
  have r : ∀ k, k ≠ 32 → (k < 55 ∨ 73 < k) → (k < 3 ∨ 7 < k) → k ≠ 120 → k ≠ 123 → k ≠ 127 → k ≠ 128 → k ≠ 129 → k ≠ 130 → K k = I k := fun k k1 k2 k0 k3 k4 k5 k6 k7 k8 => (s1 k k3 k4 k5 k6 k7 k8).trans (hI k k1 k2 k0)
  have r120 : ∀ j, j < 21 → K 120 j = I 120 j := fun j hj => (s2 j hj).trans (by rw [hI 120 (by omega) (by omega) (by omega)])
  have w : ∀ a, a ≤ 122 → a ≠ 32 → (a < 55 ∨ 73 < a) → (a < 3 ∨ 7 < a) → a ≠ 120 → K a = I a := fun a h1 h2 h3 h4 h5 => r a h2 h3 h4 h5 (by omega) (by omega) (by omega) (by omega) (by omega)
  have hR : Rel K 1 33 43 (I 121) := a1.garb hn h30 (fun k k1 k2 k3 k4 => w k (by omega) k3 (by omega) k4 (by omega)) (fun j hj i hi => by rw [s1 (3 + j) (by omega) (by omega) (by omega) (by omega) (by omega) (by omega)]; exact hr j hj i hi)
  refine ⟨hc, by rw [w 121 (by omega) (by omega) (by omega) (by omega) (by omega)]; exact hR, by rw [r120 3 (by omega), w 0 (by omega) (by omega) (by omega) (by omega) (by omega)]; exact a2, ?_, a4.congr (by rw [w 47 (by omega) (by omega) (by omega) (by omega) (by omega)]) (r120 11 (by omega)) (w 48 (by omega) (by omega) (by omega) (by omega) (by omega)) (r 126 (by omega) (by omega) (by omega) (by omega) (by omega) (by omega) (by omega) (by omega) (by omega)), ⟨by rw [r120 18 (by omega), w 47 (by omega) (by omega) (by omega) (by omega) (by omega)]; exact a5, by rw [r120 20 (by omega), w 47 (by omega) (by omega) (by omega) (by omega) (by omega)]; exact a6⟩, s3⟩
  rw [w 0 (by omega) (by omega) (by omega) (by omega) (by omega)]
  rcases a3 with z | ⟨z, z2⟩
  · exact Or.inl z
  · exact Or.inr ⟨z, z2.congr2 (fun a ha => w a (by omega) (by omega) (by omega) (by omega) (by omega)) (w 122 (by omega) (by omega) (by omega) (by omega) (by omega))⟩
def Ih (I : mx_I) (n : Nat) (a1 a2 : Int32) (h : Nat) : mx_I := mw_new (cw_new I n a1 a2 (nI h)) n a1 a2 (nI h)
theorem mw_121 {X Y : mx_I} {n : Nat} {a b c : Int32} (h : X 121 = Y 121) : mw_new X n a b c 121 = mw_new Y n a b c 121 := by
  unfold mw_new
  simp only [ms_self, h]
theorem cw_ind {I : mx_I} {n k : Nat} {a1 a2 x y : Int32} (h : k ≠ 5) : cw_new I n a1 a2 x k = cw_new I n a1 a2 y k := by
  by_cases q : k < 2 ∨ 7 < k
  · rw [cw_new_ne q, cw_new_ne q]
  · unfold cw_new
    have : k = 2 ∨ k = 3 ∨ k = 4 ∨ k = 6 ∨ k = 7 := by omega
    rcases this with rfl | rfl | rfl | rfl | rfl <;> simp [ms_row]
section W
variable {l : Launch} {I : mx_I} {nb now nl nc no ni nk : Nat} {hp : Nat → List Nat} {ps : lw_ps} {wr fl : Bool} {row : Nat → Int32}
theorem World.ih {a1 a2 : Int32} {h : Nat} (W : World I nb now nl nc no ni nk hp ps) (hn : nl < 30) (b1 : bnd a1 1 99) (b2 : bnd a2 0 nb) (b3 : now ≤ h ∧ h ≤ 167) : World (Ih I nl a1 a2 h) nb now (nl + 1) nc no ni nk hp ps := by
  refine W.load hn b1 b2 (a3 := nI h) ⟨by rw [nI_toInt (by omega)]; omega, by rw [nI_toInt (by omega)]; omega⟩ (fun a ha => ?_) ?_ (fun j hj i => ?_) mw_new_2 (fun k k1 k2 => ?_) (fun j hj => mw_new_in j hj)
  · unfold Ih; rw [mw_new_ne (by omega), cw_new_ne (by omega)]
  · unfold Ih; rw [mw_new_ne (by omega)]; exact cw_new_2
  · unfold Ih; rw [mw_new_ne (by omega)]; exact cw_new_row hj
  · unfold Ih; rw [mw_new_out k1 k2, cw_new_ne (by omega)]
theorem World.tht2 (W : World I nb now nl nc no ni nk hp ps) {X J J' : mx_I} (h1 : ∀ k, 1 ≤ k → k ≠ 5 → k ≠ 32 → k < 55 → X k = I k) (hT : Tht X J) (h2 : ∀ k, k ≠ 65 → J' k = J k) (hr : ∀ f, 7 ≤ f → f ≤ 12 → J' 65 f = row f) (h13 : ∀ f, 13 ≤ f → f ≤ 15 → J' 65 f = J 65 f) : CR 55 (pm_of I ps nb nl nc no wr fl row) (hs_of I hp nk now) J' J' := by
  obtain ⟨t1, t2, t3, t4, t5, t6, t7, t8⟩ := hT
  have x : ∀ k, 1 ≤ k → k ≠ 5 → k ≠ 32 → k < 55 → J' k = I k := fun k k0 k5 k1 k2 => by rw [h2 k (by omega), t1 k (by omega), h1 k k0 k5 k1 k2]
  refine W.cr (Or.inr rfl) (fun k k1 k2 k3 => x k k1 k3 (by omega) (by omega)) hr ⟨by rw [h13 13 (by omega) (by omega)]; exact t8.1, by rw [h13 14 (by omega) (by omega)]; exact t8.2.1, by rw [h13 15 (by omega) (by omega)]; exact t8.2.2⟩ (fun j j1 j2 i hi => ?_) (fun i hi => ?_) (fun i hi => ?_) (fun j j1 j2 i hi => ?_) ⟨?_, ?_⟩ ⟨by rw [x 43 (by omega) (by omega) (by omega) (by omega)], fun j hj => x _ (by omega) (by omega) (by omega) (by omega)⟩
  · rw [h2 _ (by omega), t2 j j1 j2 i hi, h1 _ (by omega) (by omega) (by omega) (by omega)]
  · rw [h2 _ (by omega), t3 i hi, h1 _ (by omega) (by omega) (by omega) (by omega)]
  · rw [h2 _ (by omega), t4 i hi, h1 _ (by omega) (by omega) (by omega) (by omega)]
  · rw [h2 _ (by omega), t5 j j1 j2 i hi, h1 _ (by omega) (by omega) (by omega) (by omega)]
  · rw [h2 _ (by omega), t6.1, h1 _ (by omega) (by omega) (by omega) (by omega)]
  · rw [h2 _ (by omega), t6.2, h1 _ (by omega) (by omega) (by omega) (by omega)]
theorem Bits.congr {row : Nat → Int32} {k : Nat} {p q : Nat → Nat → Prop} (h : Bits row k p) (hp : ∀ i, i < k → ∀ t, p i t ↔ q i t) : Bits row k q := by
  intro t ht i hi
  rw [h t ht i hi]
  exact ⟨fun z => ⟨z.1, (hp i z.1 t).mp z.2⟩, fun z => ⟨z.1, (hp i z.1 t).mpr z.2⟩⟩
theorem PlanOk.more {a1 a2 : Int32} {h : Nat} {X : mx_I} (hX : PlanOk I nl nc no ni now X) (hn : nl < 30) (hh : h ≤ 167) : PlanOk (Ih I nl a1 a2 h) (nl + 1) nc no ni now (mx_set X 67 h (X 67 h ||| ((1 : Int32) <<< (nI nl &&& 31)))) := by
  obtain ⟨b1, b2, b3, b4, b5⟩ := hX
  have e5 : ∀ i, Ih I nl a1 a2 h 5 i = if i = nl then nI h else I 5 i := fun i => by
    unfold Ih; rw [mw_new_ne (by omega)]; exact cw_new_row (j := 2) (by omega)
  have e6 : ∀ i, Ih I nl a1 a2 h 6 i = if i = nl then -1 else I 6 i := fun i => by
    unfold Ih; rw [mw_new_ne (by omega)]; exact cw_new_row (j := 3) (by omega)
  have e7 : ∀ i, i ≠ nl → Ih I nl a1 a2 h 7 i = I 7 i := fun i hi => by
    unfold Ih; rw [mw_new_ne (by omega)]
    have := cw_new_row (I := I) (n := nl) (a1 := a1) (a2 := a2) (a3 := nI h) (j := 4) (i := i) (by omega)
    rw [if_neg hi] at this; exact this
  have en : ∀ k, 7 < k → k < 120 → Ih I nl a1 a2 h k = I k := fun k k1 k2 => by unfold Ih; rw [mw_new_ne (by omega), cw_new_ne (by omega)]
  refine ⟨?_, ?_, ?_, ?_, ?_⟩
  · rw [ms_self]
    refine (b1.congr (q := fun i t => Ih I nl a1 a2 h 5 i = nI t) (fun i hi t => by rw [e5, if_neg (by omega)])).put (by omega) (fun t ht => ?_)
    rw [e5, if_pos rfl, nI_eq (by omega) (by omega)]
    exact eq_comm
  · rw [ms_ne (by omega)]
    refine (b2.congr (q := fun i t => Ih I nl a1 a2 h 6 i ≠ -1 ∧ Ih I nl a1 a2 h 7 i = nI t) (fun i hi t => by rw [e6, if_neg (by omega), e7 i (by omega)])).skip (fun t ht z => z.1 ?_)
    rw [e6, if_pos rfl]
  · rw [ms_ne (by omega)]
    refine b3.congr (fun i hi t => ?_)
    unfold wkI
    rw [en 15 (by omega) (by omega), en 9 (by omega) (by omega), en 16 (by omega) (by omega)]
  · rw [ms_ne (by omega)]
    exact b4.congr (fun i hi t => by rw [en 19 (by omega) (by omega)])
  · rw [ms_ne (by omega)]
    exact b5.congr (fun i hi t => by rw [en 25 (by omega) (by omega)])
/-- between two thoughts of send: the class's cells -/
def XS (I : mx_I) (nl nc no ni now : Nat) (a1 a2 : Int32) (f : Nat) (X : mx_I) : Prop := (∀ k, 1 ≤ k → k ≠ 5 → k ≠ 32 → k < 55 → X k = cw_new I nl a1 a2 (nI f) k) ∧ (∀ k, (k = 0 ∨ 73 < k) → X k = I k) ∧ (∀ i, i ≠ nl → X 5 i = I 5 i) ∧ PlanOk I nl nc no ni now X
set_option maxHeartbeats 2000000 in
theorem sp_arrival {d cc h e f : Nat} {X : mx_I} {a1 a2 u : Int32} (W : World I nb now nl nc no ni nk hp ps) (hcc : cc = 33 ∨ cc = 55) (hn : nl < 30) (b1 : bnd a1 1 99) (b2 : bnd a2 0 nb) (b3 : now ≤ h ∧ h ≤ 167) (hX : XS I nl nc no ni now a1 a2 f X) :
    mx_Spec l mX11_arrival (d + 27) 0 0 [.ref 0, .int (nI nl), .int (nI e), .int (nI h), .int u] (sk0 cc, X) (fun r h' => r = some (.int ((hs_go (pm_of (Ih I nl a1 a2 h) ps nb (nl + 1) nc no false true (pm_row false (I 1 6) 0 0 (nI nl) (nI e))) u.toInt (168 - now) (hs_of (Ih I nl a1 a2 h) hp nk now)).r 65 13)) ∧ ∃ X', h' = (sk0 55, X') ∧ XS I nl nc no ni now a1 a2 f X') := by
  have Wh := W.ih (h := h) hn b1 b2 b3
  obtain ⟨⟨s1, s2, s3, s4, s5, s6, s7, s8⟩, -⟩ := id W.1
  let P : Pm := pm_of (Ih I nl a1 a2 h) ps nb (nl + 1) nc no false true (pm_row false (I 1 6) 0 0 (nI nl) (nI e))
  have hP : POk P := Wh.pok rfl
  have hB : PB P := Wh.pb
  have hI : HInv P now (hs_of (Ih I nl a1 a2 h) hp nk now) := Wh.hinv
  have bh : vp_in (nI h) 168 := i_vp (by omega) (by omega)
  refine sn_X11_arrival _ _ _ _ bh bh ?_
  rw [nI_clamp (n := h) (by omega)]
  have hPl := hX.2.2.2.more (a1 := a1) (a2 := a2) (h := h) hn b3.2
  have x1n : ∀ k, k ≠ 67 → mx_set X 67 h (X 67 h ||| ((1 : Int32) <<< (nI nl &&& 31))) k = X k := fun k hk => ms_ne hk
  have x67 : mx_set X 67 h (X 67 h ||| ((1 : Int32) <<< (nI nl &&& 31))) 67 = upd (X 67) h (X 67 h ||| ((1 : Int32) <<< (nI nl &&& 31))) := ms_self _ _ _ _
  generalize mx_set X 67 h (X 67 h ||| ((1 : Int32) <<< (nI nl &&& 31))) = X1 at hPl x1n x67 ⊢
  refine ⟨_, sp_think (d := d + 24) hcc, ?_⟩
  rintro _ _ ⟨rfl, J, rfl, hT⟩
  refine sg_X11_arrival_22 _ _ _ _ ⟨_, sn_X1_watch (nI nl) (nI e) (at9_55 _) (Q := fun r h' => r = none ∧ h' = (sk0 55, mx_set (mx_set J 65 11 (nI nl)) 65 12 (nI e))) ⟨rfl, rfl⟩, ?_⟩
  rintro _ _ ⟨rfl, rfl⟩
  have toll : X1 1 6 = I 1 6 := by rw [x1n 1 (by omega), hX.1 1 (by omega) (by omega) (by omega) (by omega), cw_new_ne (by omega)]
  have jn : ∀ k, k ≠ 65 → mx_set (mx_set J 65 11 (nI nl)) 65 12 (nI e) k = J k := fun k hk => by rw [ms_ne hk, ms_ne hk]
  have jr : ∀ g, 7 ≤ g → g ≤ 12 → mx_set (mx_set J 65 11 (nI nl)) 65 12 (nI e) 65 g = pm_row false (I 1 6) 0 0 (nI nl) (nI e) g := fun g g1 g2 => by
    obtain ⟨q7, q8, q9, q10, q11, q12⟩ := hT.2.2.2.2.2.2.1
    rw [toll] at q8
    have : g = 7 ∨ g = 8 ∨ g = 9 ∨ g = 10 ∨ g = 11 ∨ g = 12 := by omega
    rcases this with rfl | rfl | rfl | rfl | rfl | rfl <;> simp [ms_self, upd, pm_row, b2i, *]
  have j13 : ∀ g, 13 ≤ g → g ≤ 15 → mx_set (mx_set J 65 11 (nI nl)) 65 12 (nI e) 65 g = J 65 g := fun g g1 g2 => by rw [ms_at (Or.inr (by omega)), ms_at (Or.inr (by omega))]
  generalize mx_set (mx_set J 65 11 (nI nl)) 65 12 (nI e) = J' at jn jr j13
  have hih : ∀ k, 1 ≤ k → k ≠ 5 → k ≠ 32 → k < 55 → X1 k = Ih I nl a1 a2 h k := fun k k1 k5 k2 k3 => by
    rw [x1n k (by omega), hX.1 k k1 k5 k2 k3]
    unfold Ih
    rw [mw_new_ne (by omega)]
    exact cw_ind k5
  have CR0 : CR 55 P (hs_of (Ih I nl a1 a2 h) hp nk now) J' J' := Wh.tht2 hih hT jn jr j13
  have CP : CPlan P now J' := hPl.cplan ⟨by omega, s5, s6⟩ (fun k k1 k2 => by rw [jn k (by omega), hT.out (by omega)])
  refine sg_X11_arrival_31 _ _ _ _ ⟨_, sp_goOn (d := d) (fm := now) (u := u) hP hB (fun z => absurd z (by simp [P, pm_of])) CP CR0 hI, ?_⟩
  rintro _ _ ⟨rfl, I3, rfl, h3, h4⟩
  refine sg_X11_arrival_40 _ _ _ _ bh bh ⟨by rw [h3.x (f := 13) (by omega) (by omega)]; rfl, _, rfl, ?_⟩
  rw [nI_clamp (n := h) (by omega)]
  have i3 : ∀ k, k ≠ 32 → (k < 55 ∨ 73 < k) → I3 k = X k := fun k k1 k2 => by rw [h3.out55 rfl k1 k2, jn k (by omega), hT.out (by omega), x1n k (by omega)]
  have i6 : ∀ k, 66 ≤ k → k ≤ 71 → I3 k = X1 k := fun k k1 k2 => by rw [h3.old ⟨k1, k2⟩, jn k (by omega), hT.out (by omega)]
  have n67 : ∀ k, k ≠ 67 → mx_set I3 67 h (I3 67 h &&& (((1 : Int32) <<< (nI nl &&& 31)) ^^^ (-1))) k = I3 k := fun k hk => ms_ne hk
  refine ⟨fun k k1 k2 k3 k4 => by rw [n67 k (by omega), i3 k k3 (by omega)]; exact hX.1 k k1 k2 k3 k4, fun k hk => by rw [n67 k (by omega), i3 k (by omega) (by omega)]; exact hX.2.1 k hk, fun i hi => by rw [n67 5 (by omega), i3 5 (by omega) (by omega)]; exact hX.2.2.1 i hi, ?_⟩
  obtain ⟨p1, p2, p3, p4, p5⟩ := hX.2.2.2
  refine ⟨fun t ht i hi => ?_, ?_, ?_, ?_, ?_⟩
  · rw [← p1 t ht i hi, ms_self, i6 67 (by omega) (by omega), x67]
    by_cases q : t = h
    · subst q
      rw [upd_eq, upd_eq, b_and, b_not _ hi, b_one (by omega) hi, b_set (by omega) _ hi]
      by_cases w : i = nl
      · subst w
        have : bt (X 67 t) i = false := by
          cases z : bt (X 67 t) i with
          | false => rfl
          | true => exact absurd ((p1 t ht i hi).mp z).1 (by omega)
        rw [this]; simp
      · simp [w]
    · rw [upd_ne q, upd_ne q]
  · rw [n67 68 (by omega), i6 68 (by omega) (by omega), x1n 68 (by omega)]; exact p2
  · rw [n67 69 (by omega), i6 69 (by omega) (by omega), x1n 69 (by omega)]; exact p3
  · rw [n67 70 (by omega), i6 70 (by omega) (by omega), x1n 70 (by omega)]; exact p4
  · rw [n67 71 (by omega), i6 71 (by omega) (by omega), x1n 71 (by omega)]; exact p5
end W
