/-! reads: the pairs that change nothing -/
theorem i_lt (a b : Int32) : a < b ↔ a.toInt < b.toInt := Int32.lt_iff_toInt_lt
theorem i_le (a b : Int32) : a ≤ b ↔ a.toInt ≤ b.toInt := Int32.le_iff_toInt_le
theorem i_eq (a b : Int32) : a = b ↔ a.toInt = b.toInt := Int32.toInt_inj.symm
theorem K1_of {l : Launch} {M : mx_M} {d : Nat} {As : List Value} {h : mx_H} {P : Option Value → mx_H → Prop} (S : mx_Spec l M d 0 0 As h P) : mx_K1 l M d As h P := ⟨P, S, fun _ _ q => q⟩
def b2i (b : Bool) : Int32 := if b then 1 else 0
theorem b2i_01 (b : Bool) : b2i b = 0 ∨ b2i b = 1 := by cases b <;> simp [b2i]
theorem b2i_0 {b : Bool} : b2i b = 0 ↔ b = false := by cases b <;> simp [b2i]
def inR (x : Int32) (lo hi : Int) : Bool := decide (lo ≤ x.toInt ∧ x.toInt ≤ hi)
theorem inR_t {x : Int32} {lo hi : Int} : inR x lo hi = true ↔ lo ≤ x.toInt ∧ x.toInt ≤ hi := by simp [inR]
theorem inR_f {x : Int32} {lo hi : Int} : inR x lo hi = false ↔ ¬ (lo ≤ x.toInt ∧ x.toInt ≤ hi) := by simp [inR]
theorem nI_sub1 {n : Nat} (h : n < 2 ^ 30) : (nI n - 1).toInt = (n : Int) - 1 := pk_sub_toInt (a := n) (b := 1) h (by decide)
theorem i_nat {x : Int32} (h : 0 ≤ x.toInt) : x = nI x.toInt.toNat := by
  rw [i_eq, nI_toInt (by have := x.toInt_lt; omega)]
  omega
/-- a number within bounds, as a natural number -/
theorem i_of {x : Int32} {hi : Int} (h : inR x 0 hi = true) : ∃ k : Nat, x = nI k ∧ (k : Int) ≤ hi := by
  have h1 := inR_t.mp h
  exact ⟨x.toInt.toNat, i_nat h1.1, by omega⟩
section LEAF
variable {l : Launch} {d c : Nat} {I : mx_I}
theorem sp_isIn (a b e : Int32) : mx_Spec l mX12_isIn (d + 1) 0 0 [.int a, .int b, .int e] (sk0 c, I) (fun r h' => r = some (.int (b2i (inR a b.toInt e.toInt))) ∧ h' = (sk0 c, I)) := by
  refine sn_X12_isIn a b e (fun h => ⟨?_, rfl⟩) (fun h g => ⟨?_, rfl⟩) (fun h g => ⟨?_, rfl⟩)
  · rw [i_lt] at h
    rw [(inR_f.mpr (by omega) : inR a b.toInt e.toInt = false)]; rfl
  · rw [i_lt] at h g
    rw [(inR_f.mpr (by omega) : inR a b.toInt e.toInt = false)]; rfl
  · rw [i_lt] at h g
    rw [(inR_t.mpr (by omega) : inR a b.toInt e.toInt = true)]; rfl
theorem sp_isLoad (a : Int32) {n : Nat} (hn : I 121 2 = nI n) (h30 : n ≤ 30) : mx_Spec l mX12_isLoad (d + 2) 0 0 [.ref 120, .int a] (sk0 c, I) (fun r h' => r = some (.int (b2i (inR a 0 ((n : Int) - 1)))) ∧ h' = (sk0 c, I)) := by
  refine sn_X12_isLoad a ⟨_, sp_isIn _ _ _, ?_⟩
  rintro _ _ ⟨rfl, rfl⟩
  rw [hn, nI_sub1 (by omega)]
  exact sg_X12_isLoad_13 _ _ ⟨rfl, rfl⟩ (b2i_01 _)
theorem sp_isOne (a : Int32) {n : Nat} (hn : I 121 3 = nI n) (h20 : n ≤ 20) : mx_Spec l mX12_isOne (d + 2) 0 0 [.ref 120, .int a] (sk0 c, I) (fun r h' => r = some (.int (b2i (inR a 0 ((n : Int) - 1)))) ∧ h' = (sk0 c, I)) := by
  refine sn_X12_isOne a ⟨_, sp_isIn _ _ _, ?_⟩
  rintro _ _ ⟨rfl, rfl⟩
  rw [hn, nI_sub1 (by omega)]
  exact sg_X12_isOne_13 _ _ ⟨rfl, rfl⟩ (b2i_01 _)
theorem sp_isEnd (a : Int32) {n : Nat} (hn : I 121 0 = nI n) (h3 : n ≤ 3) : mx_Spec l mX12_isEnd (d + 2) 0 0 [.ref 120, .int a] (sk0 c, I) (fun r h' => r = some (.int (b2i (inR a 0 n))) ∧ h' = (sk0 c, I)) := by
  refine sn_X12_isEnd a ⟨_, sp_isIn _ _ _, ?_⟩
  rintro _ _ ⟨rfl, rfl⟩
  rw [hn, nI_toInt (by omega)]
  exact sg_X12_isEnd_11 _ _ ⟨rfl, rfl⟩ (b2i_01 _)
theorem sp_isHour (a : Int32) {n : Nat} (hn : I 121 1 = nI n) (h3 : n ≤ 168) : mx_Spec l mX12_isHour (d + 2) 0 0 [.ref 120, .int a] (sk0 c, I) (fun r h' => r = some (.int (b2i (inR a n 167))) ∧ h' = (sk0 c, I)) := by
  refine sn_X12_isHour a ⟨_, sp_isIn _ _ _, ?_⟩
  rintro _ _ ⟨rfl, rfl⟩
  rw [hn, nI_toInt (by omega)]
  exact sg_X12_isHour_13 _ _ ⟨rfl, rfl⟩ (b2i_01 _)
/-- the model's indices -/
theorem ix_load {k f : Nat} (hk : k < 30) (hf : f < 10) : ((20 + (10 * nI k)) + nI f : Int32) = nI (20 + 10 * k + f) := by
  rw [show (20 : Int32) = nI 20 from rfl, show (10 : Int32) = nI 10 from rfl, pk_mul, nI_add, nI_add]
theorem ix_one {k f : Nat} (hk : k < 20) (hf : f < 14) : ((320 + (14 * nI k)) + nI f : Int32) = nI (320 + 14 * k + f) := by
  rw [show (320 : Int32) = nI 320 from rfl, show (14 : Int32) = nI 14 from rfl, pk_mul, nI_add, nI_add]
theorem sp_ofLoad {k : Nat} {x : Int32} (f : Nat) (hx : x = nI f) (hk : k < 30) (hf : f < 10) : mx_Spec l mX12_ofLoad (d + 1) 0 0 [.ref 120, .int (nI k), .int x] (sk0 c, I) (fun r h' => r = some (.int (I 121 (20 + 10 * k + f))) ∧ h' = (sk0 c, I)) := by
  subst hx
  refine sn_X12_ofLoad _ _ (by rw [ix_load hk hf]; exact vp_in_nI (by omega) (by omega)) ⟨?_, rfl⟩
  rw [ix_load hk hf, nI_clamp (by omega)]
theorem sp_ofOne {k : Nat} {x : Int32} (f : Nat) (hx : x = nI f) (hk : k < 20) (hf : f < 14) : mx_Spec l mX12_ofOne (d + 1) 0 0 [.ref 120, .int (nI k), .int x] (sk0 c, I) (fun r h' => r = some (.int (I 121 (320 + 14 * k + f))) ∧ h' = (sk0 c, I)) := by
  subst hx
  refine sn_X12_ofOne _ _ (by rw [ix_one hk hf]; exact vp_in_nI (by omega) (by omega)) ⟨?_, rfl⟩
  rw [ix_one hk hf, nI_clamp (by omega)]
theorem sp_loads {k : Nat} {x v : Int32} (f : Nat) (hx : x = nI f) (hk : k < 30) (hf : f < 10) : mx_Spec l mX12_loads (d + 1) 0 0 [.ref 120, .int (nI k), .int x, .int v] (sk0 c, I) (fun r h' => r = none ∧ h' = (sk0 c, mx_set I 121 (20 + 10 * k + f) v)) := by
  subst hx
  refine sn_X12_loads _ _ _ (by rw [ix_load hk hf]; exact vp_in_nI (by omega) (by omega)) ⟨rfl, ?_⟩
  rw [ix_load hk hf, nI_clamp (by omega)]
theorem sp_gives {k : Nat} {x v : Int32} (f : Nat) (hx : x = nI f) (hk : k < 20) (hf : f < 14) : mx_Spec l mX12_gives (d + 1) 0 0 [.ref 120, .int (nI k), .int x, .int v] (sk0 c, I) (fun r h' => r = none ∧ h' = (sk0 c, mx_set I 121 (320 + 14 * k + f) v)) := by
  subst hx
  refine sn_X12_gives _ _ _ (by rw [ix_one hk hf]; exact vp_in_nI (by omega) (by omega)) ⟨rfl, ?_⟩
  rw [ix_one hk hf, nI_clamp (by omega)]
theorem sp_hasL (a : Int32) {n : Nat} (hn : I 2 5 = nI n) (h30 : n ≤ 30) : mx_Spec l mX5_has (d + 1) 0 0 [.ref 2, .int a] (sk0 c, I) (fun r h' => r = some (.int (b2i (inR a 0 ((n : Int) - 1)))) ∧ h' = (sk0 c, I)) := by
  have e := nI_toInt (n := n) (by omega)
  refine sn_X5_has a (fun h => ⟨?_, rfl⟩) (fun h g => ⟨?_, rfl⟩) (fun h g => ⟨?_, rfl⟩)
  · rw [i_lt] at h
    rw [(inR_f.mpr (by show ¬ ((0 : Int32).toInt ≤ _ ∧ _); omega) : inR a 0 ((n : Int) - 1) = false)]; rfl
  · rw [i_le, hn, e] at g
    rw [(inR_f.mpr (by omega) : inR a 0 ((n : Int) - 1) = false)]; rfl
  · rw [i_lt] at h
    rw [i_le, hn, e] at g
    have h' : ¬ a.toInt < 0 := h
    rw [(inR_t.mpr (by omega) : inR a 0 ((n : Int) - 1) = true)]; rfl
theorem sp_hasC (a : Int32) {n : Nat} (hn : I 8 9 = nI n) (h30 : n ≤ 20) : mx_Spec l mX2_has (d + 1) 0 0 [.ref 8, .int a] (sk0 c, I) (fun r h' => r = some (.int (b2i (inR a 0 ((n : Int) - 1)))) ∧ h' = (sk0 c, I)) := by
  have e := nI_toInt (n := n) (by omega)
  refine sn_X2_has a (fun h => ⟨?_, rfl⟩) (fun h g => ⟨?_, rfl⟩) (fun h g => ⟨?_, rfl⟩)
  · rw [i_lt] at h
    rw [(inR_f.mpr (by show ¬ ((0 : Int32).toInt ≤ _ ∧ _); omega) : inR a 0 ((n : Int) - 1) = false)]; rfl
  · rw [i_le, hn, e] at g
    rw [(inR_f.mpr (by omega) : inR a 0 ((n : Int) - 1) = false)]; rfl
  · rw [i_lt] at h
    rw [i_le, hn, e] at g
    have h' : ¬ a.toInt < 0 := h
    rw [(inR_t.mpr (by omega) : inR a 0 ((n : Int) - 1) = true)]; rfl
theorem sp_hasEnd (a : Int32) {n : Nat} (hn : I 1 5 = nI n) (h30 : n ≤ 3) : mx_Spec l mX10_hasEnd (d + 1) 0 0 [.ref 1, .int a] (sk0 c, I) (fun r h' => r = some (.int (b2i (inR a 0 n))) ∧ h' = (sk0 c, I)) := by
  have e := nI_toInt (n := n) (by omega)
  refine sn_X10_hasEnd a (fun h => ⟨?_, rfl⟩) (fun h g => ⟨?_, rfl⟩) (fun h g => ⟨?_, rfl⟩)
  · rw [i_lt] at h
    have h' : a.toInt < 0 := h
    rw [(inR_f.mpr (by omega) : inR a 0 n = false)]; rfl
  · rw [i_lt, hn, e] at g
    rw [(inR_f.mpr (by omega) : inR a 0 n = false)]; rfl
  · rw [i_lt] at h
    rw [i_lt, hn, e] at g
    have h' : ¬ a.toInt < 0 := h
    rw [(inR_t.mpr (by omega) : inR a 0 n = true)]; rfl
theorem sp_isAhead (a : Int32) {n : Nat} (hn : I 33 9 = nI n) (h30 : n ≤ 168) : mx_Spec l mX11_isAhead (d + 1) 0 0 [.ref 0, .int a] (sk0 c, I) (fun r h' => r = some (.int (b2i (inR a n 167))) ∧ h' = (sk0 c, I)) := by
  have e := nI_toInt (n := n) (by omega)
  refine sn_X11_isAhead a (fun h => ⟨?_, rfl⟩) (fun h g => ⟨?_, rfl⟩) (fun h g => ⟨?_, rfl⟩)
  · rw [i_lt, hn, e] at h
    rw [(inR_f.mpr (by omega) : inR a n 167 = false)]; rfl
  · rw [i_lt] at g
    have g' : 167 < a.toInt := g
    rw [(inR_f.mpr (by omega) : inR a n 167 = false)]; rfl
  · rw [i_lt, hn, e] at h
    rw [i_lt] at g
    have g' : ¬ 167 < a.toInt := g
    rw [(inR_t.mpr (by omega) : inR a n 167 = true)]; rfl
end LEAF
/-- a pair that changes nothing -/
theorem pr_read {l : Launch} {Mx Mm : mx_M} {As : List Value} (f : Nat → mx_I → Int32)
    (hx : ∀ c I, Sim c I → mx_Spec l Mx 100 0 0 (.ref 0 :: As) (sk0 c, I) (fun r h' => r = some (.int (f c I)) ∧ h' = (sk0 c, I)))
    (hm : ∀ c I, Sim c I → mx_Spec l Mm 100 0 0 (.ref 120 :: As) (sk0 c, I) (fun r h' => r = some (.int (f c I)) ∧ h' = (sk0 c, I))) : mx_PrI l Sim Mx Mm As := by
  intro c I hs
  refine ⟨_, hx c I hs, ?_⟩
  rintro _ _ ⟨rfl, rfl⟩
  refine ⟨_, _, _, rfl, rfl, _, hm c I hs, ?_⟩
  rintro _ _ ⟨rfl, rfl⟩
  exact ⟨rfl, c, I, rfl, hs⟩
/-- a pair: the class's answer and cells behind it, the model's -/
theorem pr_upd {l : Launch} {Mx Mm : mx_M} {As : List Value} (f : Nat → mx_I → Int32) (ux um : Nat → mx_I → mx_I)
    (hx : ∀ c I, Sim c I → mx_Spec l Mx 100 0 0 (.ref 0 :: As) (sk0 c, I) (fun r h' => r = some (.int (f c I)) ∧ h' = (sk0 c, ux c I)))
    (hm : ∀ c I, Sim c I → mx_Spec l Mm 100 0 0 (.ref 120 :: As) (sk0 c, ux c I) (fun r h' => r = some (.int (f c I)) ∧ h' = (sk0 c, um c I)))
    (hs : ∀ c I, Sim c I → Sim c (um c I)) : mx_PrI l Sim Mx Mm As := by
  intro c I h
  refine ⟨_, hx c I h, ?_⟩
  rintro _ _ ⟨rfl, rfl⟩
  refine ⟨_, _, _, rfl, rfl, _, hm c I h, ?_⟩
  rintro _ _ ⟨rfl, rfl⟩
  exact ⟨rfl, c, _, rfl, hs c I h⟩
theorem p_fault {l : Launch} (a : Int32) : mx_PrI l Sim mX11_fault mX12_fault [.int a] := by
  refine pr_read (fun _ I => if a = 0 then I 47 4 else if a = 1 then I 47 5 else -1) (fun c I hs => ?_) (fun c I hs => ?_)
  · refine sn_X11_fault a (fun e => ⟨by simp [e], rfl⟩) (fun e => ⟨by simp [e], rfl⟩) (fun e1 e2 => ⟨by simp [e1, e2], rfl⟩)
  · obtain ⟨h1, h2⟩ := hs.2.2.2.2.2.1
    refine sn_X12_fault a (fun e1 e2 => ⟨by simp [e1, e2], rfl⟩) (fun e1 e2 => ⟨by simp [e2, h2], rfl⟩) (fun e => ⟨by simp [e, h1], rfl⟩)
set_option maxHeartbeats 1000000 in
theorem p_look {l : Launch} (a : Int32) : mx_PrI l Sim mX11_look mX12_look [.int a] := by
  refine pr_read (fun _ I => if a = 0 then I 1 5 else if a = 1 then I 33 9 else if a = 2 then I 2 5 else if a = 3 then I 8 9 else if a = 4 then I 43 3 else if a = 5 then I 1 6 else if a = 6 then I 1 7 else if a = 7 then I 28 4 else if a = 8 then I 18 5 else if a = 9 then I 24 3 else if a = 10 then I 33 10 else -2) (fun c I hs => ?_) (fun c I hs => ?_)
  · refine sn_X11_look a ?_ ?_ ?_ ?_ ?_ ?_ ?_ ?_ ?_ ?_ ?_ ?_ <;> intros <;> exact ⟨by simp [*], rfl⟩
  · obtain ⟨nb, now, nl, nc, no, ni, nk, hp, ⟨-, ⟨a1, a2, a3, a4, a5, a6, a7⟩, ⟨b1, b2, b3, b4, b5, b6, b7⟩, ⟨c1, c2, c3⟩, -⟩, -, -, -, ps, -, g1, g2, -⟩ := hs.2.1
    simp only [Nat.reduceAdd] at a1 a2 a3 a4 a5 a6 a7 c1 c2 c3 g1
    refine sn_X12_look a ?_ ?_ ?_ ?_ ?_ ?_ ?_ ?_ ?_ ?_ ?_ ?_ <;> intros <;> exact ⟨by simp [*], rfl⟩
