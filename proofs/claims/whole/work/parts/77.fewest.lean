/-! fewest -/
def enough (nl : Nat) (set : Int32) (e : Nat) (A : HS) : Bool := decide (∀ x, x < nl → bt set x = true → A.r 4 x ≠ 0 ∨ A.r 1 x = nI e)
section W
variable {l : Launch} {I : mx_I} {nb now nl nc no ni nk : Nat} {hp : Nat → List Nat} {ps : lw_ps}
/-- between two thoughts: the class's cells -/
def XI (I I1 X : mx_I) : Prop := (∀ k, k ≠ 32 → (k < 55 ∨ 73 < k) → X k = I k) ∧ ∀ k, 66 ≤ k → k ≤ 71 → X k = I1 k
theorem CR.xi {P : Pm} {A : HS} {I1 X J J' K : mx_I} (h : CR 55 P A J' K) (hw : P.wr = false) (hX : XI I I1 X) (hT : Tht X J) (hJ : ∀ k, k ≠ 65 → J' k = J k) : XI I I1 K :=
  ⟨fun k k1 k2 => by rw [h.out55 hw k1 k2, hJ k (by omega), hT.out (by omega)]; exact hX.1 k k1 k2, fun k k1 k2 => by rw [h.old ⟨k1, k2⟩, hJ k (by omega), hT.out (by omega)]; exact hX.2 k k1 k2⟩
set_option maxHeartbeats 2000000 in
theorem sp_isEnough {d cc h e : Nat} {I1 X : mx_I} {set hr : Int32} (W : World I nb now nl nc no ni nk hp ps) (hcc : cc = 33 ∨ cc = 55) (hpl : PlanOk I nl nc no ni now I1) (hX : XI I I1 X) :
    mx_Spec l mX11_isEnough (d + 27) 0 0 [.ref 0, .int (nI h), .int set, .int (nI e), .int hr] (sk0 cc, X) (fun r h' => r = some (.int (b2i (enough nl set e (hs_go (pm_of I ps nb nl nc no false true (pm_row false (I 1 6) (nI h) 0 (-1) (-1))) hr.toInt (168 - now) (hs_of I hp nk now))))) ∧ ∃ X', h' = (sk0 55, X') ∧ XI I I1 X') := by
  obtain ⟨⟨s1, s2, s3, s4, s5, s6, s7, s8⟩, ⟨c1, c2, c3, c4, c5, c6, c7⟩, -⟩ := id W.1
  let P : Pm := pm_of I ps nb nl nc no false true (pm_row false (I 1 6) (nI h) 0 (-1) (-1))
  have hP : POk P := W.pok rfl
  have hB : PB P := W.pb
  have hI : HInv P now (hs_of I hp nk now) := W.hinv
  refine sn_X11_isEnough _ _ _ _ ⟨_, sp_think (d := d + 24) hcc, ?_⟩
  rintro _ _ ⟨rfl, J, rfl, hT⟩
  have jn : ∀ k, k ≠ 65 → mx_set J 65 9 (nI h) k = J k := fun k hk => ms_ne hk
  have jr : ∀ f, 7 ≤ f → f ≤ 12 → mx_set J 65 9 (nI h) 65 f = pm_row false (I 1 6) (nI h) 0 (-1) (-1) f := fun f f1 f2 => by
    obtain ⟨q7, q8, q9, q10, q11, q12⟩ := hT.2.2.2.2.2.2.1
    rw [hX.1 1 (by omega) (by omega)] at q8
    have : f = 7 ∨ f = 8 ∨ f = 9 ∨ f = 10 ∨ f = 11 ∨ f = 12 := by omega
    rcases this with rfl | rfl | rfl | rfl | rfl | rfl <;> simp [ms_self, upd, pm_row, b2i, *]
  have j13 : ∀ f, 13 ≤ f → f ≤ 15 → mx_set J 65 9 (nI h) 65 f = J 65 f := fun f f1 f2 => ms_at (Or.inr (by omega))
  refine sg_X11_isEnough_4 _ _ _ _ ?_
  generalize mx_set J 65 9 (nI h) = J' at jn jr j13 ⊢
  have CR0 : CR 55 P (hs_of I hp nk now) J' J' := W.tht hX.1 hT jn jr j13
  have CP : CPlan P now J' := hpl.cplan ⟨s4, s5, s6⟩ (fun k k1 k2 => by rw [jn k (by omega), hT.out (by omega)]; exact hX.2 k (by omega) (by omega))
  refine ⟨_, sp_goOn (d := d) (fm := now) (u := hr) hP hB (fun z => absurd z (by simp [P, pm_of])) CP CR0 hI, ?_⟩
  rintro _ _ ⟨rfl, I3, rfl, h3, h4⟩
  refine sg_X11_isEnough_21 _ _ _ _ ?_
  have hXI : XI I I1 I3 := h3.xi rfl hX hT jn
  have n2 : I3 2 5 = nI nl := by rw [hXI.1 2 (by omega) (by omega)]; exact c3
  have lp : ∀ (m k : Nat) (y : Value), k + m = nl → (∀ x, x < k → bt set x = true → (hs_go P hr.toInt (168 - now) (hs_of I hp nk now)).r 4 x ≠ 0 ∨ (hs_go P hr.toInt (168 - now) (hs_of I hp nk now)).r 1 x = nI e) → mx_Go l (mx_rm (d + 26 + 1) 0 0) mX11_isEnough (mx_Z (fun r h' => r = some (.int (b2i (enough nl set e (hs_go P hr.toInt (168 - now) (hs_of I hp nk now))))) ∧ ∃ X', h' = (sk0 55, X') ∧ XI I I1 X') 0 0) 0 0 24 [.ref 0, .int (nI h), .int set, .int (nI e), .int hr, .int (nI k), y] [] (sk0 55, I3) := by
    intro m
    induction m with
    | zero =>
      intro k y hk hall
      refine mx_fg (L' := [.ref 0, .int (nI h), .int set, .int (nI e), .int hr, .int (nI k), .retAddr 0]) (by simp [mx_le]) ?_
      have e1 : I3 2 5 ≤ nI k := by rw [n2, nI_leI (by omega) (by omega)]; omega
      refine sg_X11_isEnough_24 _ _ _ _ _ (fun _ => ⟨?_, I3, rfl, hXI⟩) (fun z => absurd e1 z) (fun z => absurd e1 z) (fun z => absurd e1 z) (fun z => absurd e1 z) (fun z => absurd e1 z) (fun z => absurd e1 z)
      rw [show enough nl set e (hs_go P hr.toInt (168 - now) (hs_of I hp nk now)) = true from decide_eq_true (fun x hx => hall x (by omega))]; rfl
    | succ m ih =>
      intro k y hk hall
      refine mx_fg (L' := [.ref 0, .int (nI h), .int set, .int (nI e), .int hr, .int (nI k), .retAddr 0]) (by simp [mx_le]) ?_
      have e1 : ¬ I3 2 5 ≤ nI k := fun z => by rw [n2, nI_leI (by omega) (by omega)] at z; omega
      have b1 : vp_in (nI k) 30 := i_vp (by omega) (by omega)
      have S := fun Q => @sg_X11_isEnough_24 l (d + 26) Q 55 I3 (nI h) set (nI e) hr (nI k)
      rw [nI_clamp (n := k) (by omega), h3.ld (j := 4) (x := k) (by omega) (by omega) (by omega), h3.ld (j := 1) (x := k) (by omega) (by omega) (by omega), nI_1] at S
      have nx : (bt set k = true → (hs_go P hr.toInt (168 - now) (hs_of I hp nk now)).r 4 k ≠ 0 ∨ (hs_go P hr.toInt (168 - now) (hs_of I hp nk now)).r 1 k = nI e) → ∀ y : Value, mx_Go l (mx_rm (d + 26 + 1) 0 0) mX11_isEnough (mx_Z (fun r h' => r = some (.int (b2i (enough nl set e (hs_go P hr.toInt (168 - now) (hs_of I hp nk now))))) ∧ ∃ X', h' = (sk0 55, X') ∧ XI I I1 X') 0 0) 0 0 24 [.ref 0, .int (nI h), .int set, .int (nI e), .int hr, .int (nI (k + 1)), y] [] (sk0 55, I3) := fun hk' y => ih (k + 1) y (by omega) (fun x hx hb => by
        by_cases q : x = k
        · subst q; exact hk' hb
        · exact hall x (by omega) hb)
      refine S _ (fun z => absurd z e1) (fun _ g => nx (fun z => absurd ((b_get1 (by omega)).mpr z) g) _) (fun _ _ => b1) (fun _ _ g => nx (fun _ => Or.inl g) _) (fun _ _ _ => b1) (fun _ _ _ g => nx (fun _ => Or.inr g) _) (fun _ g1 g2 g3 => ⟨?_, I3, rfl, hXI⟩)
      rw [show enough nl set e (hs_go P hr.toInt (168 - now) (hs_of I hp nk now)) = false from decide_eq_false (fun z => (z k (by omega) ((b_get1 (by omega)).mp g1)).elim (fun w => w g2) g3)]; rfl
  exact lp nl 0 _ (by omega) (fun x hx => absurd hx (by omega))
set_option maxHeartbeats 2000000 in
theorem sp_brings {d cc h e : Nat} {K0 : mx_I} {set hr : Int32} (W : World I nb now nl nc no ni nk hp ps) (hK : K0 121 = I 121) (hf : K0 120 22 = -1 ∧ K0 120 25 = 0) (hr0 : hr.toInt ≤ 167) :
    mx_Spec l mX12_brings (d + 27) 0 0 [.ref 120, .int (nI h), .int set, .int (nI e), .int hr] (sk0 cc, K0) (fun r h' => r = some (.int (b2i (enough nl set e (hs_go (pm_of I ps nb nl nc no false true (pm_row false (I 1 6) (nI h) 0 (-1) (-1))) hr.toInt (168 - now) (hs_of I hp nk now))))) ∧ ∃ K', h' = (sk0 cc, K') ∧ Same K0 K') := by
  obtain ⟨⟨s1, s2, s3, s4, s5, s6, s7, s8⟩, -⟩ := id W.1
  let P : Pm := pm_of I ps nb nl nc no false true (pm_row false (I 1 6) (nI h) 0 (-1) (-1))
  have hP : POk P := W.pok rfl
  have hB : PB P := W.pb
  have hI : HInv P now (hs_of I hp nk now) := W.hinv
  have h11 : P.R 65 11 = -1 := World.rw5
  obtain ⟨gA, -, -⟩ := go_now (fm := now) hP hB h11 (u := hr.toInt) (168 - now) (hs_of I hp nk now) (by show now + (168 - now) = 168; omega) hI rfl
  have hA := gA.1
  refine sn_X12_brings _ _ _ _ (mth_begin (d := d + 25) (fun K1 B1 => ?_))
  refine sg_X12_brings_4 _ _ _ _ ?_
  have kn : ∀ k, k ≠ 120 → mx_set K1 120 26 (nI h) k = K1 k := fun k hk => ms_ne hk
  have kj : ∀ j, j ≠ 26 → mx_set K1 120 26 (nI h) 120 j = K1 120 j := fun j hj => ms_at (Or.inr hj)
  have k26 : mx_set K1 120 26 (nI h) 120 26 = nI h := by rw [ms_self, upd_eq]
  generalize mx_set K1 120 26 (nI h) = K2 at kn kj k26 ⊢
  have q1 : K2 121 = I 121 := by rw [kn 121 (by omega), B1.1 121 (by omega) (by omega), hK]
  have M0 : MR P (hs_of I hp nk now) K2 K2 := W.mr (fun k hk => by rw [q1]) (by rw [q1]; exact W.1.2.2.2.1.1) (by rw [kj 21 (by omega)]; exact B1.2.2.1) (by rw [kj 25 (by omega), B1.2.1 25 (by omega)]; exact hf.2) k26 (by rw [kj 22 (by omega), B1.2.1 22 (by omega)]; exact hf.1) (Or.inl rfl) (fun z => absurd z (by simp))
  -- looking
  have cnt : ∀ (m k : Nat) (b : Bool) (B : HS) (K : mx_I), k + m = nl → MR P B K2 K → B = hs_go P hr.toInt (168 - now) (hs_of I hp nk now) → (b = true ↔ ∀ x, x < k → bt set x = true → B.r 4 x ≠ 0 ∨ B.r 1 x = nI e) → mx_Go l (mx_rm (d + 26 + 1) 0 0) mX12_brings (mx_Z (fun r h' => r = some (.int (b2i (enough nl set e (hs_go P hr.toInt (168 - now) (hs_of I hp nk now))))) ∧ ∃ K', h' = (sk0 cc, K') ∧ Same K0 K') 0 0) 0 0 33 [.ref 120, .int (nI h), .int set, .int (nI e), .int hr, .int (b2i b), .int (nI k)] [] (sk0 cc, K) := by
    intro m
    induction m with
    | zero =>
      intro k b B K hk M hBR hb
      have e1 : K 121 2 ≤ nI k := by rw [M.1.1.2.1]; exact (nI_leI (by show nl < _; omega) (by omega)).mpr (by show nl ≤ k; omega)
      refine sg_X12_brings_33 _ _ _ _ _ _ (fun _ => ?_) (fun z => absurd e1 z) (fun z => absurd e1 z) (fun z => absurd e1 z)
      refine mth_end (d := d + 25) B1 (fun k k1 k2 => kn k k1) (fun j hj => kj j (by omega)) (fun i hi => by rw [kn 121 (by omega)]) M.2.2.2 rfl (fun K4 hS => ?_)
      refine sg_X12_brings_97 _ _ _ _ _ _ ⟨?_, K4, rfl, hS⟩ (b2i_01 b)
      have hk' : k = nl := by omega
      subst hk'
      have : b = enough k set e (hs_go P hr.toInt (168 - now) (hs_of I hp nk now)) := by
        rw [← hBR]
        unfold enough
        by_cases q : b = true
        · rw [q, decide_eq_true (hb.mp q)]
        · rw [Bool.eq_false_iff.mpr q, decide_eq_false (fun z => q (hb.mpr z))]
      rw [this]
    | succ m ih =>
      intro k b B K hk M hBR hb
      have hkl : k < P.nl := by show k < nl; omega
      have e1 : ¬ K 121 2 ≤ nI k := fun z => by
        rw [M.1.1.2.1] at z
        have := (nI_leI (show nl < 2 ^ 31 by omega) (by omega)).mp z
        omega
      have nx : ∀ (b' : Bool), (b' = true ↔ (b = true ∧ (bt set k = true → B.r 4 k ≠ 0 ∨ B.r 1 k = nI e))) → mx_Go l (mx_rm (d + 26 + 1) 0 0) mX12_brings (mx_Z (fun r h' => r = some (.int (b2i (enough nl set e (hs_go P hr.toInt (168 - now) (hs_of I hp nk now))))) ∧ ∃ K', h' = (sk0 cc, K') ∧ Same K0 K') 0 0) 0 0 33 [.ref 120, .int (nI h), .int set, .int (nI e), .int hr, .int (b2i b'), .int (nI k + 1)] [] (sk0 cc, K) := fun b' hb' => by
        rw [nI_1]
        refine ih (k + 1) b' B K (by omega) M hBR ?_
        rw [hb', hb]
        constructor
        · rintro ⟨z1, z2⟩ x hx hbx
          by_cases q : x = k
          · subst q; exact z2 hbx
          · exact z1 x (by omega) hbx
        · intro z
          exact ⟨fun x hx => z x (by omega), fun hbx => z k (by omega) hbx⟩
      have hbt : ¬ b2i b = 0 → b = true := fun z => by
        cases b with
        | true => rfl
        | false => exact absurd rfl z
      have h4 : B.r 4 k = 0 ∨ B.r 4 k = 1 := by rw [hBR]; exact (hA.2.2.1 k hkl).1
      refine sg_X12_brings_33 _ _ _ _ _ _ (fun z => absurd z e1) (fun _ z => nx false ?_) (fun _ z g => nx true ?_) (fun _ z g => ⟨_, sp_isThere (d := d + 24) M hkl s4, ?_⟩)
      · rw [b2i_0.mp z]; simp
      · have : bt set k = false := by rw [b_get (by omega)] at g; exact b2i_0.mp g
        rw [hbt z, this]; simp
      · have hbk : bt set k = true := by
          rw [b_get (by omega)] at g
          cases q : bt set k with
          | true => rfl
          | false => rw [q] at g; exact absurd rfl g
        rintro _ _ ⟨rfl, rfl⟩
        refine sg_X12_brings_65 _ _ _ _ _ _ _ (fun w => nx true ?_) (fun w => ⟨_, sp_ofLoad 8 rfl (by omega) (by omega), ?_⟩)
        · have := Classical.byContradiction (fun v : ¬ (B.r 1 k = nI e ∧ B.r 4 k = 0) => w (by rw [decide_eq_false v]; rfl))
          exact ⟨fun _ => ⟨hbt z, fun _ => Or.inr this.1⟩, fun _ => rfl⟩
        · have wno := of_decide_eq_false (b2i_0.mp w)
          rintro _ _ ⟨rfl, rfl⟩
          rw [show 20 + 10 * k + 8 = 24 + 10 * k + 4 from by omega, M.at hkl (by omega) (by omega)]
          refine sg_X12_brings_76 _ _ _ _ _ _ _ (fun v => nx false ?_) (fun v => nx true ?_)
          · have h0 : B.r 4 k = 0 := h4.resolve_right v
            exact ⟨fun q => absurd q (by simp), fun q => ((q.2 hbk).elim (fun y => y h0) (fun y => wno ⟨y, h0⟩)).elim⟩
          · exact ⟨fun _ => ⟨hbt z, fun _ => Or.inl (by rw [v]; decide)⟩, fun _ => rfl⟩
  have lp : ∀ (m : Nat) (B : HS) (K : mx_I), B.now + m = 168 → MR P B K2 K → HInv P now B → B.r 65 13 = -1 → hs_go P hr.toInt m B = hs_go P hr.toInt (168 - now) (hs_of I hp nk now) → mx_Go l (mx_rm (d + 26 + 1) 0 0) mX12_brings (mx_Z (fun r h' => r = some (.int (b2i (enough nl set e (hs_go P hr.toInt (168 - now) (hs_of I hp nk now))))) ∧ ∃ K', h' = (sk0 cc, K') ∧ Same K0 K') 0 0) 0 0 9 [.ref 120, .int (nI h), .int set, .int (nI e), .int hr, .retAddr 0, .retAddr 0] [] (sk0 cc, K) := by
    intro m
    induction m with
    | zero =>
      intro B K hm M hHB h13 hR
      have e1 : hr < K 121 1 := by rw [M.2.1.2.2.1.1, i_lt, nI_toInt (by omega)]; omega
      exact sg_X12_brings_9 _ _ _ _ (fun _ => cnt nl 0 true B K (by omega) M hR ⟨fun _ x hx => absurd hx (by omega), fun _ => rfl⟩) (fun z => absurd e1 z)
    | succ m ih =>
      intro B K hm M hHB h13 hR
      have e1 : hr < K 121 1 ↔ hr.toInt < B.now := by rw [M.2.1.2.2.1.1, i_lt, nI_toInt (by omega)]
      refine sg_X12_brings_9 _ _ _ _ (fun z => ?_) (fun z => ?_)
      · rw [hs_go_stop (fun w => by have := e1.mp z; have := w.1; omega)] at hR
        exact cnt nl 0 true B K (by omega) M hR ⟨fun _ x hx => absurd hx (by omega), fun _ => rfl⟩
      · have z' : ¬ hr.toInt < B.now := fun w => z (e1.mpr w)
        rw [hs_go, if_pos ⟨by omega, h13⟩] at hR
        obtain ⟨y1, y2, y3⟩ := hHB.hour hP hB (by omega)
        refine ⟨_, sp_anHour (d := d) hP hHB.1 hHB.2.2.2.2.1 (by omega) M, ?_⟩
        rintro _ _ ⟨rfl, K', rfl, M'⟩
        exact sg_X12_brings_24 _ _ _ _ (ih _ K' (by omega) M' y1 ((y3 h11).trans h13) hR)
  exact lp (168 - now) (hs_of I hp nk now) K2 (by show now + (168 - now) = 168; omega) M0 hI rfl rfl
end W
/-- the best set so far -/
def fw_less (R : Nat → Int32) (no : Nat) (h : Nat) : Option Nat → Bool
  | none => true
  | some b => decide (cntN (nI h) 30 < cntN (nI b) 30 ∨ (cntN (nI h) 30 = cntN (nI b) 30 ∧ prcN R (nI h) no < prcN R (nI b) no))
def fw_run (R : Nat → Int32) (no : Nat) (en : Nat → Bool) : Nat → Nat → Option Nat → Option Nat
  | 0, _, b => b
  | m + 1, h, b => fw_run R no en m (h + 1) (if fw_less R no h b = true ∧ en h = true then some h else b)
def oI : Option Nat → Int32
  | none => -1
  | some b => nI b
theorem sh_no : ∀ n, n ≤ 8 → (1 : Int32) <<< (nI n &&& 31) = nI (2 ^ n) := by decide +kernel
