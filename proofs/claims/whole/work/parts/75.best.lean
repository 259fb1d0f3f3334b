/-! best -/
def isSp (now : Nat) (a b : Int32) : Bool := decide ((now : Int) ≤ a.toInt ∧ a.toInt ≤ b.toInt ∧ b.toInt ≤ 167)
section L
variable {l : Launch} {c : Nat}
theorem sp_isSpan {d n : Nat} {I : mx_I} (a b : Int32) (hn : I 33 9 = nI n) (h : n ≤ 168) : mx_Spec l mX11_isSpan (d + 2) 0 0 [.ref 0, .int a, .int b] (sk0 c, I) (fun r h' => r = some (.int (b2i (isSp n a b))) ∧ h' = (sk0 c, I)) := by
  have f0 : ¬ ((n : Int) ≤ a.toInt ∧ a.toInt ≤ b.toInt ∧ b.toInt ≤ 167) → isSp n a b = false := fun z => decide_eq_false z
  refine sn_X11_isSpan _ _ (fun z => ⟨by rw [f0 (fun w => by rw [i_lt] at z; omega)]; rfl, rfl⟩) (fun z => ⟨_, sp_isAhead a hn h, ?_⟩)
  rintro _ _ ⟨rfl, rfl⟩
  rw [i_lt] at z
  cases g1 : inR a n 167 with
  | false =>
    have g1' := inR_f.mp g1
    exact sg_X11_isSpan_10 _ _ _ (fun _ => ⟨by rw [f0 (fun w => by omega)]; rfl, rfl⟩) (fun z => absurd rfl z)
  | true =>
    have g1' := inR_t.mp g1
    refine sg_X11_isSpan_10 _ _ _ (fun z => absurd z (by decide)) (fun _ => ⟨_, sp_isAhead b hn h, ?_⟩)
    rintro _ _ ⟨rfl, rfl⟩
    cases g2 : inR b n 167 with
    | false =>
      have g2' := inR_f.mp g2
      exact sg_X11_isSpan_18 _ _ _ (fun _ => ⟨by rw [f0 (fun w => by omega)]; rfl, rfl⟩) (fun z => absurd rfl z)
    | true =>
      have g2' := inR_t.mp g2
      exact sg_X11_isSpan_18 _ _ _ (fun z => absurd z (by decide)) (fun _ => ⟨by rw [show isSp n a b = true from decide_eq_true ⟨by omega, by omega, by omega⟩]; rfl, rfl⟩)
theorem sp_areHours {d n : Nat} {I : mx_I} (a b : Int32) (hn : I 121 1 = nI n) (h : n ≤ 168) : mx_Spec l mX12_areHours (d + 2) 0 0 [.ref 120, .int a, .int b] (sk0 c, I) (fun r h' => r = some (.int (b2i (isSp n a b))) ∧ h' = (sk0 c, I)) := by
  have f0 : ¬ ((n : Int) ≤ a.toInt ∧ a.toInt ≤ b.toInt ∧ b.toInt ≤ 167) → isSp n a b = false := fun z => decide_eq_false z
  have i167 : (167 : Int32).toInt = 167 := by decide
  refine sn_X12_areHours _ _ ⟨_, sp_isIn _ _ _, ?_⟩
  rintro _ _ ⟨rfl, rfl⟩
  rw [hn, nI_toInt (by omega)]
  cases g1 : inR a n b.toInt with
  | false =>
    have g1' := inR_f.mp g1
    exact sg_X12_areHours_11 _ _ _ (fun _ => ⟨by rw [f0 (fun w => by omega)]; rfl, rfl⟩) (fun z => absurd rfl z) (fun z => absurd rfl z)
  | true =>
    have g1' := inR_t.mp g1
    refine sg_X12_areHours_11 _ _ _ (fun z => absurd z (by decide)) (fun _ z => ⟨by rw [f0 (fun w => by rw [i_lt, i167] at z; omega)]; rfl, rfl⟩) (fun _ z => ⟨by rw [show isSp n a b = true from decide_eq_true ⟨by omega, by omega, by rw [i_lt, i167] at z; omega⟩]; rfl, rfl⟩)
end L
/-- what one bears is no less than 0 -/
theorem pk_bnd {wt : Nat → Int32} {st : Bool} {lets : Nat → Int32 → Bool} {free : Int32} (hf : bnd free 0 99) : ∀ (ls : List Nat) (s : Int32) (acc : List Nat), (∀ x ∈ ls, bnd (wt x) 1 99) → 0 ≤ s.toInt → s.toInt ≤ free.toInt → 0 ≤ (pk_go wt st lets free ls s acc).2.toInt ∧ (pk_go wt st lets free ls s acc).2.toInt ≤ free.toInt
  | [], s, acc, _, h1, h2 => ⟨h1, h2⟩
  | x :: ls, s, acc, hw, h1, h2 => by
    have hx := hw x (by simp)
    have hr := fun y (hy : y ∈ ls) => hw y (List.mem_cons_of_mem _ hy)
    obtain ⟨f, ef, lf⟩ := bnd_nat hf
    obtain ⟨m, em, lm⟩ := bnd_nat (x := s) (hi := 99) ⟨h1, by have := hf.2; omega⟩
    obtain ⟨w, ew, lw⟩ := bnd_nat (x := wt x) (hi := 99) ⟨by have := hx.1; omega, hx.2⟩
    have tf : free.toInt = f := by rw [ef, nI_toInt (by omega)]
    have tm : s.toInt = m := by rw [em, nI_toInt (by omega)]
    have tw : (wt x).toInt = w := by rw [ew, nI_toInt (by omega)]
    unfold pk_go
    split
    · split
      · exact ⟨h1, h2⟩
      · exact pk_bnd hf ls s acc hr h1 h2
    · rename_i g
      have hsub : (free - s).toInt = (f : Int) - m := by rw [ef, em]; exact pk_sub_toInt (by omega) (by omega)
      rw [i_lt, hsub, tw] at g
      have hadd : (s + wt x).toInt = (m : Int) + w := by rw [em, ew, nI_add, nI_toInt (by omega)]; omega
      split
      · exact pk_bnd hf ls _ _ hr (by rw [hadd]; omega) (by rw [hadd, tf]; omega)
      · exact pk_bnd hf ls s acc hr h1 h2
def bs_run (P : Pm) (e : Nat) (bears : Int32) : Nat → HS → Int32 → Int32 → Int32 × Int32
  | 0, _, b, s => (b, s)
  | m + 1, B, b, s => if b = -1 ∨ (hs_pick P (hs_hour P B) e bears 0 B.now).2 < s then bs_run P e bears m (hs_hour P B) (nI B.now) (hs_pick P (hs_hour P B) e bears 0 B.now).2 else bs_run P e bears m (hs_hour P B) b s
theorem bs_first {P : Pm} {e : Nat} {bears : Int32} {m : Nat} {B : HS} {s s' : Int32} : bs_run P e bears (m + 1) B (-1) s = bs_run P e bears (m + 1) B (-1) s' := by
  rw [bs_run, bs_run, if_pos (Or.inl rfl), if_pos (Or.inl rfl)]
theorem go_one {P : Pm} {B : HS} {n : Nat} (hn : B.now + (n + 1) = 168) (h13 : B.r 65 13 = -1) (h1 : (hs_hour P B).now = B.now + 1) : hs_go P (B.now : Int) (n + 1) B = hs_hour P B := by
  rw [hs_go, if_pos ⟨by omega, h13⟩]
  exact hs_go_stop (fun z => by have := z.1; omega) n
theorem go_now {P : Pm} {fm : Nat} (hP : POk P) (hB : PB P) (h11 : P.R 65 11 = -1) {u : Int} : ∀ (n : Nat) (A : HS), A.now + n = 168 → HInv P fm A → A.r 65 13 = -1 → HInv P fm (hs_go P u n A) ∧ (hs_go P u n A).r 65 13 = -1 ∧ ((A.now : Int) ≤ u + 1 → u < 168 → ((hs_go P u n A).now : Int) = u + 1)
  | 0, A, hn, hI, h13 => ⟨hI, h13, fun h1 h2 => by show (A.now : Int) = u + 1; omega⟩
  | n + 1, A, hn, hI, h13 => by
    rw [hs_go]
    by_cases q : (A.now : Int) ≤ u
    · rw [if_pos ⟨q, h13⟩]
      obtain ⟨y1, y2, y3⟩ := hI.hour hP hB (by omega)
      obtain ⟨z1, z2, z3⟩ := go_now hP hB h11 (u := u) n (hs_hour P A) (by omega) y1 ((y3 h11).trans h13)
      exact ⟨z1, z2, fun h1 h2 => z3 (by omega) h2⟩
    · rw [if_neg (fun z => q z.1)]
      exact ⟨hI, h13, fun h1 h2 => by omega⟩
set_option maxHeartbeats 4000000 in
theorem p_best {l : Launch} (a1 a2 a3 a4 a5 a6 : Int32) : mx_PrI l Sim mX11_best mX12_best [.int a1, .int a2, .int a3, .int a4, .int a5, .int a6] := by
  intro c I hs
  obtain ⟨nb, now, nl, nc, no, ni, nk, hp, ps, W⟩ := hs.2.1.world
  obtain ⟨⟨s1, s2, s3, s4, s5, s6, s7, s8⟩, ⟨c1, c2, c3, c4, c5, c6, c7⟩, ⟨d1, d2, d3, -⟩, -⟩ := id W.1
  have hc := hs.1
  obtain ⟨z21, z22, z25, z26⟩ := hs.2.2.2.2.2.2
  cases g1 : isW nb a1 a2 a3 with
  | false =>
    refine pr_no (-1) hs (sn_X11_best _ _ _ _ _ _ ⟨_, sp_isWalk _ _ _ c1 s2, ?_⟩) (sn_X12_best _ _ _ _ _ _ ⟨_, sp_isCrossing _ _ _ d1 s2, ?_⟩)
    · rintro _ _ ⟨rfl, rfl⟩; rw [g1]; exact sg_X11_best_7 _ _ _ _ _ _ _ (fun _ => ⟨rfl, rfl⟩) (fun z => absurd rfl z)
    · rintro _ _ ⟨rfl, rfl⟩; rw [g1]; exact sg_X12_best_7 _ _ _ _ _ _ _ (fun _ => ⟨rfl, rfl⟩) (fun z => absurd rfl z)
  | true =>
  cases g2 : isSp now a4 a5 with
  | false =>
    refine pr_no (-1) hs (sn_X11_best _ _ _ _ _ _ ⟨_, sp_isWalk _ _ _ c1 s2, ?_⟩) (sn_X12_best _ _ _ _ _ _ ⟨_, sp_isCrossing _ _ _ d1 s2, ?_⟩)
    · rintro _ _ ⟨rfl, rfl⟩; rw [g1]
      refine sg_X11_best_7 _ _ _ _ _ _ _ (fun z => absurd z (by decide)) (fun _ => ⟨_, sp_isSpan _ _ c2 s3, ?_⟩)
      rintro _ _ ⟨rfl, rfl⟩; rw [g2]; exact sg_X11_best_18 _ _ _ _ _ _ _ (fun _ => ⟨rfl, rfl⟩) (fun z => absurd rfl z) (fun z => absurd rfl z) (fun z => absurd rfl z)
    · rintro _ _ ⟨rfl, rfl⟩; rw [g1]
      refine sg_X12_best_7 _ _ _ _ _ _ _ (fun z => absurd z (by decide)) (fun _ => ⟨_, sp_areHours _ _ d2 s3, ?_⟩)
      rintro _ _ ⟨rfl, rfl⟩; rw [g2]; exact sg_X12_best_18 _ _ _ _ _ _ _ (fun _ => ⟨rfl, rfl⟩) (fun z => absurd rfl z)
  | true =>
  cases g3 : inR a6 0 1 with
  | false =>
    have g3' := inR_f.mp g3
    refine pr_no (-1) hs (sn_X11_best _ _ _ _ _ _ ⟨_, sp_isWalk _ _ _ c1 s2, ?_⟩) (sn_X12_best _ _ _ _ _ _ ⟨_, sp_isCrossing _ _ _ d1 s2, ?_⟩)
    · rintro _ _ ⟨rfl, rfl⟩; rw [g1]
      refine sg_X11_best_7 _ _ _ _ _ _ _ (fun z => absurd z (by decide)) (fun _ => ⟨_, sp_isSpan _ _ c2 s3, ?_⟩)
      rintro _ _ ⟨rfl, rfl⟩; rw [g2]
      refine sg_X11_best_18 _ _ _ _ _ _ _ (fun z => absurd z (by decide)) (fun _ _ => ⟨rfl, rfl⟩) (fun _ z1 z2 => ?_) (fun _ _ _ => ⟨rfl, rfl⟩)
      refine absurd ⟨?_, (i_le _ _).mp z2⟩ g3'
      have h' : ¬ a6.toInt < 0 := fun z => z1 ((i_lt _ _).mpr z)
      omega
    · rintro _ _ ⟨rfl, rfl⟩; rw [g1]
      refine sg_X12_best_7 _ _ _ _ _ _ _ (fun z => absurd z (by decide)) (fun _ => ⟨_, sp_areHours _ _ d2 s3, ?_⟩)
      rintro _ _ ⟨rfl, rfl⟩; rw [g2]
      refine sg_X12_best_18 _ _ _ _ _ _ _ (fun z => absurd z (by decide)) (fun _ => ⟨_, sp_isIn _ _ _, ?_⟩)
      rintro _ _ ⟨rfl, rfl⟩; rw [show ((0 : Int32).toInt) = 0 from rfl, show ((1 : Int32).toInt) = 1 from by decide, g3]
      exact sg_X12_best_28 _ _ _ _ _ _ _ (fun z => absurd rfl z) (fun _ => ⟨rfl, rfl⟩)
  | true =>
  have g3' := inR_t.mp g3
  have n0 : ¬ a6 < 0 := fun z => by have : a6.toInt < 0 := (i_lt _ _).mp z; omega
  have n1 : a6 ≤ 1 := (i_le _ _).mpr g3'.2
  obtain ⟨y1, y2, y3⟩ := of_decide_eq_true g2
  obtain ⟨b1, b2, b3⟩ := isW_t g1
  obtain ⟨e, e', q1, q2, q3, q4, -⟩ := way_of b1 b2 s2
  obtain ⟨f, ef, lf⟩ : ∃ f : Nat, a4 = nI f ∧ (f : Int) = a4.toInt := ⟨a4.toInt.toNat, i_nat (by omega), by omega⟩
  obtain ⟨t, et, lt⟩ : ∃ t : Nat, a5 = nI t ∧ (t : Int) = a5.toInt := ⟨a5.toInt.toNat, i_nat (by omega), by omega⟩
  subst ef
  subst et
  have hf1 : now ≤ f := by omega
  have hf2 : f ≤ t := by omega
  have hf3 : t ≤ 167 := by omega
  let P : Pm := pm_of I ps nb nl nc no false true (pm_row false (I 1 6) 0 0 (-1) (-1))
  have hP : POk P := W.pok rfl
  have hB : PB P := W.pb
  have h11 : P.R 65 11 = -1 := World.rw5
  have hI : HInv P now (hs_of I hp nk now) := W.hinv
  have he : e ≤ P.nb := q1
  have pos : ∀ (B : HS) (h : Nat), AInv P B [] → 0 ≤ (hs_pick P B e a3 0 h).2.toInt := fun B h hA => by
    refine (pk_bnd b3 (B.hp e) 0 [] (fun x hx => ?_) (by decide) (by have := b3.1; exact this)).1
    have hx2 : x < nl := (((hA.1 e (by omega)).2 x).mp hx).1
    rw [World.pq (by omega)]
    exact (W.2.2.1.1 x hx2).1
  obtain ⟨v1, v2, v3⟩ := go_now (fm := now) hP hB h11 (u := (f : Int) - 1) (168 - now) (hs_of I hp nk now) (by show now + (168 - now) = 168; omega) hI rfl
  have v4 : (hs_go P ((f : Int) - 1) (168 - now) (hs_of I hp nk now)).now = f := by
    have := v3 (by show (now : Int) ≤ (f : Int) - 1 + 1; omega) (by omega)
    omega
  refine pr_go (fun v c1 I1 => c1 = 55 ∧ (v = if a6 = 0 then (bs_run P e a3 (t + 1 - f) (hs_go P ((f : Int) - 1) (168 - now) (hs_of I hp nk now)) (-1) 0).1 else (bs_run P e a3 (t + 1 - f) (hs_go P ((f : Int) - 1) (168 - now) (hs_of I hp nk now)) (-1) 0).2) ∧ ∀ k, k ≠ 32 → (k < 55 ∨ 73 < k) → I1 k = I k) ?_ ?_
  · refine sn_X11_best _ _ _ _ _ _ ⟨_, sp_isWalk _ _ _ c1 s2, ?_⟩
    rintro _ _ ⟨rfl, rfl⟩; rw [g1]
    refine sg_X11_best_7 _ _ _ _ _ _ _ (fun z => absurd z (by decide)) (fun _ => ⟨_, sp_isSpan _ _ c2 s3, ?_⟩)
    rintro _ _ ⟨rfl, rfl⟩; rw [g2]
    refine sg_X11_best_18 _ _ _ _ _ _ _ (fun z => absurd z (by decide)) (fun _ z => absurd z n0) (fun _ _ _ => ?_) (fun _ _ z => absurd n1 z)
    rw [c2]
    refine W.make (d := 97) s3 (fun _ _ => rfl) (fun I1 h1 h2 => ?_)
    refine sg_X11_best_55 _ _ _ _ _ _ ⟨_, sp_think (d := 97) hc, ?_⟩
    rintro _ _ ⟨rfl, J, rfl, hT⟩
    have jr : ∀ g, 7 ≤ g → g ≤ 12 → J 65 g = pm_row false (I 1 6) 0 0 (-1) (-1) g := fun g g1 g2 => by
      obtain ⟨q7, q8, q9, q10, q11, q12⟩ := hT.2.2.2.2.2.2.1
      rw [h1 1 (by omega)] at q8
      have : g = 7 ∨ g = 8 ∨ g = 9 ∨ g = 10 ∨ g = 11 ∨ g = 12 := by omega
      rcases this with rfl | rfl | rfl | rfl | rfl | rfl <;> simp [pm_row, b2i, *]
    have CR0 : CR 55 P (hs_of I hp nk now) J J := W.tht (fun k k1 k2 => h1 k (by omega)) hT (fun _ _ => rfl) jr (fun _ _ _ => rfl)
    have CP : CPlan P now J := h2.cplan ⟨s4, s5, s6⟩ (fun k k1 k2 => hT.out (by omega))
    have jI : ∀ k, k ≠ 32 → (k < 55 ∨ 73 < k) → J k = I k := fun k k1 k2 => by rw [hT.out (by omega), h1 k (by omega)]
    have ef1 : (nI f - 1 : Int32).toInt = (f : Int) - 1 := nI_sub1 (by omega)
    refine sg_X11_best_59 _ _ _ _ _ _ ⟨_, sp_goOn (d := 73) (fm := now) hP hB (fun z => absurd z (by simp [P, pm_of])) CP CR0 hI, ?_⟩
    rintro _ _ ⟨rfl, I3, rfl, h3, h4⟩
    rw [ef1] at h3 h4
    refine sg_X11_best_70 _ _ _ _ _ _ ?_
    have lp : ∀ (m : Nat) (B : HS) (K : mx_I) (x7 x8 : Int32) (y : Value), B.now + m = t + 1 → CR 55 P B J K → HInv P now B → B.r 65 13 = -1 → ((x7 = -1 ∧ x8 = -1) ∨ (x7 ≠ -1 ∧ 0 ≤ x8.toInt)) → (x7 = -1 → 1 ≤ m) → (∀ s, (x7 = -1 ∨ s = x8) → bs_run P e a3 m B x7 s = bs_run P e a3 (t + 1 - f) (hs_go P ((f : Int) - 1) (168 - now) (hs_of I hp nk now)) (-1) 0) → mx_Go l (mx_rm (99 + 1) 0 0) mX11_best (mx_Z (fun r h' => ∃ (v : Int32) (c1 : Nat) (I1 : mx_I), r = some (.int v) ∧ h' = (sk0 c1, I1) ∧ c1 = 55 ∧ (v = if a6 = 0 then (bs_run P e a3 (t + 1 - f) (hs_go P ((f : Int) - 1) (168 - now) (hs_of I hp nk now)) (-1) 0).1 else (bs_run P e a3 (t + 1 - f) (hs_go P ((f : Int) - 1) (168 - now) (hs_of I hp nk now)) (-1) 0).2) ∧ ∀ k, k ≠ 32 → (k < 55 ∨ 73 < k) → I1 k = I k) 0 0) 0 0 80 [.ref 0, .int a1, .int a2, .int a3, .int (nI f), .int (nI t), .int a6, .int x7, .int x8, .int (nI B.now), y] [] (sk0 55, K) := by
      intro m
      induction m with
      | zero =>
        intro B K x7 x8 y hm hK hHB h13 hx hx1 hR
        refine mx_fg (L' := [.ref 0, .int a1, .int a2, .int a3, .int (nI f), .int (nI t), .int a6, .int x7, .int x8, .int (nI B.now), .retAddr 0]) (by simp [mx_le]) ?_
        have e1 : nI t < nI B.now := (nI_ltI (by omega) (by omega)).mpr (by omega)
        have hF : ∀ k, k ≠ 32 → (k < 55 ∨ 73 < k) → K k = I k := fun k k1 k2 => by rw [hK.out55 rfl k1 k2, jI k k1 k2]
        have hR' := hR x8 (Or.inr rfl)
        rw [bs_run] at hR'
        refine sg_X11_best_80 _ _ _ _ _ _ _ _ _ (fun _ z => ⟨_, 55, K, rfl, rfl, rfl, ?_, hF⟩) (fun _ z => ⟨_, 55, K, rfl, rfl, rfl, ?_, hF⟩) (fun z => absurd e1 z)
        · rw [if_neg z, ← hR']
        · rw [if_pos z, ← hR']
      | succ m ih =>
        intro B K x7 x8 y hm hK hHB h13 hx hx1 hR
        refine mx_fg (L' := [.ref 0, .int a1, .int a2, .int a3, .int (nI f), .int (nI t), .int a6, .int x7, .int x8, .int (nI B.now), .retAddr 0]) (by simp [mx_le]) ?_
        have e1 : ¬ nI t < nI B.now := fun z => by rw [nI_ltI (by omega) (by omega)] at z; omega
        obtain ⟨w1, w2, w3⟩ := hHB.hour hP hB (by omega)
        refine sg_X11_best_80 _ _ _ _ _ _ _ _ _ (fun z => absurd z e1) (fun z => absurd z e1) (fun _ => ⟨_, sp_goOn (d := 73) (fm := now) (u := nI B.now) hP hB (fun z => absurd z (by simp [P, pm_of])) CP hK hHB, ?_⟩)
        rintro _ _ ⟨rfl, K2, rfl, h5, h6⟩
        obtain ⟨r, hr⟩ : ∃ r, 168 - B.now = r + 1 := ⟨167 - B.now, by omega⟩
        have ego : hs_go P (nI B.now).toInt (168 - B.now) B = hs_hour P B := by
          rw [nI_toInt (by omega), hr]
          exact go_one (by omega) h13 w2
        rw [ego] at h5 h6
        refine sg_X11_best_96 _ _ _ _ _ _ _ _ _ ?_
        rw [q4]
        refine ⟨_, sp_choose (d := 96) (free := a3) (own := 0) (t := B.now) hP h5 w1.1 he, ?_⟩
        rintro _ _ ⟨rfl, K3, rfl, h7, -⟩
        have hpos := pos (hs_hour P B) B.now w1.1
        have nx : ∀ (x7' x8' : Int32) (y : Value), ((x7' = -1 ∧ x8' = -1) ∨ (x7' ≠ -1 ∧ 0 ≤ x8'.toInt)) → (x7' = -1 → 1 ≤ m) → (∀ s, (x7' = -1 ∨ s = x8') → bs_run P e a3 m (hs_hour P B) x7' s = bs_run P e a3 (t + 1 - f) (hs_go P ((f : Int) - 1) (168 - now) (hs_of I hp nk now)) (-1) 0) → mx_Go l (mx_rm (99 + 1) 0 0) mX11_best (mx_Z (fun r h' => ∃ (v : Int32) (c1 : Nat) (I1 : mx_I), r = some (.int v) ∧ h' = (sk0 c1, I1) ∧ c1 = 55 ∧ (v = if a6 = 0 then (bs_run P e a3 (t + 1 - f) (hs_go P ((f : Int) - 1) (168 - now) (hs_of I hp nk now)) (-1) 0).1 else (bs_run P e a3 (t + 1 - f) (hs_go P ((f : Int) - 1) (168 - now) (hs_of I hp nk now)) (-1) 0).2) ∧ ∀ k, k ≠ 32 → (k < 55 ∨ 73 < k) → I1 k = I k) 0 0) 0 0 80 [.ref 0, .int a1, .int a2, .int a3, .int (nI f), .int (nI t), .int a6, .int x7', .int x8', .int (nI B.now + 1), y] [] (sk0 55, K3) := by
          intro x7' x8' y u1 u2 u3
          have := ih (hs_hour P B) K3 x7' x8' y (by omega) h7 w1 ((w3 h11).trans h13) u1 u2 u3
          rw [w2] at this
          rw [nI_1]
          exact this
        have upd_ : bs_run P e a3 m (hs_hour P B) (nI B.now) (hs_pick P (hs_hour P B) e a3 0 B.now).2 = bs_run P e a3 (t + 1 - f) (hs_go P ((f : Int) - 1) (168 - now) (hs_of I hp nk now)) (-1) 0 → ∀ y, mx_Go l (mx_rm (99 + 1) 0 0) mX11_best (mx_Z (fun r h' => ∃ (v : Int32) (c1 : Nat) (I1 : mx_I), r = some (.int v) ∧ h' = (sk0 c1, I1) ∧ c1 = 55 ∧ (v = if a6 = 0 then (bs_run P e a3 (t + 1 - f) (hs_go P ((f : Int) - 1) (168 - now) (hs_of I hp nk now)) (-1) 0).1 else (bs_run P e a3 (t + 1 - f) (hs_go P ((f : Int) - 1) (168 - now) (hs_of I hp nk now)) (-1) 0).2) ∧ ∀ k, k ≠ 32 → (k < 55 ∨ 73 < k) → I1 k = I k) 0 0) 0 0 80 [.ref 0, .int a1, .int a2, .int a3, .int (nI f), .int (nI t), .int a6, .int (nI B.now), .int (hs_pick P (hs_hour P B) e a3 0 B.now).2, .int (nI B.now + 1), y] [] (sk0 55, K3) := fun u y =>
          nx _ _ y (Or.inr ⟨nI_n1 (by omega), hpos⟩) (fun z => absurd z (nI_n1 (by omega))) (fun s hs' => by rw [hs'.resolve_left (nI_n1 (by omega))]; exact u)
        refine sg_X11_best_110 _ _ _ _ _ _ _ _ _ _ (fun z => ?_) (fun z1 z2 => ?_) (fun z1 z2 => ?_)
        · have hx7 : x7 = -1 := by
            rcases hx with w | w
            · exact w.1
            · rw [z] at w; exact absurd w.2 (by decide)
          have u := hR 0 (Or.inl hx7)
          rw [bs_run, if_pos (Or.inl hx7)] at u
          exact upd_ u _
        · have hx7 : x7 ≠ -1 := by
            rcases hx with w | w
            · exact absurd w.2 z1
            · exact w.1
          have u := hR x8 (Or.inr rfl)
          rw [bs_run, if_neg (fun w => w.elim hx7 (fun v => by rw [i_lt] at v; have z2' := (i_le _ _).mp z2; omega))] at u
          exact nx x7 x8 _ (Or.inr (hx.resolve_left (fun w => z1 w.2))) (fun w => absurd w hx7) (fun s hs' => by rw [hs'.resolve_left hx7]; exact u)
        · have u := hR x8 (Or.inr rfl)
          rw [bs_run, if_pos (Or.inr (by rw [i_lt]; have : ¬ _ ≤ _ := fun z => z2 ((i_le _ _).mpr z); omega))] at u
          exact upd_ u _
    have key := lp (t + 1 - f) (hs_go P ((f : Int) - 1) (168 - now) (hs_of I hp nk now)) I3 (-1) (-1) (.retAddr 0) (by omega) h3 h4 v2 (Or.inl ⟨rfl, rfl⟩) (fun _ => by omega) (fun s _ => by
      obtain ⟨r, hr⟩ : ∃ r, t + 1 - f = r + 1 := ⟨t - f, by omega⟩
      rw [hr]; exact bs_first)
    rw [v4] at key
    exact key
  · rintro v cc I1 ⟨rfl, hv, hF⟩
    have w1 : I1 121 = I 121 := hF 121 (by omega) (by omega)
    have w0 : I1 120 = I 120 := hF 120 (by omega) (by omega)
    refine sn_X12_best _ _ _ _ _ _ ⟨_, sp_isCrossing _ _ _ (by rw [w1]; exact d1) s2, ?_⟩
    rintro _ _ ⟨rfl, rfl⟩; rw [g1]
    refine sg_X12_best_7 _ _ _ _ _ _ _ (fun z => absurd z (by decide)) (fun _ => ⟨_, sp_areHours _ _ (by rw [w1]; exact d2) s3, ?_⟩)
    rintro _ _ ⟨rfl, rfl⟩; rw [g2]
    refine sg_X12_best_18 _ _ _ _ _ _ _ (fun z => absurd z (by decide)) (fun _ => ⟨_, sp_isIn _ _ _, ?_⟩)
    rintro _ _ ⟨rfl, rfl⟩; rw [show ((0 : Int32).toInt) = 0 from rfl, show ((1 : Int32).toInt) = 1 from by decide, g3]
    refine sg_X12_best_28 _ _ _ _ _ _ _ (fun _ => ?_) (fun z => absurd z (by decide))
    refine mth_begin (d := 98) (fun K1 B1 => ?_)
    have M0 : MR P (hs_of I hp nk now) K1 K1 := W.mth hs w1 ⟨by rw [w0]; exact z22, by rw [w0]; exact z25, by rw [w0]; exact z26⟩ B1
    -- from the hour on
    have lp2 : ∀ (m : Nat) (B : HS) (K : mx_I) (x7 x8 : Int32) (y z : Value), B.now + m = t + 1 → f ≤ B.now → MR P B K1 K → HInv P now B → bs_run P e a3 m B x7 x8 = bs_run P e a3 (t + 1 - f) (hs_go P ((f : Int) - 1) (168 - now) (hs_of I hp nk now)) (-1) 0 → mx_Go l (mx_rm (99 + 1) 0 0) mX12_best (mx_Z (fun r h' => r = some (.int v) ∧ ∃ (c2 : Nat) (K : mx_I), h' = (sk0 c2, K) ∧ Sim c2 K) 0 0) 0 0 43 [.ref 120, .int a1, .int a2, .int a3, .int (nI f), .int (nI t), .int a6, .int x7, .int x8, y, z] [] (sk0 55, K) := by
      intro m
      induction m with
      | zero =>
        intro B K x7 x8 y z hm hf0 M hHB hR
        refine mx_fg (L' := [.ref 120, .int a1, .int a2, .int a3, .int (nI f), .int (nI t), .int a6, .int x7, .int x8, .retAddr 0, .retAddr 0]) (by simp [mx_le]) ?_
        have e1 : nI t < K 121 1 := by rw [M.2.1.2.2.1.1, nI_ltI (by omega) (by omega)]; omega
        rw [bs_run] at hR
        refine sg_X12_best_43 _ _ _ _ _ _ _ _ (fun _ => ?_) (fun z => absurd e1 z)
        refine mth_end (d := 98) B1 (fun k k1 k2 => rfl) (fun j hj => rfl) (fun i hi => rfl) M.2.2.2 rfl (fun K4 hS => ?_)
        refine sg_X12_best_122 _ _ _ _ _ _ _ _ (fun z => ⟨?_, 55, K4, rfl, hs.same (Or.inr rfl) hF hS⟩) (fun z => ⟨?_, 55, K4, rfl, hs.same (Or.inr rfl) hF hS⟩)
        · rw [hv, if_neg z, ← hR]
        · rw [hv, if_pos z, ← hR]
      | succ m ih =>
        intro B K x7 x8 y z hm hf0 M hHB hR
        refine mx_fg (L' := [.ref 120, .int a1, .int a2, .int a3, .int (nI f), .int (nI t), .int a6, .int x7, .int x8, .retAddr 0, .retAddr 0]) (by simp [mx_le]) ?_
        have e1 : ¬ nI t < K 121 1 := fun z => by rw [M.2.1.2.2.1.1, nI_ltI (by omega) (by omega)] at z; omega
        obtain ⟨w1, w2, w3⟩ := hHB.hour hP hB (by omega)
        refine sg_X12_best_43 _ _ _ _ _ _ _ _ (fun z => absurd z e1) (fun _ => ⟨_, sp_anHour (d := 73) hP hHB.1 hHB.2.2.2.2.1 (by omega) M, ?_⟩)
        rintro _ _ ⟨rfl, K2, rfl, M2⟩
        have en : K2 121 1 - 1 = nI B.now := by rw [M2.2.1.2.2.1.1, w2]; exact nI_pred _
        have S := fun Q => @sg_X12_best_58 l 99 Q 55 K2 a1 a2 a3 (nI f) (nI t) a6 x7 x8
        rw [en, q4] at S
        have e2 : nI f ≤ nI B.now := (nI_leI (by omega) (by omega)).mpr hf0
        refine S _ (fun _ => ⟨_, sp_takes (d := 95) hP he w1.1 M2, ?_⟩) (fun z => absurd e2 z)
        rintro _ _ ⟨rfl, K3, rfl, M3, -⟩
        rw [Int32.sub_zero]
        rw [bs_run] at hR
        refine sg_X12_best_89 _ _ _ _ _ _ _ _ _ _ (fun z => ?_) (fun z1 z2 => ?_) (fun z1 z2 => ?_)
        · rw [if_pos (Or.inl z)] at hR
          exact ih _ K3 _ _ _ _ (by omega) (by omega) M3 w1 hR
        · rw [if_pos (Or.inr z2)] at hR
          exact ih _ K3 _ _ _ _ (by omega) (by omega) M3 w1 hR
        · rw [if_neg (fun w => w.elim z1 z2)] at hR
          exact ih _ K3 _ _ _ _ (by omega) (by omega) M3 w1 hR
    have lp1 : ∀ (m : Nat) (B : HS) (K : mx_I) (y z : Value), B.now + m = 168 → MR P B K1 K → HInv P now B → B.r 65 13 = -1 → hs_go P ((f : Int) - 1) m B = hs_go P ((f : Int) - 1) (168 - now) (hs_of I hp nk now) → mx_Go l (mx_rm (99 + 1) 0 0) mX12_best (mx_Z (fun r h' => r = some (.int v) ∧ ∃ (c2 : Nat) (K : mx_I), h' = (sk0 c2, K) ∧ Sim c2 K) 0 0) 0 0 43 [.ref 120, .int a1, .int a2, .int a3, .int (nI f), .int (nI t), .int a6, .int (-1), .int 0, y, z] [] (sk0 55, K) := by
      intro m
      induction m with
      | zero =>
        intro B K y z hm M hHB h13 hR
        rw [hs_go] at hR
        rw [← hR] at v4
        omega
      | succ m ih =>
        intro B K y z hm M hHB h13 hR
        by_cases q : f ≤ B.now
        · rw [hs_go_stop (fun z => by have := z.1; omega)] at hR
          refine lp2 (t + 1 - f) B K (-1) 0 y z ?_ q M hHB (by rw [hR])
          rw [← hR] at v4
          omega
        · refine mx_fg (L' := [.ref 120, .int a1, .int a2, .int a3, .int (nI f), .int (nI t), .int a6, .int (-1), .int 0, .retAddr 0, .retAddr 0]) (by simp [mx_le]) ?_
          rw [hs_go, if_pos ⟨by omega, h13⟩] at hR
          have e1 : ¬ nI t < K 121 1 := fun z => by rw [M.2.1.2.2.1.1, nI_ltI (by omega) (by omega)] at z; omega
          obtain ⟨w1, w2, w3⟩ := hHB.hour hP hB (by omega)
          refine sg_X12_best_43 _ _ _ _ _ _ _ _ (fun z => absurd z e1) (fun _ => ⟨_, sp_anHour (d := 73) hP hHB.1 hHB.2.2.2.2.1 (by omega) M, ?_⟩)
          rintro _ _ ⟨rfl, K2, rfl, M2⟩
          have en : K2 121 1 - 1 = nI B.now := by rw [M2.2.1.2.2.1.1, w2]; exact nI_pred _
          have S := fun Q => @sg_X12_best_58 l 99 Q 55 K2 a1 a2 a3 (nI f) (nI t) a6 (-1) 0
          rw [en] at S
          have e2 : ¬ nI f ≤ nI B.now := fun z => q ((nI_leI (by omega) (by omega)).mp z)
          exact S _ (fun z => absurd z e2) (fun _ => ih _ K2 _ _ (by omega) M2 w1 ((w3 h11).trans h13) hR)
    exact lp1 (168 - now) (hs_of I hp nk now) K1 _ _ (by show now + (168 - now) = 168; omega) M0 hI rfl rfl
