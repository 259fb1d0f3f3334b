/-! the pair right -/
def rt_find (ok : Nat → Bool) : Nat → Nat → Int32
  | 0, _ => -1
  | m + 1, t => if ok t = true then nI t else rt_find ok m (t + 1)
theorem rt_skip {ok : Nat → Bool} : ∀ (n m t t' : Nat), t' = t + n → t + m = 301 → (∀ s, t ≤ s → s < t' → s ≤ 300 → ok s = false) → rt_find ok m t = rt_find ok (301 - t') t'
  | 0, m, t, t', h, hm, _ => by
    rw [show t' = t from by omega, show 301 - t = m from by omega]
  | n + 1, 0, t, t', h, hm, _ => by
    rw [show 301 - t' = 0 from by omega]; rfl
  | n + 1, m + 1, t, t', h, hm, ho => by
    rw [rt_find, ho t (Nat.le_refl _) (by omega) (by omega)]
    exact rt_skip n m (t + 1) t' (by omega) (by omega) (fun s s1 s2 s3 => ho s (by omega) s2 s3)
theorem sp_bearersSince {l : Launch} {P : Pm} {A : HS} {I0 I : mx_I} {d now nc : Nat} (h : CR 55 P A I0 I) (hc : nc ≤ 20) : mx_Spec l mX9_bearersSince (d + 1) 0 0 [.ref 55, .int (nI now), .int (nI nc)] (sk0 55, I) (fun r h' => r = some (.int (nI (cb A now nc))) ∧ h' = (sk0 55, I)) := by
  have lp : ∀ (m i : Nat), i + m = nc → mx_Go l (mx_rm (d + 1) 0 0) mX9_bearersSince (mx_Z (fun r h' => r = some (.int (nI (cb A now nc))) ∧ h' = (sk0 55, I)) 0 0) 0 0 5 [.ref 55, .int (nI now), .int (nI nc), .int (nI (cb A now i)), .int (nI i)] [] (sk0 55, I) := by
    intro m
    induction m with
    | zero =>
      intro i hi
      have e1 : nI nc ≤ nI i := (nI_leI (by omega) (by omega)).mpr (by omega)
      refine sg_X9_bearersSince_5 _ (at9_55 _) _ _ _ _ (fun _ => ⟨by rw [show nc = i from by omega], rfl⟩) (fun z => absurd e1 z) (fun z => absurd e1 z) (fun z => absurd e1 z) (fun z => absurd e1 z) (fun z => absurd e1 z) (fun z => absurd e1 z)
    | succ m ih =>
      intro i hi
      have e1 : ¬ nI nc ≤ nI i := fun z => by rw [nI_leI (by omega) (by omega)] at z; omega
      have e2 : ¬ (20 : Int32) ≤ nI i := fun z => by rw [show (20 : Int32) = nI 20 from rfl, nI_leI (by omega) (by omega)] at z; omega
      have b1 : vp_in (nI i) 20 := i_vp (by omega) (by omega)
      have S := fun Q => @sg_X9_bearersSince_5 l d Q 55 I 55 (at9_55 _) (nI now) (nI nc) (nI (cb A now i)) (nI i)
      rw [nI_clamp (n := i) (by omega), h.cro (j := 7) (x := i) (by omega) (by omega) (by omega), h.cro (j := 8) (x := i) (by omega) (by omega) (by omega), nI_1, nI_1] at S
      have no : ¬ (nI now ≤ A.r 7 i ∧ 0 < A.r 8 i) → cb A now (i + 1) = cb A now i := fun z => by rw [cb, if_neg z]; rfl
      refine S _ (fun z => absurd z e1) (fun _ z => absurd z e2) (fun _ _ => b1) (fun _ _ g => ?_) (fun _ _ _ => b1) (fun _ _ g1 g2 => ?_) (fun _ _ g1 g2 => ?_)
      · rw [← no (fun z => by rw [i_lt] at g; have := (i_le _ _).mp z.1; omega)]
        exact ih (i + 1) (by omega)
      · rw [← no (fun z => by rw [i_le] at g2; have := (i_lt _ _).mp z.2; omega)]
        exact ih (i + 1) (by omega)
      · have y : cb A now i + 1 = cb A now (i + 1) := by
          rw [cb, if_pos ⟨(i_le _ _).mpr (by rw [i_lt] at g1; omega), (i_lt _ _).mpr (by rw [i_le] at g2; omega)⟩]
        rw [y]
        exact ih (i + 1) (by omega)
  exact sn_X9_bearersSince 55 _ _ (at9_55 _) (lp nc 0 (by omega))
set_option maxHeartbeats 4000000 in
theorem p_right {l : Launch} (a1 : Int32) : mx_PrI l Sim mX11_right mX12_right [.int a1] := by
  intro c I hs
  obtain ⟨nb, now, nl, nc, no, ni, nk, hp, ps, W⟩ := hs.2.1.world
  obtain ⟨⟨s1, s2, s3, s4, s5, s6, s7, s8⟩, ⟨c1, c2, c3, c4, c5, c6, c7⟩, ⟨d1, d2, d3, d4, d5, -⟩, -⟩ := id W.1
  have hc := hs.1
  obtain ⟨z21, z22, z25, z26⟩ := hs.2.2.2.2.2.2
  have i1 : (1 : Int32).toInt = 1 := by decide
  have i20 : (20 : Int32).toInt = 20 := by decide
  have i167 : (167 : Int32).toInt = 167 := by decide
  cases g1 : inR a1 1 20 with
  | false =>
    have g1' := inR_f.mp g1
    refine pr_no (-1) hs (sn_X11_right _ (fun _ => ⟨rfl, rfl⟩) (fun z1 z2 => ?_) (fun _ _ => ⟨rfl, rfl⟩)) (sn_X12_right _ ⟨_, sp_isIn _ _ _, ?_⟩)
    · refine absurd ⟨?_, by have := (i_le _ _).mp z2; rw [i20] at this; exact this⟩ g1'
      have h' : ¬ a1.toInt < 1 := fun z => z1 ((i_lt _ _).mpr (by rw [i1]; exact z))
      omega
    · rintro _ _ ⟨rfl, rfl⟩
      rw [i1, i20, g1]
      exact sg_X12_right_7 _ _ (fun z => absurd rfl z) (fun _ => ⟨rfl, rfl⟩)
  | true =>
  have g1' := inR_t.mp g1
  have n1 : ¬ a1 < 1 := fun z => by have := (i_lt _ _).mp z; rw [i1] at this; omega
  have n20 : a1 ≤ 20 := (i_le _ _).mpr (by rw [i20]; exact g1'.2)
  let P : Nat → Pm := fun t => pm_of I ps nb nl nc no false true (pm_row false (nI t) 0 0 (-1) (-1))
  have hP : ∀ t, POk (P t) := fun t => W.pok rfl
  have hB : ∀ t, PB (P t) := fun t => W.pb
  have hI : ∀ t, HInv (P t) now (hs_of I hp nk now) := fun t => W.hinv
  let E : Nat → HS := fun t => hs_go (P t) 167 (168 - now) (hs_of I hp nk now)
  let ok : Nat → Bool := fun t => decide (¬ nI (cb (E t) now nc) < a1)
  have hPT : ∀ t t', t ≤ t' → t' ≤ 300 → PT (P t) (P t') t t' := fun t t' h1 h2 => by
    refine ⟨fun k hk => (World.prr hk).trans (World.prr hk).symm, fun f hf => ?_, rfl, World.rw5, World.rw5, h1, by omega, rfl⟩
    rw [World.rw5, World.rw5]
    show (if f = 7 then _ else if f = 8 then _ else _) = (if f = 7 then _ else if f = 8 then _ else _)
    rw [if_neg hf, if_neg hf]
  have h14 : (hs_of I hp nk now).r 65 14 = -1 := rfl
  have same : ∀ t t', t ≤ t' → t' ≤ 300 → ok14 t' (E t) → ok t' = ok t := fun t t' h1 h2 h3 => by
    have e := ev_go (hPT t t' h1 h2) (u := 167) (168 - now) (hs_of I hp nk now) (hs_of I hp nk now) ⟨fun _ _ _ _ => rfl, rfl, rfl, rfl, rfl⟩ h3
    show decide (¬ nI (cb (hs_go (P t') 167 (168 - now) (hs_of I hp nk now)) now nc) < a1) = _
    rw [cb_ev e now nc]
  refine pr_go (fun v c1 X => (c1 = 33 ∨ c1 = 55) ∧ v = rt_find ok 301 0 ∧ ∀ k, k ≠ 32 → (k < 55 ∨ 73 < k) → X k = I k) ?_ ?_
  · refine sn_X11_right _ (fun z => absurd z n1) (fun _ _ => ?_) (fun _ z => absurd n20 z)
    rw [c2]
    refine W.make (d := 97) s3 (fun _ _ => rfl) (fun I1 h1 h2 => ?_)
    refine sg_X11_right_34 _ ?_
    have lp : ∀ (m t r cc : Nat) (X : mx_I), 301 ≤ t + m → r ≤ t → t < 2 ^ 31 → (cc = 33 ∨ cc = 55) → XI I I1 X → rt_find ok (301 - t) t = rt_find ok 301 0 → mx_Go l (mx_rm (99 + 1) 0 0) mX11_right (mx_Z (fun r h' => ∃ (v : Int32) (c1 : Nat) (X : mx_I), r = some (.int v) ∧ h' = (sk0 c1, X) ∧ (c1 = 33 ∨ c1 = 55) ∧ v = rt_find ok 301 0 ∧ ∀ k, k ≠ 32 → (k < 55 ∨ 73 < k) → X k = I k) 0 0) 0 0 38 [.ref 0, .int a1, .int (nI t), .int (nI r)] [] (sk0 cc, X) := by
      intro m
      induction m with
      | zero =>
        intro t r cc X hm hr ht hcc hX hR
        have hz : (-1 : Int32) = rt_find ok 301 0 := by rw [← hR, show 301 - t = 0 from by omega]; rfl
        have e1 : (300 : Int32) < nI t := by rw [show (300 : Int32) = nI 300 from rfl, nI_ltI (by omega) (by omega)]; omega
        exact sg_X11_right_38 _ _ _ (fun _ => ⟨_, cc, X, rfl, rfl, hcc, hz, hX.1⟩) (fun _ _ => ⟨_, cc, X, rfl, rfl, hcc, hz, hX.1⟩) (fun _ z => absurd e1 z)
      | succ m ih =>
        intro t r cc X hm hr ht hcc hX hR
        by_cases q : 300 < t
        · have hz : (-1 : Int32) = rt_find ok 301 0 := by rw [← hR, show 301 - t = 0 from by omega]; rfl
          have e1 : (300 : Int32) < nI t := by rw [show (300 : Int32) = nI 300 from rfl, nI_ltI (by omega) (by omega)]; omega
          exact sg_X11_right_38 _ _ _ (fun _ => ⟨_, cc, X, rfl, rfl, hcc, hz, hX.1⟩) (fun _ _ => ⟨_, cc, X, rfl, rfl, hcc, hz, hX.1⟩) (fun _ z => absurd e1 z)
        have e1 : ¬ (300 : Int32) < nI t := fun z => by rw [show (300 : Int32) = nI 300 from rfl, nI_ltI (by omega) (by omega)] at z; omega
        have e2 : ¬ (300 : Int32) < nI r := fun z => by rw [show (300 : Int32) = nI 300 from rfl, nI_ltI (by omega) (by omega)] at z; omega
        refine sg_X11_right_38 _ _ _ (fun z => absurd z e2) (fun _ z => absurd z e1) (fun _ _ => ⟨_, sp_think (d := 97) hcc, ?_⟩)
        rintro _ _ ⟨rfl, J, rfl, hT⟩
        have jn : ∀ k, k ≠ 65 → mx_set J 65 8 (nI t) k = J k := fun k hk => ms_ne hk
        have jr : ∀ f, 7 ≤ f → f ≤ 12 → mx_set J 65 8 (nI t) 65 f = pm_row false (nI t) 0 0 (-1) (-1) f := fun f f1 f2 => by
          obtain ⟨q7, q8, q9, q10, q11, q12⟩ := hT.2.2.2.2.2.2.1
          have : f = 7 ∨ f = 8 ∨ f = 9 ∨ f = 10 ∨ f = 11 ∨ f = 12 := by omega
          rcases this with rfl | rfl | rfl | rfl | rfl | rfl <;> simp [ms_self, upd, pm_row, b2i, *]
        have j13 : ∀ f, 13 ≤ f → f ≤ 15 → mx_set J 65 8 (nI t) 65 f = J 65 f := fun f f1 f2 => ms_at (Or.inr (by omega))
        refine sg_X11_right_56 _ _ _ ?_
        generalize mx_set J 65 8 (nI t) = J' at jn jr j13 ⊢
        have CR0 : CR 55 (P t) (hs_of I hp nk now) J' J' := W.tht hX.1 hT jn jr j13
        have CP : CPlan (P t) now J' := h2.cplan ⟨s4, s5, s6⟩ (fun k k1 k2 => by rw [jn k (by omega), hT.out (by omega)]; exact hX.2 k (by omega) (by omega))
        refine ⟨_, sp_goOn (d := 73) (fm := now) (hP t) (hB t) (fun z => absurd z (by simp [P, pm_of])) CP CR0 (hI t), ?_⟩
        rintro _ _ ⟨rfl, I3, rfl, h3, h4⟩
        rw [i167] at h3 h4
        have hXI : XI I I1 I3 := h3.xi rfl hX hT jn
        refine sg_X11_right_74 _ _ _ ?_
        rw [hXI.1 33 (by omega) (by omega), hXI.1 8 (by omega) (by omega), c2, c4]
        refine ⟨_, sp_bearersSince (d := 98) h3 s5, ?_⟩
        rintro _ _ ⟨rfl, rfl⟩
        have x14 : I3 65 14 = (E t).r 65 14 := h3.x (f := 14) (by omega) (by omega)
        have fw : ok14 t (E t) := (d_go (τ := t) World.rw5 (by omega) (168 - now) (hs_of I hp nk now)).fwd h14
        have S := fun Q => @sg_X11_right_98 l 99 Q 55 I3 a1 (nI t) (nI r) (nI (cb (E t) now nc))
        rw [x14, nI_1] at S
        refine S _ (fun g1 g2 => ?_) (fun g1 g2 => ⟨_, 55, I3, rfl, rfl, Or.inr rfl, ?_, hXI.1⟩) (fun g1 => ⟨_, 55, I3, rfl, rfl, Or.inr rfl, ?_, hXI.1⟩)
        · have lt := fw.resolve_left g2
          have hb : ((E t).r 65 14).toInt < 2 ^ 31 := Int32.toInt_lt _
          have hn : (E t).r 65 14 = nI ((E t).r 65 14).toInt.toNat := by
            refine Int32.toInt_inj.mp ?_
            rw [nI_toInt (by omega)]; omega
          have okf : ok t = false := decide_eq_false (fun z => z g1)
          have sk := rt_skip (ok := ok) (((E t).r 65 14).toInt.toNat - t) (301 - t) t ((E t).r 65 14).toInt.toNat (by omega) (by omega) (fun s s1 s2 s3 => by
            rw [same t s s1 s3 (Or.inr (by omega))]; exact okf)
          rw [hn]
          exact ih _ (r + 1) 55 I3 (by omega) (by omega) (by omega) (Or.inr rfl) hXI (sk.symm.trans hR)
        · have okf : ok t = false := decide_eq_false (fun z => z g1)
          have sk := rt_skip (ok := ok) (301 - t) (301 - t) t 301 (by omega) (by omega) (fun s s1 s2 s3 => by
            rw [same t s s1 s3 (Or.inl g2)]; exact okf)
          rw [← hR, sk]; rfl
        · have okt : ok t = true := decide_eq_true g1
          rw [← hR, show 301 - t = (300 - t) + 1 from by omega, rt_find, if_pos okt]
    exact lp 301 0 0 c I1 (by omega) (by omega) (by omega) hc ⟨fun k k1 k2 => h1 k (by omega), fun _ _ _ => rfl⟩ rfl
  · rintro v cc X ⟨hcc, hv, hF⟩
    have w1 : X 121 = I 121 := hF 121 (by omega) (by omega)
    have w0 : X 120 = I 120 := hF 120 (by omega) (by omega)
    refine sn_X12_right _ ⟨_, sp_isIn _ _ _, ?_⟩
    rintro _ _ ⟨rfl, rfl⟩
    rw [i1, i20, g1]
    refine sg_X12_right_7 _ _ (fun _ => ?_) (fun z => absurd z (by decide))
    have S0 : Same X X := ⟨fun _ _ _ _ _ _ _ => rfl, fun _ _ => rfl, by rw [w0]; exact ⟨z21, z22, z25, z26⟩⟩
    have lp : ∀ (m t : Nat) (K0 : mx_I) (y1 y2 y3 : Value), t + m = 301 → Same X K0 → rt_find ok m t = rt_find ok 301 0 → mx_Go l (mx_rm (99 + 1) 0 0) mX12_right (mx_Z (fun r h' => r = some (.int v) ∧ ∃ (c2 : Nat) (K : mx_I), h' = (sk0 c2, K) ∧ Sim c2 K) 0 0) 0 0 14 [.ref 120, .int a1, .int (nI t), y1, y2, y3] [] (sk0 cc, K0) := by
      intro m
      induction m with
      | zero =>
        intro t K0 y1 y2 y3 hm hS hR
        refine mx_fg (L' := [.ref 120, .int a1, .int (nI t), .retAddr 0, .retAddr 0, .retAddr 0]) (by simp [mx_le]) ?_
        have e1 : (300 : Int32) < nI t := by rw [show (300 : Int32) = nI 300 from rfl, nI_ltI (by omega) (by omega)]; omega
        refine sg_X12_right_14 _ _ (fun _ => ⟨?_, cc, K0, rfl, hs.same hcc hF hS⟩) (fun z => absurd e1 z)
        rw [hv, ← hR]; rfl
      | succ m ih =>
        intro t K0 y1 y2 y3 hm hS hR
        refine mx_fg (L' := [.ref 120, .int a1, .int (nI t), .retAddr 0, .retAddr 0, .retAddr 0]) (by simp [mx_le]) ?_
        have e1 : ¬ (300 : Int32) < nI t := fun z => by rw [show (300 : Int32) = nI 300 from rfl, nI_ltI (by omega) (by omega)] at z; omega
        refine sg_X12_right_14 _ _ (fun z => absurd z e1) (fun _ => mth_begin (d := 98) (fun K1 B1 => ?_))
        have w1' : K0 121 = I 121 := by rw [hS.1 121 (by omega) (by omega) (by omega) (by omega) (by omega) (by omega)]; exact w1
        have k1' : K1 121 = I 121 := (B1.1 121 (by omega) (by omega)).trans w1'
        have S := fun Q => @sg_X12_right_25 l 99 Q cc K1 a1 (nI t)
        rw [show K1 121 1 = nI now from by rw [k1']; exact d2] at S
        refine S _ ?_
        have kn : ∀ k, k ≠ 121 → mx_set K1 121 4 (nI t) k = K1 k := fun k hk => ms_ne hk
        have kw : ∀ k, k ≠ 4 → mx_set K1 121 4 (nI t) 121 k = I 121 k := fun k hk => by rw [ms_at (Or.inr hk), k1']
        have k4 : mx_set K1 121 4 (nI t) 121 4 = nI t := by rw [ms_self, upd_eq]
        generalize mx_set K1 121 4 (nI t) = K2 at kn kw k4 ⊢
        have M0 : MR (P t) (hs_of I hp nk now) K2 K2 := W.mr kw k4 (by rw [kn 120 (by omega)]; exact B1.2.2.1) (by rw [kn 120 (by omega), B1.2.1 25 (by omega)]; exact hS.2.2.2.2.1) (by rw [kn 120 (by omega), B1.2.1 26 (by omega)]; exact hS.2.2.2.2.2) (by rw [kn 120 (by omega), B1.2.1 22 (by omega)]; exact hS.2.2.2.1) (Or.inl rfl) (fun z => absurd z (by simp))
        -- counting
        have cnt : ∀ (m' k : Nat) (B : HS) (K : mx_I), k + m' = nc → MR (P t) B K2 K → B = E t → mx_Go l (mx_rm (99 + 1) 0 0) mX12_right (mx_Z (fun r h' => r = some (.int v) ∧ ∃ (c2 : Nat) (K : mx_I), h' = (sk0 c2, K) ∧ Sim c2 K) 0 0) 0 0 64 [.ref 120, .int a1, .int (nI t), .int (nI now), .int (nI (cb B now k)), .int (nI k)] [] (sk0 cc, K) := by
          intro m'
          induction m' with
          | zero =>
            intro k B K hk M hBR
            have e1 : K 121 3 ≤ nI k := by rw [M.1.1.2.2.1]; exact (nI_leI (by show nc < _; omega) (by omega)).mpr (by show nc ≤ k; omega)
            refine sg_X12_right_64 _ _ _ _ _ (fun _ => ?_) (fun z => absurd e1 z)
            refine mth_end (d := 98) B1 (fun k k1 k2 => kn k k2) (fun j hj => by rw [kn 120 (by omega)]) (fun i hi => by rw [kw i (by omega), k1']) M.2.2.2 rfl (fun K4 hS4 => ?_)
            have hk' : k = nc := by omega
            subst hk'
            refine sg_X12_right_118 _ _ _ _ _ (fun g => ?_) (fun g => ⟨?_, cc, K4, rfl, hs.same hcc hF (hS.trans hS4)⟩)
            · rw [nI_1]
              refine ih (t + 1) K4 _ _ _ (by omega) (hS.trans hS4) ?_
              rw [← hR, rt_find, if_neg (by rw [show ok t = false from decide_eq_false (fun z => z (by rw [← hBR]; exact g))]; simp)]
            · rw [hv, ← hR, rt_find, if_pos (show ok t = true from decide_eq_true (by rw [← hBR]; exact g))]
          | succ m' ih' =>
            intro k B K hk M hBR
            have hkl : k < (P t).nc := by show k < nc; omega
            have e1 : ¬ K 121 3 ≤ nI k := fun z => by
              rw [M.1.1.2.2.1] at z
              have := (nI_leI (show nc < 2 ^ 31 by omega) (by omega)).mp z
              omega
            have no : ¬ (nI now ≤ B.r 7 k ∧ 0 < B.r 8 k) → cb B now (k + 1) = cb B now k := fun z => by rw [cb, if_neg z]; rfl
            refine sg_X12_right_64 _ _ _ _ _ (fun z => absurd z e1) (fun _ => ⟨_, sp_ofOne 8 rfl (by omega) (by omega), ?_⟩)
            rintro _ _ ⟨rfl, rfl⟩
            rw [show 320 + 14 * k + 8 = 321 + 14 * k + 7 from by omega, M.cs hkl]
            refine sg_X12_right_85 _ _ _ _ _ _ _ (fun g => ?_) (fun g => ⟨_, sp_ofOne 9 rfl (by omega) (by omega), ?_⟩)
            · rw [Int32.add_zero, nI_1, ← no (fun z => by rw [i_lt] at g; have := (i_le _ _).mp z.1; omega)]
              exact ih' (k + 1) B K (by omega) M hBR
            rintro _ _ ⟨rfl, rfl⟩
            rw [show 320 + 14 * k + 9 = 321 + 14 * k + 8 from by omega, M.cs8 rfl hkl (by omega) (by omega)]
            refine sg_X12_right_97 _ _ _ _ _ _ _ (fun g2 => ?_) (fun g2 => ?_)
            · rw [Int32.add_zero, nI_1, ← no (fun z => by rw [i_le] at g2; have := (i_lt _ _).mp z.2; omega)]
              exact ih' (k + 1) B K (by omega) M hBR
            · have y : cb B now k + 1 = cb B now (k + 1) := by
                rw [cb, if_pos ⟨(i_le _ _).mpr (by rw [i_lt] at g; omega), (i_lt _ _).mpr (by rw [i_le] at g2; omega)⟩]
              rw [nI_1, nI_1, y]
              exact ih' (k + 1) B K (by omega) M hBR
        have hh : ∀ (n : Nat) (B : HS) (K : mx_I), B.now + n = 168 → MR (P t) B K2 K → HInv (P t) now B → B.r 65 13 = -1 → hs_go (P t) 167 n B = E t → mx_Go l (mx_rm (99 + 1) 0 0) mX12_right (mx_Z (fun r h' => r = some (.int v) ∧ ∃ (c2 : Nat) (K : mx_I), h' = (sk0 c2, K) ∧ Sim c2 K) 0 0) 0 0 39 [.ref 120, .int a1, .int (nI t), .int (nI now), .retAddr 0, .retAddr 0] [] (sk0 cc, K) := by
          intro n
          induction n with
          | zero =>
            intro B K hn M hHB h13 hR'
            have e1 : (167 : Int32) < K 121 1 := by rw [M.2.1.2.2.1.1, show (167 : Int32) = nI 167 from rfl, nI_ltI (by omega) (by omega)]; omega
            exact sg_X12_right_39 _ _ _ (fun _ => cnt nc 0 B K (by omega) M hR') (fun z => absurd e1 z)
          | succ n ihn =>
            intro B K hn M hHB h13 hR'
            have e1 : ¬ (167 : Int32) < K 121 1 := fun z => by rw [M.2.1.2.2.1.1, show (167 : Int32) = nI 167 from rfl, nI_ltI (by omega) (by omega)] at z; omega
            rw [hs_go, if_pos ⟨by omega, h13⟩] at hR'
            obtain ⟨y1, y2, y3⟩ := hHB.hour (hP t) (hB t) (by omega)
            refine sg_X12_right_39 _ _ _ (fun z => absurd z e1) (fun _ => ⟨_, sp_anHour (d := 73) (hP t) hHB.1 hHB.2.2.2.2.1 (by omega) M, ?_⟩)
            rintro _ _ ⟨rfl, K', rfl, M'⟩
            exact sg_X12_right_55 _ _ _ (ihn _ K' (by omega) M' y1 ((y3 World.rw5).trans h13) hR')
        exact hh (168 - now) (hs_of I hp nk now) K2 (by show now + (168 - now) = 168; omega) M0 (hI t) rfl rfl
    exact lp 301 0 X _ _ _ (by omega) S0 rfl
