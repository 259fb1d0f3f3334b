/-! the class's reader: a step, the whole -/
section S
variable {I : mx_I} {l : Launch} {c : Nat}
theorem sp_stepC {d k : Nat} {s : RdS} {L : LX} (h : RdW s I) (hi : RdI k s) (h8 : s.1 ≠ 8) (hk : k ≤ 400) (ht : TkC L I) : mx_Spec l mX8_step (d + 6) 0 0 [.ref 47] (sk0 c, I) (fun r h' => r = none ∧ ∃ J, h' = (sk0 c, J) ∧ FrS I J ∧ RdW (rdStep L s) J) := by
  obtain ⟨aw, H, o, b, rt, C, ⟨ls, cur⟩, f⟩ := s
  have h9 : I 47 9 = nI aw := h.1.1
  have ha8 : aw ≤ 8 := hi.1
  have h8' : aw ≠ 8 := h8
  have eq : ∀ y, y ≤ 255 → (I 47 9 = nI y ↔ aw = y) := fun y hy => by rw [h9]; exact (nI_255 (by omega) hy).2.2
  have rk : 1 ≤ aw → aw ≤ 7 → RdK k H o b C := fun a b => hi.2.2 a b
  have rc : 1 ≤ aw → aw ≤ 7 → RdC (3 ≤ aw ∧ aw ≤ 7) (aw, H, o, b, rt, C, (ls, cur), f) I := fun a b => h.2 a b
  refine sn_X8_step (fun z => ?_) (fun z => ?_) (fun z => ?_) (fun z => ?_) (fun z => ?_) (fun z => ?_) (fun z => ?_) (fun z0 z1 z2 z3 z4 z5 z6 => ?_)
  · have e : aw = 0 := (eq 0 (by omega)).mp z
    subst e
    refine ⟨_, sp_lineC (d := d + 3) h.1 ht, ?_⟩
    rintro _ _ ⟨rfl, J, rfl, hF, hJ⟩
    exact sg_X8_step_52 ⟨rfl, J, rfl, hF, hJ⟩
  · have e : aw = 1 := (eq 1 (by omega)).mp z
    subst e
    refine ⟨_, sp_headC (d := d + 3) (rc (by omega) (by omega)) ht, ?_⟩
    rintro _ _ ⟨rfl, J, rfl, hF, hJ⟩
    refine sg_X8_step_59 ⟨rfl, J, rfl, hF, hJ.w (fun a a2 => ?_)⟩
    have q : (rdStep L (1, H, o, b, rt, C, (ls, cur), f)).1 = 2 ∨ (rdStep L (1, H, o, b, rt, C, (ls, cur), f)).1 = 0 ∨ (rdStep L (1, H, o, b, rt, C, (ls, cur), f)).1 = 8 := by
      rw [rdStep, if_neg (by omega), if_pos rfl]
      by_cases t4 : L.tk = 4
      · rw [if_pos t4]; exact Or.inl rfl
      · rw [if_neg t4]
        by_cases t15 : L.tk = 15
        · rw [if_pos t15]; exact Or.inr (Or.inl rfl)
        · rw [if_neg t15]; exact Or.inr (Or.inr rfl)
    omega
  · have e : aw = 2 := (eq 2 (by omega)).mp z
    subst e
    refine ⟨_, sp_condC (d := d + 2) (rc (by omega) (by omega)) ht ((rk (by omega) (by omega)).roomy hk), ?_⟩
    rintro _ _ ⟨rfl, J, rfl, hF, hJ⟩
    exact sg_X8_step_66 ⟨rfl, J, rfl, hF, hJ.w (fun a b => ⟨a, b⟩)⟩
  · have e : aw = 3 := (eq 3 (by omega)).mp z
    subst e
    refine ⟨_, sp_unitC (d := d + 3) (rc (by omega) (by omega)) ⟨by omega, by omega⟩ ht ((rk (by omega) (by omega)).roomy hk) ⟨by omega, by omega⟩, ?_⟩
    rintro _ _ ⟨rfl, J, rfl, hF, hJ⟩
    exact sg_X8_step_73 ⟨rfl, J, rfl, hF, hJ.w (fun a b => ⟨by omega, by omega⟩)⟩
  · have e : aw = 4 := (eq 4 (by omega)).mp z
    subst e
    refine ⟨_, sp_divC (d := d + 2) (rc (by omega) (by omega)) ht ((rk (by omega) (by omega)).roomy hk) ⟨by omega, by omega⟩, ?_⟩
    rintro _ _ ⟨rfl, J, rfl, hF, hJ⟩
    exact sg_X8_step_80 ⟨rfl, J, rfl, hF, hJ.w (fun a b => ⟨by omega, by omega⟩)⟩
  · have e : aw = 5 := (eq 5 (by omega)).mp z
    subst e
    refine ⟨_, sp_leftC (d := d) (rc (by omega) (by omega)) ht ((rk (by omega) (by omega)).roomy hk), ?_⟩
    rintro _ _ ⟨rfl, J, rfl, hF, hJ⟩
    exact sg_X8_step_87 ⟨rfl, J, rfl, hF, hJ.w (fun a b => ⟨by omega, by omega⟩)⟩
  · have e : aw = 6 := (eq 6 (by omega)).mp z
    subst e
    have hr := rk (by omega) (by omega)
    refine ⟨_, sp_rightC (d := d) (rc (by omega) (by omega)) ht (hr.roomy hk) (by have := hr.2.1; have := hr.2.2.1; have := hr.2.2.2.1; omega) hr.bo, ?_⟩
    rintro _ _ ⟨rfl, J, rfl, hF, hJ⟩
    exact sg_X8_step_94 ⟨rfl, J, rfl, hF, hJ.w (fun a b => ⟨by omega, by omega⟩)⟩
  · have e : aw = 7 := by
      have y0 : ¬ aw = 0 := fun w => z0 ((eq 0 (by omega)).mpr w)
      have y1 : ¬ aw = 1 := fun w => z1 ((eq 1 (by omega)).mpr w)
      have y2 : ¬ aw = 2 := fun w => z2 ((eq 2 (by omega)).mpr w)
      have y3 : ¬ aw = 3 := fun w => z3 ((eq 3 (by omega)).mpr w)
      have y4 : ¬ aw = 4 := fun w => z4 ((eq 4 (by omega)).mpr w)
      have y5 : ¬ aw = 5 := fun w => z5 ((eq 5 (by omega)).mpr w)
      have y6 : ¬ aw = 6 := fun w => z6 ((eq 6 (by omega)).mpr w)
      omega
    subst e
    have hr := rk (by omega) (by omega)
    refine ⟨_, sp_closedC (d := d + 1) (rc (by omega) (by omega)) ⟨by omega, by omega⟩ ht (hr.roomy hk) (by have := hr.2.1; have := hr.2.2.1; have := hr.2.2.2.1; omega) hr.bo, ?_⟩
    rintro _ _ ⟨rfl, J, rfl, hF, hJ⟩
    exact sg_X8_step_101 ⟨rfl, J, rfl, hF, hJ.w (fun a b => ⟨by omega, by omega⟩)⟩
theorem RdC.frC {zp : Prop} {s : RdS} {J : mx_I} (h : RdC zp s I) (hF : FrC I J) : RdC zp s J := by
  obtain ⟨⟨p1, p2, p3, p4, p5⟩, h2, h3, h4, ⟨l1, l2, l3, l4⟩, h6, h7⟩ := h
  have e : ∀ g, g < 11 → J 47 g = I 47 g := fun g hg => hF.2 g (Or.inl hg)
  have k : ∀ k, k ≠ 47 → J k = I k := hF.1
  refine ⟨⟨by rw [e 6 (by omega)]; exact p1, by rw [k 54 (by omega)]; exact p2, by rw [e 7 (by omega)]; exact p3, by rw [k 49 (by omega)]; exact p4, fun i hi => by rw [k 50 (by omega)]; exact p5 i hi⟩, by rw [e 9 (by omega)]; exact h2, by rw [e 8 (by omega)]; exact h3, by rw [e 10 (by omega)]; exact h4, ⟨l1, by rw [k 49 (by omega)]; exact l2, by rw [k 51 (by omega)]; exact l3, fun i hi => by rw [k 52 (by omega), k 51 (by omega)]; exact l4 i hi⟩, by rw [k 52 (by omega)]; exact h6, ⟨fun z => by rw [e 4 (by omega), e 5 (by omega)]; exact h7.1 z, fun z => by rw [e 4 (by omega), e 5 (by omega)]; exact h7.2 z⟩⟩
theorem RdZ.frC {s : RdS} {J : mx_I} (h : RdZ s I) (hF : FrC I J) : RdZ s J := by
  obtain ⟨h2, ⟨p4, p5⟩, ⟨l1, l2, l3, l4⟩, h7⟩ := h
  have e : ∀ g, g < 11 → J 47 g = I 47 g := fun g hg => hF.2 g (Or.inl hg)
  have k : ∀ k, k ≠ 47 → J k = I k := hF.1
  refine ⟨by rw [e 9 (by omega)]; exact h2, ⟨by rw [k 49 (by omega)]; exact p4, fun i hi => by rw [k 50 (by omega)]; exact p5 i hi⟩, ⟨l1, by rw [k 49 (by omega)]; exact l2, by rw [k 51 (by omega)]; exact l3, fun i hi => by rw [k 52 (by omega), k 51 (by omega)]; exact l4 i hi⟩, ⟨fun z => by rw [e 4 (by omega), e 5 (by omega)]; exact h7.1 z, fun z => by rw [e 4 (by omega), e 5 (by omega)]; exact h7.2 z⟩⟩
theorem RdW.frC {s : RdS} {J : mx_I} (h : RdW s I) (hF : FrC I J) : RdW s J := ⟨h.1.frC hF, fun a b => (h.2 a b).frC hF⟩
end S
/-! tokens: bounds -/
theorem nx_on {b : Nat → Nat} {n : Nat} {L : LX} (h : L.1 ≤ n) : (nxL b n L).1 ≤ n ∧ (nxL b n L).tk ≤ 25 ∧ ((nxL b n L).tk = 0 ∨ L.1 < (nxL b n L).1) := by
  unfold nxL
  have hq := rn_le (p := cSp) (b := b) (n - L.1) L.1
  generalize rn cSp b (n - L.1) L.1 = q at hq ⊢
  by_cases g : n ≤ q
  · rw [if_pos g]; exact ⟨by show q ≤ n; omega, by show 0 ≤ 25; omega, Or.inl rfl⟩
  rw [if_neg g]
  by_cases g2 : cLt (b q) = true
  · rw [if_pos g2]
    have h2 := rn_lt (m := n - q) g2 (by omega)
    have h3 := rn_le (p := cLt) (b := b) (n - q) q
    exact ⟨by show rn cLt b (n - q) q ≤ n; omega, (kwF_ge b q _ 13 2 (by omega) (by omega)).2, Or.inr (by show L.1 < rn cLt b (n - q) q; omega)⟩
  rw [if_neg g2]
  by_cases g3 : cDg (b q) = true
  · rw [if_pos g3]
    have h2 := rn_lt (m := n - q) g3 (by omega)
    have h3 := rn_le (p := cDg) (b := b) (n - q) q
    refine ⟨by show rn cDg b (n - q) q ≤ n; omega, ?_, Or.inr (by show L.1 < rn cDg b (n - q) q; omega)⟩
    show (if rn cDg b (n - q) q - q ≤ 4 then 1 else 25) ≤ 25
    by_cases w : rn cDg b (n - q) q - q ≤ 4
    · rw [if_pos w]; omega
    · rw [if_neg w]; omega
  rw [if_neg g3]
  exact ⟨by show q + 1 ≤ n; omega, (cSg_ne (b q)).2, Or.inr (by show L.1 < q + 1; omega)⟩
def lx0 : LX := (0, 25, 0, 0)
theorem ms_first (b : Nat → Nat) {n : Nat} (hn : n ≤ 400) : msL n (nxL b n lx0) ≤ 400 := by
  have h1 := (lexy b n).1 lx0 (by decide)
  have h2 : msL n lx0 = n - 0 + 1 := rfl
  omega
def FrT (I J : mx_I) : Prop := ∀ k, k ≠ 47 → (k < 49 ∨ 54 < k) → J k = I k
section S
variable {I : mx_I} {l : Launch} {c : Nat}
theorem sp_readLaw {d n : Nat} {b : Nat → Nat} (hT : TpC b n I) : mx_Spec l mX8_readLaw (d + 8) 0 0 [.ref 47] (sk0 c, I) (fun r h' => r = none ∧ ∃ J, h' = (sk0 c, J) ∧ FrT I J ∧ J 47 3 = 0 ∧ RdZ (crun (nxL b n) 401 rd0 (nxL b n lx0)) J) := by
  have n400 := hT.1
  obtain ⟨sF, hsF⟩ : ∃ sF, sF = crun (nxL b n) 401 rd0 (nxL b n lx0) := ⟨_, rfl⟩
  rw [← hsF]
  have fin : ∀ (s : RdS) (J : mx_I), s = sF → FrT I J → RdW s J → (none : Option Value) = none ∧ ∃ J', ((sk0 c, mx_set J 47 3 0) : mx_H) = (sk0 c, J') ∧ FrT I J' ∧ J' 47 3 = 0 ∧ RdZ sF J' := by
    intro s J e hF hW
    subst e
    obtain ⟨h2, ⟨p4, p5⟩, h5, h7⟩ := hW.1
    refine ⟨rfl, _, rfl, fun k k1 k2 => by rw [ms_ne k1]; exact hF k k1 k2, by rw [ms_self, upd_eq], by rw [ms_at (Or.inr (by omega))]; exact h2, ⟨by rw [ms_ne (by omega)]; exact p4, fun i hi => by rw [ms_ne (by omega)]; exact p5 i hi⟩, h5.off, h7.off (by omega)⟩
  have lp : ∀ (m k : Nat) (s : RdS) (L : LX) (J : mx_I), k + m = 401 → FrT I J → TpC b n J → J 47 11 = nI L.1 → L.1 ≤ n → RdW s J → (s.1 = 8 ∨ (RdI k s ∧ k ≤ L.1)) → crun (nxL b n) m s (nxL b n L) = sF → mx_Go l (mx_rm (d + 7 + 1) 0 0) mX8_readLaw (mx_Z (fun r h' => r = none ∧ ∃ J, h' = (sk0 c, J) ∧ FrT I J ∧ J 47 3 = 0 ∧ RdZ sF J) 0 0) 0 0 29 [.ref 47, .int (nI k)] [] (sk0 c, J) := by
    intro m
    induction m with
    | zero =>
      intro k s L J hk hF hTJ h11 hn hW hi hc
      have e1 : (400 : Int32) < nI k := by rw [show (400 : Int32) = nI 400 from rfl, nI_ltI (by omega) (by omega)]; omega
      exact sg_X8_readLaw_29 _ (fun _ => fin s J hc hF hW) (fun z => absurd e1 z) (fun z => absurd e1 z)
    | succ m ih =>
      intro k s L J hk hF hTJ h11 hn hW hi hc
      have e1 : ¬ (400 : Int32) < nI k := fun z => by rw [show (400 : Int32) = nI 400 from rfl, nI_ltI (by omega) (by omega)] at z; omega
      have h9 : J 47 9 = nI s.1 := hW.1.1
      by_cases h8 : s.1 = 8
      · rw [crun_rest h8] at hc
        have e2 : J 47 9 = 8 := by rw [h9, h8]; rfl
        exact sg_X8_readLaw_29 _ (fun z => absurd z e1) (fun _ _ => fin s J hc hF hW) (fun _ z => absurd e2 z)
      · obtain ⟨hI, hkL⟩ := hi.resolve_left h8
        have e2 : ¬ J 47 9 = 8 := fun z => h8 (by
          rw [h9] at z
          exact ((nI_255 (by have := hI.1; omega) (y := 8) (by omega)).2.2).mp z)
        refine sg_X8_readLaw_29 _ (fun z => absurd z e1) (fun _ z => absurd z e2) (fun _ _ => ⟨_, sp_nextToken (d := d) (L := L) hTJ h11 hn, ?_⟩)
        rintro _ _ ⟨rfl, K, rfl, hFK, k11, k12, k13, k14⟩
        obtain ⟨on1, on2, on3⟩ := nx_on (b := b) hn
        refine sg_X8_readLaw_49 _ ⟨_, sp_stepC (d := d + 1) (L := nxL b n L) (hW.frC hFK) hI h8 (by omega) ⟨on2, k12, k13, k14⟩, ?_⟩
        rintro _ _ ⟨rfl, M, rfl, hFM, hWM⟩
        refine sg_X8_readLaw_53 _ ?_
        rw [nI_1]
        rw [crun, if_neg h8] at hc
        have tM : TpC b n M := by
          have t := hFK.tp hTJ
          exact ⟨t.1, by rw [hFM.2 3 (by omega)]; exact t.2.1, fun i hi => by rw [hFM.1 48 (by omega) (by omega)]; exact t.2.2 i hi⟩
        refine ih (k + 1) (rdStep (nxL b n L) s) (nxL b n L) M (by omega) (fun a a1 a2 => by rw [hFM.1 a a1 a2, hFK.1 a a1]; exact hF a a1 a2) tM (by rw [hFM.2 11 (by omega)]; exact k11) on1 hWM ?_ hc
        obtain ⟨aw, H, o, b', rt, C, g, f⟩ := s
        rcases on3 with w | w
        · exact Or.inl (rd_end w)
        · exact Or.inr ⟨RdI.step hI h8, by omega⟩
  refine sn_X8_readLaw ⟨fun r h' => r = none ∧ h' = (sk0 c, mx_set (mx_set (mx_set I 49 4 0) 49 5 0) 51 0 0), sn_X3_clear_49 ⟨rfl, rfl⟩, ?_⟩
  rintro _ _ ⟨rfl, rfl⟩
  refine sg_X8_readLaw_7 ?_
  refine lp 401 0 rd0 lx0 _ rfl (fun k k1 k2 => by rw [ms_ne k1, ms_ne k1, ms_ne k1, ms_ne k1, ms_ne (by omega), ms_ne (by omega), ms_ne (by omega)]) ?_ ?_ (by show 0 ≤ n; omega) ?_ (Or.inr ⟨⟨by show 0 ≤ 8; omega, fun _ => by show 0 ≤ 0; omega, fun z => absurd z (by decide)⟩, Nat.zero_le _⟩) hsF.symm
  · exact ⟨hT.1, by rw [ms_at (Or.inr (by omega)), ms_at (Or.inr (by omega)), ms_at (Or.inr (by omega)), ms_at (Or.inr (by omega)), ms_ne (by omega), ms_ne (by omega), ms_ne (by omega)]; exact hT.2.1, fun i hi => by rw [ms_ne (by omega), ms_ne (by omega), ms_ne (by omega), ms_ne (by omega), ms_ne (by omega), ms_ne (by omega), ms_ne (by omega)]; exact hT.2.2 i hi⟩
  · rw [ms_at (Or.inr (by omega)), ms_self, upd_eq]; rfl
  · refine ⟨⟨by rw [ms_self, upd_eq]; rfl, ⟨?_, fun i hi => absurd hi (Nat.not_lt_zero _)⟩, ⟨by show 0 ≤ 16; omega, ?_, ?_, fun i hi => absurd hi (Nat.not_lt_zero _)⟩, ⟨fun _ => ⟨?_, ?_⟩, fun z => absurd rfl z⟩⟩, fun z => absurd z (by decide)⟩
    · rw [ms_ne (by omega), ms_ne (by omega), ms_ne (by omega), ms_ne (by omega), ms_ne (by omega), ms_self, upd_eq]; rfl
    · rw [ms_ne (by omega), ms_ne (by omega), ms_ne (by omega), ms_ne (by omega), ms_ne (by omega), ms_at (Or.inr (by omega)), ms_self, upd_eq]; rfl
    · rw [ms_ne (by omega), ms_ne (by omega), ms_ne (by omega), ms_ne (by omega), ms_self, upd_eq]
    · rw [ms_at (Or.inr (by omega)), ms_at (Or.inr (by omega)), ms_at (Or.inr (by omega)), ms_self, upd_eq]
    · rw [ms_at (Or.inr (by omega)), ms_at (Or.inr (by omega)), ms_self, upd_eq]
end S
