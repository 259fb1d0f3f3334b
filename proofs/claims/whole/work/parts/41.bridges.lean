/-! bridges; the start -/
theorem Rel.fresh {I : mx_I} {t s b nb : Nat} {w : Nat → Int32} (hb : 1 ≤ nb ∧ nb ≤ 3) (h5 : I t 5 = nI nb) (h6 : I t 6 = -1) (h7 : I t 7 = 0) (hl : I (t + 1) 5 = 0) (hc : I (t + 7) 9 = 0) (ho : I (t + 17) 5 = 0) (hi : I (t + 23) 3 = 0) (l4 : I (t + 27) 4 = 0) (l5 : I (t + 27) 5 = 0) (l0 : I (t + 29) 0 = 0) (s9 : I s 9 = 0) (s10 : I s 10 = 0) (b3 : I b 3 = 0)
    (hL : ∀ l, l < 30 → I (s + 1) l = -1 ∧ I (s + 2) l = -1 ∧ I (s + 3) l = 0 ∧ I (s + 4) l = 0) (hC : ∀ c, c < 20 → I (s + 7) c = -1 ∧ I (s + 8) c = 0 ∧ I (s + 9) c = 0) (hW : ∀ e, e < 4 → I (s + 6) e = 0)
    (w0 : w 0 = nI nb) (w4 : w 4 = -1) (wz : ∀ k, k = 1 ∨ k = 2 ∨ k = 3 ∨ k = 5 ∨ k = 6 ∨ k = 7 ∨ k = 8 ∨ k = 9 ∨ k = 10 ∨ k = 1600 → w k = 0) : Rel I t s b w := by
  refine ⟨nb, 0, 0, 0, 0, 0, 0, fun _ => [], ⟨⟨hb.1, hb.2, by omega, by omega, by omega, by omega, by omega, by omega⟩, ⟨h5, s9, hl, hc, ho, hi, b3⟩, ⟨w0, wz 1 (by simp), wz 2 (by simp), wz 3 (by simp), wz 7 (by simp), wz 8 (by simp), wz 6 (by simp)⟩, ⟨by rw [w4, h6], by rw [wz 5 (by simp), h7], by rw [wz 9 (by simp), s10]⟩, ⟨by rw [h6]; decide, by rw [h6]; decide⟩, ⟨by rw [h7]; decide, by rw [h7]; decide⟩⟩, ⟨Tab.zero, fun i h => absurd h (Nat.not_lt_zero i), Tab.zero, Tab.zero, Tab.zero, Tab.zero, Tab.zero, Tab.zero, Tab.zero⟩, ⟨fun i h => absurd h (Nat.not_lt_zero i), fun i h => absurd h (Nat.not_lt_zero i), fun i h => absurd h (Nat.not_lt_zero i), fun i h => absurd h (Nat.not_lt_zero i), fun l _ h => hL l h, fun c _ h => hC c h, fun i h => absurd h (Nat.not_lt_zero i), fun i h => absurd h (Nat.not_lt_zero i)⟩, ⟨fun e he => ⟨hW e he, by simp, fun i h => absurd h (Nat.not_lt_zero i)⟩, fun e he => ⟨List.nodup_nil, fun l => ⟨fun h => (by cases h), fun h => absurd h.1 (Nat.not_lt_zero l)⟩⟩, fun i h => absurd h (Nat.not_lt_zero i), fun i h => absurd h (Nat.not_lt_zero i), fun e _ => List.Pairwise.nil, fun e _ l h => (by cases h), by rw [wz 10 (by simp)]; decide⟩, [], ⟨by decide, by decide, fun q h => (by cases h)⟩, l4, wz 1600 (by simp), l5, ⟨fun i h => absurd h (Nat.not_lt_zero i), fun i h => ?_, fun i h => absurd h (Nat.not_lt_zero i)⟩, fun i h => absurd h (Nat.not_lt_zero i), fun i h => absurd h (Nat.not_lt_zero i)⟩
  have i0 : i = 0 := Nat.le_zero.mp h
  subst i0
  exact l0
theorem clr_ne {I : mx_I} {k a : Nat} (h : a < k ∨ k + 9 < a ∨ a = k + 5) : mx_clr I k a = I a := by
  unfold mx_clr
  rw [ms_ne (by omega), ms_ne (by omega)]
  unfold mx_fillr
  rw [mx_row_ne (by omega), mx_row_ne (by omega), mx_row_ne (by omega), mx_row_ne (by omega), mx_row_ne (by omega), mx_row_ne (by omega), mx_row_ne (by omega), mx_row_ne (by omega)]
theorem clr_L {I : mx_I} {k l : Nat} (h : l < 30) : mx_clr I k (k + 1) l = -1 ∧ mx_clr I k (k + 2) l = -1 ∧ mx_clr I k (k + 3) l = 0 ∧ mx_clr I k (k + 4) l = 0 := by
  simp [mx_clr, ms_row, mx_fillr, mx_row, h]
theorem clr_C {I : mx_I} {k c : Nat} (h : c < 20) : mx_clr I k (k + 7) c = -1 ∧ mx_clr I k (k + 8) c = 0 ∧ mx_clr I k (k + 9) c = 0 := by
  simp [mx_clr, ms_row, mx_fillr, mx_row, h]
theorem clr_W {I : mx_I} {k e : Nat} (h : e < 4) : mx_clr I k (k + 6) e = 0 := by
  simp [mx_clr, ms_row, mx_fillr, mx_row, h]
theorem clr_0 {I : mx_I} {k : Nat} : mx_clr I k k 9 = 0 ∧ mx_clr I k k 10 = 0 := by
  simp [mx_clr, ms_row, upd]
/-- the model's array zeroed up to i -/
theorem mb_loop {l : Launch} {d c : Nat} {I : mx_I} {a : Int32} {Q : Option Value → mx_H → Prop} (hQ : Q (some (.int 1)) (sk0 c, mx_set (mx_set (mx_fillr I 121 2490 0) 121 0 a) 121 4 (-1))) :
    ∀ (m i : Nat), i + m = 2490 → mx_Go l (mx_rm (d + 1) 0 0) mX12_bridges (mx_Z Q 0 0) 0 0 13 [.ref 120, .int a, .int (nI i)] [] (sk0 c, mx_fillr I 121 i 0) := by
  intro m
  induction m with
  | zero =>
    intro i hi
    have e : i = 2490 := by omega
    subst e
    exact sg_X12_bridges_13 _ _ (fun _ => hQ) (fun z => absurd (by decide) z) (fun z => absurd (by decide) z)
  | succ m ih =>
    intro i hi
    have hz : ¬ (2490 : Int32) ≤ nI i := fun z => by
      rw [show (2490 : Int32) = nI 2490 from rfl, nI_leI (by omega) (by omega)] at z; omega
    refine sg_X12_bridges_13 _ _ (fun z => absurd z hz) (fun _ => i_vp (by omega) (by omega)) (fun _ => ?_)
    rw [nI_clamp (by omega), mx_fillr_s, show nI i + 1 = nI (i + 1) from nI_1 i]
    exact ih (i + 1) (by omega)
def cw_bri (I : mx_I) (a : Int32) : mx_I := mx_set (mx_clr (mx_set (mx_set (mx_set (mx_set (mx_set (mx_set (mx_set (mx_set (mx_set (mx_set I 1 5 a) 1 6 (-1)) 1 7 0) 2 5 0) 8 9 0) 18 5 0) 24 3 0) 28 4 0) 28 5 0) 30 0 0) 33) 43 3 0
set_option maxHeartbeats 1000000 in
theorem p_bridges {l : Launch} (a : Int32) : mx_PrI l Sim mX11_bridges mX12_bridges [.int a] := by
  refine pr_cases (fun c I hs => ?_)
  cases h1 : inR a 1 3 with
  | false =>
    have h1' := inR_f.mp h1
    refine ⟨0, I, sn_X11_bridges a (fun _ => ⟨rfl, rfl⟩) (fun z1 z2 => ?_) (fun _ _ => ⟨rfl, rfl⟩), sn_X12_bridges a ⟨_, sp_isIn _ _ _, ?_⟩⟩
    · refine absurd ⟨?_, ?_⟩ h1'
      · have h' : ¬ a.toInt < 1 := fun z => z1 ((i_lt _ _).mpr z)
        omega
      · exact (i_le _ _).mp z2
    · rintro _ _ ⟨rfl, rfl⟩
      rw [show ((1 : Int32).toInt) = 1 from by decide, show ((3 : Int32).toInt) = 3 from by decide, h1]
      exact sg_X12_bridges_6 _ _ (fun z => absurd rfl z) (fun _ => ⟨rfl, I, rfl, hs⟩)
  | true =>
    have h1' := inR_t.mp h1
    have n1 : ¬ a < 1 := fun z => by have : a.toInt < 1 := (i_lt _ _).mp z; omega
    have n3 : a ≤ 3 := (i_le _ _).mpr h1'.2
    refine ⟨1, cw_bri I a, sn_X11_bridges a (fun z => absurd z n1) (fun _ _ => ⟨_, sn_X10_clear (Q := fun r h' => r = none ∧ h' = (sk0 c, mx_set (mx_set (mx_set (mx_set (mx_set (mx_set (mx_set (mx_set (mx_set (mx_set I 1 5 a) 1 6 (-1)) 1 7 0) 2 5 0) 8 9 0) 18 5 0) 24 3 0) 28 4 0) 28 5 0) 30 0 0)) a ⟨_, sn_X3_clear_28 (Q := fun r h' => r = none ∧ h' = (sk0 c, mx_set (mx_set (mx_set (mx_set (mx_set (mx_set (mx_set (mx_set (mx_set (mx_set I 1 5 a) 1 6 (-1)) 1 7 0) 2 5 0) 8 9 0) 18 5 0) 24 3 0) 28 4 0) 28 5 0) 30 0 0)) ⟨rfl, rfl⟩, ?_⟩, ?_⟩) (fun _ z => absurd n3 z), ?_⟩
    · rintro _ _ ⟨rfl, rfl⟩
      exact sg_X10_clear_54 _ ⟨rfl, rfl⟩
    · rintro _ _ ⟨rfl, rfl⟩
      refine sg_X11_bridges_20 _ ⟨_, sp_clear (at9_33 c), ?_⟩
      rintro _ _ ⟨rfl, rfl⟩
      exact sg_X11_bridges_27 _ ⟨rfl, rfl⟩
    · refine sn_X12_bridges a ⟨_, sp_isIn _ _ _, ?_⟩
      rintro _ _ ⟨rfl, rfl⟩
      rw [show ((1 : Int32).toInt) = 1 from by decide, show ((3 : Int32).toInt) = 3 from by decide, h1]
      refine sg_X12_bridges_6 _ _ (fun _ => ?_) (fun z => absurd z (by decide))
      have lp := mb_loop (l := l) (d := 99) (c := c) (I := cw_bri I a) (a := a) (Q := fun r h' => r = some (.int 1) ∧ ∃ K : mx_I, h' = (sk0 c, K) ∧ Sim c K) ⟨rfl, _, rfl, ?_⟩ 2490 0 rfl
      · rw [mx_fillr_0] at lp
        exact lp
      · generalize hK : mx_set (mx_set (mx_fillr (cw_bri I a) 121 2490 0) 121 0 a) 121 4 (-1) = K
        have kI : ∀ x, x ≠ 121 → K x = cw_bri I a x := fun x h => by rw [← hK, ms_ne h, ms_ne h, mx_fillr, mx_row_ne h]
        have bI : ∀ x, x = 0 ∨ (43 < x) → cw_bri I a x = I x := fun x h => by
          unfold cw_bri
          rw [ms_ne (by omega), clr_ne (by omega), ms_ne (by omega), ms_ne (by omega), ms_ne (by omega), ms_ne (by omega), ms_ne (by omega), ms_ne (by omega), ms_ne (by omega), ms_ne (by omega), ms_ne (by omega), ms_ne (by omega)]
        have rI : ∀ x, x = 0 ∨ (43 < x ∧ x ≠ 121) → K x = I x := fun x h => by rw [kI x (by omega), bI x (by omega)]
        have wz : ∀ k, k ≠ 0 → k ≠ 4 → k < 2490 → K 121 k = 0 := fun k h0 h4 hk => by
          rw [← hK, ms_self, upd_ne h4, ms_self, upd_ne h0, mx_fillr, mx_row_self, if_pos hk]
        refine hs.world hs.1 ?_ (by rw [rI 0 (by omega)]) (fun a h1 h2 => rI a (by omega)) (rI _ (by omega)) (rI _ (by omega)) (rI _ (by omega)) (rI _ (by omega)) (fun j _ => by rw [rI 120 (by omega)])
        obtain ⟨n, rfl, hn⟩ : ∃ n : Nat, a = nI n ∧ (n : Int) = a.toInt := ⟨a.toInt.toNat, i_nat (by omega), by omega⟩
        have hs9 : ∀ x, 33 < x → x < 43 → K x = mx_clr (mx_set (mx_set (mx_set (mx_set (mx_set (mx_set (mx_set (mx_set (mx_set (mx_set I 1 5 (nI n)) 1 6 (-1)) 1 7 0) 2 5 0) 8 9 0) 18 5 0) 24 3 0) 28 4 0) 28 5 0) 30 0 0) 33 x := fun x h1 h2 => by rw [kI x (by omega)]; unfold cw_bri; rw [ms_ne (by omega)]
        have lo : ∀ x, x < 33 → K x = mx_set (mx_set (mx_set (mx_set (mx_set (mx_set (mx_set (mx_set (mx_set (mx_set I 1 5 (nI n)) 1 6 (-1)) 1 7 0) 2 5 0) 8 9 0) 18 5 0) 24 3 0) 28 4 0) 28 5 0) 30 0 0 x := fun x h => by rw [kI x (by omega)]; unfold cw_bri; rw [ms_ne (by omega), clr_ne (by omega)]
        refine Rel.fresh (nb := n) (by omega) ?_ ?_ ?_ ?_ ?_ ?_ ?_ ?_ ?_ ?_ ?_ ?_ ?_ (fun l hl => ?_) (fun c hc => ?_) (fun e he => ?_) ?_ ?_ (fun k hk => wz k (by omega) (by omega) (by omega))
        · rw [lo 1 (by omega)]; simp [ms_row, upd]
        · rw [lo 1 (by omega)]; simp [ms_row, upd]
        · rw [lo 1 (by omega)]; simp [ms_row, upd]
        · rw [lo (1 + 1) (by omega)]; simp [ms_row, upd]
        · rw [lo (1 + 7) (by omega)]; simp [ms_row, upd]
        · rw [lo (1 + 17) (by omega)]; simp [ms_row, upd]
        · rw [lo (1 + 23) (by omega)]; simp [ms_row, upd]
        · rw [lo (1 + 27) (by omega)]; simp [ms_row, upd]
        · rw [lo (1 + 27) (by omega)]; simp [ms_row, upd]
        · rw [lo (1 + 29) (by omega)]; simp [ms_row, upd]
        · rw [kI 33 (by decide)]; unfold cw_bri; rw [ms_ne (by decide)]; exact clr_0.1
        · rw [kI 33 (by decide)]; unfold cw_bri; rw [ms_ne (by decide)]; exact clr_0.2
        · rw [kI 43 (by decide)]; unfold cw_bri; rw [ms_self, upd_eq]
        · rw [hs9 (33 + 1) (by omega) (by omega), hs9 (33 + 2) (by omega) (by omega), hs9 (33 + 3) (by omega) (by omega), hs9 (33 + 4) (by omega) (by omega)]; exact clr_L hl
        · rw [hs9 (33 + 7) (by omega) (by omega), hs9 (33 + 8) (by omega) (by omega), hs9 (33 + 9) (by omega) (by omega)]; exact clr_C hc
        · rw [hs9 (33 + 6) (by omega) (by omega)]; exact clr_W he
        · rw [← hK, ms_self, upd_ne (by decide), ms_self, upd_eq]
        · rw [← hK, ms_self, upd_eq]
set_option maxRecDepth 100000 in
set_option maxHeartbeats 4000000 in
theorem sim_init (I : mx_I) : Sim 55 (mx_I0 I) := by
  refine ⟨Or.inr rfl, ?_, rfl, Or.inl rfl, ⟨0, by omega, rfl, rfl, fun i h => absurd h (Nat.not_lt_zero i)⟩, ⟨rfl, rfl⟩, rfl, rfl, rfl, rfl⟩
  refine Rel.fresh (nb := 1) (by omega) rfl rfl rfl rfl rfl rfl rfl rfl rfl rfl rfl rfl rfl (fun l hl => ?_) (fun c hc => ?_) (fun e he => ?_) rfl rfl (fun k hk => ?_)
  · refine ⟨?_, ?_, ?_, ?_⟩
    · show (if l < 30 then (-1 : Int32) else _) = -1; rw [if_pos hl]
    · show (if l < 30 then (-1 : Int32) else _) = -1; rw [if_pos hl]
    · show (if l < 30 then (0 : Int32) else _) = 0; rw [if_pos hl]
    · show (if l < 30 then (0 : Int32) else _) = 0; rw [if_pos hl]
  · refine ⟨?_, ?_, ?_⟩
    · show (if c < 20 then (-1 : Int32) else _) = -1; rw [if_pos hc]
    · show (if c < 20 then (0 : Int32) else _) = 0; rw [if_pos hc]
    · show (if c < 20 then (0 : Int32) else _) = 0; rw [if_pos hc]
  · show (if e < 4 then (0 : Int32) else _) = 0; rw [if_pos he]
  · rcases hk with rfl | rfl | rfl | rfl | rfl | rfl | rfl | rfl | rfl | rfl <;> rfl
