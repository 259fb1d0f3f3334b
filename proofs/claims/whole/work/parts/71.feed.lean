/-! pairs: waits, chance, feed -/
theorem ms_back (I : mx_I) (k i : Nat) (x : Int32) : mx_set (mx_set I k i x) k i (I k i) = I := by
  funext a b
  by_cases q : a = k
  · subst q
    rw [ms_self, ms_self]
    by_cases w : b = i
    · subst w; rw [upd_eq]
    · rw [upd_ne w, upd_ne w]
  · rw [ms_ne q, ms_ne q]
set_option maxHeartbeats 2000000 in
theorem p_waits {l : Launch} (a b : Int32) : mx_PrI l Sim mX11_waits mX12_waits [.int a, .int b] := by
  intro c I hs
  obtain ⟨nb, now, nl, nc, no, ni, nk, hp, ps, W⟩ := hs.2.1.world
  obtain ⟨⟨s1, s2, s3, s4, s5, s6, s7, s8⟩, ⟨c1, c2, c3, c4, c5, c6, c7⟩, ⟨d1, d2, d3, -⟩, -⟩ := id W.1
  have hc := hs.1
  obtain ⟨z21, z22, z25, z26⟩ := hs.2.2.2.2.2.2
  cases g1 : inR a 0 nb with
  | false =>
    refine pr_no (-1) hs (sn_X11_waits _ _ ⟨_, sp_hasEnd a c1 s2, ?_⟩) (sn_X12_waits _ _ ⟨_, sp_isEnd a d1 s2, ?_⟩)
    · rintro _ _ ⟨rfl, rfl⟩; rw [g1]; exact sg_X11_waits_8 _ _ _ (fun _ => ⟨rfl, rfl⟩) (fun z => absurd rfl z) (fun z => absurd rfl z) (fun z => absurd rfl z) (fun z => absurd rfl z) (fun z => absurd rfl z)
    · rintro _ _ ⟨rfl, rfl⟩; rw [g1]; exact sg_X12_waits_5 _ _ _ (fun z => absurd rfl z) (fun _ => ⟨rfl, rfl⟩)
  | true =>
  obtain ⟨e, hea, he⟩ := i_of g1
  subst hea
  have he4 : e < 4 := by omega
  have hI : HInv (pm_of I ps nb nl nc no true true (pm_row true (I 1 6) 0 0 (-1) (-1))) now (hs_of I hp nk now) := W.hinv
  have hA := hI.1
  have hlen : (hp e).length ≤ nl := hA.len he4
  obtain ⟨p1, p2, p3⟩ := W.2.2.2.1.1 e he4
  -- the answer
  let v : Int32 := if inR b 0 (((hp e).length : Int) - 1) = true then nI ((hp e).getD b.toNatClampNeg 0) else -1
  refine pr_go (fun w c1 I1 => c1 = c ∧ I1 = I ∧ w = v) ?_ ?_
  · refine sn_X11_waits _ _ ⟨_, sp_hasEnd _ c1 s2, ?_⟩
    rintro _ _ ⟨rfl, rfl⟩; rw [g1]
    have S := fun Q => @sg_X11_waits_8 l 99 Q c I (nI e) b (b2i true)
    rw [nI_clamp (n := e) (by omega), show I 39 e = nI (hp e).length from p1] at S
    have hb1 : (¬ b < 0) → b < nI (hp e).length → ∃ k : Nat, b = nI k ∧ k < (hp e).length := fun z1 z2 => by
      have h1 : ¬ b.toInt < 0 := fun z => z1 ((i_lt _ _).mpr z)
      rw [i_lt, nI_toInt (by omega)] at z2
      exact ⟨b.toInt.toNat, i_nat (by omega), by omega⟩
    have no_ : (b < 0 ∨ ¬ b < nI (hp e).length) → v = -1 := fun z => by
      have : inR b 0 (((hp e).length : Int) - 1) = false := inR_f.mpr (fun w => by
        rcases z with z | z
        · have : b.toInt < 0 := (i_lt _ _).mp z
          omega
        · exact z (by rw [i_lt, nI_toInt (by omega)]; omega))
      show (if inR b 0 (((hp e).length : Int) - 1) = true then _ else _) = _
      rw [this]; rfl
    have ix : ∀ k : Nat, (nI e * 30 + nI k : Int32) = nI (30 * e + k) := fun k => by rw [show (30 : Int32) = nI 30 from rfl, pk_mul, nI_add, Nat.mul_comm]
    refine S _ (fun z => absurd z (by decide)) (fun _ z => ⟨-1, c, I, rfl, rfl, rfl, rfl, (no_ (Or.inl z)).symm⟩) (fun _ _ => i_vp he4 (by omega)) (fun _ z1 z2 => ?_) (fun _ z1 z2 => ?_) (fun _ _ z => ⟨-1, c, I, rfl, rfl, rfl, rfl, (no_ (Or.inr z)).symm⟩)
    · obtain ⟨k, rfl, hk⟩ := hb1 z1 z2
      rw [ix]
      exact i_vp (by omega) (by omega)
    · obtain ⟨k, rfl, hk⟩ := hb1 z1 z2
      refine ⟨_, c, I, rfl, rfl, rfl, rfl, ?_⟩
      rw [ix, nI_clamp (n := 30 * e + k) (by omega)]
      have hq : inR (nI k) 0 (((hp e).length : Int) - 1) = true := inR_t.mpr (by rw [nI_toInt (by omega)]; omega)
      show _ = (if inR (nI k) 0 (((hp e).length : Int) - 1) = true then _ else _)
      rw [hq, if_pos rfl, nI_clamp (n := k) (by omega)]
      exact p3 k hk
  · rintro w cc I1 ⟨rfl, rfl, rfl⟩
    refine sn_X12_waits _ _ ⟨_, sp_isEnd _ d1 s2, ?_⟩
    rintro _ _ ⟨rfl, rfl⟩; rw [g1]
    -- a world with the fields as they are
    have M0 : MR (pm_of I1 ps nb nl nc no true true (pm_row true (I1 1 6) 0 0 (-1) (-1))) ((hs_of I1 hp nk now).set 65 15 (0 + I1 120 31)) (mx_set I1 120 31 0) I1 := by
      have q : ∀ j, j ≠ 31 → mx_set I1 120 31 0 120 j = I1 120 j := fun j hj => ms_at (Or.inr hj)
      have q1 : mx_set I1 120 31 0 121 = I1 121 := ms_ne (by omega)
      have m := (W.mr (wr := true) (fl := true) (row := pm_row true (I1 1 6) 0 0 (-1) (-1)) (K := mx_set I1 120 31 0) (fun k hk => by rw [q1]) (by rw [q1]; exact W.1.2.2.2.1.1) (by rw [q 21 (by omega)]; exact z21) (by rw [q 25 (by omega)]; exact z25) (by rw [q 26 (by omega)]; exact z26) (by rw [q 22 (by omega)]; exact z22) (Or.inl rfl) (fun _ => by rw [ms_self, upd_eq])).bore (I1 120 31)
      rw [show mx_set I1 120 31 0 120 31 = 0 from by rw [ms_self, upd_eq], Int32.zero_add, ms_back] at m
      exact m
    refine sg_X12_waits_5 _ _ _ (fun _ => ⟨_, sp_laysHeap (d := 96) (A := (hs_of I1 hp nk now).set 65 15 (0 + I1 120 31)) s4 he4 (hA.set (by omega)) M0, ?_⟩) (fun z => absurd z (by decide))
    rintro _ _ ⟨rfl, K, rfl, -, hH, hK1, hK2⟩
    refine sg_X12_waits_15 _ _ ⟨_, sp_isIn _ _ _, ?_⟩
    rintro _ _ ⟨rfl, rfl⟩
    rw [hH.1, nI_sub1 (by show (hp e).length < _; omega), show ((0 : Int32).toInt) = 0 from rfl]
    have sim : Sim cc K := by
      refine hs.same hs.1 (K0 := I1) (fun _ _ _ => rfl) ⟨fun k a1 a2 a3 a4 a5 a6 => hK1 k a1 a5, fun j hj => hK2 j (by omega), by rw [hK2 21 (by omega), hK2 22 (by omega), hK2 25 (by omega), hK2 26 (by omega)]; exact ⟨z21, z22, z25, z26⟩⟩
    refine sg_X12_waits_26 _ _ _ (fun z => ⟨?_, cc, K, rfl, sim⟩) (fun z => ?_) (fun z => ⟨?_, cc, K, rfl, sim⟩)
    · have hq : inR b 0 (((hp e).length : Int) - 1) = false := b2i_0.mp z
      show _ = some (Value.int (if inR b 0 (((hp e).length : Int) - 1) = true then _ else _))
      rw [hq]; rfl
    · have hq : inR b 0 (((hp e).length : Int) - 1) = true := by
        cases q : inR b 0 (((hp e).length : Int) - 1) with
        | true => rfl
        | false => exact absurd (b2i_0.mpr q) z
      obtain ⟨k, rfl, hk⟩ := i_of hq
      exact i_vp (by omega) (by omega)
    · have hq : inR b 0 (((hp e).length : Int) - 1) = true := by
        cases q : inR b 0 (((hp e).length : Int) - 1) with
        | true => rfl
        | false => exact absurd (b2i_0.mpr q) z
      show _ = some (Value.int (if inR b 0 (((hp e).length : Int) - 1) = true then _ else _))
      rw [hq, if_pos rfl]
      obtain ⟨k, rfl, hk⟩ := i_of hq
      rw [nI_clamp (n := k) (by omega)]
      exact congrArg (fun x => some (Value.int x)) (hH.2 k (by show k < (hp e).length; omega))

theorem ch_first : ∀ p : Nat, p < 11 → ∀ q : Nat, q < 11 → (lg_cmp ((((0 : Int64) * 10) + (((1 : Int64) - 0) * ((nI p).toInt64))) * (((10 - nI q : Int32)).toInt64)) (((0 : Int64) * 10) * 10)) ≤ 0 → (((0 : Int64) * 10) + (((1 : Int64) - 0) * ((nI p).toInt64))) * (((10 - nI q : Int32)).toInt64) = 0 := by decide +kernel
theorem ch_q : ∀ q : Nat, q < 11 → ((10 - nI q : Int32)).toInt64 = 10 - (nI q).toInt64 := by decide +kernel
theorem ch_e {x5 x6 : Int64} {p q : Nat} (hq : q < 11) : ((10 * x5) + ((x6 - x5) * ((nI p).toInt64))) * (10 - ((nI q).toInt64)) = ((x5 * 10) + ((x6 - x5) * ((nI p).toInt64))) * (((10 - nI q : Int32)).toInt64) := by
  rw [ch_q q hq, Int64.mul_comm 10 x5]
theorem ch_100 (x : Int64) : x * 100 = (x * 10) * 10 := by
  rw [Int64.mul_assoc]; rfl
/-- the pair's common course: over, all, greatest, likeliest, from hour k on m hours -/
def ch_run (p q : Nat) : Nat → Nat → Int64 → Int64 → Int64 → Int32 → Int64 × Int32
  | 0, _, o, _, _, h => (o, h)
  | m + 1, k, o, a, g, h => let o' := ((o * 10) + ((a - o) * ((nI p).toInt64))) * (((10 - nI q : Int32)).toInt64)
    if (lg_cmp o' ((g * 10) * 10)) ≤ 0 then ch_run p q m (k + 1) o' ((a * 10) * 10) ((g * 10) * 10) h else ch_run p q m (k + 1) o' ((a * 10) * 10) o' (nI k)
set_option maxHeartbeats 1000000 in
theorem p_chance {l : Launch} (a1 a2 a3 a4 : Int32) : mx_PrL l Sim mX11_chance mX12_chance [.int a1, .int a2, .int a3, .int a4] := by
  intro c I hs
  -- refused
  have no_ : ∀ (h1 : mx_Spec l mX11_chance 100 0 0 [.ref 0, .int a1, .int a2, .int a3, .int a4] (sk0 c, I) (fun r h' => r = some (.long (-1)) ∧ h' = (sk0 c, I))) (h2 : mx_Spec l mX12_chance 100 0 0 [.ref 120, .int a1, .int a2, .int a3, .int a4] (sk0 c, I) (fun r h' => r = some (.long (-1)) ∧ h' = (sk0 c, I))), mx_K1 l mX11_chance 100 [.ref 0, .int a1, .int a2, .int a3, .int a4] (sk0 c, I) (fun r h1 => ∃ (v : Int64) (c1 : Nat) (I1 : mx_I), r = some (.long v) ∧ h1 = (sk0 c1, I1) ∧ mx_K1 l mX12_chance 100 [.ref 120, .int a1, .int a2, .int a3, .int a4] (sk0 c1, I1) (fun r2 h2 => r2 = some (.long v) ∧ ∃ (c2 : Nat) (I2 : mx_I), h2 = (sk0 c2, I2) ∧ Sim c2 I2)) := by
    intro h1 h2
    refine ⟨_, h1, ?_⟩
    rintro _ _ ⟨rfl, rfl⟩
    refine ⟨_, _, _, rfl, rfl, _, h2, ?_⟩
    rintro _ _ ⟨rfl, rfl⟩
    exact ⟨rfl, c, I, rfl, hs⟩
  have i0 : (0 : Int32).toInt = 0 := rfl
  have i1 : (1 : Int32).toInt = 1 := by decide
  have i8 : (8 : Int32).toInt = 8 := by decide
  have i10 : (10 : Int32).toInt = 10 := by decide
  have lt0 : ∀ x : Int32, x < 0 ↔ x.toInt < 0 := fun x => i_lt _ _
  have lt10 : ∀ x : Int32, 10 < x ↔ 10 < x.toInt := fun x => by rw [i_lt, i10]
  have lt1 : ∀ x : Int32, x < 1 ↔ x.toInt < 1 := fun x => by rw [i_lt, i1]
  have le8 : ∀ x : Int32, x ≤ 8 ↔ x.toInt ≤ 8 := fun x => by rw [i_le, i8]
  have le1 : ∀ x : Int32, x ≤ 1 ↔ x.toInt ≤ 1 := fun x => by rw [i_le, i1]
  cases g1 : inR a1 0 10 with
  | false =>
    have g1' := inR_f.mp g1
    refine no_ ?_ (sn_X12_chance _ _ _ _ ⟨_, sp_isIn _ _ _, ?_⟩)
    · refine sn_X11_chance _ _ _ _ (fun _ => ⟨rfl, rfl⟩) (fun _ _ => ⟨rfl, rfl⟩) (fun _ _ _ => ⟨rfl, rfl⟩) (fun _ _ _ _ => ⟨rfl, rfl⟩) (fun _ _ _ _ _ => ⟨rfl, rfl⟩) (fun _ _ _ _ _ _ _ => ⟨rfl, rfl⟩) (fun z1 z2 _ _ _ _ _ _ => ?_) (fun _ _ _ _ _ _ _ _ => ⟨rfl, rfl⟩) (fun _ _ _ _ _ _ => ⟨rfl, rfl⟩)
      rw [lt0] at z1; rw [lt10] at z2
      exact absurd ⟨by omega, by omega⟩ g1'
    · rintro _ _ ⟨rfl, rfl⟩; rw [i0, i10, g1]
      exact sg_X12_chance_7 _ _ _ _ _ (fun _ => ⟨rfl, rfl⟩) (fun z => absurd rfl z)
  | true =>
  have g1' := inR_t.mp g1
  cases g2 : inR a2 0 10 with
  | false =>
    have g2' := inR_f.mp g2
    refine no_ ?_ (sn_X12_chance _ _ _ _ ⟨_, sp_isIn _ _ _, ?_⟩)
    · refine sn_X11_chance _ _ _ _ (fun _ => ⟨rfl, rfl⟩) (fun _ _ => ⟨rfl, rfl⟩) (fun _ _ _ => ⟨rfl, rfl⟩) (fun _ _ _ _ => ⟨rfl, rfl⟩) (fun _ _ _ _ _ => ⟨rfl, rfl⟩) (fun _ _ _ _ _ _ _ => ⟨rfl, rfl⟩) (fun _ _ z1 z2 _ _ _ _ => ?_) (fun _ _ _ _ _ _ _ _ => ⟨rfl, rfl⟩) (fun _ _ _ _ _ _ => ⟨rfl, rfl⟩)
      rw [lt0] at z1; rw [lt10] at z2
      exact absurd ⟨by omega, by omega⟩ g2'
    · rintro _ _ ⟨rfl, rfl⟩; rw [i0, i10, g1]
      refine sg_X12_chance_7 _ _ _ _ _ (fun z => absurd z (by decide)) (fun _ => ⟨_, sp_isIn _ _ _, ?_⟩)
      rintro _ _ ⟨rfl, rfl⟩; rw [i0, i10, g2]
      exact sg_X12_chance_17 _ _ _ _ _ (fun _ => ⟨rfl, rfl⟩) (fun z => absurd rfl z)
  | true =>
  have g2' := inR_t.mp g2
  cases g3 : inR a3 1 8 with
  | false =>
    have g3' := inR_f.mp g3
    refine no_ ?_ (sn_X12_chance _ _ _ _ ⟨_, sp_isIn _ _ _, ?_⟩)
    · refine sn_X11_chance _ _ _ _ (fun _ => ⟨rfl, rfl⟩) (fun _ _ => ⟨rfl, rfl⟩) (fun _ _ _ => ⟨rfl, rfl⟩) (fun _ _ _ _ => ⟨rfl, rfl⟩) (fun _ _ _ _ _ => ⟨rfl, rfl⟩) (fun _ _ _ _ _ _ _ => ⟨rfl, rfl⟩) (fun _ _ _ _ z1 z2 _ _ => ?_) (fun _ _ _ _ _ _ _ _ => ⟨rfl, rfl⟩) (fun _ _ _ _ _ _ => ⟨rfl, rfl⟩)
      rw [lt1] at z1; rw [le8] at z2
      exact absurd ⟨by omega, by omega⟩ g3'
    · rintro _ _ ⟨rfl, rfl⟩; rw [i0, i10, g1]
      refine sg_X12_chance_7 _ _ _ _ _ (fun z => absurd z (by decide)) (fun _ => ⟨_, sp_isIn _ _ _, ?_⟩)
      rintro _ _ ⟨rfl, rfl⟩; rw [i0, i10, g2]
      refine sg_X12_chance_17 _ _ _ _ _ (fun z => absurd z (by decide)) (fun _ => ⟨_, sp_isIn _ _ _, ?_⟩)
      rintro _ _ ⟨rfl, rfl⟩; rw [i1, i8, g3]
      exact sg_X12_chance_27 _ _ _ _ _ (fun _ => ⟨rfl, rfl⟩) (fun z => absurd rfl z)
  | true =>
  have g3' := inR_t.mp g3
  cases g4 : inR a4 0 1 with
  | false =>
    have g4' := inR_f.mp g4
    refine no_ ?_ (sn_X12_chance _ _ _ _ ⟨_, sp_isIn _ _ _, ?_⟩)
    · refine sn_X11_chance _ _ _ _ (fun _ => ⟨rfl, rfl⟩) (fun _ _ => ⟨rfl, rfl⟩) (fun _ _ _ => ⟨rfl, rfl⟩) (fun _ _ _ _ => ⟨rfl, rfl⟩) (fun _ _ _ _ _ => ⟨rfl, rfl⟩) (fun _ _ _ _ _ _ _ => ⟨rfl, rfl⟩) (fun _ _ _ _ _ _ z1 z2 => ?_) (fun _ _ _ _ _ _ _ _ => ⟨rfl, rfl⟩) (fun _ _ _ _ _ _ => ⟨rfl, rfl⟩)
      rw [lt0] at z1; rw [le1] at z2
      exact absurd ⟨by omega, by omega⟩ g4'
    · rintro _ _ ⟨rfl, rfl⟩; rw [i0, i10, g1]
      refine sg_X12_chance_7 _ _ _ _ _ (fun z => absurd z (by decide)) (fun _ => ⟨_, sp_isIn _ _ _, ?_⟩)
      rintro _ _ ⟨rfl, rfl⟩; rw [i0, i10, g2]
      refine sg_X12_chance_17 _ _ _ _ _ (fun z => absurd z (by decide)) (fun _ => ⟨_, sp_isIn _ _ _, ?_⟩)
      rintro _ _ ⟨rfl, rfl⟩; rw [i1, i8, g3]
      refine sg_X12_chance_27 _ _ _ _ _ (fun z => absurd z (by decide)) (fun _ => ⟨_, sp_isIn _ _ _, ?_⟩)
      rintro _ _ ⟨rfl, rfl⟩; rw [i0, i1, g4]
      exact sg_X12_chance_37 _ _ _ _ _ (fun z => absurd rfl z) (fun _ => ⟨rfl, rfl⟩)
  | true =>
  have g4' := inR_t.mp g4
  obtain ⟨p, rfl, hp⟩ := i_of g1
  obtain ⟨q, rfl, hq⟩ := i_of g2
  obtain ⟨n, rfl, hn⟩ : ∃ n : Nat, a3 = nI n ∧ (n : Int) = a3.toInt := ⟨a3.toInt.toNat, i_nat (by omega), by omega⟩
  rw [nI_toInt (by omega)] at g3'
  have hpn : p < 11 := by omega
  have hqn : q < 11 := by omega
  let v : Int64 := if a4 = 0 then (ch_run p q n 1 0 1 0 1).1 else ((ch_run p q n 1 0 1 0 1).2).toInt64
  have X : ∀ (m k : Nat) (o a g : Int64) (h : Int32), k + m = n + 1 → ch_run p q m k o a g h = ch_run p q n 1 0 1 0 1 → mx_Go l (mx_rm (99 + 1) 0 0) mX11_chance (mx_Z (fun r h' => r = some (.long v) ∧ h' = (sk0 c, I)) 0 0) 0 0 65 [.ref 0, .int (nI p), .int (nI q), .int (nI n), .int a4, .long a, .retAddr 0, .long o, .retAddr 0, .long g, .retAddr 0, .int h, .int (nI k)] [] (sk0 c, I) := by
    intro m
    induction m with
    | zero =>
      intro k o a g h hk hR
      have e1 : nI n < nI k := (nI_ltI (by omega) (by omega)).mpr (by omega)
      refine sg_X11_chance_65 _ _ _ _ _ _ _ _ _ (fun _ z => ⟨?_, rfl⟩) (fun _ z => ⟨?_, rfl⟩) (fun z => absurd e1 z) (fun z => absurd e1 z)
      · show _ = some (Value.long (if a4 = 0 then _ else _))
        rw [if_neg z, ← hR]; rfl
      · show _ = some (Value.long (if a4 = 0 then _ else _))
        rw [if_pos z, ← hR]; rfl
    | succ m ih =>
      intro k o a g h hk hR
      have e1 : ¬ nI n < nI k := fun z => by rw [nI_ltI (by omega) (by omega)] at z; omega
      rw [ch_run] at hR
      refine sg_X11_chance_65 _ _ _ _ _ _ _ _ _ (fun z => absurd z e1) (fun z => absurd z e1) (fun _ z => ?_) (fun _ z => ?_)
      · rw [if_pos z] at hR
        rw [nI_1]
        exact ih (k + 1) _ _ _ _ (by omega) hR
      · rw [if_neg z] at hR
        rw [nI_1]
        exact ih (k + 1) _ _ _ _ (by omega) hR
  have Y : ∀ (m k : Nat) (o a g : Int64) (h : Int32), k + m = n + 1 → 1 ≤ k → ¬ h ≤ 0 → ch_run p q m k o a g h = ch_run p q n 1 0 1 0 1 → mx_Go l (mx_rm (99 + 1) 0 0) mX12_chance (mx_Z (fun r h' => r = some (.long v) ∧ h' = (sk0 c, I)) 0 0) 0 0 59 [.ref 120, .int (nI p), .int (nI q), .int (nI n), .int a4, .long o, .retAddr 0, .long a, .retAddr 0, .long g, .retAddr 0, .int h, .int (nI k)] [] (sk0 c, I) := by
    intro m
    induction m with
    | zero =>
      intro k o a g h hk hk1 hh hR
      have e1 : nI n < nI k := (nI_ltI (by omega) (by omega)).mpr (by omega)
      refine sg_X12_chance_59 _ _ _ _ _ _ _ _ _ (fun _ z => ⟨?_, rfl⟩) (fun _ z => ⟨?_, rfl⟩) (fun z => absurd e1 z) (fun z => absurd e1 z) (fun z => absurd e1 z)
      · show _ = some (Value.long (if a4 = 0 then _ else _))
        rw [if_neg z, ← hR]; rfl
      · show _ = some (Value.long (if a4 = 0 then _ else _))
        rw [if_pos z, ← hR]; rfl
    | succ m ih =>
      intro k o a g h hk hk1 hh hR
      have e1 : ¬ nI n < nI k := fun z => by rw [nI_ltI (by omega) (by omega)] at z; omega
      rw [ch_run] at hR
      have S := fun Q => @sg_X12_chance_59 l 99 Q c I (nI p) (nI q) (nI n) a4 o a g h (nI k)
      rw [ch_e hqn, ch_100, ch_100, nI_1] at S
      refine S _ (fun z => absurd z e1) (fun z => absurd z e1) (fun _ z => absurd z hh) (fun _ _ z => ?_) (fun _ _ z => ?_)
      · have z' : ¬ (lg_cmp (((o * 10) + ((a - o) * ((nI p).toInt64))) * (((10 - nI q : Int32)).toInt64)) ((g * 10) * 10)) ≤ 0 := fun w => by rw [i_le] at w; rw [i_lt] at z; omega
        rw [if_neg z'] at hR
        exact ih (k + 1) _ _ _ _ (by omega) (by omega) (nI_nle (by omega) (by omega)) hR
      · have z' : (lg_cmp (((o * 10) + ((a - o) * ((nI p).toInt64))) * (((10 - nI q : Int32)).toInt64)) ((g * 10) * 10)) ≤ 0 := by rw [i_le]; rw [i_lt] at z; omega
        rw [if_pos z'] at hR
        exact ih (k + 1) _ _ _ _ (by omega) (by omega) hh hR
  refine ⟨fun r h' => r = some (.long v) ∧ h' = (sk0 c, I), ?_, ?_⟩
  · refine sn_X11_chance _ _ _ _ (fun z => ?_) (fun _ z => ?_) (fun _ _ z => ?_) (fun _ _ _ z => ?_) (fun _ _ _ _ z => ?_) (fun _ _ _ _ _ _ z => ?_) (fun _ _ _ _ _ _ _ _ => X n 1 0 1 0 1 (by omega) rfl) (fun _ _ _ _ _ _ _ z => ?_) (fun _ _ _ _ _ z => ?_)
    · rw [lt0] at z; omega
    · rw [lt10] at z; omega
    · rw [lt0] at z; omega
    · rw [lt10] at z; omega
    · rw [lt1, nI_toInt (by omega)] at z; omega
    · rw [lt0] at z; omega
    · rw [le1] at z; omega
    · rw [le8, nI_toInt (by omega)] at z; omega
  · rintro _ _ ⟨rfl, rfl⟩
    refine ⟨v, c, I, rfl, rfl, fun r h' => r = some (.long v) ∧ h' = (sk0 c, I), sn_X12_chance _ _ _ _ ⟨_, sp_isIn _ _ _, ?_⟩, ?_⟩
    · rintro _ _ ⟨rfl, rfl⟩; rw [i0, i10, g1]
      refine sg_X12_chance_7 _ _ _ _ _ (fun z => absurd z (by decide)) (fun _ => ⟨_, sp_isIn _ _ _, ?_⟩)
      rintro _ _ ⟨rfl, rfl⟩; rw [i0, i10, g2]
      refine sg_X12_chance_17 _ _ _ _ _ (fun z => absurd z (by decide)) (fun _ => ⟨_, sp_isIn _ _ _, ?_⟩)
      rintro _ _ ⟨rfl, rfl⟩; rw [i1, i8, g3]
      refine sg_X12_chance_27 _ _ _ _ _ (fun z => absurd z (by decide)) (fun _ => ⟨_, sp_isIn _ _ _, ?_⟩)
      rintro _ _ ⟨rfl, rfl⟩; rw [i0, i1, g4]
      refine sg_X12_chance_37 _ _ _ _ _ (fun _ => ?_) (fun z => absurd z (by decide))
      -- the first hour
      have e1 : ¬ nI n < nI 1 := fun z => by rw [nI_ltI (by omega) (by omega)] at z; omega
      have S := fun Q => @sg_X12_chance_59 l 99 Q c I (nI p) (nI q) (nI n) a4 0 1 0 0 (nI 1)
      rw [ch_e hqn, ch_100, ch_100, nI_1] at S
      refine S _ (fun z => absurd z e1) (fun z => absurd z e1) (fun _ _ => ?_) (fun _ z => absurd (by decide) z) (fun _ z => absurd (by decide) z)
      obtain ⟨m, hm⟩ : ∃ m, n = m + 1 := ⟨n - 1, by omega⟩
      refine Y m 2 _ _ _ _ (by omega) (by omega) (by decide) ?_
      have hr : ch_run p q n 1 0 1 0 1 = ch_run p q (m + 1) 1 0 1 0 1 := by rw [hm]
      rw [hr, ch_run]
      by_cases z : (lg_cmp ((((0 : Int64) * 10) + (((1 : Int64) - 0) * ((nI p).toInt64))) * (((10 - nI q : Int32)).toInt64)) (((0 : Int64) * 10) * 10)) ≤ 0
      · rw [if_pos z, ch_first p hpn q hqn z]
        rfl
      · rw [if_neg z]
    · rintro _ _ ⟨rfl, rfl⟩
      exact ⟨rfl, c, I, rfl, hs⟩
