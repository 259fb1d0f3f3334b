theorem i_vp {k n : Nat} (h : k < n) (hn : n ≤ 3000) : vp_in (nI k) n := vp_in_nI h (by omega)
theorem p_end {l : Launch} (a : Int32) : mx_PrI l Sim mX11_end mX12_end [.int a] := by
  refine pr_upd (fun _ I => b2i (inR a 0 (I 47 3).toInt)) (fun _ I => if inR a 0 (I 47 3).toInt = true then mx_set I 47 3 a else I) (fun _ I => if inR a 0 (I 47 3).toInt = true then mx_set (mx_set I 47 3 a) 120 11 a else I) (fun c I hs => ?_) (fun c I hs => ?_) (fun c I hs => ?_)
  · refine sn_X11_end a ⟨_, sn_X8_cut (Q := fun r h' => r = some (.int (b2i (inR a 0 (I 47 3).toInt))) ∧ h' = (sk0 c, if inR a 0 (I 47 3).toInt = true then mx_set I 47 3 a else I)) a (fun h => ?_) (fun h g => ?_) (fun h g => ?_), ?_⟩
    · have h' : a.toInt < 0 := (i_lt _ _).mp h
      have e : inR a 0 (I 47 3).toInt = false := inR_f.mpr (by omega)
      simp [e, b2i]
    · have h' : ¬ a.toInt < 0 := fun z => h ((i_lt _ _).mpr z)
      have g' := (i_le _ _).mp g
      have e : inR a 0 (I 47 3).toInt = true := inR_t.mpr (by omega)
      simp [e, b2i]
    · have g' : ¬ a.toInt ≤ (I 47 3).toInt := fun z => g ((i_le _ _).mpr z)
      have e : inR a 0 (I 47 3).toInt = false := inR_f.mpr (by omega)
      simp [e, b2i]
    · rintro _ _ ⟨rfl, rfl⟩
      exact sg_X11_end_8 _ _ ⟨rfl, rfl⟩ (b2i_01 _)
  · obtain ⟨n, hn, h1, h2, h3⟩ := hs.2.2.2.2.1
    have e0 : (if inR a 0 (I 47 3).toInt = true then mx_set I 47 3 a else I) 120 11 = I 47 3 := by
      split
      · rw [ms_ne (by decide), h1, h2]
      · rw [h1, h2]
    refine sn_X12_end a ⟨_, sp_isIn _ _ _, ?_⟩
    rintro _ _ ⟨rfl, rfl⟩
    rw [e0]
    refine sg_X12_end_9 _ _ (fun h => ⟨?_, ?_⟩) (fun h => ⟨?_, ?_⟩)
    · cases hq : inR a (0 : Int32).toInt (I 47 3).toInt with
      | true => have hq' : inR a 0 (I 47 3).toInt = true := hq
                rw [hq']; rfl
      | false => exact absurd (b2i_0.mpr hq) h
    · cases hq : inR a (0 : Int32).toInt (I 47 3).toInt with
      | true => have hq' : inR a 0 (I 47 3).toInt = true := hq
                simp [hq']
      | false => exact absurd (b2i_0.mpr hq) h
    · have hq' : inR a 0 (I 47 3).toInt = false := b2i_0.mp h
      rw [hq']; rfl
    · have hq' : inR a 0 (I 47 3).toInt = false := b2i_0.mp h
      simp [hq']
  · cases hq : inR a 0 (I 47 3).toInt with
    | false => simpa [hq] using hs
    | true =>
      simp only [if_true]
      obtain ⟨a0, a1, a2, a3, ⟨n, hn, t1, t2, t3⟩, ⟨a5, a6⟩, a7, a8, a9, a10⟩ := hs
      have r : ∀ a', a' ≠ 47 → a' ≠ 120 → mx_set (mx_set I 47 3 a) 120 11 a a' = I a' := fun a' h1 h2 => by rw [ms_ne h2, ms_ne h1]
      have r47 : ∀ j, j ≠ 3 → mx_set (mx_set I 47 3 a) 120 11 a 47 j = I 47 j := fun j h => by rw [ms_ne (by decide), ms_self, upd_ne h]
      have r120 : ∀ j, j ≠ 11 → mx_set (mx_set I 47 3 a) 120 11 a 120 j = I 120 j := fun j h => by rw [ms_self, upd_ne h, ms_ne (by decide)]
      refine ⟨a0, a1.congr (fun a' h => r a' (by omega) (by omega)) (r 121 (by decide) (by decide)), by rw [r120 3 (by decide), r 0 (by decide) (by decide)]; exact a2, ?_, ?_, ⟨by rw [r120 18 (by decide), r47 4 (by decide)]; exact a5, by rw [r120 20 (by decide), r47 5 (by decide)]; exact a6⟩, by rw [r120 21 (by decide)]; exact a7, by rw [r120 22 (by decide)]; exact a8, by rw [r120 25 (by decide)]; exact a9, by rw [r120 26 (by decide)]; exact a10⟩
      · rw [r 0 (by decide) (by decide)]
        rcases a3 with z | ⟨z, z2⟩
        · exact Or.inl z
        · exact Or.inr ⟨z, z2.congr (fun a' h => r a' (by omega) (by omega)) (r 122 (by decide) (by decide))⟩
      · rw [t1, nI_toInt (by omega)] at hq
        obtain ⟨k, rfl, hk⟩ := i_of hq
        refine ⟨k, by omega, by rw [ms_ne (by decide), ms_self, upd_eq], by rw [ms_self, upd_eq], fun i hi => ?_⟩
        rw [r 48 (by decide) (by decide), r 126 (by decide) (by decide)]
        exact t3 i (by omega)
set_option maxHeartbeats 1000000 in
theorem p_of {l : Launch} (a b : Int32) : mx_PrI l Sim mX11_of mX12_of [.int a, .int b] := by
  refine pr_read (fun _ I => if inR a 0 ((I 2 5).toInt - 1) = true then (if b = 0 then I 3 a.toNatClampNeg else if b = 1 then I 34 a.toNatClampNeg else if b = 2 then I 35 a.toNatClampNeg else if b = 3 then I 36 a.toNatClampNeg else if b = 4 then I 5 a.toNatClampNeg else if b = 5 then I 37 a.toNatClampNeg else -2) else -2) (fun c I hs => ?_) (fun c I hs => ?_)
  · obtain ⟨nb, now, nl, nc, no, ni, nk, hp, ⟨⟨-, -, -, h30, -⟩, ⟨a1, a2, a3, -⟩, -⟩, -⟩ := hs.2.1
    have a3 : I 2 5 = nI nl := a3
    have e3 : (I 2 5).toInt = nl := by rw [a3]; exact nI_toInt (by omega)
    refine sn_X11_of a b ⟨_, sp_hasL a a3 h30, ?_⟩
    rintro _ _ ⟨rfl, rfl⟩
    rw [← e3]
    cases hq : inR a 0 ((I 2 5).toInt - 1) with
    | false => refine sg_X11_of_11 _ _ _ ?_ ?_ ?_ ?_ ?_ ?_ ?_ ?_ ?_ ?_ ?_ ?_ ?_ ?_ <;> intros <;> first | (exact absurd rfl ‹_›) | exact ⟨by simp, rfl⟩
    | true =>
      obtain ⟨k, rfl, hk⟩ := i_of hq
      have hv : vp_in (nI k) 30 := i_vp (by omega) (by omega)
      refine sg_X11_of_11 _ _ _ ?_ ?_ ?_ ?_ ?_ ?_ ?_ ?_ ?_ ?_ ?_ ?_ ?_ ?_ <;> intros <;> first | exact hv | (exact absurd ‹_› (by decide)) | exact ⟨by simp [*], rfl⟩
  · obtain ⟨nb, now, nl, nc, no, ni, nk, hp, ⟨⟨-, -, -, h30, -⟩, ⟨a1, a2, a3, -⟩, ⟨b1, b2, b3, -⟩, -⟩, ⟨t1, -, t2, -⟩, -⟩ := hs.2.1
    have a3 : I 2 5 = nI nl := a3
    have e3 : (I 2 5).toInt = nl := by rw [a3]; exact nI_toInt (by omega)
    refine sn_X12_of a b ⟨_, sp_isLoad a b3 h30, ?_⟩
    rintro _ _ ⟨rfl, rfl⟩
    rw [← e3]
    cases hq : inR a 0 ((I 2 5).toInt - 1) with
    | false => refine sg_X12_of_5 _ _ _ ?_ ?_ ?_ ?_ ?_ ?_ ?_ ?_ <;> intros <;> first | (exact absurd rfl ‹_›) | exact ⟨by simp, rfl⟩
    | true =>
      obtain ⟨k, rfl, hk⟩ := i_of hq
      have hk30 : k < 30 := by omega
      have hkl : k < nl := by omega
      have c0 : (nI k).toNatClampNeg = k := nI_clamp (by omega)
      refine sg_X12_of_5 _ _ _ (fun _ e => ⟨_, sp_ofLoad 0 rfl hk30 (by decide), ?_⟩) (fun _ e => ⟨_, sp_ofLoad 5 rfl hk30 (by decide), ?_⟩) (fun _ e => ⟨_, sp_ofLoad 6 rfl hk30 (by decide), ?_⟩) (fun _ e => ⟨_, sp_ofLoad 7 rfl hk30 (by decide), ?_⟩) (fun _ e => ⟨_, sp_ofLoad 2 rfl hk30 (by decide), ?_⟩) (fun _ e => ⟨_, sp_ofLoad 8 rfl hk30 (by decide), ?_⟩) ?_ ?_
      · rintro _ _ ⟨rfl, rfl⟩
        refine sg_X12_of_58 _ _ _ ⟨?_, rfl⟩
        rw [t1 k hkl 0 (by decide)]; simp [e, c0]
      · rintro _ _ ⟨rfl, rfl⟩
        refine sg_X12_of_65 _ _ _ ⟨?_, rfl⟩
        rw [show 20 + 10 * k + 5 = 25 + 10 * k + 0 by omega, t2 k hkl 0 (by decide)]; simp [e, c0]
      · rintro _ _ ⟨rfl, rfl⟩
        refine sg_X12_of_73 _ _ _ ⟨?_, rfl⟩
        rw [show 20 + 10 * k + 6 = 25 + 10 * k + 1 by omega, t2 k hkl 1 (by decide)]; simp [e, c0]
      · rintro _ _ ⟨rfl, rfl⟩
        refine sg_X12_of_81 _ _ _ ⟨?_, rfl⟩
        rw [show 20 + 10 * k + 7 = 25 + 10 * k + 2 by omega, t2 k hkl 2 (by decide)]; simp [e, c0]
      · rintro _ _ ⟨rfl, rfl⟩
        refine sg_X12_of_88 _ _ _ ⟨?_, rfl⟩
        rw [t1 k hkl 2 (by decide)]; simp [e, c0]
      · rintro _ _ ⟨rfl, rfl⟩
        refine sg_X12_of_96 _ _ _ ⟨?_, rfl⟩
        rw [show 20 + 10 * k + 8 = 25 + 10 * k + 3 by omega, t2 k hkl 3 (by decide)]; simp [e, c0]
      · intros; exact ⟨by simp [*], rfl⟩
      · intro h; exact absurd h (by decide)
set_option maxHeartbeats 1000000 in
theorem sp_tell {l : Launch} {d c : Nat} {I : mx_I} (a b : Int32) {n : Nat} (hn : I 8 9 = nI n) (h20 : n ≤ 20) (hq : inR a 0 ((n : Int) - 1) = true) : mx_Spec l mX2_tell (d + 2) 0 0 [.ref 8, .int a, .int b] (sk0 c, I) (fun r h' => r = some (.int (if b = 0 then I 9 a.toNatClampNeg else if b = 1 then I 10 a.toNatClampNeg else if b = 2 then I 11 a.toNatClampNeg else if b = 3 then I 12 a.toNatClampNeg else if b = 4 then I 13 a.toNatClampNeg else if b = 5 then I 14 a.toNatClampNeg else if b = 6 then I 15 a.toNatClampNeg else if b = 7 then I 16 a.toNatClampNeg else if b = 11 then I 17 a.toNatClampNeg else -2)) ∧ h' = (sk0 c, I)) := by
  refine sn_X2_tell a b ⟨_, sp_hasC a hn h20, ?_⟩
  rintro _ _ ⟨rfl, rfl⟩
  rw [hq]
  obtain ⟨k, rfl, hk⟩ := i_of hq
  have hv : vp_in (nI k) 20 := i_vp (by omega) (by omega)
  refine sg_X2_tell_5 _ _ _ ?_ ?_ ?_ ?_ ?_ ?_ ?_ ?_ ?_ ?_ ?_ ?_ ?_ ?_ ?_ ?_ ?_ ?_ ?_ ?_ ?_ ?_ ?_ <;> intros <;> first | exact hv | (exact absurd ‹_› (by decide)) | exact ⟨by simp [*], rfl⟩
def f_who (I : mx_I) (a b : Int32) : Int32 := if inR a 0 ((I 8 9).toInt - 1) = true then (if b = 8 then I 40 a.toNatClampNeg else if b = 9 then I 41 a.toNatClampNeg else if b = 10 then I 42 a.toNatClampNeg else (if b = 0 then I 9 a.toNatClampNeg else if b = 1 then I 10 a.toNatClampNeg else if b = 2 then I 11 a.toNatClampNeg else if b = 3 then I 12 a.toNatClampNeg else if b = 4 then I 13 a.toNatClampNeg else if b = 5 then I 14 a.toNatClampNeg else if b = 6 then I 15 a.toNatClampNeg else if b = 7 then I 16 a.toNatClampNeg else if b = 11 then I 17 a.toNatClampNeg else -2)) else -2
set_option maxHeartbeats 1000000 in
theorem p_who {l : Launch} (a b : Int32) : mx_PrI l Sim mX11_who mX12_who [.int a, .int b] := by
  refine pr_read (fun _ I => f_who I a b) (fun c I hs => ?_) (fun c I hs => ?_)
  · obtain ⟨nb, now, nl, nc, no, ni, nk, hp, ⟨⟨-, -, -, -, h20, -⟩, ⟨a1, a2, a3, a4, -⟩, -⟩, -⟩ := hs.2.1
    have a4 : I 8 9 = nI nc := a4
    have e4 : (I 8 9).toInt = nc := by rw [a4]; exact nI_toInt (by omega)
    refine sn_X11_who a b ⟨_, sp_hasC a a4 h20, ?_⟩
    rintro _ _ ⟨rfl, rfl⟩
    unfold f_who
    rw [e4]
    cases hq : inR a 0 ((nc : Int) - 1) with
    | false => refine sg_X11_who_11 _ _ _ ?_ ?_ ?_ ?_ ?_ ?_ ?_ ?_ <;> intros <;> first | (exact absurd rfl ‹_›) | exact ⟨by simp, rfl⟩
    | true =>
      obtain ⟨k, hk0, hk⟩ := i_of hq
      have hv : vp_in a 20 := by rw [hk0]; exact i_vp (by omega) (by omega)
      refine sg_X11_who_11 _ _ _ (fun _ _ => hv) ?_ (fun _ _ => hv) ?_ (fun _ _ => hv) ?_ (fun _ n1 n2 n3 => ⟨_, sp_tell a b a4 h20 hq, ?_⟩) (fun h => absurd h (by decide))
      · intros; exact ⟨by simp [*], rfl⟩
      · intros; exact ⟨by simp [*], rfl⟩
      · intros; exact ⟨by simp [*], rfl⟩
      · rintro _ _ ⟨rfl, rfl⟩
        refine sg_X11_who_86 _ _ _ ⟨?_, rfl⟩
        simp only [n1, n2, n3, if_true, if_false]
  · obtain ⟨nb, now, nl, nc, no, ni, nk, hp, ⟨⟨-, -, -, -, h20, -⟩, ⟨a1, a2, a3, a4, -⟩, ⟨b1, b2, b3, b4, -⟩, -⟩, ⟨-, -, -, t4, t5, t6, -⟩, -⟩ := hs.2.1
    have a4 : I 8 9 = nI nc := a4
    have e4 : (I 8 9).toInt = nc := by rw [a4]; exact nI_toInt (by omega)
    refine sn_X12_who a b ⟨_, sp_isOne a b4 h20, ?_⟩
    rintro _ _ ⟨rfl, rfl⟩
    unfold f_who
    rw [e4]
    cases hq : inR a 0 ((nc : Int) - 1) with
    | false => exact sg_X12_who_5 _ _ _ (fun _ => ⟨by simp, rfl⟩) (fun h => absurd rfl h)
    | true =>
      obtain ⟨k, rfl, hk⟩ := i_of hq
      have hk20 : k < 20 := by omega
      have hkc : k < nc := by omega
      have c0 : (nI k).toNatClampNeg = k := nI_clamp (by omega)
      refine sg_X12_who_5 _ _ _ (fun h => absurd h (by decide)) (fun _ => ⟨_, sp_isIn _ _ _, ?_⟩)
      rintro _ _ ⟨rfl, rfl⟩
      cases hb : inR b (0 : Int32).toInt (11 : Int32).toInt with
      | false =>
        have hb' : ¬ (0 ≤ b.toInt ∧ b.toInt ≤ 11) := inR_f.mp hb
        refine sg_X12_who_15 _ _ _ (fun _ => ⟨?_, rfl⟩) (fun h => absurd rfl h)
        have nb : ∀ j : Nat, j ≤ 11 → b ≠ nI j := fun j hj e => hb' (by rw [e, nI_toInt (by omega)]; omega)
        have n0 : ¬ b = 0 := nb 0 (by omega)
        have n1 : ¬ b = 1 := nb 1 (by omega)
        have n2 : ¬ b = 2 := nb 2 (by omega)
        have n3 : ¬ b = 3 := nb 3 (by omega)
        have n4 : ¬ b = 4 := nb 4 (by omega)
        have n5 : ¬ b = 5 := nb 5 (by omega)
        have n6 : ¬ b = 6 := nb 6 (by omega)
        have n7 : ¬ b = 7 := nb 7 (by omega)
        have n8 : ¬ b = 8 := nb 8 (by omega)
        have n9 : ¬ b = 9 := nb 9 (by omega)
        have n10 : ¬ b = 10 := nb 10 (by omega)
        have n11 : ¬ b = 11 := nb 11 (by omega)
        rw [if_pos rfl, if_neg n8, if_neg n9, if_neg n10, if_neg n0, if_neg n1, if_neg n2, if_neg n3, if_neg n4, if_neg n5, if_neg n6, if_neg n7, if_neg n11]
      | true =>
        obtain ⟨j, rfl, hj⟩ := i_of hb
        have hj11 : j ≤ 11 := by have : (j : Int) ≤ 11 := hj; omega
        refine sg_X12_who_15 _ _ _ (fun h => absurd h (by decide)) (fun _ => ⟨_, sp_ofOne j rfl hk20 (by omega), ?_⟩)
        rintro _ _ ⟨rfl, rfl⟩
        refine sg_X12_who_24 _ _ _ ⟨?_, rfl⟩
        rw [c0, if_pos rfl]
        have q := t4 k hkc
        have q5 := t5 k hkc
        have q6 := t6 k hkc
        rcases (show j = 0 ∨ j = 1 ∨ j = 2 ∨ j = 3 ∨ j = 4 ∨ j = 5 ∨ j = 6 ∨ j = 7 ∨ j = 8 ∨ j = 9 ∨ j = 10 ∨ j = 11 by omega) with rfl | rfl | rfl | rfl | rfl | rfl | rfl | rfl | rfl | rfl | rfl | rfl
        · rw [q 0 (by decide)]; rfl
        · rw [q 1 (by decide)]; rfl
        · rw [q 2 (by decide)]; rfl
        · rw [q 3 (by decide)]; rfl
        · rw [q 4 (by decide)]; rfl
        · rw [q 5 (by decide)]; rfl
        · rw [q 6 (by decide)]; rfl
        · rw [q 7 (by decide)]; rfl
        · rw [show 320 + 14 * k + 8 = 328 + 14 * k + 0 by omega, q5 0 (by decide)]; rfl
        · rw [show 320 + 14 * k + 9 = 328 + 14 * k + 1 by omega, q5 1 (by decide)]; rfl
        · rw [show 320 + 14 * k + 10 = 328 + 14 * k + 2 by omega, q5 2 (by decide)]; rfl
        · rw [show 320 + 14 * k + 11 = 331 + 14 * k + 0 by omega, q6 0 (by decide)]; rfl
set_option maxHeartbeats 1000000 in
theorem p_book {l : Launch} (a b : Int32) : mx_PrI l Sim mX11_book mX12_book [.int a, .int b] := by
  refine pr_read (fun _ I => if inR a 0 ((I 43 3).toInt - 1) = true then (if b = 0 then I 44 a.toNatClampNeg else if b = 1 then I 45 a.toNatClampNeg else if b = 2 then I 46 a.toNatClampNeg else -1) else -1) (fun c I hs => ?_) (fun c I hs => ?_)
  · obtain ⟨nb, now, nl, nc, no, ni, nk, hp, ⟨⟨-, -, -, -, -, -, -, h300⟩, ⟨a1, a2, a3, a4, a5, a6, a7⟩, -⟩, -⟩ := hs.2.1
    have e7 : (I 43 3).toInt = nk := by rw [a7]; exact nI_toInt (by omega)
    have hv : ∀ (_ : ¬ a < 0) (_ : a < I 43 3), vp_in a 300 := fun h g => by
      rw [i_lt] at h g
      rw [e7] at g
      exact vp_in_iff.mpr ⟨by show (0 : Int) ≤ _; have : ¬ a.toInt < 0 := h; omega, by omega⟩
    have hq : ∀ (_ : ¬ a < 0) (_ : a < I 43 3), inR a 0 ((I 43 3).toInt - 1) = true := fun h g => by
      rw [i_lt] at h g
      have : ¬ a.toInt < 0 := h
      exact inR_t.mpr (by omega)
    have hz : (a < 0 ∨ ¬ a < I 43 3) → inR a 0 ((I 43 3).toInt - 1) = false := fun h => by
      rw [i_lt, i_lt] at h
      have : a.toInt < 0 ∨ ¬ a.toInt < (I 43 3).toInt := h
      exact inR_f.mpr (by omega)
    refine sn_X11_book a b (fun h => ⟨by rw [hz (Or.inl h)]; rfl, rfl⟩) (fun h g _ => hv h g) (fun h g e => ⟨by rw [hq h g]; simp [e], rfl⟩) (fun h g _ => hv h g) (fun h g e => ⟨by rw [hq h g]; simp [e], rfl⟩) (fun h g _ => hv h g) (fun h g e => ⟨by rw [hq h g]; simp [e], rfl⟩) (fun h g n1 n2 n3 => ⟨by rw [hq h g]; simp [n1, n2, n3], rfl⟩) (fun h g => ⟨by rw [hz (Or.inr g)]; rfl, rfl⟩)
  · obtain ⟨nb, now, nl, nc, no, ni, nk, hp, ⟨⟨-, -, -, -, -, -, -, h300⟩, ⟨a1, a2, a3, a4, a5, a6, a7⟩, ⟨b1, b2, b3, b4, b5, b6, b7⟩, -⟩, ⟨-, -, -, -, -, -, -, -, t9⟩, -⟩ := hs.2.1
    have e7 : (I 43 3).toInt = nk := by rw [a7]; exact nI_toInt (by omega)
    refine sn_X12_book a b ⟨_, sp_isIn _ _ _, ?_⟩
    rintro _ _ ⟨rfl, rfl⟩
    rw [b7, nI_sub1 (by omega), e7]
    cases hq : inR a (0 : Int32).toInt ((nk : Int) - 1) with
    | false =>
      have hq' : inR a 0 ((nk : Int) - 1) = false := hq
      exact sg_X12_book_14 _ _ _ (fun _ => ⟨by rw [hq']; rfl, rfl⟩) (fun h => absurd rfl h)
    | true =>
      have hq' : inR a 0 ((nk : Int) - 1) = true := hq
      obtain ⟨k, rfl, hk⟩ := i_of hq'
      have c0 : (nI k).toNatClampNeg = k := nI_clamp (by omega)
      have hkn : k < nk := by omega
      refine sg_X12_book_14 _ _ _ (fun h => absurd h (by decide)) (fun _ => ⟨_, sp_isIn _ _ _, ?_⟩)
      rintro _ _ ⟨rfl, rfl⟩
      cases hb : inR b (0 : Int32).toInt (2 : Int32).toInt with
      | false =>
        have hb' : ¬ (0 ≤ b.toInt ∧ b.toInt ≤ 2) := inR_f.mp hb
        refine sg_X12_book_23 _ _ _ (fun _ => ⟨?_, rfl⟩) (fun h => absurd rfl h) (fun h => absurd rfl h)
        have nb : ∀ j : Nat, j ≤ 2 → b ≠ nI j := fun j hj e => hb' (by rw [e, nI_toInt (by omega)]; omega)
        have n0 : ¬ b = 0 := nb 0 (by omega)
        have n1 : ¬ b = 1 := nb 1 (by omega)
        have n2 : ¬ b = 2 := nb 2 (by omega)
        rw [hq', if_pos rfl, if_neg n0, if_neg n1, if_neg n2]
      | true =>
        obtain ⟨j, rfl, hj⟩ := i_of hb
        have hj2 : j ≤ 2 := by have : (j : Int) ≤ 2 := hj; omega
        have ix : ((600 + (3 * nI k)) + nI j : Int32) = nI (600 + 3 * k + j) := by
          rw [show (600 : Int32) = nI 600 from rfl, show (3 : Int32) = nI 3 from rfl, pk_mul, nI_add, nI_add]
        refine sg_X12_book_23 _ _ _ (fun h => absurd h (by decide)) (fun _ => by rw [ix]; exact i_vp (by omega) (by omega)) (fun _ => ⟨?_, rfl⟩)
        rw [ix, nI_clamp (by omega), t9 k hkn j (by omega), c0, hq', if_pos rfl]
        rcases (show j = 0 ∨ j = 1 ∨ j = 2 by omega) with rfl | rfl | rfl <;> rfl
