/-! what stands at the law's entry -/
def mx_sc (i : Nat) : List Cond :=
  [.exactly (.string (mx_strs.getD i ("", 0, "")).1 (mx_strs.getD i ("", 0, "")).2.1) "java/lang/String", .eq (.field (.string (mx_strs.getD i ("", 0, "")).1 (mx_strs.getD i ("", 0, "")).2.1) "java/lang/String" "coder" "B") (.int 0),
   .arrayOf (.field (.string (mx_strs.getD i ("", 0, "")).1 (mx_strs.getD i ("", 0, "")).2.1) "java/lang/String" "value" "[B") .byte, .eq (.length (.field (.string (mx_strs.getD i ("", 0, "")).1 (mx_strs.getD i ("", 0, "")).2.1) "java/lang/String" "value" "[B")) (.int (Int32.ofNat (mx_slen.getD i 0)))]
  ++ (List.range (mx_slen.getD i 0)).map (fun j => .eq (.elem (.field (.string (mx_strs.getD i ("", 0, "")).1 (mx_strs.getD i ("", 0, "")).2.1) "java/lang/String" "value" "[B") (.int (Int32.ofNat j))) (.int ((mx_sbyt.getD i []).getD j 0)))
theorem mx_sc_in : ∀ i, i < 27 → ∀ w ∈ mx_sc i, w ∈ flatC (Jvm.Cond.and given_1 narrow_1) := by decide +kernel
theorem mx_strs_in : ∀ e ∈ mx_strs, Cond.stringRef e.1 e.2.1 e.2.2 ∈ lw_tbl := by decide +kernel
theorem mx_nest_in : ∀ e ∈ mx_nest, mx_nestW e ∈ lw_tbl := by decide +kernel
theorem mx_cs_in : Cond.eq (.static "java/lang/String" "COMPACT_STRINGS" "Z") (.int 1) ∈ flatC (Jvm.Cond.and given_1 narrow_1) := by decide +kernel
theorem mx_ls_in : Cond.laysStatic "java/lang/String" "COMPACT_STRINGS" "Z" ∈ lw_tbl := by decide +kernel
theorem mx_is_in : Cond.initialized "java/lang/String" ∈ lw_tbl := by decide +kernel
theorem mx_lf_in : Cond.laysStatic "jdk/internal/util/Preconditions" "SIOOBE_FORMATTER" "Ljava/util/function/BiFunction;" ∈ lw_tbl := by decide +kernel
theorem mx_if_in : Cond.initialized "jdk/internal/util/Preconditions" ∈ lw_tbl := by decide +kernel
theorem mx_rf_in : Cond.isRef (.static "jdk/internal/util/Preconditions" "SIOOBE_FORMATTER" "Ljava/util/function/BiFunction;") ∈ flatC (Jvm.Cond.and given_1 narrow_1) := by decide +kernel
theorem mx_ac_in : Cond.arrayClass .int ∈ lw_tbl := by decide +kernel
theorem mx_g_sub {w : Cond} (h : w ∈ mx_g) : w ∈ lw_tbl := (List.mem_filter.mp h).1
theorem mx_str1 {args : Array Value} {s : State} (i : Nat) (hi : i < 27) (hs : ∀ c ∈ flatC (Jvm.Cond.and given_1 narrow_1), c.before args s = true) {A : Nat → Prop} (hA : ∀ a : Nat, a < s.heap.size → ¬ A a) :
    ∃ q : Nat × Nat, vk_S 1 [mx_slen.getD i 0] [mx_sbyt.getD i []] (fun _ => q.1) (fun _ => q.2) A s s.heap ∧ (Term.string (mx_strs.getD i ("", 0, "")).1 (mx_strs.getD i ("", 0, "")).2.1).eval args s none [] s = some (.ref q.1) := by
  have hw : ∀ w ∈ mx_sc i, w.before args s = true := fun w h => hs w (mx_sc_in i hi w h)
  have hlen : mx_slen.getD i 0 < 2 ^ 31 := (show ∀ i, i < 27 → mx_slen.getD i 0 < 2 ^ 31 by decide +kernel) i hi
  obtain ⟨adK, adV, h1, h2⟩ := vk_Sof (args := args) (s := s) (N := 1) (tm := fun _ => Term.string (mx_strs.getD i ("", 0, "")).1 (mx_strs.getD i ("", 0, "")).2.1) (len := [mx_slen.getD i 0]) (byt := [mx_sbyt.getD i []]) (A := A)
    (fun j hj => by have : j = 0 := by omega
                    subst this; exact hlen)
    (fun j hj => hw _ (by simp [mx_sc])) (fun j hj => hw _ (by simp [mx_sc])) (fun j hj => hw _ (by simp [mx_sc]))
    (fun j hj => by have : j = 0 := by omega
                    subst this; exact hw _ (by simp [mx_sc]))
    (fun j hj q hq => by have : j = 0 := by omega
                         subst this; exact hw _ (List.mem_append_right _ (List.mem_map.mpr ⟨q, List.mem_range.mpr hq, rfl⟩)))
    (fun a b ha hb hab => by omega) hA
  have e0 : ∀ (f : Nat → Nat) (g : Nat → Nat), vk_S 1 [mx_slen.getD i 0] [mx_sbyt.getD i []] f g A s s.heap → vk_S 1 [mx_slen.getD i 0] [mx_sbyt.getD i []] (fun _ => f 0) (fun _ => g 0) A s s.heap := by
    intro f g h
    refine ⟨fun j hj => ?_, fun a b ha hb _ => by omega⟩
    have : j = 0 := by omega
    subst this
    exact h.1 0 (by omega)
  exact ⟨(adK 0, adV 0), e0 _ _ h1, h2 0 (by omega)⟩
theorem mx_classes {args : Array Value} {s : State} (hts : ∀ w ∈ mx_g, w.before args s = true) : ∀ k : Nat, ∃ x : ClassId × (Nat → Nat), ∀ q : vw_C, vwCl[k]? = some q → u_Kn s q.1 q.2.1 q.2.2 x.1 x.2 := by
  intro k
  match k with
  | 0 =>
    obtain ⟨c0, i0, h⟩ := u_known (C := RX0) (T := TX0) (N := 4) (n := 4) hts inX0 (hts _ lin_X0)
    exact ⟨(c0, i0), fun q hq => by cases hq; exact h⟩
  | 1 =>
    obtain ⟨c0, i0, h⟩ := u_known (C := RX1) (T := TX1) (N := 16) (n := 16) hts inX1 (hts _ lin_X1)
    exact ⟨(c0, i0), fun q hq => by cases hq; exact h⟩
  | 2 =>
    obtain ⟨c0, i0, h⟩ := u_known (C := RX2) (T := TX2) (N := 10) (n := 10) hts inX2 (hts _ lin_X2)
    exact ⟨(c0, i0), fun q hq => by cases hq; exact h⟩
  | 3 =>
    obtain ⟨c0, i0, h⟩ := u_known (C := RX3) (T := TX3) (N := 6) (n := 6) hts inX3 (hts _ lin_X3)
    exact ⟨(c0, i0), fun q hq => by cases hq; exact h⟩
  | 4 =>
    obtain ⟨c0, i0, h⟩ := u_known (C := RX4) (T := TX4) (N := 4) (n := 4) hts inX4 (hts _ lin_X4)
    exact ⟨(c0, i0), fun q hq => by cases hq; exact h⟩
  | 5 =>
    obtain ⟨c0, i0, h⟩ := u_known (C := RX5) (T := TX5) (N := 6) (n := 6) hts inX5 (hts _ lin_X5)
    exact ⟨(c0, i0), fun q hq => by cases hq; exact h⟩
  | 6 =>
    obtain ⟨c0, i0, h⟩ := u_known (C := RX6) (T := TX6) (N := 6) (n := 6) hts inX6 (hts _ lin_X6)
    exact ⟨(c0, i0), fun q hq => by cases hq; exact h⟩
  | 7 =>
    obtain ⟨c0, i0, h⟩ := u_known (C := RX7) (T := TX7) (N := 5) (n := 5) hts inX7 (hts _ lin_X7)
    exact ⟨(c0, i0), fun q hq => by cases hq; exact h⟩
  | 8 =>
    obtain ⟨c0, i0, h⟩ := u_known (C := RX8) (T := TX8) (N := 15) (n := 15) hts inX8 (hts _ lin_X8)
    exact ⟨(c0, i0), fun q hq => by cases hq; exact h⟩
  | 9 =>
    obtain ⟨c0, i0, h⟩ := u_known (C := RX9) (T := TX9) (N := 11) (n := 11) hts inX9 (hts _ lin_X9)
    exact ⟨(c0, i0), fun q hq => by cases hq; exact h⟩
  | 10 =>
    obtain ⟨c0, i0, h⟩ := u_known (C := RX10) (T := TX10) (N := 8) (n := 8) hts inX10 (hts _ lin_X10)
    exact ⟨(c0, i0), fun q hq => by cases hq; exact h⟩
  | 11 =>
    obtain ⟨c0, i0, h⟩ := u_known (C := RX11) (T := TX11) (N := 10) (n := 10) hts inX11 (hts _ lin_X11)
    exact ⟨(c0, i0), fun q hq => by cases hq; exact h⟩
  | 12 =>
    obtain ⟨c0, i0, h⟩ := u_known (C := RX12) (T := TX12) (N := 33) (n := 33) hts inX12 (hts _ lin_X12)
    exact ⟨(c0, i0), fun q hq => by cases hq; exact h⟩
  | k + 13 => exact ⟨(default, fun _ => 0), fun q hq => by simp [vwCl] at hq⟩
theorem mx_start {args : Array Value} {s : State} {b L : Nat} {xs : Nat → Int32} (hts : ∀ w ∈ lw_tbl, w.before args s = true) (hX : va_X b L xs s s.heap) (hbl : b < s.heap.size) (hgv : (Jvm.Cond.and given_1 narrow_1).before args s = true) :
    ∃ G : mx_G, G.2.2.1 = s.heap.size ∧ G.2.2.2.1 1000 = b ∧ G.2.2.2.2.1 = L ∧ G.2.2.2.2.2 = xs ∧ mx_K G s := by
  have hg : ∀ w ∈ mx_g, w.before args s = true := fun w h => hts w (mx_g_sub h)
  have hs := flat_of_before _ hgv
  obtain ⟨dx, hdx⟩ := Classical.axiomOfChoice (mx_classes hg)
  obtain ⟨cA, kA, comp, hnm, hkA, hkd⟩ := Cond.arrayClass_spec (hts _ mx_ac_in)
  have hstr : ∀ i : Nat, ∃ q : Nat × Nat, i < 27 → vk_S 1 [mx_slen.getD i 0] [mx_sbyt.getD i []] (fun _ => q.1) (fun _ => q.2) (fun q => s.heap.size ≤ q) s s.heap ∧ (Term.string (mx_strs.getD i ("", 0, "")).1 (mx_strs.getD i ("", 0, "")).2.1).eval args s none [] s = some (.ref q.1) := by
    intro i
    by_cases hi : i < 27
    · obtain ⟨q, hq⟩ := mx_str1 i hi hs (A := fun q => s.heap.size ≤ q) (fun a h1 h2 => Nat.not_lt.mpr h2 h1)
      exact ⟨q, fun _ => hq⟩
    · exact ⟨(0, 0), fun h => absurd h hi⟩
  obtain ⟨ad, had⟩ := Classical.axiomOfChoice hstr
  have hzq := va_Zqof (A := fun q => s.heap.size ≤ q) (hts _ mx_lf_in) (hts _ mx_if_in) (hs _ mx_rf_in) (fun a h1 h2 => Nat.not_lt.mpr h2 h1)
  obtain ⟨rf, hrf⟩ : ∃ rf : Nat, va_Z "jdk/internal/util/Preconditions" "SIOOBE_FORMATTER" "Ljava/util/function/BiFunction;" .null (fun q => s.heap.size ≤ q) s s.heap ∨ va_Z "jdk/internal/util/Preconditions" "SIOOBE_FORMATTER" "Ljava/util/function/BiFunction;" (.ref rf) (fun q => s.heap.size ≤ q) s s.heap := by
    rcases hzq with h | ⟨t, h⟩
    · exact ⟨0, Or.inl h⟩
    · exact ⟨t, Or.inr h⟩
  refine ⟨((fun k => (dx k).1, fun k => (dx k).2), cA, s.heap.size, fun k => if k = 3000 then rf else if k = 1000 then b else if k < 2001 then (ad (k - 1001)).1 else (ad (k - 2001)).2, L, xs), rfl, rfl, rfl, rfl, ?_⟩
  refine ⟨⟨fun k q hq => hdx k q hq, fun k q hq => ?_⟩, hX, hbl, Nat.le_refl _, fun i hi => ?_, fun i e he => ?_, fun e he => va_Nw.of rfl (hts _ (mx_nest_in e he)), va_Zof (hts _ mx_ls_in) (hts _ mx_is_in) (va_eqi (hs _ mx_cs_in)) (fun a h1 h2 => Nat.not_lt.mpr h2 h1), hrf⟩
  · have hk0 : k = 0 := by
      have := (List.getElem?_eq_some_iff.mp hq).1
      simp at this
      exact this
    subst hk0
    cases hq
    exact ⟨fun n z => ⟨fun k h => (by cases h), kA, hkA, comp, hkd⟩, hnm⟩
  · have e1 : ¬ (1001 + i = 1000) := by omega
    have e2 : 1001 + i < 2001 := by omega
    have e3 : ¬ (2001 + i = 1000) := by omega
    have e4 : ¬ (2001 + i < 2001) := by omega
    have e5 : 1001 + i - 1001 = i := Nat.add_sub_cancel_left _ _
    have e6 : 2001 + i - 2001 = i := Nat.add_sub_cancel_left _ _
    have e8 : ¬ (1001 + i = 3000) := by omega
    have e9 : ¬ (2001 + i = 3000) := by omega
    simp only [e1, e2, e3, e4, e5, e6, e8, e9, if_true, if_false]
    exact (had i hi).1
  · have hi : i < 27 := (List.getElem?_eq_some_iff.mp he).1
    have e1 : ¬ (1001 + i = 1000) := by omega
    have e2 : 1001 + i < 2001 := by omega
    have e5 : 1001 + i - 1001 = i := Nat.add_sub_cancel_left _ _
    have e8 : ¬ (1001 + i = 3000) := by omega
    simp only [e1, e2, e5, e8, if_true, if_false]
    have h9 := (had i hi).2
    have e7 : mx_strs.getD i ("", 0, "") = e := by rw [List.getD_eq_getElem?_getD, he]; rfl
    rw [e7] at h9
    exact vk_R.of (hts _ (mx_strs_in e (List.mem_of_getElem? he))) h9
