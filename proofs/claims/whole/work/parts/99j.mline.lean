/-! the model's parser: a line -/
def gLine (nx : LX → LX) (K p : Nat) (L : LX) : Except (Nat × Nat) (LX × (Int32 × GSt)) :=
  if L.tk ≠ 2 ∧ L.tk ≠ 3 then .error (1, L.pl)
  else if 16 ≤ p then .error (3, L.pl)
  else if (nx L).tk = 4 then (match gCond nx K 0 0 (nx (nx L)) with
    | .error e => .error e
    | .ok (L2, s) => if L2.tk = 15 then .ok (nx L2, (if L.tk = 2 then 0 else 1, s)) else .error (1, L2.pl))
  else if (nx L).tk = 15 then .ok (nx (nx L), (if L.tk = 2 then 0 else 1, []))
  else .error (1, (nx L).pl)
theorem gLaw_ok {nx : LX → LX} {K m : Nat} {ps : lw_ps} {L L2 : LX} {q : Int32 × GSt} (t0 : L.tk ≠ 0) (h : gLine nx K ps.length L = .ok (L2, q)) : gLaw nx K (m + 1) ps L = gLaw nx K m (ps ++ [q]) L2 := by
  rw [gLaw, if_neg t0]
  unfold gLine at h
  by_cases a1 : L.tk ≠ 2 ∧ L.tk ≠ 3
  · rw [if_pos a1] at h; exact absurd h (by simp)
  rw [if_neg a1] at h ⊢
  by_cases a2 : 16 ≤ ps.length
  · rw [if_pos a2] at h; exact absurd h (by simp)
  rw [if_neg a2] at h ⊢
  by_cases a3 : (nx L).tk = 4
  · rw [if_pos a3] at h ⊢
    cases hc : gCond nx K 0 0 (nx (nx L)) with
    | error e => rw [hc] at h; exact absurd h (by simp)
    | ok p =>
      obtain ⟨L3, s⟩ := p
      rw [hc] at h
      simp only at h ⊢
      by_cases a4 : L3.tk = 15
      · rw [if_pos a4] at h ⊢
        cases h; rfl
      · rw [if_neg a4] at h; exact absurd h (by simp)
  rw [if_neg a3] at h ⊢
  by_cases a4 : (nx L).tk = 15
  · rw [if_pos a4] at h ⊢
    cases h; rfl
  · rw [if_neg a4] at h; exact absurd h (by simp)
theorem gLaw_er {nx : LX → LX} {K m : Nat} {ps : lw_ps} {L : LX} {e : Nat × Nat} (t0 : L.tk ≠ 0) (h : gLine nx K ps.length L = .error e) : gLaw nx K (m + 1) ps L = .error e := by
  rw [gLaw, if_neg t0]
  unfold gLine at h
  by_cases a1 : L.tk ≠ 2 ∧ L.tk ≠ 3
  · rw [if_pos a1] at h ⊢; cases h; rfl
  rw [if_neg a1] at h ⊢
  by_cases a2 : 16 ≤ ps.length
  · rw [if_pos a2] at h ⊢; cases h; rfl
  rw [if_neg a2] at h ⊢
  by_cases a3 : (nx L).tk = 4
  · rw [if_pos a3] at h ⊢
    cases hc : gCond nx K 0 0 (nx (nx L)) with
    | error e => rw [hc] at h; cases h; rfl
    | ok p =>
      obtain ⟨L3, s⟩ := p
      rw [hc] at h
      simp only at h ⊢
      by_cases a4 : L3.tk = 15
      · rw [if_pos a4] at h; exact absurd h (by simp)
      · rw [if_neg a4] at h ⊢; cases h; rfl
  rw [if_neg a3] at h ⊢
  by_cases a4 : (nx L).tk = 15
  · rw [if_pos a4] at h; exact absurd h (by simp)
  · rw [if_neg a4] at h ⊢; cases h; rfl
theorem all_app (a c : lw_ps) : lw_all (a ++ c) = lw_all a ++ lw_all c := by
  unfold lw_all
  rw [List.flatMap_append]
theorem all_one (w : Int32) (s : GSt) : lw_all [(w, s)] = s := by
  unfold lw_all
  simp
def LnM (ps : lw_ps) (f : Nat → Int32) : Prop := ∀ i, i < ps.length → f (3 * i) = (ps.getD i (0, [])).1 ∧ f (3 * i + 1) = nI (lw_all (ps.take i)).length ∧ f (3 * i + 2) = nI (lw_all (ps.take (i + 1))).length
theorem LnM.snoc {ps : lw_ps} {f : Nat → Int32} (h : LnM ps f) (w : Int32) (s : GSt) : LnM (ps ++ [(w, s)]) (upd (upd (upd f (3 * ps.length) w) (3 * ps.length + 1) (nI (lw_all ps).length)) (3 * ps.length + 2) (nI (lw_all ps ++ s).length)) := by
  intro i hi
  rw [List.length_append] at hi
  have hi' : i < ps.length + 1 := hi
  by_cases q : i = ps.length
  · subst q
    rw [upd_ne (by omega), upd_ne (by omega), upd_eq, upd_ne (by omega), upd_eq, upd_eq, getD_l, List.take_append_of_le_length (Nat.le_refl _), List.take_of_length_le (Nat.le_refl ps.length), List.take_of_length_le (by rw [List.length_append]; exact Nat.le_refl _), all_app, all_one]
    exact ⟨rfl, rfl, rfl⟩
  · rw [upd_ne (by omega), upd_ne (by omega), upd_ne (by omega), upd_ne (by omega), upd_ne (by omega), upd_ne (by omega), upd_ne (by omega), upd_ne (by omega), upd_ne (by omega), getD_i _ _ _ (by omega), List.take_append_of_le_length (by omega), List.take_append_of_le_length (by omega)]
    exact h i (by omega)
def FrQ (I J : mx_I) : Prop := (∀ k, k ≠ 120 → k ≠ 124 → k ≠ 125 → J k = I k) ∧ ∀ f, f ≠ 10 → f < 12 ∨ 17 < f → f ≠ 19 → J 120 f = I 120 f
theorem FrQ.trans {I J K : mx_I} (h1 : FrQ I J) (h2 : FrQ J K) : FrQ I K := ⟨fun k a b e => (h2.1 k a b e).trans (h1.1 k a b e), fun f a b e => (h2.2 f a b e).trans (h1.2 f a b e)⟩
theorem FrP.q {I J : mx_I} (h : FrP I J) : FrQ I J := ⟨fun k a _ b => h.1 k a b, h.2⟩
theorem FrQ.set {I : mx_I} {i : Nat} {x : Int32} : FrQ I (mx_set I 124 i x) := ⟨fun k _ a _ => ms_ne a, fun f _ _ _ => by rw [ms_ne (by omega)]⟩
theorem mtk_ln : ∀ t, t < 26 → ((20 ≤ mtk t ∧ mtk t ≤ 21) ↔ (t = 2 ∨ t = 3)) := by decide +kernel
section M
variable {b : Nat → Nat} {n : Nat} {l : Launch} {c : Nat}
theorem Mst.fl {L : LX} {s : GSt} {dp i : Nat} {x : Int32} {I : mx_I} (h : Mst b n L s dp I) : Mst b n L s dp (mx_set I 124 i x) := by
  obtain ⟨⟨t1, t2, t3⟩, ⟨k1, k2, k3, k4, k5⟩, ⟨h3, h3'⟩, h4, h5, h6⟩ := h
  refine ⟨⟨t1, by rw [ms_ne (by omega)]; exact t2, fun i hi => by rw [ms_ne (by omega)]; exact t3 i hi⟩, ⟨k1, by rw [ms_ne (by omega)]; exact k2, by rw [ms_ne (by omega)]; exact k3, by rw [ms_ne (by omega)]; exact k4, fun z => by rw [ms_ne (by omega)]; exact k5 z⟩, ⟨by rw [ms_ne (by omega)]; exact h3, fun i hi => by rw [ms_ne (by omega)]; exact h3' i hi⟩, by rw [ms_ne (by omega)]; exact h4, h5, by rw [ms_ne (by omega)]; exact h6⟩
def LnQ (c : Nat) (b : Nat → Nat) (n : Nat) (ps : lw_ps) (L : LX) (I : mx_I) (g : Except (Nat × Nat) (LX × (Int32 × GSt))) (r : Option Value) (h' : mx_H) : Prop := ∃ J, h' = (sk0 c, J) ∧ FrQ I J ∧ ((∃ L2 q, g = .ok (L2, q) ∧ r = some (.int 1) ∧ (∃ dp', Mst b n L2 (lw_all (ps ++ [q])) dp' J) ∧ LnM (ps ++ [q]) (J 124) ∧ Vok L2 ∧ (lw_all (ps ++ [q])).length + msL n L2 ≤ (lw_all ps).length + msL n L ∧ msL n L2 < msL n L ∧ ps.length < 16) ∨ (∃ e, g = .error e ∧ r = some (.int 0) ∧ J 120 16 = nI e.1 ∧ J 120 17 = nI e.2))
set_option maxHeartbeats 1000000 in
theorem sp_aLineM {D K dp : Nat} {L : LX} {ps : lw_ps} {I : mx_I} (hD : 39 ≤ D) (h : Mst b n L (lw_all ps) dp I) (h9 : I 120 9 = nI ps.length) (hl : LnM ps (I 124)) (h16 : ps.length ≤ 16) (hb : (lw_all ps).length + msL n L ≤ 402) (hK : 4 * msL n L + 4 ≤ K) (t0 : L.tk ≠ 0) : mx_Spec l mX12_aLine D 0 0 [.ref 120] (sk0 c, I) (LnQ c b n ps L I (gLine (nxL b n) K ps.length L)) := by
  obtain ⟨d, rfl⟩ : ∃ d, D = d + 1 + 1 := ⟨D - 2, by omega⟩
  have hx := lexy b n
  have ht := h.2.1
  have tk25 := ht.1
  have hl1 := hx.1 L t0
  have hin : inR (I 120 13) (20 : Int32).toInt (21 : Int32).toInt = decide (L.tk = 2 ∨ L.tk = 3) := by
    show inR (I 120 13) 20 21 = _
    rw [ht.2.2.1, show inR (nI (mtk L.tk)) 20 21 = decide (20 ≤ mtk L.tk ∧ mtk L.tk ≤ 21) from inR_nI (lo := 20) (hi := 21) (by have := mtk_lt L.tk (by omega); omega)]
    exact decide_eq_decide.mpr (mtk_ln L.tk (by omega))
  obtain ⟨g, hgd⟩ : ∃ g, g = gLine (nxL b n) K ps.length L := ⟨_, rfl⟩
  have hg := hgd
  unfold gLine at hg
  rw [← hgd]
  have e16 : nI ps.length = 16 ↔ ps.length = 16 := (nI_255 (by omega) (y := 16) (by omega)).2.2
  refine sn_X12_aLine ⟨_, sp_isIn _ _ _, ?_⟩
  rintro _ _ ⟨rfl, rfl⟩
  rw [hin]
  have er : ∀ {e : Nat × Nat} {J : mx_I}, FrQ I J → g = .error e → J 120 16 = nI e.1 → J 120 17 = nI e.2 → LnQ c b n ps L I g (some (.int 0)) (sk0 c, J) := fun {e J} hF hge j1 j2 => ⟨J, rfl, hF, Or.inr ⟨e, hge, rfl, j1, j2⟩⟩
  have S := fun Q => @sg_X12_aLine_11 l (d + 1) Q c I (b2i (decide (L.tk = 2 ∨ L.tk = 3)))
  rw [h9, show (3 : Int32) = nI 3 from rfl, pk_mul, nI_clamp (n := 3 * ps.length) (by omega)] at S
  refine S _ (fun _ z => i_vp (by have : ¬ ps.length = 16 := fun w => z (e16.mpr w); omega) (by omega)) (fun z1 z2 => ?_) (fun z1 z2 => ?_) (fun z1 => ?_)
  · have tt := of_decide_eq_true (b2i_nz z1)
    have p16 : ps.length < 16 := by have : ¬ ps.length = 16 := fun w => z2 (e16.mpr w); omega
    rw [if_neg (by omega), if_neg (by omega)] at hg
    obtain ⟨w, hw⟩ : ∃ w : Int32, w = if L.tk = 2 then 0 else 1 := ⟨_, rfl⟩
    have hw20 : I 120 13 - 20 = w := by
      rw [ht.2.2.1, hw]
      rcases tt with q | q
      · rw [q]; decide
      · rw [q]; decide
    rw [hw20]
    rw [← hw] at hg
    have hM0 : Mst b n L (lw_all ps) 0 (mx_set (mx_set I 124 (3 * ps.length) w) 120 19 0) := Mst.dpt (dp' := 0) h.fl
    refine nx_K (by omega) hM0 (fun J hF hM => ?_)
    have fJ : FrQ I J := (FrQ.set.trans (FrP.set (by omega)).q).trans hF.q
    have r124 : J 124 = upd (I 124) (3 * ps.length) w := by rw [hF.1 124 (by omega) (by omega), ms_ne (by omega), ms_self]
    have j9 : J 120 9 = nI ps.length := by rw [fJ.2 9 (by omega) (by omega) (by omega)]; exact h9
    have j10 : J 120 10 = nI (lw_all ps).length := hM.2.2.1.1
    have f4 := hM.2.1.eq (y := 4) (x := 3) (by omega) rfl
    have S2 := fun Q => @sg_X12_aLine_62 l (d + 1) Q c J
    rw [j9, show (3 : Int32) = nI 3 from rfl, pk_mul, nI_1, show (2 : Int32) = nI 2 from rfl, nI_add, nI_clamp (n := 3 * ps.length + 1) (by omega), nI_clamp (n := 3 * ps.length + 2) (by omega), j10] at S2
    refine S2 _ (i_vp (by omega) (by omega)) (fun _ => i_vp (by omega) (by omega)) (fun n4 => ?_) (fun y4 => ?_)
    · have t4 : ¬ (nxL b n L).tk = 4 := fun w => n4 (f4.mpr w)
      rw [if_neg t4] at hg
      refine need_K (y := 15) (by omega) (hM.fl.fl) (by omega) rfl (fun n15 N hN j1 j2 => ?_) (fun y15 N hN hMN => ?_)
      · rw [if_neg n15] at hg
        exact sg_X12_aLine_124 _ (er ((fJ.trans (FrQ.set.trans FrQ.set)).trans hN.q) hg j1 j2) (Or.inl rfl)
      · rw [if_pos y15] at hg
        have hl2 := hx.1 (nxL b n L) (by omega)
        have ea : lw_all (ps ++ [(w, [])]) = lw_all ps := by rw [all_app, all_one, List.append_nil]
        refine sg_X12_aLine_124 _ ⟨N, rfl, (fJ.trans (FrQ.set.trans FrQ.set)).trans hN.q, Or.inl ⟨_, _, hg, rfl, ⟨0, by rw [ea]; exact hMN⟩, ?_, hx.2 _, by rw [ea]; omega, by omega, p16⟩⟩ (Or.inr rfl)
        rw [hN.1 124 (by omega) (by omega), ms_self, ms_self, r124]
        have := hl.snoc w []
        rw [List.append_nil] at this
        exact this
    · have t4 := f4.mp y4
      rw [if_pos t4] at hg
      have hl2 := hx.1 (nxL b n L) (by omega)
      refine nx_K (by omega) hM.fl (fun U hU hMU => ?_)
      refine sg_X12_aLine_91 ⟨_, (mcond K).1 0 (nxL b n (nxL b n L)) (lw_all ps) U (d + 1) (by omega) (by omega) (by omega) (hx.2 _) hMU (by omega), ?_⟩
      rintro _ _ ⟨V, rfl, hV, (⟨L1, s1, hc, rfl, hM1⟩ | ⟨e, hc, rfl, k1, k2⟩)⟩
      · obtain ⟨a1, a2, -⟩ := g_cond hx K (q := 0) (d := 0) (T := []) (by omega) (by omega) (by show 0 ≤ _; omega) (hx.2 _) hc
        have a3 := encs_len s1
        rw [hc] at hg
        simp only at hg
        have fV : FrQ I V := ((fJ.trans FrQ.set).trans hU.q).trans hV.q
        have v9 : V 120 9 = nI ps.length := by rw [fV.2 9 (by omega) (by omega) (by omega)]; exact h9
        have v10 : V 120 10 = nI (lw_all ps ++ s1).length := hM1.2.2.1.1
        have S3 := fun Q => @sg_X12_aLine_95 l (d + 1) Q c V 1
        rw [v9, show (3 : Int32) = nI 3 from rfl, pk_mul, show (2 : Int32) = nI 2 from rfl, nI_add, nI_clamp (n := 3 * ps.length + 2) (by omega), v10] at S3
        refine S3 _ (fun _ => i_vp (by omega) (by omega)) (fun _ => ?_) (fun z => absurd z (by decide))
        refine need_K (y := 15) (by omega) hM1.fl (by omega) rfl (fun n15 N hN j1 j2 => ?_) (fun y15 N hN hMN => ?_)
        · rw [if_neg n15] at hg
          exact sg_X12_aLine_124 _ (er ((fV.trans FrQ.set).trans hN.q) hg j1 j2) (Or.inl rfl)
        · rw [if_pos y15] at hg
          have hl3 := hx.1 L1 (by omega)
          have ea : lw_all (ps ++ [(w, s1)]) = lw_all ps ++ s1 := by rw [all_app, all_one]
          refine sg_X12_aLine_124 _ ⟨N, rfl, (fV.trans FrQ.set).trans hN.q, Or.inl ⟨_, _, hg, rfl, ⟨0, by rw [ea]; exact hMN⟩, ?_, hx.2 _, by rw [ea, List.length_append]; omega, by omega, p16⟩⟩ (Or.inr rfl)
          rw [hN.1 124 (by omega) (by omega), ms_self, hV.1 124 (by omega) (by omega), hU.1 124 (by omega) (by omega), ms_self, r124]
          exact hl.snoc w s1
      · rw [hc] at hg
        exact sg_X12_aLine_95 _ (fun z => absurd rfl z) (fun z => absurd rfl z) (fun _ => er (((fJ.trans FrQ.set).trans hU.q).trans hV.q) hg k1 k2)
  · have tt := of_decide_eq_true (b2i_nz z1)
    rw [if_neg (by omega), if_pos (by have := e16.mp z2; omega)] at hg
    exact bad_K (k := 3) (by omega) h rfl (fun J hF j1 j2 => sg_X12_aLine_34 _ (er hF.q hg j1 j2) (Or.inl rfl))
  · have tt := of_decide_eq_false (b2i_0.mp z1)
    rw [if_pos (by omega)] at hg
    exact bad_K (k := 1) (by omega) h rfl (fun J hF j1 j2 => sg_X12_aLine_19 _ (er hF.q hg j1 j2) (Or.inl rfl))
end M
