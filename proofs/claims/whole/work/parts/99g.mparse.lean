/-! the model's parser: its small pieces -/
theorem enc_pos (p : Nat × Int32) : 1 ≤ (lw_enc p).length := by
  obtain ⟨k, v⟩ := p
  unfold lw_enc
  split <;> simp
theorem encs_len : ∀ s : GSt, s.length ≤ (encs s).length
  | [] => Nat.le_refl _
  | p :: s => by
    have h1 := enc_pos p
    have h2 := encs_len s
    rw [encs_cons, List.length_append]
    show s.length + 1 ≤ _
    omega
/-- the steps laid so far (what stands beside a name is of no account) -/
def Stps (s : GSt) (I : mx_I) : Prop := I 120 10 = nI s.length ∧ ∀ i, i < s.length → I 125 (2 * i) = nI (s.getD i (0, 0)).1 ∧ (¬ (1 ≤ (s.getD i (0, 0)).1 ∧ (s.getD i (0, 0)).1 ≤ 7) → I 125 (2 * i + 1) = (s.getD i (0, 0)).2)
def Mst (b : Nat → Nat) (n : Nat) (L : LX) (s : GSt) (dp : Nat) (I : mx_I) : Prop := TpM b n I ∧ TkM L I ∧ Stps s I ∧ I 120 19 = nI dp ∧ L.1 ≤ n ∧ I 120 16 = 0
def FrP (I J : mx_I) : Prop := (∀ k, k ≠ 120 → k ≠ 125 → J k = I k) ∧ ∀ f, f ≠ 10 → f < 12 ∨ 17 < f → f ≠ 19 → J 120 f = I 120 f
theorem FrP.refl {I : mx_I} : FrP I I := ⟨fun _ _ _ => rfl, fun _ _ _ _ => rfl⟩
theorem FrP.trans {I J K : mx_I} (h1 : FrP I J) (h2 : FrP J K) : FrP I K := ⟨fun k a b => (h2.1 k a b).trans (h1.1 k a b), fun f a b e => (h2.2 f a b e).trans (h1.2 f a b e)⟩
theorem FrN.p {I J : mx_I} (h : FrN I J) : FrP I J := ⟨fun k a _ => h.1 k a, fun f _ b _ => h.2 f (by omega)⟩
theorem FrP.set {I : mx_I} {f : Nat} {x : Int32} (h : f = 10 ∨ (12 ≤ f ∧ f ≤ 17) ∨ f = 19) : FrP I (mx_set I 120 f x) := ⟨fun k a _ => ms_ne a, fun g a b e => ms_at (Or.inr (by omega))⟩
theorem FrP.lay {I : mx_I} {i : Nat} {x : Int32} : FrP I (mx_set I 125 i x) := ⟨fun k _ a => ms_ne a, fun g _ _ _ => by rw [ms_ne (by omega)]⟩
section M
variable {b : Nat → Nat} {n : Nat} {L : LX} {s : GSt} {dp : Nat} {I : mx_I} {l : Launch} {c : Nat}
theorem Mst.next {J : mx_I} (h : Mst b n L s dp I) (hF : FrN I J) (ht : TkM (nxL b n L) J) : Mst b n (nxL b n L) s dp J := by
  obtain ⟨h1, h2, ⟨h3, h3'⟩, h4, h5, h6⟩ := h
  exact ⟨hF.tp h1, ht, ⟨by rw [hF.2 10 (by omega)]; exact h3, fun i hi => by rw [hF.1 125 (by omega)]; exact h3' i hi⟩, by rw [hF.2 19 (by omega)]; exact h4, (nx_on h5).1, by rw [hF.2 16 (by omega)]; exact h6⟩
theorem Mst.dpt {dp' : Nat} (h : Mst b n L s dp I) : Mst b n L s dp' (mx_set I 120 19 (nI dp')) := by
  obtain ⟨⟨t1, t2, t3⟩, ⟨k1, k2, k3, k4, k5⟩, ⟨h3, h3'⟩, h4, h5, h6⟩ := h
  refine ⟨⟨t1, by rw [ms_at (Or.inr (by omega))]; exact t2, fun i hi => by rw [ms_ne (by omega)]; exact t3 i hi⟩, ⟨k1, by rw [ms_at (Or.inr (by omega))]; exact k2, by rw [ms_at (Or.inr (by omega))]; exact k3, by rw [ms_at (Or.inr (by omega))]; exact k4, fun z => by rw [ms_at (Or.inr (by omega))]; exact k5 z⟩, ⟨by rw [ms_at (Or.inr (by omega))]; exact h3, fun i hi => by rw [ms_ne (by omega)]; exact h3' i hi⟩, by rw [ms_self, upd_eq], h5, by rw [ms_at (Or.inr (by omega))]; exact h6⟩
theorem nx_K {D : Nat} {P : Option Value → mx_H → Prop} (hD : 8 ≤ D) (h : Mst b n L s dp I) (kk : ∀ J, FrP I J → Mst b n (nxL b n L) s dp J → P none (sk0 c, J)) : mx_K1 l mX12_next0 D [.ref 120] (sk0 c, I) P := by
  obtain ⟨d, rfl⟩ : ∃ d, D = d + 8 := ⟨D - 8, by omega⟩
  refine ⟨_, sp_next0M (d := d) h.1 h.2.1.2.1 h.2.2.2.2.1, ?_⟩
  rintro _ _ ⟨rfl, J, rfl, hF, ht⟩
  exact kk J hF.p (h.next hF ht)
theorem bad_K {D k : Nat} {x : Int32} {P : Option Value → mx_H → Prop} (hD : 1 ≤ D) (h : Mst b n L s dp I) (hx : x = nI k) (kk : ∀ J, FrP I J → J 120 16 = nI k → J 120 17 = nI L.pl → P (some (.int 0)) (sk0 c, J)) : mx_K1 l mX12_bad D [.ref 120, .int x] (sk0 c, I) P := by
  obtain ⟨d, rfl⟩ : ∃ d, D = d + 1 := ⟨D - 1, by omega⟩
  refine ⟨fun r h' => r = some (.int 0) ∧ h' = (sk0 c, mx_set (mx_set I 120 16 x) 120 17 (I 120 14)), sn_X12_bad _ ⟨rfl, rfl⟩, ?_⟩
  rintro _ _ ⟨rfl, rfl⟩
  exact kk _ ((FrP.set (by omega)).trans (FrP.set (by omega))) (by rw [ms_at (Or.inr (by omega)), ms_self, upd_eq, hx]) (by rw [ms_self, upd_eq]; exact h.2.1.2.2.2.1)
theorem lay_K {D k : Nat} {x y v : Int32} {P : Option Value → mx_H → Prop} (hD : 1 ≤ D) (h : Mst b n L s dp I) (hs : s.length ≤ 409) (hx : x = nI k) (hy : (1 ≤ k ∧ k ≤ 7) ∨ y = v) (kk : ∀ J, FrP I J → Mst b n L (s ++ [(k, v)]) dp J → P none (sk0 c, J)) : mx_K1 l mX12_lay D [.ref 120, .int x, .int y] (sk0 c, I) P := by
  obtain ⟨d, rfl⟩ : ∃ d, D = d + 1 := ⟨D - 1, by omega⟩
  obtain ⟨⟨t1, t2, t3⟩, ⟨k1, k2, k3, k4, k5⟩, ⟨h3, h3'⟩, h4, h5, h6⟩ := h
  have e1 : 2 * I 120 10 = nI (2 * s.length) := by rw [h3, show (2 : Int32) = nI 2 from rfl, pk_mul]
  have S := fun Q => @sn_X12_lay l d Q c I x y
  rw [e1, nI_1, nI_clamp (n := 2 * s.length) (by omega), nI_clamp (n := 2 * s.length + 1) (by omega), h3, nI_1] at S
  have q125 : ∀ i, i ≠ 2 * s.length → i ≠ 2 * s.length + 1 → mx_set (mx_set (mx_set I 125 (2 * s.length) x) 125 (2 * s.length + 1) y) 120 10 (nI (s.length + 1)) 125 i = I 125 i := fun i a e => by rw [ms_ne (by omega), ms_at (Or.inr e), ms_at (Or.inr a)]
  have qa : mx_set (mx_set (mx_set I 125 (2 * s.length) x) 125 (2 * s.length + 1) y) 120 10 (nI (s.length + 1)) 125 (2 * s.length) = x := by rw [ms_ne (by omega), ms_at (Or.inr (by omega)), ms_self, upd_eq]
  have qb : mx_set (mx_set (mx_set I 125 (2 * s.length) x) 125 (2 * s.length + 1) y) 120 10 (nI (s.length + 1)) 125 (2 * s.length + 1) = y := by rw [ms_ne (by omega), ms_self, upd_eq]
  have q120 : ∀ f, f ≠ 10 → mx_set (mx_set (mx_set I 125 (2 * s.length) x) 125 (2 * s.length + 1) y) 120 10 (nI (s.length + 1)) 120 f = I 120 f := fun f a => by rw [ms_at (Or.inr a), ms_ne (by omega), ms_ne (by omega)]
  have q10 : mx_set (mx_set (mx_set I 125 (2 * s.length) x) 125 (2 * s.length + 1) y) 120 10 (nI (s.length + 1)) 120 10 = nI (s.length + 1) := by rw [ms_self, upd_eq]
  have qk : ∀ k, k ≠ 120 → k ≠ 125 → mx_set (mx_set (mx_set I 125 (2 * s.length) x) 125 (2 * s.length + 1) y) 120 10 (nI (s.length + 1)) k = I k := fun k a e => by rw [ms_ne a, ms_ne e, ms_ne e]
  refine ⟨fun r h' => r = none ∧ h' = (sk0 c, mx_set (mx_set (mx_set I 125 (2 * s.length) x) 125 (2 * s.length + 1) y) 120 10 (nI (s.length + 1))), S _ (i_vp (by omega) (by omega)) (i_vp (by omega) (by omega)) ⟨rfl, rfl⟩, ?_⟩
  rintro _ _ ⟨rfl, rfl⟩
  generalize mx_set (mx_set (mx_set I 125 (2 * s.length) x) 125 (2 * s.length + 1) y) 120 10 (nI (s.length + 1)) = J at q125 qa qb q120 q10 qk ⊢
  refine kk J ⟨qk, fun f a _ _ => q120 f a⟩ ⟨⟨t1, by rw [q120 11 (by omega)]; exact t2, fun i hi => by rw [qk 126 (by omega) (by omega)]; exact t3 i hi⟩, ⟨k1, by rw [q120 12 (by omega)]; exact k2, by rw [q120 13 (by omega)]; exact k3, by rw [q120 14 (by omega)]; exact k4, fun z => by rw [q120 15 (by omega)]; exact k5 z⟩, ⟨by rw [List.length_append]; exact q10, fun i hi => ?_⟩, by rw [q120 19 (by omega)]; exact h4, h5, by rw [q120 16 (by omega)]; exact h6⟩
  rw [List.length_append] at hi
  have hi' : i < s.length + 1 := hi
  by_cases w : i = s.length
  · subst w
    rw [getD_l, qa, qb]
    exact ⟨hx, fun z => hy.resolve_left z⟩
  · rw [getD_i _ _ _ (by omega), q125 (2 * i) (by omega) (by omega), q125 (2 * i + 1) (by omega) (by omega)]
    exact h3' i (by omega)
/-- what a piece of the parser comes to -/
def PsQ (c : Nat) (b : Nat → Nat) (n : Nat) (s : GSt) (dp : Nat) (I : mx_I) (g : GR) (r : Option Value) (h' : mx_H) : Prop := ∃ J, h' = (sk0 c, J) ∧ FrP I J ∧ ((∃ L' s', g = .ok (L', s') ∧ r = some (.int 1) ∧ Mst b n L' (s ++ s') dp J) ∨ (∃ e, g = .error e ∧ r = some (.int 0) ∧ J 120 16 = nI e.1 ∧ J 120 17 = nI e.2))
theorem PsQ.ok {J : mx_I} {g : GR} {L' : LX} {s' : GSt} (hF : FrP I J) (hg : g = .ok (L', s')) (hM : Mst b n L' (s ++ s') dp J) : PsQ c b n s dp I g (some (.int 1)) (sk0 c, J) := ⟨J, rfl, hF, Or.inl ⟨L', s', hg, rfl, hM⟩⟩
theorem PsQ.er {J : mx_I} {g : GR} {e : Nat × Nat} (hF : FrP I J) (hg : g = .error e) (h1 : J 120 16 = nI e.1) (h2 : J 120 17 = nI e.2) : PsQ c b n s dp I g (some (.int 0)) (sk0 c, J) := ⟨J, rfl, hF, Or.inr ⟨e, hg, rfl, h1, h2⟩⟩
theorem PsQ.seq {J : mx_I} {t : GSt} {g1 g : GR} {r : Option Value} {h' : mx_H} (hF : FrP I J) (ho : ∀ L2 s2, g1 = .ok (L2, s2) → g = .ok (L2, t ++ s2)) (he : ∀ e, g1 = .error e → g = .error e) (h : PsQ c b n (s ++ t) dp J g1 r h') : PsQ c b n s dp I g r h' := by
  obtain ⟨K, rfl, hK, h⟩ := h
  rcases h with ⟨L2, s2, h1, rfl, h2⟩ | ⟨e, h1, rfl, h2, h3⟩
  · exact PsQ.ok (hF.trans hK) (ho _ _ h1) (by rw [← List.append_assoc]; exact h2)
  · exact PsQ.er (hF.trans hK) (he _ h1) h2 h3
theorem mtk_nm : ∀ t, t < 26 → ((41 ≤ mtk t ∧ mtk t ≤ 47) ↔ (8 ≤ t ∧ t ≤ 14)) := by decide +kernel
theorem sp_unitM {D : Nat} (hD : 9 ≤ D) (h : Mst b n L s dp I) (hb : s.length + msL n L ≤ 402) : mx_Spec l mX12_unit D 0 0 [.ref 120] (sk0 c, I) (PsQ c b n s dp I (gUnit (nxL b n) L)) := by
  obtain ⟨d, rfl⟩ : ∃ d, D = d + 1 + 1 := ⟨D - 2, by omega⟩
  have ht := h.2.1
  have e1 := ht.eq (y := 1) (x := 2) (by omega) rfl
  have tk25 := ht.1
  have hin : inR (I 120 13) 41 47 = decide (8 ≤ L.tk ∧ L.tk ≤ 14) := by
    rw [ht.2.2.1, show inR (nI (mtk L.tk)) 41 47 = decide (41 ≤ mtk L.tk ∧ mtk L.tk ≤ 47) from inR_nI (lo := 41) (hi := 47) (by have := mtk_lt L.tk (by omega); omega)]
    exact decide_eq_decide.mpr (mtk_nm L.tk (by omega))
  have fin : ∀ (x : Int32) (k : Nat) (J : mx_I), FrP I J → Mst b n L (s ++ [(k, L.vl)]) dp J → gUnit (nxL b n) L = .ok (nxL b n L, [(k, L.vl)]) → mx_Go l (mx_rm (d + 1 + 1) 0 0) mX12_unit (mx_Z (PsQ c b n s dp I (gUnit (nxL b n) L)) 0 0) 0 0 53 [.ref 120, .int x] [] (sk0 c, J) := by
    intro x k J hF hM hg
    exact sg_X12_unit_53 _ (nx_K (by omega) hM (fun K hK hM2 => sg_X12_unit_57 _ (PsQ.ok (hF.trans hK) hg hM2)))
  refine sn_X12_unit ⟨_, sp_isIn _ _ _, ?_⟩
  rintro _ _ ⟨rfl, rfl⟩
  have hin' : inR (I 120 13) (41 : Int32).toInt (47 : Int32).toInt = decide (8 ≤ L.tk ∧ L.tk ≤ 14) := hin
  rw [hin']
  refine sg_X12_unit_11 _ (fun y1 z => ?_) (fun y1 z => ?_) (fun n1 z z' => absurd z' z) (fun n1 z _ => ?_) (fun n1 z => ?_)
  · have t1 := e1.mp y1
    exact lay_K (k := 0) (v := L.vl) (by omega) h (by omega) rfl (Or.inr (ht.2.2.2.2 t1)) (fun J hF hM => fin _ 0 J hF hM (by unfold gUnit; rw [if_pos t1]))
  · have t1 := e1.mp y1
    have := of_decide_eq_true (b2i_nz z)
    omega
  · have nm := of_decide_eq_true (b2i_nz z)
    have em : mtk L.tk = L.tk + 33 := by
      have : ∀ t, t < 26 → 8 ≤ t ∧ t ≤ 14 → mtk t = t + 33 := by decide +kernel
      exact this L.tk (by omega) nm
    have ek : I 120 13 - 40 = nI (L.tk - 7) := by
      rw [ht.2.2.1, em, show (40 : Int32) = nI 40 from rfl, pk_sub (by omega)]
      congr 1
    rw [ek]
    exact lay_K (k := L.tk - 7) (v := L.vl) (by omega) h (by omega) rfl (Or.inl (by omega)) (fun J hF hM => fin _ (L.tk - 7) J hF hM (by unfold gUnit; rw [if_neg (by omega), if_pos nm]))
  · have nm := of_decide_eq_false (b2i_0.mp z)
    have n1' : ¬ L.tk = 1 := fun w => n1 (e1.mpr w)
    exact bad_K (k := 1) (by omega) h rfl (fun J hF j1 j2 => sg_X12_unit_29 _ _ (PsQ.er hF (e := (1, L.pl)) (by unfold gUnit; rw [if_neg n1', if_neg nm]) j1 j2) (Or.inl rfl))
end M
