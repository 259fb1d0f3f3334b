/-! the class's stack of held joints -/
def hdR (f : Nat → Int32) : List Nat → Prop
  | [] => True
  | h :: H => f H.length = nI h ∧ hdR f H
theorem hdR_upd {f : Nat → Int32} {k : Nat} {x : Int32} : ∀ H : List Nat, H.length ≤ k → hdR f H → hdR (upd f k x) H
  | [], _, _ => trivial
  | h :: H, hk, hh => by
    have hk' : H.length + 1 ≤ k := hk
    exact ⟨by rw [upd_ne (by omega)]; exact hh.1, hdR_upd H (by omega) hh.2⟩
def c7 : List Nat → Nat
  | [] => 0
  | h :: H => (if h = 7 then 1 else 0) + c7 H
def Rp (H : List Nat) (C : List Int32) (o : Nat) (I : mx_I) : Prop := I 47 6 = nI H.length ∧ hdR (I 54) H ∧ I 47 7 = nI o ∧ I 49 5 = nI C.length ∧ ∀ i, i < C.length → I 50 i = C.getD i 0
def FrR (I J : mx_I) : Prop := (∀ k, k ≠ 47 → k ≠ 49 → k ≠ 50 → k ≠ 54 → J k = I k) ∧ (∀ f, f ≠ 6 → f ≠ 7 → J 47 f = I 47 f) ∧ ∀ f, f ≠ 5 → J 49 f = I 49 f
theorem FrR.refl {I : mx_I} : FrR I I := ⟨fun _ _ _ _ _ => rfl, fun _ _ _ => rfl, fun _ _ => rfl⟩
theorem FrR.trans {I J K : mx_I} (h1 : FrR I J) (h2 : FrR J K) : FrR I K := ⟨fun k a b c d => (h2.1 k a b c d).trans (h1.1 k a b c d), fun f a b => (h2.2.1 f a b).trans (h1.2.1 f a b), fun f a => (h2.2.2 f a).trans (h1.2.2 f a)⟩
section C
variable {l : Launch} {c : Nat}
theorem sp_rank {d x : Nat} {I : mx_I} (hx : x ≤ 255) : mx_Spec l mX8_rank (d + 1) 0 0 [.int (nI x)] (sk0 c, I) (fun r h' => r = some (.int (nI (rnk x))) ∧ h' = (sk0 c, I)) := by
  have e : ∀ {y : Nat}, y ≤ 255 → nI x = nI y → x = y := fun hy h => ((nI_255 hx hy).2.2).mp h
  refine sn_X8_rank _ (fun h => ?_) (fun h => ?_) (fun h => ?_) (fun h => ?_) (fun h => ?_) (fun h => ?_) (fun h => ?_) (fun h => ?_) (fun h => ?_) (fun h => ?_) (fun h => ?_) (fun h => ?_) (fun h => ?_) (fun h => ?_) (fun h => ?_) (fun h => ?_) (fun h => ?_) (fun h => ?_) (fun h => ?_) (fun h => ?_) ?_
  · have := e (y := 5) (by omega) h; subst this; exact ⟨rfl, rfl⟩
  · have := e (y := 6) (by omega) h; subst this; exact ⟨rfl, rfl⟩
  · have := e (y := 7) (by omega) h; subst this; exact ⟨rfl, rfl⟩
  · have := e (y := 8) (by omega) h; subst this; exact ⟨rfl, rfl⟩
  · have := e (y := 9) (by omega) h; subst this; exact ⟨rfl, rfl⟩
  · have := e (y := 10) (by omega) h; subst this; exact ⟨rfl, rfl⟩
  · have := e (y := 11) (by omega) h; subst this; exact ⟨rfl, rfl⟩
  · have := e (y := 12) (by omega) h; subst this; exact ⟨rfl, rfl⟩
  · have := e (y := 13) (by omega) h; subst this; exact ⟨rfl, rfl⟩
  · have := e (y := 14) (by omega) h; subst this; exact ⟨rfl, rfl⟩
  · have := e (y := 15) (by omega) h; subst this; exact ⟨rfl, rfl⟩
  · have := e (y := 16) (by omega) h; subst this; exact ⟨rfl, rfl⟩
  · have := e (y := 17) (by omega) h; subst this; exact ⟨rfl, rfl⟩
  · have := e (y := 18) (by omega) h; subst this; exact ⟨rfl, rfl⟩
  · have := e (y := 19) (by omega) h; subst this; exact ⟨rfl, rfl⟩
  · have := e (y := 20) (by omega) h; subst this; exact ⟨rfl, rfl⟩
  · have := e (y := 21) (by omega) h; subst this; exact ⟨rfl, rfl⟩
  · have := e (y := 22) (by omega) h; subst this; exact ⟨rfl, rfl⟩
  · have := e (y := 23) (by omega) h; subst this; exact ⟨rfl, rfl⟩
  · have := e (y := 24) (by omega) h; subst this; exact ⟨rfl, rfl⟩
  · intro a5 a6 a7 _ _ _ _ _ _ _ _ a16 a17 a18 a19 _ _ a22 a23 a24
    have n : ∀ {y : Nat}, ¬ nI x = nI y → ¬ x = y := fun h z => h (by rw [z])
    have n5 := n (y := 5) a5
    have n6 := n (y := 6) a6
    have n7 := n (y := 7) a7
    have n16 := n (y := 16) a16
    have n17 := n (y := 17) a17
    have n18 := n (y := 18) a18
    have n19 := n (y := 19) a19
    have n22 := n (y := 22) a22
    have n23 := n (y := 23) a23
    have n24 := n (y := 24) a24
    have h0 : rnk x = 0 := by
      unfold rnk
      rw [if_neg n5, if_neg n6, if_neg n7, if_neg (by omega), if_neg (by omega), if_neg (by omega)]
    exact ⟨by rw [h0]; rfl, rfl⟩
theorem rnk_le (x : Nat) : rnk x ≤ 6 := by
  unfold rnk
  by_cases a : x = 5
  · rw [if_pos a]; omega
  rw [if_neg a]
  by_cases a : x = 6
  · rw [if_pos a]; omega
  rw [if_neg a]
  by_cases a : x = 7
  · rw [if_pos a]; omega
  rw [if_neg a]
  by_cases a : x = 22 ∨ x = 23 ∨ x = 24
  · rw [if_pos a]; omega
  rw [if_neg a]
  by_cases a : x = 16 ∨ x = 17
  · rw [if_pos a]; omega
  rw [if_neg a]
  by_cases a : x = 18 ∨ x = 19
  · rw [if_pos a]; omega
  rw [if_neg a]; omega
/-- put out -/
theorem sp_put {d : Nat} {H : List Nat} {C : List Int32} {o : Nat} {I : mx_I} {x : Int32} (h : Rp H C o I) (hC : C.length < 400) : mx_Spec l mX3_put (d + 1) 0 0 [.ref 49, .int x] (sk0 c, I) (fun r h' => r = none ∧ ∃ J, h' = (sk0 c, J) ∧ FrR I J ∧ Rp H (C ++ [x]) o J) := by
  obtain ⟨h1, h2, h3, h4, h5⟩ := h
  have e1 : ¬ (400 : Int32) ≤ I 49 5 := fun z => by rw [h4, show (400 : Int32) = nI 400 from rfl, nI_leI (by omega) (by omega)] at z; omega
  have S := fun Q => @sn_X3_put l d Q c I x
  rw [h4, nI_clamp (n := C.length) (by omega), nI_1] at S
  rw [h4] at e1
  refine S _ (fun z => absurd z e1) (fun _ => i_vp hC (by omega)) (fun _ => ⟨rfl, _, rfl, ⟨fun k k1 k2 k3 k4 => by rw [ms_ne k2, ms_ne k3], fun f _ _ => by rw [ms_ne (by omega), ms_ne (by omega)], fun f hf => by rw [ms_at (Or.inr hf), ms_ne (by omega)]⟩, ?_, ?_, ?_, ?_, fun i hi => ?_⟩)
  · rw [ms_ne (by omega), ms_ne (by omega)]; exact h1
  · rw [ms_ne (by omega), ms_ne (by omega)]; exact h2
  · rw [ms_ne (by omega), ms_ne (by omega)]; exact h3
  · rw [ms_self, upd_eq, List.length_append]; rfl
  · rw [ms_ne (by omega), ms_self]
    rw [List.length_append] at hi
    have hi' : i < C.length + 1 := hi
    by_cases q : i = C.length
    · subst q; rw [upd_eq, getD_l]
    · rw [upd_ne q, getD_i _ _ _ (by omega)]; exact h5 i (by omega)
theorem sp_hold {d : Nat} {H : List Nat} {C : List Int32} {o t : Nat} {I : mx_I} (h : Rp H C o I) (hH : H.length < 64) : mx_Spec l mX8_hold (d + 1) 0 0 [.ref 47, .int (nI t)] (sk0 c, I) (fun r h' => r = none ∧ ∃ J, h' = (sk0 c, J) ∧ FrR I J ∧ Rp (t :: H) C o J) := by
  obtain ⟨h1, h2, h3, h4, h5⟩ := h
  have e1 : ¬ (64 : Int32) ≤ I 47 6 := fun z => by rw [h1, show (64 : Int32) = nI 64 from rfl, nI_leI (by omega) (by omega)] at z; omega
  have S := fun Q => @sn_X8_hold l d Q c I (nI t)
  rw [h1, nI_clamp (n := H.length) (by omega), nI_1] at S
  rw [h1] at e1
  refine S _ (fun z => absurd z e1) (fun _ => i_vp hH (by omega)) (fun _ => ⟨rfl, _, rfl, ⟨fun k k1 k2 k3 k4 => by rw [ms_ne k1, ms_ne k4], fun f f6 _ => by rw [ms_at (Or.inr f6), ms_ne (by omega)], fun f hf => by rw [ms_ne (by omega), ms_ne (by omega)]⟩, ?_, ⟨?_, ?_⟩, ?_, ?_, fun i hi => ?_⟩)
  · rw [ms_self, upd_eq]; rfl
  · rw [ms_ne (by omega), ms_self, upd_eq]
  · rw [ms_ne (by omega), ms_self]; exact hdR_upd H (Nat.le_refl _) h2
  · rw [ms_at (Or.inr (by omega)), ms_ne (by omega)]; exact h3
  · rw [ms_ne (by omega), ms_ne (by omega)]; exact h4
  · rw [ms_ne (by omega), ms_ne (by omega)]; exact h5 i hi
theorem sp_release {d r : Nat} (hr : r ≤ 6) : ∀ (H : List Nat) {C : List Int32} {o : Nat} {I : mx_I}, Rp H C o I → H.length ≤ 64 → C.length + H.length ≤ 400 → (∀ x ∈ H, x ≤ 24) → c7 H ≤ o → o ≤ 64 → mx_Spec l mX8_release (d + 2) 0 0 [.ref 47, .int (nI r)] (sk0 c, I) (fun r' h' => r' = none ∧ ∃ J, h' = (sk0 c, J) ∧ FrR I J ∧ Rp (rel r H C o).1 (rel r H C o).2.1 (rel r H C o).2.2 J) := by
  have key : ∀ (H : List Nat) (C : List Int32) (o : Nat) (I : mx_I) (Q : Option Value → mx_H → Prop), Rp H C o I → H.length ≤ 64 → C.length + H.length ≤ 400 → (∀ x ∈ H, x ≤ 24) → c7 H ≤ o → o ≤ 64 → (∀ J, FrR I J → Rp (rel r H C o).1 (rel r H C o).2.1 (rel r H C o).2.2 J → Q none (sk0 c, J)) → mx_Go l (mx_rm (d + 1 + 1) 0 0) mX8_release (mx_Z Q 0 0) 0 0 0 [.ref 47, .int (nI r)] [] (sk0 c, I) := by
    intro H
    induction H with
    | nil =>
      intro C o I Q h _ _ _ _ _ hQ
      have e1 : I 47 6 ≤ 0 := by rw [h.1]; decide
      exact sg_X8_release_0 _ (fun _ => hQ I FrR.refl h) (fun z => absurd e1 z) (fun z => absurd e1 z)
    | cons x H ih =>
      intro C o I Q h hH hC hx h7 ho hQ
      have hH' : H.length + 1 ≤ 64 := hH
      have hC' : C.length + (H.length + 1) ≤ 400 := hC
      have hx24 : x ≤ 24 := hx x (by simp)
      obtain ⟨h1, ⟨h2, h2'⟩, h3, h4, h5⟩ := h
      have h1' : I 47 6 = nI (H.length + 1) := h1
      have e1 : ¬ I 47 6 ≤ 0 := fun z => by rw [h1', show (0 : Int32) = nI 0 from rfl, nI_leI (by omega) (by omega)] at z; omega
      have s1 : I 47 6 - 1 = nI H.length := by rw [h1', show (1 : Int32) = nI 1 from rfl, pk_sub (by omega), Nat.add_sub_cancel]
      have b1 : vp_in (nI H.length) 64 := i_vp (by omega) (by omega)
      have S := fun Q => @sg_X8_release_0 l (d + 1) Q c I (nI r)
      rw [s1, nI_clamp (n := H.length) (by omega), h2] at S
      refine S _ (fun z => absurd z e1) (fun _ => b1) (fun _ => ⟨_, sp_rank (d := d) (by omega), ?_⟩)
      rintro _ _ ⟨rfl, rfl⟩
      have lt : nI (rnk x) < nI r ↔ rnk x < r := nI_ltI (by have := rnk_le x; omega) (by omega)
      have S2 := fun Q => @sg_X8_release_21 l (d + 1) Q c I (nI r) (nI (rnk x))
      rw [s1, nI_clamp (n := H.length) (by omega), h2, lt] at S2
      have e7 : nI x = 7 ↔ x = 7 := (nI_255 (by omega) (y := 7) (by omega)).2.2
      have go : ∀ (o' : Nat) (I2 : mx_I), r ≤ rnk x → (if x = 7 then o - 1 else o) = o' → FrR I I2 → Rp H C o' I2 → c7 H ≤ o' → o' ≤ 64 → mx_K1 l mX3_put (d + 1) [.ref 49, .int (-(nI x))] (sk0 c, I2) (fun r' h' => mx_Go l (mx_rm (d + 1 + 1) 0 0) mX8_release (mx_Z Q 0 0) 0 0 80 [.ref 47, .int (nI r)] (r'.toList ++ []) h') := by
        intro o' I2 hrx ho' hF2 hR2 h7' ho2
        refine ⟨_, sp_put (d := d) hR2 (by omega), ?_⟩
        rintro _ _ ⟨rfl, J, rfl, hF, hJ⟩
        refine sg_X8_release_80 _ (ih (C ++ [-(nI x)]) o' J Q hJ (by omega) (by rw [List.length_append]; show C.length + 1 + H.length ≤ 400; omega) (fun y hy => hx y (List.mem_cons_of_mem _ hy)) h7' ho2 (fun K hK1 hK2 => hQ K ((hF2.trans hF).trans hK1) ?_))
        rw [rel_yes hrx, ho']; exact hK2
      refine S2 _ (fun z => hQ I FrR.refl (by rw [rel_no z]; exact ⟨h1, ⟨h2, h2'⟩, h3, h4, h5⟩)) (fun _ => b1) (fun _ _ => b1) (fun z z7 => ?_) (fun _ _ => b1) (fun z z7 => ?_)
      · have n7 : ¬ x = 7 := fun w => z7 (e7.mpr w)
        have h7'' : c7 H ≤ o := by have h7' : (if x = 7 then 1 else 0) + c7 H ≤ o := h7; rw [if_neg n7] at h7'; omega
        refine go o _ (by omega) (if_neg n7) ⟨fun k k1 k2 k3 k4 => by rw [ms_ne k1, ms_ne k1], fun f f6 f7 => by rw [ms_at (Or.inr f7), ms_at (Or.inr f6)], fun f hf => by rw [ms_ne (by omega), ms_ne (by omega)]⟩ ⟨?_, ?_, ?_, ?_, fun i hi => ?_⟩ h7'' ho
        · rw [ms_at (Or.inr (by omega)), ms_self, upd_eq]
        · rw [ms_ne (by omega), ms_ne (by omega)]; exact h2'
        · rw [ms_self, upd_eq, h3, Int32.sub_zero]
        · rw [ms_ne (by omega), ms_ne (by omega)]; exact h4
        · rw [ms_ne (by omega), ms_ne (by omega)]; exact h5 i hi
      · have y7 : x = 7 := e7.mp z7
        have h7'' : 1 + c7 H ≤ o := by have h7' : (if x = 7 then 1 else 0) + c7 H ≤ o := h7; rw [if_pos y7] at h7'; omega
        refine go (o - 1) _ (by omega) (if_pos y7) ⟨fun k k1 k2 k3 k4 => by rw [ms_ne k1, ms_ne k1], fun f f6 f7 => by rw [ms_at (Or.inr f7), ms_at (Or.inr f6)], fun f hf => by rw [ms_ne (by omega), ms_ne (by omega)]⟩ ⟨?_, ?_, ?_, ?_, fun i hi => ?_⟩ (by omega) (by omega)
        · rw [ms_at (Or.inr (by omega)), ms_self, upd_eq]
        · rw [ms_ne (by omega), ms_ne (by omega)]; exact h2'
        · rw [ms_self, upd_eq, h3, show (1 : Int32) = nI 1 from rfl, pk_sub (by omega)]
        · rw [ms_ne (by omega), ms_ne (by omega)]; exact h4
        · rw [ms_ne (by omega), ms_ne (by omega)]; exact h5 i hi
  intro H C o I h a1 a2 a3 a4 a5
  exact sn_X8_release _ (key H C o I _ h a1 a2 a3 a4 a5 (fun J h1 h2 => ⟨rfl, J, rfl, h1, h2⟩))
end C
