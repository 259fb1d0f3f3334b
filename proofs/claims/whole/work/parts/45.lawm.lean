/-! the model reads a law -/
section M
variable {l : Launch} {c : Nat}
theorem sp_both {d : Nat} {I : mx_I} {k : Nat} {a b : Int32} (hk : k = 13 ∨ k = 14 ∨ k = 15 ∨ k = 17 ∨ k = 18 ∨ k = 19 ∨ k = 21 ∨ k = 22) : mx_Spec l mX12_both (d + 1) 0 0 [.int (nI k), .int a, .int b] (sk0 c, I) (fun r h' => r = some (.int (lw_both k a b)) ∧ h' = (sk0 c, I)) := by
  rcases hk with rfl | rfl | rfl | rfl | rfl | rfl | rfl | rfl
  · apply sn_X12_both <;> intros <;> first | exact ⟨rfl, rfl⟩ | (exfalso; revert ‹nI 13 = _›; decide) | contradiction
  · apply sn_X12_both <;> intros <;> first | exact ⟨rfl, rfl⟩ | (exfalso; revert ‹nI 14 = _›; decide) | contradiction
  · apply sn_X12_both <;> intros <;> first | exact ⟨rfl, rfl⟩ | (exfalso; revert ‹nI 15 = _›; decide) | contradiction
  · apply sn_X12_both <;> intros <;> first | (exfalso; revert ‹nI 17 = _›; decide) | contradiction | skip
    · rename_i h1 h2
      have : ¬ a < b := fun z => by rw [i_lt] at z; rw [i_le] at h2; omega
      exact ⟨by show some (Value.int 0) = some (Value.int (if a < b then 1 else 0)); rw [if_neg this], rfl⟩
    · rename_i h1 h2
      have : a < b := by rw [i_lt]; rw [i_le] at h2; omega
      exact ⟨by show some (Value.int 1) = some (Value.int (if a < b then 1 else 0)); rw [if_pos this], rfl⟩
  · apply sn_X12_both <;> intros <;> first | (exfalso; revert ‹nI 18 = _›; decide) | contradiction | skip
    · rename_i h1 h2
      exact ⟨by show some (Value.int 0) = some (Value.int (if a = b then 1 else 0)); rw [if_neg h2], rfl⟩
    · rename_i h1 h2
      exact ⟨by show some (Value.int 1) = some (Value.int (if a = b then 1 else 0)); rw [if_pos h2], rfl⟩
  · apply sn_X12_both <;> intros <;> first | (exfalso; revert ‹nI 19 = _›; decide) | contradiction | skip
    · rename_i h1 h2
      have : ¬ b < a := fun z => by rw [i_lt] at z; rw [i_le] at h2; omega
      exact ⟨by show some (Value.int 0) = some (Value.int (if b < a then 1 else 0)); rw [if_neg this], rfl⟩
    · rename_i h1 h2
      have : b < a := by rw [i_lt]; rw [i_le] at h2; omega
      exact ⟨by show some (Value.int 1) = some (Value.int (if b < a then 1 else 0)); rw [if_pos this], rfl⟩
  · apply sn_X12_both <;> intros <;> first | exact ⟨rfl, rfl⟩ | (exfalso; revert ‹nI 21 = _›; decide) | contradiction
  · apply sn_X12_both <;> intros <;> first | exact ⟨rfl, rfl⟩ | (exfalso; revert ‹nI 22 = _›; decide) | contradiction
theorem nI_m1 (n : Nat) : nI (n + 1) + (-1) = nI n := pk_m1 n
set_option maxHeartbeats 1000000 in
/-- the model's pile over steps from i to e -/
theorem ct_loop {d : Nat} {Q : Option Value → mx_H → Prop} {f : Nat → Int32} {e : Nat} {x1 : Int32} (he : e ≤ 400) : ∀ (qs : List (Nat × Int32)) (i : Nat) (I : mx_I) (s s' : List Bool) (st : List Int32), i + qs.length = e →
    (∀ j, j < qs.length → I 121 (1665 + 2 * (i + j)) = nI (qs.getD j (0, 0)).1 ∧ I 121 (1666 + 2 * (i + j)) = (qs.getD j (0, 0)).2) → (∀ k, 1 ≤ k → k ≤ 7 → I 128 k = f k) → VT s st → s.length ≤ 60 → lw_ty s qs = some s' → Pl (I 127) st →
    (∀ I', (∀ k, k ≠ 127 → I' k = I k) → Pl (I' 127) (lw_ev f st qs) → VT s' (lw_ev f st qs) → Q (some (.int (I' 127 0))) (sk0 c, I')) →
    mx_Go l (mx_rm (d + 2) 0 0) mX12_comesTo (mx_Z Q 0 0) 0 0 5 [.ref 120, .int x1, .int (nI e), .int (nI st.length), .int (nI i), .retAddr 0, .retAddr 0] [] (sk0 c, I) := by
  intro qs
  induction qs with
  | nil =>
    intro i I s s' st hi _ _ hv hs60 ht hp hQ
    have e1 : nI e ≤ nI i := (nI_leI (by omega) (by simp at hi; omega)).mpr (by simp at hi; omega)
    cases ht
    apply sg_X12_comesTo_5 <;> intros <;> first | exact hQ I (fun _ _ => rfl) hp hv | (exfalso; exact absurd e1 ‹_›)
  | cons p qs ih =>
    intro i I s s' st hi hw hf hv hs60 ht hp hQ
    simp only [List.length_cons] at hi
    have e1 : ¬ nI e ≤ nI i := fun z => by rw [nI_leI (by omega) (by omega)] at z; omega
    obtain ⟨w1, w2⟩ := hw 0 (by simp)
    simp only [Nat.add_zero, List.getD_cons_zero] at w1 w2
    have x1' : (1665 + (2 * nI i) : Int32) = nI (1665 + 2 * i) := by rw [show (1665 : Int32) = nI 1665 from rfl, show (2 : Int32) = nI 2 from rfl, pk_mul, nI_add]
    have x2' : (1665 + (2 * nI i) + 1 : Int32) = nI (1666 + 2 * i) := by rw [x1', nI_1]; congr 1; omega
    simp only [lw_ty] at ht
    cases hs : lw_t1 s p with
    | none => rw [hs] at ht; cases ht
    | some s1 =>
      rw [hs] at ht
      simp only at ht
      obtain ⟨hc, hv1⟩ := lw_cases (f := f) hv hs
      have hl1 := hv.len
      have hw' : ∀ j, j < qs.length → I 121 (1665 + 2 * (i + 1 + j)) = nI (qs.getD j (0, 0)).1 ∧ I 121 (1666 + 2 * (i + 1 + j)) = (qs.getD j (0, 0)).2 := fun j hj => by
        have := hw (j + 1) (by simp; omega)
        rw [show i + (j + 1) = i + 1 + j from by omega] at this
        simpa using this
      have b1 : vp_in (nI (1665 + 2 * i)) 2490 := i_vp (by omega) (by omega)
      have b2 : vp_in (nI (1666 + 2 * i)) 2490 := i_vp (by omega) (by omega)
      have S := @sg_X12_comesTo_5 l (d + 1) Q c I x1 (nI e) (nI st.length) (nI i)
      rw [x2', x1', nI_clamp (by omega), nI_clamp (by omega), w1, w2, nI_1] at S
      have go : ∀ (I' : mx_I) (x y : Int32) (n : Nat), s1.length ≤ 60 → (∀ k, k ≠ 127 → I' k = I k) → n = (lw_e1 f st p).length → Pl (I' 127) (lw_e1 f st p) → mx_Go l (mx_rm (d + 1 + 1) 0 0) mX12_comesTo (mx_Z Q 0 0) 0 0 5 [.ref 120, .int x1, .int (nI e), .int (nI n), .int (nI (i + 1)), .int x, .int y] [] (sk0 c, I') := by
        rintro I' x y n hl60 hI rfl hp'
        refine mx_fg (L' := [.ref 120, .int x1, .int (nI e), .int (nI (lw_e1 f st p).length), .int (nI (i + 1)), .retAddr 0, .retAddr 0]) (by simp [mx_le]) ?_
        refine ih (i + 1) I' s1 s' _ (by omega) (fun j hj => ?_) (fun k k1 k7 => ?_) hv1 hl60 ht hp' (fun I2 h2 h3 h4 => hQ I2 (fun k hk => by rw [h2 k hk, hI k hk]) h3 h4)
        · rw [hI 121 (by omega)]; exact hw' j hj
        · rw [hI 128 (by omega)]; exact hf k k1 k7
      obtain ⟨k, v⟩ := p
      simp only [LwC] at hc
      rcases hc with ⟨rfl, v0, h60, rfl, es⟩ | ⟨k1, k7, h60, rfl, es⟩ | ⟨s2, a, st2, rfl, v0, h59, rfl, rfl, rfl, es⟩ | ⟨s2, a, st2, rfl, rfl, rfl, rfl, es⟩ | ⟨s2, a, b, st2, t, t', hk, rfl, rfl, rfl, es⟩
      · have c1 : ¬ (13 : Int32) ≤ nI 0 := by decide
        have bb : vp_in (nI st.length) 420 := i_vp (by omega) (by omega)
        apply S <;> intros <;> first | exact absurd ‹nI e ≤ nI i› e1 | exact absurd ‹(13 : Int32) ≤ nI 0› c1 | exact b1 | exact b2 | exact bb | (exact absurd rfl ‹¬ nI 0 = 0›) | skip
        rw [nI_1, nI_clamp (by omega)]
        refine go _ _ _ _ (by simp at *; omega) (fun k hk => ms_ne hk) (by rw [es]; rfl) ?_
        rw [ms_self, es]
        exact hp.put
      · have c1 : ¬ (13 : Int32) ≤ nI k := fun z => by rw [show (13 : Int32) = nI 13 from rfl, nI_leI (by omega) (by omega)] at z; omega
        have c2 : ¬ nI k = 0 := nI_ne0 (by omega) (by omega)
        have bb : vp_in (nI st.length) 420 := i_vp (by omega) (by omega)
        have b8 : vp_in (nI k) 8 := i_vp (by omega) (by omega)
        apply S <;> intros <;> first | exact absurd ‹nI e ≤ nI i› e1 | exact absurd ‹(13 : Int32) ≤ nI k› c1 | exact b1 | exact b2 | exact bb | exact b8 | exact absurd ‹nI k = 0› c2 | skip
        rw [nI_1, nI_clamp (by omega), nI_clamp (by omega)]
        refine go _ _ _ _ (by simp at *; omega) (fun k hk => ms_ne hk) (by rw [es]; rfl) ?_
        rw [ms_self, es, hf k k1 k7]
        exact hp.put
      · simp only [List.length_cons] at S hl1 hs60
        rw [nI_pred, nI_clamp (by omega)] at S
        have bb : vp_in (nI st2.length) 420 := i_vp (by omega) (by omega)
        have z0 : ¬ v = 0 := fun z => by rw [z] at v0; exact absurd v0 (by decide)
        apply S <;> intros <;> first | exact absurd ‹nI e ≤ nI i› e1 | exact absurd ‹¬ (13 : Int32) ≤ nI 16› (by decide) | exact absurd ‹¬ nI 16 = 16› (by decide) | exact b1 | exact b2 | exact bb | exact z0 | skip
        refine go _ _ _ _ (by simp at *; omega) (fun k hk => ms_ne hk) (by rw [es]; simp) ?_
        rw [ms_self, es, hp.1]
        exact Pl.put hp.2
      · simp only [List.length_cons] at S hl1 hs60
        rw [nI_pred, nI_clamp (by omega)] at S
        have bb : vp_in (nI st2.length) 420 := i_vp (by omega) (by omega)
        apply S <;> intros <;> first | exact absurd ‹nI e ≤ nI i› e1 | exact absurd ‹¬ (13 : Int32) ≤ nI 20› (by decide) | exact absurd ‹nI 20 = 16› (by decide) | exact absurd ‹¬ nI 20 = 20› (by decide) | exact b1 | exact b2 | exact bb | skip
        refine go _ _ _ _ (by simp at *; omega) (fun k hk => ms_ne hk) (by rw [es]; simp) ?_
        rw [ms_self, es, hp.1]
        exact Pl.put hp.2
      · simp only [List.length_cons] at S hl1 hs60
        rw [nI_m1, nI_pred, nI_clamp (by omega), nI_clamp (by omega)] at S
        have bb : vp_in (nI st2.length) 420 := i_vp (by omega) (by omega)
        have bb2 : vp_in (nI (st2.length + 1)) 420 := i_vp (by omega) (by omega)
        have c13 : (13 : Int32) ≤ nI k := by rw [show (13 : Int32) = nI 13 from rfl, nI_leI (by omega) (by omega)]; omega
        have c16 : ¬ nI k = 16 := fun z => by rw [show (16 : Int32) = nI 16 from rfl, nI_eq (by omega) (by omega)] at z; omega
        have c20 : ¬ nI k = 20 := fun z => by rw [show (20 : Int32) = nI 20 from rfl, nI_eq (by omega) (by omega)] at z; omega
        apply S <;> intros <;> first | exact absurd ‹nI e ≤ nI i› e1 | exact absurd c13 ‹_› | exact absurd ‹nI k = 16› c16 | exact absurd ‹nI k = 20› c20 | exact b1 | exact b2 | exact bb | exact bb2 | skip
        refine ⟨_, sp_both hk, ?_⟩
        rintro _ _ ⟨rfl, rfl⟩
        refine sg_X12_comesTo_159 _ _ _ _ _ _ _ _ bb ?_
        rw [nI_1, nI_clamp (by omega)]
        refine go _ _ _ _ (by simp at *; omega) (fun k hk => ms_ne hk) (by rw [es]; rfl) ?_
        have q1 : I 127 (st2.length + 1) = a := hp.1
        rw [ms_self, es, q1, hp.2.1]
        exact Pl.put hp.2.2
theorem lw_enc_pos (p : Nat × Int32) : 1 ≤ (lw_enc p).length := by
  unfold lw_enc
  split <;> simp
theorem lw_all_code (ps : lw_ps) : (lw_all ps).length ≤ (lw_code ps).length := by
  unfold lw_code
  induction lw_all ps with
  | nil => simp
  | cons p q ih => simp only [List.flatMap_cons, List.length_append, List.length_cons]; have := lw_enc_pos p; omega
theorem lw_getD {α : Type} {ps : List α} {i : Nat} (h : i < ps.length) (z : α) : ps.drop i = ps.getD i z :: ps.drop (i + 1) := by
  rw [List.drop_eq_getElem_cons h]
  simp [List.getD_eq_getElem?_getD, h]
theorem lw_takeD {α : Type} {ps : List α} {i : Nat} (h : i < ps.length) (z : α) : ps.take (i + 1) = ps.take i ++ [ps.getD i z] := by
  rw [List.take_succ]
  simp [List.getD_eq_getElem?_getD, h]
theorem lw_all_s {ps : lw_ps} {i : Nat} (h : i < ps.length) : lw_all (ps.take (i + 1)) = lw_all (ps.take i) ++ (ps.getD i (0, [])).2 := by
  rw [lw_takeD h (0, [])]
  simp [lw_all]
theorem lw_all_split {ps : lw_ps} {i : Nat} (h : i < ps.length) : lw_all ps = lw_all (ps.take i) ++ ((ps.getD i (0, [])).2 ++ lw_all (ps.drop (i + 1))) := by
  conv => lhs; rw [← List.take_append_drop i ps, lw_getD h (0, [])]
  simp [lw_all]
theorem lw_mem {α : Type} {ps : List α} {i : Nat} (h : i < ps.length) (z : α) : ps.getD i z ∈ ps := by
  simp [List.getD_eq_getElem?_getD, h]
theorem sp_comesTo {d : Nat} {I : mx_I} {ps : lw_ps} {f : Nat → Int32} {i : Nat} (hM : LawM ps (I 121)) (hk : lw_ok ps) (hi : i < ps.length) (hne : (ps.getD i (0, [])).2 ≠ []) (hf : ∀ k, 1 ≤ k → k ≤ 7 → I 128 k = f k) :
    mx_Spec l mX12_comesTo (d + 2) 0 0 [.ref 120, .int (nI (lw_all (ps.take i)).length), .int (nI (lw_all (ps.take (i + 1))).length)] (sk0 c, I) (fun r h' => r = some (.int ((lw_ev f [] (ps.getD i (0, [])).2).headD 0)) ∧ ∃ I', h' = (sk0 c, I') ∧ ∀ k, k ≠ 127 → I' k = I k) := by
  have h400 : (lw_all ps).length ≤ 400 := Nat.le_trans (lw_all_code ps) hk.2.1
  have hsp := lw_all_split hi
  have hls : (lw_all (ps.take (i + 1))).length = (lw_all (ps.take i)).length + (ps.getD i (0, [])).2.length := by rw [lw_all_s hi]; simp
  have hlen : (lw_all ps).length = (lw_all (ps.take i)).length + ((ps.getD i (0, [])).2.length + (lw_all (ps.drop (i + 1))).length) := by rw [hsp]; simp
  have hty : lw_ty [] (ps.getD i (0, [])).2 = some [true] := ((hk.2.2 _ (lw_mem hi (0, []))).2).resolve_left hne
  refine sn_X12_comesTo _ _ ?_
  refine ct_loop (f := f) (s := []) (s' := [true]) (st := []) (by omega) (ps.getD i (0, [])).2 _ I (by rw [hls]) (fun j hj => ?_) hf trivial (by simp) hty trivial (fun I' h1 h2 h3 => ⟨?_, I', rfl, h1⟩)
  · have h1 := hM.2 ((lw_all (ps.take i)).length + j) (by omega)
    have h2 : (lw_all ps).getD ((lw_all (ps.take i)).length + j) (0, 0) = (ps.getD i (0, [])).2.getD j (0, 0) := by
      rw [hsp]
      generalize (ps.getD i (0, [])).2 = q at hj
      rw [List.getD_eq_getElem?_getD, List.getD_eq_getElem?_getD, List.getElem?_append_right (by omega), Nat.add_sub_cancel_left, List.getElem?_append_left hj]
    rw [h2] at h1
    exact h1
  · have hl := h3.len
    cases hq : lw_ev f [] (ps.getD i (0, [])).2 with
    | nil => rw [hq] at hl; simp at hl
    | cons a st =>
      rw [hq] at hl h2
      have : st = [] := by simpa using hl.symm
      subst this
      rw [← h2.1]
      rfl
def lw_f (wt room since heap own hour trips : Int32) (k : Nat) : Int32 := if k = 1 then wt else if k = 2 then room else if k = 3 then since else if k = 4 then heap else if k = 5 then own else if k = 6 then hour else trips
theorem it_loop {d : Nat} {Q : Option Value → mx_H → Prop} {ps : lw_ps} {f : Nat → Int32} (hk : lw_ok ps) {x1 x2 x3 x4 : Int32} : ∀ (m i : Nat) (I : mx_I), i + m = ps.length → I 121 1600 = nI ps.length → LawM ps (I 121) → (∀ k, 1 ≤ k → k ≤ 7 → I 128 k = f k) →
    (∀ I', (∀ k, k ≠ 127 → I' k = I k) → Q (some (.int (b2i (lw_lets f (ps.drop i))))) (sk0 c, I')) →
    mx_Go l (mx_rm (d + 3) 0 0) mX12_isTaken (mx_Z Q 0 0) 0 0 78 [.ref 120, .int x1, .int x2, .int x3, .int x4, .int (nI i)] [] (sk0 c, I) := by
  intro m
  induction m with
  | zero =>
    intro i I hi hn hM hf hQ
    have h16 := hk.1
    have e1 : I 121 1600 ≤ nI i := by rw [hn, nI_leI (by omega) (by omega)]; omega
    have q := hQ I (fun _ _ => rfl)
    rw [List.drop_eq_nil_of_le (by omega)] at q
    apply sg_X12_isTaken_78 <;> intros <;> first | exact q | exact absurd e1 ‹_›
  | succ m ih =>
    intro i I hi hn hM hf hQ
    have h16 := hk.1
    have hlt : i < ps.length := by omega
    have e1 : ¬ I 121 1600 ≤ nI i := fun z => by rw [hn, nI_leI (by omega) (by omega)] at z; omega
    obtain ⟨w1, w2, w3⟩ := hM.1 i hlt
    have x1' : (1645 + nI i : Int32) = nI (1645 + i) := by rw [show (1645 : Int32) = nI 1645 from rfl, nI_add]
    have x2' : (1625 + nI i : Int32) = nI (1625 + i) := by rw [show (1625 : Int32) = nI 1625 from rfl, nI_add]
    have x3' : (1605 + nI i : Int32) = nI (1605 + i) := by rw [show (1605 : Int32) = nI 1605 from rfl, nI_add]
    have b1 : vp_in (nI (1645 + i)) 2490 := i_vp (by omega) (by omega)
    have b2 : vp_in (nI (1625 + i)) 2490 := i_vp (by omega) (by omega)
    have b3 : vp_in (nI (1605 + i)) 2490 := i_vp (by omega) (by omega)
    have h400 : (lw_all ps).length ≤ 400 := Nat.le_trans (lw_all_code ps) hk.2.1
    have hls : (lw_all (ps.take (i + 1))).length = (lw_all (ps.take i)).length + (ps.getD i (0, [])).2.length := by rw [lw_all_s hlt]; simp
    have hlen : (lw_all ps).length = (lw_all (ps.take i)).length + ((ps.getD i (0, [])).2.length + (lw_all (ps.drop (i + 1))).length) := by rw [lw_all_split hlt]; simp
    have hq0 : (ps.getD i (0, [])).1 = 0 ∨ (ps.getD i (0, [])).1 = 1 := (hk.2.2 _ (lw_mem hlt (0, []))).1
    have hQ' := hQ
    rw [lw_getD hlt (0, [])] at hQ'
    simp only [lw_lets] at hQ'
    have S := @sg_X12_isTaken_78 l (d + 2) Q c I x1 x2 x3 x4 (nI i)
    rw [x1', x2', x3', nI_clamp (by omega), nI_clamp (by omega), nI_clamp (by omega), w1, w2, w3] at S
    have eqv : nI (lw_all (ps.take (i + 1))).length = nI (lw_all (ps.take i)).length ↔ (ps.getD i (0, [])).2 = [] := by
      rw [nI_eq (by omega) (by omega), hls]
      exact ⟨fun z => List.length_eq_zero_iff.mp (by omega), fun z => by rw [z]; simp⟩
    apply S <;> intros <;> first | exact absurd ‹I 121 1600 ≤ nI i› e1 | exact b1 | exact b2 | exact b3 | skip
    · rename_i g1 g2 g3
      have q := hQ' I (fun _ _ => rfl)
      rw [if_pos (Or.inl (eqv.mp g2)), decide_eq_false g3] at q
      exact q
    · rename_i g1 g2 g3
      have q := hQ' I (fun _ _ => rfl)
      rw [if_pos (Or.inl (eqv.mp g2)), decide_eq_true g3] at q
      exact q
    · rename_i g1 g2
      have hne : (ps.getD i (0, [])).2 ≠ [] := fun z => g2 (eqv.mpr z)
      refine ⟨_, sp_comesTo hM hk hlt hne hf, ?_⟩
      rintro _ _ ⟨rfl, I', rfl, hI⟩
      have T := @sg_X12_isTaken_142 l (d + 2) Q c I' x1 x2 x3 x4 (nI i)
      rw [hI 121 (by omega), x3', nI_clamp (by omega), w1] at T
      apply T <;> intros <;> first | exact b3 | skip
      · rename_i g3
        rw [nI_1]
        have hQ2 := hQ'
        rw [if_neg (fun z => z.elim hne g3)] at hQ2
        exact ih (i + 1) I' (by omega) (by rw [hI 121 (by omega)]; exact hn) (by rw [hI 121 (by omega)]; exact hM) (fun k k1 k7 => by rw [hI 128 (by omega)]; exact hf k k1 k7) (fun I2 h2 => hQ2 I2 (fun k hk => by rw [h2 k hk, hI k hk]))
      · rename_i g3 g4
        have q := hQ' I' hI
        rw [if_pos (Or.inr g3), decide_eq_false g4] at q
        exact q
      · rename_i g3 g4
        have q := hQ' I' hI
        rw [if_pos (Or.inr g3), decide_eq_true g4] at q
        exact q
set_option maxHeartbeats 1000000 in
theorem sp_isTaken {d : Nat} {I : mx_I} {ps : lw_ps} {k : Nat} (hk : lw_ok ps) (hn : I 121 1600 = nI ps.length) (hM : LawM ps (I 121)) (h30 : k < 30) (room own hour : Int32) :
    mx_Spec l mX12_isTaken (d + 3) 0 0 [.ref 120, .int (nI k), .int room, .int own, .int hour] (sk0 c, I) (fun r h' => r = some (.int (b2i (lw_lets (lw_f (I 121 (20 + 10 * k)) room (hour - I 121 (26 + 10 * k)) (I 120 29) own hour (I 121 (27 + 10 * k))) ps))) ∧ ∃ I', h' = (sk0 c, I') ∧ ∀ k, k ≠ 127 → k ≠ 128 → I' k = I k) := by
  refine sn_X12_isTaken _ _ _ _ ⟨_, sp_ofLoad 0 rfl h30 (by omega), ?_⟩
  rintro _ _ ⟨rfl, rfl⟩
  refine sg_X12_isTaken_11 _ _ _ _ _ _ (i_vp (k := 1) (by omega) (by omega)) ⟨_, sp_ofLoad 6 rfl h30 (by omega), ?_⟩
  rintro _ _ ⟨rfl, rfl⟩
  refine sg_X12_isTaken_33 _ _ _ _ _ _ _ (i_vp (k := 3) (by omega) (by omega)) ⟨_, sp_ofLoad 7 rfl h30 (by omega), ?_⟩
  rintro _ _ ⟨rfl, rfl⟩
  refine sg_X12_isTaken_74 _ _ _ _ _ _ (i_vp (k := 7) (by omega) (by omega)) ?_
  simp only [ms_ne (show (121 : Nat) ≠ 128 by omega), ms_ne (show (120 : Nat) ≠ 128 by omega)]
  rw [show (1 : Int32).toNatClampNeg = 1 from by decide, show (3 : Int32).toNatClampNeg = 3 from by decide, show (7 : Int32).toNatClampNeg = 7 from by decide]
  rw [show 20 + 10 * k + 6 = 26 + 10 * k from by omega, show 20 + 10 * k + 7 = 27 + 10 * k from by omega]
  have key := fun J hJ1 hJ2 hJ3 hJ4 => it_loop (l := l) (c := c) (d := d) (Q := fun r h' => r = some (.int (b2i (lw_lets (lw_f (I 121 (20 + 10 * k)) room (hour - I 121 (26 + 10 * k)) (I 120 29) own hour (I 121 (27 + 10 * k))) ps))) ∧ ∃ I', h' = (sk0 c, I') ∧ ∀ k, k ≠ 127 → k ≠ 128 → I' k = I k) hk (f := lw_f (I 121 (20 + 10 * k)) room (hour - I 121 (26 + 10 * k)) (I 120 29) own hour (I 121 (27 + 10 * k))) (x1 := nI k) (x2 := room) (x3 := own) (x4 := hour) ps.length 0 J (by omega) hJ1 hJ2 hJ3 hJ4
  refine key _ ?_ ?_ ?_ ?_
  · simp only [ms_ne (show (121 : Nat) ≠ 128 by omega)]; exact hn
  · simp only [ms_ne (show (121 : Nat) ≠ 128 by omega)]; exact hM
  · intro j j1 j7
    have : j = 1 ∨ j = 2 ∨ j = 3 ∨ j = 4 ∨ j = 5 ∨ j = 6 ∨ j = 7 := by omega
    rcases this with rfl | rfl | rfl | rfl | rfl | rfl | rfl <;> simp [ms_self, upd, lw_f]
  · intro I' h1
    rw [List.drop_zero]
    refine ⟨rfl, I', rfl, fun k k1 k2 => ?_⟩
    rw [h1 k k1]
    simp only [ms_ne k2]
end M
