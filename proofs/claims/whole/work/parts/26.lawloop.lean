def mx_PrI (l : Launch) (Sim : Nat → mx_I → Prop) (Mx Mm : mx_M) (As : List Value) : Prop := ∀ (c : Nat) (I : mx_I), Sim c I → mx_K1 l Mx 100 (.ref 0 :: As) (sk0 c, I) (fun r h1 => ∃ (v : Int32) (c1 : Nat) (I1 : mx_I), r = some (.int v) ∧ h1 = (sk0 c1, I1) ∧ mx_K1 l Mm 100 (.ref 120 :: As) (sk0 c1, I1) (fun r2 h2 => r2 = some (.int v) ∧ ∃ (c2 : Nat) (I2 : mx_I), h2 = (sk0 c2, I2) ∧ Sim c2 I2))
def mx_PrL (l : Launch) (Sim : Nat → mx_I → Prop) (Mx Mm : mx_M) (As : List Value) : Prop := ∀ (c : Nat) (I : mx_I), Sim c I → mx_K1 l Mx 100 (.ref 0 :: As) (sk0 c, I) (fun r h1 => ∃ (v : Int64) (c1 : Nat) (I1 : mx_I), r = some (.long v) ∧ h1 = (sk0 c1, I1) ∧ mx_K1 l Mm 100 (.ref 120 :: As) (sk0 c1, I1) (fun r2 h2 => r2 = some (.long v) ∧ ∃ (c2 : Nat) (I2 : mx_I), h2 = (sk0 c2, I2) ∧ Sim c2 I2))
theorem law_in {L0 i : Nat} (hL : L0 ≤ 3584) (hi : i ≤ 4000) (h : ¬ ((Int32.ofNat L0) - 7) < nI i) : i + 7 ≤ L0 := by
  rcases Nat.lt_or_ge L0 (i + 7) with q | q
  · refine absurd ?_ h
    rw [Int32.lt_iff_toInt_lt]
    have e1 : (nI L0 - nI 7).toInt = (L0 : Int) - (7 : Nat) := pk_sub_toInt (by omega) (by omega)
    have e2 : (nI i).toInt = (i : Int) := nI_toInt (by omega)
    have e3 : ((Int32.ofNat L0) - 7 : Int32) = nI L0 - nI 7 := rfl
    rw [e3, e1, e2]
    omega
  · exact q
theorem law_b {L0 i k : Nat} {x : Int32} (hL : L0 ≤ 3584) (h : i + 7 ≤ L0) (hk : k < 7) (hx : nI i + x = nI (i + k)) : vp_in (nI i + x) L0 := by
  rw [hx]
  exact vp_in_nI (by omega) (by omega)
set_option maxRecDepth 10000 in
set_option maxHeartbeats 8000000 in
theorem law_loop {l : Launch} {Z : mx_G → List Frame → Array Value → State → State → Prop} {L0 : Nat} {xs : Nat → Int32} {Sim : Nat → mx_I → Prop} (hL : L0 ≤ 3584) (p_bridges : ∀ a1 : Int32, mx_PrI l Sim mX11_bridges mX12_bridges [.int a1]) (p_load : ∀ a1 a2 a3 : Int32, mx_PrI l Sim mX11_load mX12_load [.int a1, .int a2, .int a3]) (p_fetch : ∀ a1 a2 a3 : Int32, mx_PrI l Sim mX11_fetch mX12_fetch [.int a1, .int a2, .int a3]) (p_crosser : ∀ a1 a2 a3 a4 a5 a6 : Int32, mx_PrI l Sim mX11_crosser mX12_crosser [.int a1, .int a2, .int a3, .int a4, .int a5, .int a6]) (p_kind : ∀ a1 a2 a3 : Int32, mx_PrI l Sim mX11_kind mX12_kind [.int a1, .int a2, .int a3]) (p_set : ∀ a1 a2 a3 : Int32, mx_PrI l Sim mX11_set mX12_set [.int a1, .int a2, .int a3]) (p_feed : ∀ a1 a2 a3 a4 a5 : Int32, mx_PrI l Sim mX11_feed mX12_feed [.int a1, .int a2, .int a3, .int a4, .int a5]) (p_end : ∀ a1 : Int32, mx_PrI l Sim mX11_end mX12_end [.int a1]) (p_text : mx_PrI l Sim mX11_text mX12_text []) (p_fault : ∀ a1 : Int32, mx_PrI l Sim mX11_fault mX12_fault [.int a1]) (p_hours : ∀ a1 : Int32, mx_PrI l Sim mX11_hours mX12_hours [.int a1]) (p_of : ∀ a1 a2 : Int32, mx_PrI l Sim mX11_of mX12_of [.int a1, .int a2]) (p_who : ∀ a1 a2 : Int32, mx_PrI l Sim mX11_who mX12_who [.int a1, .int a2]) (p_waits : ∀ a1 a2 : Int32, mx_PrI l Sim mX11_waits mX12_waits [.int a1, .int a2]) (p_book : ∀ a1 a2 : Int32, mx_PrI l Sim mX11_book mX12_book [.int a1, .int a2]) (p_over : ∀ a1 a2 : Int32, mx_PrI l Sim mX11_over mX12_over [.int a1, .int a2]) (p_back : ∀ a1 : Int32, mx_PrI l Sim mX11_back mX12_back [.int a1]) (p_gathers : ∀ a1 a2 a3 : Int32, mx_PrI l Sim mX11_gathers mX12_gathers [.int a1, .int a2, .int a3]) (p_best : ∀ a1 a2 a3 a4 a5 a6 : Int32, mx_PrI l Sim mX11_best mX12_best [.int a1, .int a2, .int a3, .int a4, .int a5, .int a6]) (p_send : ∀ a1 a2 a3 a4 a5 a6 : Int32, mx_PrI l Sim mX11_send mX12_send [.int a1, .int a2, .int a3, .int a4, .int a5, .int a6]) (p_offer : ∀ a1 a2 a3 a4 a5 : Int32, mx_PrI l Sim mX11_offer mX12_offer [.int a1, .int a2, .int a3, .int a4, .int a5]) (p_fewest : ∀ a1 a2 a3 a4 : Int32, mx_PrI l Sim mX11_fewest mX12_fewest [.int a1, .int a2, .int a3, .int a4]) (p_right : ∀ a1 : Int32, mx_PrI l Sim mX11_right mX12_right [.int a1]) (p_list : ∀ a1 a2 a3 : Int32, mx_PrI l Sim mX11_list mX12_list [.int a1, .int a2, .int a3]) (p_night : ∀ a1 : Int32, mx_PrI l Sim mX11_night mX12_night [.int a1]) (p_chance : ∀ a1 a2 a3 a4 : Int32, mx_PrL l Sim mX11_chance mX12_chance [.int a1, .int a2, .int a3, .int a4]) (p_image : ∀ a : Int32, a = 0 ∨ a = 1 → mx_PrI l Sim mX11_image mX12_image [.int a]) (p_look : ∀ a1 : Int32, mx_PrI l Sim mX11_look mX12_look [.int a1])
    (hend : ∀ (x : Int32) (c : Nat) (I : mx_I), Sim c I → mx_Go l room_1 mL_law (mx_S L0 xs Z) 132 13954 1284 [.ref 1000, .ref 0, .ref 120, .int x] [.int 1] (sk0 c, I)) :
    ∀ (n i : Nat), i ≤ 3600 → 3600 - i < n → ∀ (c : Nat) (I : mx_I), Sim c I → mx_Go l room_1 mL_law (mx_S L0 xs Z) 132 13954 18 [.ref 1000, .ref 0, .ref 120, .int (nI i)] [] (sk0 c, I) := by
  intro n
  induction n with
  | zero => intro i _ h; omega
  | succ n ih0 =>
    intro i hi hn c I hs
    have ih : ∀ j, i < j → j ≤ 3600 → ∀ c I, Sim c I → mx_Go l room_1 mL_law (mx_S L0 xs Z) 132 13954 18 [.ref 1000, .ref 0, .ref 120, .int (nI j)] [] (sk0 c, I) := fun j h1 h2 c I hs => ih0 j h2 (by omega) c I hs
    have ih : ∀ j, j = i + 7 → j ≤ 3600 → ∀ c I, Sim c I → mx_Go l room_1 mL_law (mx_S L0 xs Z) 132 13954 18 [.ref 1000, .ref 0, .ref 120, .int (nI i + 7)] [] (sk0 c, I) := fun j h1 h2 c I hs => by subst h1; rw [show (nI i + 7 : Int32) = nI (i + 7) from nI_add i 7]; exact ih (i + 7) (by omega) h2 c I hs
    refine sg_law_18 (nI i)
      (fun _ => hend _ _ _ hs)
      (fun c1 => vp_in_nI (by have := law_in hL (by omega) c1; omega) (by omega))
      (fun c1 _ => law_b (k := 1) hL (law_in hL (by omega) c1) (by decide) (nI_add i 1))
      (fun c1 _ => by
      have hb := law_in hL (by omega) c1
      obtain ⟨Q1, S1, h1⟩ := p_bridges (xs ((nI i) + 1).toNatClampNeg) c I hs
      refine ⟨Q1, S1, fun r h9 hq => ?_⟩
      obtain ⟨v, c1, I1, rfl, rfl, Q2, S2, h2⟩ := h1 r h9 hq
      exact sg_law_169 _ _ (law_b (k := 1) hL hb (by decide) (nI_add i 1)) (⟨Q2, S2, fun r2 h3 hq2 => by obtain ⟨rfl, c2, I2, rfl, hs2⟩ := h2 r2 h3 hq2; exact sg_law_178 _ _ _ (fun _ => ih (i + 7) rfl (by omega) c2 I2 hs2) (fun hne => hne rfl)⟩))
      (fun c1 _ => law_b (k := 1) hL (law_in hL (by omega) c1) (by decide) (nI_add i 1))
      (fun c1 _ => law_b (k := 2) hL (law_in hL (by omega) c1) (by decide) (nI_add i 2))
      (fun c1 _ => law_b (k := 3) hL (law_in hL (by omega) c1) (by decide) (nI_add i 3))
      (fun c1 _ => by
      have hb := law_in hL (by omega) c1
      obtain ⟨Q1, S1, h1⟩ := p_load (xs ((nI i) + 1).toNatClampNeg) (xs ((nI i) + 2).toNatClampNeg) (xs ((nI i) + 3).toNatClampNeg) c I hs
      refine ⟨Q1, S1, fun r h9 hq => ?_⟩
      obtain ⟨v, c1, I1, rfl, rfl, Q2, S2, h2⟩ := h1 r h9 hq
      exact sg_law_202 _ _ (law_b (k := 1) hL hb (by decide) (nI_add i 1)) (law_b (k := 2) hL hb (by decide) (nI_add i 2)) (law_b (k := 3) hL hb (by decide) (nI_add i 3)) (⟨Q2, S2, fun r2 h3 hq2 => by obtain ⟨rfl, c2, I2, rfl, hs2⟩ := h2 r2 h3 hq2; exact sg_law_221 _ _ _ (fun _ => ih (i + 7) rfl (by omega) c2 I2 hs2) (fun hne => hne rfl)⟩))
      (fun c1 _ => law_b (k := 1) hL (law_in hL (by omega) c1) (by decide) (nI_add i 1))
      (fun c1 _ => law_b (k := 2) hL (law_in hL (by omega) c1) (by decide) (nI_add i 2))
      (fun c1 _ => law_b (k := 3) hL (law_in hL (by omega) c1) (by decide) (nI_add i 3))
      (fun c1 _ => by
      have hb := law_in hL (by omega) c1
      obtain ⟨Q1, S1, h1⟩ := p_fetch (xs ((nI i) + 1).toNatClampNeg) (xs ((nI i) + 2).toNatClampNeg) (xs ((nI i) + 3).toNatClampNeg) c I hs
      refine ⟨Q1, S1, fun r h9 hq => ?_⟩
      obtain ⟨v, c1, I1, rfl, rfl, Q2, S2, h2⟩ := h1 r h9 hq
      exact sg_law_245 _ _ (law_b (k := 1) hL hb (by decide) (nI_add i 1)) (law_b (k := 2) hL hb (by decide) (nI_add i 2)) (law_b (k := 3) hL hb (by decide) (nI_add i 3)) (⟨Q2, S2, fun r2 h3 hq2 => by obtain ⟨rfl, c2, I2, rfl, hs2⟩ := h2 r2 h3 hq2; exact sg_law_264 _ _ _ (fun _ => ih (i + 7) rfl (by omega) c2 I2 hs2) (fun hne => hne rfl)⟩))
      (fun c1 _ => law_b (k := 1) hL (law_in hL (by omega) c1) (by decide) (nI_add i 1))
      (fun c1 _ => law_b (k := 2) hL (law_in hL (by omega) c1) (by decide) (nI_add i 2))
      (fun c1 _ => law_b (k := 3) hL (law_in hL (by omega) c1) (by decide) (nI_add i 3))
      (fun c1 _ => law_b (k := 4) hL (law_in hL (by omega) c1) (by decide) (nI_add i 4))
      (fun c1 _ => law_b (k := 5) hL (law_in hL (by omega) c1) (by decide) (nI_add i 5))
      (fun c1 _ => law_b (k := 6) hL (law_in hL (by omega) c1) (by decide) (nI_add i 6))
      (fun c1 _ => by
      have hb := law_in hL (by omega) c1
      obtain ⟨Q1, S1, h1⟩ := p_crosser (xs ((nI i) + 1).toNatClampNeg) (xs ((nI i) + 2).toNatClampNeg) (xs ((nI i) + 3).toNatClampNeg) (xs ((nI i) + 4).toNatClampNeg) (xs ((nI i) + 5).toNatClampNeg) (xs ((nI i) + 6).toNatClampNeg) c I hs
      refine ⟨Q1, S1, fun r h9 hq => ?_⟩
      obtain ⟨v, c1, I1, rfl, rfl, Q2, S2, h2⟩ := h1 r h9 hq
      exact sg_law_304 _ _ (law_b (k := 1) hL hb (by decide) (nI_add i 1)) (law_b (k := 2) hL hb (by decide) (nI_add i 2)) (law_b (k := 3) hL hb (by decide) (nI_add i 3)) (law_b (k := 4) hL hb (by decide) (nI_add i 4)) (law_b (k := 5) hL hb (by decide) (nI_add i 5)) (law_b (k := 6) hL hb (by decide) (nI_add i 6)) (⟨Q2, S2, fun r2 h3 hq2 => by obtain ⟨rfl, c2, I2, rfl, hs2⟩ := h2 r2 h3 hq2; exact sg_law_339 _ _ _ (fun _ => ih (i + 7) rfl (by omega) c2 I2 hs2) (fun hne => hne rfl)⟩))
      (fun c1 _ => law_b (k := 1) hL (law_in hL (by omega) c1) (by decide) (nI_add i 1))
      (fun c1 _ => law_b (k := 2) hL (law_in hL (by omega) c1) (by decide) (nI_add i 2))
      (fun c1 _ => law_b (k := 3) hL (law_in hL (by omega) c1) (by decide) (nI_add i 3))
      (fun c1 _ => by
      have hb := law_in hL (by omega) c1
      obtain ⟨Q1, S1, h1⟩ := p_kind (xs ((nI i) + 1).toNatClampNeg) (xs ((nI i) + 2).toNatClampNeg) (xs ((nI i) + 3).toNatClampNeg) c I hs
      refine ⟨Q1, S1, fun r h9 hq => ?_⟩
      obtain ⟨v, c1, I1, rfl, rfl, Q2, S2, h2⟩ := h1 r h9 hq
      exact sg_law_363 _ _ (law_b (k := 1) hL hb (by decide) (nI_add i 1)) (law_b (k := 2) hL hb (by decide) (nI_add i 2)) (law_b (k := 3) hL hb (by decide) (nI_add i 3)) (⟨Q2, S2, fun r2 h3 hq2 => by obtain ⟨rfl, c2, I2, rfl, hs2⟩ := h2 r2 h3 hq2; exact sg_law_382 _ _ _ (fun _ => ih (i + 7) rfl (by omega) c2 I2 hs2) (fun hne => hne rfl)⟩))
      (fun c1 _ => law_b (k := 1) hL (law_in hL (by omega) c1) (by decide) (nI_add i 1))
      (fun c1 _ => law_b (k := 2) hL (law_in hL (by omega) c1) (by decide) (nI_add i 2))
      (fun c1 _ => law_b (k := 3) hL (law_in hL (by omega) c1) (by decide) (nI_add i 3))
      (fun c1 _ => by
      have hb := law_in hL (by omega) c1
      obtain ⟨Q1, S1, h1⟩ := p_set (xs ((nI i) + 1).toNatClampNeg) (xs ((nI i) + 2).toNatClampNeg) (xs ((nI i) + 3).toNatClampNeg) c I hs
      refine ⟨Q1, S1, fun r h9 hq => ?_⟩
      obtain ⟨v, c1, I1, rfl, rfl, Q2, S2, h2⟩ := h1 r h9 hq
      exact sg_law_406 _ _ (law_b (k := 1) hL hb (by decide) (nI_add i 1)) (law_b (k := 2) hL hb (by decide) (nI_add i 2)) (law_b (k := 3) hL hb (by decide) (nI_add i 3)) (⟨Q2, S2, fun r2 h3 hq2 => by obtain ⟨rfl, c2, I2, rfl, hs2⟩ := h2 r2 h3 hq2; exact sg_law_425 _ _ _ (fun _ => ih (i + 7) rfl (by omega) c2 I2 hs2) (fun hne => hne rfl)⟩))
      (fun c1 _ => law_b (k := 1) hL (law_in hL (by omega) c1) (by decide) (nI_add i 1))
      (fun c1 _ => law_b (k := 2) hL (law_in hL (by omega) c1) (by decide) (nI_add i 2))
      (fun c1 _ => law_b (k := 3) hL (law_in hL (by omega) c1) (by decide) (nI_add i 3))
      (fun c1 _ => law_b (k := 4) hL (law_in hL (by omega) c1) (by decide) (nI_add i 4))
      (fun c1 _ => law_b (k := 5) hL (law_in hL (by omega) c1) (by decide) (nI_add i 5))
      (fun c1 _ => by
      have hb := law_in hL (by omega) c1
      obtain ⟨Q1, S1, h1⟩ := p_feed (xs ((nI i) + 1).toNatClampNeg) (xs ((nI i) + 2).toNatClampNeg) (xs ((nI i) + 3).toNatClampNeg) (xs ((nI i) + 4).toNatClampNeg) (xs ((nI i) + 5).toNatClampNeg) c I hs
      refine ⟨Q1, S1, fun r h9 hq => ?_⟩
      obtain ⟨v, c1, I1, rfl, rfl, Q2, S2, h2⟩ := h1 r h9 hq
      exact sg_law_459 _ _ (law_b (k := 1) hL hb (by decide) (nI_add i 1)) (law_b (k := 2) hL hb (by decide) (nI_add i 2)) (law_b (k := 3) hL hb (by decide) (nI_add i 3)) (law_b (k := 4) hL hb (by decide) (nI_add i 4)) (law_b (k := 5) hL hb (by decide) (nI_add i 5)) (⟨Q2, S2, fun r2 h3 hq2 => by obtain ⟨rfl, c2, I2, rfl, hs2⟩ := h2 r2 h3 hq2; exact sg_law_488 _ _ _ (fun _ => ih (i + 7) rfl (by omega) c2 I2 hs2) (fun hne => hne rfl)⟩))
      (fun c1 _ => law_b (k := 1) hL (law_in hL (by omega) c1) (by decide) (nI_add i 1))
      (fun c1 _ => by
      have hb := law_in hL (by omega) c1
      obtain ⟨Q1, S1, h1⟩ := p_end (xs ((nI i) + 1).toNatClampNeg) c I hs
      refine ⟨Q1, S1, fun r h9 hq => ?_⟩
      obtain ⟨v, c1, I1, rfl, rfl, Q2, S2, h2⟩ := h1 r h9 hq
      exact sg_law_502 _ _ (law_b (k := 1) hL hb (by decide) (nI_add i 1)) (⟨Q2, S2, fun r2 h3 hq2 => by obtain ⟨rfl, c2, I2, rfl, hs2⟩ := h2 r2 h3 hq2; exact sg_law_511 _ _ _ (fun _ => ih (i + 7) rfl (by omega) c2 I2 hs2) (fun hne => hne rfl)⟩))
      (fun c1 _ => by
      have hb := law_in hL (by omega) c1
      obtain ⟨Q1, S1, h1⟩ := p_text  c I hs
      refine ⟨Q1, S1, fun r h9 hq => ?_⟩
      obtain ⟨v, c1, I1, rfl, rfl, Q2, S2, h2⟩ := h1 r h9 hq
      exact sg_law_520 _ _ (⟨Q2, S2, fun r2 h3 hq2 => by obtain ⟨rfl, c2, I2, rfl, hs2⟩ := h2 r2 h3 hq2; exact sg_law_524 _ _ _ (fun _ => ih (i + 7) rfl (by omega) c2 I2 hs2) (fun hne => hne rfl)⟩))
      (fun c1 _ => law_b (k := 1) hL (law_in hL (by omega) c1) (by decide) (nI_add i 1))
      (fun c1 _ => by
      have hb := law_in hL (by omega) c1
      obtain ⟨Q1, S1, h1⟩ := p_fault (xs ((nI i) + 1).toNatClampNeg) c I hs
      refine ⟨Q1, S1, fun r h9 hq => ?_⟩
      obtain ⟨v, c1, I1, rfl, rfl, Q2, S2, h2⟩ := h1 r h9 hq
      exact sg_law_538 _ _ (law_b (k := 1) hL hb (by decide) (nI_add i 1)) (⟨Q2, S2, fun r2 h3 hq2 => by obtain ⟨rfl, c2, I2, rfl, hs2⟩ := h2 r2 h3 hq2; exact sg_law_547 _ _ _ (fun _ => ih (i + 7) rfl (by omega) c2 I2 hs2) (fun hne => hne rfl)⟩))
      (fun c1 _ => law_b (k := 1) hL (law_in hL (by omega) c1) (by decide) (nI_add i 1))
      (fun c1 _ => by
      have hb := law_in hL (by omega) c1
      obtain ⟨Q1, S1, h1⟩ := p_hours (xs ((nI i) + 1).toNatClampNeg) c I hs
      refine ⟨Q1, S1, fun r h9 hq => ?_⟩
      obtain ⟨v, c1, I1, rfl, rfl, Q2, S2, h2⟩ := h1 r h9 hq
      exact sg_law_561 _ _ (law_b (k := 1) hL hb (by decide) (nI_add i 1)) (⟨Q2, S2, fun r2 h3 hq2 => by obtain ⟨rfl, c2, I2, rfl, hs2⟩ := h2 r2 h3 hq2; exact sg_law_570 _ _ _ (fun _ => ih (i + 7) rfl (by omega) c2 I2 hs2) (fun hne => hne rfl)⟩))
      (fun c1 _ => law_b (k := 1) hL (law_in hL (by omega) c1) (by decide) (nI_add i 1))
      (fun c1 _ => law_b (k := 2) hL (law_in hL (by omega) c1) (by decide) (nI_add i 2))
      (fun c1 _ => by
      have hb := law_in hL (by omega) c1
      obtain ⟨Q1, S1, h1⟩ := p_of (xs ((nI i) + 1).toNatClampNeg) (xs ((nI i) + 2).toNatClampNeg) c I hs
      refine ⟨Q1, S1, fun r h9 hq => ?_⟩
      obtain ⟨v, c1, I1, rfl, rfl, Q2, S2, h2⟩ := h1 r h9 hq
      exact sg_law_589 _ _ (law_b (k := 1) hL hb (by decide) (nI_add i 1)) (law_b (k := 2) hL hb (by decide) (nI_add i 2)) (⟨Q2, S2, fun r2 h3 hq2 => by obtain ⟨rfl, c2, I2, rfl, hs2⟩ := h2 r2 h3 hq2; exact sg_law_603 _ _ _ (fun _ => ih (i + 7) rfl (by omega) c2 I2 hs2) (fun hne => hne rfl)⟩))
      (fun c1 _ => law_b (k := 1) hL (law_in hL (by omega) c1) (by decide) (nI_add i 1))
      (fun c1 _ => law_b (k := 2) hL (law_in hL (by omega) c1) (by decide) (nI_add i 2))
      (fun c1 _ => by
      have hb := law_in hL (by omega) c1
      obtain ⟨Q1, S1, h1⟩ := p_who (xs ((nI i) + 1).toNatClampNeg) (xs ((nI i) + 2).toNatClampNeg) c I hs
      refine ⟨Q1, S1, fun r h9 hq => ?_⟩
      obtain ⟨v, c1, I1, rfl, rfl, Q2, S2, h2⟩ := h1 r h9 hq
      exact sg_law_622 _ _ (law_b (k := 1) hL hb (by decide) (nI_add i 1)) (law_b (k := 2) hL hb (by decide) (nI_add i 2)) (⟨Q2, S2, fun r2 h3 hq2 => by obtain ⟨rfl, c2, I2, rfl, hs2⟩ := h2 r2 h3 hq2; exact sg_law_636 _ _ _ (fun _ => ih (i + 7) rfl (by omega) c2 I2 hs2) (fun hne => hne rfl)⟩))
      (fun c1 _ => law_b (k := 1) hL (law_in hL (by omega) c1) (by decide) (nI_add i 1))
      (fun c1 _ => law_b (k := 2) hL (law_in hL (by omega) c1) (by decide) (nI_add i 2))
      (fun c1 _ => by
      have hb := law_in hL (by omega) c1
      obtain ⟨Q1, S1, h1⟩ := p_waits (xs ((nI i) + 1).toNatClampNeg) (xs ((nI i) + 2).toNatClampNeg) c I hs
      refine ⟨Q1, S1, fun r h9 hq => ?_⟩
      obtain ⟨v, c1, I1, rfl, rfl, Q2, S2, h2⟩ := h1 r h9 hq
      exact sg_law_655 _ _ (law_b (k := 1) hL hb (by decide) (nI_add i 1)) (law_b (k := 2) hL hb (by decide) (nI_add i 2)) (⟨Q2, S2, fun r2 h3 hq2 => by obtain ⟨rfl, c2, I2, rfl, hs2⟩ := h2 r2 h3 hq2; exact sg_law_669 _ _ _ (fun _ => ih (i + 7) rfl (by omega) c2 I2 hs2) (fun hne => hne rfl)⟩))
      (fun c1 _ => law_b (k := 1) hL (law_in hL (by omega) c1) (by decide) (nI_add i 1))
      (fun c1 _ => law_b (k := 2) hL (law_in hL (by omega) c1) (by decide) (nI_add i 2))
      (fun c1 _ => by
      have hb := law_in hL (by omega) c1
      obtain ⟨Q1, S1, h1⟩ := p_book (xs ((nI i) + 1).toNatClampNeg) (xs ((nI i) + 2).toNatClampNeg) c I hs
      refine ⟨Q1, S1, fun r h9 hq => ?_⟩
      obtain ⟨v, c1, I1, rfl, rfl, Q2, S2, h2⟩ := h1 r h9 hq
      exact sg_law_688 _ _ (law_b (k := 1) hL hb (by decide) (nI_add i 1)) (law_b (k := 2) hL hb (by decide) (nI_add i 2)) (⟨Q2, S2, fun r2 h3 hq2 => by obtain ⟨rfl, c2, I2, rfl, hs2⟩ := h2 r2 h3 hq2; exact sg_law_702 _ _ _ (fun _ => ih (i + 7) rfl (by omega) c2 I2 hs2) (fun hne => hne rfl)⟩))
      (fun c1 _ => law_b (k := 1) hL (law_in hL (by omega) c1) (by decide) (nI_add i 1))
      (fun c1 _ => law_b (k := 2) hL (law_in hL (by omega) c1) (by decide) (nI_add i 2))
      (fun c1 _ => by
      have hb := law_in hL (by omega) c1
      obtain ⟨Q1, S1, h1⟩ := p_over (xs ((nI i) + 1).toNatClampNeg) (xs ((nI i) + 2).toNatClampNeg) c I hs
      refine ⟨Q1, S1, fun r h9 hq => ?_⟩
      obtain ⟨v, c1, I1, rfl, rfl, Q2, S2, h2⟩ := h1 r h9 hq
      exact sg_law_721 _ _ (law_b (k := 1) hL hb (by decide) (nI_add i 1)) (law_b (k := 2) hL hb (by decide) (nI_add i 2)) (⟨Q2, S2, fun r2 h3 hq2 => by obtain ⟨rfl, c2, I2, rfl, hs2⟩ := h2 r2 h3 hq2; exact sg_law_735 _ _ _ (fun _ => ih (i + 7) rfl (by omega) c2 I2 hs2) (fun hne => hne rfl)⟩))
      (fun c1 _ => law_b (k := 1) hL (law_in hL (by omega) c1) (by decide) (nI_add i 1))
      (fun c1 _ => by
      have hb := law_in hL (by omega) c1
      obtain ⟨Q1, S1, h1⟩ := p_back (xs ((nI i) + 1).toNatClampNeg) c I hs
      refine ⟨Q1, S1, fun r h9 hq => ?_⟩
      obtain ⟨v, c1, I1, rfl, rfl, Q2, S2, h2⟩ := h1 r h9 hq
      exact sg_law_749 _ _ (law_b (k := 1) hL hb (by decide) (nI_add i 1)) (⟨Q2, S2, fun r2 h3 hq2 => by obtain ⟨rfl, c2, I2, rfl, hs2⟩ := h2 r2 h3 hq2; exact sg_law_758 _ _ _ (fun _ => ih (i + 7) rfl (by omega) c2 I2 hs2) (fun hne => hne rfl)⟩))
      (fun c1 _ => law_b (k := 1) hL (law_in hL (by omega) c1) (by decide) (nI_add i 1))
      (fun c1 _ => law_b (k := 2) hL (law_in hL (by omega) c1) (by decide) (nI_add i 2))
      (fun c1 _ => law_b (k := 3) hL (law_in hL (by omega) c1) (by decide) (nI_add i 3))
      (fun c1 _ => by
      have hb := law_in hL (by omega) c1
      obtain ⟨Q1, S1, h1⟩ := p_gathers (xs ((nI i) + 1).toNatClampNeg) (xs ((nI i) + 2).toNatClampNeg) (xs ((nI i) + 3).toNatClampNeg) c I hs
      refine ⟨Q1, S1, fun r h9 hq => ?_⟩
      obtain ⟨v, c1, I1, rfl, rfl, Q2, S2, h2⟩ := h1 r h9 hq
      exact sg_law_782 _ _ (law_b (k := 1) hL hb (by decide) (nI_add i 1)) (law_b (k := 2) hL hb (by decide) (nI_add i 2)) (law_b (k := 3) hL hb (by decide) (nI_add i 3)) (⟨Q2, S2, fun r2 h3 hq2 => by obtain ⟨rfl, c2, I2, rfl, hs2⟩ := h2 r2 h3 hq2; exact sg_law_801 _ _ _ (fun _ => ih (i + 7) rfl (by omega) c2 I2 hs2) (fun hne => hne rfl)⟩))
      (fun c1 _ => law_b (k := 1) hL (law_in hL (by omega) c1) (by decide) (nI_add i 1))
      (fun c1 _ => law_b (k := 2) hL (law_in hL (by omega) c1) (by decide) (nI_add i 2))
      (fun c1 _ => law_b (k := 3) hL (law_in hL (by omega) c1) (by decide) (nI_add i 3))
      (fun c1 _ => law_b (k := 4) hL (law_in hL (by omega) c1) (by decide) (nI_add i 4))
      (fun c1 _ => law_b (k := 5) hL (law_in hL (by omega) c1) (by decide) (nI_add i 5))
      (fun c1 _ => law_b (k := 6) hL (law_in hL (by omega) c1) (by decide) (nI_add i 6))
      (fun c1 _ => by
      have hb := law_in hL (by omega) c1
      obtain ⟨Q1, S1, h1⟩ := p_best (xs ((nI i) + 1).toNatClampNeg) (xs ((nI i) + 2).toNatClampNeg) (xs ((nI i) + 3).toNatClampNeg) (xs ((nI i) + 4).toNatClampNeg) (xs ((nI i) + 5).toNatClampNeg) (xs ((nI i) + 6).toNatClampNeg) c I hs
      refine ⟨Q1, S1, fun r h9 hq => ?_⟩
      obtain ⟨v, c1, I1, rfl, rfl, Q2, S2, h2⟩ := h1 r h9 hq
      exact sg_law_841 _ _ (law_b (k := 1) hL hb (by decide) (nI_add i 1)) (law_b (k := 2) hL hb (by decide) (nI_add i 2)) (law_b (k := 3) hL hb (by decide) (nI_add i 3)) (law_b (k := 4) hL hb (by decide) (nI_add i 4)) (law_b (k := 5) hL hb (by decide) (nI_add i 5)) (law_b (k := 6) hL hb (by decide) (nI_add i 6)) (⟨Q2, S2, fun r2 h3 hq2 => by obtain ⟨rfl, c2, I2, rfl, hs2⟩ := h2 r2 h3 hq2; exact sg_law_876 _ _ _ (fun _ => ih (i + 7) rfl (by omega) c2 I2 hs2) (fun hne => hne rfl)⟩))
      (fun c1 _ => law_b (k := 1) hL (law_in hL (by omega) c1) (by decide) (nI_add i 1))
      (fun c1 _ => law_b (k := 2) hL (law_in hL (by omega) c1) (by decide) (nI_add i 2))
      (fun c1 _ => law_b (k := 3) hL (law_in hL (by omega) c1) (by decide) (nI_add i 3))
      (fun c1 _ => law_b (k := 4) hL (law_in hL (by omega) c1) (by decide) (nI_add i 4))
      (fun c1 _ => law_b (k := 5) hL (law_in hL (by omega) c1) (by decide) (nI_add i 5))
      (fun c1 _ => law_b (k := 6) hL (law_in hL (by omega) c1) (by decide) (nI_add i 6))
      (fun c1 _ => by
      have hb := law_in hL (by omega) c1
      obtain ⟨Q1, S1, h1⟩ := p_send (xs ((nI i) + 1).toNatClampNeg) (xs ((nI i) + 2).toNatClampNeg) (xs ((nI i) + 3).toNatClampNeg) (xs ((nI i) + 4).toNatClampNeg) (xs ((nI i) + 5).toNatClampNeg) (xs ((nI i) + 6).toNatClampNeg) c I hs
      refine ⟨Q1, S1, fun r h9 hq => ?_⟩
      obtain ⟨v, c1, I1, rfl, rfl, Q2, S2, h2⟩ := h1 r h9 hq
      exact sg_law_916 _ _ (law_b (k := 1) hL hb (by decide) (nI_add i 1)) (law_b (k := 2) hL hb (by decide) (nI_add i 2)) (law_b (k := 3) hL hb (by decide) (nI_add i 3)) (law_b (k := 4) hL hb (by decide) (nI_add i 4)) (law_b (k := 5) hL hb (by decide) (nI_add i 5)) (law_b (k := 6) hL hb (by decide) (nI_add i 6)) (⟨Q2, S2, fun r2 h3 hq2 => by obtain ⟨rfl, c2, I2, rfl, hs2⟩ := h2 r2 h3 hq2; exact sg_law_951 _ _ _ (fun _ => ih (i + 7) rfl (by omega) c2 I2 hs2) (fun hne => hne rfl)⟩))
      (fun c1 _ => law_b (k := 1) hL (law_in hL (by omega) c1) (by decide) (nI_add i 1))
      (fun c1 _ => law_b (k := 2) hL (law_in hL (by omega) c1) (by decide) (nI_add i 2))
      (fun c1 _ => law_b (k := 3) hL (law_in hL (by omega) c1) (by decide) (nI_add i 3))
      (fun c1 _ => law_b (k := 4) hL (law_in hL (by omega) c1) (by decide) (nI_add i 4))
      (fun c1 _ => law_b (k := 5) hL (law_in hL (by omega) c1) (by decide) (nI_add i 5))
      (fun c1 _ => by
      have hb := law_in hL (by omega) c1
      obtain ⟨Q1, S1, h1⟩ := p_offer (xs ((nI i) + 1).toNatClampNeg) (xs ((nI i) + 2).toNatClampNeg) (xs ((nI i) + 3).toNatClampNeg) (xs ((nI i) + 4).toNatClampNeg) (xs ((nI i) + 5).toNatClampNeg) c I hs
      refine ⟨Q1, S1, fun r h9 hq => ?_⟩
      obtain ⟨v, c1, I1, rfl, rfl, Q2, S2, h2⟩ := h1 r h9 hq
      exact sg_law_985 _ _ (law_b (k := 1) hL hb (by decide) (nI_add i 1)) (law_b (k := 2) hL hb (by decide) (nI_add i 2)) (law_b (k := 3) hL hb (by decide) (nI_add i 3)) (law_b (k := 4) hL hb (by decide) (nI_add i 4)) (law_b (k := 5) hL hb (by decide) (nI_add i 5)) (⟨Q2, S2, fun r2 h3 hq2 => by obtain ⟨rfl, c2, I2, rfl, hs2⟩ := h2 r2 h3 hq2; exact sg_law_1014 _ _ _ (fun _ => ih (i + 7) rfl (by omega) c2 I2 hs2) (fun hne => hne rfl)⟩))
      (fun c1 _ => law_b (k := 1) hL (law_in hL (by omega) c1) (by decide) (nI_add i 1))
      (fun c1 _ => law_b (k := 2) hL (law_in hL (by omega) c1) (by decide) (nI_add i 2))
      (fun c1 _ => law_b (k := 3) hL (law_in hL (by omega) c1) (by decide) (nI_add i 3))
      (fun c1 _ => law_b (k := 4) hL (law_in hL (by omega) c1) (by decide) (nI_add i 4))
      (fun c1 _ => by
      have hb := law_in hL (by omega) c1
      obtain ⟨Q1, S1, h1⟩ := p_fewest (xs ((nI i) + 1).toNatClampNeg) (xs ((nI i) + 2).toNatClampNeg) (xs ((nI i) + 3).toNatClampNeg) (xs ((nI i) + 4).toNatClampNeg) c I hs
      refine ⟨Q1, S1, fun r h9 hq => ?_⟩
      obtain ⟨v, c1, I1, rfl, rfl, Q2, S2, h2⟩ := h1 r h9 hq
      exact sg_law_1043 _ _ (law_b (k := 1) hL hb (by decide) (nI_add i 1)) (law_b (k := 2) hL hb (by decide) (nI_add i 2)) (law_b (k := 3) hL hb (by decide) (nI_add i 3)) (law_b (k := 4) hL hb (by decide) (nI_add i 4)) (⟨Q2, S2, fun r2 h3 hq2 => by obtain ⟨rfl, c2, I2, rfl, hs2⟩ := h2 r2 h3 hq2; exact sg_law_1067 _ _ _ (fun _ => ih (i + 7) rfl (by omega) c2 I2 hs2) (fun hne => hne rfl)⟩))
      (fun c1 _ => law_b (k := 1) hL (law_in hL (by omega) c1) (by decide) (nI_add i 1))
      (fun c1 _ => by
      have hb := law_in hL (by omega) c1
      obtain ⟨Q1, S1, h1⟩ := p_right (xs ((nI i) + 1).toNatClampNeg) c I hs
      refine ⟨Q1, S1, fun r h9 hq => ?_⟩
      obtain ⟨v, c1, I1, rfl, rfl, Q2, S2, h2⟩ := h1 r h9 hq
      exact sg_law_1081 _ _ (law_b (k := 1) hL hb (by decide) (nI_add i 1)) (⟨Q2, S2, fun r2 h3 hq2 => by obtain ⟨rfl, c2, I2, rfl, hs2⟩ := h2 r2 h3 hq2; exact sg_law_1090 _ _ _ (fun _ => ih (i + 7) rfl (by omega) c2 I2 hs2) (fun hne => hne rfl)⟩))
      (fun c1 _ => law_b (k := 1) hL (law_in hL (by omega) c1) (by decide) (nI_add i 1))
      (fun c1 _ => law_b (k := 2) hL (law_in hL (by omega) c1) (by decide) (nI_add i 2))
      (fun c1 _ => law_b (k := 3) hL (law_in hL (by omega) c1) (by decide) (nI_add i 3))
      (fun c1 _ => by
      have hb := law_in hL (by omega) c1
      obtain ⟨Q1, S1, h1⟩ := p_list (xs ((nI i) + 1).toNatClampNeg) (xs ((nI i) + 2).toNatClampNeg) (xs ((nI i) + 3).toNatClampNeg) c I hs
      refine ⟨Q1, S1, fun r h9 hq => ?_⟩
      obtain ⟨v, c1, I1, rfl, rfl, Q2, S2, h2⟩ := h1 r h9 hq
      exact sg_law_1114 _ _ (law_b (k := 1) hL hb (by decide) (nI_add i 1)) (law_b (k := 2) hL hb (by decide) (nI_add i 2)) (law_b (k := 3) hL hb (by decide) (nI_add i 3)) (⟨Q2, S2, fun r2 h3 hq2 => by obtain ⟨rfl, c2, I2, rfl, hs2⟩ := h2 r2 h3 hq2; exact sg_law_1133 _ _ _ (fun _ => ih (i + 7) rfl (by omega) c2 I2 hs2) (fun hne => hne rfl)⟩))
      (fun c1 _ => law_b (k := 1) hL (law_in hL (by omega) c1) (by decide) (nI_add i 1))
      (fun c1 _ => by
      have hb := law_in hL (by omega) c1
      obtain ⟨Q1, S1, h1⟩ := p_night (xs ((nI i) + 1).toNatClampNeg) c I hs
      refine ⟨Q1, S1, fun r h9 hq => ?_⟩
      obtain ⟨v, c1, I1, rfl, rfl, Q2, S2, h2⟩ := h1 r h9 hq
      exact sg_law_1147 _ _ (law_b (k := 1) hL hb (by decide) (nI_add i 1)) (⟨Q2, S2, fun r2 h3 hq2 => by obtain ⟨rfl, c2, I2, rfl, hs2⟩ := h2 r2 h3 hq2; exact sg_law_1156 _ _ _ (fun _ => ih (i + 7) rfl (by omega) c2 I2 hs2) (fun hne => hne rfl)⟩))
      (fun c1 _ => law_b (k := 1) hL (law_in hL (by omega) c1) (by decide) (nI_add i 1))
      (fun c1 _ => law_b (k := 2) hL (law_in hL (by omega) c1) (by decide) (nI_add i 2))
      (fun c1 _ => law_b (k := 3) hL (law_in hL (by omega) c1) (by decide) (nI_add i 3))
      (fun c1 _ => law_b (k := 4) hL (law_in hL (by omega) c1) (by decide) (nI_add i 4))
      (fun c1 _ => by
      have hb := law_in hL (by omega) c1
      obtain ⟨Q1, S1, h1⟩ := p_chance (xs ((nI i) + 1).toNatClampNeg) (xs ((nI i) + 2).toNatClampNeg) (xs ((nI i) + 3).toNatClampNeg) (xs ((nI i) + 4).toNatClampNeg) c I hs
      refine ⟨Q1, S1, fun r h9 hq => ?_⟩
      obtain ⟨v, c1, I1, rfl, rfl, Q2, S2, h2⟩ := h1 r h9 hq
      exact sg_law_1185 _ _ (law_b (k := 1) hL hb (by decide) (nI_add i 1)) (law_b (k := 2) hL hb (by decide) (nI_add i 2)) (law_b (k := 3) hL hb (by decide) (nI_add i 3)) (law_b (k := 4) hL hb (by decide) (nI_add i 4)) (⟨Q2, S2, fun r2 h3 hq2 => by obtain ⟨rfl, c2, I2, rfl, hs2⟩ := h2 r2 h3 hq2; exact sg_law_1209 _ _ _ (fun _ => ih (i + 7) rfl (by omega) c2 I2 hs2) (fun hne => hne (by simp [lg_cmp]))⟩))
      (fun c1 _ => law_b (k := 1) hL (law_in hL (by omega) c1) (by decide) (nI_add i 1))
      (fun c1 _ ci => by
      have hb := law_in hL (by omega) c1
      obtain ⟨Q1, S1, h1⟩ := p_image 0 (by decide) c I hs
      refine ⟨Q1, S1, fun r h9 hq => ?_⟩
      obtain ⟨v, c1, I1, rfl, rfl, Q2, S2, h2⟩ := h1 r h9 hq
      exact sg_law_1232 _ _ (law_b (k := 1) hL hb (by decide) (nI_add i 1)) (fun q => ⟨Q2, S2, fun r2 h3 hq2 => by obtain ⟨rfl, c2, I2, rfl, hs2⟩ := h2 r2 h3 hq2; exact sg_law_1249 _ _ _ (fun _ => ih (i + 7) rfl (by omega) c2 I2 hs2) (fun hne => hne rfl)⟩) (fun q => absurd ci q))
      (fun c1 _ ci => by
      have hb := law_in hL (by omega) c1
      obtain ⟨Q1, S1, h1⟩ := p_image 1 (by decide) c I hs
      refine ⟨Q1, S1, fun r h9 hq => ?_⟩
      obtain ⟨v, c1, I1, rfl, rfl, Q2, S2, h2⟩ := h1 r h9 hq
      exact sg_law_1232 _ _ (law_b (k := 1) hL hb (by decide) (nI_add i 1)) (fun q => absurd q ci) (fun q => ⟨Q2, S2, fun r2 h3 hq2 => by obtain ⟨rfl, c2, I2, rfl, hs2⟩ := h2 r2 h3 hq2; exact sg_law_1249 _ _ _ (fun _ => ih (i + 7) rfl (by omega) c2 I2 hs2) (fun hne => hne rfl)⟩))
      (fun c1 _ => law_b (k := 1) hL (law_in hL (by omega) c1) (by decide) (nI_add i 1))
      (fun c1 _ => by
      have hb := law_in hL (by omega) c1
      obtain ⟨Q1, S1, h1⟩ := p_look (xs ((nI i) + 1).toNatClampNeg) c I hs
      refine ⟨Q1, S1, fun r h9 hq => ?_⟩
      obtain ⟨v, c1, I1, rfl, rfl, Q2, S2, h2⟩ := h1 r h9 hq
      exact sg_law_1263 _ _ (law_b (k := 1) hL hb (by decide) (nI_add i 1)) (⟨Q2, S2, fun r2 h3 hq2 => by obtain ⟨rfl, c2, I2, rfl, hs2⟩ := h2 r2 h3 hq2; exact sg_law_1272 _ _ _ (fun _ => ih (i + 7) rfl (by omega) c2 I2 hs2) (fun hne => hne rfl)⟩))
      (fun c1 _ _ _ _ _ _ _ _ _ _ _ _ _ _ _ _ _ _ _ _ _ _ _ _ _ _ _ _ => by have hb := law_in hL (by omega) c1; exact ih (i + 7) rfl (by omega) c I hs)
