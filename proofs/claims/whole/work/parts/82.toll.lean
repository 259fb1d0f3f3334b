/-! tolls between which nobody decides otherwise -/
theorem HS.at_eq {A : HS} {k i : Nat} {x : Int32} : (A.set k i x).r k i = x := by
  show mx_set A.1 k i x k i = x
  rw [ms_self, upd_eq]
/-- the least that was above a toll -/
def D14 (τ : Nat) (A B : HS) : Prop := B.r 65 14 = A.r 65 14 ∨ ((τ : Int) < (B.r 65 14).toInt ∧ (A.r 65 14 = -1 ∨ (B.r 65 14).toInt ≤ (A.r 65 14).toInt))
def ok14 (τ : Nat) (A : HS) : Prop := A.r 65 14 = -1 ∨ (τ : Int) < (A.r 65 14).toInt
theorem D14.refl {τ : Nat} (A : HS) : D14 τ A A := Or.inl rfl
theorem m1_toInt : (-1 : Int32).toInt = -1 := by decide
theorem D14.trans {τ : Nat} {A B C : HS} (h1 : D14 τ A B) (h2 : D14 τ B C) : D14 τ A C := by
  rcases h2 with z | ⟨z1, z2⟩
  · rcases h1 with y | ⟨y1, y2⟩
    · exact Or.inl (z.trans y)
    · exact Or.inr ⟨by rw [z]; exact y1, by rw [z]; exact y2⟩
  · rcases h1 with y | ⟨y1, y2⟩
    · exact Or.inr ⟨z1, by rw [← y]; exact z2⟩
    · refine Or.inr ⟨z1, ?_⟩
      rcases y2 with w | w
      · exact Or.inl w
      · rcases z2 with v | v
        · rw [v, m1_toInt] at y1; omega
        · exact Or.inr (by omega)
theorem D14.back {τ τ' : Nat} {A B : HS} (h : D14 τ A B) (hB : ok14 τ' B) : ok14 τ' A := by
  rcases h with z | ⟨z1, z2⟩
  · rcases hB with w | w
    · exact Or.inl (z.symm.trans w)
    · exact Or.inr (by rw [← z]; exact w)
  · rcases z2 with w | w
    · exact Or.inl w
    · refine Or.inr ?_
      rcases hB with v | v
      · rw [v, m1_toInt] at z1; omega
      · omega
theorem D14.fwd {τ : Nat} {A B : HS} (h : D14 τ A B) (hA : A.r 65 14 = -1) : ok14 τ B := by
  rcases h with z | ⟨z1, z2⟩
  · exact Or.inl (z.trans hA)
  · exact Or.inr z1
theorem ones_14 {P : Pm} {w : Bool} {to t c : Nat} : ∀ (ls : List Nat) (A : HS), (hs_ones P w to t c ls A).r 65 14 = A.r 65 14
  | [], A => rfl
  | x :: ls, A => (ones_14 ls _).trans (hs_one_r (by omega) (by omega) (by omega) (by omega) (by omega))
theorem carry_14 {P : Pm} {w : Bool} {fr to t c : Nat} {ls : List Nat} {A : HS} : (hs_carry P w fr to t c ls A).r 65 14 = A.r 65 14 := (HS.at_or (by omega)).trans (ones_14 ls _)
theorem d_cross1 {P : Pm} {τ i t : Nat} {A : HS} (hτ : P.R 65 8 = nI τ) (h30 : τ < 2 ^ 30) : D14 τ A (hs_cross1 P i t A) := by
  unfold hs_cross1
  simp only
  split
  · rename_i q
    have hp : (τ : Int) < (P.R 14 i * (hs_pick P A (pm_fr P 10 i) (P.R 12 i - P.R 13 i) (P.R 13 i) t).2).toInt := by
      have := q.2; rw [hτ, i_lt, nI_toInt (by omega)] at this; exact this
    have e : ∀ y, ((((A.set 7 i (nI t)).set 9 i (P.R 65 8)).set 0 10 (A.r 0 10 + P.R 65 8)).set 65 14 y).r 65 14 = y := fun y => HS.at_eq
    unfold D14
    rw [e]
    by_cases a : A.r 65 14 = -1
    · rw [if_pos a]; exact Or.inr ⟨hp, Or.inl a⟩
    · rw [if_neg a]
      split
      · rename_i w
        rw [i_lt] at w
        exact Or.inr ⟨hp, Or.inr (by omega)⟩
      · exact Or.inl rfl
  · left
    rw [carry_14, HS.at_ne (by omega), HS.at_ne (by omega)]
theorem d_run {τ : Nat} {f : Nat → HS → HS} (hf : ∀ i A, D14 τ A (f i A)) : ∀ (m i : Nat) (A : HS), D14 τ A (hs_run f m i A)
  | 0, _, A => D14.refl A
  | m + 1, i, A => (hf i A).trans (d_run hf m (i + 1) (f i A))
theorem d_cross {P : Pm} {τ t : Nat} (hτ : P.R 65 8 = nI τ) (h30 : τ < 2 ^ 30) : ∀ (n i : Nat) (A : HS), D14 τ A (hs_cross P t n i A)
  | 0, i, A => D14.refl A
  | n + 1, i, A => (d_cross1 hτ h30).trans (d_run (fun j B => by
      show D14 τ B (if _ then _ else _)
      split
      · exact d_cross hτ h30 n j B
      · exact D14.refl B) P.nc 0 _)
theorem comes_14 {P : Pm} {x e t : Nat} {A : HS} : (hs_comes P x e t A).r 65 14 = A.r 65 14 := by
  rw [hs_comes_r (Or.inr (by omega)), ms_ne (by omega), ms_ne (by omega), ms_ne (by omega)]
theorem d_hour {P : Pm} {τ : Nat} {A : HS} (hτ : P.R 65 8 = nI τ) (h30 : τ < 2 ^ 30) : D14 τ A (hs_hour P A) := by
  have h1 : D14 τ A (hs_bring P A.now A) := d_run (fun i B => by
    unfold hs_bring1
    split
    · exact Or.inl comes_14
    · exact D14.refl B) P.nl 0 A
  have h2 : ∀ B, D14 τ B (hs_fetch P A.now B) := fun B => d_run (fun i B => by
    unfold hs_fetch1
    split
    · exact Or.inl (HS.at_ne (by omega))
    · exact D14.refl B) P.nl 0 B
  have h3 : ∀ B, D14 τ B (hs_walk P A.now B) := fun B => d_run (fun i B => by
    unfold hs_walk1
    split
    · exact d_cross hτ h30 20 i B
    · exact D14.refl B) P.nc 0 B
  have h4 : ∀ B, D14 τ B (hs_offers P A.now B) := fun B => d_run (fun i B => by
    unfold hs_offer1
    split
    · exact Or.inl carry_14
    · exact D14.refl B) P.no 0 B
  exact ((h1.trans (h2 _)).trans (h3 _)).trans (h4 _)
theorem d_go {P : Pm} {τ : Nat} {u : Int} (hτ : P.R 65 8 = nI τ) (h30 : τ < 2 ^ 30) : ∀ (n : Nat) (A : HS), D14 τ A (hs_go P u n A)
  | 0, A => D14.refl A
  | n + 1, A => by
    rw [hs_go]
    split
    · exact (d_hour hτ h30).trans (d_go hτ h30 n _)
    · exact D14.refl A
/-- alike but for what was paid -/
def Ev (A B : HS) : Prop := (∀ j, 1 ≤ j → j ≤ 8 → j ≠ 6 → B.r j = A.r j) ∧ B.r 65 13 = A.r 65 13 ∧ B.2.1 = A.2.1 ∧ B.2.2.1 = A.2.2.1 ∧ B.2.2.2.2 = A.2.2.2.2
/-- two tolls -/
def PT (P Q : Pm) (τ τ' : Nat) : Prop := (∀ k, k ≠ 65 → Q.R k = P.R k) ∧ (∀ f, f ≠ 8 → Q.R 65 f = P.R 65 f) ∧ Q.2 = P.2 ∧ P.R 65 8 = nI τ ∧ Q.R 65 8 = nI τ' ∧ τ ≤ τ' ∧ τ' < 2 ^ 30 ∧ P.wr = false
section EV
variable {P Q : Pm} {τ τ' : Nat}
theorem Ev.rows {A B : HS} (h : Ev A B) {j : Nat} (h1 : 1 ≤ j) (h2 : j ≤ 8) (h3 : j ≠ 6) : B.r j = A.r j := h.1 j h1 h2 h3
theorem Ev.set {A B : HS} (h : Ev A B) {k i : Nat} {x : Int32} : Ev (A.set k i x) (B.set k i x) := by
  obtain ⟨h1, h2, h3⟩ := h
  refine ⟨fun j j1 j2 j3 => ?_, ms_sync0 h2, h3⟩
  show mx_set B.1 k i x j = mx_set A.1 k i x j
  by_cases q : j = k
  · subst q; rw [ms_self, ms_self]; exact congrArg (fun f => upd f i x) (h1 j j1 j2 j3)
  · rw [ms_ne q, ms_ne q]; exact h1 j j1 j2 j3
theorem Ev.off {A B : HS} (h : Ev A B) {k i i' : Nat} {x y : Int32} (hk : k = 0 ∨ 9 ≤ k) (h13 : k ≠ 65 ∨ (i ≠ 13 ∧ i' ≠ 13)) : Ev (A.set k i x) (B.set k i' y) := by
  obtain ⟨h1, h2, h3⟩ := h
  refine ⟨fun j j1 j2 j3 => ?_, ?_, h3⟩
  · show mx_set B.1 k i' y j = mx_set A.1 k i x j
    rw [ms_ne (by omega), ms_ne (by omega)]; exact h1 j j1 j2 j3
  · rw [HS.at_or (by omega), HS.at_or (by omega)]; exact h2
theorem ev_comes (hT : PT P Q τ τ') {A B : HS} (h : Ev A B) {x e t : Nat} : Ev (hs_comes P x e t A) (hs_comes Q x e t B) := by
  obtain ⟨h1, h2, h3, h4, h5⟩ := h
  have c11 : Q.R 65 11 = P.R 65 11 := hT.2.1 11 (by omega)
  have c12 : Q.R 65 12 = P.R 65 12 := hT.2.1 12 (by omega)
  have base : Ev (mx_set (mx_set (mx_set A.r 1 x (nI e)) 2 x (nI t)) 5 x (nI A.st), (fun y => if y = e then A.hp e ++ [x] else A.hp y), A.st + 1, A.nk, A.now) (mx_set (mx_set (mx_set B.r 1 x (nI e)) 2 x (nI t)) 5 x (nI B.st), (fun y => if y = e then B.hp e ++ [x] else B.hp y), B.st + 1, B.nk, B.now) := by
    have e4 : B.st = A.st := h4
    have e3 : B.hp = A.hp := h3
    rw [e4, e3]
    have s := ((Ev.set (k := 1) (i := x) (x := nI e) ⟨h1, h2, h3, h4, h5⟩).set (k := 2) (i := x) (x := nI t)).set (k := 5) (i := x) (x := nI A.st)
    exact ⟨s.1, s.2.1, rfl, rfl, h5⟩
  rw [hs_comes_eq, hs_comes_eq, c11, c12, h2]
  split
  · exact base.set
  · exact base
theorem ev_one (hT : PT P Q τ τ') {A B : HS} (h : Ev A B) {to t c x : Nat} : Ev (hs_one P false to t c x A) (hs_one Q false to t c x B) := by
  unfold hs_one
  simp only [Bool.false_eq_true, if_false]
  have e3 : B.r 3 x = A.r 3 x := by rw [h.rows (by omega) (by omega) (by omega)]
  rw [e3]
  exact ev_comes hT h.set
theorem ev_ones (hT : PT P Q τ τ') {to t c : Nat} : ∀ (ls : List Nat) (A B : HS), Ev A B → Ev (hs_ones P false to t c ls A) (hs_ones Q false to t c ls B)
  | [], A, B, h => h
  | x :: ls, A, B, h => ev_ones hT ls _ _ (ev_one hT h)
theorem ev_drop {A B : HS} (h : Ev A B) {e : Nat} {ls : List Nat} : Ev (hs_drop e ls A) (hs_drop e ls B) := by
  obtain ⟨h1, h2, h3, h4, h5⟩ := h
  refine ⟨h1, h2, ?_, h4, h5⟩
  have e3 : B.hp = A.hp := h3
  show (fun x => if x = e then (B.hp e).filter _ else B.hp x) = (fun x => if x = e then (A.hp e).filter _ else A.hp x)
  rw [e3]
theorem ev_carry (hT : PT P Q τ τ') {A B : HS} (h : Ev A B) {fr to t c : Nat} {ls : List Nat} : Ev (hs_carry P false fr to t c ls A) (hs_carry Q false fr to t c ls B) := by
  unfold hs_carry
  exact (ev_ones hT ls _ _ (ev_drop h)).off (by omega) (by omega)
theorem ev_pick (hT : PT P Q τ τ') {A B : HS} (h : Ev A B) {e t : Nat} {free own : Int32} : hs_pick Q B e free own t = hs_pick P A e free own t := by
  have e3 : B.hp = A.hp := h.2.2.1
  unfold hs_pick hs_lets
  rw [hT.1 3 (by omega), hT.1 1 (by omega), show Q.ps = P.ps from congrArg Prod.fst hT.2.2.1, e3, h.rows (j := 2) (by omega) (by omega) (by omega), h.rows (j := 3) (by omega) (by omega) (by omega)]
theorem ev_cross1 (hT : PT P Q τ τ') {A B : HS} (h : Ev A B) {i t : Nat} (hok : ok14 τ' (hs_cross1 P i t A)) : Ev (hs_cross1 P i t A) (hs_cross1 Q i t B) := by
  obtain ⟨hk, hf, h2, hp, hq, hle, h30, hwr⟩ := id hT
  have hwr2 : Q.wr = false := by rw [show Q.wr = P.wr from congrArg (fun z => z.2.2.1) h2]; exact hwr
  unfold hs_cross1 at hok ⊢
  simp only at hok ⊢
  have fr : pm_fr Q 10 i = pm_fr P 10 i := by unfold pm_fr; rw [hk 10 (by omega), hk (10 + 1) (by omega)]
  have to : pm_to Q 10 i = pm_to P 10 i := by unfold pm_to; rw [hk 10 (by omega), hk (10 + 1) (by omega)]
  rw [fr, to, hk 12 (by omega), hk 13 (by omega), hk 14 (by omega), ev_pick hT h, hq, hwr2]
  rw [hp, hwr] at hok ⊢
  generalize hs_pick P A (pm_fr P 10 i) (P.R 12 i - P.R 13 i) (P.R 13 i) t = q at hok ⊢
  by_cases g : ¬ nI τ = -1 ∧ nI τ < P.R 14 i * q.2
  · rw [if_pos g] at hok ⊢
    have e : ∀ y, ((((A.set 7 i (nI t)).set 9 i (nI τ)).set 0 10 (A.r 0 10 + nI τ)).set 65 14 y).r 65 14 = y := fun y => HS.at_eq
    unfold ok14 at hok
    rw [e] at hok
    have hpr : (τ : Int) < (P.R 14 i * q.2).toInt := by have := g.2; rw [i_lt, nI_toInt (by omega)] at this; exact this
    have pay : (τ' : Int) < (P.R 14 i * q.2).toInt := by
      by_cases a : A.r 65 14 = -1
      · rw [if_pos a] at hok
        rcases hok with w | w
        · rw [w, m1_toInt] at hpr; omega
        · exact w
      · rw [if_neg a] at hok
        by_cases b : P.R 14 i * q.2 < A.r 65 14
        · rw [if_pos b] at hok
          rcases hok with w | w
          · rw [w, m1_toInt] at hpr; omega
          · exact w
        · rw [if_neg b] at hok
          rw [i_lt] at b
          rcases hok with w | w
          · exact absurd w a
          · omega
    have hq' : ¬ nI τ' = -1 ∧ nI τ' < P.R 14 i * q.2 := ⟨nI_n1 (by omega), by rw [i_lt, nI_toInt (by omega)]; exact pay⟩
    rw [if_pos hq']
    exact Ev.off (k := 65) (i := 14) (i' := 14) (Ev.off (k := 0) (i := 10) (i' := 10) (Ev.off (k := 9) (h.set (k := 7) (i := i) (x := nI t)) (by omega) (by omega)) (by omega) (by omega)) (by omega) (by omega)
  · rw [if_neg g]
    have g' : ¬ (¬ nI τ' = -1 ∧ nI τ' < P.R 14 i * q.2) := fun z => g ⟨nI_n1 (by omega), by have := z.2; rw [i_lt, nI_toInt (by omega)] at this ⊢; omega⟩
    rw [if_neg g']
    exact ev_carry hT (h.set.set)
theorem ev_run {f g : Nat → HS → HS} (hd : ∀ i A, D14 τ A (f i A)) (hf : ∀ i A B, Ev A B → ok14 τ' (f i A) → Ev (f i A) (g i B)) : ∀ (m i : Nat) (A B : HS), Ev A B → ok14 τ' (hs_run f m i A) → Ev (hs_run f m i A) (hs_run g m i B)
  | 0, _, A, B, h, _ => h
  | m + 1, i, A, B, h, hok => ev_run hd hf m (i + 1) _ _ (hf i A B h ((d_run hd m (i + 1) (f i A)).back hok)) hok
theorem ev_cross (hT : PT P Q τ τ') {t : Nat} : ∀ (n i : Nat) (A B : HS), Ev A B → ok14 τ' (hs_cross P t n i A) → Ev (hs_cross P t n i A) (hs_cross Q t n i B)
  | 0, i, A, B, h, _ => h
  | n + 1, i, A, B, h, hok => by
    obtain ⟨hk, hf, h2, hp, hq, hle, h30, hwr⟩ := id hT
    have hd : ∀ j C, D14 τ C (if hs_behind P j i C = true then hs_cross P t n j C else C) := fun j C => by
      split
      · exact d_cross hp (by omega) n j C
      · exact D14.refl C
    have hnc : Q.nc = P.nc := congrArg (fun z => z.2.1.2.2.1) h2
    have hok1 : ok14 τ' (hs_cross1 P i t A) := (d_run hd P.nc 0 _).back hok
    show Ev (hs_run _ P.nc 0 _) (hs_run _ Q.nc 0 _)
    rw [hnc]
    refine ev_run (τ := τ) (τ' := τ') hd (fun j C D hCD hokC => ?_) P.nc 0 _ _ (ev_cross1 hT h hok1) hok
    have hb : hs_behind Q j i D = hs_behind P j i C := by
      unfold hs_behind
      rw [hk 15 (by omega), hk 16 (by omega), hf 10 (by omega), hCD.rows (j := 7) (by omega) (by omega) (by omega)]
    rw [hb]
    split
    · rename_i w
      rw [if_pos w] at hokC
      exact ev_cross hT n j C D hCD hokC
    · exact hCD
theorem ev_hour (hT : PT P Q τ τ') {A B : HS} (h : Ev A B) (hok : ok14 τ' (hs_hour P A)) : Ev (hs_hour P A) (hs_hour Q B) := by
  obtain ⟨hk, hf, h2, hp, hq, hle, h30, hwr⟩ := id hT
  have hwr2 : Q.wr = false := by rw [show Q.wr = P.wr from congrArg (fun z => z.2.2.1) h2]; exact hwr
  have hnl : Q.nl = P.nl := congrArg (fun z => z.2.1.2.1) h2
  have hnc : Q.nc = P.nc := congrArg (fun z => z.2.1.2.2.1) h2
  have hno : Q.no = P.no := congrArg (fun z => z.2.1.2.2.2) h2
  have hnow : B.now = A.now := h.2.2.2.2
  have d1 : ∀ i C, D14 τ C (hs_bring1 P A.now i C) := fun i C => by
    unfold hs_bring1
    split
    · exact Or.inl comes_14
    · exact D14.refl C
  have d2 : ∀ i C, D14 τ C (hs_fetch1 P A.now i C) := fun i C => by
    unfold hs_fetch1
    split
    · exact Or.inl (HS.at_ne (by omega))
    · exact D14.refl C
  have d3 : ∀ i C, D14 τ C (hs_walk1 P A.now i C) := fun i C => by
    unfold hs_walk1
    split
    · exact d_cross hp (by omega) 20 i C
    · exact D14.refl C
  have d4 : ∀ i C, D14 τ C (hs_offer1 P A.now i C) := fun i C => by
    unfold hs_offer1
    split
    · exact Or.inl carry_14
    · exact D14.refl C
  have ok4 : ok14 τ' (hs_offers P A.now (hs_walk P A.now (hs_fetch P A.now (hs_bring P A.now A)))) := hok
  have ok3 : ok14 τ' (hs_walk P A.now (hs_fetch P A.now (hs_bring P A.now A))) := (d_run d4 P.no 0 _).back ok4
  have ok2 : ok14 τ' (hs_fetch P A.now (hs_bring P A.now A)) := (d_run d3 P.nc 0 _).back ok3
  have ok1 : ok14 τ' (hs_bring P A.now A) := (d_run d2 P.nl 0 _).back ok2
  have e1 : Ev (hs_bring P A.now A) (hs_bring Q A.now B) := by
    unfold hs_bring
    rw [hnl]
    refine ev_run (τ := τ) (τ' := τ') d1 (fun i C D hCD _ => ?_) P.nl 0 _ _ h ok1
    unfold hs_bring1
    rw [hk 5 (by omega), hk 4 (by omega), hCD.rows (j := 1) (by omega) (by omega) (by omega)]
    split
    · exact ev_comes hT hCD
    · exact hCD
  have e2 : Ev (hs_fetch P A.now (hs_bring P A.now A)) (hs_fetch Q A.now (hs_bring Q A.now B)) := by
    unfold hs_fetch
    rw [hnl]
    refine ev_run (τ := τ) (τ' := τ') d2 (fun i C D hCD _ => ?_) P.nl 0 _ _ e1 ok2
    unfold hs_fetch1
    rw [hk 6 (by omega), hk 7 (by omega), hCD.rows (j := 1) (by omega) (by omega) (by omega), hCD.rows (j := 4) (by omega) (by omega) (by omega)]
    split
    · exact (ev_drop hCD).set
    · exact hCD
  have e3 : Ev (hs_walk P A.now (hs_fetch P A.now (hs_bring P A.now A))) (hs_walk Q A.now (hs_fetch Q A.now (hs_bring Q A.now B))) := by
    unfold hs_walk
    rw [hnc]
    refine ev_run (τ := τ) (τ' := τ') d3 (fun i C D hCD hokC => ?_) P.nc 0 _ _ e2 ok3
    have hg : hs_goes Q i A.now D = hs_goes P i A.now C := by
      unfold hs_goes pm_fr
      have e3 : D.hp = C.hp := hCD.2.2.1
      rw [hk 9 (by omega), hk 15 (by omega), hk 16 (by omega), hk 10 (by omega), hk (10 + 1) (by omega), hf 10 (by omega), hCD.rows (j := 7) (by omega) (by omega) (by omega), e3]
    unfold hs_walk1 at hokC ⊢
    rw [hg]
    split
    · rename_i w
      rw [if_pos w] at hokC
      exact ev_cross hT 20 i C D hCD hokC
    · exact hCD
  have e4 : Ev (hs_offers P A.now (hs_walk P A.now (hs_fetch P A.now (hs_bring P A.now A)))) (hs_offers Q A.now (hs_walk Q A.now (hs_fetch Q A.now (hs_bring Q A.now B)))) := by
    unfold hs_offers
    rw [hno]
    refine ev_run (τ := τ) (τ' := τ') d4 (fun i C D hCD _ => ?_) P.no 0 _ _ e3 ok4
    have fr : pm_fr Q 20 i = pm_fr P 20 i := by unfold pm_fr; rw [hk 20 (by omega), hk (20 + 1) (by omega)]
    have to : pm_to Q 20 i = pm_to P 20 i := by unfold pm_to; rw [hk 20 (by omega), hk (20 + 1) (by omega)]
    unfold hs_offer1
    rw [hf 9 (by omega), hk 19 (by omega), fr, to, hk 22 (by omega), ev_pick hT hCD]
    split
    · exact ev_carry hT hCD
    · exact hCD
  have e5 : hs_hour Q B = (hs_offers Q A.now (hs_walk Q A.now (hs_fetch Q A.now (hs_bring Q A.now B)))).tick := by unfold hs_hour; rw [hnow]
  rw [e5]
  obtain ⟨q1, q2, q3, q4, q5⟩ := e4
  exact ⟨q1, q2, q3, q4, congrArg (· + 1) q5⟩
theorem ev_go (hT : PT P Q τ τ') {u : Int} : ∀ (n : Nat) (A B : HS), Ev A B → ok14 τ' (hs_go P u n A) → Ev (hs_go P u n A) (hs_go Q u n B)
  | 0, A, B, h, _ => h
  | n + 1, A, B, h, hok => by
    obtain ⟨hk, hf, h2, hp, hq, hle, h30, hwr⟩ := id hT
    have hnow : B.now = A.now := h.2.2.2.2
    rw [hs_go] at hok ⊢
    rw [hs_go, hnow, h.2.1]
    split
    · rename_i w
      rw [if_pos w] at hok
      exact ev_go hT n _ _ (ev_hour hT h ((d_go hp (by omega) n _).back hok)) hok
    · exact h
end EV
/-- how many bore something from an hour on -/
def cb (A : HS) (now : Nat) : Nat → Nat
  | 0 => 0
  | i + 1 => cb A now i + (if nI now ≤ A.r 7 i ∧ 0 < A.r 8 i then 1 else 0)
theorem cb_le (A : HS) (now : Nat) : ∀ n, cb A now n ≤ n
  | 0 => Nat.le_refl _
  | n + 1 => by
    have := cb_le A now n
    rw [cb]
    split <;> omega
theorem cb_ev {A B : HS} (h : Ev A B) (now : Nat) : ∀ n, cb B now n = cb A now n
  | 0 => rfl
  | n + 1 => by rw [cb, cb, cb_ev h now n, h.rows (j := 7) (by omega) (by omega) (by omega), h.rows (j := 8) (by omega) (by omega) (by omega)]
