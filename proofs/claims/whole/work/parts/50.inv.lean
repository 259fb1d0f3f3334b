/-! what holds of heaps, and is kept -/
theorem nd_len : ∀ {n : Nat} {L : List Nat}, L.Nodup → (∀ x ∈ L, x < n) → L.length ≤ n
  | 0, L, _, h => by
    cases L with
    | nil => simp
    | cons a L => exact absurd (h a (by simp)) (by omega)
  | n + 1, L, hd, h => by
    by_cases hm : n ∈ L
    · have h1 := nd_len (n := n) (hd.erase n) (fun x hx => by
        have h2 := (List.Nodup.mem_erase_iff hd).mp hx
        have := h x h2.2
        have := h2.1
        omega)
      rw [List.length_erase_of_mem hm] at h1
      omega
    · have h1 := nd_len (n := n) hd (fun x hx => by
        have := h x hx
        have : x ≠ n := fun z => hm (z ▸ hx)
        omega)
      omega
def AInv (P : Pm) (A : HS) (rem : List Nat) : Prop :=
  (∀ e, e < 4 → (A.hp e).Nodup ∧ ∀ l, l ∈ A.hp e ↔ (l < P.nl ∧ A.r 1 l = nI e ∧ A.r 4 l = 0 ∧ l ∉ rem)) ∧
  (∀ l, l < P.nl → A.r 1 l = -1 ∨ ∃ e : Nat, e ≤ P.nb ∧ A.r 1 l = nI e) ∧ (∀ l, l < P.nl → (A.r 4 l = 0 ∨ A.r 4 l = 1) ∧ (A.r 1 l = -1 → A.r 4 l = 0)) ∧
  (∀ e, e < 4 → (A.hp e).Pairwise (fun a b => (A.r 5 a).toInt < (A.r 5 b).toInt) ∧ ∀ l ∈ A.hp e, 0 ≤ (A.r 5 l).toInt ∧ (A.r 5 l).toInt < A.st) ∧
  rem.Nodup ∧ ∀ l ∈ rem, l < P.nl ∧ A.r 4 l = 0
theorem AInv.len {P : Pm} {A : HS} {rem : List Nat} (h : AInv P A rem) {e : Nat} (he : e < 4) : (A.hp e).length ≤ P.nl := nd_len (h.1 e he).1 (fun x hx => (((h.1 e he).2 x).mp hx).1)
theorem AInv.room {P : Pm} {A : HS} {l : Nat} {rem : List Nat} (h : AInv P A (l :: rem)) {e : Nat} (he : e < 4) : (A.hp e).length < P.nl := by
  have h1 : (l :: A.hp e).Nodup := List.nodup_cons.mpr ⟨fun z => (((h.1 e he).2 l).mp z).2.2.2 (by simp), (h.1 e he).1⟩
  have h2 := nd_len (n := P.nl) h1 (fun x hx => by
    rcases List.mem_cons.mp hx with rfl | hx
    · exact (h.2.2.2.2.2 x (by simp)).1
    · exact (((h.1 e he).2 x).mp hx).1)
  simp at h2
  omega
theorem hs_comes_r {P : Pm} {l e h : Nat} {A : HS} {k i : Nat} (hk : k ≠ 65 ∨ i ≠ 13) : (hs_comes P l e h A).r k i = mx_set (mx_set (mx_set A.r 1 l (nI e)) 2 l (nI h)) 5 l (nI A.st) k i := by
  show (if _ then _ else _ : mx_I) k i = _
  split
  · exact ms_at hk
  · rfl
theorem nI_n1 {e : Nat} (h : e < 2 ^ 31) : nI e ≠ -1 := fun z => by
  have := congrArg Int32.toInt z
  rw [nI_toInt h] at this
  have h2 : (-1 : Int32).toInt = -1 := by decide
  omega
theorem AInv.comes {P : Pm} {A : HS} {l e h : Nat} {rem : List Nat} (hA : AInv P A (l :: rem)) (he : e ≤ P.nb) (hb : P.nb ≤ 3) (hst : A.st < 2 ^ 30) : AInv P (hs_comes P l e h A) rem := by
  obtain ⟨a1, a2, a3, a4, a5, a6⟩ := hA
  have r1 : ∀ x, (hs_comes P l e h A).r 1 x = upd (A.r 1) l (nI e) x := fun x => by rw [hs_comes_r (Or.inl (by omega)), ms_ne (by omega), ms_ne (by omega), ms_self]
  have r4 : ∀ x, (hs_comes P l e h A).r 4 x = A.r 4 x := fun x => by rw [hs_comes_r (Or.inl (by omega)), ms_ne (by omega), ms_ne (by omega), ms_ne (by omega)]
  have r5 : ∀ x, (hs_comes P l e h A).r 5 x = upd (A.r 5) l (nI A.st) x := fun x => by rw [hs_comes_r (Or.inl (by omega)), ms_self, ms_ne (by omega), ms_ne (by omega)]
  have hh : ∀ x, (hs_comes P l e h A).hp x = if x = e then A.hp e ++ [l] else A.hp x := fun _ => rfl
  have hs : (hs_comes P l e h A).st = A.st + 1 := rfl
  have hl := a6 l (by simp)
  have hlr : l ∉ rem := (List.nodup_cons.mp a5).1
  have hno : ∀ e', e' < 4 → l ∉ A.hp e' := fun e' he' z => (((a1 e' he').2 l).mp z).2.2.2 (by simp)
  refine ⟨fun e' he' => ?_, fun x hx => ?_, fun x hx => ?_, fun e' he' => ?_, (List.nodup_cons.mp a5).2, fun x hx => ?_⟩
  · rw [hh]
    by_cases q : e' = e
    · subst q
      rw [if_pos rfl]
      refine ⟨?_, fun x => ?_⟩
      · rw [List.nodup_append]
        exact ⟨(a1 e' he').1, by simp, fun a ha b hb => by simp at hb; subst hb; exact fun z => hno e' he' (z ▸ ha)⟩
      · rw [List.mem_append, r1, r4, (a1 e' he').2 x]
        by_cases w : x = l
        · subst w
          rw [upd_eq]
          exact ⟨fun _ => ⟨hl.1, rfl, hl.2, hlr⟩, fun _ => Or.inr (by simp)⟩
        · rw [upd_ne w]
          simp [w]
    · rw [if_neg q]
      refine ⟨(a1 e' he').1, fun x => ?_⟩
      rw [r1, r4, (a1 e' he').2 x]
      by_cases w : x = l
      · subst w
        rw [upd_eq]
        refine ⟨fun z => absurd z.2.2.2 (by simp), fun z => ?_⟩
        exact absurd ((nI_eq (by omega) (by omega)).mp z.2.1).symm q
      · rw [upd_ne w]
        simp [w]
  · rw [r1]
    by_cases w : x = l
    · subst w
      rw [upd_eq]
      exact Or.inr ⟨e, he, rfl⟩
    · rw [upd_ne w]
      exact a2 x hx
  · rw [r4, r1]
    refine ⟨(a3 x hx).1, ?_⟩
    by_cases w : x = l
    · subst w
      rw [upd_eq]
      exact fun z => absurd z (nI_n1 (by omega))
    · rw [upd_ne w]
      exact (a3 x hx).2
  · rw [hh, hs]
    obtain ⟨p1, p2⟩ := a4 e' he'
    have old : ∀ x ∈ A.hp e', (hs_comes P l e h A).r 5 x = A.r 5 x := fun x hx => by
      have hxl : x ≠ l := fun z => hno e' he' (z ▸ hx)
      rw [r5, upd_ne hxl]
    have p1' : (A.hp e').Pairwise (fun a b => ((hs_comes P l e h A).r 5 a).toInt < ((hs_comes P l e h A).r 5 b).toInt) := by
      refine List.Pairwise.imp_of_mem (fun {a b} ha hb z => ?_) p1
      rw [old a ha, old b hb]; exact z
    by_cases q : e' = e
    · subst q
      rw [if_pos rfl]
      have new : ((hs_comes P l e' h A).r 5 l).toInt = A.st := by rw [r5, upd_eq, nI_toInt (by omega)]
      refine ⟨List.pairwise_append.mpr ⟨p1', by simp, fun a ha b hb => ?_⟩, fun x hx => ?_⟩
      · simp at hb
        subst hb
        rw [new, old a ha]
        exact (p2 a ha).2
      · rcases List.mem_append.mp hx with hx | hx
        · rw [old x hx]
          have := p2 x hx
          omega
        · simp at hx
          subst hx
          rw [new]
          omega
    · rw [if_neg q]
      refine ⟨p1', fun x hx => ?_⟩
      rw [old x hx]
      have := p2 x hx
      omega
  · rw [r4]
    exact a6 x (List.mem_cons_of_mem _ hx)
theorem AInv.congr {P : Pm} {A B : HS} {rem : List Nat} (h : AInv P A rem) (h1 : B.r 1 = A.r 1) (h4 : B.r 4 = A.r 4) (h5 : B.r 5 = A.r 5) (hh : B.hp = A.hp) (hs : B.st = A.st) : AInv P B rem := by
  unfold AInv
  rw [h1, h4, h5, hh, hs]
  exact h
theorem AInv.set {P : Pm} {A : HS} {rem : List Nat} (h : AInv P A rem) {k i : Nat} {x : Int32} (hk : k ≠ 1 ∧ k ≠ 4 ∧ k ≠ 5) : AInv P (A.set k i x) rem :=
  h.congr (ms_ne (Ne.symm hk.1)) (ms_ne (Ne.symm hk.2.1)) (ms_ne (Ne.symm hk.2.2)) rfl rfl
theorem AInv.write {P : Pm} {A : HS} {rem : List Nat} (h : AInv P A rem) {l c t : Nat} : AInv P (hs_write l c t A) rem := by
  unfold hs_write
  split
  · have q : ∀ k, k ≠ 44 → k ≠ 45 → k ≠ 46 → mx_set (mx_set (mx_set A.r 44 A.nk (nI l)) 45 A.nk (nI c)) 46 A.nk (nI t) k = A.r k := fun k k1 k2 k3 => by rw [ms_ne k3, ms_ne k2, ms_ne k1]
    exact h.congr (q 1 (by omega) (by omega) (by omega)) (q 4 (by omega) (by omega) (by omega)) (q 5 (by omega) (by omega) (by omega)) rfl rfl
  · exact h
theorem hs_write_st {l c t : Nat} {A : HS} : (hs_write l c t A).st = A.st := by unfold hs_write; split <;> rfl
theorem AInv.one {P : Pm} {A : HS} {w : Bool} {l to h c : Nat} {rem : List Nat} (hA : AInv P A (l :: rem)) (he : to ≤ P.nb) (hb : P.nb ≤ 3) (hst : A.st < 2 ^ 30) : AInv P (hs_one P w to h c l A) rem ∧ (hs_one P w to h c l A).st = A.st + 1 := by
  have h1 : AInv P (hs_comes P l to h (A.set 3 l (A.r 3 l + 1))) rem := (hA.set (by omega)).comes he hb hst
  unfold hs_one
  split
  · exact ⟨h1.write, hs_write_st⟩
  · exact ⟨h1, rfl⟩
theorem AInv.ones {P : Pm} {w : Bool} {to h c : Nat} (he : to ≤ P.nb) (hb : P.nb ≤ 3) : ∀ (ls : List Nat) (A : HS), AInv P A ls → A.st + ls.length < 2 ^ 30 → AInv P (hs_ones P w to h c ls A) [] ∧ (hs_ones P w to h c ls A).st = A.st + ls.length
  | [], A, hA, _ => ⟨hA, rfl⟩
  | l :: ls, A, hA, hst => by
    simp only [List.length_cons] at hst
    obtain ⟨h1, h2⟩ := hA.one (w := w) (h := h) (c := c) he hb (by omega)
    obtain ⟨h3, h4⟩ := AInv.ones (c := c) he hb ls _ h1 (by rw [h2]; omega)
    refine ⟨h3, ?_⟩
    show (hs_ones P w to h c ls (hs_one P w to h c l A)).st = _
    rw [h4, h2, List.length_cons]
    omega
theorem AInv.drop {P : Pm} {A : HS} {e : Nat} {ls : List Nat} (h : AInv P A []) (he : e < 4) (hs : ls.Sublist (A.hp e)) : AInv P (hs_drop e ls A) ls := by
  obtain ⟨a1, a2, a3, a4, a5, a6⟩ := h
  have hh : ∀ x, (hs_drop e ls A).hp x = if x = e then (A.hp e).filter (fun y => !ls.contains y) else A.hp x := fun _ => rfl
  have hr : (hs_drop e ls A).r = A.r := rfl
  have hst : (hs_drop e ls A).st = A.st := rfl
  have hm : ∀ x ∈ ls, x < P.nl ∧ A.r 1 x = nI e ∧ A.r 4 x = 0 := fun x hx => by
    have := ((a1 e he).2 x).mp (hs.subset hx)
    exact ⟨this.1, this.2.1, this.2.2.1⟩
  refine ⟨fun e' he' => ?_, a2, a3, fun e' he' => ?_, hs.nodup (a1 e he).1, fun x hx => ⟨(hm x hx).1, (hm x hx).2.2⟩⟩
  · rw [hh]
    by_cases q : e' = e
    · subst q
      rw [if_pos rfl]
      refine ⟨(a1 e' he').1.filter _, fun x => ?_⟩
      rw [List.mem_filter, (a1 e' he').2 x, hr]
      simp
      exact ⟨fun z => ⟨z.1.1, z.1.2.1, z.1.2.2, z.2⟩, fun z => ⟨⟨z.1, z.2.1, z.2.2.1⟩, z.2.2.2⟩⟩
    · rw [if_neg q]
      refine ⟨(a1 e' he').1, fun x => ?_⟩
      rw [(a1 e' he').2 x, hr]
      simp
      intro _ z _ w
      have := (hm x w).2.1
      rw [z] at this
      exact q ((nI_eq (by omega) (by omega)).mp this)
  · rw [hh, hr, hst]
    by_cases q : e' = e
    · subst q
      rw [if_pos rfl]
      exact ⟨(a4 e' he').1.filter _, fun x hx => (a4 e' he').2 x (List.mem_filter.mp hx).1⟩
    · rw [if_neg q]
      exact a4 e' he'
theorem pk_sub2 {wt : Nat → Int32} {st : Bool} {lets : Nat → Int32 → Bool} {free : Int32} : ∀ (ls : List Nat) (s : Int32) (acc : List Nat), ∃ t, t.Sublist ls ∧ (pk_go wt st lets free ls s acc).1 = acc ++ t
  | [], s, acc => ⟨[], by simp, by simp [pk_go]⟩
  | l :: ls, s, acc => by
    unfold pk_go
    split
    · split
      · exact ⟨[], by simp, by simp⟩
      · obtain ⟨t, h1, h2⟩ := pk_sub2 ls s acc
        exact ⟨t, h1.cons _, h2⟩
    · split
      · obtain ⟨t, h1, h2⟩ := pk_sub2 ls (s + wt l) (acc ++ [l])
        exact ⟨l :: t, h1.cons_cons _, by rw [h2]; simp⟩
      · obtain ⟨t, h1, h2⟩ := pk_sub2 ls s acc
        exact ⟨t, h1.cons _, h2⟩
theorem hs_pick_sub (P : Pm) (A : HS) (e : Nat) (free own : Int32) (h : Nat) : (hs_pick P A e free own h).1.Sublist (A.hp e) := by
  obtain ⟨t, h1, h2⟩ := pk_sub2 (wt := P.R 3) (st := decide (P.R 1 7 = 1)) (lets := hs_lets P A e own h) (free := free) (A.hp e) 0 []
  unfold hs_pick
  rw [h2]
  simpa using h1
theorem AInv.carry {P : Pm} {A : HS} {w : Bool} {fr to h c : Nat} {ls : List Nat} (hA : AInv P A []) (hf : fr ≤ P.nb) (ht : to ≤ P.nb) (hb : P.nb ≤ 3) (hl : P.nl ≤ 30) (hs : ls.Sublist (A.hp fr)) (hst : A.st < 2 ^ 29) : AInv P (hs_carry P w fr to h c ls A) [] ∧ (hs_carry P w fr to h c ls A).st = A.st + ls.length ∧ ls.length ≤ 30 := by
  have h1 := hA.drop (by omega) hs
  have h2 : ls.length ≤ 30 := by
    have := hs.length_le
    have := hA.len (e := fr) (by omega)
    omega
  obtain ⟨h3, h4⟩ := AInv.ones (w := w) (h := h) (c := c) ht hb ls _ h1 (by show A.st + ls.length < _; omega)
  refine ⟨h3.set (by omega), ?_, h2⟩
  show (hs_ones P w to h c ls (hs_drop fr ls A)).st = _
  rw [h4]
  rfl
