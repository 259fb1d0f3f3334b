/-! tokens of a tape -/
def cSp (x : Nat) : Bool := decide (x = 32 ∨ x = 10)
def cLt (x : Nat) : Bool := decide ((97 ≤ x ∧ x ≤ 122) ∨ (65 ≤ x ∧ x ≤ 90))
def cDg (x : Nat) : Bool := decide (48 ≤ x ∧ x ≤ 57)
def cSg (x : Nat) : Nat := if x = 59 then 15 else if x = 43 then 16 else if x = 45 then 17 else if x = 42 then 18 else if x = 47 then 19 else if x = 40 then 20 else if x = 41 then 21 else if x = 60 then 22 else if x = 61 then 23 else if x = 62 then 24 else 25
/-- the first place behind a where p ends -/
def rn (p : Nat → Bool) (b : Nat → Nat) : Nat → Nat → Nat
  | 0, a => a
  | m + 1, a => if p (b a) = true then rn p b m (a + 1) else a
theorem rn_le {p : Nat → Bool} {b : Nat → Nat} : ∀ (m a : Nat), a ≤ rn p b m a ∧ rn p b m a ≤ a + m
  | 0, a => ⟨Nat.le_refl _, Nat.le_refl _⟩
  | m + 1, a => by
    rw [rn]
    split
    · have := rn_le (p := p) (b := b) m (a + 1); omega
    · omega
theorem rn_lt {p : Nat → Bool} {b : Nat → Nat} {m a : Nat} (h : p (b a) = true) (hm : 0 < m) : a < rn p b m a := by
  obtain ⟨m, rfl⟩ : ∃ k, m = k + 1 := ⟨m - 1, by omega⟩
  rw [rn, if_pos h]
  have := rn_le (p := p) (b := b) m (a + 1)
  omega
/-- digits -/
def nvN (b : Nat → Nat) (q : Nat) : Nat → Nat
  | 0 => 0
  | k + 1 => 10 * nvN b q k + min 9 (b (q + k) - 48)
theorem nvN_lt (b : Nat → Nat) (q : Nat) : ∀ k, nvN b q k < 10 ^ k
  | 0 => by show 0 < 1; omega
  | k + 1 => by
    have := nvN_lt b q k
    rw [nvN, Nat.pow_succ]; omega
def spS (b : Nat → Nat) (q len i : Nat) : Bool := decide (len = mx_slen.getD i 0 ∧ ∀ j, j < mx_slen.getD i 0 → nI (b (q + j)) = (mx_sbyt.getD i []).getD j 0)
def kwF (b : Nat → Nat) (q len : Nat) : Nat → Nat → Nat
  | 0, _ => 25
  | m + 1, w => if spS b q len (w - 2) = true then w else kwF b q len m (w + 1)
theorem kwF_ge (b : Nat → Nat) (q len : Nat) : ∀ m w, 2 ≤ w → w + m ≤ 25 → 2 ≤ kwF b q len m w ∧ kwF b q len m w ≤ 25
  | 0, w, h, _ => by show 2 ≤ 25 ∧ 25 ≤ 25; omega
  | m + 1, w, h, h2 => by
    rw [kwF]
    split
    · omega
    · exact kwF_ge b q len m (w + 1) (by omega) (by omega)
def nxL (b : Nat → Nat) (n : Nat) (L : LX) : LX :=
  if n ≤ rn cSp b (n - L.1) L.1 then (rn cSp b (n - L.1) L.1, 0, rn cSp b (n - L.1) L.1, if 0 ≤ L.vl.toInt then L.vl else 0)
  else if cLt (b (rn cSp b (n - L.1) L.1)) = true then (rn cLt b (n - rn cSp b (n - L.1) L.1) (rn cSp b (n - L.1) L.1), kwF b (rn cSp b (n - L.1) L.1) (rn cLt b (n - rn cSp b (n - L.1) L.1) (rn cSp b (n - L.1) L.1) - rn cSp b (n - L.1) L.1) 13 2, rn cSp b (n - L.1) L.1, if 0 ≤ L.vl.toInt then L.vl else 0)
  else if cDg (b (rn cSp b (n - L.1) L.1)) = true then (rn cDg b (n - rn cSp b (n - L.1) L.1) (rn cSp b (n - L.1) L.1), if rn cDg b (n - rn cSp b (n - L.1) L.1) (rn cSp b (n - L.1) L.1) - rn cSp b (n - L.1) L.1 ≤ 4 then 1 else 25, rn cSp b (n - L.1) L.1, nI (nvN b (rn cSp b (n - L.1) L.1) (min 4 (rn cDg b (n - rn cSp b (n - L.1) L.1) (rn cSp b (n - L.1) L.1) - rn cSp b (n - L.1) L.1))))
  else (rn cSp b (n - L.1) L.1 + 1, cSg (b (rn cSp b (n - L.1) L.1)), rn cSp b (n - L.1) L.1, if 0 ≤ L.vl.toInt then L.vl else 0)
def msL (n : Nat) (L : LX) : Nat := if L.tk = 0 then 0 else n - L.1 + 1
theorem cSg_ne (x : Nat) : 15 ≤ cSg x ∧ cSg x ≤ 25 := by
  unfold cSg
  split
  · omega
  split
  · omega
  split
  · omega
  split
  · omega
  split
  · omega
  split
  · omega
  split
  · omega
  split
  · omega
  split
  · omega
  split <;> omega
theorem msL_lt {n a : Nat} {L' : LX} (h : L'.tk = 0 ∨ (a < L'.1 ∧ L'.1 ≤ n)) : msL n L' < n - a + 1 := by
  unfold msL
  by_cases q : L'.tk = 0
  · rw [if_pos q]; omega
  · rw [if_neg q]
    have := h.resolve_left q
    omega
theorem lexy (b : Nat → Nat) (n : Nat) : Lexy (nxL b n) (msL n) := by
  refine ⟨fun L h => ?_, fun L => ?_⟩
  · have h1 : msL n L = n - L.1 + 1 := if_neg h
    rw [h1]
    unfold nxL
    have hq := rn_le (p := cSp) (b := b) (n - L.1) L.1
    generalize rn cSp b (n - L.1) L.1 = q at hq ⊢
    by_cases g : n ≤ q
    · rw [if_pos g]; exact msL_lt (Or.inl rfl)
    rw [if_neg g]
    by_cases g2 : cLt (b q) = true
    · rw [if_pos g2]
      have h2 := rn_lt (m := n - q) g2 (by omega)
      have h3 := rn_le (p := cLt) (b := b) (n - q) q
      exact msL_lt (Or.inr ⟨by show L.1 < rn cLt b (n - q) q; omega, by show rn cLt b (n - q) q ≤ n; omega⟩)
    rw [if_neg g2]
    by_cases g3 : cDg (b q) = true
    · rw [if_pos g3]
      have h2 := rn_lt (m := n - q) g3 (by omega)
      have h3 := rn_le (p := cDg) (b := b) (n - q) q
      exact msL_lt (Or.inr ⟨by show L.1 < rn cDg b (n - q) q; omega, by show rn cDg b (n - q) q ≤ n; omega⟩)
    rw [if_neg g3]
    exact msL_lt (Or.inr ⟨by show L.1 < q + 1; omega, by show q + 1 ≤ n; omega⟩)
  · unfold nxL
    generalize rn cSp b (n - L.1) L.1 = q
    have hz : 0 ≤ (if 0 ≤ L.vl.toInt then L.vl else 0).toInt := by
      by_cases z : 0 ≤ L.vl.toInt
      · rw [if_pos z]; exact z
      · rw [if_neg z]; decide
    by_cases g : n ≤ q
    · rw [if_pos g]; exact hz
    rw [if_neg g]
    by_cases g2 : cLt (b q) = true
    · rw [if_pos g2]; exact hz
    rw [if_neg g2]
    by_cases g3 : cDg (b q) = true
    · rw [if_pos g3]
      show 0 ≤ (nI (nvN b q (min 4 (rn cDg b (n - q) q - q)))).toInt
      have h1 := nvN_lt b q (min 4 (rn cDg b (n - q) q - q))
      have h2 : 10 ^ (min 4 (rn cDg b (n - q) q - q)) ≤ 10 ^ 4 := Nat.pow_le_pow_right (by omega) (Nat.min_le_left _ _)
      rw [nI_toInt (by omega)]
      omega
    rw [if_neg g3]; exact hz
