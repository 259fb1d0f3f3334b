/-! sets out of a set, in their order -/
theorem bt_nI (n : Nat) {i : Nat} (hi : i < 32) : bt (nI n) i = n.testBit i := by
  show (BitVec.ofNat 32 n).getLsbD i = _
  rw [BitVec.getLsbD_ofNat, decide_eq_true hi, Bool.true_and]
theorem nI_and (a b : Nat) : nI a &&& nI b = nI (a &&& b) := b_ext (fun i hi => by rw [b_and, bt_nI a hi, bt_nI b hi, bt_nI _ hi, Nat.testBit_and])
theorem nI_subw {p m : Nat} (hm : m ≤ 2 ^ 32) : nI p - nI m = nI (p + (2 ^ 32 - m)) := by
  refine Int32.toBitVec_inj.mp ?_
  show BitVec.ofNat 32 p - BitVec.ofNat 32 m = BitVec.ofNat 32 (p + (2 ^ 32 - m))
  refine BitVec.eq_of_toNat_eq ?_
  rw [BitVec.toNat_sub, BitVec.toNat_ofNat, BitVec.toNat_ofNat, BitVec.toNat_ofNat]
  omega
theorem us_nI {a k : Nat} (hk : k < 32) (ha : a < 2 ^ 32) : us_ (nI a) (nI k) = nI (a / 2 ^ k) := by
  refine b_ext (fun i hi => ?_)
  unfold us_
  rw [b_ushr k hk, bt_nI _ hi, Nat.testBit_div_two_pow]
  by_cases q : k + i < 32
  · rw [bt_nI _ q, Nat.add_comm]
  · rw [b_big (by omega), Nat.testBit_lt_two_pow]
    exact Nat.lt_of_lt_of_le ha (Nat.pow_le_pow_right (by omega) (by omega))
def bn (b : Bool) : Nat := if b = true then 1 else 0
theorem bn_le (b : Bool) : bn b ≤ 1 := by cases b <;> decide
/-- how many below -/
def cm (M : Nat → Bool) : Nat → Nat
  | 0 => 0
  | k + 1 => cm M k + bn (M k)
theorem cm_shift (M : Nat → Bool) : ∀ k, cm M (k + 1) = bn (M 0) + cm (fun i => M (i + 1)) k
  | 0 => by rw [cm, cm, cm, Nat.zero_add]; rfl
  | k + 1 => by rw [cm, cm_shift M k, cm]; omega
theorem cm_mono {M : Nat → Bool} {a : Nat} : ∀ k, cm M a ≤ cm M (a + k)
  | 0 => Nat.le_refl _
  | k + 1 => Nat.le_trans (cm_mono k) (by show cm M (a + k) ≤ cm M (a + k + 1); rw [cm]; omega)
theorem cm_lt {M : Nat → Bool} {p q : Nat} (hp : M p = true) (h : p < q) : cm M p < cm M q := by
  have h1 : cm M (p + 1) ≤ cm M q := by
    have := cm_mono (M := M) (a := p + 1) (q - (p + 1))
    rw [show p + 1 + (q - (p + 1)) = q from by omega] at this
    exact this
  rw [cm, hp] at h1
  exact h1
theorem cm_inj {M : Nat → Bool} {p q : Nat} (hp : M p = true) (hq : M q = true) (h : cm M p = cm M q) : p = q := by
  rcases Nat.lt_trichotomy p q with w | w | w
  · have := cm_lt hp w; omega
  · exact w
  · have := cm_lt hq w; omega
theorem cm_find {M : Nat → Bool} {j : Nat} : ∀ n, j < cm M n → ∃ q, q < n ∧ M q = true ∧ cm M q = j
  | 0, h => absurd h (Nat.not_lt_zero _)
  | n + 1, h => by
    rw [cm] at h
    by_cases q : j < cm M n
    · obtain ⟨x, hx, h2⟩ := cm_find n q
      exact ⟨x, by omega, h2⟩
    · cases hM : M n with
      | false => rw [hM] at h; exact absurd h q
      | true =>
        rw [hM] at h
        have h' : j < cm M n + 1 := h
        exact ⟨n, by omega, hM, by omega⟩
theorem cm_cong {M N : Nat → Bool} : ∀ n, (∀ i, i < n → M i = N i) → cm M n = cm N n
  | 0, _ => rfl
  | n + 1, h => by rw [cm, cm, cm_cong n (fun i hi => h i (by omega)), h n (by omega)]
theorem cm_no {M : Nat → Bool} {n : Nat} (h : ∀ i, n ≤ i → M i = false) : ∀ k, cm M (n + k) = cm M n
  | 0 => rfl
  | k + 1 => by
    show cm M (n + k + 1) = _
    rw [cm, cm_no h k, h (n + k) (by omega)]; rfl
/-- the mask, and its sets -/
def mkM : Nat → (Nat → Bool) → Nat
  | 0, _ => 0
  | n + 1, M => bn (M 0) + 2 * mkM n (fun i => M (i + 1))
def pdM : Nat → (Nat → Bool) → Nat → Nat
  | 0, _, _ => 0
  | n + 1, M, k => if M 0 = true then k % 2 + 2 * pdM n (fun i => M (i + 1)) (k / 2) else 2 * pdM n (fun i => M (i + 1)) k
theorem mkM_lt : ∀ (n : Nat) (M : Nat → Bool), mkM n M < 2 ^ n
  | 0, _ => by show 0 < 1; omega
  | n + 1, M => by
    have := mkM_lt n (fun i => M (i + 1))
    have := bn_le (M 0)
    rw [mkM, Nat.pow_succ]; omega
theorem and_2 (a b x y : Nat) (hx : x < 2) (hy : y < 2) : (x + 2 * a) &&& (y + 2 * b) = (x &&& y) + 2 * (a &&& b) := by
  have hxy : x &&& y < 2 := Nat.lt_of_le_of_lt Nat.and_le_left hx
  refine Nat.eq_of_testBit_eq (fun i => ?_)
  cases i with
  | zero =>
    rw [Nat.testBit_and, Nat.testBit_zero, Nat.testBit_zero, Nat.testBit_zero]
    have : x = 0 ∨ x = 1 := by omega
    have : y = 0 ∨ y = 1 := by omega
    rcases ‹x = 0 ∨ x = 1› with rfl | rfl <;> rcases ‹y = 0 ∨ y = 1› with rfl | rfl <;> simp [Nat.add_mod]
  | succ i =>
    rw [Nat.testBit_and, Nat.testBit_succ, Nat.testBit_succ, Nat.testBit_succ, show (x + 2 * a) / 2 = a from by omega, show (y + 2 * b) / 2 = b from by omega, show ((x &&& y) + 2 * (a &&& b)) / 2 = a &&& b from by omega, Nat.testBit_and]
theorem and_10 : (1 &&& 0 : Nat) = 0 := rfl
theorem and_r0 (x : Nat) : x &&& 0 = 0 := Nat.and_zero x
theorem and_r1 (x : Nat) (h : x < 2) : x &&& 1 = x := by
  have : x = 0 ∨ x = 1 := by omega
  rcases this with rfl | rfl <;> rfl
theorem pd_B : ∀ (n : Nat) (M : Nat → Bool) (k : Nat), (pdM n M k + (2 ^ n - 1 - mkM n M)) &&& mkM n M = pdM n M k
  | 0, M, k => by show _ &&& 0 = 0; exact Nat.and_zero _
  | n + 1, M, k => by
    have ih := pd_B n (fun i => M (i + 1))
    have hl := mkM_lt n (fun i => M (i + 1))
    rw [pdM, mkM]
    cases hM : M 0 with
    | false =>
      rw [if_neg (by simp)]
      have e : 2 * pdM n (fun i => M (i + 1)) k + (2 ^ (n + 1) - 1 - (bn false + 2 * mkM n (fun i => M (i + 1)))) = 1 + 2 * (pdM n (fun i => M (i + 1)) k + (2 ^ n - 1 - mkM n (fun i => M (i + 1)))) := by
        rw [show bn false = 0 from rfl, Nat.pow_succ]; omega
      rw [e, show bn false = 0 from rfl, and_2 _ _ _ _ (by omega) (by omega), ih k, and_r0, Nat.zero_add]
    | true =>
      rw [if_pos rfl]
      have e : k % 2 + 2 * pdM n (fun i => M (i + 1)) (k / 2) + (2 ^ (n + 1) - 1 - (bn true + 2 * mkM n (fun i => M (i + 1)))) = k % 2 + 2 * (pdM n (fun i => M (i + 1)) (k / 2) + (2 ^ n - 1 - mkM n (fun i => M (i + 1)))) := by
        rw [show bn true = 1 from rfl, Nat.pow_succ]; omega
      rw [e, show bn true = 1 from rfl, and_2 _ _ _ _ (by omega) (by omega), ih (k / 2), and_r1 _ (by omega)]
theorem pd_A : ∀ (n : Nat) (M : Nat → Bool) (k : Nat), (pdM n M k + (2 ^ n - mkM n M)) &&& mkM n M = pdM n M (k + 1)
  | 0, M, k => by show _ &&& 0 = 0; exact Nat.and_zero _
  | n + 1, M, k => by
    have ih := pd_A n (fun i => M (i + 1))
    have ib := pd_B n (fun i => M (i + 1))
    have hl := mkM_lt n (fun i => M (i + 1))
    rw [pdM, mkM, pdM]
    cases hM : M 0 with
    | false =>
      rw [if_neg (by simp), if_neg (by simp)]
      have e : 2 * pdM n (fun i => M (i + 1)) k + (2 ^ (n + 1) - (bn false + 2 * mkM n (fun i => M (i + 1)))) = 0 + 2 * (pdM n (fun i => M (i + 1)) k + (2 ^ n - mkM n (fun i => M (i + 1)))) := by
        rw [show bn false = 0 from rfl, Nat.pow_succ]; omega
      rw [e, show bn false = 0 from rfl, and_2 _ _ _ _ (by omega) (by omega), ih k, and_r0, Nat.zero_add]
    | true =>
      rw [if_pos rfl, if_pos rfl]
      rcases Nat.mod_two_eq_zero_or_one k with hk | hk
      · have e : k % 2 + 2 * pdM n (fun i => M (i + 1)) (k / 2) + (2 ^ (n + 1) - (bn true + 2 * mkM n (fun i => M (i + 1)))) = 1 + 2 * (pdM n (fun i => M (i + 1)) (k / 2) + (2 ^ n - 1 - mkM n (fun i => M (i + 1)))) := by
          rw [show bn true = 1 from rfl, Nat.pow_succ]; omega
        rw [e, show bn true = 1 from rfl, and_2 _ _ _ _ (by omega) (by omega), ib (k / 2), show (k + 1) % 2 = 1 from by omega, show (k + 1) / 2 = k / 2 from by omega]
        rfl
      · have e : k % 2 + 2 * pdM n (fun i => M (i + 1)) (k / 2) + (2 ^ (n + 1) - (bn true + 2 * mkM n (fun i => M (i + 1)))) = 0 + 2 * (pdM n (fun i => M (i + 1)) (k / 2) + (2 ^ n - mkM n (fun i => M (i + 1)))) := by
          rw [show bn true = 1 from rfl, Nat.pow_succ]; omega
        rw [e, show bn true = 1 from rfl, and_2 _ _ _ _ (by omega) (by omega), ih (k / 2), show (k + 1) % 2 = 0 from by omega, show (k + 1) / 2 = k / 2 + 1 from by omega]
        rfl
theorem pd_bit : ∀ (n : Nat) (M : Nat → Bool) (k p : Nat), p < n → (pdM n M k).testBit p = (M p && k.testBit (cm M p))
  | 0, M, k, p, h => absurd h (Nat.not_lt_zero _)
  | n + 1, M, k, 0, _ => by
    rw [pdM, Nat.testBit_zero, cm, Nat.testBit_zero]
    cases hM : M 0 with
    | false => rw [if_neg (by simp), decide_eq_false (by omega)]; rfl
    | true => rw [if_pos rfl, show (k % 2 + 2 * pdM n (fun i => M (i + 1)) (k / 2)) % 2 = k % 2 from by omega, Bool.true_and]
  | n + 1, M, k, p + 1, h => by
    rw [pdM, Nat.testBit_succ, cm_shift]
    cases hM : M 0 with
    | false =>
      rw [if_neg (by simp), show 2 * pdM n (fun i => M (i + 1)) k / 2 = pdM n (fun i => M (i + 1)) k from by omega, pd_bit n _ k p (by omega), show bn false = 0 from rfl, Nat.zero_add]
    | true =>
      rw [if_pos rfl, show (k % 2 + 2 * pdM n (fun i => M (i + 1)) (k / 2)) / 2 = pdM n (fun i => M (i + 1)) (k / 2) from by omega, pd_bit n _ (k / 2) p (by omega), show bn true = 1 from rfl, Nat.add_comm 1, Nat.testBit_succ]
theorem mk_bit : ∀ (n : Nat) (M : Nat → Bool) (p : Nat), p < n → (mkM n M).testBit p = M p
  | 0, M, p, h => absurd h (Nat.not_lt_zero _)
  | n + 1, M, 0, _ => by
    rw [mkM, Nat.testBit_zero]
    cases hM : M 0 with
    | false => rw [show bn false = 0 from rfl, decide_eq_false (by omega)]
    | true => rw [show bn true = 1 from rfl, decide_eq_true (by omega)]
  | n + 1, M, p + 1, h => by
    have hb := bn_le (M 0)
    rw [mkM, Nat.testBit_succ, show (bn (M 0) + 2 * mkM n (fun i => M (i + 1))) / 2 = mkM n (fun i => M (i + 1)) from by omega]
    exact mk_bit n _ p (by omega)
/-- the next set -/
theorem pd_next (M : Nat → Bool) (k : Nat) : (nI (pdM 32 M k) - nI (mkM 32 M)) &&& nI (mkM 32 M) = nI (pdM 32 M (k + 1)) := by
  have := mkM_lt 32 M
  rw [nI_subw (by omega), nI_and, pd_A]
/-! counting twenty bits -/
def S1 (m a : Nat) : Nat := a - ((a / 2) &&& m)
def S2 (m a : Nat) : Nat := (a &&& m) + ((a / 4) &&& m)
def S3 (m a : Nat) : Nat := (a + a / 16) &&& m
theorem and_256 (a b m k : Nat) (ha : a < 256) (hm : m < 256) : (a + 256 * b) &&& (m + 256 * k) = (a &&& m) + 256 * (b &&& k) := by
  have hx : a &&& m < 2 ^ 8 := Nat.lt_of_le_of_lt Nat.and_le_left ha
  refine Nat.eq_of_testBit_eq (fun i => ?_)
  have e : ∀ x y : Nat, x + 256 * y = 2 ^ 8 * y + x := fun x y => Nat.add_comm _ _
  rw [Nat.testBit_and, e, e, e, Nat.testBit_two_pow_mul_add b (i := 8) ha, Nat.testBit_two_pow_mul_add k (i := 8) hm, Nat.testBit_two_pow_mul_add (b &&& k) hx]
  split
  · rw [Nat.testBit_and]
  · rw [Nat.testBit_and]
theorem S1_x : ∀ a, a < 128 → ∀ q, q < 2 → (a + 128 * q) &&& 85 = a &&& 85 := by decide +kernel
theorem S2_x : ∀ a, a < 64 → ∀ q, q < 4 → (a + 64 * q) &&& 51 = a &&& 51 := by decide +kernel
theorem S3_x : ∀ a, a < 80 → ∀ q, q < 5 → (a + 16 * q) &&& 15 = a &&& 15 := by decide +kernel
theorem S1_split (a b k : Nat) (ha : a < 256) : S1 (85 + 256 * k) (a + 256 * b) = S1 85 a + 256 * S1 k b := by
  unfold S1
  have h1 : (a / 2) &&& 85 ≤ a / 2 := Nat.and_le_left
  have h2 : (b / 2) &&& k ≤ b / 2 := Nat.and_le_left
  rw [show (a + 256 * b) / 2 = (a / 2 + 128 * (b % 2)) + 256 * (b / 2) from by omega, and_256 _ _ _ _ (by omega) (by omega), S1_x _ (by omega) _ (by omega)]
  omega
theorem S2_split (a b k : Nat) (ha : a < 256) : S2 (51 + 256 * k) (a + 256 * b) = S2 51 a + 256 * S2 k b := by
  unfold S2
  rw [show (a + 256 * b) / 4 = (a / 4 + 64 * (b % 4)) + 256 * (b / 4) from by omega, and_256 _ _ _ _ ha (by omega), and_256 _ _ _ _ (by omega) (by omega), S2_x _ (by omega) _ (by omega)]
  omega
theorem S3_split (a b k : Nat) (ha : a % 16 ≤ 4 ∧ a / 16 ≤ 4) (hb : b % 16 ≤ 4) : S3 (15 + 256 * k) (a + 256 * b) = S3 15 a + 256 * S3 k b := by
  unfold S3
  rw [show a + 256 * b + (a + 256 * b) / 16 = (a + a / 16 + 16 * (b % 16)) + 256 * (b + b / 16) from by omega, and_256 _ _ _ _ (by omega) (by omega), S3_x _ (by omega) _ (by omega)]
theorem S_byte : ∀ a, a < 256 → S1 85 a < 256 ∧ S2 51 (S1 85 a) % 16 ≤ 4 ∧ S2 51 (S1 85 a) / 16 ≤ 4 := by decide +kernel
theorem S_half : ∀ a, a < 16 → S2 13107 (S1 21845 a) < 16 ∧ S2 13107 (S1 21845 a) % 16 ≤ 4 := by decide +kernel
def eight (f : Nat → Bool) : Nat := bn (f 0) + 2 * (bn (f 1) + 2 * (bn (f 2) + 2 * (bn (f 3) + 2 * (bn (f 4) + 2 * (bn (f 5) + 2 * (bn (f 6) + 2 * bn (f 7)))))))
theorem T8 : ∀ a b c d e f g h : Bool, S3 15 (S2 51 (S1 85 (bn a + 2 * (bn b + 2 * (bn c + 2 * (bn d + 2 * (bn e + 2 * (bn f + 2 * (bn g + 2 * bn h))))))))) = bn a + bn b + bn c + bn d + bn e + bn f + bn g + bn h := by decide +kernel
theorem T4 : ∀ a b c d : Bool, S3 3855 (S2 13107 (S1 21845 (bn a + 2 * (bn b + 2 * (bn c + 2 * bn d))))) = bn a + bn b + bn c + bn d := by decide +kernel
theorem bc_n {n : Nat} (hn : n < 2 ^ 20) : bc_ (nI n) = nI ((S3 252645135 (S2 858993459 (S1 1431655765 n)) + S3 252645135 (S2 858993459 (S1 1431655765 n)) / 256 + (S3 252645135 (S2 858993459 (S1 1431655765 n)) + S3 252645135 (S2 858993459 (S1 1431655765 n)) / 256) / 65536) &&& 63) := by
  have a1 : S1 1431655765 n ≤ n := Nat.sub_le _ _
  have a2 : S2 858993459 (S1 1431655765 n) ≤ 2 * S1 1431655765 n := by
    have h1 : S1 1431655765 n &&& 858993459 ≤ S1 1431655765 n := Nat.and_le_left
    have h2 : (S1 1431655765 n / 4) &&& 858993459 ≤ S1 1431655765 n / 4 := Nat.and_le_left
    unfold S2; omega
  have a3 : S3 252645135 (S2 858993459 (S1 1431655765 n)) ≤ 2 * S2 858993459 (S1 1431655765 n) := by
    have h1 : S3 252645135 (S2 858993459 (S1 1431655765 n)) ≤ S2 858993459 (S1 1431655765 n) + S2 858993459 (S1 1431655765 n) / 16 := Nat.and_le_left
    omega
  have e1 : bc1 (nI n) = nI (S1 1431655765 n) := by
    unfold bc1
    have h1 : (n / 2) &&& 1431655765 ≤ n / 2 := Nat.and_le_left
    rw [show (1 : Int32) = nI 1 from rfl, us_nI (by omega) (by omega), show (1431655765 : Int32) = nI 1431655765 from rfl, nI_and, pk_sub (by rw [show (2 : Nat) ^ 1 = 2 from rfl]; omega)]
    rfl
  have e2 : bc2 (nI (S1 1431655765 n)) = nI (S2 858993459 (S1 1431655765 n)) := by
    unfold bc2
    rw [show (2 : Int32) = nI 2 from rfl, us_nI (by omega) (by omega), show (858993459 : Int32) = nI 858993459 from rfl, nI_and, nI_and, nI_add]
    rfl
  have e3 : bc3 (nI (S2 858993459 (S1 1431655765 n))) = nI (S3 252645135 (S2 858993459 (S1 1431655765 n))) := by
    unfold bc3
    rw [show (4 : Int32) = nI 4 from rfl, us_nI (by omega) (by omega), show (252645135 : Int32) = nI 252645135 from rfl, nI_add, nI_and]
    rfl
  unfold bc_
  rw [e1, e2, e3]
  generalize S3 252645135 (S2 858993459 (S1 1431655765 n)) = y at a3 ⊢
  unfold bc5 bc4
  rw [show (8 : Int32) = nI 8 from rfl, us_nI (by omega) (by omega), nI_add, show (16 : Int32) = nI 16 from rfl, us_nI (by omega) (by rw [show (2 : Nat) ^ 8 = 256 from rfl]; omega), nI_add, show (63 : Int32) = nI 63 from rfl, nI_and]
theorem and_63 : ∀ x, x < 64 → ∀ q, q < 64 → (x + 256 * q) &&& 63 = x := by decide +kernel
theorem mk_add (m : Nat) : ∀ (n : Nat) (M : Nat → Bool), mkM (n + m) M = mkM n M + 2 ^ n * mkM m (fun i => M (i + n))
  | 0, M => by
    rw [Nat.zero_add, Nat.pow_zero, Nat.one_mul]
    show _ = 0 + _
    rw [Nat.zero_add]
    rfl
  | n + 1, M => by
    rw [show n + 1 + m = (n + m) + 1 from by omega, mkM, mk_add m n, mkM, Nat.pow_succ, Nat.mul_add, Nat.mul_comm (2 ^ n) 2, Nat.mul_assoc, Nat.add_assoc]
    rfl
theorem cm_20 (M : Nat → Bool) : cm M 20 = (bn (M 0) + bn (M 1) + bn (M 2) + bn (M 3) + bn (M 4) + bn (M 5) + bn (M 6) + bn (M 7)) + (bn (M 8) + bn (M 9) + bn (M 10) + bn (M 11) + bn (M 12) + bn (M 13) + bn (M 14) + bn (M 15)) + (bn (M 16) + bn (M 17) + bn (M 18) + bn (M 19)) := by
  have h : cm M 20 = 0 + bn (M 0) + bn (M 1) + bn (M 2) + bn (M 3) + bn (M 4) + bn (M 5) + bn (M 6) + bn (M 7) + bn (M 8) + bn (M 9) + bn (M 10) + bn (M 11) + bn (M 12) + bn (M 13) + bn (M 14) + bn (M 15) + bn (M 16) + bn (M 17) + bn (M 18) + bn (M 19) := rfl
  rw [h]
  omega
theorem mk_8 (M : Nat → Bool) : mkM 8 M = bn (M 0) + 2 * (bn (M 1) + 2 * (bn (M 2) + 2 * (bn (M 3) + 2 * (bn (M 4) + 2 * (bn (M 5) + 2 * (bn (M 6) + 2 * bn (M 7))))))) := rfl
theorem mk_4 (M : Nat → Bool) : mkM 4 M = bn (M 0) + 2 * (bn (M 1) + 2 * (bn (M 2) + 2 * bn (M 3))) := rfl
theorem bn8 (M : Nat → Bool) : bn (M 0) + bn (M 1) + bn (M 2) + bn (M 3) + bn (M 4) + bn (M 5) + bn (M 6) + bn (M 7) ≤ 8 := by
  have := bn_le (M 0); have := bn_le (M 1); have := bn_le (M 2); have := bn_le (M 3); have := bn_le (M 4); have := bn_le (M 5); have := bn_le (M 6); have := bn_le (M 7)
  omega
theorem bn4 (M : Nat → Bool) : bn (M 0) + bn (M 1) + bn (M 2) + bn (M 3) ≤ 4 := by
  have := bn_le (M 0); have := bn_le (M 1); have := bn_le (M 2); have := bn_le (M 3)
  omega
theorem bc_sum {A B C : Nat} (lA : A ≤ 8) (lB : B ≤ 8) (lC : C ≤ 4) : (A + 256 * (B + 256 * C) + (A + 256 * (B + 256 * C)) / 256 + (A + 256 * (B + 256 * C) + (A + 256 * (B + 256 * C)) / 256) / 65536) &&& 63 = A + B + C := by
  have e : A + 256 * (B + 256 * C) + (A + 256 * (B + 256 * C)) / 256 + (A + 256 * (B + 256 * C) + (A + 256 * (B + 256 * C)) / 256) / 65536 = (A + B + C) + 256 * ((B + C) + 256 * C) := by omega
  rw [e, show (63 : Nat) = 63 + 256 * 0 from rfl, and_256 _ _ _ _ (by omega) (by omega), and_r0]
  have := and_63 (A + B + C) (by omega) 0 (by omega)
  exact this
theorem bc_20 (M : Nat → Bool) : bc_ (nI (mkM 20 M)) = nI (cm M 20) := by
  rw [bc_n (mkM_lt 20 M)]
  have hn : mkM 20 M = mkM 8 M + 256 * (mkM 8 (fun i => M (i + 8)) + 256 * mkM 4 (fun i => M (i + 16))) := by
    rw [show (20 : Nat) = 8 + (8 + 4) from rfl, mk_add, mk_add]
  have ta := T8 (M 0) (M 1) (M 2) (M 3) (M 4) (M 5) (M 6) (M 7)
  have tb := T8 (M 8) (M 9) (M 10) (M 11) (M 12) (M 13) (M 14) (M 15)
  have tc := T4 (M 16) (M 17) (M 18) (M 19)
  rw [← mk_8 M] at ta
  rw [← mk_8 (fun i => M (i + 8))] at tb
  rw [← mk_4 (fun i => M (i + 16))] at tc
  have lA := bn8 M
  have lB := bn8 (fun i => M (i + 8))
  have lC := bn4 (fun i => M (i + 16))
  have la := mkM_lt 8 M
  have lb := mkM_lt 8 (fun i => M (i + 8))
  have lc := mkM_lt 4 (fun i => M (i + 16))
  rw [cm_20, ← bc_sum lA lB lC, hn]
  generalize mkM 8 M = a at *
  generalize mkM 8 (fun i => M (i + 8)) = b at *
  generalize mkM 4 (fun i => M (i + 16)) = c at *
  obtain ⟨p1, p2, p3⟩ := S_byte a la
  obtain ⟨q1, q2, q3⟩ := S_byte b lb
  obtain ⟨r1, r2⟩ := S_half c lc
  rw [show (1431655765 : Nat) = 85 + 256 * (85 + 256 * 21845) from rfl, S1_split _ _ _ la, S1_split _ _ _ lb, show (858993459 : Nat) = 51 + 256 * (51 + 256 * 13107) from rfl, S2_split _ _ _ p1, S2_split _ _ _ q1, show (252645135 : Nat) = 15 + 256 * (15 + 256 * 3855) from rfl, S3_split _ _ _ ⟨p2, p3⟩ (by omega), S3_split _ _ _ ⟨q2, q3⟩ r2, ta, tb, tc]
