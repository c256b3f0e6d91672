/-! ===== pure: bits, as mathematical numbers ===== -/
theorem zI_bv (m : Nat) : (zI (m : Int)).toBitVec = BitVec.ofNat 32 m := by
  unfold zI
  rw [Int32.toBitVec_ofInt, BitVec.ofInt_natCast]
theorem zI_and (m k : Nat) : zI (m : Int) &&& zI (k : Int) = zI ((m &&& k : Nat) : Int) := by
  apply Int32.toBitVec.inj
  rw [Int32.toBitVec_and, zI_bv, zI_bv, zI_bv, BitVec.ofNat_and]
theorem zI_or (m k : Nat) : zI (m : Int) ||| zI (k : Int) = zI ((m ||| k : Nat) : Int) := by
  apply Int32.toBitVec.inj
  rw [Int32.toBitVec_or, zI_bv, zI_bv, zI_bv, BitVec.ofNat_or]
theorem zI_xor (m k : Nat) : zI (m : Int) ^^^ zI (k : Int) = zI ((m ^^^ k : Nat) : Int) := by
  apply Int32.toBitVec.inj
  rw [Int32.toBitVec_xor, zI_bv, zI_bv, zI_bv, BitVec.ofNat_xor]
theorem zI_shE {e : Int} (he : 0 ≤ e ∧ e < 32) : (((zI e) &&& 31).toBitVec.smod 32).toNat = e.toNat := by
  have h := zI_sh e.toNat (by omega)
  rw [Int.toNat_of_nonneg he.1] at h
  exact h
theorem zI_shrE {a e : Int} (h : -2147483648 ≤ a ∧ a < 2147483648) (he : 0 ≤ e ∧ e < 32) : zI a >>> (zI e &&& 31) = zI (a / 2 ^ e.toNat) := by
  have q := pk_shr (zI a) (zI e &&& 31) e.toNat (zI_shE he)
  rw [zI_toInt h, Int.shiftRight_eq_div_pow] at q
  rw [zI_of (zI a >>> (zI e &&& 31)), q]
  congr 1
theorem zI_shrN {m : Nat} {e : Int} (h : m < 2147483648) (he : 0 ≤ e ∧ e < 32) : zI (m : Int) >>> (zI e &&& 31) = zI ((m >>> e.toNat : Nat) : Int) := by
  have q := pk_shr (zI (m : Int)) (zI e &&& 31) e.toNat (zI_shE he)
  rw [zI_toInt (by omega)] at q
  rw [zI_of (zI (m : Int) >>> (zI e &&& 31)), q]
  rfl
theorem zI_1shl {e : Int} (he : 0 ≤ e ∧ e < 31) : zI 1 <<< (zI e &&& 31) = zI ((2 ^ e.toNat : Nat) : Int) := by
  apply Int32.toBitVec.inj
  apply BitVec.eq_of_toNat_eq
  rw [pk_shl (zI 1) (zI e &&& 31) e.toNat (zI_shE (by omega)), zI_bv, BitVec.toNat_ofNat]
  have h1 : (zI 1).toBitVec.toNat = 1 := by decide
  rw [h1, Nat.one_mul]
theorem zI_shlE {a e : Int} (he : 0 ≤ e ∧ e < 32) : zI a <<< (zI e &&& 31) = zI (a * 2 ^ e.toNat) := by
  apply Int32.toBitVec.inj
  apply BitVec.eq_of_toNat_eq
  rw [pk_shl (zI a) (zI e &&& 31) e.toNat (zI_shE he)]
  unfold zI
  rw [Int32.toBitVec_ofInt, Int32.toBitVec_ofInt, BitVec.toNat_ofInt, BitVec.toNat_ofInt]
  apply Int.ofNat.inj
  show ((((a % (2 ^ 32 : Nat)).toNat * 2 ^ e.toNat % 2 ^ 32 : Nat)) : Int) = (((a * 2 ^ e.toNat) % (2 ^ 32 : Nat)).toNat : Int)
  rw [Int.natCast_emod, Int.natCast_mul, Int.toNat_of_nonneg (Int.emod_nonneg _ (by decide)), Int.toNat_of_nonneg (Int.emod_nonneg _ (by decide)), Int.natCast_pow]
  show a % (2 ^ 32 : Nat) * 2 ^ e.toNat % ((2 ^ 32 : Nat) : Int) = a * 2 ^ e.toNat % (2 ^ 32 : Nat)
  rw [Int.mul_emod, Int.emod_emod_of_dvd _ (Int.dvd_refl _), ← Int.mul_emod]
theorem zI_and1 {m : Nat} : zI (m : Int) &&& zI 1 = zI ((m % 2 : Nat) : Int) := by
  have h := zI_and m 1
  rw [Nat.and_one_is_mod] at h
  exact h
/-- the set of the places below n that f tells, as bits -/
def bn (f : Nat → Bool) : Nat → Nat
  | 0 => 0
  | n + 1 => bn f n + (if f n then 2 ^ n else 0)
theorem bn_lt (f : Nat → Bool) : ∀ n, bn f n < 2 ^ n
  | 0 => by show 0 < 1; decide
  | n + 1 => by
    have h := bn_lt f n
    show bn f n + (if f n then 2 ^ n else 0) < 2 ^ (n + 1)
    rw [Nat.pow_succ]
    split <;> omega
theorem bn_testBit (f : Nat → Bool) : ∀ n i, (bn f n).testBit i = (decide (i < n) && f i)
  | 0, i => by show Nat.testBit 0 i = _; simp
  | n + 1, i => by
    have hl := bn_lt f n
    have h := bn_testBit f n i
    show (bn f n + (if f n then 2 ^ n else 0)).testBit i = _
    by_cases hf : f n = true
    · rw [if_pos hf, Nat.add_comm]
      by_cases hi : i = n
      · subst hi
        rw [Nat.testBit_two_pow_add_eq, h]
        simp [hf]
      · by_cases hlt : i < n
        · rw [Nat.testBit_two_pow_add_gt hlt, h]
          simp [hlt, Nat.lt_succ_of_lt hlt]
        · rw [Nat.testBit_lt_two_pow]
          · simp [show ¬ i < n + 1 by omega]
          · have : 2 ^ (n + 1) ≤ 2 ^ i := Nat.pow_le_pow_right (by decide) (by omega)
            rw [Nat.pow_succ] at this
            omega
    · rw [if_neg hf, Nat.add_zero, h]
      by_cases hi : i = n
      · subst hi
        simp [hf]
      · by_cases hlt : i < n
        · simp [hlt, Nat.lt_succ_of_lt hlt]
        · simp [hlt, show ¬ i < n + 1 by omega]
theorem bn_and (f g : Nat → Bool) (n : Nat) : bn f n &&& bn g n = bn (fun i => f i && g i) n := by
  apply Nat.eq_of_testBit_eq
  intro i
  rw [Nat.testBit_and, bn_testBit, bn_testBit, bn_testBit]
  cases decide (i < n) <;> simp
theorem bn_or (f g : Nat → Bool) (n : Nat) : bn f n ||| bn g n = bn (fun i => f i || g i) n := by
  apply Nat.eq_of_testBit_eq
  intro i
  rw [Nat.testBit_or, bn_testBit, bn_testBit, bn_testBit]
  cases decide (i < n) <;> simp
theorem bn_congr {f g : Nat → Bool} {n : Nat} (h : ∀ i, i < n → f i = g i) : bn f n = bn g n := by
  apply Nat.eq_of_testBit_eq
  intro i
  rw [bn_testBit, bn_testBit]
  by_cases q : i < n
  · rw [h i q]
  · simp [q]
theorem bn_step {f : Nat → Bool} {n : Nat} (h : f n = true) : bn f n ||| 2 ^ n = bn f (n + 1) := by
  apply Nat.eq_of_testBit_eq
  intro i
  rw [Nat.testBit_or, bn_testBit, bn_testBit, Nat.testBit_two_pow]
  by_cases q : i < n
  · simp [q, Nat.lt_succ_of_lt q, show ¬ n = i by omega]
  · by_cases q2 : i = n
    · subst q2; simp [h]
    · simp [q, show ¬ n = i by omega, show ¬ i < n + 1 by omega]
theorem bn_skip {f : Nat → Bool} {n : Nat} (h : f n = false) : bn f (n + 1) = bn f n := by
  show bn f n + (if f n then 2 ^ n else 0) = _
  simp [h]
theorem bn_more {f : Nat → Bool} {m n : Nat} (hmn : m ≤ n) (h : ∀ i, m ≤ i → i < n → f i = false) : bn f n = bn f m := by
  apply Nat.eq_of_testBit_eq
  intro i
  rw [bn_testBit, bn_testBit]
  by_cases q : i < m
  · simp [q, Nat.lt_of_lt_of_le q hmn]
  · by_cases q2 : i < n
    · simp [h i (by omega) q2]
    · simp [q, q2]
theorem bn_bit (f : Nat → Bool) (n i : Nat) : (bn f n >>> i) % 2 = if i < n ∧ f i = true then 1 else 0 := by
  have h := bn_testBit f n i
  rw [Nat.shiftRight_eq_div_pow, ← Nat.toNat_testBit, h]
  by_cases q : i < n <;> cases f i <;> simp [q]
theorem bn_zero (f : Nat → Bool) (n : Nat) : bn f n = 0 ↔ ∀ i, i < n → f i = false := by
  constructor
  · intro h i hi
    have q := bn_testBit f n i
    rw [h] at q
    simpa [hi] using q.symm
  · intro h
    have := bn_more (f := f) (Nat.zero_le n) (fun i _ hi => h i hi)
    exact this
theorem bn_bits {m n : Nat} (h : m < 2 ^ n) : bn (fun i => m.testBit i) n = m := by
  apply Nat.eq_of_testBit_eq
  intro i
  rw [bn_testBit]
  by_cases q : i < n
  · simp [q]
  · rw [Nat.testBit_lt_two_pow (Nat.lt_of_lt_of_le h (Nat.pow_le_pow_right (by decide) (by omega)))]
    simp [q]
theorem bn_inj {f g : Nat → Bool} {n : Nat} (h : bn f n = bn g n) {i : Nat} (hi : i < n) : f i = g i := by
  have q1 := bn_testBit f n i
  rw [h, bn_testBit] at q1
  simpa [hi] using q1.symm
theorem bn_8 (f : Nat → Bool) {n : Nat} (h : n ≤ 8) : bn f n < 256 := Nat.lt_of_lt_of_le (bn_lt f n) (Nat.pow_le_pow_right (n := 2) (by decide) h)
theorem fits_zI_bool {z : Int} (h : z = 0 ∨ z = 1) : fits .boolean (.int (zI z)) = true := by rcases h with rfl | rfl <;> rfl
