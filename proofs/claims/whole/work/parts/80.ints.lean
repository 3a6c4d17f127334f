/-! numbers of the machine as whole numbers -/
def iI (z : Int) : Int32 := Int32.ofInt z
def lI (z : Int) : Int64 := Int64.ofInt z
theorem nI_i (n : Nat) : nI n = iI n := (Int32.ofInt_eq_ofNat).symm
theorem lN_l (n : Nat) : lN n = lI n := (Int64.ofInt_eq_ofNat).symm
theorem iI_t {z : Int} (h1 : -2147483648 ≤ z) (h2 : z < 2147483648) : (iI z).toInt = z := Int32.toInt_ofInt_of_le h1 h2
theorem lI_t {z : Int} (h1 : -9223372036854775808 ≤ z) (h2 : z < 9223372036854775808) : (lI z).toInt = z := Int64.toInt_ofInt_of_le h1 h2
theorem iI_of (x : Int32) : ∃ z : Int, -2147483648 ≤ z ∧ z < 2147483648 ∧ x = iI z := ⟨x.toInt, Int32.le_toInt x, Int32.toInt_lt x, (Int32.ofInt_toInt x).symm⟩
theorem lI_of (x : Int64) : ∃ z : Int, -9223372036854775808 ≤ z ∧ z < 9223372036854775808 ∧ x = lI z := ⟨x.toInt, Int64.le_toInt x, Int64.toInt_lt x, (Int64.ofInt_toInt x).symm⟩
theorem iI_add (a b : Int) : iI a + iI b = iI (a + b) := (Int32.ofInt_add a b).symm
theorem iI_sub (a b : Int) : iI a - iI b = iI (a - b) := (Int32.ofInt_sub a b).symm
theorem iI_mul (a b : Int) : iI a * iI b = iI (a * b) := (Int32.ofInt_mul a b).symm
theorem iI_neg (a : Int) : -iI a = iI (-a) := Int32.neg_ofInt
theorem lI_add (a b : Int) : lI a + lI b = lI (a + b) := (Int64.ofInt_add a b).symm
theorem lI_sub (a b : Int) : lI a - lI b = lI (a - b) := (Int64.ofInt_sub a b).symm
theorem lI_mul (a b : Int) : lI a * lI b = lI (a * b) := (Int64.ofInt_mul a b).symm
theorem lI_neg (a : Int) : -lI a = lI (-a) := Int64.neg_ofInt
theorem iI_le {a b : Int} (h1 : -2147483648 ≤ a) (h2 : a < 2147483648) (h3 : -2147483648 ≤ b) (h4 : b < 2147483648) : iI a ≤ iI b ↔ a ≤ b := by
  rw [Int32.le_iff_toInt_le, iI_t h1 h2, iI_t h3 h4]
theorem iI_lt {a b : Int} (h1 : -2147483648 ≤ a) (h2 : a < 2147483648) (h3 : -2147483648 ≤ b) (h4 : b < 2147483648) : iI a < iI b ↔ a < b := by
  rw [Int32.lt_iff_toInt_lt, iI_t h1 h2, iI_t h3 h4]
theorem iI_eq {a b : Int} (h1 : -2147483648 ≤ a) (h2 : a < 2147483648) (h3 : -2147483648 ≤ b) (h4 : b < 2147483648) : iI a = iI b ↔ a = b := by
  rw [← Int32.toInt_inj, iI_t h1 h2, iI_t h3 h4]
theorem lI_le {a b : Int} (h1 : -9223372036854775808 ≤ a) (h2 : a < 9223372036854775808) (h3 : -9223372036854775808 ≤ b) (h4 : b < 9223372036854775808) : lI a ≤ lI b ↔ a ≤ b := by
  rw [Int64.le_iff_toInt_le, lI_t h1 h2, lI_t h3 h4]
theorem lI_lt {a b : Int} (h1 : -9223372036854775808 ≤ a) (h2 : a < 9223372036854775808) (h3 : -9223372036854775808 ≤ b) (h4 : b < 9223372036854775808) : lI a < lI b ↔ a < b := by
  rw [Int64.lt_iff_toInt_lt, lI_t h1 h2, lI_t h3 h4]
theorem lI_eq {a b : Int} (h1 : -9223372036854775808 ≤ a) (h2 : a < 9223372036854775808) (h3 : -9223372036854775808 ≤ b) (h4 : b < 9223372036854775808) : lI a = lI b ↔ a = b := by
  rw [← Int64.toInt_inj, lI_t h1 h2, lI_t h3 h4]
theorem iI_l {z : Int} (h1 : -2147483648 ≤ z) (h2 : z < 2147483648) : (iI z).toInt64 = lI z := by
  rw [← Int64.toInt_inj, Int32.toInt_toInt64, iI_t h1 h2, lI_t (by omega) (by omega)]
theorem lI_i (z : Int) : (lI z).toInt32 = iI z := Int64.toInt32_ofInt
theorem iI_cl {z : Int} (h1 : 0 ≤ z) (h2 : z < 2147483648) : (iI z).toNatClampNeg = z.toNat := Int32.toNatClampNeg_ofInt_of_le (by omega) h2
theorem iI_clN {n : Nat} (h : n < 2147483648) : (iI (n : Int)).toNatClampNeg = n := by rw [iI_cl (by omega) (by omega)]; omega
theorem iI_in {z : Int} {n : Nat} (h1 : 0 ≤ z) (h2 : z < n) (h3 : n ≤ 2147483648) : vp_in (iI z) n := vp_in_iff.mpr (by rw [iI_t (by omega) (by omega)]; exact ⟨h1, h2⟩)
theorem lI_tdiv {a b : Int} (h1 : -9223372036854775808 < a) (h2 : a < 9223372036854775808) (h3 : -9223372036854775808 ≤ b) (h4 : b < 9223372036854775808) : lI a / lI b = lI (a.tdiv b) := by
  rw [← Int64.toInt_inj, Int64.toInt_div_of_ne_left]
  · rw [lI_t (by omega) h2, lI_t h3 h4, lI_t]
    · have := Int.natAbs_tdiv_le_natAbs a b
      omega
    · have := Int.natAbs_tdiv_le_natAbs a b
      omega
  · intro h
    have := congrArg Int64.toInt h
    rw [lI_t (by omega) h2] at this
    have e : Int64.minValue.toInt = -9223372036854775808 := by decide
    omega
theorem lI_div {a b : Int} (h1 : 0 ≤ a) (h2 : a < 9223372036854775808) (h3 : 0 < b) (h4 : b < 9223372036854775808) : lI a / lI b = lI (a / b) := by
  rw [lI_tdiv (by omega) h2 (by omega) h4, Int.tdiv_eq_ediv_of_nonneg h1]
theorem iI_tdiv {a b : Int} (h1 : -2147483648 < a) (h2 : a < 2147483648) (h3 : -2147483648 ≤ b) (h4 : b < 2147483648) : iI a / iI b = iI (a.tdiv b) := by
  rw [← Int32.toInt_inj, Int32.toInt_div_of_ne_left]
  · rw [iI_t (by omega) h2, iI_t h3 h4, iI_t]
    · have := Int.natAbs_tdiv_le_natAbs a b
      omega
    · have := Int.natAbs_tdiv_le_natAbs a b
      omega
  · intro h
    have := congrArg Int32.toInt h
    rw [iI_t (by omega) h2] at this
    have e : Int32.minValue.toInt = -2147483648 := by decide
    omega
theorem iI_div {a b : Int} (h1 : 0 ≤ a) (h2 : a < 2147483648) (h3 : 0 < b) (h4 : b < 2147483648) : iI a / iI b = iI (a / b) := by
  rw [iI_tdiv (by omega) h2 (by omega) h4, Int.tdiv_eq_ediv_of_nonneg h1]
theorem lI_amt : ∀ k : Nat, k < 64 → (((Int32.ofNat k).toInt64 &&& 63).toBitVec.smod 64).toNat = k := by decide
theorem iI_amt : ∀ k : Nat, k < 32 → ((Int32.ofNat k &&& 31).toBitVec.smod 32).toNat = k := by decide
theorem lI_shr {a : Int} {k : Nat} (hk : k < 64) (h1 : -9223372036854775808 ≤ a) (h2 : a < 9223372036854775808) : lI a >>> ((iI k).toInt64 &&& 63) = lI (a / 2 ^ k) := by
  rw [← Int64.toInt_inj]
  show ((lI a).toBitVec.sshiftRight (((iI k).toInt64 &&& 63).toBitVec.smod 64).toNat).toInt = _
  rw [← nI_i, show nI k = Int32.ofNat k from rfl, lI_amt k hk, BitVec.toInt_sshiftRight]
  show (lI a).toInt >>> k = _
  rw [lI_t h1 h2, Int.shiftRight_eq_div_pow]
  have hp : (0 : Int) < 2 ^ k := Int.pow_pos (by decide)
  have e : ((2 ^ k : Nat) : Int) = 2 ^ k := by simp
  rw [e]
  have h3 : a / 2 ^ k ≤ a ∨ a < 0 := by
    by_cases h : a < 0
    · exact Or.inr h
    · exact Or.inl (Int.ediv_le_self _ (by omega))
  have h4 : a ≤ a / 2 ^ k ∨ 0 ≤ a := by
    by_cases h : 0 ≤ a
    · exact Or.inr h
    · refine Or.inl ?_
      have h5 := Int.le_ediv_iff_mul_le (a := a) (b := a) hp
      rw [h5]
      have h6 : (1 : Int) ≤ 2 ^ k := hp
      have := Int.mul_le_mul_of_nonneg_left h6 (show 0 ≤ -a by omega)
      rw [Int.mul_one, Int.neg_mul] at this
      omega
  have h7 : 0 ≤ a → 0 ≤ a / 2 ^ k := fun h => Int.ediv_nonneg h (by omega)
  have h8 : a < 0 → a / 2 ^ k < 0 := fun h => Int.ediv_lt_of_lt_mul hp (by simpa using h)
  rw [lI_t]
  · rcases Int.lt_or_le a 0 with h | h
    · have := h8 h; omega
    · have := h7 h; omega
  · rcases Int.lt_or_le a 0 with h | h
    · have := h8 h; omega
    · have := h7 h; omega
theorem iI_shr {a : Int} {k : Nat} (hk : k < 32) (h1 : -2147483648 ≤ a) (h2 : a < 2147483648) : iI a >>> (iI k &&& 31) = iI (a / 2 ^ k) := by
  rw [← Int32.toInt_inj, pk_shr _ _ k (by rw [← nI_i]; exact iI_amt k hk), iI_t h1 h2, Int.shiftRight_eq_div_pow]
  have hp : (0 : Int) < 2 ^ k := Int.pow_pos (by decide)
  have e : ((2 ^ k : Nat) : Int) = 2 ^ k := by simp
  rw [e]
  have h4 : a ≤ a / 2 ^ k ∨ 0 ≤ a := by
    by_cases h : 0 ≤ a
    · exact Or.inr h
    · refine Or.inl ?_
      have h5 := Int.le_ediv_iff_mul_le (a := a) (b := a) hp
      rw [h5]
      have h6 : (1 : Int) ≤ 2 ^ k := hp
      have := Int.mul_le_mul_of_nonneg_left h6 (show 0 ≤ -a by omega)
      rw [Int.mul_one, Int.neg_mul] at this
      omega
  have h3 : a / 2 ^ k ≤ a ∨ a < 0 := by
    by_cases h : a < 0
    · exact Or.inr h
    · exact Or.inl (Int.ediv_le_self _ (by omega))
  have h7 : 0 ≤ a → 0 ≤ a / 2 ^ k := fun h => Int.ediv_nonneg h (by omega)
  have h8 : a < 0 → a / 2 ^ k < 0 := fun h => Int.ediv_lt_of_lt_mul hp (by simpa using h)
  rw [iI_t]
  · rcases Int.lt_or_le a 0 with h | h
    · have := h8 h; omega
    · have := h7 h; omega
  · rcases Int.lt_or_le a 0 with h | h
    · have := h8 h; omega
    · have := h7 h; omega
theorem p2_64 : ∀ k : Nat, k < 64 → (1 : Int64) <<< ((Int32.ofNat k).toInt64 &&& 63) = Int64.ofNat (2 ^ k) := by decide
theorem p2_32 : ∀ k : Nat, k < 32 → (1 : Int32) <<< (Int32.ofNat k &&& 31) = Int32.ofNat (2 ^ k) := by decide
theorem lI_p2 {k : Nat} (hk : k < 64) : (1 : Int64) <<< ((iI k).toInt64 &&& 63) = lI (2 ^ k) := by
  rw [← nI_i]
  refine (p2_64 k hk).trans ?_
  show lN (2 ^ k) = _
  rw [lN_l]; congr 1
theorem iI_p2 {k : Nat} (hk : k < 32) : (1 : Int32) <<< (iI k &&& 31) = iI (2 ^ k) := by
  rw [← nI_i]
  refine (p2_32 k hk).trans ?_
  show nI (2 ^ k) = _
  rw [nI_i]; congr 1
theorem lI_shl {a : Int} {k : Nat} (hk : k < 64) : lI a <<< ((iI k).toInt64 &&& 63) = lI (a * 2 ^ k) := by
  rw [← lI_mul, ← lI_p2 hk]
  apply Int64.toBitVec_inj.mp
  show (lI a).toBitVec <<< (((iI k).toInt64 &&& 63).toBitVec.smod 64) = (lI a).toBitVec * ((1 : Int64).toBitVec <<< (((iI k).toInt64 &&& 63).toBitVec.smod 64))
  rw [BitVec.shiftLeft_eq', BitVec.shiftLeft_eq', ← nI_i, show nI k = Int32.ofNat k from rfl, lI_amt k hk, BitVec.shiftLeft_eq_mul_twoPow, BitVec.shiftLeft_eq_mul_twoPow]
  show _ = (lI a).toBitVec * (1#64 * _)
  rw [BitVec.one_mul]
theorem iI_shl {a : Int} {k : Nat} (hk : k < 32) : iI a <<< (iI k &&& 31) = iI (a * 2 ^ k) := by
  rw [← iI_mul, ← iI_p2 hk]
  apply Int32.toBitVec_inj.mp
  show (iI a).toBitVec <<< ((iI k &&& 31).toBitVec.smod 32) = (iI a).toBitVec * ((1 : Int32).toBitVec <<< ((iI k &&& 31).toBitVec.smod 32))
  rw [BitVec.shiftLeft_eq', BitVec.shiftLeft_eq', ← nI_i, show nI k = Int32.ofNat k from rfl, iI_amt k hk, BitVec.shiftLeft_eq_mul_twoPow, BitVec.shiftLeft_eq_mul_twoPow]
  show _ = (iI a).toBitVec * (1#32 * _)
  rw [BitVec.one_mul]
theorem iI_mask (a : Int) {k : Nat} (hk : k < 32) : iI a &&& iI (2 ^ k - 1) = iI (a % 2 ^ k) := by
  have e0 : (2 ^ k - 1 : Int) = ((2 ^ k - 1 : Nat) : Int) := by
    have : 1 ≤ 2 ^ k := Nat.one_le_two_pow
    rw [Int.natCast_sub this]; simp
  rw [e0, ← nI_i]
  have hlt : 2 ^ k < 2 ^ 32 := Nat.pow_lt_pow_right (by decide) hk
  rw [pk_and (iI a) k (pk_tn (by omega)), nI_i]
  congr 1
  show (((BitVec.ofInt 32 a).toNat % 2 ^ k : Nat) : Int) = _
  rw [BitVec.toNat_ofInt, Int.natCast_emod, Int.toNat_of_nonneg (Int.emod_nonneg _ (by decide))]
  have e1 : ((2 ^ k : Nat) : Int) = 2 ^ k := by simp
  rw [e1]
  refine Int.emod_emod_of_dvd a ?_
  exact ⟨2 ^ (32 - k), by
    show ((2 ^ 32 : Nat) : Int) = _
    rw [show (((2 ^ 32 : Nat) : Int)) = (2 : Int) ^ 32 by decide, ← Int.pow_add]
    congr 1; omega⟩
theorem lI_mask (a : Int) {k : Nat} (hk : k < 64) : lI a &&& lI (2 ^ k - 1) = lI (a % 2 ^ k) := by
  have e0 : (2 ^ k - 1 : Int) = ((2 ^ k - 1 : Nat) : Int) := by
    have : 1 ≤ 2 ^ k := Nat.one_le_two_pow
    rw [Int.natCast_sub this]; simp
  apply Int64.toBitVec_inj.mp
  apply BitVec.eq_of_toNat_eq
  show ((BitVec.ofInt 64 a) &&& (BitVec.ofInt 64 (2 ^ k - 1))).toNat = (BitVec.ofInt 64 (a % 2 ^ k)).toNat
  have hlt : 2 ^ k < 2 ^ 64 := Nat.pow_lt_pow_right (by decide) hk
  have hz : ((2 ^ 64 : Nat) : Int) = (2 : Int) ^ 64 := by decide
  rw [BitVec.toNat_and, e0, BitVec.toNat_ofInt, BitVec.toNat_ofInt, BitVec.toNat_ofInt]
  have e2 : ((((2 ^ k - 1 : Nat) : Int)) % ((2 ^ 64 : Nat) : Int)).toNat = 2 ^ k - 1 := by
    rw [← Int.natCast_emod, Int.toNat_natCast, Nat.mod_eq_of_lt (by omega)]
  rw [e2, Nat.and_two_pow_sub_one_eq_mod]
  apply Int.ofNat_inj.mp
  have e1 : ((2 ^ k : Nat) : Int) = 2 ^ k := by simp
  have hp : (0 : Int) < 2 ^ k := Int.pow_pos (by decide)
  rw [Int.natCast_emod, Int.toNat_of_nonneg (Int.emod_nonneg _ (by decide)), Int.toNat_of_nonneg (Int.emod_nonneg _ (by decide)), e1]
  have h1 : a % 2 ^ k < 2 ^ k := Int.emod_lt_of_pos a hp
  have h2 : 0 ≤ a % 2 ^ k := Int.emod_nonneg a (by omega)
  have h3 : (2 : Int) ^ k < ((2 ^ 64 : Nat) : Int) := by rw [← e1]; exact Int.ofNat_lt.mpr hlt
  rw [Int.emod_eq_of_lt h2 (by omega)]
  refine Int.emod_emod_of_dvd a ?_
  exact ⟨2 ^ (64 - k), by
    rw [hz, ← Int.pow_add]
    congr 1; omega⟩
theorem pw {W : Nat} (h1 : 4 ≤ W) (h2 : W ≤ 16) : (16 : Int) ≤ 2 ^ W ∧ (2 : Int) ^ W ≤ 65536 ∧ (2 : Int) ^ W = 2 * 2 ^ (W - 1) := by
  have : ∀ W : Nat, W < 17 → 4 ≤ W → (16 : Int) ≤ 2 ^ W ∧ (2 : Int) ^ W ≤ 65536 ∧ (2 : Int) ^ W = 2 * 2 ^ (W - 1) := by decide
  exact this W (by omega) h1
theorem pwN (k : Nat) : ((2 ^ k : Nat) : Int) = 2 ^ k := by simp
