/-! what an instruction does -/
def sgn (W : Nat) (a : Int) : Int := if a < 2 ^ (W - 1) then a else a - 2 ^ W
def apZ (W : Nat) (op : Nat) (a b : Int) : Int :=
  if op = 0 then a * 2 ^ b.toNat % 2 ^ W else if op = 1 then a / 2 ^ b.toNat else if op = 2 then sgn W a / 2 ^ b.toNat % 2 ^ W
  else if op = 3 then (a + b) % 2 ^ W else if op = 4 then (a - b) % 2 ^ W else if op = 5 then a * b % 2 ^ W else if op = 6 then a * b / 2 ^ W
  else if op = 7 then sgn W a * sgn W b / 2 ^ W % 2 ^ W else if op = 8 then ((a.toNat &&& b.toNat : Nat) : Int) else if op = 9 then ((a.toNat ^^^ b.toNat : Nat) : Int)
  else if op = 10 then a / 2 ^ b.toNat + a % 2 ^ b.toNat * 2 ^ (W - b.toNat) else if a ≤ b then 1 else 0
theorem iI_and {a b : Nat} (ha : a < 65536) (hb : b < 65536) : iI a &&& iI b = iI ((a &&& b : Nat) : Int) := by
  have hab : a &&& b < 2 ^ 16 := Nat.and_lt_two_pow _ (by omega)
  rw [← nI_i, ← nI_i, ← nI_i]
  apply Int32.toBitVec_inj.mp
  apply BitVec.eq_of_toNat_eq
  show ((nI a).toBitVec &&& (nI b).toBitVec).toNat = _
  rw [BitVec.toNat_and, pk_tn (by omega), pk_tn (by omega), pk_tn (by omega)]
theorem iI_xor {a b : Nat} (ha : a < 65536) (hb : b < 65536) : iI a ^^^ iI b = iI ((a ^^^ b : Nat) : Int) := by
  have hab : a ^^^ b < 2 ^ 16 := Nat.xor_lt_two_pow (by omega) (by omega)
  rw [← nI_i, ← nI_i, ← nI_i]
  apply Int32.toBitVec_inj.mp
  apply BitVec.eq_of_toNat_eq
  show ((nI a).toBitVec ^^^ (nI b).toBitVec).toNat = _
  rw [BitVec.toNat_xor, pk_tn (by omega), pk_tn (by omega), pk_tn (by omega)]
theorem iI_orD {a b k : Nat} (ha : a < 2 ^ k) (h : 2 ^ k * b + a < 2 ^ 31) : iI a ||| iI ((2 ^ k * b : Nat) : Int) = iI ((a + 2 ^ k * b : Nat) : Int) := by
  rw [← nI_i, ← nI_i, ← nI_i]
  apply Int32.toBitVec_inj.mp
  apply BitVec.eq_of_toNat_eq
  show ((nI a).toBitVec ||| (nI (2 ^ k * b)).toBitVec).toNat = _
  rw [BitVec.toNat_or, pk_tn (by omega), pk_tn (by omega), pk_tn (by omega), Nat.or_comm, ← Nat.two_pow_add_eq_or_of_lt ha b, Nat.add_comm]
theorem mul_b {x y h : Int} (h1 : -h ≤ x) (h2 : x ≤ h) (h3 : -h ≤ y) (h4 : y ≤ h) : -(h * h) ≤ x * y ∧ x * y ≤ h * h := by
  have h0 : 0 ≤ h := by omega
  have a1 : (x * y).natAbs = x.natAbs * y.natAbs := Int.natAbs_mul x y
  have a2 : x.natAbs * y.natAbs ≤ h.natAbs * h.natAbs := Nat.mul_le_mul (by omega) (by omega)
  have a3 : (h * h).natAbs = h.natAbs * h.natAbs := Int.natAbs_mul h h
  have a4 : 0 ≤ h * h := Int.mul_nonneg h0 h0
  omega
theorem sgn_b {W : Nat} (w4 : 4 ≤ W) (w16 : W ≤ 16) {a : Int} (h0 : 0 ≤ a) (h1 : a < 2 ^ W) : -2 ^ (W - 1) ≤ sgn W a ∧ sgn W a < 2 ^ (W - 1) := by
  obtain ⟨p16, pm, ph⟩ := pw w4 w16
  unfold sgn
  split <;> omega
theorem mod_b (x : Int) (W : Nat) : 0 ≤ x % 2 ^ W ∧ x % 2 ^ W < 2 ^ W := by
  have hp : (0 : Int) < 2 ^ W := Int.pow_pos (by decide)
  exact ⟨Int.emod_nonneg _ (by omega), Int.emod_lt_of_pos _ hp⟩
theorem pow_sub {W k : Nat} (h : k ≤ W) : (2 : Int) ^ W = 2 ^ k * 2 ^ (W - k) := by rw [← Int.pow_add]; congr 1; omega
theorem ror_b {W : Nat} {a : Int} (h0 : 0 ≤ a) (h1 : a < 2 ^ W) {k : Nat} (hk : k ≤ W) : 0 ≤ a / 2 ^ k ∧ a / 2 ^ k < 2 ^ (W - k) ∧ 0 ≤ a % 2 ^ k * 2 ^ (W - k) ∧ a / 2 ^ k + a % 2 ^ k * 2 ^ (W - k) < 2 ^ W := by
  have hp : (0 : Int) < 2 ^ k := Int.pow_pos (by decide)
  have hq : (0 : Int) < 2 ^ (W - k) := Int.pow_pos (by decide)
  have e := pow_sub hk
  have d1 : a / 2 ^ k < 2 ^ (W - k) := Int.ediv_lt_of_lt_mul hp (by rw [Int.mul_comm, ← e]; exact h1)
  have d0 : 0 ≤ a / 2 ^ k := Int.ediv_nonneg h0 (by omega)
  have m0 := (mod_b a k).1
  have m1 := (mod_b a k).2
  have m2 : a % 2 ^ k * 2 ^ (W - k) ≤ (2 ^ k - 1) * 2 ^ (W - k) := Int.mul_le_mul_of_nonneg_right (by omega) (by omega)
  have m3 : 0 ≤ a % 2 ^ k * 2 ^ (W - k) := Int.mul_nonneg m0 (by omega)
  rw [Int.sub_mul, Int.one_mul, ← e] at m2
  refine ⟨d0, d1, m3, by omega⟩
theorem apZ_b {W : Nat} (w4 : 4 ≤ W) (w16 : W ≤ 16) {op : Nat} {a b : Int} (a0 : 0 ≤ a) (a1 : a < 2 ^ W) (b0 : 0 ≤ b) (b1 : b < 2 ^ W) (hs : op ≤ 2 ∨ op = 10 → b < W) : 0 ≤ apZ W op a b ∧ apZ W op a b < 2 ^ W := by
  obtain ⟨p16, pm, ph⟩ := pw w4 w16
  have hp : (0 : Int) < 2 ^ W := by omega
  unfold apZ
  split
  · exact mod_b _ _
  split
  · have hq : (0 : Int) < 2 ^ b.toNat := Int.pow_pos (by decide)
    have := Int.ediv_le_self (a := a) (2 ^ b.toNat) a0
    exact ⟨Int.ediv_nonneg a0 (by omega), by omega⟩
  split
  · exact mod_b _ _
  split
  · exact mod_b _ _
  split
  · exact mod_b _ _
  split
  · exact mod_b _ _
  split
  · have h1 : a * b ≤ a * 2 ^ W := Int.mul_le_mul_of_nonneg_left (by omega) a0
    have h2 : a * b / 2 ^ W ≤ a := Int.ediv_le_of_le_mul hp h1
    have h3 : 0 ≤ a * b / 2 ^ W := Int.ediv_nonneg (Int.mul_nonneg a0 b0) (by omega)
    omega
  split
  · exact mod_b _ _
  have e : ((2 ^ W : Nat) : Int) = 2 ^ W := pwN W
  split
  · have := Nat.and_lt_two_pow a.toNat (n := W) (y := b.toNat) (by omega)
    omega
  split
  · have := Nat.xor_lt_two_pow (x := a.toNat) (y := b.toNat) (n := W) (by omega) (by omega)
    omega
  split
  · have := hs (by omega)
    have := ror_b a0 a1 (k := b.toNat) (by omega)
    omega
  · split <;> omega
theorem c_sgn {W : Nat} (w4 : 4 ≤ W) (w16 : W ≤ 16) {a : Int} (a0 : 0 ≤ a) (a1 : a < 2 ^ W) {Q : Int32 → Prop} (hQ : Q (iI (sgn W a))) : wX4_signedMeaning (iI a) (iI W) Q := by
  obtain ⟨p16, pm, ph⟩ := pw w4 w16
  unfold wX4_signedMeaning
  have e1 : iI W - 1 = iI ((W - 1 : Nat) : Int) := by show iI W - iI 1 = _; rw [iI_sub]; congr 1; omega
  rw [e1, iI_p2 (by omega), iI_p2 (by omega)]
  unfold sgn at hQ
  refine br_le (2 ^ (W - 1)) a (fun c => ?_) (fun c => ?_)
  · rw [if_neg (by omega)] at hQ; rw [iI_sub]; exact hQ
  · rw [if_pos (by omega)] at hQ; exact hQ
set_option maxHeartbeats 1000000 in
theorem c_apply {W : Nat} (w4 : 4 ≤ W) (w16 : W ≤ 16) {op : Nat} (ho : op ≤ 11) {a b : Int} (a0 : 0 ≤ a) (a1 : a < 2 ^ W) (b0 : 0 ≤ b) (b1 : b < 2 ^ W) (hs : op ≤ 2 ∨ op = 10 → b < W) {Q : Int32 → Prop} (hQ : Q (iI (apZ W op a b))) : wX3_apply (iI op) (iI a) (iI b) (iI W) Q := by
  obtain ⟨p16, pm, ph⟩ := pw w4 w16
  obtain ⟨k, rfl⟩ : ∃ k : Nat, (k : Int) = b := ⟨b.toNat, by omega⟩
  unfold wX3_apply
  intro x4 hx4
  have ex : x4 = iI (2 ^ W - 1) := by rw [hx4, iI_p2 (by omega)]; show iI _ - iI 1 = _; rw [iI_sub]
  subst ex
  unfold apZ at hQ
  rw [Int.toNat_natCast] at hQ
  refine br_eq op 0 (fun c => ?_) (fun c0 => ?_)
  · rw [if_pos (by omega)] at hQ
    have := hs (by omega)
    rw [iI_shl (by omega), iI_mask _ (by omega)]; exact hQ
  rw [if_neg (by omega)] at hQ
  refine br_eq op 1 (fun c => ?_) (fun c1 => ?_)
  · rw [if_pos (by omega)] at hQ
    have := hs (by omega)
    rw [iI_shr (by omega) (by omega) (by omega)]; exact hQ
  rw [if_neg (by omega)] at hQ
  refine br_eq op 2 (fun c => ?_) (fun c2 => ?_)
  · rw [if_pos (by omega)] at hQ
    have := hs (by omega)
    have sb := sgn_b w4 w16 a0 a1
    refine c_sgn w4 w16 a0 a1 ?_
    rw [iI_shr (by omega) (by omega) (by omega), iI_mask _ (by omega)]; exact hQ
  rw [if_neg (by omega)] at hQ
  refine br_eq op 3 (fun c => ?_) (fun c3 => ?_)
  · rw [if_pos (by omega)] at hQ
    rw [iI_add, iI_mask _ (by omega)]; exact hQ
  rw [if_neg (by omega)] at hQ
  refine br_eq op 4 (fun c => ?_) (fun c4 => ?_)
  · rw [if_pos (by omega)] at hQ
    rw [iI_sub, iI_mask _ (by omega)]; exact hQ
  rw [if_neg (by omega)] at hQ
  refine br_eq op 5 (fun c => ?_) (fun c5 => ?_)
  · rw [if_pos (by omega)] at hQ
    rw [iI_mul, iI_mask _ (by omega)]; exact hQ
  rw [if_neg (by omega)] at hQ
  refine br_eq op 6 (fun c => ?_) (fun c6 => ?_)
  · rw [if_pos (by omega)] at hQ
    have hb := mul_b (x := a) (y := k) (h := 65536) (by omega) (by omega) (by omega) (by omega)
    rw [iI_l (by omega) (by omega), iI_l (by omega) (by omega), lI_mul, lI_shr (by omega) (by omega) (by omega), lI_i]; exact hQ
  rw [if_neg (by omega)] at hQ
  refine br_eq op 7 (fun c => ?_) (fun c7 => ?_)
  · rw [if_pos (by omega)] at hQ
    have sa := sgn_b w4 w16 a0 a1
    have sb := sgn_b w4 w16 b0 b1
    have hb := mul_b (x := sgn W a) (y := sgn W k) (h := 32768) (by omega) (by omega) (by omega) (by omega)
    refine c_sgn w4 w16 a0 a1 (c_sgn w4 w16 b0 b1 ?_)
    rw [iI_mul, iI_shr (by omega) (by omega) (by omega), iI_mask _ (by omega)]; exact hQ
  rw [if_neg (by omega)] at hQ
  obtain ⟨n, rfl⟩ : ∃ n : Nat, (n : Int) = a := ⟨a.toNat, by omega⟩
  rw [Int.toNat_natCast] at hQ
  refine br_eq op 8 (fun c => ?_) (fun c8 => ?_)
  · rw [if_pos (by omega)] at hQ
    rw [iI_and (by omega) (by omega)]; exact hQ
  rw [if_neg (by omega)] at hQ
  refine br_eq op 9 (fun c => ?_) (fun c9 => ?_)
  · rw [if_pos (by omega)] at hQ
    rw [iI_xor (by omega) (by omega)]; exact hQ
  rw [if_neg (by omega)] at hQ
  refine br_eq op 10 (fun c => ?_) (fun c10 => ?_)
  · rw [if_pos (by omega)] at hQ
    have hk := hs (by omega)
    have e1 : iI W - iI k = iI ((W - k : Nat) : Int) := by rw [iI_sub]; congr 1; omega
    have rb := ror_b (W := W) (a := n) (k := k) (by omega) (by omega) (by omega)
    rw [e1, iI_shr (by omega) (by omega) (by omega), iI_shl (by omega), iI_mask _ (by omega)]
    have e2 : (n : Int) * 2 ^ (W - k) % 2 ^ W = 2 ^ (W - k) * (n % 2 ^ k) := by
      rw [pow_sub (show k ≤ W by omega), Int.mul_comm (2 ^ k) (2 ^ (W - k)), Int.mul_comm (n : Int), Int.mul_emod_mul_of_pos _ _ (Int.pow_pos (by decide))]
    have e3 : (n : Int) / 2 ^ k = ((n / 2 ^ k : Nat) : Int) := by rw [Int.natCast_ediv, pwN]
    have e4 : 2 ^ (W - k) * ((n : Int) % 2 ^ k) = ((2 ^ (W - k) * (n % 2 ^ k) : Nat) : Int) := by rw [Int.natCast_mul, Int.natCast_emod, pwN, pwN]
    have e5 : (n : Int) % 2 ^ k * 2 ^ (W - k) = ((2 ^ (W - k) * (n % 2 ^ k) : Nat) : Int) := by rw [Int.mul_comm]; exact e4
    have e6 : ((2 ^ (W - k) : Nat) : Int) = 2 ^ (W - k) := pwN _
    rw [e3, e5] at rb hQ
    rw [e2, e4, e3, iI_orD (by omega) (by omega)]
    rw [← Int.natCast_add] at hQ; exact hQ
  rw [if_neg (by omega)] at hQ
  refine br_lt k n (fun c => ?_) (fun c => ?_)
  · rw [if_neg (by omega)] at hQ; exact hQ
  · rw [if_pos (by omega)] at hQ; exact hQ
