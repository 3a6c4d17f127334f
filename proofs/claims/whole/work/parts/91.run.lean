/-! the reference's instructions -/
theorem p2le {a b : Nat} (h : a ≤ b) : (2 : Int) ^ a ≤ 2 ^ b := by
  rw [← pwN, ← pwN]; exact Int.ofNat_le.mpr (Nat.pow_le_pow_right (by decide) h)
theorem p2pos (k : Nat) : (0 : Int) < 2 ^ k := Int.pow_pos (by decide)
theorem lI_ne0 {b : Int} (h1 : -9223372036854775808 ≤ b) (h2 : b < 9223372036854775808) (h : b ≠ 0) : ¬ lI b = 0 := fun c => h ((lI_eq h1 h2 (by decide) (by decide)).mp (show lI b = lI 0 from c))
theorem iI_ne0 {b : Int} (h1 : -2147483648 ≤ b) (h2 : b < 2147483648) (h : b ≠ 0) : ¬ iI b = 0 := fun c => h ((iI_eq h1 h2 (by decide) (by decide)).mp (show iI b = iI 0 from c))
theorem fl_u {a b q : Int} (h : 0 < b) (h1 : q * b ≤ a) (h2 : a < (q + 1) * b) : a / b = q := by
  have x1 := Int.le_ediv_of_mul_le h h1
  have x2 := Int.ediv_lt_of_lt_mul h h2
  omega
theorem emz (a b : Int) : a = a / b * b + a % b := by
  have := Int.mul_ediv_add_emod a b
  rw [Int.mul_comm] at this; omega
theorem fd_b {x p : Int} (hp : 0 < p) {B : Int} (h1 : -B ≤ x) (h2 : x ≤ B) : -B ≤ x / p ∧ x / p ≤ B := by
  have hB : 0 ≤ B := by omega
  have k1 := Int.mul_le_mul_of_nonneg_left (show 1 ≤ p from hp) hB
  have k2 := Int.mul_le_mul_of_nonneg_left (show 1 ≤ p from hp) (show 0 ≤ B + 1 by omega)
  constructor
  · refine Int.le_ediv_of_mul_le hp ?_
    rw [Int.neg_mul]; omega
  · have : x / p < B + 1 := Int.ediv_lt_of_lt_mul hp (by omega)
    omega
theorem lI_rem {a b : Int} (h1 : -9223372036854775808 < a) (h2 : a < 9223372036854775808) (h3 : -9223372036854775808 ≤ b) (h4 : b < 9223372036854775808) : lI a - lI a / lI b * lI b = lI (a.tmod b) := by
  rw [lI_tdiv h1 h2 h3 h4, lI_mul, lI_sub, Int.tmod_def, Int.mul_comm b]
theorem iI_rem {a b : Int} (h1 : -2147483648 < a) (h2 : a < 2147483648) (h3 : -2147483648 ≤ b) (h4 : b < 2147483648) : iI a - iI a / iI b * iI b = iI (a.tmod b) := by
  rw [iI_tdiv h1 h2 h3 h4, iI_mul, iI_sub, Int.tmod_def, Int.mul_comm b]
theorem lI_remN {a b : Int} (h1 : 0 ≤ a) (h2 : a < 9223372036854775808) (h3 : -9223372036854775808 ≤ b) (h4 : b < 9223372036854775808) : lI a - lI a / lI b * lI b = lI (a % b) := by
  rw [lI_rem (by omega) h2 h3 h4, Int.tmod_eq_emod_of_nonneg h1]
theorem iI_remN {a b : Int} (h1 : 0 ≤ a) (h2 : a < 2147483648) (h3 : -2147483648 ≤ b) (h4 : b < 2147483648) : iI a - iI a / iI b * iI b = iI (a % b) := by
  rw [iI_rem (by omega) h2 h3 h4, Int.tmod_eq_emod_of_nonneg h1]
theorem m_floor {a b : Int} {Q : Int64 → Prop} (h1 : -4611686018427387904 ≤ a) (h2 : a < 4611686018427387904) (h3 : 0 < b) (h4 : b < 4611686018427387904) (h : Q (lI (a / b))) : wX9_floor (lI a) (lI b) Q := by
  unfold wX9_floor
  have hb := lI_ne0 (b := b) (by omega) (by omega) (by omega)
  refine ⟨hb, fun x hx => ⟨hb, ?_⟩⟩
  subst hx
  rw [lI_tdiv (by omega) (by omega) (by omega) (by omega), lI_mul, lI_sub]
  by_cases c : 0 ≤ a
  · rw [Int.tdiv_eq_ediv_of_nonneg c]
    have e := emz a b
    have m0 : 0 ≤ a % b := Int.emod_nonneg a (by omega)
    have m1 : a % b < b := Int.emod_lt_of_pos a h3
    rw [show a - a / b * b = a % b by omega]
    exact bl_le 0 (a % b) (fun _ => h) (fun c => by omega)
  · have e1 : a.tdiv b = -((-a) / b) := by rw [← Int.tdiv_eq_ediv_of_nonneg (show 0 ≤ -a by omega), Int.neg_tdiv, Int.neg_neg]
    rw [e1]
    have e := emz (-a) b
    have m0 : 0 ≤ (-a) % b := Int.emod_nonneg _ (by omega)
    have m1 : (-a) % b < b := Int.emod_lt_of_pos _ h3
    rw [Int.neg_mul, show a - -(-a / b * b) = -((-a) % b) by omega]
    refine bl_le 0 (-((-a) % b)) (fun d => ?_) (fun d => ?_)
    · rw [show -((-a) / b) = a / b from (fl_u h3 (by rw [Int.neg_mul]; omega) (by rw [Int.add_mul, Int.neg_mul]; omega)).symm]; exact h
    · show Q (lI _ - lI 1)
      rw [lI_sub, show -((-a) / b) - 1 = a / b from (fl_u h3 (by rw [Int.sub_mul, Int.neg_mul]; omega) (by rw [Int.sub_add_cancel, Int.neg_mul]; omega)).symm]; exact h
theorem m_value {v : Nat → Int32} {W : Nat} (hv : v 0 = iI W) (hW : W ≤ 16) {z : Int} (h1 : -1125899906842624 ≤ z) (h2 : z < 1125899906842624) {Q : Int64 → Prop} (h : Q (lI (z % 2 ^ W))) : wX9_value v (lI z) Q := by
  unfold wX9_value
  have hp := p2pos W
  have hq : (2 : Int) ^ W ≤ 65536 := p2le hW
  refine m_all hv hW (m_all hv hW (m_floor (by omega) (by omega) hp (by omega) ?_))
  rw [lI_mul, lI_sub, ← Int.emod_def]; exact h
theorem m_sgn {v : Nat → Int32} {W : Nat} (hv : v 0 = iI W) (w4 : 4 ≤ W) (hW : W ≤ 16) {a : Int} (a0 : 0 ≤ a) (a1 : a < 2 ^ W) {Q : Int64 → Prop} (h : Q (lI (sgn W a))) : wX9_signed v (lI a) Q := by
  obtain ⟨p16, pm, ph⟩ := pw w4 hW
  unfold wX9_signed
  refine m_half hv (by omega) hW ?_
  unfold sgn at h
  refine bl_le (2 ^ (W - 1)) a (fun c => m_all hv hW ?_) (fun c => ?_)
  · rw [if_neg (by omega)] at h; rw [lI_sub]; exact h
  · rw [if_pos (by omega)] at h; exact h
theorem b_and (a b k : Nat) : (a &&& b) / 2 ^ k % 2 = (a / 2 ^ k % 2) * (b / 2 ^ k % 2) := by
  have h := Nat.testBit_and a b k
  rw [Nat.testBit_eq_decide_div_mod_eq, Nat.testBit_eq_decide_div_mod_eq, Nat.testBit_eq_decide_div_mod_eq] at h
  have key : ∀ X, X < 2 → ∀ A, A < 2 → ∀ B, B < 2 → decide (X = 1) = (decide (A = 1) && decide (B = 1)) → X = A * B := by decide
  exact key _ (Nat.mod_lt _ (by decide)) _ (Nat.mod_lt _ (by decide)) _ (Nat.mod_lt _ (by decide)) h
theorem b_xor (a b k : Nat) : (a ^^^ b) / 2 ^ k % 2 = (a / 2 ^ k % 2 + b / 2 ^ k % 2) % 2 := by
  have h := Nat.testBit_xor a b k
  rw [Nat.testBit_eq_decide_div_mod_eq, Nat.testBit_eq_decide_div_mod_eq, Nat.testBit_eq_decide_div_mod_eq] at h
  have key : ∀ X, X < 2 → ∀ A, A < 2 → ∀ B, B < 2 → decide (X = 1) = (decide (A = 1) ^^ decide (B = 1)) → X = (A + B) % 2 := by decide
  exact key _ (Nat.mod_lt _ (by decide)) _ (Nat.mod_lt _ (by decide)) _ (Nat.mod_lt _ (by decide)) h
theorem lI_one : (1 : Int64) = lI (2 ^ 1 - 1) := by decide
theorem lI_m1 (z : Int) : lI z &&& 1 = lI (z % 2) := by rw [lI_one, lI_mask z (by decide)]; rfl
theorem iI_one : (1 : Int32) = iI (2 ^ 1 - 1) := by decide
theorem iI_m1 (z : Int) : iI z &&& 1 = iI (z % 2) := by rw [iI_one, iI_mask z (by decide)]; rfl
theorem bitZ (a k : Nat) : (a : Int) / 2 ^ k % 2 = ((a / 2 ^ k % 2 : Nat) : Int) := by rw [Int.natCast_emod, Int.natCast_ediv, pwN]; rfl
theorem m_bits6 {op a b c : Nat} (ho : op = 8 ∧ c = a &&& b ∨ op = 9 ∧ c = a ^^^ b) (ha : a < 65536) (hb : b < 65536) (hc : c < 65536) {Q : Int64 → Prop} (hQ : Q (lI c)) : ∀ (m k : Nat), k + m = 16 → wX9_bits_6 (iI op) (lI a) (lI b) Q (m + 1) (lI ((c % 2 ^ k : Nat) : Int)) (iI k)
  | 0, k, hk => by
    rw [wX9_bits_6]
    refine br_le 16 k (fun _ => ?_) (fun d => by omega)
    rw [show k = 16 by omega, Nat.mod_eq_of_lt hc]; exact hQ
  | m + 1, k, hk => by
    rw [wX9_bits_6]
    refine br_le 16 k (fun d => by omega) (fun _ x8 h8 x10 h10 => ?_)
    rw [lI_shr (by omega) (by omega) (by omega), lI_m1, bitZ] at h8 h10
    subst h8 h10
    have step : ∀ y, y = lI ((2 ^ k * (c / 2 ^ k % 2) : Nat) : Int) → wX9_bits_60 (lI ((c % 2 ^ k : Nat) : Int)) (iI k) (wX9_bits_6 (iI op) (lI a) (lI b) Q (m + 1)) y := by
      intro y hy x5 h5 x7 h7
      have e7 : x7 = iI ((k + 1 : Nat) : Int) := by rw [h7]; show iI k + iI 1 = _; rw [iI_add]; rfl
      have e5 : x5 = lI ((c % 2 ^ (k + 1) : Nat) : Int) := by rw [h5, hy, lI_add, Nat.mod_pow_succ]; rfl
      rw [e5, e7]; exact m_bits6 ho ha hb hc hQ m (k + 1) (by omega)
    have A : a / 2 ^ k % 2 < 2 := Nat.mod_lt _ (by decide)
    have B : b / 2 ^ k % 2 < 2 := Nat.mod_lt _ (by decide)
    refine br_eq op 8 (fun c8 => step _ ?_) (fun c8 => step _ ?_)
    · rcases ho with ⟨-, rfl⟩ | ⟨o, -⟩
      · rw [lI_mul, lI_shl (by omega), b_and, ← pwN, ← Int.natCast_mul, ← Int.natCast_mul, Nat.mul_comm (2 ^ k)]
      · omega
    · rcases ho with ⟨o, -⟩ | ⟨-, rfl⟩
      · omega
      · show ((lI _ + lI _) - (lI _ + lI _) / lI 2 * lI 2) <<< _ = _
        rw [lI_add, lI_remN (by omega) (by omega) (by decide) (by decide), lI_shl (by omega), b_xor, ← pwN, ← Int.natCast_add, show (2 : Int) = ((2 : Nat) : Int) from rfl, ← Int.natCast_emod, ← Int.natCast_mul, Nat.mul_comm (2 ^ k)]
theorem m_shifted {v : Nat → Int32} {W : Nat} (hv : v 0 = iI W) (w4 : 4 ≤ W) (w16 : W ≤ 16) {op k : Nat} (ho : op ≤ 2 ∨ op = 10) {a : Int} (a0 : 0 ≤ a) (a1 : a < 2 ^ W) (hk : k < W) {Q : Int64 → Prop} (hQ : Q (lI (apZ W op a k))) : wX9_shifted v (iI op) (lI a) (iI k) Q := by
  obtain ⟨p16, pm, ph⟩ := pw w4 w16
  have hp := p2pos k
  have hq : (2 : Int) ^ k ≤ 65536 := p2le (show k ≤ 16 by omega)
  have hb := mul_b (x := a) (y := 2 ^ k) (h := 65536) (by omega) (by omega) (by omega) (by omega)
  unfold wX9_shifted
  refine br_eq op 0 (fun c => ?_) (fun c0 => br_eq op 1 (fun c => ?_) (fun c1 => br_eq op 2 (fun c => ?_) (fun c2 => ?_)))
  · obtain rfl : op = 0 := by omega
    rw [show apZ W 0 a k = a * 2 ^ (k : Int).toNat % 2 ^ W from rfl, Int.toNat_natCast] at hQ
    refine m_pow (by omega) ?_
    rw [lI_mul]; exact m_value hv w16 (by omega) (by omega) hQ
  · obtain rfl : op = 1 := by omega
    rw [show apZ W 1 a k = a / 2 ^ (k : Int).toNat from rfl, Int.toNat_natCast] at hQ
    refine m_pow (by omega) ⟨lI_ne0 (by omega) (by omega) (by omega), ?_⟩
    rw [lI_div a0 (by omega) hp (by omega)]; exact hQ
  · obtain rfl : op = 2 := by omega
    rw [show apZ W 2 a k = sgn W a / 2 ^ (k : Int).toNat % 2 ^ W from rfl, Int.toNat_natCast] at hQ
    have sb := sgn_b w4 w16 a0 a1
    have fb := fd_b (x := sgn W a) hp (B := 65536) (by omega) (by omega)
    exact m_sgn hv w4 w16 a0 a1 (m_pow (by omega) (m_floor (by omega) (by omega) hp (by omega) (m_value hv w16 (by omega) (by omega) hQ)))
  · obtain rfl : op = 10 := by omega
    rw [show apZ W 10 a k = a / 2 ^ (k : Int).toNat + a % 2 ^ (k : Int).toNat * 2 ^ (W - (k : Int).toNat) from rfl, Int.toNat_natCast] at hQ
    have n0 : ¬ lI (2 ^ k) = 0 := lI_ne0 (by omega) (by omega) (by omega)
    refine m_pow (by omega) ⟨n0, m_pow (by omega) ⟨n0, v0, ?_⟩⟩
    rw [g0, hv, iI_sub, show ((W : Int) - (k : Int)) = ((W - k : Nat) : Int) by omega]
    refine m_pow (by omega) ?_
    rw [lI_remN a0 (by omega) (by omega) (by omega), lI_div a0 (by omega) hp (by omega), lI_mul, lI_add]; exact hQ
set_option maxHeartbeats 1000000 in
theorem m_worked {v : Nat → Int32} {W : Nat} (hv : v 0 = iI W) (w4 : 4 ≤ W) (w16 : W ≤ 16) {op : Nat} (ho : op ≤ 11) {a b : Int} (a0 : 0 ≤ a) (a1 : a < 2 ^ W) (b0 : 0 ≤ b) (b1 : b < 2 ^ W) (hs : op ≤ 2 ∨ op = 10 → b < W) {Q : Int64 → Prop} (hQ : Q (lI (apZ W op a b))) : wX9_worked v (iI op) (lI a) (lI b) Q := by
  obtain ⟨p16, pm, ph⟩ := pw w4 w16
  have hb := mul_b (x := a) (y := b) (h := 65536) (by omega) (by omega) (by omega) (by omega)
  have hb0 := Int.mul_nonneg a0 b0
  unfold wX9_worked
  refine br_eq op 3 (fun c => ?_) (fun c3 => ?_)
  · obtain rfl : op = 3 := by omega
    rw [lI_add]; exact m_value hv w16 (by omega) (by omega) hQ
  refine br_eq op 4 (fun c => ?_) (fun c4 => ?_)
  · obtain rfl : op = 4 := by omega
    rw [lI_sub]; exact m_value hv w16 (by omega) (by omega) hQ
  refine br_eq op 5 (fun c => ?_) (fun c5 => ?_)
  · obtain rfl : op = 5 := by omega
    rw [lI_mul]; exact m_value hv w16 (by omega) (by omega) hQ
  refine br_eq op 6 (fun c => ?_) (fun c6 => ?_)
  · obtain rfl : op = 6 := by omega
    refine m_all hv w16 ⟨lI_ne0 (by omega) (by omega) (by omega), ?_⟩
    rw [lI_mul, lI_div hb0 (by omega) (by omega) (by omega)]; exact hQ
  refine br_eq op 7 (fun c => ?_) (fun c7 => ?_)
  · obtain rfl : op = 7 := by omega
    have sa := sgn_b w4 w16 a0 a1
    have sb := sgn_b w4 w16 b0 b1
    have hs2 := mul_b (x := sgn W a) (y := sgn W b) (h := 65536) (by omega) (by omega) (by omega) (by omega)
    have fb := fd_b (x := sgn W a * sgn W b) (p2pos W) (B := 65536 * 65536) (by omega) (by omega)
    refine m_sgn hv w4 w16 a0 a1 (m_sgn hv w4 w16 b0 b1 (m_all hv w16 ?_))
    rw [lI_mul]
    exact m_floor (by omega) (by omega) (by omega) (by omega) (m_value hv w16 (by omega) (by omega) hQ)
  obtain ⟨m, rfl⟩ : ∃ m : Nat, (m : Int) = a := ⟨a.toNat, by omega⟩
  obtain ⟨n, rfl⟩ : ∃ n : Nat, (n : Int) = b := ⟨b.toNat, by omega⟩
  refine br_eq op 8 (fun c => ?_) (fun c8 => ?_)
  · obtain rfl : op = 8 := by omega
    have h := m_bits6 (c := m &&& n) (Or.inl ⟨rfl, rfl⟩) (by omega) (by omega) (Nat.and_lt_two_pow (n := 16) _ (by omega)) hQ 16 0 rfl
    rw [Nat.pow_zero, Nat.mod_one] at h
    exact ⟨_, h⟩
  refine br_eq op 9 (fun c => ?_) (fun c9 => ?_)
  · obtain rfl : op = 9 := by omega
    have h := m_bits6 (c := m ^^^ n) (Or.inr ⟨rfl, rfl⟩) (by omega) (by omega) (Nat.xor_lt_two_pow (n := 16) (by omega) (by omega)) hQ 16 0 rfl
    rw [Nat.pow_zero, Nat.mod_one] at h
    exact ⟨_, h⟩
  rw [lI_i]
  refine br_eq op 10 (fun c => ?_) (fun c10 => ?_)
  · have := hs (by omega)
    exact m_shifted hv w4 w16 (by omega) a0 a1 (by omega) hQ
  refine br_eq op 11 (fun c => ?_) (fun c11 => ?_)
  · obtain rfl : op = 11 := by omega
    rw [show apZ W 11 (m : Int) (n : Int) = if (m : Int) ≤ (n : Int) then 1 else 0 from rfl] at hQ
    refine bl_lt n m (fun c => ?_) (fun c => ?_)
    · rw [if_neg (by omega)] at hQ; exact hQ
    · rw [if_pos (by omega)] at hQ; exact hQ
  · have := hs (by omega)
    exact m_shifted hv w4 w16 (by omega) a0 a1 (by omega) hQ
/-! running a program -/
def vOp (t : Nat → Int) (q : Opd) : Int := if q.1 = true then (q.2 : Int) else t q.2
def vStep (W : Nat) (code : Nat → Ins) (i : Nat) (t : Nat → Int) : Int := apZ W (code i).1 (vOp t (code i).2.1) (vOp t (code i).2.2)
abbrev vT (W : Nat) (code : Nat → Ins) (x : Int) : Nat → Nat → Int := tab (vStep W code) (fun _ => x)
theorem vOp_b {W i : Nat} {t : Nat → Int} (ht : ∀ j, 0 ≤ t j ∧ t j < 2 ^ W) {q : Opd} (hq : wfO W i q) : 0 ≤ vOp t q ∧ vOp t q < 2 ^ W := by
  unfold vOp
  split
  · have := hq.1 (by assumption); omega
  · exact ht _
theorem vOp_s {W i : Nat} {q : Ins} (h : wfI W i q) (t : Nat → Int) : (q.1 ≤ 2 ∨ q.1 = 10) → vOp t q.2.2 < W := by
  intro c
  obtain ⟨h1, h2⟩ := h.2.2.2 c
  unfold vOp; rw [if_pos h1]; omega
theorem vT_b {W N : Nat} (w4 : 4 ≤ W) (w16 : W ≤ 16) {code : Nat → Ins} (wfc : ∀ i, i < N → wfI W i (code i)) {x : Int} (x0 : 0 ≤ x) (x1 : x < 2 ^ W) : ∀ i j, i ≤ N → 0 ≤ vT W code x i j ∧ vT W code x i j < 2 ^ W
  | 0, j, _ => ⟨x0, x1⟩
  | i + 1, j, hi => by
    have ih := fun j => vT_b w4 w16 wfc x0 x1 i j (by omega)
    have hw := wfc i (by omega)
    have hA := vOp_b ih hw.2.1
    have hB := vOp_b ih hw.2.2.1
    show 0 ≤ (if j = i + 1 then vStep W code i (vT W code x i) else vT W code x i j) ∧ (if j = i + 1 then vStep W code i (vT W code x i) else vT W code x i j) < 2 ^ W
    split
    · exact apZ_b w4 w16 hA.1 hA.2 hB.1 hB.2 (vOp_s hw _)
    · exact ih j
theorem c_inp {W i : Nat} (w4 : 4 ≤ W) (w16 : W ≤ 16) (hi : i ≤ 40) {q : Opd} (hq : wfO W i q) {f : Nat → Int32} {t : Nat → Int} (hf : ∀ j, j ≤ i → f j = iI (t j)) {Q : Int32 → Prop} (hQ : Q (iI (vOp t q))) : wX3_inputOf f (cOp q) Q := by
  unfold wX3_inputOf
  unfold vOp at hQ
  have hle := wf_le w16 w4 hi hq
  refine c_isv hle (by decide) (fun h => ⟨fun c => absurd c (by decide), fun _ => c_num hle (by decide) ?_⟩) (fun h => ⟨fun _ => ?_, fun c => absurd rfl c⟩)
  · have h2 := hq.2 h
    refine ⟨inI _, ?_⟩
    rw [iI_clN (by omega), hf _ h2]
    rw [if_neg (by rw [h]; decide)] at hQ
    exact hQ
  · rw [if_pos h] at hQ; unfold cOp; rw [if_pos h]; exact hQ
theorem c_comp10 {W N V : Nat} (w4 : 4 ≤ W) (w16 : W ≤ 16) (n40 : N ≤ 40) (vN : V ≤ N) {code : Nat → Ins} (wfc : ∀ i, i < N → wfI W i (code i)) {o fs ss : Nat → Int32} (hcc : cCode N code o fs ss) {x : Int} (x0 : 0 ≤ x) (x1 : x < 2 ^ W) {Q : Int32 → (Nat → Int32) → Prop} (hQ : ∀ f, Q (iI (vT W code x V V)) f) : ∀ (m i : Nat) (f : Nat → Int32), i + m = V → (∀ j, j ≤ i → f j = iI (vT W code x i j)) → wX3_compute_10 (iI W) o fs ss (iI V) Q (m + 1) (iI i) f
  | 0, i, f, hi, hf => by
    rw [wX3_compute_10]
    refine br_le V i (fun _ => ⟨inI _, ?_⟩) (fun c => by omega)
    rw [iI_clN (by omega), hf V (by omega), show i = V by omega]; exact hQ f
  | m + 1, i, f, hi, hf => by
    rw [wX3_compute_10]
    refine br_le V i (fun c => by omega) (fun _ => ⟨inI i, ?_⟩)
    obtain ⟨k1, k2, k3⟩ := hcc i (by omega)
    rw [iI_clN (by omega), k1, k2, k3]
    have hw := wfc i (by omega)
    have hb := fun j => vT_b w4 w16 wfc x0 x1 i j (by omega)
    have hA := vOp_b hb hw.2.1
    have hB := vOp_b hb hw.2.2.1
    refine c_inp w4 w16 (by omega) hw.2.1 hf ⟨inI i, c_inp w4 w16 (by omega) hw.2.2.1 hf ⟨inI i, c_apply w4 w16 hw.1 hA.1 hA.2 hB.1 hB.2 (vOp_s hw _) ?_⟩⟩
    have e2 : iI i + 1 = iI ((i + 1 : Nat) : Int) := by show iI i + iI 1 = _; rw [iI_add]; rfl
    rw [e2]
    refine ⟨inI _, fun y hy => ?_⟩
    rw [hy, iI_clN (by omega)]
    refine c_comp10 w4 w16 n40 vN wfc hcc x0 x1 hQ m (i + 1) _ (by omega) (fun j hj => ?_)
    by_cases c : j = i + 1
    · subst c
      rw [pk_us]
      show _ = iI (if i + 1 = i + 1 then vStep W code i (vT W code x i) else vT W code x i (i + 1))
      rw [if_pos rfl]; rfl
    · rw [pk_un c, hf j (by omega)]
      show _ = iI (if j = i + 1 then vStep W code i (vT W code x i) else vT W code x i j)
      rw [if_neg c]
theorem c_comp {W N V : Nat} (w4 : 4 ≤ W) (w16 : W ≤ 16) (n40 : N ≤ 40) (vN : V ≤ N) {code : Nat → Ins} (wfc : ∀ i, i < N → wfI W i (code i)) {o fs ss : Nat → Int32} (hcc : cCode N code o fs ss) {x : Int} (x0 : 0 ≤ x) (x1 : x < 2 ^ W) {f : Nat → Int32} {Q : Int32 → (Nat → Int32) → Prop} (hQ : ∀ f, Q (iI (vT W code x V V)) f) : wX3_compute f (iI W) o fs ss (iI x) (iI V) Q :=
  ⟨u0, _, c_comp10 w4 w16 n40 vN wfc hcc x0 x1 hQ V 0 _ (by omega) (fun j hj => by rw [show j = 0 by omega]; exact pk_us)⟩
theorem ul_s {f : Nat → Int64} {k : Nat} {x : Int64} : vp_updL f k x k = x := by unfold vp_updL; simp
theorem ul_n {f : Nat → Int64} {k j : Nat} {x : Int64} (h : j ≠ k) : vp_updL f k x j = f j := by unfold vp_updL; simp [h]
theorem m_runs9 {W N : Nat} (w4 : 4 ≤ W) (w16 : W ≤ 16) (n40 : N ≤ 40) {code : Nat → Ins} (wfc : ∀ i, i < N → wfI W i (code i)) {v : Nat → Int32} (hv0 : v 0 = iI W) (hv3 : v 3 = iI N) (hmc : mCode N code v) {x : Int} (x0 : 0 ≤ x) (x1 : x < 2 ^ W) {Q : (Nat → Int64) → Prop} (hQ : ∀ f, (∀ j, j ≤ N → f j = lI (vT W code x N j)) → Q f) : ∀ (m i : Nat) (f : Nat → Int64), i + m = N → (∀ j, j ≤ i → f j = lI (vT W code x i j)) → wX9_runs_9 v Q (m + 1) (iI i) f
  | 0, i, f, hi, hf => by
    rw [wX9_runs_9, g3, hv3]
    refine ⟨v3, br_le N i (fun _ => ?_) (fun c => by omega)⟩
    obtain rfl : i = N := by omega
    exact hQ f hf
  | m + 1, i, f, hi, hf => by
    rw [wX9_runs_9, g3, hv3]
    refine ⟨v3, br_le N i (fun c => by omega) (fun _ x2 hx2 => ?_)⟩
    have e5 : x2 = iI ((5 + 5 * i : Nat) : Int) := by rw [hx2]; show iI 5 + iI 5 * iI i = _; rw [iI_mul, iI_add]; rfl
    subst e5
    have a1 : iI ((5 + 5 * i : Nat) : Int) + 1 = iI ((5 + 5 * i + 1 : Nat) : Int) := by show iI _ + iI 1 = _; rw [iI_add]; rfl
    have a2 : iI ((5 + 5 * i : Nat) : Int) + 2 = iI ((5 + 5 * i + 2 : Nat) : Int) := by show iI _ + iI 2 = _; rw [iI_add]; rfl
    have a3 : iI ((5 + 5 * i : Nat) : Int) + 3 = iI ((5 + 5 * i + 3 : Nat) : Int) := by show iI _ + iI 3 = _; rw [iI_add]; rfl
    have a4 : iI ((5 + 5 * i : Nat) : Int) + 4 = iI ((5 + 5 * i + 4 : Nat) : Int) := by show iI _ + iI 4 = _; rw [iI_add]; rfl
    have e2 : iI i + 1 = iI ((i + 1 : Nat) : Int) := by show iI i + iI 1 = _; rw [iI_add]; rfl
    obtain ⟨k0, k1, k2, k3, k4⟩ := hmc i (by omega)
    have hw := wfc i (by omega)
    have hb := fun j => vT_b w4 w16 wfc x0 x1 i j (by omega)
    have hA := vOp_b hb hw.2.1
    have hB := vOp_b hb hw.2.2.1
    have lA := wf_le w16 w4 (by omega) hw.2.1
    have lB := wf_le w16 w4 (by omega) hw.2.2.1
    unfold wX9_runs_66 wX9_runs_108
    rw [a1, a2, a3, a4, iI_clN (by omega), iI_clN (by omega), iI_clN (by omega), iI_clN (by omega), iI_clN (by omega), k0, k1, k2, k3, k4, e2, iI_l (by omega) (by omega), iI_l (by omega) (by omega)]
    have fin : ∀ ya yb, ya = lI (vOp (vT W code x i) (code i).2.1) → yb = lI (vOp (vT W code x i) (code i).2.2) → (vp_in (iI ((5 + 5 * i : Nat) : Int)) 206 ∧ wX9_worked v (iI ((code i).1 : Int)) ya yb (fun r => (vp_in (iI ((i + 1 : Nat) : Int)) 41 ∧ (∀ y : Int32, y = iI ((i + 1 : Nat) : Int) → (wX9_runs_9 v Q (m + 1)) y (vp_updL f (iI ((i + 1 : Nat) : Int)).toNatClampNeg r))))) := by
      intro ya yb ha hb'
      subst ha hb'
      refine ⟨inI _, m_worked hv0 w4 w16 hw.1 hA.1 hA.2 hB.1 hB.2 (vOp_s hw _) ⟨inI _, fun y hy => ?_⟩⟩
      rw [hy, iI_clN (by omega)]
      refine m_runs9 w4 w16 n40 wfc hv0 hv3 hmc x0 x1 hQ m (i + 1) _ (by omega) (fun j hj => ?_)
      by_cases c : j = i + 1
      · subst c
        rw [ul_s]
        show _ = lI (if i + 1 = i + 1 then vStep W code i (vT W code x i) else vT W code x i (i + 1))
        rw [if_pos rfl]; rfl
      · rw [ul_n c, hf j (by omega)]
        show _ = lI (if j = i + 1 then vStep W code i (vT W code x i) else vT W code x i j)
        rw [if_neg c]
    refine ⟨inI _, ?_⟩
    cases ca : (code i).2.1.1 with
    | true =>
      have dA : lI ((code i).2.1.2 : Int) = lI (vOp (vT W code x i) (code i).2.1) := by unfold vOp; rw [if_pos ca]
      refine ⟨fun _ => ⟨inI _, inI _, ?_⟩, fun c => absurd rfl c⟩
      cases cb : (code i).2.2.1 with
      | true =>
        have dB : lI ((code i).2.2.2 : Int) = lI (vOp (vT W code x i) (code i).2.2) := by unfold vOp; rw [if_pos cb]
        exact ⟨fun _ => ⟨inI _, fin _ _ dA dB⟩, fun c => absurd rfl c⟩
      | false =>
        have l2 := hw.2.2.1.2 cb
        refine ⟨fun c => absurd c (by decide), fun _ => ⟨inI _, inI _, ?_⟩⟩
        have dB : f (iI ((code i).2.2.2 : Int)).toNatClampNeg = lI (vOp (vT W code x i) (code i).2.2) := by unfold vOp; rw [if_neg (by rw [cb]; decide), iI_clN (by omega)]; exact hf _ l2
        exact fin _ _ dA dB
    | false =>
      have l1 := hw.2.1.2 ca
      refine ⟨fun c => absurd c (by decide), fun _ => ⟨inI _, inI _, inI _, ?_⟩⟩
      have dA : f (iI ((code i).2.1.2 : Int)).toNatClampNeg = lI (vOp (vT W code x i) (code i).2.1) := by unfold vOp; rw [if_neg (by rw [ca]; decide), iI_clN (by omega)]; exact hf _ l1
      cases cb : (code i).2.2.1 with
      | true =>
        have dB : lI ((code i).2.2.2 : Int) = lI (vOp (vT W code x i) (code i).2.2) := by unfold vOp; rw [if_pos cb]
        exact ⟨fun _ => ⟨inI _, fin _ _ dA dB⟩, fun c => absurd rfl c⟩
      | false =>
        have l2 := hw.2.2.1.2 cb
        refine ⟨fun c => absurd c (by decide), fun _ => ⟨inI _, inI _, ?_⟩⟩
        have dB : f (iI ((code i).2.2.2 : Int)).toNatClampNeg = lI (vOp (vT W code x i) (code i).2.2) := by unfold vOp; rw [if_neg (by rw [cb]; decide), iI_clN (by omega)]; exact hf _ l2
        exact fin _ _ dA dB
theorem m_runs {W N : Nat} (w4 : 4 ≤ W) (w16 : W ≤ 16) (n40 : N ≤ 40) {code : Nat → Ins} (wfc : ∀ i, i < N → wfI W i (code i)) {v : Nat → Int32} (hv0 : v 0 = iI W) (hv3 : v 3 = iI N) (hmc : mCode N code v) {x : Int} (x0 : 0 ≤ x) (x1 : x < 2 ^ W) {f : Nat → Int64} {Q : (Nat → Int64) → Prop} (hQ : ∀ f, (∀ j, j ≤ N → f j = lI (vT W code x j j)) → Q f) : wX9_runs v f (lI x) Q :=
  ⟨u0, _, m_runs9 w4 w16 n40 wfc hv0 hv3 hmc x0 x1 (fun f hf => hQ f (fun j hj => by rw [hf j hj, show vT W code x N j = vT W code x j j from tab_le _ _ (Nat.le_refl j) hj])) N 0 _ (by omega) (fun j hj => by rw [show j = 0 by omega]; exact ul_s)⟩
theorem m_inp {v : Nat → Int32} {W : Nat} (hv : v 0 = iI W) (w16 : W ≤ 16) {z : Int} (z1 : -2147483648 ≤ z) (z2 : z < 2147483648) {Q : Int32 → Prop} (hT : 0 ≤ z → z < 2 ^ W → Q 1) (hF : ¬ (0 ≤ z ∧ z < 2 ^ W) → Q 0) : wX9_isInput v (iI z) Q := by
  have hp := p2pos W
  have hq : (2 : Int) ^ W ≤ 65536 := p2le w16
  unfold wX9_isInput
  rw [iI_l z1 z2]
  refine m_all hv w16 ?_
  rw [show lI (2 ^ W) - 1 = lI (2 ^ W - 1) by show lI _ - lI 1 = _; rw [lI_sub]]
  exact m_inB (a := 0) (fun a b => hT a (by omega)) (fun a => hF (by omega))
