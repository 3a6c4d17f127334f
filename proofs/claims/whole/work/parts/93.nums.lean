/-! multipliers and shifts -/
def cz (W s : Nat) (d : Int) : Int := (2 ^ (W + s) - 1) / d + 1
theorem cz_b {W s : Nat} {d : Int} (hd : 1 ≤ d) : 1 ≤ cz W s d ∧ cz W s d ≤ 2 ^ (W + s) ∧ 2 ^ (W + s) ≤ cz W s d * d ∧ cz W s d * d ≤ 2 ^ (W + s) + d - 1 := by
  unfold cz
  have hp := p2pos (W + s)
  generalize (2 : Int) ^ (W + s) = x at *
  have e := emz (x - 1) d
  have m0 : 0 ≤ (x - 1) % d := Int.emod_nonneg _ (by omega)
  have m1 : (x - 1) % d < d := Int.emod_lt_of_pos _ (by omega)
  have q0 : 0 ≤ (x - 1) / d := Int.ediv_nonneg (by omega) (by omega)
  have q1 := Int.ediv_le_self (a := x - 1) d (by omega)
  rw [Int.add_mul]
  omega
def lsF (W : Nat) (d : Int) (sl : Nat) : Nat → Nat → Nat
  | 0, s => s
  | m + 1, s => if cz W s d * d - 2 ^ (W + s) ≤ 2 ^ (s + sl) then s else lsF W d sl m (s + 1)
abbrev lsh (W : Nat) (d : Int) (sl : Nat) : Nat := lsF W d sl 16 0
theorem lsF_le (W : Nat) (d : Int) (sl : Nat) : ∀ m s, s ≤ lsF W d sl m s ∧ lsF W d sl m s ≤ s + m
  | 0, s => ⟨Nat.le_refl _, Nat.le_refl _⟩
  | m + 1, s => by
    have ih := lsF_le W d sl m (s + 1)
    unfold lsF
    split <;> omega
theorem lsF_min (W : Nat) (d : Int) (sl : Nat) : ∀ m s, lsF W d sl m s = s ∨ (s < lsF W d sl m s ∧ 2 ^ (lsF W d sl m s - 1 + sl) < cz W (lsF W d sl m s - 1) d * d - 2 ^ (W + (lsF W d sl m s - 1)))
  | 0, s => Or.inl rfl
  | m + 1, s => by
    have ih := lsF_min W d sl m (s + 1)
    have hl := lsF_le W d sl m (s + 1)
    unfold lsF
    split
    · exact Or.inl rfl
    · rename_i c
      rcases ih with ih | ih
      · rw [ih]; refine Or.inr ⟨by omega, ?_⟩
        rw [show s + 1 - 1 = s from rfl]; omega
      · exact Or.inr ⟨by omega, ih.2⟩
theorem lsh_lt {W : Nat} {d : Int} (hd : 1 ≤ d) (sl : Nat) : lsh W d sl = 0 ∨ (1 ≤ lsh W d sl ∧ (2 : Int) ^ (lsh W d sl - 1) < d) := by
  rcases lsF_min W d sl 16 0 with h | ⟨h1, h2⟩
  · exact Or.inl h
  · refine Or.inr ⟨h1, ?_⟩
    have b := cz_b (W := W) (s := lsF W d sl 16 0 - 1) hd
    have c : (2 : Int) ^ (lsF W d sl 16 0 - 1) ≤ 2 ^ (lsF W d sl 16 0 - 1 + sl) := p2le (by omega)
    show (2 : Int) ^ (lsF W d sl 16 0 - 1) < d
    omega
theorem cz_lsh {W : Nat} {d : Int} (hd : 1 ≤ d) (sl : Nat) : cz W (lsh W d sl) d ≤ 2 ^ (W + 1) := by
  have b := cz_b (W := W) (s := lsh W d sl) hd
  rcases lsh_lt (W := W) hd sl with h | ⟨h1, h2⟩
  · have : (2 : Int) ^ (W + lsh W d sl) ≤ 2 ^ (W + 1) := p2le (by omega)
    omega
  · have e : (2 : Int) ^ (W + lsh W d sl) = 2 ^ (W + 1) * 2 ^ (lsh W d sl - 1) := by rw [← Int.pow_add]; congr 1; omega
    have hp := p2pos (W + 1)
    have k1 := Int.mul_le_mul_of_nonneg_left (show (2 : Int) ^ (lsh W d sl - 1) ≤ d - 1 by omega) (show (0 : Int) ≤ 2 ^ (W + 1) by omega)
    rw [Int.mul_sub, Int.mul_one] at k1
    have k2 : cz W (lsh W d sl) d < 2 ^ (W + 1) + 1 := by
      refine Int.lt_of_mul_lt_mul_right (a := d) ?_ (by omega)
      rw [Int.add_mul, Int.one_mul]; omega
    omega
theorem c_ceil {k : Nat} (hk : k ≤ 40) {d : Int} (hd : 1 ≤ d) (hd2 : d ≤ 65536) {Q : Int64 → Prop} (hQ : Q (lI ((2 ^ k - 1) / d + 1))) : wX4_ceilOfPower (iI k) (iI d) Q := by
  have hp := p2pos k
  have hq : (2 : Int) ^ k ≤ 2 ^ 40 := p2le hk
  have h40 : (2 : Int) ^ 40 = 1099511627776 := by decide
  unfold wX4_ceilOfPower
  refine br_le 1 d (fun _ => ?_) (fun c => by omega)
  rw [lI_p2 (by omega), iI_l (by omega) (by omega)]
  refine ⟨lI_ne0 (by omega) (by omega) (by omega), ?_⟩
  show Q ((lI (2 ^ k) - lI 1) / lI d + lI 1)
  rw [lI_sub, lI_div (by omega) (by omega) (by omega) (by omega), lI_add]; exact hQ
theorem m_ceil {x d : Int} (hx : 1 ≤ x) (hx2 : x ≤ 1099511627776) (hd : 1 ≤ d) (hd2 : d ≤ 65536) {Q : Int64 → Prop} (hQ : Q (lI ((x - 1) / d + 1))) : wX9_ceil (lI x) (lI d) Q := by
  unfold wX9_ceil
  refine ⟨lI_ne0 (by omega) (by omega) (by omega), ?_⟩
  show Q ((lI x + lI d - lI 1) / lI d)
  rw [lI_add, lI_sub, lI_div (by omega) (by omega) (by omega) (by omega), show x + d - 1 = (x - 1) + 1 * d by omega, Int.add_mul_ediv_right _ _ (by omega)]; exact hQ
theorem eN (a b : Nat) : iI a + iI b = iI ((a + b : Nat) : Int) := by rw [iI_add]; rfl
theorem c_ls2 {W : Nat} (w16 : W ≤ 16) {d : Int} (hd : 1 ≤ d) (hd2 : d ≤ 65536) {sl : Nat} (hsl : sl ≤ 16) {Q : Int32 → Prop} : ∀ (m s : Nat), s + m = 16 → Q (iI (lsF W d sl m s)) → wX4_leastShift_2 (iI W) (iI d) (iI sl) Q (m + 1) (iI s)
  | 0, s, hs, hQ => by
    rw [wX4_leastShift_2]
    refine br_le 16 s (fun _ => ?_) (fun c => by omega)
    rw [show lsF W d sl 0 s = s from rfl, show s = 16 by omega] at hQ
    exact hQ
  | m + 1, s, hs, hQ => by
    rw [wX4_leastShift_2]
    refine br_le 16 s (fun c => by omega) (fun _ => ?_)
    rw [eN, eN]
    refine c_ceil (by omega) hd hd2 (fun y hy => ?_)
    have b := cz_b (W := W) (s := s) hd
    have hq : (2 : Int) ^ (W + s) ≤ 2 ^ 40 := p2le (by omega)
    have hq2 : (2 : Int) ^ (s + sl) ≤ 2 ^ 40 := p2le (by omega)
    have hp2 := p2pos (s + sl)
    have h40 : (2 : Int) ^ 40 = 1099511627776 := by decide
    rw [show (2 ^ (W + s) - 1) / d + 1 = cz W s d from rfl, lI_p2 (by omega), iI_l (by omega) (by omega), lI_mul, lI_sub] at hy
    subst hy
    rw [lI_p2 (by omega)]
    unfold lsF at hQ
    refine bl_lt (2 ^ (s + sl)) (cz W s d * d - 2 ^ (W + s)) (fun c x hx => ?_) (fun c => ?_)
    · rw [if_neg (by omega)] at hQ
      have e1 : x = iI ((s + 1 : Nat) : Int) := by rw [hx]; show iI s + iI 1 = _; rw [iI_add]; rfl
      rw [e1]; exact c_ls2 w16 hd hd2 hsl m (s + 1) (by omega) hQ
    · rw [if_pos (by omega)] at hQ; exact hQ
theorem c_lsh {W : Nat} (w16 : W ≤ 16) {d : Int} (hd : 1 ≤ d) (hd2 : d ≤ 65536) {sl : Nat} (hsl : sl ≤ 16) {Q : Int32 → Prop} (hQ : Q (iI (lsh W d sl))) : wX4_leastShift (iI W) (iI d) (iI sl) Q := ⟨_, c_ls2 w16 hd hd2 hsl 16 0 rfl hQ⟩
theorem m_sf3 {v : Nat → Int32} {W : Nat} (hv : v 0 = iI W) (w16 : W ≤ 16) {d : Int} (hd : 1 ≤ d) (hd2 : d ≤ 65536) {sl : Nat} (hsl : sl ≤ 16) {Q : Int32 → Prop} : ∀ (m s : Nat), s + m = 16 → Q (iI (lsF W d sl m s)) → wX9_shiftFor_3 v (lI d) (iI sl) Q (m + 1) (iI s) := by
  intro m
  induction m with
  | zero =>
    intro s hs hQ
    rw [wX9_shiftFor_3, g0, hv, eN, eN]
    have b := cz_b (W := W) (s := s) hd
    have hq : (2 : Int) ^ (W + s) ≤ 2 ^ 40 := p2le (by omega)
    have hq2 : (2 : Int) ^ (s + sl) ≤ 2 ^ 40 := p2le (by omega)
    have hq3 : (2 : Int) ^ 16 ≤ 2 ^ (s + sl) := p2le (by omega)
    have h16 : (2 : Int) ^ 16 = 65536 := by decide
    have hp := p2pos (W + s)
    have h40 : (2 : Int) ^ 40 = 1099511627776 := by decide
    refine ⟨v0, m_pow (by omega) (m_ceil (by omega) (by omega) hd hd2 ⟨v0, m_pow (by omega) (m_pow (by omega) ?_)⟩)⟩
    rw [show (2 ^ (W + s) - 1) / d + 1 = cz W s d from rfl, lI_mul, lI_sub]
    exact bl_le (cz W s d * d - 2 ^ (W + s)) (2 ^ (s + sl)) (fun c => hQ) (fun c => by omega)
  | succ m ih =>
    intro s hs hQ
    rw [wX9_shiftFor_3, g0, hv, eN, eN]
    have b := cz_b (W := W) (s := s) hd
    have hq : (2 : Int) ^ (W + s) ≤ 2 ^ 40 := p2le (by omega)
    have hq2 : (2 : Int) ^ (s + sl) ≤ 2 ^ 40 := p2le (by omega)
    have hp := p2pos (W + s)
    have hp2 := p2pos (s + sl)
    have h40 : (2 : Int) ^ 40 = 1099511627776 := by decide
    refine ⟨v0, m_pow (by omega) (m_ceil (by omega) (by omega) hd hd2 ⟨v0, m_pow (by omega) (m_pow (by omega) ?_)⟩)⟩
    rw [show (2 ^ (W + s) - 1) / d + 1 = cz W s d from rfl, lI_mul, lI_sub]
    unfold lsF at hQ
    refine bl_le (cz W s d * d - 2 ^ (W + s)) (2 ^ (s + sl)) (fun c => ?_) (fun c x hx => ?_)
    · rw [if_pos (by omega)] at hQ; exact hQ
    · rw [if_neg (by omega)] at hQ
      have e1 : x = iI ((s + 1 : Nat) : Int) := by rw [hx]; show iI s + iI 1 = _; rw [iI_add]; rfl
      rw [e1]; exact ih (s + 1) (by omega) hQ
theorem m_lsh {v : Nat → Int32} {W : Nat} (hv : v 0 = iI W) (w16 : W ≤ 16) {d : Int} (hd : 1 ≤ d) (hd2 : d ≤ 65536) {sl : Nat} (hsl : sl ≤ 16) {Q : Int32 → Prop} (hQ : Q (iI (lsh W d sl))) : wX9_shiftFor v (lI d) (iI sl) Q := ⟨_, m_sf3 hv w16 hd hd2 hsl 16 0 rfl hQ⟩
theorem lsh_le (W : Nat) (d : Int) (sl : Nat) : lsh W d sl ≤ 16 := by have := (lsF_le W d sl 16 0).2; show lsF W d sl 16 0 ≤ 16; omega
theorem c_mf {W s : Nat} (w16 : W ≤ 16) (hs : s ≤ 16) {d : Int} (hd : 1 ≤ d) (hd2 : d ≤ 65536) {Q : Int32 → Prop} (hQ : Q (iI (cz W s d))) : wX4_multiplierFor (iI W) (iI d) (iI s) Q := by
  unfold wX4_multiplierFor
  rw [eN]
  refine c_ceil (by omega) hd hd2 ?_
  rw [lI_i]; exact hQ
theorem m_mf {v : Nat → Int32} {W s : Nat} (hv : v 0 = iI W) (w16 : W ≤ 16) (hs : s ≤ 16) {d : Int} (hd : 1 ≤ d) (hd2 : d ≤ 65536) {Q : Int64 → Prop} (hQ : Q (lI (cz W s d))) : wX9_multiplierFor v (lI d) (iI s) Q := by
  unfold wX9_multiplierFor
  rw [g0, hv, eN]
  have hq : (2 : Int) ^ (W + s) ≤ 2 ^ 40 := p2le (by omega)
  have hp := p2pos (W + s)
  have h40 : (2 : Int) ^ 40 = 1099511627776 := by decide
  exact ⟨v0, m_pow (by omega) (m_ceil (by omega) (by omega) hd hd2 hQ)⟩
/-! powers of two -/
theorem lI_tn {a : Nat} (h : a < 65536) : (lI a).toBitVec.toNat = a := by
  show (BitVec.ofInt 64 a).toNat = a
  have e : ((2 ^ 64 : Nat) : Int) = 18446744073709551616 := by decide
  rw [BitVec.toNat_ofInt, Int.emod_eq_of_lt (by omega) (by omega), Int.toNat_natCast]
theorem lI_and {a b : Nat} (ha : a < 65536) (hb : b < 65536) : lI a &&& lI b = lI ((a &&& b : Nat) : Int) := by
  have hab : a &&& b < 2 ^ 16 := Nat.and_lt_two_pow _ (by omega)
  apply Int64.toBitVec_inj.mp
  apply BitVec.eq_of_toNat_eq
  show ((lI a).toBitVec &&& (lI b).toBitVec).toNat = _
  rw [BitVec.toNat_and, lI_tn ha, lI_tn hb, lI_tn (by omega)]
def isP (d : Nat) : Prop := d &&& (d - 1) = 0
theorem c_isp {d : Nat} (h1 : 1 ≤ d) (h2 : d < 65536) {Q : Int32 → Prop} (hT : isP d → Q 1) (hF : ¬ isP d → Q 0) : wX4_isPowerOfTwo (iI d) Q := by
  unfold wX4_isPowerOfTwo
  have e : iI d - 1 = iI ((d - 1 : Nat) : Int) := by show iI d - iI 1 = _; rw [iI_sub]; congr 1; omega
  have hab : d &&& (d - 1) < 2 ^ 16 := Nat.and_lt_two_pow _ (by omega)
  refine br_le d 0 (fun c => by omega) (fun _ => ?_)
  rw [e, iI_and h2 (by omega)]
  exact br_eq ((d &&& (d - 1) : Nat) : Int) 0 (fun c => hT (show d &&& (d - 1) = 0 by omega)) (fun c => hF (fun (q : d &&& (d - 1) = 0) => c (by omega)))
theorem m_isp {d : Nat} (h1 : 1 ≤ d) (h2 : d < 65536) {Q : Int32 → Prop} (hT : isP d → Q 1) (hF : ¬ isP d → Q 0) : wX9_isPower (lI d) Q := by
  unfold wX9_isPower
  have e : lI d - 1 = lI ((d - 1 : Nat) : Int) := by show lI d - lI 1 = _; rw [lI_sub]; congr 1; omega
  have hab : d &&& (d - 1) < 2 ^ 16 := Nat.and_lt_two_pow _ (by omega)
  refine bl_le d 0 (fun c => by omega) (fun _ => ?_)
  rw [e, lI_and h2 (by omega)]
  exact bl_eq ((d &&& (d - 1) : Nat) : Int) 0 (fun c => hT (show d &&& (d - 1) = 0 by omega)) (fun c => hF (fun (q : d &&& (d - 1) = 0) => c (by omega)))
theorem isP_even {d : Nat} (h : 2 ≤ d) (hp : isP d) : d % 2 = 0 := by
  unfold isP at hp
  rcases Nat.mod_two_eq_zero_or_one d with c | c
  · exact c
  · have e := @Nat.and_div_two d (d - 1)
    rw [hp, show (d - 1) / 2 = d / 2 by omega, Nat.and_self] at e
    omega
def tzF : Nat → Nat → Nat
  | 0, _ => 0
  | m + 1, d => if d % 2 = 0 then tzF m (d / 2) + 1 else 0
abbrev tz (d : Nat) : Nat := tzF 17 d
theorem tzF_ex : ∀ (m d : Nat), 0 < d → d < 2 ^ m → tzF m d < m ∧ ∃ e, d = 2 ^ tzF m d * (2 * e + 1)
  | 0, d, h1, h2 => by have : 2 ^ 0 = 1 := rfl; omega
  | m + 1, d, h1, h2 => by
    unfold tzF
    have e2 : 2 ^ (m + 1) = 2 * 2 ^ m := by rw [Nat.pow_succ, Nat.mul_comm]
    split
    · obtain ⟨a, e, he⟩ := tzF_ex m (d / 2) (by omega) (by omega)
      refine ⟨by omega, e, ?_⟩
      rw [Nat.pow_succ, Nat.mul_comm _ 2, Nat.mul_assoc, ← he]; omega
    · exact ⟨by omega, d / 2, by rw [Nat.pow_zero]; omega⟩
theorem tz_ex {d : Nat} (h1 : 0 < d) (h2 : d < 65536) : tz d < 16 ∧ 2 ^ tz d ≤ d ∧ ∃ e, d = 2 ^ tz d * (2 * e + 1) := by
  obtain ⟨a, e, he⟩ := tzF_ex 17 d h1 (by omega)
  have hle : 2 ^ tz d ≤ d := by
    have he' : d = 2 ^ tz d * (2 * e + 1) := he
    have := Nat.mul_le_mul_left (2 ^ tz d) (show 1 ≤ 2 * e + 1 by omega)
    rw [Nat.mul_one, ← he'] at this
    exact this
  refine ⟨?_, hle, e, he⟩
  refine Nat.lt_of_not_le (fun c => ?_)
  have := Nat.pow_le_pow_right (n := 2) (by decide) c
  omega
theorem tz_lt {d W : Nat} (h1 : 0 < d) (h2 : d < 65536) (h : d < 2 ^ W) : tz d < W := by
  obtain ⟨a, b, -⟩ := tz_ex h1 h2
  refine Nat.lt_of_not_le (fun c => ?_)
  have := Nat.pow_le_pow_right (n := 2) (by decide) c
  omega
theorem tz_e {k e : Nat} : 2 ^ k * (2 * e + 1) / 2 ^ k = 2 * e + 1 := Nat.mul_div_cancel_left _ (Nat.two_pow_pos k)
theorem m_tw2 {d k e : Nat} (hd : d = 2 ^ k * (2 * e + 1)) (h2 : d < 65536) (hk : k < 16) {Q : Int32 → Prop} (hQ : Q (iI k)) : ∀ m j, j + m = k → wX9_twos_2 (lI d) Q (m + 1) (iI j)
  | 0, j, hj => by
    rw [wX9_twos_2, lI_shr (by omega) (by omega) (by omega), lI_m1, bitZ]
    obtain rfl : j = k := by omega
    rw [hd, tz_e]
    exact bl_eq (((2 * e + 1) % 2 : Nat) : Int) 0 (fun c => by omega) (fun _ => hQ)
  | m + 1, j, hj => by
    rw [wX9_twos_2, lI_shr (by omega) (by omega) (by omega), lI_m1, bitZ]
    have e1 : d / 2 ^ j % 2 = 0 := by
      rw [hd, show k = j + (m + 1) by omega, Nat.pow_add, Nat.mul_assoc, Nat.mul_div_cancel_left _ (Nat.two_pow_pos j), Nat.pow_succ, Nat.mul_comm (2 ^ m) 2, Nat.mul_assoc, Nat.mul_mod_right]
    rw [e1]
    refine bl_eq ((0 : Nat) : Int) 0 (fun _ x hx => ?_) (fun c => absurd rfl c)
    have e2 : x = iI ((j + 1 : Nat) : Int) := by rw [hx]; show iI j + iI 1 = _; rw [iI_add]; rfl
    rw [e2]; exact m_tw2 hd h2 hk hQ m (j + 1) (by omega)
theorem m_tz {d : Nat} (h1 : 0 < d) (h2 : d < 65536) {Q : Int32 → Prop} (hQ : Q (iI (tz d))) : wX9_twos (lI d) Q := by
  obtain ⟨a, b, e, he⟩ := tz_ex h1 h2
  exact ⟨_, m_tw2 he h2 a hQ _ 0 (Nat.zero_add _)⟩
def n62 (x0 x1 : Int32) : Int32 := if x0 ≤ 4 then x1 + ((x0.toUInt32 >>> ((1 : Int32).toUInt32 &&& Int32.toUInt32 31)).toInt32) else (x1 + 2) + ((((x0.toUInt32 >>> ((2 : Int32).toUInt32 &&& Int32.toUInt32 31)).toInt32).toUInt32 >>> ((1 : Int32).toUInt32 &&& Int32.toUInt32 31)).toInt32)
def n49 (x0 x1 : Int32) : Int32 := if x0 ≤ 16 then n62 x0 x1 else n62 ((x0.toUInt32 >>> ((4 : Int32).toUInt32 &&& Int32.toUInt32 31)).toInt32) (x1 + 4)
def n34 (x0 x1 : Int32) : Int32 := if x0 ≤ 256 then n49 x0 x1 else n49 ((x0.toUInt32 >>> ((8 : Int32).toUInt32 &&& Int32.toUInt32 31)).toInt32) (x1 + 8)
def n7 (x0 : Int32) : Int32 := if 0 < x0 then (if x0 ≤ 65536 then n34 x0 1 else n34 ((x0.toUInt32 >>> ((16 : Int32).toUInt32 &&& Int32.toUInt32 31)).toInt32) (1 + 16)) else x0 &&& 32
theorem c_n62 {x0 x1 : Int32} {Q : Int32 → Prop} (h : Q (n62 x0 x1)) : wJ6_numberOfTrailingZeros_0f7a4_62 Q x0 x1 := by
  unfold wJ6_numberOfTrailingZeros_0f7a4_62
  unfold n62 at h
  refine ⟨fun c => ?_, fun c a ha b hb => ?_⟩
  · rw [if_pos c] at h; exact h
  · rw [if_neg c] at h; subst ha hb; exact h
theorem c_n49 {x0 x1 : Int32} {Q : Int32 → Prop} (h : Q (n49 x0 x1)) : wJ6_numberOfTrailingZeros_0f7a4_49 Q x0 x1 := by
  unfold wJ6_numberOfTrailingZeros_0f7a4_49
  unfold n49 at h
  refine ⟨fun c => ?_, fun c a ha b hb => ?_⟩
  · rw [if_pos c] at h; exact c_n62 h
  · rw [if_neg c] at h; subst ha hb; exact c_n62 h
theorem c_n34 {x0 x1 : Int32} {Q : Int32 → Prop} (h : Q (n34 x0 x1)) : wJ6_numberOfTrailingZeros_0f7a4_34 Q x0 x1 := by
  unfold wJ6_numberOfTrailingZeros_0f7a4_34
  unfold n34 at h
  refine ⟨fun c => ?_, fun c a ha b hb => ?_⟩
  · rw [if_pos c] at h; exact c_n49 h
  · rw [if_neg c] at h; subst ha hb; exact c_n49 h
theorem n7_ok : ∀ k : Nat, k < 16 → n7 (Int32.ofNat (2 ^ k - 1)) = Int32.ofNat k := by decide
theorem low_bits {d k e : Nat} (hd : d = 2 ^ k * (2 * e + 1)) (h2 : d < 65536) (hk : k < 16) : (d ^^^ (2 ^ 32 - 1)) &&& (d - 1) = 2 ^ k - 1 := by
  have hp : 0 < 2 ^ k := Nat.two_pow_pos k
  have e1 : d - 1 = 2 ^ k * (2 * e) + (2 ^ k - 1) := by rw [hd, Nat.mul_add, Nat.mul_one]; omega
  apply Nat.eq_of_testBit_eq
  intro j
  rw [Nat.testBit_and, Nat.testBit_xor, Nat.testBit_two_pow_sub_one, Nat.testBit_two_pow_sub_one]
  by_cases c32 : j < 32
  · rw [decide_eq_true c32, e1, Nat.testBit_two_pow_mul_add _ (by omega), hd, Nat.testBit_two_pow_mul]
    by_cases ck : j < k
    · rw [if_pos ck, Nat.testBit_two_pow_sub_one, decide_eq_true ck, decide_eq_false (show ¬ j ≥ k by omega)]; rfl
    · rw [if_neg ck, decide_eq_false ck, decide_eq_true (show j ≥ k by omega), Bool.true_and]
      cases hj : j - k with
      | zero => rw [show Nat.testBit (2 * e) 0 = false by rw [Nat.testBit_zero]; simp]; exact Bool.and_false _
      | succ t =>
        rw [Nat.testBit_succ, Nat.testBit_succ, show (2 * e + 1) / 2 = e by omega, show 2 * e / 2 = e by omega]
        cases e.testBit t <;> rfl
  · have : (d - 1).testBit j = false := Nat.testBit_lt_two_pow (Nat.lt_of_lt_of_le (show d - 1 < 2 ^ 16 by omega) (Nat.pow_le_pow_right (by decide) (by omega)))
    rw [this, Bool.and_false, decide_eq_false (by omega)]
theorem c_tz {d : Nat} (h1 : 0 < d) (h2 : d < 65536) {Q : Int32 → Prop} (hQ : Q (iI (tz d))) : wJ6_numberOfTrailingZeros_0f7a4 (iI d) Q := by
  obtain ⟨a, b, e, he⟩ := tz_ex h1 h2
  have e0 : (iI d ^^^ (-1)) &&& (iI d - 1) = Int32.ofNat (2 ^ tz d - 1) := by
    have ed : iI d - 1 = iI ((d - 1 : Nat) : Int) := by show iI d - iI 1 = _; rw [iI_sub]; congr 1; omega
    rw [ed, ← nI_i, ← nI_i]
    apply Int32.toBitVec_inj.mp
    apply BitVec.eq_of_toNat_eq
    show (((nI d).toBitVec ^^^ (-1 : Int32).toBitVec) &&& (nI (d - 1)).toBitVec).toNat = (nI (2 ^ tz d - 1)).toBitVec.toNat
    have e3 : (-1 : Int32).toBitVec.toNat = 2 ^ 32 - 1 := by decide
    have hle : 2 ^ tz d - 1 < 65536 := by omega
    rw [BitVec.toNat_and, BitVec.toNat_xor, pk_tn (by omega), pk_tn (by omega), pk_tn (by omega), e3]
    exact low_bits he h2 a
  have e1 := n7_ok (tz d) a
  rw [show Int32.ofNat (tz d) = iI (tz d) from nI_i _] at e1
  unfold wJ6_numberOfTrailingZeros_0f7a4
  intro x hx
  rw [e0] at hx
  rw [← hx] at e1
  rw [← e1] at hQ
  unfold n7 at hQ
  refine ⟨fun c => ⟨fun c2 => ?_, fun c2 y hy z hz => ?_⟩, fun c => ?_⟩
  · rw [if_pos c, if_pos c2] at hQ; exact c_n34 hQ
  · rw [if_pos c, if_neg c2] at hQ; subst hy hz; exact c_n34 hQ
  · rw [if_neg c] at hQ; exact hQ
/-! the digits -/
def dg (c : Int) (p : Nat) : Int := 3 * c / 2 ^ (p + 1) % 2 - c / 2 ^ (p + 1) % 2
theorem dg_b (c : Int) (p : Nat) : dg c p = -1 ∨ dg c p = 0 ∨ dg c p = 1 := by
  unfold dg
  generalize 3 * c / 2 ^ (p + 1) = A
  generalize c / 2 ^ (p + 1) = B
  omega
theorem c_dig {c : Int} (h0 : 0 ≤ c) (h1 : c < 65536) {p : Nat} (hp : p < 20) {Q : Int32 → Prop} (hQ : Q (iI (dg c p))) : wX4_digitAt (iI c) (iI p) Q := by
  unfold wX4_digitAt
  have e : iI p + 1 = iI ((p + 1 : Nat) : Int) := by show iI p + iI 1 = _; rw [iI_add]; rfl
  rw [e, show (3 : Int32) * iI c = iI (3 * c) by show iI 3 * iI c = _; rw [iI_mul], iI_shr (by omega) (by omega) (by omega), iI_shr (by omega) (by omega) (by omega), iI_m1, iI_m1, iI_sub]
  exact hQ
theorem m_dig {c : Int} (h0 : 0 ≤ c) (h1 : c < 65536) {p : Nat} (hp : p < 20) {Q : Int32 → Prop} (hQ : Q (iI (dg c p))) : wX9_digitAt (lI c) (iI p) Q := by
  unfold wX9_digitAt
  intro x hx
  have e : iI p + 1 = iI ((p + 1 : Nat) : Int) := by show iI p + iI 1 = _; rw [iI_add]; rfl
  rw [show (3 : Int64) * lI c = lI (3 * c) by show lI 3 * lI c = _; rw [lI_mul]] at hx
  subst hx
  rw [e, lI_shr (by omega) (by omega) (by omega), lI_shr (by omega) (by omega) (by omega), lI_m1, lI_m1, lI_sub, lI_i]
  exact hQ
def dgN (c : Int) : Nat → Nat
  | 0 => 0
  | p + 1 => dgN c p + (if dg c p = 0 then 0 else 1)
theorem dgN_le (c : Int) : ∀ p, dgN c p ≤ p
  | 0 => Nat.le_refl _
  | p + 1 => by have := dgN_le c p; unfold dgN; split <;> omega
theorem c_cnt4 {W : Nat} (w16 : W ≤ 16) {c : Int} (h0 : 0 ≤ c) (h1 : c < 65536) {Q : Int32 → Prop} (hQ : Q (iI (dgN c W))) : ∀ m p, p + m = W → wX4_countDigits_4 (iI c) (iI W) Q (m + 1) (iI (dgN c p)) (iI p)
  | 0, p, hp => by
    rw [wX4_countDigits_4]
    refine br_le W p (fun _ => ?_) (fun c => by omega)
    rw [show p = W by omega]; exact hQ
  | m + 1, p, hp => by
    rw [wX4_countDigits_4]
    refine br_le W p (fun c => by omega) (fun _ => c_dig h0 h1 (by omega) ?_)
    have ih := c_cnt4 w16 h0 h1 hQ m (p + 1) (by omega)
    have hb := dg_b c p
    have step : ∀ y, y = iI (dgN c (p + 1)) → wX4_countDigits_20 (iI p) (wX4_countDigits_4 (iI c) (iI W) Q (m + 1)) y := by
      intro y hy x hx
      have e2 : x = iI ((p + 1 : Nat) : Int) := by rw [hx]; show iI p + iI 1 = _; rw [iI_add]; rfl
      rw [hy, e2]; exact ih
    refine br_eq (dg c p) 0 (fun d => step _ ?_) (fun d y hy => step _ ?_)
    · rw [show dgN c (p + 1) = dgN c p + (if dg c p = 0 then 0 else 1) from rfl, if_pos d]; rfl
    · rw [hy]; show iI _ + iI 1 = _; rw [iI_add, show dgN c (p + 1) = dgN c p + (if dg c p = 0 then 0 else 1) from rfl, if_neg d]; rfl
theorem m_cnt5 {v : Nat → Int32} {W : Nat} (hv : v 0 = iI W) (w16 : W ≤ 16) {c : Int} (h0 : 0 ≤ c) (h1 : c < 65536) {Q : Int32 → Prop} (hQ : Q (iI (dgN c W))) : ∀ m p, p + m = W → wX9_digitsOf_5 v (lI c) Q (m + 1) (iI (dgN c p)) (iI p)
  | 0, p, hp => by
    rw [wX9_digitsOf_5, g0, hv]
    refine ⟨v0, br_le W p (fun _ => ?_) (fun c => by omega)⟩
    rw [show p = W by omega]; exact hQ
  | m + 1, p, hp => by
    rw [wX9_digitsOf_5, g0, hv]
    refine ⟨v0, br_le W p (fun c => by omega) (fun _ => m_dig h0 h1 (by omega) ?_)⟩
    have ih := m_cnt5 hv w16 h0 h1 hQ m (p + 1) (by omega)
    have hb := dg_b c p
    have step : ∀ y : Int, ((dgN c (p + 1) : Nat) : Int) = (dgN c p : Nat) + y → wX9_digitsOf_31 (iI (dgN c p)) (iI p) (wX9_digitsOf_5 v (lI c) Q (m + 1)) (iI y) := by
      intro y hy z hz x hx
      have e2 : x = iI ((p + 1 : Nat) : Int) := by rw [hx]; show iI p + iI 1 = _; rw [iI_add]; rfl
      rw [hz, e2, iI_add, ← hy]; exact ih
    refine br_eq (dg c p) 0 (fun d => step 0 ?_) (fun d => step 1 ?_)
    · rw [dgN, if_pos d]; rfl
    · rw [dgN, if_neg d]; rfl
/-! inverses -/
def nwF (e : Int) : Nat → Int → Int
  | 0, i => i
  | m + 1, i => nwF e m (i * (2 - e * i))
def ivZ (W : Nat) (e : Int) : Int := nwF e 3 e % 2 ^ W
theorem c_inv4 {W : Nat} (w16 : W ≤ 16) (e : Int) {Q : Int32 → Prop} : ∀ (m j : Nat) (i : Int), j + m = 3 → Q (iI (nwF e m i % 2 ^ W)) → wX4_inverseOf_4 (iI e) (iI W) Q (m + 1) (iI i) (iI j)
  | 0, j, i, hj, hQ => by
    rw [wX4_inverseOf_4]
    refine br_le 3 j (fun _ => ?_) (fun c => by omega)
    rw [iI_p2 (by omega), show iI (2 ^ W) - 1 = iI (2 ^ W - 1) by show iI _ - iI 1 = _; rw [iI_sub], iI_mask _ (by omega)]; exact hQ
  | m + 1, j, i, hj, hQ => by
    rw [wX4_inverseOf_4]
    refine br_le 3 j (fun c => by omega) (fun _ x hx y hy => ?_)
    have e1 : x = iI (i * (2 - e * i)) := by rw [hx]; show iI i * (iI 2 - iI e * iI i) = _; rw [iI_mul, iI_sub, iI_mul]
    have e2 : y = iI ((j + 1 : Nat) : Int) := by rw [hy]; show iI j + iI 1 = _; rw [iI_add]; rfl
    rw [e1, e2]; exact c_inv4 w16 e m (j + 1) _ (by omega) hQ
theorem c_inv {W : Nat} (w16 : W ≤ 16) {e : Int} {Q : Int32 → Prop} (hQ : Q (iI (ivZ W e))) : wX4_inverseOf (iI e) (iI W) Q := ⟨_, c_inv4 w16 e 3 0 e rfl hQ⟩
theorem nw_step {e i t : Int} {k : Nat} (h : e * i = 1 + 2 ^ k * t) : e * (i * (2 - e * i)) = 1 + 2 ^ (2 * k) * (-(t * t)) := by
  rw [← Int.mul_assoc, h]
  have e1 : (2 : Int) ^ (2 * k) * (t * t) = (2 ^ k * t) * (2 ^ k * t) := by
    rw [show 2 * k = k + k by omega, Int.pow_add, Int.mul_assoc, Int.mul_assoc, Int.mul_left_comm t]
  rw [Int.mul_neg, e1]
  generalize (2 : Int) ^ k * t = a
  rw [show 2 - (1 + a) = 1 - a by omega, Int.add_mul, Int.one_mul, Int.mul_sub, Int.mul_one]
  omega
theorem odd_sq {e : Int} (h : e % 2 = 1) : ∃ t, e * e = 1 + 2 ^ 3 * t := by
  have h8 : e % 8 = 1 ∨ e % 8 = 3 ∨ e % 8 = 5 ∨ e % 8 = 7 := by omega
  have m := Int.mul_emod e e 8
  refine ⟨e * e / 8, ?_⟩
  have e3 : (2 : Int) ^ 3 = 8 := by decide
  rw [e3]
  rcases h8 with h | h | h | h <;> rw [h] at m <;> omega
theorem iv_ok {W : Nat} (w4 : 4 ≤ W) (w16 : W ≤ 16) {e : Int} (h : e % 2 = 1) : e * ivZ W e % 2 ^ W = 1 ∧ 0 ≤ ivZ W e ∧ ivZ W e < 2 ^ W ∧ ivZ W e % 2 = 1 := by
  obtain ⟨p16, pm, ph⟩ := pw w4 w16
  obtain ⟨t0, h0⟩ := odd_sq h
  have h1 := nw_step h0
  have h2 := nw_step h1
  have h3 := nw_step h2
  have b := mod_b (nwF e 3 e) W
  have r1 : e * ivZ W e % 2 ^ W = 1 := by
    unfold ivZ
    rw [Int.mul_emod, Int.emod_emod, ← Int.mul_emod]
    show e * (_ * (2 - e * _)) % 2 ^ W = 1
    rw [h3, show (2 : Int) ^ (2 * (2 * (2 * 3))) = 2 ^ W * 2 ^ (24 - W) by rw [← Int.pow_add]; congr 1; omega, Int.mul_assoc, Int.add_mul_emod_self_left]
    exact Int.emod_eq_of_lt (by omega) (by omega)
  refine ⟨r1, b.1, b.2, ?_⟩
  have d2 : (2 : Int) ∣ 2 ^ W := ⟨2 ^ (W - 1), ph⟩
  have r2 : e * ivZ W e % 2 = 1 := by rw [← Int.emod_emod_of_dvd _ d2, r1]; rfl
  rw [Int.mul_emod, h, Int.one_mul, Int.emod_emod] at r2
  exact r2
theorem iv_un {M e r i : Int} (h1 : e * r % M = 1) (h2 : e * i % M = 1) (r0 : 0 ≤ r) (r1 : r < M) (i0 : 0 ≤ i) (i1 : i < M) : i = r := by
  have a : e * r * i % M = i % M := by rw [Int.mul_emod, h1, Int.one_mul, Int.emod_emod]
  have b : e * i * r % M = r % M := by rw [Int.mul_emod, h2, Int.one_mul, Int.emod_emod]
  rw [Int.mul_right_comm, b, Int.emod_eq_of_lt r0 r1, Int.emod_eq_of_lt i0 i1] at a
  exact a.symm
theorem m_inv2 {v : Nat → Int32} {W : Nat} (hv : v 0 = iI W) (w4 : 4 ≤ W) (w16 : W ≤ 16) {e : Int} (h : e % 2 = 1) (e0 : 1 ≤ e) (e1 : e < 65536) {Q : Int64 → Prop} (hQ : Q (lI (ivZ W e))) : ∀ (m : Nat) (i : Int), 1 ≤ i → i + 2 * m = ivZ W e → wX9_inverseOf_2 v (lI e) Q (m + 1) (lI i) := by
  obtain ⟨p16, pm, ph⟩ := pw w4 w16
  obtain ⟨r1, r2, r3, r4⟩ := iv_ok w4 w16 h
  intro m
  induction m with
  | zero =>
    intro i i0 hi
    have hb := mul_b (x := e) (y := i) (h := 65536) (by omega) (by omega) (by omega) (by omega)
    rw [wX9_inverseOf_2, lI_mul]
    refine m_value hv w16 (by omega) (by omega) ?_
    obtain rfl : i = ivZ W e := by omega
    rw [r1]
    exact bl_eq 1 1 (fun _ => hQ) (fun c => absurd rfl c)
  | succ m ih =>
    intro i i0 hi
    have hb := mul_b (x := e) (y := i) (h := 65536) (by omega) (by omega) (by omega) (by omega)
    have vb := mod_b (e * i) W
    rw [wX9_inverseOf_2, lI_mul]
    refine m_value hv w16 (by omega) (by omega) (bl_eq (e * i % 2 ^ W) 1 (fun c => ?_) (fun c x hx => ?_))
    · have := iv_un r1 c r2 r3 (by omega) (by omega); omega
    · have e2 : x = lI (i + 2) := by rw [hx]; show lI i + lI 2 = _; rw [lI_add]
      rw [e2]; exact ih (i + 2) (by omega) (by omega)
theorem m_inv {v : Nat → Int32} {W : Nat} (hv : v 0 = iI W) (w4 : 4 ≤ W) (w16 : W ≤ 16) {e : Int} (h : e % 2 = 1) (e0 : 1 ≤ e) (e1 : e < 65536) {Q : Int64 → Prop} (hQ : Q (lI (ivZ W e))) : wX9_inverseOf v (lI e) Q := by
  obtain ⟨r1, r2, r3, r4⟩ := iv_ok w4 w16 h
  exact ⟨_, m_inv2 hv w4 w16 h e0 e1 hQ ((ivZ W e - 1) / 2).toNat 1 (by omega) (by omega)⟩
theorem m_rngA {v : Nat → Int32} {W : Nat} (hv : v 0 = iI W) (w16 : W ≤ 16) {z lo : Int} (z1 : -2147483648 ≤ z) (z2 : z < 2147483648) (l0 : 0 ≤ lo) (l1 : lo ≤ 10) {Q : Int32 → Prop} (hT : lo ≤ z → z < 2 ^ W → Q 1) (hF : ¬ (lo ≤ z ∧ z < 2 ^ W) → Q 0) : wX9_all v (fun r => wX9_in (lI z) (lI lo) (r - 1) Q) := by
  have hp := p2pos W
  have hq : (2 : Int) ^ W ≤ 65536 := p2le w16
  refine m_all hv w16 ?_
  rw [show lI (2 ^ W) - 1 = lI (2 ^ W - 1) by show lI _ - lI 1 = _; rw [lI_sub]]
  exact m_in (by omega) (by omega) (by omega) (by omega) (by omega) (by omega) (fun a b => hT a (by omega)) (fun a => hF (by omega))
theorem m_rngH {v : Nat → Int32} {W : Nat} (hv : v 0 = iI W) (w4 : 4 ≤ W) (w16 : W ≤ 16) {z lo : Int} (z1 : -2147483648 ≤ z) (z2 : z < 2147483648) (l0 : 0 ≤ lo) (l1 : lo ≤ 10) {Q : Int32 → Prop} (hT : lo ≤ z → z < 2 ^ (W - 1) → Q 1) (hF : ¬ (lo ≤ z ∧ z < 2 ^ (W - 1)) → Q 0) : wX9_half v (fun r => wX9_in (lI z) (lI lo) (r - 1) Q) := by
  obtain ⟨p16, pm, ph⟩ := pw w4 w16
  refine m_half hv (by omega) w16 ?_
  rw [show lI (2 ^ (W - 1)) - 1 = lI (2 ^ (W - 1) - 1) by show lI _ - lI 1 = _; rw [lI_sub]]
  exact m_in (by omega) (by omega) (by omega) (by omega) (by omega) (by omega) (fun a b => hT a (by omega)) (fun a => hF (by omega))
