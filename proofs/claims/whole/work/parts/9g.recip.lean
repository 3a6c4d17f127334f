/-! what the reference reckons -/
theorem nshr {a k : Nat} (hk : k < 64) (ha : a < 9223372036854775808) : lI (a : Int) >>> ((iI (k : Int)).toInt64 &&& 63) = lI ((a / 2 ^ k : Nat) : Int) := by
  rw [lI_shr hk (by omega) (by omega), Int.natCast_ediv, pwN]
theorem ndiv {a b : Nat} (hb : 0 < b) (ha : a < 9223372036854775808) (hb2 : b < 9223372036854775808) : lI (a : Int) / lI (b : Int) = lI ((a / b : Nat) : Int) := by
  rw [lI_div (by omega) (by omega) (by omega) (by omega), Int.natCast_ediv]
theorem nrem {a b : Nat} (ha : a < 9223372036854775808) (hb2 : b < 9223372036854775808) : lI (a : Int) - lI (a : Int) / lI (b : Int) * lI (b : Int) = lI ((a % b : Nat) : Int) := by
  rw [lI_remN (by omega) (by omega) (by omega) (by omega), Int.natCast_emod]
theorem nadd (a b : Nat) : lI (a : Int) + lI (b : Int) = lI ((a + b : Nat) : Int) := by rw [lI_add]; rfl
theorem nmul (a b : Nat) : lI (a : Int) * lI (b : Int) = lI ((a * b : Nat) : Int) := by rw [lI_mul]; rfl
theorem nmask (a : Nat) {k : Nat} (hk : k < 64) : lI (a : Int) &&& lI (2 ^ k - 1) = lI ((a % 2 ^ k : Nat) : Int) := by rw [lI_mask _ hk, Int.natCast_emod, pwN]
theorem npow {k : Nat} (hk : k < 64) {Q : Int64 → Prop} (h : Q (lI ((2 ^ k : Nat) : Int))) : wX9_power (iI (k : Int)) Q := m_pow hk (by rw [← pwN]; exact h)
theorem nn_lt {a b : Nat} {A B : Prop} (f : a < b → A) (g : b ≤ a → B) (ha : a < 9223372036854775808) (hb : b < 9223372036854775808) : (lI (a : Int) < lI (b : Int) → A) ∧ (¬ lI (a : Int) < lI (b : Int) → B) := bl_lt a b (fun c => f (by omega)) (fun c => g (by omega))
theorem nn_le {a b : Nat} {A B : Prop} (f : a ≤ b → A) (g : b < a → B) (ha : a < 9223372036854775808) (hb : b < 9223372036854775808) : (lI (a : Int) ≤ lI (b : Int) → A) ∧ (¬ lI (a : Int) ≤ lI (b : Int) → B) := bl_le a b (fun c => f (by omega)) (fun c => g (by omega))
theorem nn_eq {a b : Nat} {A B : Prop} (f : a = b → A) (g : a ≠ b → B) (ha : a < 9223372036854775808) (hb : b < 9223372036854775808) : (lI (a : Int) = lI (b : Int) → A) ∧ (¬ lI (a : Int) = lI (b : Int) → B) := bl_eq a b (fun c => f (by omega)) (fun c => g (by omega))
theorem pl {a b : Nat} (h : a ≤ b) : 2 ^ a ≤ 2 ^ b := Nat.pow_le_pow_right (by decide) h
theorem m_lg2 {d : Nat} (d2 : d < 65536) {Q : Int32 → Prop} : ∀ m L : Nat, L + m = 16 → Q (iI (lgF d m L)) → wX9_logUp_2 (iI d) Q (m + 1) (iI L)
  | 0, L, h, hQ => by
    have hp := pl (show L ≤ 16 by omega)
    rw [wX9_logUp_2, iI_l (by omega) (by omega)]
    refine npow (by omega) (nn_le (fun _ => hQ) (fun c => ?_) (by omega) (by omega))
    rw [show L = 16 by omega] at c
    omega
  | m + 1, L, h, hQ => by
    have hp := pl (show L ≤ 16 by omega)
    rw [wX9_logUp_2, iI_l (by omega) (by omega)]
    unfold lgF at hQ
    refine npow (by omega) (nn_le (fun c => ?_) (fun c x hx => ?_) (by omega) (by omega))
    · rw [if_pos c] at hQ; exact hQ
    · rw [if_neg (by omega)] at hQ
      have e : x = iI ((L + 1 : Nat) : Int) := by rw [hx]; show iI L + iI 1 = _; rw [iI_add]; rfl
      rw [e]; exact m_lg2 d2 m (L + 1) (by omega) hQ
theorem m_lg {d : Nat} (d2 : d < 65536) {Q : Int32 → Prop} (hQ : Q (iI (lgU d))) : wX9_logUp (iI d) Q := ⟨_, m_lg2 d2 16 0 rfl hQ⟩
theorem m_rc16 {d k : Nat} (d1 : 1 ≤ d) (d2 : d < 65536) (hk : k ≤ 100) (hb : 2 ^ k / d < 1152921504606846976) {Q : Int64 → Prop} (hQ : Q (lI (nrs (2 ^ k) d : Nat))) : ∀ m i : Nat, i + m = k → wX9_reciprocal_16 (iI k) (iI d) Q (m + 1) (lI ((2 ^ i / d : Nat) : Int)) (lI ((2 ^ i % d : Nat) : Int)) (iI i)
  | 0, i, h => by
    obtain rfl : i = k := by omega
    have hr : 2 ^ i % d < d := Nat.mod_lt _ d1
    have hc := nr_cases (2 ^ i) d d1
    have t2 : (2 : Int64) * lI ((2 ^ i % d : Nat) : Int) = lI ((2 * (2 ^ i % d) : Nat) : Int) := by show lI ((2 : Nat) : Int) * _ = _; rw [nmul]
    have p1 : lI ((2 ^ i / d : Nat) : Int) + 1 = lI ((2 ^ i / d + 1 : Nat) : Int) := by show _ + lI ((1 : Nat) : Int) = _; rw [nadd]
    have r2 : lI ((2 ^ i / d : Nat) : Int) - lI ((2 ^ i / d : Nat) : Int) / 2 * 2 = lI ((2 ^ i / d % 2 : Nat) : Int) := by
      show lI ((2 ^ i / d : Nat) : Int) - lI ((2 ^ i / d : Nat) : Int) / lI ((2 : Nat) : Int) * lI ((2 : Nat) : Int) = _
      rw [nrem (by omega) (by omega)]
    rw [wX9_reciprocal_16, iI_l (z := (d : Int)) (by omega) (by omega), t2, p1, r2]
    generalize 2 ^ i % d = r at *
    generalize 2 ^ i / d = q at *
    refine br_le i i (fun _ => nn_lt (fun c => ?_) (fun c => nn_eq (fun e => nn_eq (b := 1) (fun g => ?_) (fun g => ?_) (by omega) (by omega)) (fun e => ?_) (by omega) (by omega)) (by omega) (by omega)) (fun c => by omega)
    · rcases hc with ⟨h1, h2⟩ | ⟨h1, h2⟩ | ⟨h1, h2⟩
      · omega
      · rw [h2] at hQ; exact hQ
      · omega
    · rcases hc with ⟨h1, h2⟩ | ⟨h1, h2⟩ | ⟨h1, h2⟩
      · omega
      · omega
      · rw [h2, g] at hQ; exact hQ
    · rcases hc with ⟨h1, h2⟩ | ⟨h1, h2⟩ | ⟨h1, h2⟩
      · omega
      · omega
      · rw [h2, show q % 2 = 0 by omega, Nat.add_zero] at hQ; exact hQ
    · rcases hc with ⟨h1, h2⟩ | ⟨h1, h2⟩ | ⟨h1, h2⟩
      · rw [h2] at hQ; exact hQ
      · omega
      · omega
  | m + 1, i, h => by
    have hr : 2 ^ i % d < d := Nat.mod_lt _ d1
    have hq : 2 ^ i / d ≤ 2 ^ k / d := Nat.div_le_div_right (pl (by omega))
    have hq2 : 2 ^ (i + 1) / d ≤ 2 ^ k / d := Nat.div_le_div_right (pl (by omega))
    have hm := Nat.div_add_mod (2 ^ i) d
    have e1 : 2 ^ (i + 1) = d * (2 * (2 ^ i / d)) + 2 * (2 ^ i % d) := by rw [Nat.pow_succ, Nat.mul_left_comm]; omega
    have e2 : 2 ^ (i + 1) / d = 2 * (2 ^ i / d) + 2 * (2 ^ i % d) / d := by rw [e1, Nat.mul_add_div d1]
    have e3 : 2 ^ (i + 1) % d = 2 * (2 ^ i % d) % d := by rw [e1, Nat.mul_add_mod]
    rw [wX9_reciprocal_16, iI_l (z := (d : Int)) (by omega) (by omega)]
    have nd : ¬ lI (d : Int) = 0 := lI_ne0 (by omega) (by omega) (by omega)
    refine br_le k i (fun c => by omega) (fun _ x4 h4 => ⟨nd, fun x2 h2 => ⟨nd, fun y4 g4 y6 g6 => ?_⟩⟩)
    have f4 : x4 = lI ((2 * (2 ^ i % d) : Nat) : Int) := by rw [h4]; show _ * lI ((2 : Nat) : Int) = _; rw [nmul, Nat.mul_comm]
    have f2 : x2 = lI ((2 ^ (i + 1) / d : Nat) : Int) := by
      rw [h2, f4, ndiv d1 (by omega) (by omega)]; show lI ((2 : Nat) : Int) * _ + _ = _; rw [nmul, nadd, e2]
    have f5 : y4 = lI ((2 ^ (i + 1) % d : Nat) : Int) := by rw [g4, f4, nrem (by omega) (by omega), e3]
    have f6 : y6 = iI ((i + 1 : Nat) : Int) := by rw [g6]; show iI i + iI 1 = _; rw [iI_add]; rfl
    rw [f2, f5, f6]
    exact m_rc16 d1 d2 hk hb hQ m (i + 1) (by omega)
theorem m_rec {d k : Nat} (d1 : 1 ≤ d) (d2 : d < 65536) (hk : k ≤ 100) (hb : 2 ^ k / d < 1152921504606846976) {Q : Int64 → Prop} (hQ : Q (lI (nrs (2 ^ k) d : Nat))) : wX9_reciprocal (iI k) (iI d) Q := by
  unfold wX9_reciprocal
  rw [iI_l (by omega) (by omega)]
  have nd : ¬ lI (d : Int) = 0 := lI_ne0 (by omega) (by omega) (by omega)
  refine ⟨nd, fun x hx => ⟨nd, fun y hy => ⟨k + 1, ?_⟩⟩⟩
  have ex : x = lI ((2 ^ 0 % d : Nat) : Int) := by rw [hx]; show lI ((1 : Nat) : Int) - lI ((1 : Nat) : Int) / _ * _ = _; rw [nrem (by omega) (by omega)]
  have ey : y = lI ((2 ^ 0 / d : Nat) : Int) := by rw [hy]; show lI ((1 : Nat) : Int) / _ = _; rw [ndiv d1 (by omega) (by omega)]
  rw [ex, ey]
  exact m_rc16 d1 d2 hk hb hQ k 0 (Nat.zero_add _)
theorem rec_k {d P : Nat} (d1 : 1 ≤ d) (d2 : d < 65536) (hP : 16 ≤ P) (hP2 : P ≤ 52) : 2 ^ (P + lgU d) / d < 1152921504606846976 ∧ 2 ^ P ≤ nrs (2 ^ (P + lgU d)) d ∧ nrs (2 ^ (P + lgU d)) d < 2 ^ (P + 1) := by
  obtain ⟨l1, l2, l3⟩ := lgU_ok d2
  have h16 := pl hP
  obtain ⟨b1, b2⟩ := rec_b (P := P) d1 l1 l2 (by omega)
  have h53 := pl (show P + 1 ≤ 53 by omega)
  refine ⟨?_, b1, b2⟩
  have : 2 ^ (P + lgU d) / d ≤ nrs (2 ^ (P + lgU d)) d := by
    rcases nr_cases (2 ^ (P + lgU d)) d d1 with ⟨-, h⟩ | ⟨-, h⟩ | ⟨-, h⟩ <;> omega
  omega
theorem sB_lo {p x s : Nat} (hx : 0 < x) (h : s < sB p x) : 2 ^ p ≤ x / 2 ^ s := by
  unfold sB at h
  rw [Nat.le_div_iff_mul_le (Nat.two_pow_pos s), ← Nat.pow_add]
  exact Nat.le_trans (pl (by omega)) (lg_le hx)
theorem sB_hi (p x : Nat) : x / 2 ^ sB p x < 2 ^ p := by
  rw [Nat.div_lt_iff_lt_mul (Nat.two_pow_pos _), ← Nat.pow_add]
  exact Nat.lt_of_lt_of_le (lg_lt x) (pl (by unfold sB; omega))
theorem m_rf2 {x : Nat} (hx : x < 4611686018427387904) {Q : Int64 → Prop} (hQ : Q (lI (RF 24 x : Nat))) : ∀ m s : Nat, s + m = sB 24 x → wX9_roundedFloat_2 (lI x) Q (m + 1) (iI s) := by
  have hS : sB 24 x ≤ 38 := by
    unfold sB
    by_cases c : x = 0
    · rw [c, show Nat.log2 0 = 0 from rfl]; omega
    · have := lg_lt_of (show x < 2 ^ 62 by omega) (by omega); omega
  intro m
  induction m with
  | zero =>
    intro s hs
    obtain rfl : s = sB 24 x := by omega
    have hlt := sB_hi 24 x
    have hr : x % 2 ^ sB 24 x < 2 ^ sB 24 x := Nat.mod_lt _ (Nat.two_pow_pos _)
    have hdm := Nat.div_add_mod x (2 ^ sB 24 x)
    have hc := nr_cases x (2 ^ sB 24 x) (Nat.two_pow_pos _)
    have h38 := pl hS
    have hRF : RF 24 x = nrs x (2 ^ sB 24 x) * 2 ^ sB 24 x := rfl
    rw [wX9_roundedFloat_2, nshr (by omega) (by omega)]
    refine nn_lt (b := 16777216) (fun _ => br_eq (sB 24 x) 0 (fun c => ?_) (fun c x3 h3 x5 h5 => ?_)) (fun c => by omega) (by omega) (by omega)
    · rw [RF_small (by decide) (show x < 2 ^ 24 by rw [show sB 24 x = 0 by omega, Nat.pow_zero, Nat.div_one] at hlt; exact hlt)] at hQ
      exact hQ
    · have e1 : iI (sB 24 x : Int) - 1 = iI ((sB 24 x - 1 : Nat) : Int) := by show iI _ - iI 1 = _; rw [iI_sub]; congr 1; omega
      have p2 : 2 ^ sB 24 x = 2 * 2 ^ (sB 24 x - 1) := by rw [show sB 24 x = sB 24 x - 1 + 1 by omega, Nat.pow_succ, Nat.mul_comm]; rfl
      have e3 : x3 <<< ((iI (sB 24 x : Int)).toInt64 &&& 63) = lI ((x / 2 ^ sB 24 x * 2 ^ sB 24 x : Nat) : Int) := by
        rw [h3, lI_shl (by omega), ← pwN]; rfl
      have e5 : x5 = lI ((x % 2 ^ sB 24 x : Nat) : Int) := by
        rw [h5, e3, lI_sub]; congr 1; rw [Nat.mul_comm] at hdm; omega
      have up : (x3 + 1) <<< ((iI (sB 24 x : Int)).toInt64 &&& 63) = lI (((x / 2 ^ sB 24 x + 1) * 2 ^ sB 24 x : Nat) : Int) := by
        rw [h3]; show (_ + lI ((1 : Nat) : Int)) <<< _ = _; rw [nadd, lI_shl (by omega), ← pwN]; rfl
      have dn : (x3 + 0) <<< ((iI (sB 24 x : Int)).toInt64 &&& 63) = lI ((x / 2 ^ sB 24 x * 2 ^ sB 24 x : Nat) : Int) := by
        rw [h3]; show (_ + lI ((0 : Nat) : Int)) <<< _ = _; rw [nadd, Nat.add_zero, lI_shl (by omega), ← pwN]; rfl
      have od : x3 - x3 / 2 * 2 = lI ((x / 2 ^ sB 24 x % 2 : Nat) : Int) := by
        rw [h3]
        show _ - _ / lI ((2 : Nat) : Int) * lI ((2 : Nat) : Int) = _
        rw [nrem (by omega) (by omega)]
      rw [hRF] at hQ
      rw [e1, up, dn, od, e5]
      refine npow (by omega) (nn_lt (fun c1 => ?_) (fun c1 => nn_eq (fun c2 => nn_eq (b := 1) (fun c3 => ?_) (fun c3 => ?_) (by omega) (by omega)) (fun c2 => ?_) (by omega) (by omega)) (by omega) (by omega))
      · rcases hc with ⟨h1, h2⟩ | ⟨h1, h2⟩ | ⟨h1, h2⟩
        · omega
        · rw [h2] at hQ; exact hQ
        · omega
      · rcases hc with ⟨h1, h2⟩ | ⟨h1, h2⟩ | ⟨h1, h2⟩
        · omega
        · omega
        · rw [h2, c3] at hQ; exact hQ
      · rcases hc with ⟨h1, h2⟩ | ⟨h1, h2⟩ | ⟨h1, h2⟩
        · omega
        · omega
        · rw [h2, show x / 2 ^ sB 24 x % 2 = 0 by omega, Nat.add_zero] at hQ; exact hQ
      · rcases hc with ⟨h1, h2⟩ | ⟨h1, h2⟩ | ⟨h1, h2⟩
        · rw [h2] at hQ; exact hQ
        · omega
        · omega
  | succ m ih =>
    intro s hs
    have hx0 : 0 < x := by
      refine Nat.pos_of_ne_zero (fun c => ?_)
      rw [c] at hs
      have : sB 24 0 = 0 := rfl
      omega
    have hlo := sB_lo hx0 (show s < sB 24 x by omega)
    have hle : x / 2 ^ s ≤ x := Nat.div_le_self _ _
    rw [wX9_roundedFloat_2, nshr (by omega) (by omega)]
    refine nn_lt (b := 16777216) (fun c => by omega) (fun _ y hy => ?_) (by omega) (by omega)
    have e : y = iI ((s + 1 : Nat) : Int) := by rw [hy]; show iI s + iI 1 = _; rw [iI_add]; rfl
    rw [e]; exact ih (s + 1) (by omega)
theorem m_rf {x : Nat} (hx : x < 4611686018427387904) {Q : Int64 → Prop} (hQ : Q (lI (RF 24 x : Nat))) : wX9_roundedFloat (lI x) Q := ⟨_, m_rf2 hx hQ (sB 24 x) 0 (Nat.zero_add _)⟩
/-! the bits of a reciprocal -/
theorem cmp_lt {a b : Int} (h : a < b) : compare a b = Ordering.lt := by show compareOfLessAndEq a b = _; unfold compareOfLessAndEq; rw [if_pos h]
theorem cmp_ge {a b : Int} (h : b ≤ a) : compare a b = Ordering.eq ∨ compare a b = Ordering.gt := by
  show compareOfLessAndEq a b = _ ∨ compareOfLessAndEq a b = _
  unfold compareOfLessAndEq
  rw [if_neg (by omega)]
  split
  · exact Or.inl rfl
  · exact Or.inr rfl
theorem two64 : v64 4611686018427387904 = fFin (2 ^ 52) (-51) := by decide +kernel
theorem uniq {f : FP.Core.Fmt} (hp : 1 ≤ f.p) {c X : Nat} {q e : Int} (hc : Cz f c q) (hX1 : 2 ^ (f.p - 1) ≤ X) (hX2 : X < 2 ^ f.p) (h : VE c q X e) : c = X ∧ q = e := by
  have hX0 := Nat.two_pow_pos (f.p - 1)
  have c0 : c ≠ 0 := fun d => by have := (VE_zero h).mp d; omega
  obtain ⟨n1, n2, -, -⟩ : Cn f c q := hc.resolve_right (fun d => c0 d.1)
  have l1 : c.log2 = f.p - 1 := lg_eq n1 (by rw [show f.p - 1 + 1 = f.p by omega]; exact n2)
  have l2 : X.log2 = f.p - 1 := lg_eq hX1 (by rw [show f.p - 1 + 1 = f.p by omega]; exact hX2)
  have hl := VE_lg (by omega) h
  have hq : q = e := by omega
  subst hq
  unfold VE at h
  rw [show (q - q).toNat = 0 by omega, Nat.pow_zero, Nat.mul_one, Nat.mul_one] at h
  exact ⟨h, rfl⟩
theorem F64_eq {a : UInt64} {X : Nat} {e : Int} (h : F64 a X e) (h1 : 4503599627370496 ≤ X) (h2 : X < 9007199254740992) : v64 a = fFin X e := by
  obtain ⟨c, q, a1, a2, a3⟩ := h
  obtain ⟨rfl, rfl⟩ := uniq (f := FP.Core.b64) (by decide) a2 h1 h2 a3
  exact a1
theorem c_bo40 {x : UInt64} {X F : Nat} (hF : F = 23 ∨ F = 52) (h1 : 4503599627370496 ≤ X) (h2 : X < 9007199254740992) (hx : F64 x X (-52)) {E : Int} (hE1 : 0 ≤ E) (hE2 : E ≤ 1023) {Q : Int64 → Prop} (hQ : Q (lI (E * 2 ^ F + ((X / 2 ^ (52 - F) : Nat) : Int) - 2 ^ F))) : wX6_bitsOf_40 (iI F) Q x (iI E) := by
  intro y hy
  rw [lI_p2 (by omega)] at hy
  subst hy
  have hone : F64 (FP.l2d (lI (2 ^ F))) 1 (F : Int) := by
    rcases hF with rfl | rfl
    · exact ⟨2 ^ 52, -29, by decide +kernel, Or.inl (by unfold Cn; decide), by unfold VE; decide⟩
    · exact ⟨2 ^ 52, 0, by decide +kernel, Or.inl (by unfold Cn; decide), by unfold VE; decide⟩
  have e80 : (2 : Nat) ^ 80 = 1208925819614629174706176 := by decide
  have hm := F64_mul hx hone (by omega) (by omega) (by omega)
  rw [Nat.mul_one, RF_small (by decide) (show X < 2 ^ 53 from h2)] at hm
  have hd := F64_d2l (S := 52 - F) (by rw [show -((52 - F : Nat) : Int) = -52 + (F : Int) by omega]; exact hm) (by have := Nat.div_le_self X (2 ^ (52 - F)); omega)
  refine ⟨F64_n hm, ?_⟩
  rw [hd, iI_l (by omega) (by omega), lI_shl (by omega), lI_add, lI_sub]
  exact hQ
theorem c_bo9 {X F L : Nat} {B : Int} (hF : F = 23 ∨ F = 52) (hL : L ≤ 16) (hB1 : 16 ≤ B) (hB2 : B ≤ 1023) (h1 : 4503599627370496 ≤ X) (h2 : X < 9007199254740992) {Q : Int64 → Prop} (hQ : Q (lI ((B - L) * 2 ^ F + ((X / 2 ^ (52 - F) : Nat) : Int) - 2 ^ F))) : ∀ (m j : Nat) (x : UInt64), j + m = L → F64 x X (-52 - (m : Int)) → wX6_bitsOf_9 (iI F) Q (m + 1) x (iI (B - j)) (iI j) := by
  intro m
  induction m with
  | zero =>
    intro j x hj hx
    have ex := F64_eq hx h1 h2
    rw [wX6_bitsOf_9]
    have hx' : F64 x X (-52) := hx
    obtain rfl : j = L := by omega
    refine br_le 17 j (fun c => by omega) (fun _ => ⟨fun _ => c_bo40 hF h1 h2 hx' (by omega) (by omega) hQ, fun c => absurd ?_ c⟩)
    show 0 ≤ Op.cmpValue (FP.Core.order (v64 x) (v64 FP.dconst1)) CmpOp.g
    rw [ex, one64]
    show 0 ≤ Op.cmpValue (some (compare ((X * 2 ^ ((-52 : Int) - (-52)).toNat : Nat) : Int) ((2 ^ 52 * 2 ^ ((-52 : Int) - (-52)).toNat : Nat) : Int))) CmpOp.g
    rcases cmp_ge (a := ((X * 2 ^ ((-52 : Int) - (-52)).toNat : Nat) : Int)) (b := ((2 ^ 52 * 2 ^ ((-52 : Int) - (-52)).toNat : Nat) : Int)) (by
      rw [show ((-52 : Int) - (-52)).toNat = 0 from rfl, Nat.pow_zero, Nat.mul_one, Nat.mul_one]
      have e2 : (2 : Nat) ^ 52 = 4503599627370496 := by decide
      omega) with c | c <;> rw [c] <;> decide
  | succ m ih =>
    intro j x hj hx
    have ex := F64_eq hx h1 h2
    rw [wX6_bitsOf_9]
    have e80 : (2 : Nat) ^ 80 = 1208925819614629174706176 := by decide
    have hm := F64_mul hx (b := 4611686018427387904) (B := 1) (e2 := 1) ⟨2 ^ 52, -51, two64, Or.inl (by unfold Cn; decide), by unfold VE; decide⟩ (by omega) (by omega) (by omega)
    rw [Nat.mul_one, RF_small (by decide) (show X < 2 ^ 53 from h2)] at hm
    have hm2 : F64 (FP.dmul x 4611686018427387904) X (-52 - (m : Int)) := by
      rw [show -52 - (m : Int) = -52 - ((m + 1 : Nat) : Int) + 1 by omega]; exact hm
    have hcmp : ¬ 0 ≤ Op.cmpValue (FP.dcmp x FP.dconst1) CmpOp.g := by
      show ¬ 0 ≤ Op.cmpValue (FP.Core.order (v64 x) (v64 FP.dconst1)) CmpOp.g
      rw [ex, one64]
      show ¬ 0 ≤ Op.cmpValue (some (compare ((X * 2 ^ ((-52 - ((m + 1 : Nat) : Int)) - min (-52 - ((m + 1 : Nat) : Int)) (-52)).toNat : Nat) : Int) ((2 ^ 52 * 2 ^ ((-52 : Int) - min (-52 - ((m + 1 : Nat) : Int)) (-52)).toNat : Nat) : Int))) CmpOp.g
      rw [show min (-52 - ((m + 1 : Nat) : Int)) (-52) = -52 - ((m + 1 : Nat) : Int) by omega, show ((-52 - ((m + 1 : Nat) : Int)) - (-52 - ((m + 1 : Nat) : Int))).toNat = 0 by omega, show ((-52 : Int) - (-52 - ((m + 1 : Nat) : Int))).toNat = m + 1 by omega, Nat.pow_zero, Nat.mul_one]
      rw [cmp_lt (by
        have e2 : (2 : Nat) ^ 52 = 4503599627370496 := by decide
        have e3 : 2 ≤ 2 ^ (m + 1) := pl (show 1 ≤ m + 1 by omega)
        have e4 := Nat.mul_le_mul_left (2 ^ 52) e3
        omega)]
      decide
    refine br_le 17 j (fun c => by omega) (fun _ => ⟨fun c => absurd c hcmp, fun _ => ⟨F64_n hm2, fun x4 h4 x6 h6 x7 h7 => ?_⟩⟩)
    have e6 : x6 = iI (B - ((j + 1 : Nat) : Int)) := by rw [h6, im1, iI_add]; congr 1; omega
    have e7 : x7 = iI ((j + 1 : Nat) : Int) := by rw [h7]; show iI j + iI 1 = _; rw [iI_add]; rfl
    rw [h4, e6, e7]
    exact ih (j + 1) _ (by omega) hm2
theorem F64_sh {a : UInt64} {m t : Nat} {e e' : Int} (h : F64 a m e) (he : e' = e - t) : F64 a (m * 2 ^ t) e' := by
  obtain ⟨c, q, a1, a2, a3⟩ := h
  refine ⟨c, q, a1, a2, VE_trans a3 ?_⟩
  unfold VE
  rw [show (e - e').toNat = t by omega, show (e' - e).toNat = 0 by omega, Nat.pow_zero, Nat.mul_one]
theorem m_in65 {z : Int} (z1 : -2147483648 ≤ z) (z2 : z < 2147483648) {Q : Int32 → Prop} (hT : 1 ≤ z → z ≤ 65535 → Q 1) (hF : ¬ (1 ≤ z ∧ z ≤ 65535) → Q 0) : wX9_in (iI z).toInt64 1 65535 Q := by
  rw [iI_l z1 z2]; exact m_in (a := 1) (b := 65535) (by omega) (by omega) (by omega) (by omega) (by omega) (by omega) hT hF

set_option maxHeartbeats 1000000 in
theorem s_29 {L : Nat} {xs : Nat → Int32} (hL : L ≤ 3072) {aP : Nat → Nat} {i : Int32} (hi0 : 0 ≤ i.toInt) (hi6 : i.toInt + 6 ≤ L) {t_generator_input : Int32} {t_program_width : Int32} {t_program_length : Int32} {t_program_result : Int32} {t_program_taskKind : Int32} {t_program_taskDivisor : Int32} {f_t_program_operations : Nat → Int32} {f_t_program_firsts : Nat → Int32} {f_t_program_seconds : Nat → Int32} {f_t_costs : Nat → Int32} {t_history_next : Int32} {t_history_kept : Int32} {f_t_machine_values : Nat → Int32} {f_t_machine_depths : Nat → Int32} {f_t_tidier_newNumbers : Nat → Int32} {f_t_tidier_needed : Nat → Int32} {t_listing_left : Int32} {t_listing_seen : Int32} {sW : Nat → Int32} {sL : Nat → Int32} {sR : Nat → Int32} {sK : Nat → Int32} {sD : Nat → Int32} {sO : Nat → Nat → Int32} {sF : Nat → Nat → Int32} {sS : Nat → Nat → Int32} {k_edits : Int32} {k_thrown : Int32} {k_outs : Int32} {f_k_v : Nat → Int32} {f_k_past : Nat → Int32} {f_k_costs : Nat → Int32} {f_k_into : Nat → Int32} {f_k_isNeeded : Nat → Int32} {f_k_depths : Nat → Int32} {f_k_names : Nat → Int32} {f_k_out : Nat → Int32} {f_k_has : Nat → Int64} {f_out : Nat → Int64} (hR : Rel t_generator_input t_program_width t_program_length t_program_result t_program_taskKind t_program_taskDivisor f_t_program_operations f_t_program_firsts f_t_program_seconds f_t_costs t_history_next t_history_kept f_t_machine_values f_t_machine_depths f_t_tidier_newNumbers f_t_tidier_needed t_listing_left t_listing_seen sW sL sR sK sD sO sF sS k_edits k_thrown k_outs f_k_v f_k_past f_k_costs f_k_into f_k_isNeeded f_k_depths f_k_names f_k_out f_k_has f_out) : wc_29 L xs aP i t_generator_input t_program_width t_program_length t_program_result t_program_taskKind t_program_taskDivisor f_t_program_operations f_t_program_firsts f_t_program_seconds f_t_costs t_history_next t_history_kept f_t_machine_values f_t_machine_depths f_t_tidier_newNumbers f_t_tidier_needed t_listing_left t_listing_seen sW sL sR sK sD sO sF sS k_edits k_thrown k_outs f_k_v f_k_past f_k_costs f_k_into f_k_isNeeded f_k_depths f_k_names f_k_out f_k_has f_out Rel := by
  have hR' := hR
  obtain ⟨gi, hcst, hnm, hd0, ⟨W, N, R, kd, dv, code⟩, nx, E, hs, hw, hc, hm, hx, hE8, hws, hch, hmh⟩ := hR
  have w4 : 4 ≤ W := hw.1
  have w16 : W ≤ 16 := hw.2.1
  have n40 : N ≤ 40 := hw.2.2.1
  have rN : R ≤ N := hw.2.2.2.1
  have tk : kd = -1 ∨ tsk W kd dv := hw.2.2.2.2.1
  have wfc : ∀ i, i < N → wfI W i (code i) := hw.2.2.2.2.2
  obtain ⟨p16, pm, ph⟩ := pw w4 w16
  have e1 : t_program_width = iI W := hc.1
  have e2 : t_program_length = iI N := hc.2.1
  have e3 : t_program_result = iI R := hc.2.2.1
  have e4 : t_program_taskKind = iI kd := hc.2.2.2.1
  have hd : kd ≠ -1 → t_program_taskDivisor = iI dv := hc.2.2.2.2.1
  have hcc : cCode N code f_t_program_operations f_t_program_firsts f_t_program_seconds := hc.2.2.2.2.2
  have hv0 : f_k_v 0 = iI W := hm.1
  have hv3 : f_k_v 3 = iI N := hm.2.1
  have hv4 : f_k_v 4 = iI R := hm.2.2.1
  have hv1 : f_k_v 1 = iI kd := hm.2.2.2.1
  have hv2 : kd ≠ -1 → f_k_v 2 = iI dv := hm.2.2.2.2.1
  have hmc : mCode N code f_k_v := hm.2.2.2.2.2
  have hpw := hPush_w hE8 hws hw
  subst e1 e2 e3 e4
  unfold wc_29
  refine ⟨ixl hL hi0 hi6 1 (by decide) (by decide), ?_⟩
  generalize xs (i + 1).toNatClampNeg = x
  obtain ⟨z, z1, z2, rfl⟩ := iI_of x
  unfold wL_floatReciprocal wX8_floatReciprocal wX9_floatReciprocal wX9_thrown wX9_fails
  refine c_req z 1 65535 (fun a b => ?_) (fun a => ?_)
  · obtain ⟨d, rfl⟩ : ∃ d : Nat, (d : Int) = z := ⟨z.toNat, by omega⟩
    have d1 : 1 ≤ d := by omega
    have d2 : d < 65536 := by omega
    obtain ⟨l1, l2, l3⟩ := lgU_ok d2
    obtain ⟨b0, b1, b2⟩ := rec_k (P := 23) d1 d2 (by decide) (by decide)
    have hr := F32_rec d1 d2
    have b2' : nrs (2 ^ (23 + lgU d)) d < 16777216 := b2
    have b1' : 8388608 ≤ nrs (2 ^ (23 + lgU d)) d := b1
    have h64 := F64_f2d hr (by omega) (by omega) (by omega)
    have e23 : iI ((23 : Nat) : Int) + iI (lgU d : Int) = iI ((23 + lgU d : Nat) : Int) := by rw [iI_add]; rfl
    refine ⟨F32_n hr, F64_n h64, ⟨_, c_bo9 (X := nrs (2 ^ (23 + lgU d)) d * 2 ^ 29) (F := 23) (L := lgU d) (B := 127) (Or.inl rfl) l3 (by decide) (by decide) (by omega) (by omega) ?_ (lgU d) 0 _ (Nat.zero_add _) (F64_sh h64 (by omega))⟩⟩
    refine ⟨in01, ixl hL hi0 hi6 1 (by decide) (by decide), m_in65 z1 z2 (fun _ _ => ⟨fun q => absurd q (by decide), fun _ => m_lg d2 ?_⟩) (fun q => absurd ⟨a, b⟩ q)⟩
    show wX9_reciprocal (iI ((23 : Nat) : Int) + iI (lgU d : Int)) _ _
    rw [e23]
    refine m_rec d1 d2 (by omega) b0 (m_lg d2 (end_ok ?_ hR'))
    rw [up00, lI_i]
    show (iI _).toInt64 = (((lI 127 - (iI (lgU d : Int)).toInt64) <<< ((iI ((23 : Nat) : Int)).toInt64 &&& 63)) + lI _ - lI 8388608).toInt32.toInt64
    rw [iI_l (z := (lgU d : Int)) (by omega) (by omega), lI_sub, lI_shl (by decide), lI_add, lI_sub, lI_i]
    congr 2
    rw [show nrs (2 ^ (23 + lgU d)) d * 2 ^ 29 / 2 ^ (52 - 23) = nrs (2 ^ (23 + lgU d)) d from Nat.mul_div_cancel _ (by decide)]
    have e2 : (2 : Int) ^ 23 = 8388608 := by decide
    rw [e2]
  · refine ⟨rfl, ixl hL hi0 hi6 1 (by decide) (by decide), m_in65 z1 z2 (fun a' b' => absurd ⟨a', b'⟩ a) (fun _ => ⟨fun _ => end_no (by decide) hR', fun q => absurd rfl q⟩)⟩

set_option maxHeartbeats 1000000 in
theorem s_30 {L : Nat} {xs : Nat → Int32} (hL : L ≤ 3072) {aP : Nat → Nat} {i : Int32} (hi0 : 0 ≤ i.toInt) (hi6 : i.toInt + 6 ≤ L) {t_generator_input : Int32} {t_program_width : Int32} {t_program_length : Int32} {t_program_result : Int32} {t_program_taskKind : Int32} {t_program_taskDivisor : Int32} {f_t_program_operations : Nat → Int32} {f_t_program_firsts : Nat → Int32} {f_t_program_seconds : Nat → Int32} {f_t_costs : Nat → Int32} {t_history_next : Int32} {t_history_kept : Int32} {f_t_machine_values : Nat → Int32} {f_t_machine_depths : Nat → Int32} {f_t_tidier_newNumbers : Nat → Int32} {f_t_tidier_needed : Nat → Int32} {t_listing_left : Int32} {t_listing_seen : Int32} {sW : Nat → Int32} {sL : Nat → Int32} {sR : Nat → Int32} {sK : Nat → Int32} {sD : Nat → Int32} {sO : Nat → Nat → Int32} {sF : Nat → Nat → Int32} {sS : Nat → Nat → Int32} {k_edits : Int32} {k_thrown : Int32} {k_outs : Int32} {f_k_v : Nat → Int32} {f_k_past : Nat → Int32} {f_k_costs : Nat → Int32} {f_k_into : Nat → Int32} {f_k_isNeeded : Nat → Int32} {f_k_depths : Nat → Int32} {f_k_names : Nat → Int32} {f_k_out : Nat → Int32} {f_k_has : Nat → Int64} {f_out : Nat → Int64} (hR : Rel t_generator_input t_program_width t_program_length t_program_result t_program_taskKind t_program_taskDivisor f_t_program_operations f_t_program_firsts f_t_program_seconds f_t_costs t_history_next t_history_kept f_t_machine_values f_t_machine_depths f_t_tidier_newNumbers f_t_tidier_needed t_listing_left t_listing_seen sW sL sR sK sD sO sF sS k_edits k_thrown k_outs f_k_v f_k_past f_k_costs f_k_into f_k_isNeeded f_k_depths f_k_names f_k_out f_k_has f_out) : wc_30 L xs aP i t_generator_input t_program_width t_program_length t_program_result t_program_taskKind t_program_taskDivisor f_t_program_operations f_t_program_firsts f_t_program_seconds f_t_costs t_history_next t_history_kept f_t_machine_values f_t_machine_depths f_t_tidier_newNumbers f_t_tidier_needed t_listing_left t_listing_seen sW sL sR sK sD sO sF sS k_edits k_thrown k_outs f_k_v f_k_past f_k_costs f_k_into f_k_isNeeded f_k_depths f_k_names f_k_out f_k_has f_out Rel := by
  have hR' := hR
  obtain ⟨gi, hcst, hnm, hd0, ⟨W, N, R, kd, dv, code⟩, nx, E, hs, hw, hc, hm, hx, hE8, hws, hch, hmh⟩ := hR
  have w4 : 4 ≤ W := hw.1
  have w16 : W ≤ 16 := hw.2.1
  have n40 : N ≤ 40 := hw.2.2.1
  have rN : R ≤ N := hw.2.2.2.1
  have tk : kd = -1 ∨ tsk W kd dv := hw.2.2.2.2.1
  have wfc : ∀ i, i < N → wfI W i (code i) := hw.2.2.2.2.2
  obtain ⟨p16, pm, ph⟩ := pw w4 w16
  have e1 : t_program_width = iI W := hc.1
  have e2 : t_program_length = iI N := hc.2.1
  have e3 : t_program_result = iI R := hc.2.2.1
  have e4 : t_program_taskKind = iI kd := hc.2.2.2.1
  have hd : kd ≠ -1 → t_program_taskDivisor = iI dv := hc.2.2.2.2.1
  have hcc : cCode N code f_t_program_operations f_t_program_firsts f_t_program_seconds := hc.2.2.2.2.2
  have hv0 : f_k_v 0 = iI W := hm.1
  have hv3 : f_k_v 3 = iI N := hm.2.1
  have hv4 : f_k_v 4 = iI R := hm.2.2.1
  have hv1 : f_k_v 1 = iI kd := hm.2.2.2.1
  have hv2 : kd ≠ -1 → f_k_v 2 = iI dv := hm.2.2.2.2.1
  have hmc : mCode N code f_k_v := hm.2.2.2.2.2
  have hpw := hPush_w hE8 hws hw
  subst e1 e2 e3 e4
  unfold wc_30
  refine ⟨ixl hL hi0 hi6 1 (by decide) (by decide), ?_⟩
  generalize xs (i + 1).toNatClampNeg = x
  obtain ⟨z, z1, z2, rfl⟩ := iI_of x
  unfold wL_doubleReciprocal wX8_doubleReciprocal wX9_doubleReciprocal wX9_thrown wX9_fails
  refine c_req z 1 65535 (fun a b => ?_) (fun a => ?_)
  · obtain ⟨d, rfl⟩ : ∃ d : Nat, (d : Int) = z := ⟨z.toNat, by omega⟩
    have d1 : 1 ≤ d := by omega
    have d2 : d < 65536 := by omega
    obtain ⟨l1, l2, l3⟩ := lgU_ok d2
    obtain ⟨b0, b1, b2⟩ := rec_k (P := 52) d1 d2 (by decide) (by decide)
    have hr := F64_rec d1 d2
    have b2' : nrs (2 ^ (52 + lgU d)) d < 9007199254740992 := b2
    have b1' : 4503599627370496 ≤ nrs (2 ^ (52 + lgU d)) d := b1
    have e52 : iI ((52 : Nat) : Int) + iI (lgU d : Int) = iI ((52 + lgU d : Nat) : Int) := by rw [iI_add]; rfl
    refine ⟨F64_n hr, ⟨_, c_bo9 (X := nrs (2 ^ (52 + lgU d)) d) (F := 52) (L := lgU d) (B := 1023) (Or.inr rfl) l3 (by decide) (by decide) b1' b2' ?_ (lgU d) 0 _ (Nat.zero_add _) (by rw [show -52 - (lgU d : Int) = -((52 + lgU d : Nat) : Int) by omega]; exact hr)⟩⟩
    refine ⟨in01, ixl hL hi0 hi6 1 (by decide) (by decide), m_in65 z1 z2 (fun _ _ => ⟨fun q => absurd q (by decide), fun _ => m_lg d2 ?_⟩) (fun q => absurd ⟨a, b⟩ q)⟩
    show wX9_reciprocal (iI ((52 : Nat) : Int) + iI (lgU d : Int)) _ _
    rw [e52]
    refine m_rec d1 d2 (by omega) b0 (m_lg d2 ?_)
    refine npow (k := 52) (by decide) (end_ok ?_ hR')
    rw [up00]
    show _ = ((lI 1023 - (iI (lgU d : Int)).toInt64) <<< ((iI ((52 : Nat) : Int)).toInt64 &&& 63)) + lI _ - lI _
    rw [iI_l (by omega) (by omega), lI_sub, lI_shl (by decide), lI_add, lI_sub]
    congr 2
    rw [show (52 - 52 : Nat) = 0 from rfl, Nat.pow_zero, Nat.div_one]
  · refine ⟨rfl, ixl hL hi0 hi6 1 (by decide) (by decide), m_in65 z1 z2 (fun a' b' => absurd ⟨a', b'⟩ a) (fun _ => ⟨fun _ => end_no (by decide) hR', fun q => absurd rfl q⟩)⟩
