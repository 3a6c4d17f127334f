/-! only multiples can go wrong -/
def near (A S d : Nat) : Prop := 262144 * (A * d) ≤ 262144 * 2 ^ S + 2 ^ S ∧ 262144 * 2 ^ S ≤ 262144 * (A * d) + 2 ^ S
theorem RF_rel {p : Nat} (hp : 24 ≤ p) (x : Nat) : 16777216 * RF p x ≤ 16777216 * x + x ∧ 16777216 * x ≤ 16777216 * RF p x + x := by
  by_cases c : sB p x = 0
  · by_cases hx : x = 0
    · rw [hx, RF_small (by omega) (Nat.two_pow_pos _)]; omega
    · have := sB_hi p x
      rw [c, Nat.pow_zero, Nat.div_one] at this
      rw [RF_small (by omega) this]; omega
  · obtain ⟨e1, e2⟩ := RF_err p x
    have hx : 0 < x := by
      refine Nat.pos_of_ne_zero (fun d => c ?_)
      rw [d]; unfold sB; rw [show Nat.log2 0 = 0 from rfl]; omega
    have h1 : 2 ^ sB p x * 2 ^ 23 ≤ x := by
      rw [← Nat.pow_add]
      exact Nat.le_trans (pl (by unfold sB at c ⊢; omega)) (lg_le hx)
    have e3 : (2 : Nat) ^ 23 = 8388608 := by decide
    rw [e3] at h1
    generalize 2 ^ sB p x = t at *
    omega
theorem RFlin {p A S d n : Nat} (hp : 24 ≤ p) (hv : near A S d) : 16777216 * (d * RF p (n * A)) ≤ 16777216 * (n * (A * d)) + n * (A * d) ∧ 16777216 * (n * (A * d)) ≤ 16777216 * (d * RF p (n * A)) + n * (A * d) ∧ 262144 * (n * (A * d)) ≤ 262144 * (n * 2 ^ S) + n * 2 ^ S ∧ 262144 * (n * 2 ^ S) ≤ 262144 * (n * (A * d)) + n * 2 ^ S := by
  obtain ⟨r1, r2⟩ := RF_rel hp (n * A)
  obtain ⟨v1, v2⟩ := hv
  have k1 := Nat.mul_le_mul_left d r1
  have k2 := Nat.mul_le_mul_left d r2
  have k3 := Nat.mul_le_mul_left n v1
  have k4 := Nat.mul_le_mul_left n v2
  rw [Nat.mul_add, Nat.mul_left_comm d, Nat.mul_left_comm d 16777216] at k1
  rw [Nat.mul_add, Nat.mul_left_comm d, Nat.mul_left_comm d 16777216] at k2
  rw [Nat.mul_add, Nat.mul_left_comm n, Nat.mul_left_comm n 262144] at k3
  rw [Nat.mul_add, Nat.mul_left_comm n, Nat.mul_left_comm n 262144] at k4
  have e : d * (n * A) = n * (A * d) := by rw [Nat.mul_comm, Nat.mul_assoc]
  rw [e] at k1 k2
  exact ⟨k1, k2, k3, k4⟩
theorem RFb {p A S d n : Nat} (hp : 24 ≤ p) (d1 : 1 ≤ d) (hv : near A S d) (hn : n ≤ 200000) : RF p (n * A) ≤ 2 * n * 2 ^ S := by
  obtain ⟨a1, a2, a3, a4⟩ := RFlin (p := p) (n := n) hp hv
  have h1 := Nat.mul_le_mul_right (RF p (n * A)) d1
  rw [Nat.mul_assoc]
  generalize n * 2 ^ S = X at *
  generalize d * RF p (n * A) = Y at *
  generalize n * (A * d) = Z at *
  omega
theorem RFgood {p A S d n : Nat} (hp : 24 ≤ p) (d1 : 1 ≤ d) (hv : near A S d) (hn : n ≤ 200000) (hm : n % d ≠ 0) : RF p (n * A) / 2 ^ S = n / d := by
  obtain ⟨a1, a2, a3, a4⟩ := RFlin (p := p) (n := n) hp hv
  have hM := Nat.two_pow_pos S
  have hX := Nat.mul_le_mul_right (2 ^ S) hn
  have hr : n % d < d := Nat.mod_lt _ d1
  have hdm := Nat.div_add_mod n d
  have eX : n * 2 ^ S = d * (n / d * 2 ^ S) + n % d * 2 ^ S := by
    rw [← Nat.mul_assoc, ← Nat.add_mul, hdm]
  have hr1 := Nat.mul_le_mul_right (2 ^ S) (show 1 ≤ n % d by omega)
  have hr2 := Nat.mul_le_mul_right (2 ^ S) (show n % d + 1 ≤ d by omega)
  rw [Nat.one_mul] at hr1
  rw [Nat.add_mul, Nat.one_mul] at hr2
  refine Nat.div_eq_of_lt_le ?_ ?_
  · refine Nat.le_of_not_lt (fun c => ?_)
    have k := Nat.mul_le_mul_left d (show RF p (n * A) + 1 ≤ n / d * 2 ^ S from c)
    rw [Nat.mul_add, Nat.mul_one] at k
    generalize n * 2 ^ S = X at *
    generalize d * RF p (n * A) = Y at *
    generalize n * (A * d) = Z at *
    generalize d * (n / d * 2 ^ S) = D at *
    generalize n % d * 2 ^ S = r at *
    omega
  · refine Nat.lt_of_not_le (fun c => ?_)
    have k := Nat.mul_le_mul_left d c
    rw [Nat.add_mul, Nat.one_mul, Nat.mul_add] at k
    generalize n * 2 ^ S = X at *
    generalize d * RF p (n * A) = Y at *
    generalize n * (A * d) = Z at *
    generalize d * (n / d * 2 ^ S) = D at *
    generalize n % d * 2 ^ S = r at *
    generalize d * 2 ^ S = dM at *
    omega
def gdP (p A S d : Nat) : Nat → Bool := fun n => decide (RF p (n * A) / 2 ^ S = n / d)
theorem fw_skip {P : Nat → Bool} : ∀ t m x : Nat, (∀ j, j < t → P (x + j) = true) → fwF P (m + t) x = fwF P m (x + t)
  | 0, m, x, h => rfl
  | t + 1, m, x, h => by
    show (if P x = true then fwF P (m + t) (x + 1) else (x : Int)) = _
    rw [if_pos (show P x = true from h 0 (by omega)), fw_skip t m (x + 1) (fun j hj => by rw [show x + 1 + j = x + (j + 1) by omega]; exact h (j + 1) (by omega)), show x + 1 + t = x + (t + 1) by omega]
theorem fw_all {P : Nat → Bool} : ∀ m x : Nat, (∀ j, j < m → P (x + j) = true) → fwF P m x = -1
  | 0, x, h => rfl
  | m + 1, x, h => by
    show (if P x = true then fwF P m (x + 1) else (x : Int)) = _
    rw [if_pos (show P x = true from h 0 (by omega)), fw_all m (x + 1) (fun j hj => by rw [show x + 1 + j = x + (j + 1) by omega]; exact h (j + 1) (by omega))]
theorem near_rec {d P : Nat} (d1 : 1 ≤ d) (d2 : d < 65536) (hP : 23 ≤ P) : near (nrs (2 ^ (P + lgU d)) d) (P + lgU d) d := by
  obtain ⟨l1, l2, l3⟩ := lgU_ok d2
  obtain ⟨e1, e2⟩ := nr_err (2 ^ (P + lgU d)) d d1
  have h1 : 8388608 * d ≤ 2 ^ (P + lgU d) := by
    rw [Nat.pow_add]
    exact Nat.mul_le_mul (pl hP) l1
  unfold near
  generalize 2 ^ (P + lgU d) = K at *
  omega

theorem c_ffm2 {r : UInt32} {A S d last : Nat} (hr : F32 r A (-(S : Int))) (hA : A < 16777217) (hS : S ≤ 80) (d1 : 1 ≤ d) (d2 : d < 65536) (hl : last ≤ 200000) (hv : near A S d) {Q : Int32 → Prop} : ∀ m q : Nat, q + m = last + 1 → q * d ≤ last + d → Q (iI (fwF (gdP 24 A S d) (last + 1 - q * d) (q * d))) → wX6_firstFloatMiss_2 r (iI d) (iI last) Q (m + 1) (iI q) := by
  have e80 : (2 : Nat) ^ 80 = 1208925819614629174706176 := by decide
  intro m
  induction m with
  | zero =>
    intro q hq hqd hQ
    rw [wX6_firstFloatMiss_2]
    have := Nat.mul_le_mul_left q d1
    rw [show last + 1 - q * d = 0 by omega] at hQ
    exact br_lt last q (fun _ => by rw [im1]; exact hQ) (fun c => by omega)
  | succ m ih =>
    intro q hq hqd hQ
    rw [wX6_firstFloatMiss_2]
    refine br_lt last q (fun c => by omega) (fun _ x hx => ?_)
    have ex : x = iI ((q * d : Nat) : Int) := by rw [hx, iI_mul]; rfl
    subst ex
    refine br_le ((q * d : Nat) : Int) last (fun c => ?_) (fun c => ?_)
    · have hn : q * d ≤ last := by omega
      have hAn := Nat.mul_le_mul (show q * d ≤ 200000 by omega) (show A ≤ 16777217 by omega)
      have hm := F32_mul (F32_i (n := q * d) (by omega)) hr (by omega) (by omega) (by omega)
      rw [Int.zero_add] at hm
      have hb := RFb (p := 24) (by decide) d1 hv (n := q * d) (by omega)
      have hdv : RF 24 (q * d * A) / 2 ^ S ≤ 2 * (q * d) := Nat.div_le_of_le_mul (by rw [Nat.mul_comm (2 ^ S)]; exact hb)
      have hq2 : q * d / d = q := Nat.mul_div_cancel _ d1
      refine ⟨F32_n hm, ?_⟩
      rw [F32_f2i hm (by omega)]
      generalize hg : RF 24 (q * d * A) / 2 ^ S = g at *
      obtain ⟨fu, hfu⟩ : ∃ fu, last + 1 - q * d = fu + 1 := ⟨last - q * d, by omega⟩
      rw [hfu, show fwF (gdP 24 A S d) (fu + 1) (q * d) = if gdP 24 A S d (q * d) = true then fwF (gdP 24 A S d) fu (q * d + 1) else ((q * d : Nat) : Int) from rfl] at hQ
      have hq3 : q ≤ q * d := by have := Nat.mul_le_mul_left q d1; omega
      refine br_eq (g : Int) q (fun e y hy => ?_) (fun e => ?_)
      · have ey : y = iI ((q + 1 : Nat) : Int) := by rw [hy]; show iI q + iI 1 = _; rw [iI_add]; rfl
        rw [if_pos (by unfold gdP; rw [hq2, hg]; exact decide_eq_true (by omega))] at hQ
        rw [ey]
        refine ih (q + 1) (by omega) (by rw [Nat.add_mul]; omega) ?_
        rw [Nat.add_mul, Nat.one_mul]
        have nonm : ∀ j, j < d - 1 → q * d + 1 + j ≤ last → gdP 24 A S d (q * d + 1 + j) = true := by
          intro j hj hjl
          unfold gdP
          refine decide_eq_true (RFgood (by decide) d1 hv (by omega) ?_)
          rw [show q * d + 1 + j = (1 + j) + d * q by rw [Nat.mul_comm]; omega, Nat.add_mul_mod_self_left, Nat.mod_eq_of_lt (by omega)]; omega
        by_cases c2 : d - 1 ≤ fu
        · have := fw_skip (P := gdP 24 A S d) (d - 1) (fu - (d - 1)) (q * d + 1) (fun j hj => nonm j hj (by omega))
          rw [show fu - (d - 1) + (d - 1) = fu by omega, show q * d + 1 + (d - 1) = q * d + d by omega] at this
          rw [this, show fu - (d - 1) = last + 1 - (q * d + d) by omega] at hQ
          exact hQ
        · rw [fw_all fu (q * d + 1) (fun j hj => nonm j (by omega) (by omega))] at hQ
          rw [show last + 1 - (q * d + d) = 0 by omega]
          exact hQ
      · rw [if_neg (by unfold gdP; rw [hq2, hg]; exact fun c => e (by have := of_decide_eq_true c; omega))] at hQ
        exact hQ
    · rw [show last + 1 - q * d = 0 by omega] at hQ
      rw [im1]; exact hQ
theorem c_ffm {r : UInt32} {A S d last : Nat} (hr : F32 r A (-(S : Int))) (hA : A < 16777217) (hS : S ≤ 80) (d1 : 1 ≤ d) (d2 : d < 65536) (hl : last ≤ 200000) (hv : near A S d) {Q : Int32 → Prop} (hQ : Q (iI (fwF (gdP 24 A S d) (last + 1) 0))) : wX6_firstFloatMiss r (iI d) (iI last) Q := by
  refine ⟨_, c_ffm2 hr hA hS d1 d2 hl hv (last + 1) 0 (Nat.zero_add _) (by rw [Nat.zero_mul]; omega) ?_⟩
  rw [Nat.zero_mul]; exact hQ

theorem c_fdm2 {r : UInt64} {A S d last : Nat} (hr : F64 r A (-(S : Int))) (hA : A < 9007199254740993) (hS : S ≤ 80) (d1 : 1 ≤ d) (d2 : d < 65536) (hl : last ≤ 200000) (hv : near A S d) {Q : Int32 → Prop} : ∀ m q : Nat, q + m = last + 1 → q * d ≤ last + d → Q (iI (fwF (gdP 53 A S d) (last + 1 - q * d) (q * d))) → wX6_firstDoubleMiss_3 r (iI d) (iI last) Q (m + 1) (iI q) := by
  have e80 : (2 : Nat) ^ 80 = 1208925819614629174706176 := by decide
  intro m
  induction m with
  | zero =>
    intro q hq hqd hQ
    rw [wX6_firstDoubleMiss_3]
    have := Nat.mul_le_mul_left q d1
    rw [show last + 1 - q * d = 0 by omega] at hQ
    exact br_lt last q (fun _ => by rw [im1]; exact hQ) (fun c => by omega)
  | succ m ih =>
    intro q hq hqd hQ
    rw [wX6_firstDoubleMiss_3]
    refine br_lt last q (fun c => by omega) (fun _ x hx => ?_)
    have ex : x = iI ((q * d : Nat) : Int) := by rw [hx, iI_mul]; rfl
    subst ex
    refine br_le ((q * d : Nat) : Int) last (fun c => ?_) (fun c => ?_)
    · have hn : q * d ≤ last := by omega
      have hAn := Nat.mul_le_mul (show q * d ≤ 200000 by omega) (show A ≤ 9007199254740993 by omega)
      have hm := F64_mul (F64_i (n := q * d) (by omega)) hr (by omega) (by omega) (by omega)
      rw [Int.zero_add] at hm
      have hb := RFb (p := 53) (by decide) d1 hv (n := q * d) (by omega)
      have hdv : RF 53 (q * d * A) / 2 ^ S ≤ 2 * (q * d) := Nat.div_le_of_le_mul (by rw [Nat.mul_comm (2 ^ S)]; exact hb)
      have hq2 : q * d / d = q := Nat.mul_div_cancel _ d1
      refine ⟨F64_n hm, ?_⟩
      rw [F64_d2i hm (by omega)]
      generalize hg : RF 53 (q * d * A) / 2 ^ S = g at *
      obtain ⟨fu, hfu⟩ : ∃ fu, last + 1 - q * d = fu + 1 := ⟨last - q * d, by omega⟩
      rw [hfu, show fwF (gdP 53 A S d) (fu + 1) (q * d) = if gdP 53 A S d (q * d) = true then fwF (gdP 53 A S d) fu (q * d + 1) else ((q * d : Nat) : Int) from rfl] at hQ
      have hq3 : q ≤ q * d := by have := Nat.mul_le_mul_left q d1; omega
      refine br_eq (g : Int) q (fun e y hy => ?_) (fun e => ?_)
      · have ey : y = iI ((q + 1 : Nat) : Int) := by rw [hy]; show iI q + iI 1 = _; rw [iI_add]; rfl
        rw [if_pos (by unfold gdP; rw [hq2, hg]; exact decide_eq_true (by omega))] at hQ
        rw [ey]
        refine ih (q + 1) (by omega) (by rw [Nat.add_mul]; omega) ?_
        rw [Nat.add_mul, Nat.one_mul]
        have nonm : ∀ j, j < d - 1 → q * d + 1 + j ≤ last → gdP 53 A S d (q * d + 1 + j) = true := by
          intro j hj hjl
          unfold gdP
          refine decide_eq_true (RFgood (by decide) d1 hv (by omega) ?_)
          rw [show q * d + 1 + j = (1 + j) + d * q by rw [Nat.mul_comm]; omega, Nat.add_mul_mod_self_left, Nat.mod_eq_of_lt (by omega)]; omega
        by_cases c2 : d - 1 ≤ fu
        · have := fw_skip (P := gdP 53 A S d) (d - 1) (fu - (d - 1)) (q * d + 1) (fun j hj => nonm j hj (by omega))
          rw [show fu - (d - 1) + (d - 1) = fu by omega, show q * d + 1 + (d - 1) = q * d + d by omega] at this
          rw [this, show fu - (d - 1) = last + 1 - (q * d + d) by omega] at hQ
          exact hQ
        · rw [fw_all fu (q * d + 1) (fun j hj => nonm j (by omega) (by omega))] at hQ
          rw [show last + 1 - (q * d + d) = 0 by omega]
          exact hQ
      · rw [if_neg (by unfold gdP; rw [hq2, hg]; exact fun c => e (by have := of_decide_eq_true c; omega))] at hQ
        exact hQ
    · rw [show last + 1 - q * d = 0 by omega] at hQ
      rw [im1]; exact hQ
theorem c_fdm {r : UInt64} {A S d last : Nat} (hr : F64 r A (-(S : Int))) (hA : A < 9007199254740993) (hS : S ≤ 80) (d1 : 1 ≤ d) (d2 : d < 65536) (hl : last ≤ 200000) (hv : near A S d) {Q : Int32 → Prop} (hQ : Q (iI (fwF (gdP 53 A S d) (last + 1) 0))) : wX6_firstDoubleMiss r (iI d) (iI last) Q := by
  refine ⟨_, c_fdm2 hr hA hS d1 d2 hl hv (last + 1) 0 (Nat.zero_add _) (by rw [Nat.zero_mul]; omega) ?_⟩
  rw [Nat.zero_mul]; exact hQ

/-! the reference's searches -/
theorem m_ffe {d k A : Nat} (d1 : 1 ≤ d) (d2 : d < 65536) (hk : k < 64) (hA : A < 16777217) (hv : near A k d) {Q : Int32 → Int32 → Prop} : ∀ m n : Nat, n + m = 200001 → Q (iI (fwF (gdP 24 A k d) m n)) 0 → wX9_firstFloatError_40 (iI d) Q (iI k) (lI A) (m + 1) (lI n)
  | 0, n, h, hQ => by
    rw [wX9_firstFloatError_40]
    exact nn_lt (a := 200000) (fun _ => by rw [im1]; exact hQ) (fun c => by omega) (by omega) (by omega)
  | m + 1, n, h, hQ => by
    have hAn := Nat.mul_le_mul (show n ≤ 200000 by omega) (show A ≤ 16777217 by omega)
    have hb := RFb (p := 24) (by decide) d1 hv (n := n) (by omega)
    have hdv : RF 24 (n * A) / 2 ^ k ≤ 2 * n := Nat.div_le_of_le_mul (by rw [Nat.mul_comm (2 ^ k)]; exact hb)
    have hrl := (RF_rel (p := 24) (by decide) (n * A)).1
    have hnd : n / d ≤ n := Nat.div_le_self _ _
    rw [wX9_firstFloatError_40, iI_l (z := (d : Int)) (by omega) (by omega), nmul]
    refine nn_lt (a := 200000) (fun c => by omega) (fun _ => m_rf (by omega) ⟨lI_ne0 (by omega) (by omega) (by omega), ?_⟩) (by omega) (by omega)
    rw [nshr hk (by omega), ndiv d1 (by omega) (by omega)]
    rw [show fwF (gdP 24 A k d) (m + 1) n = if gdP 24 A k d n = true then fwF (gdP 24 A k d) m (n + 1) else (n : Int) from rfl] at hQ
    refine nn_eq (fun c y hy => ?_) (fun c => ?_) (by omega) (by omega)
    · rw [if_pos (show gdP 24 A k d n = true from decide_eq_true c)] at hQ
      have e : y = lI ((n + 1 : Nat) : Int) := by rw [hy]; show _ + lI ((1 : Nat) : Int) = _; rw [nadd]
      rw [e]; exact m_ffe d1 d2 hk hA hv m (n + 1) (by omega) hQ
    · rw [if_neg (show ¬ gdP 24 A k d n = true from fun q => c (of_decide_eq_true q))] at hQ
      rw [lI_i]; exact hQ
theorem m_dq {n A k : Nat} (hn : n ≤ 200000) (hA : A < 9007199254740992) (hk1 : 52 ≤ k) (hk2 : k ≤ 70) {Q : Int64 → Prop} (hQ : Q (lI ((RF 53 (n * A) / 2 ^ k : Nat) : Int))) : wX9_doubleQuotient (lI n) (lI A) (iI k) Q := by
  have e26 : (2 : Nat) ^ 26 = 67108864 := by decide
  have hAn := Nat.mul_le_mul hn (show A ≤ 9007199254740992 by omega)
  have hA1 : A / 2 ^ 26 ≤ 134217728 := by rw [e26]; omega
  have hA2 : A % 2 ^ 26 < 67108864 := by rw [← e26]; exact Nat.mod_lt _ (by decide)
  have b1 := Nat.mul_le_mul hn hA1
  have b2 := Nat.mul_le_mul hn (show A % 2 ^ 26 ≤ 67108864 by omega)
  have hs : n * A = 2 ^ 26 * (n * (A / 2 ^ 26)) + n * (A % 2 ^ 26) := by
    have := Nat.div_add_mod A (2 ^ 26)
    rw [Nat.mul_left_comm, ← Nat.mul_add, this]
  have hH : n * A / 2 ^ 26 = n * (A / 2 ^ 26) + n * (A % 2 ^ 26) / 2 ^ 26 := by rw [hs, Nat.mul_add_div (by decide)]
  have hL : n * A % 2 ^ 26 = n * (A % 2 ^ 26) % 2 ^ 26 := by rw [hs, Nat.mul_add_mod]
  unfold wX9_doubleQuotient
  intro x5 h5 x7 h7
  have m26 : ∀ a : Nat, lI (a : Int) &&& 67108863 = lI ((a % 2 ^ 26 : Nat) : Int) := fun a => by
    show lI (a : Int) &&& lI (2 ^ 26 - 1) = _
    rw [nmask a (by decide)]
  have s26 : ∀ a : Nat, a < 9223372036854775808 → lI (a : Int) >>> ((26 : Int32).toInt64 &&& 63) = lI ((a / 2 ^ 26 : Nat) : Int) := fun a ha => by
    show lI (a : Int) >>> ((iI ((26 : Nat) : Int)).toInt64 &&& 63) = _
    rw [nshr (by decide) ha]
  have f5 : x5 = lI ((n * A / 2 ^ 26 : Nat) : Int) := by
    rw [h5, s26 A (by omega), m26, nmul, nmul, s26 _ (by omega), nadd, hH]
  have f7 : x7 = lI ((n * A % 2 ^ 26 : Nat) : Int) := by
    rw [h7, m26, nmul, m26, hL]
  rw [f5, f7]
  have hx71 : n * A < 2 ^ 71 := by
    have : (2 : Nat) ^ 71 = 2361183241434822606848 := by decide
    omega
  generalize n * A = x at *
  have hS : sB 53 x ≤ 18 := by
    unfold sB
    by_cases c : x = 0
    · rw [c, show Nat.log2 0 = 0 from rfl]; omega
    · have := lg_lt_of hx71 (by omega); omega
  have hHb : x / 2 ^ 26 < 2 ^ 45 := by
    rw [Nat.div_lt_iff_lt_mul (by decide), ← Nat.pow_add]; exact hx71
  have e45 : (2 : Nat) ^ 45 = 35184372088832 := by decide
  have ek : iI (k : Int) - 26 = iI ((k - 26 : Nat) : Int) := by show iI _ - iI 26 = _; rw [iI_sub]; congr 1; omega
  have dd : ∀ y : Nat, y / 2 ^ 26 / 2 ^ (k - 26) = y / 2 ^ k := fun y => by
    rw [Nat.div_div_eq_div_mul, ← Nat.pow_add, show 26 + (k - 26) = k by omega]
  have loop : ∀ m s : Nat, s + m = sB 53 x → wX9_doubleQuotient_35 (iI k) Q (lI ((x / 2 ^ 26 : Nat) : Int)) (lI ((x % 2 ^ 26 : Nat) : Int)) (m + 1) (iI s) := by
    intro m
    induction m with
    | zero =>
      intro s hs
      obtain rfl : s = sB 53 x := by omega
      have hlt := sB_hi 53 x
      have h18 := pl hS
      have e18 : (2 : Nat) ^ 18 = 262144 := by decide
      have hlt2 : x / 2 ^ 26 / 2 ^ sB 53 x < 134217728 := by
        rw [Nat.div_div_eq_div_mul, Nat.mul_comm, ← Nat.div_div_eq_div_mul, Nat.div_lt_iff_lt_mul (by decide)]
        exact hlt
      have hLb : x % 2 ^ 26 < 2 ^ 26 := Nat.mod_lt _ (by decide)
      rw [wX9_doubleQuotient_35, ek, nshr (by omega) (by omega)]
      refine nn_lt (b := 134217728) (fun _ => br_le (sB 53 x) 0 (fun c => ?_) (fun c => npow (by omega) (fun x10 h10 => ?_))) (fun c => by omega) (by omega) (by omega)
      · rw [nshr (by omega) (by omega), dd]
        rw [RF_small (by decide) (show x < 2 ^ 53 by rw [show sB 53 x = 0 by omega, Nat.pow_zero, Nat.div_one] at hlt; exact hlt)] at hQ
        exact hQ
      · have er : (x % 2 ^ 26) % 2 ^ sB 53 x = x % 2 ^ sB 53 x := Nat.mod_mod_of_dvd _ (Nat.pow_dvd_pow 2 (by omega))
        have eo : (x % 2 ^ 26) / 2 ^ sB 53 x % 2 = x / 2 ^ sB 53 x % 2 := by
          rw [show (2 : Nat) ^ 26 = 2 ^ sB 53 x * 2 ^ (26 - sB 53 x) by rw [← Nat.pow_add]; congr 1; omega, Nat.mod_mul_right_div_self, Nat.mod_mod_of_dvd _ (by
            have := Nat.pow_dvd_pow 2 (show 1 ≤ 26 - sB 53 x by omega)
            rw [Nat.pow_one] at this; exact this)]
        have f10 : x10 = lI ((x % 2 ^ sB 53 x : Nat) : Int) := by
          rw [h10, show lI ((2 ^ sB 53 x : Nat) : Int) - 1 = lI (2 ^ sB 53 x - 1) by show lI _ - lI 1 = _; rw [lI_sub, pwN], nmask _ (by omega), er]
        have fo : (lI ((x % 2 ^ 26 : Nat) : Int) >>> ((iI (sB 53 x : Int)).toInt64 &&& 63)) &&& 1 = lI ((x / 2 ^ sB 53 x % 2 : Nat) : Int) := by
          rw [nshr (by omega) (by omega), lI_m1, show (2 : Int) = ((2 : Nat) : Int) from rfl, ← Int.natCast_emod, eo]
        rw [fo, f10]
        have hrs : x % 2 ^ sB 53 x < 2 ^ sB 53 x := Nat.mod_lt _ (Nat.two_pow_pos _)
        have hle : x % 2 ^ sB 53 x ≤ x % 2 ^ 26 := by rw [← er]; exact Nat.mod_le _ _
        have hdm := Nat.div_add_mod x (2 ^ sB 53 x)
        have hdm2 := Nat.div_add_mod x (2 ^ 26)
        rw [Nat.mul_comm] at hdm
        have p2 : 2 ^ sB 53 x = 2 * 2 ^ (sB 53 x - 1) := by rw [show sB 53 x = sB 53 x - 1 + 1 by omega, Nat.pow_succ, Nat.mul_comm]; rfl
        have e1 : iI (sB 53 x : Int) - 1 = iI ((sB 53 x - 1 : Nat) : Int) := by show iI _ - iI 1 = _; rw [iI_sub]; congr 1; omega
        have hc := nr_cases x (2 ^ sB 53 x) (Nat.two_pow_pos _)
        have hRF : RF 53 x = nrs x (2 ^ sB 53 x) * 2 ^ sB 53 x := rfl
        have fin : ∀ (u : Nat), (RF 53 x = (x / 2 ^ sB 53 x) * 2 ^ sB 53 x + u) → u ≤ 262144 → wX9_doubleQuotient_143 (iI k) Q (lI ((x / 2 ^ 26 : Nat) : Int)) (lI ((x % 2 ^ 26 : Nat) : Int)) (lI ((x % 2 ^ sB 53 x : Nat) : Int)) (lI (u : Int)) := by
          intro u hu hu2 y7 g7 y5 g5
          have z7 : y7 = lI ((x % 2 ^ 26 + u - x % 2 ^ sB 53 x : Nat) : Int) := by rw [g7, lI_sub, lI_add]; congr 1; omega
          have z5 : y5 = lI ((x / 2 ^ 26 + (x % 2 ^ 26 + u - x % 2 ^ sB 53 x) / 2 ^ 26 : Nat) : Int) := by
            rw [g5, z7, s26 _ (by omega), nadd]
          have hsm : (x % 2 ^ 26 + u - x % 2 ^ sB 53 x) / 2 ^ 26 ≤ 2 := Nat.div_le_of_le_mul (by omega)
          rw [z5, ek, nshr (by omega) (by omega)]
          have hV : x / 2 ^ 26 + (x % 2 ^ 26 + u - x % 2 ^ sB 53 x) / 2 ^ 26 = RF 53 x / 2 ^ 26 := by
            rw [← Nat.mul_add_div (by decide : 2 ^ 26 > 0)]; congr 1; omega
          rw [hV, dd]; exact hQ
        have up : RF 53 x = (x / 2 ^ sB 53 x + 1) * 2 ^ sB 53 x → wX9_doubleQuotient_120 (iI k) Q (lI ((x / 2 ^ 26 : Nat) : Int)) (lI ((x % 2 ^ 26 : Nat) : Int)) (iI (sB 53 x : Int)) (lI ((x % 2 ^ sB 53 x : Nat) : Int)) := by
          intro h
          exact ⟨fun c => absurd c (by decide), fun _ => npow (by omega) (fin _ (by rw [h, Nat.add_mul, Nat.one_mul]) (by omega))⟩
        have dn : RF 53 x = (x / 2 ^ sB 53 x) * 2 ^ sB 53 x → wX9_doubleQuotient_124 (iI k) Q (lI ((x / 2 ^ 26 : Nat) : Int)) (lI ((x % 2 ^ 26 : Nat) : Int)) (iI (sB 53 x : Int)) (lI ((x % 2 ^ sB 53 x : Nat) : Int)) := by
          intro h
          exact ⟨fun _ => fin 0 (by rw [h]; rfl) (by omega), fun c => absurd rfl c⟩
        have mid : ∀ y : Int32, (y = 0 → x / 2 ^ sB 53 x % 2 = 0) → (¬ y = 0 → x / 2 ^ sB 53 x % 2 = 1) → wX9_doubleQuotient_87 (iI k) Q (lI ((x / 2 ^ 26 : Nat) : Int)) (lI ((x % 2 ^ 26 : Nat) : Int)) (iI (sB 53 x : Int)) (lI ((x % 2 ^ sB 53 x : Nat) : Int)) y := by
          intro y y0 y1
          unfold wX9_doubleQuotient_87
          rw [e1]
          refine npow (by omega) (nn_lt (fun c1 => up ?_) (fun c1 => npow (by omega) (nn_eq (fun c2 => ⟨fun c3 => dn ?_, fun c3 => up ?_⟩) (fun c2 => dn ?_) (by omega) (by omega))) (by omega) (by omega))
          · rcases hc with ⟨h1, h2⟩ | ⟨h1, h2⟩ | ⟨h1, h2⟩
            · omega
            · rw [hRF, h2]
            · omega
          · rcases hc with ⟨h1, h2⟩ | ⟨h1, h2⟩ | ⟨h1, h2⟩
            · omega
            · omega
            · rw [hRF, h2, y0 c3, Nat.add_zero]
          · rcases hc with ⟨h1, h2⟩ | ⟨h1, h2⟩ | ⟨h1, h2⟩
            · omega
            · omega
            · rw [hRF, h2, y1 c3]
          · rcases hc with ⟨h1, h2⟩ | ⟨h1, h2⟩ | ⟨h1, h2⟩
            · rw [hRF, h2]
            · omega
            · omega
        exact nn_eq (b := 1) (fun c1 => mid 1 (fun q => absurd q (by decide)) (fun _ => c1)) (fun c1 => mid 0 (fun _ => by omega) (fun q => absurd rfl q)) (by omega) (by omega)
    | succ m ih =>
      intro s hs
      have hx0 : 0 < x := by
        refine Nat.pos_of_ne_zero (fun c => ?_)
        rw [c] at hs
        have : sB 53 0 = 0 := rfl
        omega
      have hlo := sB_lo hx0 (show s < sB 53 x by omega)
      have hlo2 : 134217728 ≤ x / 2 ^ 26 / 2 ^ s := by
        rw [Nat.div_div_eq_div_mul, Nat.mul_comm, ← Nat.div_div_eq_div_mul, Nat.le_div_iff_mul_le (by decide)]
        exact hlo
      have hle : x / 2 ^ 26 / 2 ^ s ≤ x / 2 ^ 26 := Nat.div_le_self _ _
      rw [wX9_doubleQuotient_35, nshr (by omega) (by omega)]
      refine nn_lt (b := 134217728) (fun c => by omega) (fun _ y hy => ?_) (by omega) (by omega)
      have e : y = iI ((s + 1 : Nat) : Int) := by rw [hy]; show iI s + iI 1 = _; rw [iI_add]; rfl
      rw [e]; exact ih (s + 1) (by omega)
  exact ⟨_, loop (sB 53 x) 0 (Nat.zero_add _)⟩
theorem m_fde {d k A : Nat} (d1 : 1 ≤ d) (d2 : d < 65536) (hk1 : 52 ≤ k) (hk2 : k ≤ 70) (hA : A < 9007199254740992) (hv : near A k d) {Q : Int32 → Int32 → Prop} : ∀ m n : Nat, n + m = 200001 → Q (iI (fwF (gdP 53 A k d) m n)) 0 → wX9_firstDoubleError_40 (iI d) Q (iI k) (lI A) (m + 1) (lI n)
  | 0, n, h, hQ => by
    rw [wX9_firstDoubleError_40]
    exact nn_lt (a := 200000) (fun _ => by rw [im1]; exact hQ) (fun c => by omega) (by omega) (by omega)
  | m + 1, n, h, hQ => by
    have hb := RFb (p := 53) (by decide) d1 hv (n := n) (by omega)
    have hdv : RF 53 (n * A) / 2 ^ k ≤ 2 * n := Nat.div_le_of_le_mul (by rw [Nat.mul_comm (2 ^ k)]; exact hb)
    have hnd : n / d ≤ n := Nat.div_le_self _ _
    rw [wX9_firstDoubleError_40, iI_l (z := (d : Int)) (by omega) (by omega)]
    refine nn_lt (a := 200000) (fun c => by omega) (fun _ => m_dq (by omega) hA hk1 hk2 ⟨lI_ne0 (by omega) (by omega) (by omega), ?_⟩) (by omega) (by omega)
    rw [ndiv d1 (by omega) (by omega)]
    rw [show fwF (gdP 53 A k d) (m + 1) n = if gdP 53 A k d n = true then fwF (gdP 53 A k d) m (n + 1) else (n : Int) from rfl] at hQ
    refine nn_eq (fun c y hy => ?_) (fun c => ?_) (by omega) (by omega)
    · rw [if_pos (show gdP 53 A k d n = true from decide_eq_true c)] at hQ
      have e : y = lI ((n + 1 : Nat) : Int) := by rw [hy]; show _ + lI ((1 : Nat) : Int) = _; rw [nadd]
      rw [e]; exact m_fde d1 d2 hk1 hk2 hA hv m (n + 1) (by omega) hQ
    · rw [if_neg (show ¬ gdP 53 A k d n = true from fun q => c (of_decide_eq_true q))] at hQ
      rw [lI_i]; exact hQ

set_option maxHeartbeats 1000000 in
theorem s_31 {L : Nat} {xs : Nat → Int32} (hL : L ≤ 3072) {aP : Nat → Nat} {i : Int32} (hi0 : 0 ≤ i.toInt) (hi6 : i.toInt + 6 ≤ L) {t_generator_input : Int32} {t_program_width : Int32} {t_program_length : Int32} {t_program_result : Int32} {t_program_taskKind : Int32} {t_program_taskDivisor : Int32} {f_t_program_operations : Nat → Int32} {f_t_program_firsts : Nat → Int32} {f_t_program_seconds : Nat → Int32} {f_t_costs : Nat → Int32} {t_history_next : Int32} {t_history_kept : Int32} {f_t_machine_values : Nat → Int32} {f_t_machine_depths : Nat → Int32} {f_t_tidier_newNumbers : Nat → Int32} {f_t_tidier_needed : Nat → Int32} {t_listing_left : Int32} {t_listing_seen : Int32} {sW : Nat → Int32} {sL : Nat → Int32} {sR : Nat → Int32} {sK : Nat → Int32} {sD : Nat → Int32} {sO : Nat → Nat → Int32} {sF : Nat → Nat → Int32} {sS : Nat → Nat → Int32} {k_edits : Int32} {k_thrown : Int32} {k_outs : Int32} {f_k_v : Nat → Int32} {f_k_past : Nat → Int32} {f_k_costs : Nat → Int32} {f_k_into : Nat → Int32} {f_k_isNeeded : Nat → Int32} {f_k_depths : Nat → Int32} {f_k_names : Nat → Int32} {f_k_out : Nat → Int32} {f_k_has : Nat → Int64} {f_out : Nat → Int64} (hR : Rel t_generator_input t_program_width t_program_length t_program_result t_program_taskKind t_program_taskDivisor f_t_program_operations f_t_program_firsts f_t_program_seconds f_t_costs t_history_next t_history_kept f_t_machine_values f_t_machine_depths f_t_tidier_newNumbers f_t_tidier_needed t_listing_left t_listing_seen sW sL sR sK sD sO sF sS k_edits k_thrown k_outs f_k_v f_k_past f_k_costs f_k_into f_k_isNeeded f_k_depths f_k_names f_k_out f_k_has f_out) : wc_31 L xs aP i t_generator_input t_program_width t_program_length t_program_result t_program_taskKind t_program_taskDivisor f_t_program_operations f_t_program_firsts f_t_program_seconds f_t_costs t_history_next t_history_kept f_t_machine_values f_t_machine_depths f_t_tidier_newNumbers f_t_tidier_needed t_listing_left t_listing_seen sW sL sR sK sD sO sF sS k_edits k_thrown k_outs f_k_v f_k_past f_k_costs f_k_into f_k_isNeeded f_k_depths f_k_names f_k_out f_k_has f_out Rel := by
  have hR' := hR
  obtain ⟨gi, hcst, hnm, hd0, ⟨W, N, R, kd, dv, code⟩, nx, E, hs, hw, hc, hm, hx, hE8, hws, hch, hmh⟩ := hR
  have w4 : 4 ≤ W := hw.1
  have w16 : W ≤ 16 := hw.2.1
  have n40 : N ≤ 40 := hw.2.2.1
  have rN : R ≤ N := hw.2.2.2.1
  have tk : kd = -1 ∨ tsk W kd dv := hw.2.2.2.2.1
  have wfc : ∀ i, i < N → wfI W i (code i) := hw.2.2.2.2.2
  obtain ⟨p16, pm, ph⟩ := pw w4 w16
  have e1 : t_program_width = iI W := hc.1
  have e2 : t_program_length = iI N := hc.2.1
  have e3 : t_program_result = iI R := hc.2.2.1
  have e4 : t_program_taskKind = iI kd := hc.2.2.2.1
  have hd : kd ≠ -1 → t_program_taskDivisor = iI dv := hc.2.2.2.2.1
  have hcc : cCode N code f_t_program_operations f_t_program_firsts f_t_program_seconds := hc.2.2.2.2.2
  have hv0 : f_k_v 0 = iI W := hm.1
  have hv3 : f_k_v 3 = iI N := hm.2.1
  have hv4 : f_k_v 4 = iI R := hm.2.2.1
  have hv1 : f_k_v 1 = iI kd := hm.2.2.2.1
  have hv2 : kd ≠ -1 → f_k_v 2 = iI dv := hm.2.2.2.2.1
  have hmc : mCode N code f_k_v := hm.2.2.2.2.2
  have hpw := hPush_w hE8 hws hw
  subst e1 e2 e3 e4
  unfold wc_31
  refine ⟨ixl hL hi0 hi6 1 (by decide) (by decide), ?_⟩
  generalize xs (i + 1).toNatClampNeg = x
  obtain ⟨z, z1, z2, rfl⟩ := iI_of x
  unfold wL_firstFloatError wX8_firstFloatError wX9_firstFloatError wX9_thrown wX9_fails
  refine c_req z 1 65535 (fun a b => ?_) (fun a => ?_)
  · obtain ⟨d, rfl⟩ : ∃ d : Nat, (d : Int) = z := ⟨z.toNat, by omega⟩
    have d1 : 1 ≤ d := by omega
    have d2 : d < 65536 := by omega
    obtain ⟨l1, l2, l3⟩ := lgU_ok d2
    obtain ⟨b0, b1, b2⟩ := rec_k (P := 23) d1 d2 (by decide) (by decide)
    have hr := F32_rec d1 d2
    have hv := near_rec (P := 23) d1 d2 (by decide)
    have b2' : nrs (2 ^ (23 + lgU d)) d < 16777216 := b2
    have eP : iI ((23 : Nat) : Int) + iI (lgU d : Int) = iI ((23 + lgU d : Nat) : Int) := by rw [iI_add]; rfl
    refine ⟨F32_n hr, c_ffm (last := 200000) hr (by omega) (by omega) d1 d2 (by omega) hv ?_⟩
    refine ⟨in01, ixl hL hi0 hi6 1 (by decide) (by decide), m_in65 z1 z2 (fun _ _ => ⟨fun q => absurd q (by decide), fun _ => m_lg d2 (fun x2 hx2 => ?_)⟩) (fun q => absurd ⟨a, b⟩ q)⟩
    have ex : x2 = iI ((23 + lgU d : Nat) : Int) := by rw [hx2]; exact eP
    subst ex
    exact m_rec d1 d2 (by omega) b0 ⟨_, m_ffe d1 d2 (by omega) (by omega) hv 200001 0 rfl (end_ok (by rw [up00]) hR')⟩
  · refine ⟨rfl, ixl hL hi0 hi6 1 (by decide) (by decide), m_in65 z1 z2 (fun a' b' => absurd ⟨a', b'⟩ a) (fun _ => ⟨fun _ => end_no (by decide) hR', fun q => absurd rfl q⟩)⟩

set_option maxHeartbeats 1000000 in
theorem s_32 {L : Nat} {xs : Nat → Int32} (hL : L ≤ 3072) {aP : Nat → Nat} {i : Int32} (hi0 : 0 ≤ i.toInt) (hi6 : i.toInt + 6 ≤ L) {t_generator_input : Int32} {t_program_width : Int32} {t_program_length : Int32} {t_program_result : Int32} {t_program_taskKind : Int32} {t_program_taskDivisor : Int32} {f_t_program_operations : Nat → Int32} {f_t_program_firsts : Nat → Int32} {f_t_program_seconds : Nat → Int32} {f_t_costs : Nat → Int32} {t_history_next : Int32} {t_history_kept : Int32} {f_t_machine_values : Nat → Int32} {f_t_machine_depths : Nat → Int32} {f_t_tidier_newNumbers : Nat → Int32} {f_t_tidier_needed : Nat → Int32} {t_listing_left : Int32} {t_listing_seen : Int32} {sW : Nat → Int32} {sL : Nat → Int32} {sR : Nat → Int32} {sK : Nat → Int32} {sD : Nat → Int32} {sO : Nat → Nat → Int32} {sF : Nat → Nat → Int32} {sS : Nat → Nat → Int32} {k_edits : Int32} {k_thrown : Int32} {k_outs : Int32} {f_k_v : Nat → Int32} {f_k_past : Nat → Int32} {f_k_costs : Nat → Int32} {f_k_into : Nat → Int32} {f_k_isNeeded : Nat → Int32} {f_k_depths : Nat → Int32} {f_k_names : Nat → Int32} {f_k_out : Nat → Int32} {f_k_has : Nat → Int64} {f_out : Nat → Int64} (hR : Rel t_generator_input t_program_width t_program_length t_program_result t_program_taskKind t_program_taskDivisor f_t_program_operations f_t_program_firsts f_t_program_seconds f_t_costs t_history_next t_history_kept f_t_machine_values f_t_machine_depths f_t_tidier_newNumbers f_t_tidier_needed t_listing_left t_listing_seen sW sL sR sK sD sO sF sS k_edits k_thrown k_outs f_k_v f_k_past f_k_costs f_k_into f_k_isNeeded f_k_depths f_k_names f_k_out f_k_has f_out) : wc_32 L xs aP i t_generator_input t_program_width t_program_length t_program_result t_program_taskKind t_program_taskDivisor f_t_program_operations f_t_program_firsts f_t_program_seconds f_t_costs t_history_next t_history_kept f_t_machine_values f_t_machine_depths f_t_tidier_newNumbers f_t_tidier_needed t_listing_left t_listing_seen sW sL sR sK sD sO sF sS k_edits k_thrown k_outs f_k_v f_k_past f_k_costs f_k_into f_k_isNeeded f_k_depths f_k_names f_k_out f_k_has f_out Rel := by
  have hR' := hR
  obtain ⟨gi, hcst, hnm, hd0, ⟨W, N, R, kd, dv, code⟩, nx, E, hs, hw, hc, hm, hx, hE8, hws, hch, hmh⟩ := hR
  have w4 : 4 ≤ W := hw.1
  have w16 : W ≤ 16 := hw.2.1
  have n40 : N ≤ 40 := hw.2.2.1
  have rN : R ≤ N := hw.2.2.2.1
  have tk : kd = -1 ∨ tsk W kd dv := hw.2.2.2.2.1
  have wfc : ∀ i, i < N → wfI W i (code i) := hw.2.2.2.2.2
  obtain ⟨p16, pm, ph⟩ := pw w4 w16
  have e1 : t_program_width = iI W := hc.1
  have e2 : t_program_length = iI N := hc.2.1
  have e3 : t_program_result = iI R := hc.2.2.1
  have e4 : t_program_taskKind = iI kd := hc.2.2.2.1
  have hd : kd ≠ -1 → t_program_taskDivisor = iI dv := hc.2.2.2.2.1
  have hcc : cCode N code f_t_program_operations f_t_program_firsts f_t_program_seconds := hc.2.2.2.2.2
  have hv0 : f_k_v 0 = iI W := hm.1
  have hv3 : f_k_v 3 = iI N := hm.2.1
  have hv4 : f_k_v 4 = iI R := hm.2.2.1
  have hv1 : f_k_v 1 = iI kd := hm.2.2.2.1
  have hv2 : kd ≠ -1 → f_k_v 2 = iI dv := hm.2.2.2.2.1
  have hmc : mCode N code f_k_v := hm.2.2.2.2.2
  have hpw := hPush_w hE8 hws hw
  subst e1 e2 e3 e4
  unfold wc_32
  refine ⟨ixl hL hi0 hi6 1 (by decide) (by decide), ?_⟩
  generalize xs (i + 1).toNatClampNeg = x
  obtain ⟨z, z1, z2, rfl⟩ := iI_of x
  unfold wL_firstDoubleError wX8_firstDoubleError wX9_firstDoubleError wX9_thrown wX9_fails
  refine c_req z 1 65535 (fun a b => ?_) (fun a => ?_)
  · obtain ⟨d, rfl⟩ : ∃ d : Nat, (d : Int) = z := ⟨z.toNat, by omega⟩
    have d1 : 1 ≤ d := by omega
    have d2 : d < 65536 := by omega
    obtain ⟨l1, l2, l3⟩ := lgU_ok d2
    obtain ⟨b0, b1, b2⟩ := rec_k (P := 52) d1 d2 (by decide) (by decide)
    have hr := F64_rec d1 d2
    have hv := near_rec (P := 52) d1 d2 (by decide)
    have b2' : nrs (2 ^ (52 + lgU d)) d < 9007199254740992 := b2
    have eP : iI ((52 : Nat) : Int) + iI (lgU d : Int) = iI ((52 + lgU d : Nat) : Int) := by rw [iI_add]; rfl
    refine ⟨F64_n hr, c_fdm (last := 200000) hr (by omega) (by omega) d1 d2 (by omega) hv ?_⟩
    refine ⟨in01, ixl hL hi0 hi6 1 (by decide) (by decide), m_in65 z1 z2 (fun _ _ => ⟨fun q => absurd q (by decide), fun _ => m_lg d2 (fun x2 hx2 => ?_)⟩) (fun q => absurd ⟨a, b⟩ q)⟩
    have ex : x2 = iI ((52 + lgU d : Nat) : Int) := by rw [hx2]; exact eP
    subst ex
    exact m_rec d1 d2 (by omega) b0 ⟨_, m_fde d1 d2 (by omega) (by omega) (by omega) hv 200001 0 rfl (end_ok (by rw [up00]) hR')⟩
  · refine ⟨rfl, ixl hL hi0 hi6 1 (by decide) (by decide), m_in65 z1 z2 (fun a' b' => absurd ⟨a', b'⟩ a) (fun _ => ⟨fun _ => end_no (by decide) hR', fun q => absurd rfl q⟩)⟩
