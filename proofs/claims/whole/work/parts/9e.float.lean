/-! rounding: the nearest whole number -/
abbrev nrs : Nat → Nat → Nat := FP.Core.nearest
theorem nr_cases (A B : Nat) (hB : 0 < B) : (2 * (A % B) < B ∧ nrs A B = A / B) ∨ (B < 2 * (A % B) ∧ nrs A B = A / B + 1) ∨ (2 * (A % B) = B ∧ nrs A B = A / B + A / B % 2) := by
  show (_ ∧ FP.Core.nearest A B = _) ∨ (_ ∧ FP.Core.nearest A B = _) ∨ (_ ∧ FP.Core.nearest A B = _)
  unfold FP.Core.nearest
  split
  · exact Or.inl ⟨by assumption, rfl⟩
  · split
    · exact Or.inr (Or.inl ⟨by assumption, rfl⟩)
    · exact Or.inr (Or.inr ⟨by omega, rfl⟩)
theorem nr_err (A B : Nat) (hB : 0 < B) : 2 * (nrs A B * B) ≤ 2 * A + B ∧ 2 * A ≤ 2 * (nrs A B * B) + B := by
  have e := Nat.div_add_mod A B
  have hlt := Nat.mod_lt A hB
  rw [Nat.mul_comm] at e
  rcases nr_cases A B hB with ⟨h1, h2⟩ | ⟨h1, h2⟩ | ⟨h1, h2⟩
  · rw [h2]; omega
  · rw [h2, Nat.add_mul]; omega
  · rcases Nat.mod_two_eq_zero_or_one (A / B) with c | c
    · rw [h2, c, Nat.add_zero]; omega
    · rw [h2, c, Nat.add_mul]; omega
theorem nr_exact (M : Nat) {B : Nat} (hB : 0 < B) : nrs (M * B) B = M := by
  have hm : M * B % B = 0 := Nat.mul_mod_left _ _
  have hd : M * B / B = M := Nat.mul_div_cancel _ hB
  rcases nr_cases (M * B) B hB with ⟨h1, h2⟩ | ⟨h1, h2⟩ | ⟨h1, h2⟩
  · rw [h2, hd]
  · rw [hm] at h1; omega
  · rw [hm] at h1; omega
theorem nr_ge {A B M : Nat} (hB : 0 < B) (h : M * B ≤ A) : M ≤ nrs A B := by
  have h3 : M ≤ A / B := (Nat.le_div_iff_mul_le hB).mpr h
  rcases nr_cases A B hB with ⟨h1, h2⟩ | ⟨h1, h2⟩ | ⟨h1, h2⟩ <;> omega
theorem nr_le {A B M : Nat} (hB : 0 < B) (h : A ≤ M * B) : nrs A B ≤ M := by
  by_cases c : A = M * B
  · rw [c, nr_exact M hB]; exact Nat.le_refl _
  · have h3 : A / B < M := (Nat.div_lt_iff_lt_mul hB).mpr (by omega)
    rcases nr_cases A B hB with ⟨h1, h2⟩ | ⟨h1, h2⟩ | ⟨h1, h2⟩ <;> omega
theorem nr_sc (A B k : Nat) (hB : 0 < B) (hk : 0 < k) : nrs (A * k) (B * k) = nrs A B := by
  have hd : A * k / (B * k) = A / B := Nat.mul_div_mul_right _ _ hk
  have hm : A * k % (B * k) = A % B * k := Nat.mul_mod_mul_right _ _ _
  have c1 : 2 * (A % B * k) = 2 * (A % B) * k := (Nat.mul_assoc _ _ _).symm
  rcases nr_cases A B hB with ⟨h1, h2⟩ | ⟨h1, h2⟩ | ⟨h1, h2⟩ <;> rcases nr_cases (A * k) (B * k) (Nat.mul_pos hB hk) with ⟨g1, g2⟩ | ⟨g1, g2⟩ | ⟨g1, g2⟩ <;> rw [hm, c1] at g1 <;> rw [hd] at g2
  · rw [g2, h2]
  · have := Nat.mul_lt_mul_of_pos_right h1 hk; omega
  · have := Nat.mul_lt_mul_of_pos_right h1 hk; omega
  · have := Nat.mul_lt_mul_of_pos_right h1 hk; omega
  · rw [g2, h2]
  · have := Nat.mul_lt_mul_of_pos_right h1 hk; omega
  · rw [h1] at g1; omega
  · rw [h1] at g1; omega
  · rw [g2, h2]
/-! a number rounded to so many binary places -/
def sB (p x : Nat) : Nat := x.log2 + 1 - p
def RF (p x : Nat) : Nat := nrs x (2 ^ sB p x) * 2 ^ sB p x
theorem lg_eq {x k : Nat} (h1 : 2 ^ k ≤ x) (h2 : x < 2 ^ (k + 1)) : x.log2 = k := (Nat.log2_eq_iff (by have := Nat.two_pow_pos k; omega)).mpr ⟨h1, h2⟩
theorem lg_le {x : Nat} (h : 0 < x) : 2 ^ x.log2 ≤ x := Nat.log2_self_le (by omega)
theorem lg_lt (x : Nat) : x < 2 ^ (x.log2 + 1) := Nat.lt_log2_self
theorem lg_mul {x : Nat} (h : 0 < x) (t : Nat) : (x * 2 ^ t).log2 = x.log2 + t := by
  refine lg_eq ?_ ?_
  · rw [Nat.pow_add]; exact Nat.mul_le_mul_right _ (lg_le h)
  · rw [show x.log2 + t + 1 = x.log2 + 1 + t by omega, Nat.pow_add]; exact Nat.mul_lt_mul_of_pos_right (lg_lt x) (Nat.two_pow_pos t)
theorem lg_lt_of {x k : Nat} (h : x < 2 ^ k) (hx : 0 < x) : x.log2 < k := by
  refine Nat.lt_of_not_le (fun c => ?_)
  have h1 := lg_le hx
  have h2 := Nat.pow_le_pow_right (n := 2) (by decide) c
  omega
theorem RF_small {p x : Nat} (hp : 1 ≤ p) (h : x < 2 ^ p) : RF p x = x := by
  have h0 : sB p x = 0 := by
    unfold sB
    by_cases c : x = 0
    · rw [c, show Nat.log2 0 = 0 from rfl]; omega
    · have := lg_lt_of h (by omega); omega
  unfold RF
  rw [h0, Nat.pow_zero, Nat.mul_one]
  have := nr_exact x (B := 1) (by decide)
  rw [Nat.mul_one] at this; exact this
theorem RF_err (p x : Nat) : 2 * RF p x ≤ 2 * x + 2 ^ sB p x ∧ 2 * x ≤ 2 * RF p x + 2 ^ sB p x := nr_err x _ (Nat.two_pow_pos _)
theorem RF_scale {p x : Nat} (hp : 1 ≤ p) (t : Nat) : RF p (x * 2 ^ t) = RF p x * 2 ^ t := by
  by_cases hx : x = 0
  · subst hx
    have := Nat.two_pow_pos p
    rw [Nat.zero_mul, RF_small hp (by omega), Nat.zero_mul]
  have hx : 0 < x := by omega
  by_cases c : p ≤ x.log2 + 1
  · have e : sB p (x * 2 ^ t) = sB p x + t := by unfold sB; rw [lg_mul hx]; omega
    unfold RF
    rw [e, Nat.pow_add, nr_sc x (2 ^ sB p x) (2 ^ t) (Nat.two_pow_pos _) (Nat.two_pow_pos _), Nat.mul_assoc]
  · have hs : x < 2 ^ p := Nat.lt_of_lt_of_le (lg_lt x) (Nat.pow_le_pow_right (by decide) (by omega))
    rw [RF_small hp hs]
    have hle : sB p (x * 2 ^ t) ≤ t := by unfold sB; rw [lg_mul hx]; omega
    unfold RF
    have e : x * 2 ^ t = x * 2 ^ (t - sB p (x * 2 ^ t)) * 2 ^ sB p (x * 2 ^ t) := by
      rw [Nat.mul_assoc, ← Nat.pow_add]; congr 2; omega
    have h2 := nr_exact (x * 2 ^ (t - sB p (x * 2 ^ t))) (B := 2 ^ sB p (x * 2 ^ t)) (Nat.two_pow_pos _)
    rw [← e] at h2
    rw [h2, ← e]
/-! numbers of one value -/
def VE (c : Nat) (q : Int) (X : Nat) (e : Int) : Prop := c * 2 ^ (q - e).toNat = X * 2 ^ (e - q).toNat
theorem VE_iff {c X : Nat} {q e E : Int} (h1 : E ≤ q) (h2 : E ≤ e) : VE c q X e ↔ c * 2 ^ (q - E).toNat = X * 2 ^ (e - E).toNat := by
  unfold VE
  by_cases h : e ≤ q
  · rw [show (e - q).toNat = 0 by omega, show (q - E).toNat = (q - e).toNat + (e - E).toNat by omega, Nat.pow_add, ← Nat.mul_assoc, Nat.pow_zero, Nat.mul_one]
    constructor
    · intro a; rw [a]
    · intro a; exact Nat.mul_right_cancel (Nat.two_pow_pos _) a
  · rw [show (q - e).toNat = 0 by omega, show (e - E).toNat = (e - q).toNat + (q - E).toNat by omega, Nat.pow_add, ← Nat.mul_assoc, Nat.pow_zero, Nat.mul_one]
    constructor
    · intro a; rw [a]
    · intro a; exact Nat.mul_right_cancel (Nat.two_pow_pos _) a
theorem VE_refl (c : Nat) (q : Int) : VE c q c q := rfl
theorem VE_trans {a b c : Nat} {x y z : Int} (h1 : VE a x b y) (h2 : VE b y c z) : VE a x c z := by
  obtain ⟨E, e1, e2, e3⟩ : ∃ E : Int, E ≤ x ∧ E ≤ y ∧ E ≤ z := ⟨min x (min y z), by omega, by omega, by omega⟩
  exact (VE_iff e1 e3).mpr (((VE_iff e1 e2).mp h1).trans ((VE_iff e2 e3).mp h2))
theorem VE_symm {a b : Nat} {x y : Int} (h : VE a x b y) : VE b y a x := h.symm
theorem VE_mul {a b c d : Nat} {x y z w : Int} (h1 : VE a x b y) (h2 : VE c z d w) : VE (a * c) (x + z) (b * d) (y + w) := by
  obtain ⟨E, e1, e2⟩ : ∃ E : Int, E ≤ x ∧ E ≤ y := ⟨min x y, by omega, by omega⟩
  obtain ⟨G, g1, g2⟩ : ∃ G : Int, G ≤ z ∧ G ≤ w := ⟨min z w, by omega, by omega⟩
  refine (VE_iff (E := E + G) (by omega) (by omega)).mpr ?_
  have k1 := (VE_iff e1 e2).mp h1
  have k2 := (VE_iff g1 g2).mp h2
  rw [show (x + z - (E + G)).toNat = (x - E).toNat + (z - G).toNat by omega, show (y + w - (E + G)).toNat = (y - E).toNat + (w - G).toNat by omega, Nat.pow_add, Nat.pow_add, Nat.mul_mul_mul_comm, Nat.mul_mul_mul_comm b d, k1, k2]
theorem VE_RF {p : Nat} (hp : 1 ≤ p) {a b : Nat} {x y : Int} (h : VE a x b y) : VE (RF p a) x (RF p b) y := by
  unfold VE at h ⊢
  rw [← RF_scale hp, ← RF_scale hp, h]
theorem VE_lg {a b : Nat} {x y : Int} (ha : 0 < a) (h : VE a x b y) : (a.log2 : Int) + x = (b.log2 : Int) + y := by
  unfold VE at h
  have hb : 0 < b := by
    refine Nat.pos_of_ne_zero (fun c => ?_)
    rw [c, Nat.zero_mul] at h
    have := Nat.mul_pos ha (Nat.two_pow_pos (x - y).toNat)
    omega
  have h2 := congrArg Nat.log2 h
  rw [lg_mul ha, lg_mul hb] at h2
  omega
theorem VE_zero {a b : Nat} {x y : Int} (h : VE a x b y) : a = 0 ↔ b = 0 := by
  unfold VE at h
  have p1 := Nat.two_pow_pos (x - y).toNat
  have p2 := Nat.two_pow_pos (y - x).toNat
  constructor
  · intro c
    rw [c, Nat.zero_mul] at h
    exact Nat.eq_zero_of_not_pos (fun d => by have := Nat.mul_pos d p2; omega)
  · intro c
    rw [c, Nat.zero_mul] at h
    exact Nat.eq_zero_of_not_pos (fun d => by have := Nat.mul_pos d p1; omega)
/-- the whole part -/
theorem VE_floor {c X S : Nat} {q : Int} (h : VE c q X (-(S : Int))) : c * 2 ^ q.toNat / 2 ^ (-q).toNat = X / 2 ^ S := by
  obtain ⟨E, hE⟩ : ∃ E : Nat, -(E : Int) ≤ q ∧ S ≤ E := ⟨S + (-q).toNat, by omega, by omega⟩
  have k := (VE_iff (E := -(E : Int)) hE.1 (by omega)).mp h
  have a1 : X / 2 ^ S = X * 2 ^ (-(S : Int) - -(E : Int)).toNat / 2 ^ E := by
    rw [show (2 : Nat) ^ E = 2 ^ S * 2 ^ (-(S : Int) - -(E : Int)).toNat by rw [← Nat.pow_add]; congr 1; omega, Nat.mul_div_mul_right _ _ (Nat.two_pow_pos _)]
  rw [a1, ← k]
  by_cases d : 0 ≤ q
  · rw [show (-q).toNat = 0 by omega, Nat.pow_zero, Nat.div_one, show (q - -(E : Int)).toNat = q.toNat + E by omega, Nat.pow_add, ← Nat.mul_assoc, Nat.mul_div_cancel _ (Nat.two_pow_pos _)]
  · rw [show q.toNat = 0 by omega, Nat.pow_zero, Nat.mul_one, show (2 : Nat) ^ E = 2 ^ (-q).toNat * 2 ^ (q - -(E : Int)).toNat by rw [← Nat.pow_add]; congr 1; omega, Nat.mul_div_mul_right _ _ (Nat.two_pow_pos _)]
/-! rounding of the machine -/
abbrev fFin (c : Nat) (q : Int) : FP.Core.Datum := FP.Core.Datum.fin false c q
def Cn (f : FP.Core.Fmt) (c : Nat) (q : Int) : Prop := 2 ^ (f.p - 1) ≤ c ∧ c < 2 ^ f.p ∧ f.qmin ≤ q ∧ q ≤ f.qmax
theorem ld1 {x : Nat} (hx : 0 < x) : FP.Core.leading x 1 = (x.log2 : Int) := by
  unfold FP.Core.leading
  rw [show Nat.log2 1 = 0 from by decide]
  have h := lg_le hx
  show (if 1 * 2 ^ ((x.log2 : Int) - ((0 : Nat) : Int)).toNat ≤ x * 2 ^ (-((x.log2 : Int) - ((0 : Nat) : Int))).toNat then (x.log2 : Int) - ((0 : Nat) : Int) else _) = _
  rw [if_pos]
  · omega
  · rw [show ((x.log2 : Int) - ((0 : Nat) : Int)).toNat = x.log2 by omega, show (-((x.log2 : Int) - ((0 : Nat) : Int))).toNat = 0 by omega]; omega
theorem settle_ok {f : FP.Core.Fmt} (hp : 2 ≤ f.p) {c : Nat} {q e : Int} {Y : Nat} (h1 : 2 ^ (f.p - 1) ≤ c) (h2 : c ≤ 2 ^ f.p) (h3 : f.qmin ≤ q) (h4 : q + 1 ≤ f.qmax) (h : VE c q Y e) : ∃ c' q', FP.Core.settle f false c q = fFin c' q' ∧ Cn f c' q' ∧ VE c' q' Y e := by
  unfold FP.Core.settle FP.Core.bound FP.Core.Fmt.tails
  have e2 : 2 ^ f.p = 2 * 2 ^ (f.p - 1) := by rw [show f.p = (f.p - 1) + 1 by omega, Nat.pow_succ, Nat.mul_comm]; rfl
  by_cases c1 : c < 2 ^ f.p
  · rw [if_pos c1, if_pos (by omega)]
    exact ⟨c, q, rfl, ⟨h1, c1, h3, by omega⟩, h⟩
  · rw [if_neg c1, if_pos (by omega)]
    have hp2 := Nat.two_pow_pos (f.p - 1)
    refine ⟨_, _, rfl, ⟨Nat.le_refl _, by omega, by omega, h4⟩, VE_trans ?_ h⟩
    unfold VE
    rw [show (q + 1 - q).toNat = 1 by omega, show (q - (q + 1)).toNat = 0 by omega, show c = 2 * 2 ^ (f.p - 1) by omega]; omega
theorem rr_ok {f : FP.Core.Fmt} (hp : 2 ≤ f.p) {x : Nat} (hx : 0 < x) {e : Int} (h1 : f.qmin ≤ (x.log2 : Int) + e - ((f.p : Int) - 1)) (h2 : (x.log2 : Int) + e - ((f.p : Int) - 1) + 1 ≤ f.qmax) : ∃ c q, FP.Core.roundRatio f false x 1 e = fFin c q ∧ Cn f c q ∧ VE c q (RF f.p x) e := by
  have hlo := lg_le hx
  have hhi := lg_lt x
  unfold FP.Core.roundRatio FP.Core.roundAt FP.Core.quantum
  rw [if_neg (by omega), ld1 hx, show max f.qmin ((x.log2 : Int) + e - ((f.p : Int) - 1)) = (x.log2 : Int) + e - ((f.p : Int) - 1) by omega]
  unfold FP.Core.unitsNum FP.Core.unitsDen
  by_cases c : x.log2 + 1 ≤ f.p
  · obtain ⟨t, ht⟩ : ∃ t : Nat, x.log2 + t = f.p - 1 := ⟨f.p - 1 - x.log2, by omega⟩
    rw [show (e - ((x.log2 : Int) + e - ((f.p : Int) - 1))).toNat = t by omega, show ((x.log2 : Int) + e - ((f.p : Int) - 1) - e).toNat = 0 by omega, Nat.pow_zero, Nat.mul_one]
    have hn : FP.Core.nearest (x * 2 ^ t) 1 = x * 2 ^ t := by
      have := nr_exact (x * 2 ^ t) (B := 1) (by decide)
      rw [Nat.mul_one] at this; exact this
    rw [hn]
    have b1 : 2 ^ (f.p - 1) ≤ x * 2 ^ t := by rw [← ht, Nat.pow_add]; exact Nat.mul_le_mul_right _ hlo
    have b2 : x * 2 ^ t < 2 ^ f.p := by rw [show f.p = x.log2 + 1 + t by omega, Nat.pow_add]; exact Nat.mul_lt_mul_of_pos_right hhi (Nat.two_pow_pos t)
    refine settle_ok hp b1 (by omega) h1 h2 ?_
    rw [RF_small (by omega) (show x < 2 ^ f.p from Nat.lt_of_lt_of_le hhi (Nat.pow_le_pow_right (by decide) c))]
    unfold VE
    rw [show ((x.log2 : Int) + e - ((f.p : Int) - 1) - e).toNat = 0 by omega, show (e - ((x.log2 : Int) + e - ((f.p : Int) - 1))).toNat = t by omega, Nat.pow_zero, Nat.mul_one]
  · obtain ⟨s, hs⟩ : ∃ s : Nat, x.log2 = s + (f.p - 1) := ⟨x.log2 - (f.p - 1), by omega⟩
    have es : sB f.p x = s := by unfold sB; omega
    rw [show (e - ((x.log2 : Int) + e - ((f.p : Int) - 1))).toNat = 0 by omega, show ((x.log2 : Int) + e - ((f.p : Int) - 1) - e).toNat = s by omega, Nat.pow_zero, Nat.mul_one, Nat.one_mul]
    have b1 : 2 ^ (f.p - 1) ≤ FP.Core.nearest x (2 ^ s) := nr_ge (Nat.two_pow_pos s) (by rw [← Nat.pow_add, show f.p - 1 + s = x.log2 by omega]; exact hlo)
    have b2 : FP.Core.nearest x (2 ^ s) ≤ 2 ^ f.p := nr_le (Nat.two_pow_pos s) (by rw [← Nat.pow_add, show f.p + s = x.log2 + 1 by omega]; omega)
    refine settle_ok hp b1 b2 h1 h2 ?_
    unfold VE RF
    rw [es, show ((x.log2 : Int) + e - ((f.p : Int) - 1) - e).toNat = s by omega, show (e - ((x.log2 : Int) + e - ((f.p : Int) - 1))).toNat = 0 by omega, Nat.pow_zero, Nat.mul_one]
/-- zero, or written in full -/
def Cz (f : FP.Core.Fmt) (c : Nat) (q : Int) : Prop := Cn f c q ∨ (c = 0 ∧ q = f.qmin)
def okF (f : FP.Core.Fmt) : Prop := 2 ≤ f.p ∧ f.p ≤ 60 ∧ f.qmin ≤ -149 ∧ 104 ≤ f.qmax
theorem ok32 : okF FP.Core.b32 := by unfold okF; decide
theorem ok64 : okF FP.Core.b64 := by unfold okF; decide
theorem rd_ok {f : FP.Core.Fmt} (hf : okF f) {c X : Nat} {q e : Int} (h : VE c q X e) (hx : X < 2 ^ 80) (e1 : -80 ≤ e) (e2 : e ≤ 20) (hp : f.p = 24 ∨ f.p = 53) : ∃ c' q', FP.Core.round f (fFin c q) = fFin c' q' ∧ Cz f c' q' ∧ VE c' q' (RF f.p X) e := by
  obtain ⟨p2, p60, q1, q2⟩ := hf
  show ∃ c' q', FP.Core.roundRatio f false c 1 q = fFin c' q' ∧ _
  by_cases hc : c = 0
  · have hX := (VE_zero h).mp hc
    refine ⟨0, f.qmin, ?_, Or.inr ⟨rfl, rfl⟩, ?_⟩
    · unfold FP.Core.roundRatio; rw [if_pos hc]
    · rw [hX, RF_small (by omega) (Nat.two_pow_pos _)]; unfold VE; rw [Nat.zero_mul, Nat.zero_mul]
  · have hX : 0 < X := Nat.pos_of_ne_zero (fun d => hc ((VE_zero h).mpr d))
    have hl := VE_lg (by omega) h
    have hl2 := lg_lt_of hx hX
    obtain ⟨c', q', a1, a2, a3⟩ := rr_ok p2 (x := c) (e := q) (by omega) (by omega) (by omega)
    exact ⟨c', q', a1, Or.inl a2, VE_trans a3 (VE_RF (by omega) h)⟩
