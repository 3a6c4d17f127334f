/-! floats and doubles by their values -/
def v32 (a : UInt32) : FP.Core.Datum := FP.Core.decode FP.Core.b32 a.toNat
def v64 (a : UInt64) : FP.Core.Datum := FP.Core.decode FP.Core.b64 a.toNat
theorem de32 {c : Nat} {q : Int} (h : Cz FP.Core.b32 c q) : v32 (UInt32.ofNat (FP.Core.encode FP.Core.b32 (fFin c q))) = fFin c q := by
  rcases h with ⟨h1, h2, h3, h4⟩ | ⟨rfl, rfl⟩
  · have h1 : 8388608 ≤ c := h1
    have h2 : c < 16777216 := h2
    have h3 : -149 ≤ q := h3
    have h4 : q ≤ 104 := h4
    obtain ⟨E, hE⟩ : ∃ E : Nat, (E : Int) = q + 150 := ⟨(q + 150).toNat, by omega⟩
    have en : FP.Core.encode FP.Core.b32 (fFin c q) = E * 8388608 + (c - 8388608) := by
      show (if c < 8388608 then FP.Core.assemble FP.Core.b32 false 0 c else FP.Core.assemble FP.Core.b32 false ((q - (-149)).toNat + 1) (c - 8388608)) = _
      rw [if_neg (by omega)]
      show (0 * 256 + ((q - (-149)).toNat + 1)) * 8388608 + (c - 8388608) = _
      rw [show (q - (-149)).toNat + 1 = E by omega]; omega
    have nt : (UInt32.ofNat (E * 8388608 + (c - 8388608))).toNat = E * 8388608 + (c - 8388608) := UInt32.toNat_ofNat_of_lt' (show E * 8388608 + (c - 8388608) < 4294967296 by omega)
    rw [en]
    unfold v32
    rw [nt]
    generalize hn : E * 8388608 + (c - 8388608) = n
    have f1 : n / 8388608 % 256 = E := by omega
    have f2 : n % 8388608 = c - 8388608 := by omega
    have f3 : n / 8388608 / 256 % 2 = 0 := by omega
    show (if n / 8388608 % 256 = 256 - 1 then (if n % 8388608 = 0 then FP.Core.Datum.inf (n / 8388608 / 256 % 2 == 1) else FP.Core.Datum.nan) else if n / 8388608 % 256 = 0 then FP.Core.Datum.fin (n / 8388608 / 256 % 2 == 1) (n % 8388608) (-149) else FP.Core.Datum.fin (n / 8388608 / 256 % 2 == 1) (8388608 + n % 8388608) (-149 + (((n / 8388608 % 256 : Nat) : Int) - 1))) = _
    rw [f1, f2, f3, if_neg (by omega), if_neg (by omega), show 8388608 + (c - 8388608) = c by omega, show -149 + ((E : Int) - 1) = q by omega]
    rfl
  · decide +kernel
theorem de64 {c : Nat} {q : Int} (h : Cz FP.Core.b64 c q) : v64 (UInt64.ofNat (FP.Core.encode FP.Core.b64 (fFin c q))) = fFin c q := by
  rcases h with ⟨h1, h2, h3, h4⟩ | ⟨rfl, rfl⟩
  · have h1 : 4503599627370496 ≤ c := h1
    have h2 : c < 9007199254740992 := h2
    have h3 : -1074 ≤ q := h3
    have h4 : q ≤ 971 := h4
    obtain ⟨E, hE⟩ : ∃ E : Nat, (E : Int) = q + 1075 := ⟨(q + 1075).toNat, by omega⟩
    have en : FP.Core.encode FP.Core.b64 (fFin c q) = E * 4503599627370496 + (c - 4503599627370496) := by
      show (if c < 4503599627370496 then FP.Core.assemble FP.Core.b64 false 0 c else FP.Core.assemble FP.Core.b64 false ((q - (-1074)).toNat + 1) (c - 4503599627370496)) = _
      rw [if_neg (by omega)]
      show (0 * 2048 + ((q - (-1074)).toNat + 1)) * 4503599627370496 + (c - 4503599627370496) = _
      rw [show (q - (-1074)).toNat + 1 = E by omega]; omega
    have nt : (UInt64.ofNat (E * 4503599627370496 + (c - 4503599627370496))).toNat = E * 4503599627370496 + (c - 4503599627370496) := UInt64.toNat_ofNat_of_lt' (show E * 4503599627370496 + (c - 4503599627370496) < 18446744073709551616 by omega)
    rw [en]
    unfold v64
    rw [nt]
    generalize hn : E * 4503599627370496 + (c - 4503599627370496) = n
    have f1 : n / 4503599627370496 % 2048 = E := by omega
    have f2 : n % 4503599627370496 = c - 4503599627370496 := by omega
    have f3 : n / 4503599627370496 / 2048 % 2 = 0 := by omega
    show (if n / 4503599627370496 % 2048 = 2048 - 1 then (if n % 4503599627370496 = 0 then FP.Core.Datum.inf (n / 4503599627370496 / 2048 % 2 == 1) else FP.Core.Datum.nan) else if n / 4503599627370496 % 2048 = 0 then FP.Core.Datum.fin (n / 4503599627370496 / 2048 % 2 == 1) (n % 4503599627370496) (-1074) else FP.Core.Datum.fin (n / 4503599627370496 / 2048 % 2 == 1) (4503599627370496 + n % 4503599627370496) (-1074 + (((n / 4503599627370496 % 2048 : Nat) : Int) - 1))) = _
    rw [f1, f2, f3, if_neg (by omega), if_neg (by omega), show 4503599627370496 + (c - 4503599627370496) = c by omega, show -1074 + ((E : Int) - 1) = q by omega]
    rfl
  · decide +kernel
theorem vf32 {a : UInt32} {c : Nat} {q : Int} (h : v32 a = fFin c q) : vf_n32 a := by
  have hn : a.toNat < 4294967296 := a.toNat_lt
  have hE : a.toNat / 8388608 % 256 ≠ 255 := by
    intro e
    have h2 : (if a.toNat / 8388608 % 256 = 256 - 1 then (if a.toNat % 8388608 = 0 then FP.Core.Datum.inf (a.toNat / 8388608 / 256 % 2 == 1) else FP.Core.Datum.nan) else if a.toNat / 8388608 % 256 = 0 then FP.Core.Datum.fin (a.toNat / 8388608 / 256 % 2 == 1) (a.toNat % 8388608) (-149) else FP.Core.Datum.fin (a.toNat / 8388608 / 256 % 2 == 1) (8388608 + a.toNat % 8388608) (-149 + (((a.toNat / 8388608 % 256 : Nat) : Int) - 1))) = fFin c q := h
    rw [if_pos e] at h2
    split at h2 <;> exact FP.Core.Datum.noConfusion h2
  unfold vf_n32
  rw [UInt32.le_iff_toNat_le, UInt32.toNat_and]
  show a.toNat &&& (2 ^ 31 - 1) ≤ 2139095040
  rw [Nat.and_two_pow_sub_one_eq_mod]; omega
theorem vf64 {a : UInt64} {c : Nat} {q : Int} (h : v64 a = fFin c q) : vf_n64 a := by
  have hn : a.toNat < 18446744073709551616 := a.toNat_lt
  have hE : a.toNat / 4503599627370496 % 2048 ≠ 2047 := by
    intro e
    have h2 : (if a.toNat / 4503599627370496 % 2048 = 2048 - 1 then (if a.toNat % 4503599627370496 = 0 then FP.Core.Datum.inf (a.toNat / 4503599627370496 / 2048 % 2 == 1) else FP.Core.Datum.nan) else if a.toNat / 4503599627370496 % 2048 = 0 then FP.Core.Datum.fin (a.toNat / 4503599627370496 / 2048 % 2 == 1) (a.toNat % 4503599627370496) (-1074) else FP.Core.Datum.fin (a.toNat / 4503599627370496 / 2048 % 2 == 1) (4503599627370496 + a.toNat % 4503599627370496) (-1074 + (((a.toNat / 4503599627370496 % 2048 : Nat) : Int) - 1))) = fFin c q := h
    rw [if_pos e] at h2
    split at h2 <;> exact FP.Core.Datum.noConfusion h2
  unfold vf_n64
  rw [UInt64.le_iff_toNat_le, UInt64.toNat_and]
  show a.toNat &&& (2 ^ 63 - 1) ≤ 9218868437227405312
  rw [Nat.and_two_pow_sub_one_eq_mod]; omega
def F32 (a : UInt32) (A : Nat) (e : Int) : Prop := ∃ c q, v32 a = fFin c q ∧ Cz FP.Core.b32 c q ∧ VE c q A e
def F64 (a : UInt64) (A : Nat) (e : Int) : Prop := ∃ c q, v64 a = fFin c q ∧ Cz FP.Core.b64 c q ∧ VE c q A e
theorem F32_n {a : UInt32} {A : Nat} {e : Int} (h : F32 a A e) : vf_n32 a := by obtain ⟨c, q, h1, -, -⟩ := h; exact vf32 h1
theorem F64_n {a : UInt64} {A : Nat} {e : Int} (h : F64 a A e) : vf_n64 a := by obtain ⟨c, q, h1, -, -⟩ := h; exact vf64 h1
theorem F32_mul {a b : UInt32} {A B : Nat} {e1 e2 : Int} (ha : F32 a A e1) (hb : F32 b B e2) (hX : A * B < 2 ^ 80) (l1 : -80 ≤ e1 + e2) (l2 : e1 + e2 ≤ 20) : F32 (FP.fmul a b) (RF 24 (A * B)) (e1 + e2) := by
  obtain ⟨c1, q1, a1, a2, a3⟩ := ha
  obtain ⟨c2, q2, b1, b2, b3⟩ := hb
  obtain ⟨c', q', r1, r2, r3⟩ := rd_ok ok32 (VE_mul a3 b3) hX l1 l2 (Or.inl rfl)
  refine ⟨c', q', ?_, r2, r3⟩
  show v32 (UInt32.ofNat (FP.Core.encode FP.Core.b32 (FP.Core.round FP.Core.b32 (FP.Core.exactProduct (v32 a) (v32 b))))) = _
  rw [a1, b1]
  show v32 (UInt32.ofNat (FP.Core.encode FP.Core.b32 (FP.Core.round FP.Core.b32 (fFin (c1 * c2) (q1 + q2))))) = _
  rw [r1]; exact de32 r2
theorem F64_mul {a b : UInt64} {A B : Nat} {e1 e2 : Int} (ha : F64 a A e1) (hb : F64 b B e2) (hX : A * B < 2 ^ 80) (l1 : -80 ≤ e1 + e2) (l2 : e1 + e2 ≤ 20) : F64 (FP.dmul a b) (RF 53 (A * B)) (e1 + e2) := by
  obtain ⟨c1, q1, a1, a2, a3⟩ := ha
  obtain ⟨c2, q2, b1, b2, b3⟩ := hb
  obtain ⟨c', q', r1, r2, r3⟩ := rd_ok ok64 (VE_mul a3 b3) hX l1 l2 (Or.inr rfl)
  refine ⟨c', q', ?_, r2, r3⟩
  show v64 (UInt64.ofNat (FP.Core.encode FP.Core.b64 (FP.Core.round FP.Core.b64 (FP.Core.exactProduct (v64 a) (v64 b))))) = _
  rw [a1, b1]
  show v64 (UInt64.ofNat (FP.Core.encode FP.Core.b64 (FP.Core.round FP.Core.b64 (fFin (c1 * c2) (q1 + q2))))) = _
  rw [r1]; exact de64 r2
theorem ofI (n : Nat) : FP.Core.ofInt (n : Int) = fFin n 0 := by
  unfold FP.Core.ofInt
  rw [decide_eq_false (by omega), Int.natAbs_natCast]
theorem F32_i {n : Nat} (h : n < 16777216) : F32 (FP.i2f (iI n)) n 0 := by
  obtain ⟨c', q', r1, r2, r3⟩ := rd_ok (X := n) ok32 (VE_refl n 0) (by omega) (by omega) (by omega) (Or.inl rfl)
  refine ⟨c', q', ?_, r2, ?_⟩
  · show v32 (UInt32.ofNat (FP.Core.encode FP.Core.b32 (FP.Core.round FP.Core.b32 (FP.Core.ofInt (iI n).toInt)))) = _
    rw [iI_t (by omega) (by omega), ofI, r1]; exact de32 r2
  · rw [show RF FP.Core.b32.p n = n from RF_small (by decide) h] at r3; exact r3
theorem F64_i {n : Nat} (h : n < 16777216) : F64 (FP.i2d (iI n)) n 0 := by
  obtain ⟨c', q', r1, r2, r3⟩ := rd_ok (X := n) ok64 (VE_refl n 0) (by omega) (by omega) (by omega) (Or.inr rfl)
  refine ⟨c', q', ?_, r2, ?_⟩
  · show v64 (UInt64.ofNat (FP.Core.encode FP.Core.b64 (FP.Core.round FP.Core.b64 (FP.Core.ofInt (iI n).toInt)))) = _
    rw [iI_t (by omega) (by omega), ofI, r1]; exact de64 r2
  · rw [show RF FP.Core.b64.p n = n from RF_small (by decide) (show n < 2 ^ 53 by omega)] at r3; exact r3
theorem F64_f2d {a : UInt32} {A : Nat} {e : Int} (h : F32 a A e) (hA : A < 16777217) (l1 : -80 ≤ e) (l2 : e ≤ 20) : F64 (FP.f2d a) A e := by
  obtain ⟨c, q, a1, a2, a3⟩ := h
  obtain ⟨c', q', r1, r2, r3⟩ := rd_ok ok64 a3 (by omega) l1 l2 (Or.inr rfl)
  refine ⟨c', q', ?_, r2, ?_⟩
  · have hn : FP.Core.fIsNaN a = false := by
      show decide (v32 a = FP.Core.Datum.nan) = false
      rw [a1]; rfl
    show v64 (if FP.Core.fIsNaN a = true then FP.nanF2D a else FP.Core.f2d a) = _
    rw [hn, if_neg (by decide)]
    show v64 (UInt64.ofNat (FP.Core.encode FP.Core.b64 (FP.Core.round FP.Core.b64 (v32 a)))) = _
    rw [a1, r1]; exact de64 r2
  · rw [show RF FP.Core.b64.p A = A from RF_small (by decide) (show A < 2 ^ 53 by omega)] at r3; exact r3
/-! the reciprocal -/
def lgF (d : Nat) : Nat → Nat → Nat
  | 0, L => L
  | m + 1, L => if d ≤ 2 ^ L then L else lgF d m (L + 1)
abbrev lgU (d : Nat) : Nat := lgF d 16 0
theorem lgF_ok {d : Nat} : ∀ m L, d ≤ 2 ^ (L + m) → (L = 0 ∨ 2 ^ (L - 1) < d) → d ≤ 2 ^ lgF d m L ∧ (lgF d m L = 0 ∨ 2 ^ (lgF d m L - 1) < d) ∧ lgF d m L ≤ L + m
  | 0, L, h1, h2 => ⟨h1, h2, Nat.le_refl _⟩
  | m + 1, L, h1, h2 => by
    unfold lgF
    split
    · exact ⟨by assumption, h2, by omega⟩
    · rename_i c
      obtain ⟨a, b, e⟩ := lgF_ok m (L + 1) (by rw [show L + 1 + m = L + (m + 1) by omega]; exact h1) (Or.inr (by rw [Nat.add_sub_cancel]; omega))
      exact ⟨a, b, by omega⟩
theorem lgU_ok {d : Nat} (h : d < 65536) : d ≤ 2 ^ lgU d ∧ (lgU d = 0 ∨ 2 ^ (lgU d - 1) < d) ∧ lgU d ≤ 16 := by
  obtain ⟨a, b, c⟩ := lgF_ok (d := d) 16 0 (by show d ≤ 65536; omega) (Or.inl rfl)
  exact ⟨a, b, by have : lgF d 16 0 ≤ 0 + 16 := c; show lgF d 16 0 ≤ 16; omega⟩
theorem rec_b {d L P : Nat} (d1 : 1 ≤ d) (h1 : d ≤ 2 ^ L) (h2 : L = 0 ∨ 2 ^ (L - 1) < d) (hP : d < 2 ^ P) : 2 ^ P ≤ nrs (2 ^ (P + L)) d ∧ nrs (2 ^ (P + L)) d < 2 ^ (P + 1) := by
  have e2 : 2 ^ (P + 1) = 2 * 2 ^ P := by rw [Nat.pow_succ, Nat.mul_comm]
  have hp := Nat.two_pow_pos P
  refine ⟨nr_ge d1 (by rw [Nat.pow_add]; exact Nat.mul_le_mul_left _ h1), ?_⟩
  have : nrs (2 ^ (P + L)) d ≤ 2 ^ (P + 1) - 1 := by
    refine nr_le d1 ?_
    rcases h2 with h2 | h2
    · rw [h2, Nat.add_zero]
      have := Nat.mul_le_mul_left (2 ^ (P + 1) - 1) d1
      omega
    · by_cases c : L = 0
      · rw [c, Nat.add_zero]
        have := Nat.mul_le_mul_left (2 ^ (P + 1) - 1) d1
        omega
      · have e3 : 2 ^ (P + L) = 2 ^ (P + 1) * 2 ^ (L - 1) := by rw [← Nat.pow_add]; congr 1; omega
        have k := Nat.mul_le_mul_left (2 ^ (P + 1)) (show 2 ^ (L - 1) ≤ d - 1 by omega)
        rw [Nat.mul_sub, Nat.mul_one] at k
        rw [e3, Nat.sub_mul, Nat.one_mul]
        omega
  omega
theorem quo_ok {f : FP.Core.Fmt} (hf : okF f) (hp : f.p = 24 ∨ f.p = 53) {d L : Nat} (d1 : 1 ≤ d) (d2 : d < 65536) (h1 : d ≤ 2 ^ L) (h2 : L = 0 ∨ 2 ^ (L - 1) < d) (hL : L ≤ 16) {c : Nat} {q : Int} (hc : Cz f c q) (hv : VE c q d 0) : ∃ c' q', FP.Core.quotient f (fFin (2 ^ (f.p - 1)) (-((f.p : Int) - 1))) (fFin c q) = fFin c' q' ∧ Cn f c' q' ∧ VE c' q' (nrs (2 ^ (f.p - 1 + L)) d) (-((f.p - 1 + L : Nat) : Int)) := by
  obtain ⟨p2, p60, q1, q2⟩ := hf
  have c0 : c ≠ 0 := fun e => by have := (VE_zero hv).mp e; omega
  obtain ⟨n1, n2, n3, n4⟩ : Cn f c q := hc.resolve_right (fun e => c0 e.1)
  have hlc : c.log2 = f.p - 1 := lg_eq n1 (by rw [show f.p - 1 + 1 = f.p by omega]; exact n2)
  have hlg := VE_lg (by omega) hv
  have hd1 := lg_le d1
  have hd2 := lg_lt d
  have hdl : d.log2 < 16 := lg_lt_of (show d < 2 ^ 16 by omega) d1
  obtain ⟨t, ht⟩ : ∃ t : Nat, q = -(t : Int) := ⟨(-q).toNat, by omega⟩
  have ht2 : d.log2 + t = f.p - 1 := by omega
  have hcd : c = d * 2 ^ t := by
    unfold VE at hv
    rw [ht, show (-(t : Int) - 0).toNat = 0 by omega, show (0 - -(t : Int)).toNat = t by omega, Nat.pow_zero, Nat.mul_one] at hv
    exact hv
  show ∃ c' q', (if c = 0 then _ else FP.Core.roundRatio f false (2 ^ (f.p - 1)) c (-((f.p : Int) - 1) - q)) = fFin c' q' ∧ _
  rw [if_neg c0]
  have hA := Nat.two_pow_pos (f.p - 1)
  have hld : FP.Core.leading (2 ^ (f.p - 1)) c = (d.log2 : Int) - (L : Int) := by
    unfold FP.Core.leading
    rw [hlc, show Nat.log2 (2 ^ (f.p - 1)) = f.p - 1 from lg_eq (Nat.le_refl _) (by rw [Nat.pow_succ]; omega)]
    show (if c * 2 ^ (((f.p - 1 : Nat) : Int) - ((f.p - 1 : Nat) : Int)).toNat ≤ 2 ^ (f.p - 1) * 2 ^ (-(((f.p - 1 : Nat) : Int) - ((f.p - 1 : Nat) : Int))).toNat then ((f.p - 1 : Nat) : Int) - ((f.p - 1 : Nat) : Int) else ((f.p - 1 : Nat) : Int) - ((f.p - 1 : Nat) : Int) - 1) = _
    rw [Int.sub_self, show (0 : Int).toNat = 0 from rfl, show (-(0 : Int)).toNat = 0 from rfl, Nat.pow_zero, Nat.mul_one, Nat.mul_one]
    by_cases e : d = 2 ^ L
    · have hlL : d.log2 = L := by rw [e]; exact lg_eq (Nat.le_refl _) (by have := Nat.two_pow_pos L; rw [Nat.pow_succ]; omega)
      rw [if_pos (by rw [hcd, e, ← Nat.pow_add, show L + t = f.p - 1 by omega]; exact Nat.le_refl _)]; omega
    · have hL1 : L ≠ 0 := fun e0 => by rw [e0, Nat.pow_zero] at h1 e; omega
      have h2' : 2 ^ (L - 1) < d := h2.resolve_left hL1
      have hlL : d.log2 = L - 1 := lg_eq (by omega) (by rw [show L - 1 + 1 = L by omega]; omega)
      rw [if_neg (by
        have := Nat.mul_lt_mul_of_pos_right h2' (Nat.two_pow_pos t)
        rw [← Nat.pow_add, show L - 1 + t = f.p - 1 by omega, ← hcd] at this
        omega)]
      omega
  unfold FP.Core.roundRatio FP.Core.roundAt FP.Core.quantum
  rw [if_neg (by omega), hld]
  have hq : max f.qmin ((d.log2 : Int) - (L : Int) + (-((f.p : Int) - 1) - q) - ((f.p : Int) - 1)) = -((f.p - 1 + L : Nat) : Int) := by omega
  rw [hq]
  unfold FP.Core.unitsNum FP.Core.unitsDen
  rw [show (-((f.p : Int) - 1) - q - -((f.p - 1 + L : Nat) : Int)).toNat = L + t by omega, show (-((f.p - 1 + L : Nat) : Int) - (-((f.p : Int) - 1) - q)).toNat = 0 by omega, Nat.pow_zero, Nat.mul_one, hcd, Nat.pow_add 2 L t, ← Nat.mul_assoc, ← Nat.pow_add]
  have hn : FP.Core.nearest (2 ^ (f.p - 1 + L) * 2 ^ t) (d * 2 ^ t) = nrs (2 ^ (f.p - 1 + L)) d := nr_sc _ _ _ d1 (Nat.two_pow_pos t)
  rw [hn]
  obtain ⟨b1, b2⟩ := rec_b (P := f.p - 1) d1 h1 h2 (Nat.lt_of_lt_of_le (show d < 2 ^ 16 by omega) (Nat.pow_le_pow_right (by decide) (by omega)))
  rw [show f.p - 1 + 1 = f.p by omega] at b2
  exact settle_ok p2 b1 (by omega) (by omega) (by omega) (VE_refl _ _)
theorem one32 : v32 FP.fconst1 = fFin (2 ^ 23) (-23) := by decide +kernel
theorem one64 : v64 FP.dconst1 = fFin (2 ^ 52) (-52) := by decide +kernel
theorem F32_rec {d : Nat} (d1 : 1 ≤ d) (d2 : d < 65536) : F32 (FP.fdiv FP.fconst1 (FP.i2f (iI d))) (nrs (2 ^ (23 + lgU d)) d) (-((23 + lgU d : Nat) : Int)) := by
  obtain ⟨l1, l2, l3⟩ := lgU_ok d2
  obtain ⟨c, q, a1, a2, a3⟩ := F32_i (n := d) (by omega)
  obtain ⟨c', q', r1, r2, r3⟩ := quo_ok ok32 (Or.inl rfl) d1 d2 l1 l2 l3 a2 a3
  refine ⟨c', q', ?_, Or.inl r2, r3⟩
  show v32 (UInt32.ofNat (FP.Core.encode FP.Core.b32 (FP.Core.quotient FP.Core.b32 (v32 FP.fconst1) (v32 (FP.i2f (iI d)))))) = _
  rw [one32, a1]
  have r1 : FP.Core.quotient FP.Core.b32 (fFin (2 ^ 23) (-23)) (fFin c q) = fFin c' q' := r1
  rw [r1]; exact de32 (Or.inl r2)
theorem F64_rec {d : Nat} (d1 : 1 ≤ d) (d2 : d < 65536) : F64 (FP.ddiv FP.dconst1 (FP.i2d (iI d))) (nrs (2 ^ (52 + lgU d)) d) (-((52 + lgU d : Nat) : Int)) := by
  obtain ⟨l1, l2, l3⟩ := lgU_ok d2
  obtain ⟨c, q, a1, a2, a3⟩ := F64_i (n := d) (by omega)
  obtain ⟨c', q', r1, r2, r3⟩ := quo_ok ok64 (Or.inr rfl) d1 d2 l1 l2 l3 a2 a3
  refine ⟨c', q', ?_, Or.inl r2, r3⟩
  show v64 (UInt64.ofNat (FP.Core.encode FP.Core.b64 (FP.Core.quotient FP.Core.b64 (v64 FP.dconst1) (v64 (FP.i2d (iI d)))))) = _
  rw [one64, a1]
  have r1 : FP.Core.quotient FP.Core.b64 (fFin (2 ^ 52) (-52)) (fFin c q) = fFin c' q' := r1
  rw [r1]; exact de64 (Or.inl r2)
/-! whole parts -/
theorem F32_f2i {a : UInt32} {A S : Nat} (h : F32 a A (-(S : Int))) (hb : A / 2 ^ S < 2147483648) : FP.f2i a = iI ((A / 2 ^ S : Nat) : Int) := by
  obtain ⟨c, q, a1, -, a3⟩ := h
  show Int32.ofInt (FP.Core.toInt (-2 ^ 31) (2 ^ 31 - 1) (v32 a)) = Int32.ofInt _
  rw [a1]
  show Int32.ofInt (max (-2 ^ 31) (min (2 ^ 31 - 1) ((c * 2 ^ q.toNat / 2 ^ (-q).toNat : Nat) : Int))) = _
  rw [VE_floor a3]
  have e : (2 : Int) ^ 31 = 2147483648 := by decide
  generalize A / 2 ^ S = n at hb ⊢
  rw [Int.min_eq_right (show (n : Int) ≤ 2 ^ 31 - 1 by omega), Int.max_eq_right (show -2 ^ 31 ≤ (n : Int) by omega)]
theorem F64_d2i {a : UInt64} {A S : Nat} (h : F64 a A (-(S : Int))) (hb : A / 2 ^ S < 2147483648) : FP.d2i a = iI ((A / 2 ^ S : Nat) : Int) := by
  obtain ⟨c, q, a1, -, a3⟩ := h
  show Int32.ofInt (FP.Core.toInt (-2 ^ 31) (2 ^ 31 - 1) (v64 a)) = Int32.ofInt _
  rw [a1]
  show Int32.ofInt (max (-2 ^ 31) (min (2 ^ 31 - 1) ((c * 2 ^ q.toNat / 2 ^ (-q).toNat : Nat) : Int))) = _
  rw [VE_floor a3]
  have e : (2 : Int) ^ 31 = 2147483648 := by decide
  generalize A / 2 ^ S = n at hb ⊢
  rw [Int.min_eq_right (show (n : Int) ≤ 2 ^ 31 - 1 by omega), Int.max_eq_right (show -2 ^ 31 ≤ (n : Int) by omega)]
theorem F64_d2l {a : UInt64} {A S : Nat} (h : F64 a A (-(S : Int))) (hb : A / 2 ^ S < 9223372036854775808) : FP.d2l a = lI ((A / 2 ^ S : Nat) : Int) := by
  obtain ⟨c, q, a1, -, a3⟩ := h
  show Int64.ofInt (FP.Core.toInt (-2 ^ 63) (2 ^ 63 - 1) (v64 a)) = Int64.ofInt _
  rw [a1]
  show Int64.ofInt (max (-2 ^ 63) (min (2 ^ 63 - 1) ((c * 2 ^ q.toNat / 2 ^ (-q).toNat : Nat) : Int))) = _
  rw [VE_floor a3]
  have e : (2 : Int) ^ 63 = 9223372036854775808 := by decide
  generalize A / 2 ^ S = n at hb ⊢
  rw [Int.min_eq_right (show (n : Int) ≤ 2 ^ 63 - 1 by omega), Int.max_eq_right (show -2 ^ 63 ≤ (n : Int) by omega)]
