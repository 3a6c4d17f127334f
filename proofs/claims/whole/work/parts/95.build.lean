/-! writing programs: both sides at once -/
def wfA (W N : Nat) (code : Nat → Ins) : Prop := ∀ i, i < N → wfI W i (code i)
def mS (W : Nat) (k d : Int32) (N : Nat) (code : Nat → Ins) (v : Nat → Int32) : Prop := v 0 = iI W ∧ v 1 = k ∧ v 2 = d ∧ v 3 = iI N ∧ mCode N code v
abbrev CF : Type := Int32 → (Nat → Int32) → (Nat → Int32) → (Nat → Int32) → (Int32 → Int32 → (Nat → Int32) → (Nat → Int32) → (Nat → Int32) → Prop) → Prop
abbrev MF : Type := (Nat → Int32) → (Int32 → (Nat → Int32) → Prop) → Prop
def Ch (N : Nat) (code : Nat → Ins) (y N' : Nat) (code' : Nat → Ins) (F : CF) : Prop := ∀ o f s, cCode N code o f s → ∀ Q : Int32 → Int32 → (Nat → Int32) → (Nat → Int32) → (Nat → Int32) → Prop, (∀ o' f' s', cCode N' code' o' f' s' → Q (iI (-1 - (y : Int))) (iI N') o' f' s') → F (iI N) o f s Q
def Mh (W N : Nat) (code : Nat → Ins) (y N' : Nat) (code' : Nat → Ins) (G : MF) : Prop := ∀ k d v, mS W k d N code v → ∀ Q : Int32 → (Nat → Int32) → Prop, (∀ v', mS W k d N' code' v' → Q (iI y) v') → G v Q
def Out (W N : Nat) (code : Nat → Ins) (b : Nat) (F : CF) (G : MF) : Prop := ∃ (y N' : Nat) (code' : Nat → Ins), N ≤ N' ∧ N' ≤ N + b ∧ y ≤ N' ∧ wfA W N' code' ∧ Ch N code y N' code' F ∧ Mh W N code y N' code' G
theorem o_wr {W N : Nat} {code : Nat → Ins} (wf : wfA W N code) (hN : N < 40) (q : Ins) (hq : wfI W N q) {x1 x2 x3 : Int32} (e1 : x1 = iI q.1) (e2 : x2 = cOp q.2.1) (e3 : x3 = cOp q.2.2) {y2 y4 : Int32} {y3 y5 : Int64} (f2 : y2 = bN q.2.1.1) (f3 : y3 = lI q.2.1.2) (f4 : y4 = bN q.2.2.1) (f5 : y5 = lI q.2.2.2) : ∃ code', wfA W (N + 1) code' ∧ Ch N code (N + 1) (N + 1) code' (fun n o f s Q => wX5_write n o f s x1 x2 x3 Q) ∧ Mh W N code (N + 1) (N + 1) code' (fun v Q => wX9_writes v x1 y2 y3 y4 y5 Q) := by
  subst e1 e2 e3 f3 f5
  refine ⟨snoc N code q, wf_snoc wf hq, fun o f s hc Q hQ => c_write q hN hc hQ, fun k d v hm Q hQ => ?_⟩
  obtain ⟨h0, h1, h2, h3, h4⟩ := hm
  exact m_writes q hN h3 h4 f2 f4 (fun v' a b c d e g => hQ v' ⟨b.trans h0, c.trans h1, d.trans h2, e, a⟩)
theorem o_k {W N : Nat} {code : Nat → Ins} (w16 : W ≤ 16) (wf : wfA W N code) (hN : N < 40) {op : Nat} (ho : 3 ≤ op ∧ op ≤ 11 ∧ op ≠ 10) {x1 : Int32} (e1 : x1 = iI op) {y : Nat} (hy : y ≤ N) {c : Int} (c0 : 0 ≤ c) (c1 : c < 2 ^ W) : ∃ code', wfA W (N + 1) code' ∧ Ch N code (N + 1) (N + 1) code' (fun n o f s Q => wX5_write n o f s x1 (iI (-1 - (y : Int))) (iI c) Q) ∧ Mh W N code (N + 1) (N + 1) code' (fun v Q => wX9_constant v x1 (iI y) (lI c) Q) := by
  obtain ⟨n, rfl⟩ : ∃ n : Nat, (n : Int) = c := ⟨c.toNat, by omega⟩
  have hq : wfI W N (op, (false, y), (true, n)) := ⟨ho.2.1, ⟨(fun (h : false = true) => Bool.noConfusion h), fun _ => hy⟩, ⟨fun _ => c1, (fun (h : true = false) => Bool.noConfusion h)⟩, fun (h : op ≤ 2 ∨ op = 10) => by omega⟩
  obtain ⟨c', w', C, M⟩ := o_wr wf hN (op, (false, y), (true, n)) hq e1 (x2 := iI (-1 - (y : Int))) rfl (x3 := iI n) rfl (y2 := 0) rfl (y3 := (iI y).toInt64) (iI_l (by omega) (by omega)) (y4 := 1) rfl (y5 := lI n) rfl
  exact ⟨c', w', C, M⟩
theorem o_w1 {W N : Nat} {code : Nat → Ins} (w16 : W ≤ 16) (wf : wfA W N code) (hN : N < 40) {op : Nat} (ho : op ≤ 2 ∨ op = 10) {x1 : Int32} (e1 : x1 = iI op) {y : Nat} (hy : y ≤ N) {b : Nat} (b0 : 1 ≤ b) (b1 : b < W) : ∃ code', wfA W (N + 1) code' ∧ Ch N code (N + 1) (N + 1) code' (fun n o f s Q => wX5_write n o f s x1 (iI (-1 - (y : Int))) (iI b) Q) ∧ Mh W N code (N + 1) (N + 1) code' (fun v Q => wX9_shifts v x1 (iI y) (iI b) Q) := by
  have hb : (b : Int) < 2 ^ W := by
    have := Nat.lt_two_pow_self (n := W)
    rw [← pwN]; omega
  have hq : wfI W N (op, (false, y), (true, b)) := ⟨show op ≤ 11 by omega, ⟨(fun (h : false = true) => Bool.noConfusion h), fun _ => hy⟩, ⟨fun _ => hb, (fun (h : true = false) => Bool.noConfusion h)⟩, fun _ => ⟨rfl, b1⟩⟩
  obtain ⟨c', w', C, M⟩ := o_wr wf hN (op, (false, y), (true, b)) hq e1 (x2 := iI (-1 - (y : Int))) rfl (x3 := iI b) rfl (y2 := 0) rfl (y3 := (iI y).toInt64) (iI_l (by omega) (by omega)) (y4 := 1) rfl (y5 := (iI b).toInt64) (iI_l (by omega) (by omega))
  refine ⟨c', w', C, fun k d v hm Q hQ => ?_⟩
  exact br_eq b 0 (fun c => by omega) (fun _ => M k d v hm _ hQ)
theorem o_sh {W N : Nat} {code : Nat → Ins} (w16 : W ≤ 16) (wf : wfA W N code) (hN : N < 40) {op : Nat} (ho : op ≤ 2 ∨ op = 10) {x1 : Int32} (e1 : x1 = iI op) {y : Nat} (hy : y ≤ N) {b : Nat} (b1 : b < W) : Out W N code 1 (fun n o f s Q => wX0_shifted n o f s x1 (iI (-1 - (y : Int))) (iI b) Q) (fun v Q => wX9_shifts v x1 (iI y) (iI b) Q) := by
  by_cases hb : b = 0
  · subst hb
    exact ⟨y, N, code, Nat.le_refl _, by omega, hy, wf, fun o f s hc Q hQ => ⟨fun _ => hQ o f s hc, fun c => absurd rfl c⟩, fun k d v hm Q hQ => ⟨fun _ => hQ v hm, fun c => absurd rfl c⟩⟩
  · obtain ⟨c', w', C, M⟩ := o_w1 w16 wf hN ho e1 hy (show 1 ≤ b by omega) b1
    exact ⟨N + 1, N + 1, c', by omega, by omega, Nat.le_refl _, w', fun o f s hc Q hQ => br_eq b 0 (fun c => by omega) (fun _ => C o f s hc _ hQ), M⟩
theorem o_bo {W N : Nat} {code : Nat → Ins} (wf : wfA W N code) (hN : N < 40) {op : Nat} (ho : 3 ≤ op ∧ op ≤ 11 ∧ op ≠ 10) {x1 : Int32} (e1 : x1 = iI op) {y z : Nat} (hy : y ≤ N) (hz : z ≤ N) : ∃ code', wfA W (N + 1) code' ∧ Ch N code (N + 1) (N + 1) code' (fun n o f s Q => wX5_write n o f s x1 (iI (-1 - (y : Int))) (iI (-1 - (z : Int))) Q) ∧ Mh W N code (N + 1) (N + 1) code' (fun v Q => wX9_both v x1 (iI y) (iI z) Q) := by
  have hq : wfI W N (op, (false, y), (false, z)) := ⟨ho.2.1, ⟨(fun (h : false = true) => Bool.noConfusion h), fun _ => hy⟩, ⟨(fun (h : false = true) => Bool.noConfusion h), fun _ => hz⟩, fun (h : op ≤ 2 ∨ op = 10) => by omega⟩
  obtain ⟨c', w', C, M⟩ := o_wr wf hN (op, (false, y), (false, z)) hq e1 (x2 := iI (-1 - (y : Int))) rfl (x3 := iI (-1 - (z : Int))) rfl (y2 := 0) rfl (y3 := (iI y).toInt64) (iI_l (by omega) (by omega)) (y4 := 0) rfl (y5 := (iI z).toInt64) (iI_l (by omega) (by omega))
  exact ⟨c', w', C, M⟩
theorem o_ng {W N : Nat} {code : Nat → Ins} (wf : wfA W N code) (hN : N < 40) {y : Nat} (hy : y ≤ N) : ∃ code', wfA W (N + 1) code' ∧ Ch N code (N + 1) (N + 1) code' (fun n o f s Q => wX5_write n o f s 4 0 (iI (-1 - (y : Int))) Q) ∧ Mh W N code (N + 1) (N + 1) code' (fun v Q => wX9_negative v (iI y) Q) := by
  have hq : wfI W N (4, (true, 0), (false, y)) := ⟨show 4 ≤ 11 by decide, ⟨fun _ => p2pos W, (fun (h : true = false) => Bool.noConfusion h)⟩, ⟨(fun (h : false = true) => Bool.noConfusion h), fun _ => hy⟩, fun (h : 4 ≤ 2 ∨ 4 = 10) => by omega⟩
  obtain ⟨c', w', C, M⟩ := o_wr wf hN (4, (true, 0), (false, y)) hq (x1 := 4) rfl (x2 := 0) rfl (x3 := iI (-1 - (y : Int))) rfl (y2 := 1) rfl (y3 := 0) rfl (y4 := 0) rfl (y5 := (iI y).toInt64) (iI_l (by omega) (by omega))
  exact ⟨c', w', C, M⟩
/-! facts of the numbers that are written -/
theorem c_mask {W : Nat} (hW : W ≤ 16) {Q : Int32 → Prop} (h : Q (iI (2 ^ W - 1))) : wX0_mask (iI W) Q := by
  unfold wX0_mask
  rw [iI_p2 (by omega)]
  show Q (iI (2 ^ W) - iI 1)
  rw [iI_sub]; exact h
theorem tz_par (d : Nat) : (d % 2 = 0 → 1 ≤ tz d) ∧ (d % 2 ≠ 0 → tz d = 0) := by
  show (d % 2 = 0 → 1 ≤ tzF 17 d) ∧ (d % 2 ≠ 0 → tzF 17 d = 0)
  unfold tzF
  constructor
  · intro h; rw [if_pos h]; omega
  · intro h; rw [if_neg h]
theorem isP_pow (k : Nat) : isP (2 ^ k) := by
  unfold isP
  rw [Nat.and_two_pow_sub_one_eq_mod, Nat.mod_self]
theorem odd_part {d : Nat} (h1 : 0 < d) (h2 : d < 65536) : d / 2 ^ tz d % 2 = 1 ∧ 1 ≤ d / 2 ^ tz d ∧ d / 2 ^ tz d ≤ d ∧ (¬ isP d → 3 ≤ d / 2 ^ tz d) := by
  obtain ⟨a, b, e, he⟩ := tz_ex h1 h2
  have e1 : d / 2 ^ tz d = 2 * e + 1 := by
    have := @tz_e (tz d) e
    rw [← he] at this; exact this
  have hle : d / 2 ^ tz d ≤ d := Nat.div_le_self _ _
  rw [e1] at hle ⊢
  refine ⟨by omega, by omega, hle, fun hp => ?_⟩
  by_cases c : e = 0
  · refine absurd ?_ hp
    rw [he, c, Nat.mul_zero, Nat.zero_add, Nat.mul_one]; exact isP_pow _
  · omega
theorem notP3 {d : Nat} (h1 : 0 < d) (h2 : d < 65536) (hp : ¬ isP d) : 3 ≤ d := by
  have := odd_part h1 h2
  have := this.2.2.2 hp
  omega
theorem shrZ (d k : Nat) : (d : Int) / 2 ^ k = ((d / 2 ^ k : Nat) : Int) := by rw [Int.natCast_ediv, pwN]
theorem cz0_lt {W : Nat} (w4 : 4 ≤ W) {d : Int} (hd : 3 ≤ d) : cz W 0 d < 2 ^ W := by
  have h16 : (2 : Int) ^ 4 ≤ 2 ^ W := p2le w4
  have e16 : (2 : Int) ^ 4 = 16 := by decide
  have b := cz_b (W := W) (s := 0) (d := d) (by omega)
  rw [Nat.add_zero] at b
  refine Int.lt_of_mul_lt_mul_right (a := d) ?_ (by omega)
  have k := Int.mul_le_mul_of_nonneg_left (show (3 : Int) ≤ d from hd) (show (0 : Int) ≤ 2 ^ W by omega)
  have k2 : cz W 0 d * d ≤ 2 ^ W + d - 1 := b.2.2.2
  have k3 := Int.mul_le_mul_of_nonneg_right (show (16 : Int) ≤ 2 ^ W by omega) (show (0 : Int) ≤ d by omega)
  omega
/-- with slack, the multiplier fits -/
theorem fit {W : Nat} (w4 : 4 ≤ W) {d : Int} (hd : 3 ≤ d) (hd2 : d < 2 ^ W) {sl : Nat} (hsl : 1 ≤ sl) : cz W (lsh W d sl) d < 2 ^ W ∧ lsh W d sl < W := by
  rcases lsF_min W d sl 16 0 with h | ⟨h1, h2⟩
  · rw [show lsh W d sl = 0 from h]; exact ⟨cz0_lt w4 hd, by omega⟩
  · have b := cz_b (W := W) (s := lsh W d sl - 1) (d := d) (by omega)
    have c := cz_b (W := W) (s := lsh W d sl) (d := d) (by omega)
    have hle : (2 : Int) ^ lsh W d sl ≤ 2 ^ (lsh W d sl - 1 + sl) := p2le (by show lsF W d sl 16 0 ≤ lsF W d sl 16 0 - 1 + sl; omega)
    have hlt : (2 : Int) ^ lsh W d sl ≤ d - 2 := by
      have h2' : (2 : Int) ^ (lsh W d sl - 1 + sl) < cz W (lsh W d sl - 1) d * d - 2 ^ (W + (lsh W d sl - 1)) := h2
      omega
    have hp := p2pos W
    have e : (2 : Int) ^ (W + lsh W d sl) = 2 ^ W * 2 ^ lsh W d sl := Int.pow_add _ _ _
    have k1 := Int.mul_le_mul_of_nonneg_left hlt (show (0 : Int) ≤ 2 ^ W by omega)
    rw [Int.mul_sub] at k1
    refine ⟨Int.lt_of_mul_lt_mul_right (a := d) (by omega) (by omega), ?_⟩
    refine Nat.lt_of_not_le (fun q => ?_)
    have := p2le q
    omega
theorem lsh_W {W : Nat} {d : Int} (hd : 1 ≤ d) (hd2 : d < 2 ^ W) : lsh W d 0 ≤ W := by
  rcases lsh_lt (W := W) hd 0 with h | ⟨h1, h2⟩
  · omega
  · refine Nat.le_of_not_lt (fun q => ?_)
    have := p2le (show W ≤ lsh W d 0 - 1 by omega)
    omega
theorem lsh_fit {W : Nat} {d : Int} (hd : 1 ≤ d) (hd2 : d < 2 ^ W) (h : cz W (lsh W d 0) d < 2 ^ W) : lsh W d 0 < W := by
  refine Nat.lt_of_not_le (fun q => ?_)
  have b := cz_b (W := W) (s := lsh W d 0) hd
  have k : (2 : Int) ^ (W + W) ≤ 2 ^ (W + lsh W d 0) := p2le (by omega)
  rw [Int.pow_add] at k
  have k2 := Int.mul_le_mul (show cz W (lsh W d 0) d ≤ 2 ^ W - 1 by omega) (show d ≤ 2 ^ W - 1 by omega) (by omega) (show (0 : Int) ≤ 2 ^ W - 1 by omega)
  rw [Int.sub_mul, Int.mul_sub, Int.one_mul, Int.mul_one] at k2
  omega
theorem cz_lt2 {W : Nat} {d : Int} (hd : 1 ≤ d) (hd2 : d < 2 ^ W) : cz W (lsh W d 0) d < 2 * 2 ^ W := by
  have b := cz_b (W := W) (s := lsh W d 0) hd
  have hp := p2pos W
  rcases lsh_lt (W := W) hd 0 with h | ⟨h1, h2⟩
  · rw [h, Nat.add_zero] at b; rw [h]; omega
  · have e : (2 : Int) ^ (W + lsh W d 0) = 2 * 2 ^ W * 2 ^ (lsh W d 0 - 1) := by
      rw [Int.pow_add, show lsh W d 0 = (lsh W d 0 - 1) + 1 by omega, Int.pow_succ, Nat.add_sub_cancel, Int.mul_comm _ 2, ← Int.mul_assoc, Int.mul_comm _ 2]
    have k1 := Int.mul_le_mul_of_nonneg_left (show (2 : Int) ^ (lsh W d 0 - 1) ≤ d - 1 by omega) (show (0 : Int) ≤ 2 * 2 ^ W by omega)
    rw [Int.mul_sub, Int.mul_one] at k1
    refine Int.lt_of_mul_lt_mul_right (a := d) ?_ (by omega)
    omega
/-! the unsigned quotient -/
set_option maxHeartbeats 1000000 in
theorem o_quo {W N : Nat} {code : Nat → Ins} (w4 : 4 ≤ W) (w16 : W ≤ 16) (wf : wfA W N code) (hN : N + 5 ≤ 40) {y d : Nat} (hy : y ≤ N) (d1 : 1 ≤ d) (d2 : (d : Int) < 2 ^ W) : Out W N code 5 (fun n o f s Q => wX0_unsignedQuotient (iI W) n o f s (iI (-1 - (y : Int))) (iI d) Q) (fun v Q => wX9_quotient v (iI y) (lI d) Q) := by
  obtain ⟨p16, pm, ph⟩ := pw w4 w16
  have d65 : d < 65536 := by omega
  have d2N : d < 2 ^ W := by have := pwN W; omega
  have tlt := tz_lt d1 d65 d2N
  have sle := lsh_le W (d : Int) 0
  by_cases hp : isP d
  · obtain ⟨y1, N1, c1, a1, b1, l1, w1, C1, M1⟩ := o_sh w16 wf (by omega) (op := 1) (x1 := 1) (by omega) rfl hy tlt
    refine ⟨y1, N1, c1, a1, by omega, l1, w1, fun o f s hc Q hQ => ?_, fun k e v hm Q hQ => ?_⟩
    · exact c_isp d1 d65 (fun _ => ⟨fun q => absurd q (by decide), fun _ => c_tz d1 d65 (C1 o f s hc _ hQ)⟩) (fun q => absurd hp q)
    · exact m_tz d1 d65 (m_isp d1 d65 (fun _ => ⟨fun q => absurd q (by decide), fun _ => M1 k e v hm _ hQ⟩) (fun q => absurd hp q))
  have d3 := notP3 d1 d65 hp
  have cb := cz_b (W := W) (s := lsh W (d : Int) 0) (d := (d : Int)) (by omega)
  have c2 := cz_lt2 (W := W) (d := (d : Int)) (by omega) d2
  by_cases hm : cz W (lsh W (d : Int) 0) d < 2 ^ W
  · have hs := lsh_fit (W := W) (d := (d : Int)) (by omega) d2 hm
    obtain ⟨e1, w1, C1, M1⟩ := o_k w16 wf (by omega) (op := 6) (x1 := 6) (by omega) rfl hy (c := cz W (lsh W (d : Int) 0) d) (by omega) hm
    obtain ⟨y2, N2, e2, a2, b2, l2, w2, C2, M2⟩ := o_sh w16 w1 (by omega) (op := 1) (x1 := 1) (by omega) rfl (Nat.le_refl (N + 1)) hs
    refine ⟨y2, N2, e2, by omega, by omega, l2, w2, fun o f s hc Q hQ => ?_, fun k e v hv Q hQ => ?_⟩
    · refine c_isp d1 d65 (fun q => absurd q hp) (fun _ => ⟨fun _ => c_lsh w16 (by omega) (by omega) (sl := 0) (by omega) (c_mf w16 sle (by omega) (by omega) (c_mask w16 ?_)), fun q => absurd rfl q⟩)
      exact br_lt (2 ^ W - 1) (cz W (lsh W (d : Int) 0) d) (fun c => by omega) (fun _ => C1 o f s hc _ (fun o f s hc => C2 o f s hc _ hQ))
    · refine m_tz d1 d65 (m_isp d1 d65 (fun q => absurd q hp) (fun _ => ⟨fun _ => m_lsh hv.1 w16 (by omega) (by omega) (sl := 0) (by omega) (m_mf hv.1 w16 sle (by omega) (by omega) (m_all hv.1 w16 ?_)), fun q => absurd rfl q⟩))
      exact bl_le (2 ^ W) (cz W (lsh W (d : Int) 0) d) (fun c => by omega) (fun _ => M1 k e v hv _ (fun v hv => M2 k e v hv _ hQ))
  by_cases he : d % 2 = 0
  · have t1 := (tz_par d).1 he
    obtain ⟨o1, o2, o3, o4⟩ := odd_part d1 d65
    have o4 := o4 hp
    obtain ⟨ft, fs⟩ := fit w4 (d := ((d / 2 ^ tz d : Nat) : Int)) (by omega) (by omega) t1
    have ule := lsh_le W ((d / 2 ^ tz d : Nat) : Int) (tz d)
    have cb2 := cz_b (W := W) (s := lsh W ((d / 2 ^ tz d : Nat) : Int) (tz d)) (d := ((d / 2 ^ tz d : Nat) : Int)) (by omega)
    obtain ⟨y1, N1, e1, a1, b1, l1, w1, C1, M1⟩ := o_sh w16 wf (by omega) (op := 1) (x1 := 1) (by omega) rfl hy tlt
    obtain ⟨e2, w2, C2, M2⟩ := o_k w16 w1 (by omega) (op := 6) (x1 := 6) (by omega) rfl l1 (c := cz W (lsh W ((d / 2 ^ tz d : Nat) : Int) (tz d)) ((d / 2 ^ tz d : Nat) : Int)) (by omega) ft
    obtain ⟨y3, N3, e3, a3, b3, l3, w3, C3, M3⟩ := o_sh w16 w2 (by omega) (op := 1) (x1 := 1) (by omega) rfl (Nat.le_refl (N1 + 1)) fs
    refine ⟨y3, N3, e3, by omega, by omega, l3, w3, fun o f s hc Q hQ => ?_, fun k e v hv Q hQ => ?_⟩
    · refine c_isp d1 d65 (fun q => absurd q hp) (fun _ => ⟨fun _ => c_lsh w16 (by omega) (by omega) (sl := 0) (by omega) (c_mf w16 sle (by omega) (by omega) (c_mask w16 ?_)), fun q => absurd rfl q⟩)
      refine br_lt (2 ^ W - 1) (cz W (lsh W (d : Int) 0) d) (fun _ => ?_) (fun c => by omega)
      rw [iI_m1]
      refine br_eq ((d : Int) % 2) 0 (fun _ => ?_) (fun c => by omega)
      refine c_tz d1 d65 (fun x hx => ?_)
      rw [iI_shr (by omega) (by omega) (by omega), shrZ] at hx
      subst hx
      exact c_lsh w16 (by omega) (by omega) (by omega) (c_mf w16 ule (by omega) (by omega) (C1 o f s hc _ (fun o f s hc => C2 o f s hc _ (fun o f s hc => C3 o f s hc _ hQ))))
    · refine m_tz d1 d65 (m_isp d1 d65 (fun q => absurd q hp) (fun _ => ⟨fun _ => m_lsh hv.1 w16 (by omega) (by omega) (sl := 0) (by omega) (m_mf hv.1 w16 sle (by omega) (by omega) (m_all hv.1 w16 ?_)), fun q => absurd rfl q⟩))
      refine bl_le (2 ^ W) (cz W (lsh W (d : Int) 0) d) (fun _ => ?_) (fun c => by omega)
      refine br_le (tz d) 0 (fun c => by omega) (fun _ x hx => ?_)
      rw [lI_shr (by omega) (by omega) (by omega), shrZ] at hx
      subst hx
      exact m_lsh hv.1 w16 (by omega) (by omega) (by omega) (M1 k e v hv _ (fun v hv => m_mf hv.1 w16 ule (by omega) (by omega) (M2 k e v hv _ (fun v hv => M3 k e v hv _ hQ))))
  · have t0 := (tz_par d).2 he
    have s1 : 1 ≤ lsh W (d : Int) 0 := by
      refine Nat.pos_of_ne_zero (fun q => hm ?_)
      rw [q]; exact cz0_lt w4 (by omega)
    have sW := lsh_W (W := W) (d := (d : Int)) (by omega) d2
    obtain ⟨e1, w1, C1, M1⟩ := o_k w16 wf (by omega) (op := 6) (x1 := 6) (by omega) rfl hy (c := cz W (lsh W (d : Int) 0) d - 2 ^ W) (by omega) (by omega)
    obtain ⟨e2, w2, C2, M2⟩ := o_bo w1 (by omega) (op := 4) (x1 := 4) (by omega) rfl (show y ≤ N + 1 by omega) (Nat.le_refl (N + 1))
    obtain ⟨e3, w3, C3, M3⟩ := o_w1 w16 w2 (by omega) (op := 1) (x1 := 1) (by omega) rfl (Nat.le_refl (N + 1 + 1)) (b := 1) (by omega) (by omega)
    obtain ⟨e4, w4', C4, M4⟩ := o_bo w3 (by omega) (op := 3) (x1 := 3) (by omega) rfl (Nat.le_refl (N + 1 + 1 + 1)) (show N + 1 ≤ N + 1 + 1 + 1 by omega)
    obtain ⟨y5, N5, e5, a5, b5, l5, w5, C5, M5⟩ := o_sh w16 w4' (by omega) (op := 1) (x1 := 1) (by omega) rfl (Nat.le_refl (N + 1 + 1 + 1 + 1)) (b := lsh W (d : Int) 0 - 1) (by omega)
    have es : iI (lsh W (d : Int) 0) - 1 = iI ((lsh W (d : Int) 0 - 1 : Nat) : Int) := by show iI _ - iI 1 = _; rw [iI_sub]; congr 1; omega
    have em : cz W (lsh W (d : Int) 0) d % 2 ^ W = cz W (lsh W (d : Int) 0) d - 2 ^ W := by
      rw [← Int.emod_eq_of_lt (show 0 ≤ cz W (lsh W (d : Int) 0) d - 2 ^ W by omega) (show cz W (lsh W (d : Int) 0) d - 2 ^ W < 2 ^ W by omega), Int.sub_emod_right]
    refine ⟨y5, N5, e5, by omega, by omega, l5, w5, fun o f s hc Q hQ => ?_, fun k e v hv Q hQ => ?_⟩
    · refine c_isp d1 d65 (fun q => absurd q hp) (fun _ => ⟨fun _ => c_lsh w16 (by omega) (by omega) (sl := 0) (by omega) (c_mf w16 sle (by omega) (by omega) (c_mask w16 ?_)), fun q => absurd rfl q⟩)
      refine br_lt (2 ^ W - 1) (cz W (lsh W (d : Int) 0) d) (fun _ => ?_) (fun c => by omega)
      rw [iI_m1]
      refine br_eq ((d : Int) % 2) 0 (fun c => by omega) (fun _ => c_mask w16 ?_)
      rw [iI_mask _ (by omega), em, es]
      exact C1 o f s hc _ (fun o f s hc => C2 o f s hc _ (fun o f s hc => C3 o f s hc _ (fun o f s hc => C4 o f s hc _ (fun o f s hc => C5 o f s hc _ hQ))))
    · refine m_tz d1 d65 (m_isp d1 d65 (fun q => absurd q hp) (fun _ => ⟨fun _ => m_lsh hv.1 w16 (by omega) (by omega) (sl := 0) (by omega) (m_mf hv.1 w16 sle (by omega) (by omega) (m_all hv.1 w16 ?_)), fun q => absurd rfl q⟩))
      refine bl_le (2 ^ W) (cz W (lsh W (d : Int) 0) d) (fun _ => ?_) (fun c => by omega)
      refine br_le (tz d) 0 (fun _ => m_all hv.1 w16 ?_) (fun c => by omega)
      rw [lI_sub, es]
      exact M1 k e v hv _ (fun v hv => M2 k e v hv _ (fun v hv => M3 k e v hv _ (fun v hv => M4 k e v hv _ (fun v hv => M5 k e v hv _ hQ))))
/-! the signed quotient -/
set_option maxHeartbeats 1000000 in
theorem o_qtz {W N : Nat} {code : Nat → Ins} (w4 : 4 ≤ W) (w16 : W ≤ 16) (wf : wfA W N code) (hN : N + 5 ≤ 40) {a : Nat} (d1 : 1 ≤ a) (d2 : (a : Int) ≤ 2 ^ (W - 1)) : ∃ (y N' : Nat) (code' : Nat → Ins), N ≤ N' ∧ N' ≤ N + 5 ∧ y ≤ N' ∧ wfA W N' code' ∧ Ch N code y N' code' (fun n o f s Q => wX0_quotientTowardZero (iI (-1 - ((0 : Nat) : Int))) (iI W) n o f s (iI a) Q) ∧ (∀ k d v, mS W k d N code v → ∀ x1 Q, (∀ v', mS W k d N' code' v' → wX9_signedQuotient_175 x1 Q (iI y) v') → wX9_signedQuotient_13 v x1 Q (lI a)) := by
  obtain ⟨p16, pm, ph⟩ := pw w4 w16
  have d65 : a < 65536 := by omega
  have d2N : a < 2 ^ W := by have := pwN W; omega
  have tlt := tz_lt d1 d65 d2N
  have sle := lsh_le W (a : Int) 1
  have z0 : (0 : Nat) ≤ N := Nat.zero_le _
  by_cases h1 : a = 1
  · subst h1
    refine ⟨0, N, code, Nat.le_refl _, by omega, z0, wf, fun o f s hc Q hQ => ⟨fun _ => hQ o f s hc, fun c => absurd rfl c⟩, fun k d v hv x1 Q hQ => ?_⟩
    unfold wX9_signedQuotient_13 wX9_signedQuotient_86
    rw [g0, hv.1]
    refine ⟨v0, fun x hx => m_isp (by omega) (by omega) (fun _ => ⟨fun q => absurd q (by decide), fun _ => ?_⟩) (fun q => absurd (isP_pow 0) q)⟩
    exact bl_le ((1 : Nat) : Int) 1 (fun _ => bl_le ((1 : Nat) : Int) 1 (fun _ => hQ v hv) (fun c => by omega)) (fun c => by omega)
  by_cases hp : isP a
  · have hev := isP_even (show 2 ≤ a by omega) hp
    have t1 := (tz_par a).1 hev
    have tb := tz_ex d1 d65
    have tW : tz a ≤ W - 1 := by omega
    obtain ⟨y1, N1, e1, a1, b1, l1, w1, C1, M1⟩ := o_sh w16 wf (by omega) (op := 2) (x1 := 2) (by omega) rfl z0 (b := tz a - 1) (by omega)
    obtain ⟨y2, N2, e2, a2, b2, l2, w2, C2, M2⟩ := o_sh w16 w1 (by omega) (op := 1) (x1 := 1) (by omega) rfl l1 (b := W - tz a) (by omega)
    obtain ⟨e3, w3, C3, M3⟩ := o_bo w2 (by omega) (op := 3) (x1 := 3) (by omega) rfl (Nat.zero_le N2) l2
    obtain ⟨y4, N4, e4, a4, b4, l4, w4', C4, M4⟩ := o_sh w16 w3 (by omega) (op := 2) (x1 := 2) (by omega) rfl (Nat.le_refl (N2 + 1)) tlt
    have et : iI (tz a) - 1 = iI ((tz a - 1 : Nat) : Int) := by show iI _ - iI 1 = _; rw [iI_sub]; congr 1; omega
    have ew : iI W - iI (tz a) = iI ((W - tz a : Nat) : Int) := by rw [iI_sub]; congr 1; omega
    refine ⟨y4, N4, e4, by omega, by omega, l4, w4', fun o f s hc Q hQ => ?_, fun k d v hv x1 Q hQ => ?_⟩
    · refine br_eq a 1 (fun c => by omega) (fun _ => c_isp d1 d65 (fun _ => ⟨fun q => absurd q (by decide), fun _ => c_tz d1 d65 ?_⟩) (fun q => absurd hp q))
      rw [et, ew]
      exact C1 o f s hc _ (fun o f s hc => C2 o f s hc _ (fun o f s hc => C3 o f s hc _ (fun o f s hc => C4 o f s hc _ hQ)))
    · unfold wX9_signedQuotient_13
      rw [g0, hv.1]
      refine ⟨v0, fun x hx => m_isp d1 d65 (fun _ => ⟨fun q => absurd q (by decide), fun _ => ?_⟩) (fun q => absurd hp q)⟩
      subst hx
      refine bl_le a 1 (fun c => by omega) (fun _ => m_tz d1 d65 ?_)
      rw [et, ew]
      exact M1 k d v hv _ (fun v hv => M2 k d v hv _ (fun v hv => M3 k d v hv _ (fun v hv => M4 k d v hv _ hQ)))
  · have d3 := notP3 d1 d65 hp
    obtain ⟨ft, fs⟩ := fit w4 (d := (a : Int)) (by omega) (by omega) (Nat.le_refl 1)
    have cb := cz_b (W := W) (s := lsh W (a : Int) 1) (d := (a : Int)) (by omega)
    have ew : iI W - 1 = iI ((W - 1 : Nat) : Int) := by show iI W - iI 1 = _; rw [iI_sub]; congr 1; omega
    obtain ⟨e1, w1, C1, M1⟩ := o_k w16 wf (by omega) (op := 7) (x1 := 7) (by omega) rfl z0 (c := cz W (lsh W (a : Int) 1) a) (by omega) ft
    have tail : ∀ (N1 : Nat) (e1 : Nat → Ins) (y1 : Nat), wfA W N1 e1 → y1 ≤ N1 → N1 + 3 ≤ 40 → ∃ (y N' : Nat) (code' : Nat → Ins), N1 ≤ N' ∧ N' ≤ N1 + 3 ∧ y ≤ N' ∧ wfA W N' code' ∧ Ch N1 e1 y N' code' (fun n o f s Q => wX0_quotientTowardZero_131 (iI (-1 - ((0 : Nat) : Int))) (iI W) Q (iI (lsh W (a : Int) 1)) (iI (-1 - (y1 : Int))) n o f s) ∧ (∀ k d v, mS W k d N1 e1 v → ∀ x1 Q, (∀ v', mS W k d N' code' v' → wX9_signedQuotient_175 x1 Q (iI y) v') → wX9_signedQuotient_143 x1 Q (iI W) (iI (lsh W (a : Int) 1)) v (iI y1)) := by
      intro N1 e1 y1 w1 l1 h40
      obtain ⟨y2, N2, e2, a2, b2, l2, w2, C2, M2⟩ := o_sh w16 w1 (by omega) (op := 2) (x1 := 2) (by omega) rfl l1 fs
      obtain ⟨e3, w3, C3, M3⟩ := o_w1 w16 w2 (by omega) (op := 1) (x1 := 1) (by omega) rfl (Nat.zero_le N2) (b := W - 1) (by omega) (by omega)
      obtain ⟨e4, w4', C4, M4⟩ := o_bo w3 (by omega) (op := 3) (x1 := 3) (by omega) rfl (show y2 ≤ N2 + 1 by omega) (Nat.le_refl (N2 + 1))
      refine ⟨N2 + 1 + 1, N2 + 1 + 1, e4, by omega, by omega, Nat.le_refl _, w4', fun o f s hc Q hQ => ?_, fun k d v hv x1 Q hQ => ?_⟩
      · unfold wX0_quotientTowardZero_131
        rw [ew]
        exact C2 o f s hc _ (fun o f s hc => C3 o f s hc _ (fun o f s hc => C4 o f s hc _ hQ))
      · unfold wX9_signedQuotient_143
        rw [ew]
        exact M2 k d v hv _ (fun v hv => M3 k d v hv _ (fun v hv => M4 k d v hv _ hQ))
    have pre_c : ∀ (o f s : Nat → Int32) (Q : Int32 → Int32 → (Nat → Int32) → (Nat → Int32) → (Nat → Int32) → Prop), wX5_write (iI N) o f s 7 (iI (-1 - ((0 : Nat) : Int))) (iI (cz W (lsh W (a : Int) 1) a)) (fun r_100 t_program_length_100 f_t_program_operations_100 f_t_program_firsts_100 f_t_program_seconds_100 => ((iI (cz W (lsh W (a : Int) 1) a) < iI (2 ^ (W - 1)) → wX0_quotientTowardZero_131 (iI (-1 - ((0 : Nat) : Int))) (iI W) Q (iI (lsh W (a : Int) 1)) r_100 t_program_length_100 f_t_program_operations_100 f_t_program_firsts_100 f_t_program_seconds_100) ∧ (¬ iI (cz W (lsh W (a : Int) 1) a) < iI (2 ^ (W - 1)) → wX5_write t_program_length_100 f_t_program_operations_100 f_t_program_firsts_100 f_t_program_seconds_100 3 r_100 (iI (-1 - ((0 : Nat) : Int))) (fun r_126 t_program_length_126 f_t_program_operations_126 f_t_program_firsts_126 f_t_program_seconds_126 => wX0_quotientTowardZero_131 (iI (-1 - ((0 : Nat) : Int))) (iI W) Q (iI (lsh W (a : Int) 1)) r_126 t_program_length_126 f_t_program_operations_126 f_t_program_firsts_126 f_t_program_seconds_126)))) → wX0_quotientTowardZero (iI (-1 - ((0 : Nat) : Int))) (iI W) (iI N) o f s (iI a) Q := by
      intro o f s Q h
      unfold wX0_quotientTowardZero
      rw [ew, iI_p2 (by omega)]
      exact br_eq a 1 (fun c => by omega) (fun _ => c_isp d1 d65 (fun q => absurd q hp) (fun _ => ⟨fun _ => c_lsh w16 (by omega) (by omega) (sl := 1) (by omega) (c_mf w16 sle (by omega) (by omega) h), fun q => absurd rfl q⟩))
    have pre_m : ∀ (k d : Int32) (v : Nat → Int32) (x1 : Int64) (Q : Int32 → (Nat → Int32) → Prop), mS W k d N code v → wX9_constant v 7 (iI ((0 : Nat) : Int)) (lI (cz W (lsh W (a : Int) 1) a)) (fun r_115 f_t_v_115 => wX9_half f_t_v_115 (fun r_123 => ((lI (cz W (lsh W (a : Int) 1) a) < r_123 → wX9_signedQuotient_143 x1 Q (iI W) (iI (lsh W (a : Int) 1)) f_t_v_115 r_115) ∧ (¬ lI (cz W (lsh W (a : Int) 1) a) < r_123 → wX9_both f_t_v_115 3 r_115 (iI ((0 : Nat) : Int)) (fun r_135 f_t_v_135 => wX9_signedQuotient_143 x1 Q (iI W) (iI (lsh W (a : Int) 1)) f_t_v_135 r_135))))) → wX9_signedQuotient_13 v x1 Q (lI a) := by
      intro k d v x1 Q hv h
      unfold wX9_signedQuotient_13 wX9_signedQuotient_86
      rw [g0, hv.1]
      refine ⟨v0, fun x hx => m_isp d1 d65 (fun q => absurd q hp) (fun _ => ⟨fun _ => ?_, fun q => absurd rfl q⟩)⟩
      subst hx
      exact bl_le a 1 (fun c => by omega) (fun _ => m_lsh hv.1 w16 (by omega) (by omega) (sl := 1) (by omega) (m_mf hv.1 w16 sle (by omega) (by omega) h))
    by_cases hM : cz W (lsh W (a : Int) 1) a < 2 ^ (W - 1)
    · obtain ⟨y2, N2, e2, a2, b2, l2, w2, C2, M2⟩ := tail (N + 1) e1 (N + 1) w1 (Nat.le_refl _) (by omega)
      refine ⟨y2, N2, e2, by omega, by omega, l2, w2, fun o f s hc Q hQ => pre_c o f s Q (C1 o f s hc _ (fun o f s hc => ?_)), fun k d v hv x1 Q hQ => pre_m k d v x1 Q hv (M1 k d v hv _ (fun v hv => m_half hv.1 (by omega) w16 ?_))⟩
      · exact br_lt (cz W (lsh W (a : Int) 1) a) (2 ^ (W - 1)) (fun _ => C2 o f s hc _ hQ) (fun c => by omega)
      · exact bl_lt (cz W (lsh W (a : Int) 1) a) (2 ^ (W - 1)) (fun _ => M2 k d v hv x1 Q hQ) (fun c => by omega)
    · obtain ⟨e2, w2, C2, M2⟩ := o_bo w1 (by omega) (op := 3) (x1 := 3) (by omega) rfl (Nat.le_refl (N + 1)) (Nat.zero_le (N + 1))
      obtain ⟨y3, N3, e3, a3, b3, l3, w3, C3, M3⟩ := tail (N + 1 + 1) e2 (N + 1 + 1) w2 (Nat.le_refl _) (by omega)
      refine ⟨y3, N3, e3, by omega, by omega, l3, w3, fun o f s hc Q hQ => pre_c o f s Q (C1 o f s hc _ (fun o f s hc => ?_)), fun k d v hv x1 Q hQ => pre_m k d v x1 Q hv (M1 k d v hv _ (fun v hv => m_half hv.1 (by omega) w16 ?_))⟩
      · exact br_lt (cz W (lsh W (a : Int) 1) a) (2 ^ (W - 1)) (fun c => by omega) (fun _ => C2 o f s hc _ (fun o f s hc => C3 o f s hc _ hQ))
      · exact bl_lt (cz W (lsh W (a : Int) 1) a) (2 ^ (W - 1)) (fun c => by omega) (fun _ => M2 k d v hv _ (fun v hv => M3 k d v hv x1 Q hQ))
theorem o_sq {W N : Nat} {code : Nat → Ins} (w4 : 4 ≤ W) (w16 : W ≤ 16) (wf : wfA W N code) (hN : N + 6 ≤ 40) {d : Int} (d0 : d ≠ 0) (d1 : -2 ^ (W - 1) ≤ d) (d2 : d < 2 ^ (W - 1)) : Out W N code 6 (fun n o f s Q => wX0_signedQuotient (iI (-1 - ((0 : Nat) : Int))) (iI W) n o f s (iI d) Q) (fun v Q => wX9_signedQuotient v (lI d) Q) := by
  obtain ⟨p16, pm, ph⟩ := pw w4 w16
  obtain ⟨y1, N1, e1, a1, b1, l1, w1, C1, M1⟩ := o_qtz w4 w16 wf (by omega) (a := d.natAbs) (by omega) (by omega)
  by_cases hd : 0 < d
  · refine ⟨y1, N1, e1, a1, by omega, l1, w1, fun o f s hc Q hQ => ?_, fun k e v hv Q hQ => ?_⟩
    · unfold wX0_signedQuotient
      rw [if_pos (show (0 : Int32) ≤ iI d from (iI_le (a := 0) (by omega) (by omega) (by omega) (by omega)).mpr (by omega)), show iI d = iI ((d.natAbs : Nat) : Int) by congr 1; omega]
      exact C1 o f s hc _ (fun o f s hc => br_le ((d.natAbs : Nat) : Int) 0 (fun c => by omega) (fun _ => hQ o f s hc))
    · unfold wX9_signedQuotient
      rw [show lI d = lI ((d.natAbs : Nat) : Int) by congr 1; omega]
      refine bl_le 0 ((d.natAbs : Nat) : Int) (fun _ => M1 k e v hv _ Q (fun v hv => ?_)) (fun c => by omega)
      exact bl_le ((d.natAbs : Nat) : Int) 0 (fun c => by omega) (fun _ => hQ v hv)
  · obtain ⟨e2, w2, C2, M2⟩ := o_ng w1 (by omega) l1
    refine ⟨N1 + 1, N1 + 1, e2, by omega, by omega, Nat.le_refl _, w2, fun o f s hc Q hQ => ?_, fun k e v hv Q hQ => ?_⟩
    · unfold wX0_signedQuotient
      rw [if_neg (show ¬ (0 : Int32) ≤ iI d from fun q => absurd ((iI_le (a := 0) (by omega) (by omega) (by omega) (by omega)).mp q) (by omega)), show 0 - iI d = iI ((d.natAbs : Nat) : Int) by show iI 0 - iI d = _; rw [iI_sub]; congr 1; omega]
      exact C1 o f s hc _ (fun o f s hc => br_le d 0 (fun _ => C2 o f s hc _ hQ) (fun c => by omega))
    · unfold wX9_signedQuotient
      refine bl_le 0 d (fun c => by omega) (fun _ => ?_)
      rw [show 0 - lI d = lI ((d.natAbs : Nat) : Int) by show lI 0 - lI d = _; rw [lI_sub]; congr 1; omega]
      exact M1 k e v hv _ Q (fun v hv => bl_le d 0 (fun _ => M2 k e v hv _ hQ) (fun c => by omega))
