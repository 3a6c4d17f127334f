/-! reach -/
def cF (a b : Int) : Int := if a ≤ 0 then 0 else (a - 1) / b + 1
theorem cF_ok {a b : Int} (hb : 1 ≤ b) : 0 ≤ cF a b ∧ a ≤ cF a b * b ∧ (∀ x, 0 ≤ x → x < cF a b → x * b < a) ∧ (cF a b ≤ a ∨ cF a b = 0) ∧ (cF a b * b ≤ a + b ∨ cF a b = 0) := by
  unfold cF
  split
  · exact ⟨Int.le_refl _, by omega, fun x h1 h2 => by omega, Or.inr rfl, Or.inr rfl⟩
  · have e := emz (a - 1) b
    have m0 : 0 ≤ (a - 1) % b := Int.emod_nonneg _ (by omega)
    have m1 : (a - 1) % b < b := Int.emod_lt_of_pos _ (by omega)
    have q0 : 0 ≤ (a - 1) / b := Int.ediv_nonneg (by omega) (by omega)
    have q1 := Int.ediv_le_self (a := a - 1) b (by omega)
    refine ⟨by omega, by rw [Int.add_mul]; omega, fun x h1 h2 => ?_, Or.inl (by omega), Or.inl (by rw [Int.add_mul]; omega)⟩
    have := Int.mul_le_mul_of_nonneg_right (show x ≤ (a - 1) / b by omega) (show 0 ≤ b by omega)
    omega
theorem c_ceilOf {a b : Int} (a1 : -4611686018427387904 ≤ a) (a2 : a < 4611686018427387904) (b1 : 1 ≤ b) (b2 : b < 4611686018427387904) {Q : Int64 → Prop} (hQ : Q (lI (cF a b))) : wX4_ceilOf (lI a) (lI b) Q := by
  unfold wX4_ceilOf
  unfold cF at hQ
  refine bl_le a 0 (fun c => ?_) (fun c => bl_le 1 b (fun _ => ⟨lI_ne0 (by omega) (by omega) (by omega), ?_⟩) (fun d => by omega))
  · rw [if_pos c] at hQ; exact hQ
  · rw [if_neg (by omega)] at hQ
    show Q ((lI a - lI 1) / lI b + lI 1)
    rw [lI_sub, lI_div (by omega) (by omega) (by omega) (by omega), lI_add]; exact hQ
def qF (m S d : Int) : Int := cF (S - (d - 1) * m) (d * m - S)
def rF (m S d : Int) : Int := if d * m - S = 0 then 1000001 else if d * m - S < 0 then d else qF m S d * d + cF (S - qF m S d * (d * m - S)) m
theorem nmul_e (q r d m S : Int) : (q * d + r) * m = q * S + (q * (d * m - S) + r * m) := by
  rw [Int.add_mul, Int.mul_sub, Int.mul_assoc]; omega
theorem rc_ok {m S d : Int} (hm : 0 ≤ m) (hS : 1 ≤ S) (hd : 1 ≤ d) (he : 0 < d * m - S) : 1 ≤ m ∧ 0 ≤ qF m S d ∧ 0 ≤ cF (S - qF m S d * (d * m - S)) m ∧ cF (S - qF m S d * (d * m - S)) m ≤ d - 1 ∧ S ≤ qF m S d * (d * m - S) + cF (S - qF m S d * (d * m - S)) m * m ∧ (∀ x, 0 ≤ x → x < qF m S d → x * (d * m - S) + (d - 1) * m < S) ∧ (∀ x, 0 ≤ x → x < cF (S - qF m S d * (d * m - S)) m → qF m S d * (d * m - S) + x * m < S) := by
  have m1 : 1 ≤ m := by
    by_cases c : m = 0
    · rw [c, Int.mul_zero] at he; omega
    · omega
  obtain ⟨a1, a2, a3, -, -⟩ := cF_ok (a := S - (d - 1) * m) (b := d * m - S) (by omega)
  obtain ⟨b1, b2, b3, -, -⟩ := cF_ok (a := S - qF m S d * (d * m - S)) (b := m) m1
  change 0 ≤ qF m S d at a1
  change S - (d - 1) * m ≤ qF m S d * (d * m - S) at a2
  change ∀ x, 0 ≤ x → x < qF m S d → x * (d * m - S) < S - (d - 1) * m at a3
  refine ⟨m1, a1, b1, ?_, by omega, fun x h1 h2 => by have := a3 x h1 h2; omega, fun x h1 h2 => by have := b3 x h1 h2; omega⟩
  refine Int.not_lt.mp (fun c => ?_)
  have := b3 (d - 1) (by omega) c
  omega
theorem r_lt {m S d : Int} (hm : 0 ≤ m) (hS : 1 ≤ S) (hd : 1 ≤ d) {n : Int} (n0 : 0 ≤ n) (h : n < rF m S d) : n * m / S = n / d := by
  have en := emz n d
  have r0 : 0 ≤ n % d := Int.emod_nonneg _ (by omega)
  have r1 : n % d < d := Int.emod_lt_of_pos _ (by omega)
  have q0 : 0 ≤ n / d := Int.ediv_nonneg n0 (by omega)
  have e := nmul_e (n / d) (n % d) d m S
  rw [← en] at e
  unfold rF at h
  have rm0 : 0 ≤ n % d * m := Int.mul_nonneg r0 hm
  split at h
  · rename_i c
    rw [c, Int.mul_zero] at e
    have k : n % d * m ≤ (d - 1) * m := Int.mul_le_mul_of_nonneg_right (by omega) hm
    rw [Int.sub_mul, Int.one_mul] at k
    have m1 : 1 ≤ m := by
      by_cases c2 : m = 0
      · rw [c2, Int.mul_zero] at c; omega
      · omega
    refine fl_u (by omega) (by omega) ?_
    rw [Int.add_mul]; omega
  split at h
  · rename_i c1 c2
    have hq : n / d = 0 := Int.ediv_eq_zero_of_lt n0 h
    rw [hq]
    have k : n * m ≤ (d - 1) * m := Int.mul_le_mul_of_nonneg_right (by omega) hm
    rw [Int.sub_mul, Int.one_mul] at k
    exact Int.ediv_eq_zero_of_lt (Int.mul_nonneg n0 hm) (by omega)
  · rename_i c1 c2
    obtain ⟨m1, a1, b1, b2, a4, a5, a6⟩ := rc_ok hm hS hd (by omega)
    generalize cF (S - qF m S d * (d * m - S)) m = R at *
    generalize qF m S d = Qq at *
    have x0 : 0 ≤ n / d * (d * m - S) := Int.mul_nonneg q0 (by omega)
    have key : n / d * (d * m - S) + n % d * m < S := by
      by_cases c : n / d < Qq
      · have k1 := a5 _ q0 c
        have k2 : n % d * m ≤ (d - 1) * m := Int.mul_le_mul_of_nonneg_right (by omega) hm
        omega
      · have c3 : n / d = Qq := by
          by_cases c4 : Qq + 1 ≤ n / d
          · have := Int.mul_le_mul_of_nonneg_right c4 (show 0 ≤ d by omega)
            rw [Int.add_mul, Int.one_mul] at this
            omega
          · omega
        rw [c3] at en ⊢
        exact a6 _ r0 (by omega)
    refine fl_u (by omega) (by omega) ?_
    rw [Int.add_mul, Int.one_mul]; omega
theorem r_at {m S d : Int} (hm : 0 ≤ m) (hS : 1 ≤ S) (hd : 1 ≤ d) (h : rF m S d ≤ 1000000) : 0 ≤ rF m S d ∧ rF m S d * m / S ≠ rF m S d / d := by
  unfold rF at h ⊢
  split
  · rename_i c
    rw [if_pos c] at h; omega
  · rename_i c
    split
    · rename_i c2
      refine ⟨by omega, ?_⟩
      rw [Int.ediv_self (show d ≠ 0 by omega), Int.ediv_eq_zero_of_lt (Int.mul_nonneg (by omega) hm) (by omega)]
      decide
    · rename_i c2
      obtain ⟨m1, a1, b1, b2, a4, a5, a6⟩ := rc_ok hm hS hd (by omega)
      generalize cF (S - qF m S d * (d * m - S)) m = R at *
      generalize qF m S d = Qq at *
      refine ⟨Int.add_nonneg (Int.mul_nonneg a1 (by omega)) b1, ?_⟩
      have e1 : (Qq * d + R) / d = Qq := fl_u (by omega) (by omega) (by rw [Int.add_mul, Int.one_mul]; omega)
      rw [e1, nmul_e Qq R d m S]
      have e2 : Qq + 1 ≤ (Qq * S + (Qq * (d * m - S) + R * m)) / S := Int.le_ediv_of_mul_le (by omega) (by rw [Int.add_mul, Int.one_mul]; omega)
      omega
theorem c_fu {m S d : Int} (m0 : 0 ≤ m) (m1 : m ≤ 1000000) (s0 : 1 ≤ S) (s1 : S ≤ 1099511627776) (d0 : 1 ≤ d) (d1 : d ≤ 65535) {Q : Int64 → Prop} (hQ : -9223372036854775808 ≤ rF m S d → rF m S d < 9223372036854775808 → Q (lI (rF m S d))) : wX4_firstUnreached (lI m) (lI S) (lI d) Q := by
  have hb := mul_b (x := d) (y := m) (h := 1000000) (by omega) (by omega) (by omega) (by omega)
  have hb1 := mul_b (x := d - 1) (y := m) (h := 1000000) (by omega) (by omega) (by omega) (by omega)
  unfold wX4_firstUnreached
  intro x hx
  rw [lI_mul, lI_sub] at hx
  subst hx
  unfold rF at hQ
  refine bl_eq (d * m - S) 0 (fun c => ?_) (fun c => bl_le 0 (d * m - S) (fun c2 => ?_) (fun c2 => ?_))
  · rw [if_pos c] at hQ; exact hQ (by decide) (by decide)
  · rw [if_neg c, if_neg (by omega)] at hQ
    obtain ⟨k1, a1, b1, b2, a4, a5, a6⟩ := rc_ok m0 s0 d0 (show 0 < d * m - S by omega)
    obtain ⟨-, -, -, q1, q2⟩ := cF_ok (a := S - (d - 1) * m) (b := d * m - S) (by omega)
    have q1 : qF m S d ≤ S - (d - 1) * m ∨ qF m S d = 0 := q1
    have q2 : qF m S d * (d * m - S) ≤ S - (d - 1) * m + (d * m - S) ∨ qF m S d = 0 := q2
    have qb : qF m S d ≤ 2199023255552 := by omega
    have eb : 0 ≤ qF m S d * (d * m - S) := Int.mul_nonneg a1 (by omega)
    have eb2 : qF m S d * (d * m - S) ≤ 4398046511104 := by
      rcases q2 with q2 | q2
      · omega
      · rw [q2, Int.zero_mul]; decide
    have db := Int.mul_le_mul qb (show d ≤ 65535 from d1) (by omega) (by decide)
    have db0 : 0 ≤ qF m S d * d := Int.mul_nonneg a1 (by omega)
    have hQ := hQ (by omega) (by omega)
    show wX4_ceilOf (lI S - (lI d - lI 1) * lI m) _ _
    rw [lI_sub, lI_mul, lI_sub]
    refine c_ceilOf (by omega) (by omega) (by omega) (by omega) ?_
    show wX4_ceilOf (lI S - lI (qF m S d) * _) _ (fun r => Q (lI (qF m S d) * _ + r))
    rw [lI_mul, lI_sub, lI_mul]
    refine c_ceilOf (by omega) (by omega) k1 (by omega) ?_
    rw [lI_add]; exact hQ
  · rw [if_neg c, if_pos (by omega)] at hQ; exact hQ (by omega) (by omega)
theorem m_re50 {m d : Int} {k : Nat} (m0 : 0 ≤ m) (m1 : m ≤ 1000000) (hk : k ≤ 40) (d0 : 1 ≤ d) (d1 : d ≤ 65535) {Q : Int32 → Int32 → Prop} (hQ : Q (iI (if rF m (2 ^ k) d ≤ 1000000 then rF m (2 ^ k) d else -1)) 0) : ∀ j n : Nat, n + j = 1000001 → (n : Int) ≤ rF m (2 ^ k) d → wX9_reach_50 (iI m) (iI k) (iI d) Q (j + 1) (lI n)
  | 0, n, hn, hF => by
    rw [wX9_reach_50]
    refine bl_lt 1000000 n (fun _ => ?_) (fun c => by omega)
    rw [if_neg (by omega)] at hQ
    exact hQ
  | j + 1, n, hn, hF => by
    have hp := p2pos k
    have hq : (2 : Int) ^ k ≤ 2 ^ 40 := p2le hk
    have h40 : (2 : Int) ^ 40 = 1099511627776 := by decide
    have hb := mul_b (x := (n : Int)) (y := m) (h := 1000000) (by omega) (by omega) (by omega) (by omega)
    have hb0 : 0 ≤ (n : Int) * m := Int.mul_nonneg (by omega) m0
    have f1 := Int.ediv_le_self (a := (n : Int) * m) (2 ^ k) hb0
    have f0 : 0 ≤ (n : Int) * m / 2 ^ k := Int.ediv_nonneg hb0 (by omega)
    have f3 := Int.ediv_le_self (a := (n : Int)) d (by omega)
    have f2 : 0 ≤ (n : Int) / d := Int.ediv_nonneg (by omega) (by omega)
    rw [wX9_reach_50, iI_l (by omega) (by omega), iI_l (by omega) (by omega)]
    refine bl_lt 1000000 n (fun c => by omega) (fun _ => m_pow (by omega) ⟨lI_ne0 (by omega) (by omega) (by omega), lI_ne0 (by omega) (by omega) (by omega), ?_⟩)
    rw [lI_mul, lI_div hb0 (by omega) (by omega) (by omega), lI_div (by omega) (by omega) (by omega) (by omega)]
    refine bl_eq ((n : Int) * m / 2 ^ k) ((n : Int) / d) (fun c x hx => ?_) (fun c => ?_)
    · have e1 : x = lI ((n + 1 : Nat) : Int) := by rw [hx]; show lI n + lI 1 = _; rw [lI_add]; rfl
      rw [e1]
      refine m_re50 m0 m1 hk d0 d1 hQ j (n + 1) (by omega) ?_
      refine Int.not_lt.mp (fun c2 => ?_)
      have e2 : rF m (2 ^ k) d = n := by omega
      have := r_at m0 (show 1 ≤ (2 : Int) ^ k by omega) d0 (by omega)
      rw [e2] at this
      exact this.2 c
    · have e2 : rF m (2 ^ k) d = n := by
        refine Int.le_antisymm (Int.not_lt.mp (fun c2 => ?_)) hF
        exact c (r_lt m0 (show 1 ≤ (2 : Int) ^ k by omega) d0 (by omega) c2)
      rw [e2, if_pos (by omega)] at hQ
      rw [lI_i]; exact hQ

set_option maxHeartbeats 1000000 in
theorem s_28 {L : Nat} {xs : Nat → Int32} (hL : L ≤ 3072) {aP : Nat → Nat} {i : Int32} (hi0 : 0 ≤ i.toInt) (hi6 : i.toInt + 6 ≤ L) {t_generator_input : Int32} {t_program_width : Int32} {t_program_length : Int32} {t_program_result : Int32} {t_program_taskKind : Int32} {t_program_taskDivisor : Int32} {f_t_program_operations : Nat → Int32} {f_t_program_firsts : Nat → Int32} {f_t_program_seconds : Nat → Int32} {f_t_costs : Nat → Int32} {t_history_next : Int32} {t_history_kept : Int32} {f_t_machine_values : Nat → Int32} {f_t_machine_depths : Nat → Int32} {f_t_tidier_newNumbers : Nat → Int32} {f_t_tidier_needed : Nat → Int32} {t_listing_left : Int32} {t_listing_seen : Int32} {sW : Nat → Int32} {sL : Nat → Int32} {sR : Nat → Int32} {sK : Nat → Int32} {sD : Nat → Int32} {sO : Nat → Nat → Int32} {sF : Nat → Nat → Int32} {sS : Nat → Nat → Int32} {k_edits : Int32} {k_thrown : Int32} {k_outs : Int32} {f_k_v : Nat → Int32} {f_k_past : Nat → Int32} {f_k_costs : Nat → Int32} {f_k_into : Nat → Int32} {f_k_isNeeded : Nat → Int32} {f_k_depths : Nat → Int32} {f_k_names : Nat → Int32} {f_k_out : Nat → Int32} {f_k_has : Nat → Int64} {f_out : Nat → Int64} (hR : Rel t_generator_input t_program_width t_program_length t_program_result t_program_taskKind t_program_taskDivisor f_t_program_operations f_t_program_firsts f_t_program_seconds f_t_costs t_history_next t_history_kept f_t_machine_values f_t_machine_depths f_t_tidier_newNumbers f_t_tidier_needed t_listing_left t_listing_seen sW sL sR sK sD sO sF sS k_edits k_thrown k_outs f_k_v f_k_past f_k_costs f_k_into f_k_isNeeded f_k_depths f_k_names f_k_out f_k_has f_out) : wc_28 L xs aP i t_generator_input t_program_width t_program_length t_program_result t_program_taskKind t_program_taskDivisor f_t_program_operations f_t_program_firsts f_t_program_seconds f_t_costs t_history_next t_history_kept f_t_machine_values f_t_machine_depths f_t_tidier_newNumbers f_t_tidier_needed t_listing_left t_listing_seen sW sL sR sK sD sO sF sS k_edits k_thrown k_outs f_k_v f_k_past f_k_costs f_k_into f_k_isNeeded f_k_depths f_k_names f_k_out f_k_has f_out Rel := by
  have hR' := hR
  obtain ⟨gi, hcst, hnm, hd0, ⟨W, N, R, kd, dv, code⟩, nx, E, hs, hw, hc, hm, hx, hE8, hws, hch, hmh⟩ := hR
  have w4 : 4 ≤ W := hw.1
  have w16 : W ≤ 16 := hw.2.1
  have n40 : N ≤ 40 := hw.2.2.1
  have rN : R ≤ N := hw.2.2.2.1
  have tk : kd = -1 ∨ tsk W kd dv := hw.2.2.2.2.1
  have wfc : ∀ i, i < N → wfI W i (code i) := hw.2.2.2.2.2
  obtain ⟨p16, pm, ph⟩ := pw w4 w16
  have e1 : t_program_width = iI W := hc.1
  have e2 : t_program_length = iI N := hc.2.1
  have e3 : t_program_result = iI R := hc.2.2.1
  have e4 : t_program_taskKind = iI kd := hc.2.2.2.1
  have hd : kd ≠ -1 → t_program_taskDivisor = iI dv := hc.2.2.2.2.1
  have hcc : cCode N code f_t_program_operations f_t_program_firsts f_t_program_seconds := hc.2.2.2.2.2
  have hv0 : f_k_v 0 = iI W := hm.1
  have hv3 : f_k_v 3 = iI N := hm.2.1
  have hv4 : f_k_v 4 = iI R := hm.2.2.1
  have hv1 : f_k_v 1 = iI kd := hm.2.2.2.1
  have hv2 : kd ≠ -1 → f_k_v 2 = iI dv := hm.2.2.2.2.1
  have hmc : mCode N code f_k_v := hm.2.2.2.2.2
  have hpw := hPush_w hE8 hws hw
  subst e1 e2 e3 e4
  unfold wc_28
  refine ⟨ixl hL hi0 hi6 1 (by decide) (by decide), ixl hL hi0 hi6 2 (by decide) (by decide), ixl hL hi0 hi6 3 (by decide) (by decide), ?_⟩
  generalize xs (i + 1).toNatClampNeg = x
  generalize xs (i + 2).toNatClampNeg = y
  generalize xs (i + 3).toNatClampNeg = w
  obtain ⟨z, z1, z2, rfl⟩ := iI_of x
  obtain ⟨c, c1, c2, rfl⟩ := iI_of y
  obtain ⟨d, d1, d2, rfl⟩ := iI_of w
  unfold wL_reach wX8_reach wX9_reach wX9_reach_41 wX9_thrown wX9_fails
  refine c_req z 0 1000000 (fun a b => c_req c 0 40 (fun a2 b2 => c_req d 1 65535 (fun a3 b3 => ?_) (fun q => ?_)) (fun q => ?_)) (fun q => ?_)
  · obtain ⟨k, rfl⟩ : ∃ k : Nat, (k : Int) = c := ⟨c.toNat, by omega⟩
    have hp := p2pos k
    have hq : (2 : Int) ^ k ≤ 2 ^ 40 := p2le (by omega)
    have h40 : (2 : Int) ^ 40 = 1099511627776 := by decide
    rw [lI_p2 (by omega), iI_l z1 z2, iI_l d1 d2, iI_l c1 c2]
    refine c_fu a b (by omega) (by omega) a3 b3 (fun r1 r2 => ?_)
    have mdl : ∀ (Q : Int32 → Int32 → Prop), Q (iI (if rF z (2 ^ k) d ≤ 1000000 then rF z (2 ^ k) d else -1)) 0 → ∀ A : Int32 → Prop, wX9_in (lI z) 0 1000000 (fun r_11 => ((r_11 = 0 → A r_11) ∧ (¬ r_11 = 0 → wX9_in (lI k) 0 40 (fun r_23 => ((r_23 = 0 → A r_23) ∧ (¬ r_23 = 0 → wX9_in (lI d) 1 65535 (fun r_35 => ((r_35 = 0 → A r_35) ∧ (¬ r_35 = 0 → (∃ k9, wX9_reach_50 (iI z) (iI k) (iI d) Q k9 0)))))))))) := by
      intro Q hQ A
      exact m_in (a := 0) (b := 1000000) (by omega) (by omega) (by omega) (by omega) (by omega) (by omega) (fun _ _ => ⟨fun q => absurd q (by decide), fun _ => m_in (a := 0) (b := 40) (by omega) (by omega) (by omega) (by omega) (by omega) (by omega) (fun _ _ => ⟨fun q => absurd q (by decide), fun _ => m_in (a := 1) (b := 65535) (by omega) (by omega) (by omega) (by omega) (by omega) (by omega) (fun _ _ => ⟨fun q => absurd q (by decide), fun _ => ⟨_, m_re50 a b (by omega) a3 b3 hQ 1000001 0 rfl (by have e := @r_at z (2 ^ k) d a (by omega) a3; show (0 : Int) ≤ _; omega)⟩⟩) (fun e => absurd ⟨a3, b3⟩ e)⟩) (fun e => absurd ⟨a2, b2⟩ e)⟩) (fun e => absurd ⟨a, b⟩ e)
    refine bl_lt 1000000 (rF z (2 ^ k) d) (fun e => ⟨in01, ixl hL hi0 hi6 1 (by decide) (by decide), ixl hL hi0 hi6 2 (by decide) (by decide), ixl hL hi0 hi6 3 (by decide) (by decide), mdl _ ?_ _⟩) (fun e => ⟨in01, ixl hL hi0 hi6 1 (by decide) (by decide), ixl hL hi0 hi6 2 (by decide) (by decide), ixl hL hi0 hi6 3 (by decide) (by decide), mdl _ ?_ _⟩)
    · rw [if_neg (by omega)]
      exact end_ok (by rw [up00, im1]) hR'
    · rw [if_pos (by omega)]
      exact end_ok (by rw [up00, lI_i]) hR'
  · refine ⟨rfl, ixl hL hi0 hi6 1 (by decide) (by decide), ixl hL hi0 hi6 2 (by decide) (by decide), ixl hL hi0 hi6 3 (by decide) (by decide), ?_⟩
    rw [iI_l z1 z2, iI_l c1 c2, iI_l d1 d2]
    exact m_in (a := 0) (b := 1000000) (by omega) (by omega) (by omega) (by omega) (by omega) (by omega) (fun _ _ => ⟨fun q => absurd q (by decide), fun _ => m_in (a := 0) (b := 40) (by omega) (by omega) (by omega) (by omega) (by omega) (by omega) (fun _ _ => ⟨fun q => absurd q (by decide), fun _ => m_in (a := 1) (b := 65535) (by omega) (by omega) (by omega) (by omega) (by omega) (by omega) (fun e f => absurd ⟨e, f⟩ q) (fun _ => ⟨fun _ => end_no (by decide) hR', fun q => absurd rfl q⟩)⟩) (fun e => absurd ⟨a2, b2⟩ e)⟩) (fun e => absurd ⟨a, b⟩ e)
  · refine ⟨rfl, ixl hL hi0 hi6 1 (by decide) (by decide), ixl hL hi0 hi6 2 (by decide) (by decide), ixl hL hi0 hi6 3 (by decide) (by decide), ?_⟩
    rw [iI_l z1 z2, iI_l c1 c2, iI_l d1 d2]
    exact m_in (a := 0) (b := 1000000) (by omega) (by omega) (by omega) (by omega) (by omega) (by omega) (fun _ _ => ⟨fun q => absurd q (by decide), fun _ => m_in (a := 0) (b := 40) (by omega) (by omega) (by omega) (by omega) (by omega) (by omega) (fun e f => absurd ⟨e, f⟩ q) (fun _ => ⟨fun _ => end_no (by decide) hR', fun q => absurd rfl q⟩)⟩) (fun e => absurd ⟨a, b⟩ e)
  · refine ⟨rfl, ixl hL hi0 hi6 1 (by decide) (by decide), ixl hL hi0 hi6 2 (by decide) (by decide), ixl hL hi0 hi6 3 (by decide) (by decide), ?_⟩
    rw [iI_l z1 z2, iI_l c1 c2, iI_l d1 d2]
    exact m_in (a := 0) (b := 1000000) (by omega) (by omega) (by omega) (by omega) (by omega) (by omega) (fun e f => absurd ⟨e, f⟩ q) (fun _ => ⟨fun _ => end_no (by decide) hR', fun q => absurd rfl q⟩)
