/-! append -/
def opdOK (W N : Nat) (a : Bool) (z : Int) : Prop := 0 ≤ z ∧ (a = true → z < 2 ^ W) ∧ (a = false → z ≤ N)
def apOK (W N : Nat) (op : Int) (a : Bool) (za : Int) (b : Bool) (zb : Int) : Prop := (0 ≤ op ∧ op ≤ 11) ∧ opdOK W N a za ∧ opdOK W N b zb ∧ ((op ≤ 2 ∨ op = 10) → b = true ∧ zb < W)
theorem bN_t : bN true = 1 := rfl
theorem bN_f : bN false = 0 := rfl
theorem c_opd {W N : Nat} (w4 : 4 ≤ W) (w16 : W ≤ 16) (n40 : N ≤ 40) {a : Bool} {z : Int} (z1 : -2147483648 ≤ z) (z2 : z < 2147483648) {Q : Int32 → Prop} (hT : opdOK W N a z → Q 1) (hF : ¬ opdOK W N a z → Q 0) : wX5_allowsOperand (iI W) (iI N) (bN a) (iI z) Q := by
  obtain ⟨p16, pm, ph⟩ := pw w4 w16
  unfold wX5_allowsOperand
  rw [iI_p2 (by omega)]
  unfold opdOK at hT hF
  refine br_lt z 0 (fun c => hF (by omega)) (fun c => ?_)
  cases a with
  | true => exact ⟨fun q => absurd q (by decide), fun _ => br_le (2 ^ W) z (fun d => hF (fun q => by have := q.2.1 rfl; omega)) (fun d => hT ⟨c, fun _ => d, fun q => by cases q⟩)⟩
  | false => exact ⟨fun _ => br_lt N z (fun d => hF (fun q => by have := q.2.2 rfl; omega)) (fun d => hT ⟨c, fun q => (by cases q), fun _ => d⟩), fun q => absurd rfl q⟩
theorem m_opd {v : Nat → Int32} {W N : Nat} (hv0 : v 0 = iI W) (hv3 : v 3 = iI N) (w4 : 4 ≤ W) (w16 : W ≤ 16) (n40 : N ≤ 40) {a : Bool} {z : Int} (z1 : -2147483648 ≤ z) (z2 : z < 2147483648) {Q : Int32 → Prop} (hT : opdOK W N a z → Q 1) (hF : ¬ opdOK W N a z → Q 0) : wX9_isOperand v (bN a) (iI z) Q := by
  obtain ⟨p16, pm, ph⟩ := pw w4 w16
  unfold wX9_isOperand wX9_isOperand_23
  unfold opdOK at hT hF
  rw [iI_l z1 z2]
  cases a with
  | true =>
    refine ⟨fun q => absurd q (by decide), fun _ => m_all hv0 w16 ?_⟩
    have eA : lI (2 ^ W) - 1 = lI (2 ^ W - 1) := by show lI _ - lI 1 = _; rw [lI_sub]
    rw [eA]
    exact m_inB (a := 0) (fun c d => hT ⟨c, fun _ => by omega, fun q => by cases q⟩) (fun c => hF (fun q => by have := q.2.1 rfl; omega))
  | false =>
    refine ⟨fun _ => ⟨v3, ?_⟩, fun q => absurd rfl q⟩
    rw [g3, hv3, iI_l (by omega) (by omega)]
    exact m_inB (a := 0) (fun c d => hT ⟨c, fun q => (by cases q), fun _ => by omega⟩) (fun c => hF (fun q => by have := q.2.2 rfl; omega))
theorem c_shb {op : Int} (h0 : 0 ≤ op) (h11 : op ≤ 11) {Q : Int32 → Prop} (hT : (op ≤ 2 ∨ op = 10) → Q 1) (hF : ¬ (op ≤ 2 ∨ op = 10) → Q 0) : wX3_shiftsBits (iI op) Q := by
  unfold wX3_shiftsBits
  exact br_eq op 0 (fun _ => hT (by omega)) (fun _ => br_eq op 1 (fun _ => hT (by omega)) (fun _ => br_eq op 2 (fun _ => hT (by omega)) (fun _ => br_eq op 10 (fun _ => hT (by omega)) (fun _ => hF (by omega)))))
theorem m_shb {op : Int} (h0 : 0 ≤ op) (h11 : op ≤ 11) {Q : Int32 → Prop} (hT : (op ≤ 2 ∨ op = 10) → Q 1) (hF : ¬ (op ≤ 2 ∨ op = 10) → Q 0) : wX9_isShift (iI op) Q := by
  unfold wX9_isShift
  exact br_le op 2 (fun _ => hT (by omega)) (fun _ => br_eq op 10 (fun _ => hT (by omega)) (fun _ => hF (by omega)))
theorem cOp_t (n : Nat) : cOp (true, n) = iI n := rfl
theorem cOp_f (n : Nat) : cOp (false, n) = iI (-1 - n) := rfl

set_option maxHeartbeats 1000000 in
theorem c_app {aP : Nat → Nat} {W N R : Nat} {kd dv : Int} {code : Nat → Ins} (hw : wPrg (W, N, R, kd, dv, code)) {d : Int32} {o f s : Nat → Int32} (hc : cPrg (W, N, R, kd, dv, code) (iI W) (iI N) (iI R) (iI kd) d o f s) {nx E : Nat} {hs : Nat → Prg} (hx : nx < 8) (hE8 : E ≤ 8) {next : Int32} {kept : Int32} {sW : Nat → Int32} {sL : Nat → Int32} {sR : Nat → Int32} {sK : Nat → Int32} {sD : Nat → Int32} {sO : Nat → Nat → Int32} {sF : Nat → Nat → Int32} {sS : Nat → Nat → Int32}  (hH : cHist nx E hs next kept sW sL sR sK sD sO sF sS)
    {op za zb : Int} (o1 : -2147483648 ≤ op) (o2 : op < 2147483648) (a1 : -2147483648 ≤ za) (a2 : za < 2147483648) (b1 : -2147483648 ≤ zb) (b2 : zb < 2147483648) {a b : Bool} {Q : Int32 → Int32 → Int32 → (Nat → Int32) → (Nat → Int32) → (Nat → Int32) → Int32 → Int32 → (Nat → Int32) → (Nat → Int32) → (Nat → Int32) → (Nat → Int32) → (Nat → Int32) → (Nat → Nat → Int32) → (Nat → Nat → Int32) → (Nat → Nat → Int32) → Prop} {QX : String → Prop}
    (hT : apOK W N op a za b zb → N < 40 → ∀ o' f' s' next' kept' sW' sL' sR' sK' sD' sO' sF' sS', cCode (N + 1) (snoc N code (op.toNat, (a, za.toNat), (b, zb.toNat))) o' f' s' → cHist ((nx + 1) % 8) (hE E) (hPush E hs (W, N, R, kd, dv, code)) next' kept' sW' sL' sR' sK' sD' sO' sF' sS' → Q (iI ((N + 1 : Nat) : Int)) (iI ((N + 1 : Nat) : Int)) (iI ((N + 1 : Nat) : Int)) o' f' s' next' kept' sW' sL' sR' sK' sD' sO' sF' sS')
    (hF : ¬ apOK W N op a za b zb → QX xIA) (hS : apOK W N op a za b zb → N = 40 → QX xIS) : wX8_append aP (iI W) (iI N) (iI R) (iI kd) d o f s next kept sW sL sR sK sD sO sF sS (iI op) (bN a) (iI za) (bN b) (iI zb) Q QX := by
  have w4 : 4 ≤ W := hw.1
  have w16 : W ≤ 16 := hw.2.1
  have n40 : N ≤ 40 := hw.2.2.1
  have hcc : cCode N code o f s := hc.2.2.2.2.2
  unfold wX8_append wX8_append_10 wX8_append_46 wX8_append_80
  have body : apOK W N op a za b zb → wX8_append_90 (iI W) (iI N) (iI R) (iI kd) d o f s next kept sW sL sR sK sD sO sF sS (iI op) (bN a) (iI za) (bN b) (iI zb) aP Q QX := by
    intro hA
    unfold wX8_append_90
    refine br_lt N 40 (fun c => ?_) (fun c => hS hA (by omega))
    refine c_rem hw hc hx hE8 hH (fun next' kept' sW' sL' sR' sK' sD' sO' sF' sS' hch' => ?_)
    obtain ⟨⟨q0, q11⟩, ⟨qa, -⟩, ⟨qb, -⟩, -⟩ := id hA
    have eo : iI op = iI (((op.toNat, (a, za.toNat), (b, zb.toNat)) : Ins).1 : Int) := by congr 1; show op = (op.toNat : Int); omega
    have ta : iI za = iI (za.toNat : Int) := by congr 1; omega
    have tb : iI zb = iI (zb.toNat : Int) := by congr 1; omega
    have na : ((-1) : Int32) - iI za = iI (-1 - (za.toNat : Int)) := by show iI (-1) - _ = _; rw [iI_sub]; congr 1; omega
    have nb : ((-1) : Int32) - iI zb = iI (-1 - (zb.toNat : Int)) := by show iI (-1) - _ = _; rw [iI_sub]; congr 1; omega
    have fin : wX8_append_152 (iI N) o f s (iI op) Q next' kept' sW' sL' sR' sK' sD' sO' sF' sS' (cOp (a, za.toNat)) (cOp (b, zb.toNat)) := by
      unfold wX8_append_152
      rw [eo]
      refine c_write (op.toNat, (a, za.toNat), (b, zb.toNat)) (by omega) hcc (fun o' f' s' hc' => ?_)
      have := c_num (q := (false, N + 1)) (B := 41) (Q := fun r_170 => Q (iI ((N + 1 : Nat) : Int)) (iI ((N + 1 : Nat) : Int)) r_170 o' f' s' next' kept' sW' sL' sR' sK' sD' sO' sF' sS') (show N + 1 ≤ 41 by omega) (by decide) (hT hA (by omega) o' f' s' next' kept' sW' sL' sR' sK' sD' sO' sF' sS' hc' hch')
      rw [cOp_f] at this
      exact this
    unfold wX8_append_123 wX8_append_135 wX5_operandOf
    cases a with
    | true =>
      refine ⟨fun q => absurd q (by decide), fun _ => ?_⟩
      cases b with
      | true => exact ⟨fun q => absurd q (by decide), fun _ => by rw [ta, tb]; exact fin⟩
      | false => exact ⟨fun _ => by rw [ta, nb]; exact fin, fun q => absurd rfl q⟩
    | false =>
      refine ⟨fun _ => ?_, fun q => absurd rfl q⟩
      cases b with
      | true => exact ⟨fun q => absurd q (by decide), fun _ => by rw [na, tb]; exact fin⟩
      | false => exact ⟨fun _ => by rw [na, nb]; exact fin, fun q => absurd rfl q⟩
  refine br_lt op 0 (fun c => hF (fun q => by have := q.1; omega)) (fun c0 => br_le op 11 (fun c11 => ?_) (fun c => hF (fun q => by have := q.1; omega)))
  refine c_opd w4 w16 n40 a1 a2 (fun hoa => ⟨fun q => absurd q (by decide), fun _ => ?_⟩) (fun hoa => ⟨fun _ => hF (fun q => hoa q.2.1), fun q => absurd rfl q⟩)
  refine c_opd w4 w16 n40 b1 b2 (fun hob => ⟨fun q => absurd q (by decide), fun _ => ?_⟩) (fun hob => ⟨fun _ => hF (fun q => hob q.2.2.1), fun q => absurd rfl q⟩)
  refine c_shb c0 c11 (fun hsh => ⟨fun q => absurd q (by decide), fun _ => ?_⟩) (fun hsh => ⟨fun _ => body ⟨⟨c0, c11⟩, hoa, hob, fun q => absurd q hsh⟩, fun q => absurd rfl q⟩)
  cases b with
  | true => exact ⟨fun q => absurd q (by decide), fun _ => br_lt zb W (fun d => body ⟨⟨c0, c11⟩, hoa, hob, fun _ => ⟨rfl, d⟩⟩) (fun d => hF (fun q => by have := (q.2.2.2 hsh).2; omega))⟩
  | false => exact ⟨fun _ => hF (fun q => by have := (q.2.2.2 hsh).1; cases this), fun q => absurd rfl q⟩

set_option maxHeartbeats 1000000 in
theorem m_app {W N R : Nat} {kd dv : Int} {code : Nat → Ins} (hw : wPrg (W, N, R, kd, dv, code)) {v : Nat → Int32} (hm : mPrg (W, N, R, kd, dv, code) v) {E : Nat} {hs : Nat → Prg} (hE8 : E ≤ 8) (hws : ∀ e, e < E → wPrg (hs e)) {edits thrown : Int32} {past : Nat → Int32} (hH : mHist E hs edits past)
    {op za zb : Int} (o1 : -2147483648 ≤ op) (o2 : op < 2147483648) (a1 : -2147483648 ≤ za) (a2 : za < 2147483648) (b1 : -2147483648 ≤ zb) (b2 : zb < 2147483648) {a b : Bool} {Q : Int32 → Int32 → Int32 → (Nat → Int32) → (Nat → Int32) → Prop}
    (hT : apOK W N op a za b zb → N < 40 → ∀ edits' v' past', mPrg (W, N + 1, N + 1, kd, dv, snoc N code (op.toNat, (a, za.toNat), (b, zb.toNat))) v' → mHist (hE E) (hPush E hs (W, N, R, kd, dv, code)) edits' past' → Q (iI ((N + 1 : Nat) : Int)) edits' 0 v' past')
    (hF : ¬ apOK W N op a za b zb → Q 0 edits 1 v past) (hS : apOK W N op a za b zb → N = 40 → Q 0 edits 2 v past) : wX9_append edits thrown v past (iI op) (bN a) (iI za) (bN b) (iI zb) Q := by
  have w4 : 4 ≤ W := hw.1
  have w16 : W ≤ 16 := hw.2.1
  have n40 : N ≤ 40 := hw.2.2.1
  have hv0 : v 0 = iI W := hm.1
  have hv3 : v 3 = iI N := hm.2.1
  have hv4 : v 4 = iI R := hm.2.2.1
  have hv1 : v 1 = iI kd := hm.2.2.2.1
  have hv2 : kd ≠ -1 → v 2 = iI dv := hm.2.2.2.2.1
  have hmc : mCode N code v := hm.2.2.2.2.2
  unfold wX9_append wX9_append_41 wX9_append_42 wX9_append_72
  rw [iI_l o1 o2]
  have body : apOK W N op a za b zb → wX9_append_78 edits v past (iI op) (bN a) (iI za) (bN b) (iI zb) Q := by
    intro hA
    unfold wX9_append_78
    refine ⟨v3, ?_⟩
    rw [g3, hv3]
    refine br_eq N 40 (fun c => hS hA (by omega)) (fun c => ?_)
    refine m_edits n40 hm hE8 hws hH (fun edits' past' hmh' => ?_)
    obtain ⟨⟨q0, q11⟩, ⟨qa, -⟩, ⟨qb, -⟩, -⟩ := id hA
    rw [iI_l a1 a2, iI_l b1 b2, show iI op = iI (((op.toNat, (a, za.toNat), (b, zb.toNat)) : Ins).1 : Int) by congr 1; show op = (op.toNat : Int); omega, show lI za = lI (((op.toNat, (a, za.toNat), (b, zb.toNat)) : Ins).2.1.2 : Int) by congr 1; show za = (za.toNat : Int); omega, show lI zb = lI (((op.toNat, (a, za.toNat), (b, zb.toNat)) : Ins).2.2.2 : Int) by congr 1; show zb = (zb.toNat : Int); omega]
    refine m_writes (op.toNat, (a, za.toNat), (b, zb.toNat)) (by omega) hv3 hmc rfl rfl (fun v' k1 k2 k3 k4 k5 k6 => ⟨v4, v3, ?_⟩)
    have f3 : upd v' 4 (iI ((N + 1 : Nat) : Int)) 3 = iI ((N + 1 : Nat) : Int) := k5
    rw [g4, f3]
    exact hT hA (by omega) _ _ _ ⟨k2.trans hv0, k5, rfl, k3.trans hv1, fun q => k4.trans (hv2 q), mCode_ext k1 (fun j hj => pk_un (by omega))⟩ hmh'
  refine m_in (a := 0) (b := 11) (by omega) (by omega) (by omega) (by omega) (by omega) (by omega) (fun c0 c11 => ⟨fun q => absurd q (by decide), fun _ => ?_⟩) (fun c => ⟨fun _ => ⟨fun _ => hF (fun q => c q.1), fun q => absurd rfl q⟩, fun q => absurd rfl q⟩)
  refine m_opd hv0 hv3 w4 w16 n40 a1 a2 (fun hoa => ⟨fun q => absurd q (by decide), fun _ => ?_⟩) (fun hoa => ⟨fun _ => ⟨fun _ => hF (fun q => hoa q.2.1), fun q => absurd rfl q⟩, fun q => absurd rfl q⟩)
  refine m_opd hv0 hv3 w4 w16 n40 b1 b2 (fun hob => ⟨fun q => absurd q (by decide), fun _ => ⟨fun q => absurd q (by decide), fun _ => ?_⟩⟩) (fun hob => ⟨fun _ => ⟨fun _ => hF (fun q => hob q.2.2.1), fun q => absurd rfl q⟩, fun q => absurd rfl q⟩)
  refine m_shb c0 c11 (fun hsh => ⟨fun q => absurd q (by decide), fun _ => ?_⟩) (fun hsh => ⟨fun _ => body ⟨⟨c0, c11⟩, hoa, hob, fun q => absurd q hsh⟩, fun q => absurd rfl q⟩)
  cases b with
  | true =>
    refine ⟨fun q => absurd q (by decide), fun _ => ⟨v0, ?_⟩⟩
    rw [g0, hv0]
    exact br_lt zb W (fun d => body ⟨⟨c0, c11⟩, hoa, hob, fun _ => ⟨rfl, d⟩⟩) (fun d => hF (fun q => by have := (q.2.2.2 hsh).2; omega))
  | false => exact ⟨fun _ => hF (fun q => by have := (q.2.2.2 hsh).1; cases this), fun q => absurd rfl q⟩
theorem wf_snoc {W N : Nat} {code : Nat → Ins} {q : Ins} (h : ∀ i, i < N → wfI W i (code i)) (hq : wfI W N q) : ∀ i, i < N + 1 → wfI W i (snoc N code q i) := by
  intro i hi
  by_cases c : i = N
  · subst c; simp only [snoc, if_true]; exact hq
  · simp only [snoc, if_neg c]; exact h i (by omega)
theorem wf_ap {W N : Nat} {op za zb : Int} {a b : Bool} (h : apOK W N op a za b zb) : wfI W N (op.toNat, (a, za.toNat), (b, zb.toNat)) := by
  obtain ⟨⟨q0, q11⟩, ⟨qa, qa1, qa2⟩, ⟨qb, qb1, qb2⟩, qs⟩ := h
  refine ⟨?_, ⟨fun c => ?_, fun c => ?_⟩, ⟨fun c => ?_, fun c => ?_⟩, fun c => ?_⟩
  · show op.toNat ≤ 11; omega
  · have := qa1 c; show ((za.toNat : Nat) : Int) < 2 ^ W; omega
  · have := qa2 c; show za.toNat ≤ N; omega
  · have := qb1 c; show ((zb.toNat : Nat) : Int) < 2 ^ W; omega
  · have := qb2 c; show zb.toNat ≤ N; omega
  · have c' : op.toNat ≤ 2 ∨ op.toNat = 10 := c
    have := qs (by omega)
    exact ⟨this.1, by show zb.toNat < W; omega⟩

set_option maxHeartbeats 1000000 in
theorem s_10 {L : Nat} {xs : Nat → Int32} (hL : L ≤ 3072) {aP : Nat → Nat} {i : Int32} (hi0 : 0 ≤ i.toInt) (hi6 : i.toInt + 6 ≤ L) {t_generator_input : Int32} {t_program_width : Int32} {t_program_length : Int32} {t_program_result : Int32} {t_program_taskKind : Int32} {t_program_taskDivisor : Int32} {f_t_program_operations : Nat → Int32} {f_t_program_firsts : Nat → Int32} {f_t_program_seconds : Nat → Int32} {f_t_costs : Nat → Int32} {t_history_next : Int32} {t_history_kept : Int32} {f_t_machine_values : Nat → Int32} {f_t_machine_depths : Nat → Int32} {f_t_tidier_newNumbers : Nat → Int32} {f_t_tidier_needed : Nat → Int32} {t_listing_left : Int32} {t_listing_seen : Int32} {sW : Nat → Int32} {sL : Nat → Int32} {sR : Nat → Int32} {sK : Nat → Int32} {sD : Nat → Int32} {sO : Nat → Nat → Int32} {sF : Nat → Nat → Int32} {sS : Nat → Nat → Int32} {k_edits : Int32} {k_thrown : Int32} {k_outs : Int32} {f_k_v : Nat → Int32} {f_k_past : Nat → Int32} {f_k_costs : Nat → Int32} {f_k_into : Nat → Int32} {f_k_isNeeded : Nat → Int32} {f_k_depths : Nat → Int32} {f_k_names : Nat → Int32} {f_k_out : Nat → Int32} {f_k_has : Nat → Int64} {f_out : Nat → Int64} (hR : Rel t_generator_input t_program_width t_program_length t_program_result t_program_taskKind t_program_taskDivisor f_t_program_operations f_t_program_firsts f_t_program_seconds f_t_costs t_history_next t_history_kept f_t_machine_values f_t_machine_depths f_t_tidier_newNumbers f_t_tidier_needed t_listing_left t_listing_seen sW sL sR sK sD sO sF sS k_edits k_thrown k_outs f_k_v f_k_past f_k_costs f_k_into f_k_isNeeded f_k_depths f_k_names f_k_out f_k_has f_out) : wc_10 L xs aP i t_generator_input t_program_width t_program_length t_program_result t_program_taskKind t_program_taskDivisor f_t_program_operations f_t_program_firsts f_t_program_seconds f_t_costs t_history_next t_history_kept f_t_machine_values f_t_machine_depths f_t_tidier_newNumbers f_t_tidier_needed t_listing_left t_listing_seen sW sL sR sK sD sO sF sS k_edits k_thrown k_outs f_k_v f_k_past f_k_costs f_k_into f_k_isNeeded f_k_depths f_k_names f_k_out f_k_has f_out Rel := by
  have hR' := hR
  obtain ⟨gi, hcst, hnm, hd0, ⟨W, N, R, kd, dv, code⟩, nx, E, hs, hw, hc, hm, hx, hE8, hws, hch, hmh⟩ := hR
  have w4 : 4 ≤ W := hw.1
  have w16 : W ≤ 16 := hw.2.1
  have n40 : N ≤ 40 := hw.2.2.1
  have rN : R ≤ N := hw.2.2.2.1
  have tk : kd = -1 ∨ tsk W kd dv := hw.2.2.2.2.1
  have wfc : ∀ i, i < N → wfI W i (code i) := hw.2.2.2.2.2
  obtain ⟨p16, pm, ph⟩ := pw w4 w16
  have e1 : t_program_width = iI W := hc.1
  have e2 : t_program_length = iI N := hc.2.1
  have e3 : t_program_result = iI R := hc.2.2.1
  have e4 : t_program_taskKind = iI kd := hc.2.2.2.1
  have hd : kd ≠ -1 → t_program_taskDivisor = iI dv := hc.2.2.2.2.1
  have hcc : cCode N code f_t_program_operations f_t_program_firsts f_t_program_seconds := hc.2.2.2.2.2
  have hv0 : f_k_v 0 = iI W := hm.1
  have hv3 : f_k_v 3 = iI N := hm.2.1
  have hv4 : f_k_v 4 = iI R := hm.2.2.1
  have hv1 : f_k_v 1 = iI kd := hm.2.2.2.1
  have hv2 : kd ≠ -1 → f_k_v 2 = iI dv := hm.2.2.2.2.1
  have hmc : mCode N code f_k_v := hm.2.2.2.2.2
  have hpw := hPush_w hE8 hws hw
  subst e1 e2 e3 e4
  unfold wc_10
  obtain ⟨op, o1, o2, eo⟩ := iI_of (xs (i + 1).toNatClampNeg)
  obtain ⟨za, a1, a2, ea⟩ := iI_of (xs (i + 3).toNatClampNeg)
  obtain ⟨zb, b1, b2, eb⟩ := iI_of (xs (i + 5).toNatClampNeg)
  rw [eo, ea, eb]
  refine ⟨ixl hL hi0 hi6 1 (by decide) (by decide), ixl hL hi0 hi6 2 (by decide) (by decide), fun q2 => ⟨ixl hL hi0 hi6 3 (by decide) (by decide), ixl hL hi0 hi6 4 (by decide) (by decide), fun q4 => ⟨ixl hL hi0 hi6 5 (by decide) (by decide), ?_⟩, fun q4 => ⟨ixl hL hi0 hi6 5 (by decide) (by decide), ?_⟩⟩, fun q2 => ⟨ixl hL hi0 hi6 3 (by decide) (by decide), ixl hL hi0 hi6 4 (by decide) (by decide), fun q4 => ⟨ixl hL hi0 hi6 5 (by decide) (by decide), ?_⟩, fun q4 => ⟨ixl hL hi0 hi6 5 (by decide) (by decide), ?_⟩⟩⟩
  · unfold wL_append
    refine c_app (a := false) (b := false) hw hc hx hE8 hch o1 o2 a1 a2 b1 b2 (fun hA hN o' f' s' next' kept' sW' sL' sR' sK' sD' sO' sF' sS' hcc' hch' => ⟨in01, ⟨ixl hL hi0 hi6 1 (by decide) (by decide), ixl hL hi0 hi6 2 (by decide) (by decide), ⟨fun _ => ⟨ixl hL hi0 hi6 3 (by decide) (by decide), ixl hL hi0 hi6 4 (by decide) (by decide), ⟨fun _ => ⟨ixl hL hi0 hi6 5 (by decide) (by decide), ?_⟩, fun c => absurd q4 c⟩⟩, fun c => absurd q2 c⟩⟩⟩) (fun hA => Or.inl ⟨rfl, ⟨ixl hL hi0 hi6 1 (by decide) (by decide), ixl hL hi0 hi6 2 (by decide) (by decide), ⟨fun _ => ⟨ixl hL hi0 hi6 3 (by decide) (by decide), ixl hL hi0 hi6 4 (by decide) (by decide), ⟨fun _ => ⟨ixl hL hi0 hi6 5 (by decide) (by decide), ?_⟩, fun c => absurd q4 c⟩⟩, fun c => absurd q2 c⟩⟩⟩) (fun hA hN => Or.inr ⟨rfl, ⟨ixl hL hi0 hi6 1 (by decide) (by decide), ixl hL hi0 hi6 2 (by decide) (by decide), ⟨fun _ => ⟨ixl hL hi0 hi6 3 (by decide) (by decide), ixl hL hi0 hi6 4 (by decide) (by decide), ⟨fun _ => ⟨ixl hL hi0 hi6 5 (by decide) (by decide), ?_⟩, fun c => absurd q4 c⟩⟩, fun c => absurd q2 c⟩⟩⟩)
    · refine m_app (a := false) (b := false) hw hm hE8 hws hmh o1 o2 a1 a2 b1 b2 (fun _ _ edits' v' past' hm' hmh' => end_ok rfl ?_) (fun q => absurd hA q) (fun _ q => absurd q (by omega))
      exact ⟨gi, hcst, hnm, hd0, (W, N + 1, N + 1, kd, dv, snoc N code (op.toNat, (false, za.toNat), (false, zb.toNat))), _, _, _, ⟨w4, w16, (by omega : N + 1 ≤ 40), Nat.le_refl _, tk, wf_snoc wfc (wf_ap hA)⟩, ⟨rfl, rfl, rfl, rfl, hd, hcc'⟩, hm', Nat.mod_lt _ (by decide), hE_le hE8, hpw, hch', hmh'⟩
    · exact m_app (a := false) (b := false) hw hm hE8 hws hmh o1 o2 a1 a2 b1 b2 (fun q => absurd q hA) (fun _ => end_no (by decide) hR') (fun q => absurd q hA)
    · exact m_app (a := false) (b := false) hw hm hE8 hws hmh o1 o2 a1 a2 b1 b2 (fun _ q => absurd q (by omega)) (fun q => absurd hA q) (fun _ _ => end_no (by decide) hR')
  · unfold wL_append
    refine c_app (a := false) (b := true) hw hc hx hE8 hch o1 o2 a1 a2 b1 b2 (fun hA hN o' f' s' next' kept' sW' sL' sR' sK' sD' sO' sF' sS' hcc' hch' => ⟨in01, ⟨ixl hL hi0 hi6 1 (by decide) (by decide), ixl hL hi0 hi6 2 (by decide) (by decide), ⟨fun _ => ⟨ixl hL hi0 hi6 3 (by decide) (by decide), ixl hL hi0 hi6 4 (by decide) (by decide), ⟨fun c => absurd c q4, fun _ => ⟨ixl hL hi0 hi6 5 (by decide) (by decide), ?_⟩⟩⟩, fun c => absurd q2 c⟩⟩⟩) (fun hA => Or.inl ⟨rfl, ⟨ixl hL hi0 hi6 1 (by decide) (by decide), ixl hL hi0 hi6 2 (by decide) (by decide), ⟨fun _ => ⟨ixl hL hi0 hi6 3 (by decide) (by decide), ixl hL hi0 hi6 4 (by decide) (by decide), ⟨fun c => absurd c q4, fun _ => ⟨ixl hL hi0 hi6 5 (by decide) (by decide), ?_⟩⟩⟩, fun c => absurd q2 c⟩⟩⟩) (fun hA hN => Or.inr ⟨rfl, ⟨ixl hL hi0 hi6 1 (by decide) (by decide), ixl hL hi0 hi6 2 (by decide) (by decide), ⟨fun _ => ⟨ixl hL hi0 hi6 3 (by decide) (by decide), ixl hL hi0 hi6 4 (by decide) (by decide), ⟨fun c => absurd c q4, fun _ => ⟨ixl hL hi0 hi6 5 (by decide) (by decide), ?_⟩⟩⟩, fun c => absurd q2 c⟩⟩⟩)
    · refine m_app (a := false) (b := true) hw hm hE8 hws hmh o1 o2 a1 a2 b1 b2 (fun _ _ edits' v' past' hm' hmh' => end_ok rfl ?_) (fun q => absurd hA q) (fun _ q => absurd q (by omega))
      exact ⟨gi, hcst, hnm, hd0, (W, N + 1, N + 1, kd, dv, snoc N code (op.toNat, (false, za.toNat), (true, zb.toNat))), _, _, _, ⟨w4, w16, (by omega : N + 1 ≤ 40), Nat.le_refl _, tk, wf_snoc wfc (wf_ap hA)⟩, ⟨rfl, rfl, rfl, rfl, hd, hcc'⟩, hm', Nat.mod_lt _ (by decide), hE_le hE8, hpw, hch', hmh'⟩
    · exact m_app (a := false) (b := true) hw hm hE8 hws hmh o1 o2 a1 a2 b1 b2 (fun q => absurd q hA) (fun _ => end_no (by decide) hR') (fun q => absurd q hA)
    · exact m_app (a := false) (b := true) hw hm hE8 hws hmh o1 o2 a1 a2 b1 b2 (fun _ q => absurd q (by omega)) (fun q => absurd hA q) (fun _ _ => end_no (by decide) hR')
  · unfold wL_append
    refine c_app (a := true) (b := false) hw hc hx hE8 hch o1 o2 a1 a2 b1 b2 (fun hA hN o' f' s' next' kept' sW' sL' sR' sK' sD' sO' sF' sS' hcc' hch' => ⟨in01, ⟨ixl hL hi0 hi6 1 (by decide) (by decide), ixl hL hi0 hi6 2 (by decide) (by decide), ⟨fun c => absurd c q2, fun _ => ⟨ixl hL hi0 hi6 3 (by decide) (by decide), ixl hL hi0 hi6 4 (by decide) (by decide), ⟨fun _ => ⟨ixl hL hi0 hi6 5 (by decide) (by decide), ?_⟩, fun c => absurd q4 c⟩⟩⟩⟩⟩) (fun hA => Or.inl ⟨rfl, ⟨ixl hL hi0 hi6 1 (by decide) (by decide), ixl hL hi0 hi6 2 (by decide) (by decide), ⟨fun c => absurd c q2, fun _ => ⟨ixl hL hi0 hi6 3 (by decide) (by decide), ixl hL hi0 hi6 4 (by decide) (by decide), ⟨fun _ => ⟨ixl hL hi0 hi6 5 (by decide) (by decide), ?_⟩, fun c => absurd q4 c⟩⟩⟩⟩⟩) (fun hA hN => Or.inr ⟨rfl, ⟨ixl hL hi0 hi6 1 (by decide) (by decide), ixl hL hi0 hi6 2 (by decide) (by decide), ⟨fun c => absurd c q2, fun _ => ⟨ixl hL hi0 hi6 3 (by decide) (by decide), ixl hL hi0 hi6 4 (by decide) (by decide), ⟨fun _ => ⟨ixl hL hi0 hi6 5 (by decide) (by decide), ?_⟩, fun c => absurd q4 c⟩⟩⟩⟩⟩)
    · refine m_app (a := true) (b := false) hw hm hE8 hws hmh o1 o2 a1 a2 b1 b2 (fun _ _ edits' v' past' hm' hmh' => end_ok rfl ?_) (fun q => absurd hA q) (fun _ q => absurd q (by omega))
      exact ⟨gi, hcst, hnm, hd0, (W, N + 1, N + 1, kd, dv, snoc N code (op.toNat, (true, za.toNat), (false, zb.toNat))), _, _, _, ⟨w4, w16, (by omega : N + 1 ≤ 40), Nat.le_refl _, tk, wf_snoc wfc (wf_ap hA)⟩, ⟨rfl, rfl, rfl, rfl, hd, hcc'⟩, hm', Nat.mod_lt _ (by decide), hE_le hE8, hpw, hch', hmh'⟩
    · exact m_app (a := true) (b := false) hw hm hE8 hws hmh o1 o2 a1 a2 b1 b2 (fun q => absurd q hA) (fun _ => end_no (by decide) hR') (fun q => absurd q hA)
    · exact m_app (a := true) (b := false) hw hm hE8 hws hmh o1 o2 a1 a2 b1 b2 (fun _ q => absurd q (by omega)) (fun q => absurd hA q) (fun _ _ => end_no (by decide) hR')
  · unfold wL_append
    refine c_app (a := true) (b := true) hw hc hx hE8 hch o1 o2 a1 a2 b1 b2 (fun hA hN o' f' s' next' kept' sW' sL' sR' sK' sD' sO' sF' sS' hcc' hch' => ⟨in01, ⟨ixl hL hi0 hi6 1 (by decide) (by decide), ixl hL hi0 hi6 2 (by decide) (by decide), ⟨fun c => absurd c q2, fun _ => ⟨ixl hL hi0 hi6 3 (by decide) (by decide), ixl hL hi0 hi6 4 (by decide) (by decide), ⟨fun c => absurd c q4, fun _ => ⟨ixl hL hi0 hi6 5 (by decide) (by decide), ?_⟩⟩⟩⟩⟩⟩) (fun hA => Or.inl ⟨rfl, ⟨ixl hL hi0 hi6 1 (by decide) (by decide), ixl hL hi0 hi6 2 (by decide) (by decide), ⟨fun c => absurd c q2, fun _ => ⟨ixl hL hi0 hi6 3 (by decide) (by decide), ixl hL hi0 hi6 4 (by decide) (by decide), ⟨fun c => absurd c q4, fun _ => ⟨ixl hL hi0 hi6 5 (by decide) (by decide), ?_⟩⟩⟩⟩⟩⟩) (fun hA hN => Or.inr ⟨rfl, ⟨ixl hL hi0 hi6 1 (by decide) (by decide), ixl hL hi0 hi6 2 (by decide) (by decide), ⟨fun c => absurd c q2, fun _ => ⟨ixl hL hi0 hi6 3 (by decide) (by decide), ixl hL hi0 hi6 4 (by decide) (by decide), ⟨fun c => absurd c q4, fun _ => ⟨ixl hL hi0 hi6 5 (by decide) (by decide), ?_⟩⟩⟩⟩⟩⟩)
    · refine m_app (a := true) (b := true) hw hm hE8 hws hmh o1 o2 a1 a2 b1 b2 (fun _ _ edits' v' past' hm' hmh' => end_ok rfl ?_) (fun q => absurd hA q) (fun _ q => absurd q (by omega))
      exact ⟨gi, hcst, hnm, hd0, (W, N + 1, N + 1, kd, dv, snoc N code (op.toNat, (true, za.toNat), (true, zb.toNat))), _, _, _, ⟨w4, w16, (by omega : N + 1 ≤ 40), Nat.le_refl _, tk, wf_snoc wfc (wf_ap hA)⟩, ⟨rfl, rfl, rfl, rfl, hd, hcc'⟩, hm', Nat.mod_lt _ (by decide), hE_le hE8, hpw, hch', hmh'⟩
    · exact m_app (a := true) (b := true) hw hm hE8 hws hmh o1 o2 a1 a2 b1 b2 (fun q => absurd q hA) (fun _ => end_no (by decide) hR') (fun q => absurd q hA)
    · exact m_app (a := true) (b := true) hw hm hE8 hws hmh o1 o2 a1 a2 b1 b2 (fun _ q => absurd q (by omega)) (fun q => absurd hA q) (fun _ _ => end_no (by decide) hR')
