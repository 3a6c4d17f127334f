set_option maxHeartbeats 1000000 in
theorem s_3 {L : Nat} {xs : Nat → Int32} (hL : L ≤ 3072) {aP : Nat → Nat} {i : Int32} (hi0 : 0 ≤ i.toInt) (hi6 : i.toInt + 6 ≤ L) {t_generator_input : Int32} {t_program_width : Int32} {t_program_length : Int32} {t_program_result : Int32} {t_program_taskKind : Int32} {t_program_taskDivisor : Int32} {f_t_program_operations : Nat → Int32} {f_t_program_firsts : Nat → Int32} {f_t_program_seconds : Nat → Int32} {f_t_costs : Nat → Int32} {t_history_next : Int32} {t_history_kept : Int32} {f_t_machine_values : Nat → Int32} {f_t_machine_depths : Nat → Int32} {f_t_tidier_newNumbers : Nat → Int32} {f_t_tidier_needed : Nat → Int32} {t_listing_left : Int32} {t_listing_seen : Int32} {sW : Nat → Int32} {sL : Nat → Int32} {sR : Nat → Int32} {sK : Nat → Int32} {sD : Nat → Int32} {sO : Nat → Nat → Int32} {sF : Nat → Nat → Int32} {sS : Nat → Nat → Int32} {k_edits : Int32} {k_thrown : Int32} {k_outs : Int32} {f_k_v : Nat → Int32} {f_k_past : Nat → Int32} {f_k_costs : Nat → Int32} {f_k_into : Nat → Int32} {f_k_isNeeded : Nat → Int32} {f_k_depths : Nat → Int32} {f_k_names : Nat → Int32} {f_k_out : Nat → Int32} {f_k_has : Nat → Int64} {f_out : Nat → Int64} (hR : Rel t_generator_input t_program_width t_program_length t_program_result t_program_taskKind t_program_taskDivisor f_t_program_operations f_t_program_firsts f_t_program_seconds f_t_costs t_history_next t_history_kept f_t_machine_values f_t_machine_depths f_t_tidier_newNumbers f_t_tidier_needed t_listing_left t_listing_seen sW sL sR sK sD sO sF sS k_edits k_thrown k_outs f_k_v f_k_past f_k_costs f_k_into f_k_isNeeded f_k_depths f_k_names f_k_out f_k_has f_out) : wc_3 L xs aP i t_generator_input t_program_width t_program_length t_program_result t_program_taskKind t_program_taskDivisor f_t_program_operations f_t_program_firsts f_t_program_seconds f_t_costs t_history_next t_history_kept f_t_machine_values f_t_machine_depths f_t_tidier_newNumbers f_t_tidier_needed t_listing_left t_listing_seen sW sL sR sK sD sO sF sS k_edits k_thrown k_outs f_k_v f_k_past f_k_costs f_k_into f_k_isNeeded f_k_depths f_k_names f_k_out f_k_has f_out Rel := by
  have hR' := hR
  obtain ⟨gi, hcst, hnm, hd0, ⟨W, N, R, kd, dv, code⟩, nx, E, hs, hw, hc, hm, hx, hE8, hws, hch, hmh⟩ := hR
  have w4 : 4 ≤ W := hw.1
  have w16 : W ≤ 16 := hw.2.1
  have n40 : N ≤ 40 := hw.2.2.1
  have rN : R ≤ N := hw.2.2.2.1
  have tk : kd = -1 ∨ tsk W kd dv := hw.2.2.2.2.1
  have wfc : ∀ i, i < N → wfI W i (code i) := hw.2.2.2.2.2
  obtain ⟨p16, pm, ph⟩ := pw w4 w16
  have e1 : t_program_width = iI W := hc.1
  have e2 : t_program_length = iI N := hc.2.1
  have e3 : t_program_result = iI R := hc.2.2.1
  have e4 : t_program_taskKind = iI kd := hc.2.2.2.1
  have hd : kd ≠ -1 → t_program_taskDivisor = iI dv := hc.2.2.2.2.1
  have hcc : cCode N code f_t_program_operations f_t_program_firsts f_t_program_seconds := hc.2.2.2.2.2
  have hv0 : f_k_v 0 = iI W := hm.1
  have hv3 : f_k_v 3 = iI N := hm.2.1
  have hv4 : f_k_v 4 = iI R := hm.2.2.1
  have hv1 : f_k_v 1 = iI kd := hm.2.2.2.1
  have hv2 : kd ≠ -1 → f_k_v 2 = iI dv := hm.2.2.2.2.1
  have hmc : mCode N code f_k_v := hm.2.2.2.2.2
  have hpw := hPush_w hE8 hws hw
  subst e1 e2 e3 e4
  unfold wc_3
  refine ⟨ixl hL hi0 hi6 1 (by decide) (by decide), ?_⟩
  generalize xs (i + 1).toNatClampNeg = x
  obtain ⟨z, z1, z2, rfl⟩ := iI_of x
  unfold wL_multiplier wX8_multiplier wX9_multiplier wX9_thrown wX9_fails
  rw [iI_l z1 z2]
  refine c_great w16 ?_
  refine c_req z 1 (2 ^ W - 1) (fun a b => ?_) (fun a => ?_)
  · obtain ⟨d, rfl⟩ : ∃ d : Nat, (d : Int) = z := ⟨z.toNat, by omega⟩
    have dle := lsh_le W (d : Int) 0
    refine c_isp (by omega) (by omega) (fun hp => ⟨fun q => absurd q (by decide), fun _ => ⟨in01, ixl hL hi0 hi6 1 (by decide) (by decide), ?_⟩⟩) (fun hp => ⟨fun _ => c_lsh w16 (by omega) (by omega) (sl := 0) (by omega) (c_mf w16 dle (by omega) (by omega) ⟨in01, ixl hL hi0 hi6 1 (by decide) (by decide), ?_⟩), fun q => absurd rfl q⟩)
    · refine m_rngA hv0 w16 (lo := 1) z1 z2 (by omega) (by omega) (fun _ b' => ⟨fun q => absurd q (by decide), fun _ => ?_⟩) (fun q => absurd ⟨a, by omega⟩ q)
      exact m_isp (by omega) (by omega) (fun _ => ⟨fun q => absurd q (by decide), fun _ => end_ok (by rw [up00]) hR'⟩) (fun hq => absurd hp hq)
    · refine m_rngA hv0 w16 (lo := 1) z1 z2 (by omega) (by omega) (fun _ b' => ⟨fun q => absurd q (by decide), fun _ => ?_⟩) (fun q => absurd ⟨a, by omega⟩ q)
      refine m_isp (by omega) (by omega) (fun hq => absurd hq hp) (fun _ => ⟨fun _ => m_lsh hv0 w16 (by omega) (by omega) (sl := 0) (by omega) (m_mf hv0 w16 dle (by omega) (by omega) ?_), fun q => absurd rfl q⟩)
      exact end_ok (by rw [up00, lI_i]) hR'
  · refine ⟨rfl, ixl hL hi0 hi6 1 (by decide) (by decide), ?_⟩
    exact m_rngA hv0 w16 (lo := 1) z1 z2 (by omega) (by omega) (fun a' b' => absurd ⟨a', by omega⟩ a) (fun _ => ⟨fun _ => end_no (by decide) hR', fun q => absurd rfl q⟩)

set_option maxHeartbeats 1000000 in
theorem s_5 {L : Nat} {xs : Nat → Int32} (hL : L ≤ 3072) {aP : Nat → Nat} {i : Int32} (hi0 : 0 ≤ i.toInt) (hi6 : i.toInt + 6 ≤ L) {t_generator_input : Int32} {t_program_width : Int32} {t_program_length : Int32} {t_program_result : Int32} {t_program_taskKind : Int32} {t_program_taskDivisor : Int32} {f_t_program_operations : Nat → Int32} {f_t_program_firsts : Nat → Int32} {f_t_program_seconds : Nat → Int32} {f_t_costs : Nat → Int32} {t_history_next : Int32} {t_history_kept : Int32} {f_t_machine_values : Nat → Int32} {f_t_machine_depths : Nat → Int32} {f_t_tidier_newNumbers : Nat → Int32} {f_t_tidier_needed : Nat → Int32} {t_listing_left : Int32} {t_listing_seen : Int32} {sW : Nat → Int32} {sL : Nat → Int32} {sR : Nat → Int32} {sK : Nat → Int32} {sD : Nat → Int32} {sO : Nat → Nat → Int32} {sF : Nat → Nat → Int32} {sS : Nat → Nat → Int32} {k_edits : Int32} {k_thrown : Int32} {k_outs : Int32} {f_k_v : Nat → Int32} {f_k_past : Nat → Int32} {f_k_costs : Nat → Int32} {f_k_into : Nat → Int32} {f_k_isNeeded : Nat → Int32} {f_k_depths : Nat → Int32} {f_k_names : Nat → Int32} {f_k_out : Nat → Int32} {f_k_has : Nat → Int64} {f_out : Nat → Int64} (hR : Rel t_generator_input t_program_width t_program_length t_program_result t_program_taskKind t_program_taskDivisor f_t_program_operations f_t_program_firsts f_t_program_seconds f_t_costs t_history_next t_history_kept f_t_machine_values f_t_machine_depths f_t_tidier_newNumbers f_t_tidier_needed t_listing_left t_listing_seen sW sL sR sK sD sO sF sS k_edits k_thrown k_outs f_k_v f_k_past f_k_costs f_k_into f_k_isNeeded f_k_depths f_k_names f_k_out f_k_has f_out) : wc_5 L xs aP i t_generator_input t_program_width t_program_length t_program_result t_program_taskKind t_program_taskDivisor f_t_program_operations f_t_program_firsts f_t_program_seconds f_t_costs t_history_next t_history_kept f_t_machine_values f_t_machine_depths f_t_tidier_newNumbers f_t_tidier_needed t_listing_left t_listing_seen sW sL sR sK sD sO sF sS k_edits k_thrown k_outs f_k_v f_k_past f_k_costs f_k_into f_k_isNeeded f_k_depths f_k_names f_k_out f_k_has f_out Rel := by
  have hR' := hR
  obtain ⟨gi, hcst, hnm, hd0, ⟨W, N, R, kd, dv, code⟩, nx, E, hs, hw, hc, hm, hx, hE8, hws, hch, hmh⟩ := hR
  have w4 : 4 ≤ W := hw.1
  have w16 : W ≤ 16 := hw.2.1
  have n40 : N ≤ 40 := hw.2.2.1
  have rN : R ≤ N := hw.2.2.2.1
  have tk : kd = -1 ∨ tsk W kd dv := hw.2.2.2.2.1
  have wfc : ∀ i, i < N → wfI W i (code i) := hw.2.2.2.2.2
  obtain ⟨p16, pm, ph⟩ := pw w4 w16
  have e1 : t_program_width = iI W := hc.1
  have e2 : t_program_length = iI N := hc.2.1
  have e3 : t_program_result = iI R := hc.2.2.1
  have e4 : t_program_taskKind = iI kd := hc.2.2.2.1
  have hd : kd ≠ -1 → t_program_taskDivisor = iI dv := hc.2.2.2.2.1
  have hcc : cCode N code f_t_program_operations f_t_program_firsts f_t_program_seconds := hc.2.2.2.2.2
  have hv0 : f_k_v 0 = iI W := hm.1
  have hv3 : f_k_v 3 = iI N := hm.2.1
  have hv4 : f_k_v 4 = iI R := hm.2.2.1
  have hv1 : f_k_v 1 = iI kd := hm.2.2.2.1
  have hv2 : kd ≠ -1 → f_k_v 2 = iI dv := hm.2.2.2.2.1
  have hmc : mCode N code f_k_v := hm.2.2.2.2.2
  have hpw := hPush_w hE8 hws hw
  subst e1 e2 e3 e4
  unfold wc_5
  refine ⟨ixl hL hi0 hi6 1 (by decide) (by decide), ?_⟩
  generalize xs (i + 1).toNatClampNeg = x
  obtain ⟨z, z1, z2, rfl⟩ := iI_of x
  unfold wL_signedMultiplier wX8_signedMultiplier wX9_signedMultiplier wX9_thrown wX9_fails
  rw [iI_l z1 z2]
  have eg : iI (2 ^ W - 1) >>> (1 &&& 31) = iI (2 ^ (W - 1) - 1) := by
    show iI (2 ^ W - 1) >>> (iI ((1 : Nat) : Int) &&& 31) = _
    rw [iI_shr (by decide) (by omega) (by omega)]
    congr 1; omega
  refine c_great w16 ?_
  rw [eg]
  refine c_req z 1 (2 ^ (W - 1) - 1) (fun a b => ?_) (fun a => ?_)
  · obtain ⟨d, rfl⟩ : ∃ d : Nat, (d : Int) = z := ⟨z.toNat, by omega⟩
    have dle := lsh_le W (d : Int) 1
    refine c_isp (by omega) (by omega) (fun hp => ⟨fun q => absurd q (by decide), fun _ => ⟨in01, ixl hL hi0 hi6 1 (by decide) (by decide), ?_⟩⟩) (fun hp => ⟨fun _ => c_lsh w16 (by omega) (by omega) (sl := 1) (by omega) (c_mf w16 dle (by omega) (by omega) ⟨in01, ixl hL hi0 hi6 1 (by decide) (by decide), ?_⟩), fun q => absurd rfl q⟩)
    · refine m_rngH hv0 w4 w16 (lo := 1) z1 z2 (by omega) (by omega) (fun _ b' => ⟨fun q => absurd q (by decide), fun _ => ?_⟩) (fun q => absurd ⟨a, by omega⟩ q)
      exact m_isp (by omega) (by omega) (fun _ => ⟨fun q => absurd q (by decide), fun _ => end_ok (by rw [up00]) hR'⟩) (fun hq => absurd hp hq)
    · refine m_rngH hv0 w4 w16 (lo := 1) z1 z2 (by omega) (by omega) (fun _ b' => ⟨fun q => absurd q (by decide), fun _ => ?_⟩) (fun q => absurd ⟨a, by omega⟩ q)
      refine m_isp (by omega) (by omega) (fun hq => absurd hq hp) (fun _ => ⟨fun _ => m_lsh hv0 w16 (by omega) (by omega) (sl := 1) (by omega) (m_mf hv0 w16 dle (by omega) (by omega) ?_), fun q => absurd rfl q⟩)
      exact end_ok (by rw [up00, lI_i]) hR'
  · refine ⟨rfl, ixl hL hi0 hi6 1 (by decide) (by decide), ?_⟩
    exact m_rngH hv0 w4 w16 (lo := 1) z1 z2 (by omega) (by omega) (fun a' b' => absurd ⟨a', by omega⟩ a) (fun _ => ⟨fun _ => end_no (by decide) hR', fun q => absurd rfl q⟩)

set_option maxHeartbeats 1000000 in
theorem s_4 {L : Nat} {xs : Nat → Int32} (hL : L ≤ 3072) {aP : Nat → Nat} {i : Int32} (hi0 : 0 ≤ i.toInt) (hi6 : i.toInt + 6 ≤ L) {t_generator_input : Int32} {t_program_width : Int32} {t_program_length : Int32} {t_program_result : Int32} {t_program_taskKind : Int32} {t_program_taskDivisor : Int32} {f_t_program_operations : Nat → Int32} {f_t_program_firsts : Nat → Int32} {f_t_program_seconds : Nat → Int32} {f_t_costs : Nat → Int32} {t_history_next : Int32} {t_history_kept : Int32} {f_t_machine_values : Nat → Int32} {f_t_machine_depths : Nat → Int32} {f_t_tidier_newNumbers : Nat → Int32} {f_t_tidier_needed : Nat → Int32} {t_listing_left : Int32} {t_listing_seen : Int32} {sW : Nat → Int32} {sL : Nat → Int32} {sR : Nat → Int32} {sK : Nat → Int32} {sD : Nat → Int32} {sO : Nat → Nat → Int32} {sF : Nat → Nat → Int32} {sS : Nat → Nat → Int32} {k_edits : Int32} {k_thrown : Int32} {k_outs : Int32} {f_k_v : Nat → Int32} {f_k_past : Nat → Int32} {f_k_costs : Nat → Int32} {f_k_into : Nat → Int32} {f_k_isNeeded : Nat → Int32} {f_k_depths : Nat → Int32} {f_k_names : Nat → Int32} {f_k_out : Nat → Int32} {f_k_has : Nat → Int64} {f_out : Nat → Int64} (hR : Rel t_generator_input t_program_width t_program_length t_program_result t_program_taskKind t_program_taskDivisor f_t_program_operations f_t_program_firsts f_t_program_seconds f_t_costs t_history_next t_history_kept f_t_machine_values f_t_machine_depths f_t_tidier_newNumbers f_t_tidier_needed t_listing_left t_listing_seen sW sL sR sK sD sO sF sS k_edits k_thrown k_outs f_k_v f_k_past f_k_costs f_k_into f_k_isNeeded f_k_depths f_k_names f_k_out f_k_has f_out) : wc_4 L xs aP i t_generator_input t_program_width t_program_length t_program_result t_program_taskKind t_program_taskDivisor f_t_program_operations f_t_program_firsts f_t_program_seconds f_t_costs t_history_next t_history_kept f_t_machine_values f_t_machine_depths f_t_tidier_newNumbers f_t_tidier_needed t_listing_left t_listing_seen sW sL sR sK sD sO sF sS k_edits k_thrown k_outs f_k_v f_k_past f_k_costs f_k_into f_k_isNeeded f_k_depths f_k_names f_k_out f_k_has f_out Rel := by
  have hR' := hR
  obtain ⟨gi, hcst, hnm, hd0, ⟨W, N, R, kd, dv, code⟩, nx, E, hs, hw, hc, hm, hx, hE8, hws, hch, hmh⟩ := hR
  have w4 : 4 ≤ W := hw.1
  have w16 : W ≤ 16 := hw.2.1
  have n40 : N ≤ 40 := hw.2.2.1
  have rN : R ≤ N := hw.2.2.2.1
  have tk : kd = -1 ∨ tsk W kd dv := hw.2.2.2.2.1
  have wfc : ∀ i, i < N → wfI W i (code i) := hw.2.2.2.2.2
  obtain ⟨p16, pm, ph⟩ := pw w4 w16
  have e1 : t_program_width = iI W := hc.1
  have e2 : t_program_length = iI N := hc.2.1
  have e3 : t_program_result = iI R := hc.2.2.1
  have e4 : t_program_taskKind = iI kd := hc.2.2.2.1
  have hd : kd ≠ -1 → t_program_taskDivisor = iI dv := hc.2.2.2.2.1
  have hcc : cCode N code f_t_program_operations f_t_program_firsts f_t_program_seconds := hc.2.2.2.2.2
  have hv0 : f_k_v 0 = iI W := hm.1
  have hv3 : f_k_v 3 = iI N := hm.2.1
  have hv4 : f_k_v 4 = iI R := hm.2.2.1
  have hv1 : f_k_v 1 = iI kd := hm.2.2.2.1
  have hv2 : kd ≠ -1 → f_k_v 2 = iI dv := hm.2.2.2.2.1
  have hmc : mCode N code f_k_v := hm.2.2.2.2.2
  have hpw := hPush_w hE8 hws hw
  subst e1 e2 e3 e4
  unfold wc_4
  refine ⟨ixl hL hi0 hi6 1 (by decide) (by decide), ?_⟩
  generalize xs (i + 1).toNatClampNeg = x
  obtain ⟨z, z1, z2, rfl⟩ := iI_of x
  unfold wL_shift wX8_shift wX9_shift wX9_thrown wX9_fails
  rw [iI_l z1 z2]
  refine c_great w16 (c_req z 1 (2 ^ W - 1) (fun a b => ?_) (fun a => ?_))
  · obtain ⟨d, rfl⟩ : ∃ d : Nat, (d : Int) = z := ⟨z.toNat, by omega⟩
    refine c_isp (by omega) (by omega) (fun hp => ⟨fun q => absurd q (by decide), fun _ => c_tz (by omega) (by omega) ⟨in01, ixl hL hi0 hi6 1 (by decide) (by decide), ?_⟩⟩) (fun hp => ⟨fun _ => c_lsh w16 (by omega) (by omega) (sl := 0) (by omega) ⟨in01, ixl hL hi0 hi6 1 (by decide) (by decide), ?_⟩, fun q => absurd rfl q⟩)
    · refine m_rngA hv0 w16 (lo := 1) z1 z2 (by omega) (by omega) (fun _ b' => ⟨fun q => absurd q (by decide), fun _ => ?_⟩) (fun q => absurd ⟨a, by omega⟩ q)
      exact m_isp (by omega) (by omega) (fun _ => ⟨fun q => absurd q (by decide), fun _ => m_tz (by omega) (by omega) (end_ok (by rw [up00]) hR')⟩) (fun hq => absurd hp hq)
    · refine m_rngA hv0 w16 (lo := 1) z1 z2 (by omega) (by omega) (fun _ b' => ⟨fun q => absurd q (by decide), fun _ => ?_⟩) (fun q => absurd ⟨a, by omega⟩ q)
      refine m_isp (by omega) (by omega) (fun hq => absurd hq hp) (fun _ => ⟨fun _ => m_lsh hv0 w16 (by omega) (by omega) (sl := 0) (by omega) ?_, fun q => absurd rfl q⟩)
      exact end_ok (by rw [up00]) hR'
  · refine ⟨rfl, ixl hL hi0 hi6 1 (by decide) (by decide), ?_⟩
    exact m_rngA hv0 w16 (lo := 1) z1 z2 (by omega) (by omega) (fun a' b' => absurd ⟨a', by omega⟩ a) (fun _ => ⟨fun _ => end_no (by decide) hR', fun q => absurd rfl q⟩)

set_option maxHeartbeats 1000000 in
theorem s_6 {L : Nat} {xs : Nat → Int32} (hL : L ≤ 3072) {aP : Nat → Nat} {i : Int32} (hi0 : 0 ≤ i.toInt) (hi6 : i.toInt + 6 ≤ L) {t_generator_input : Int32} {t_program_width : Int32} {t_program_length : Int32} {t_program_result : Int32} {t_program_taskKind : Int32} {t_program_taskDivisor : Int32} {f_t_program_operations : Nat → Int32} {f_t_program_firsts : Nat → Int32} {f_t_program_seconds : Nat → Int32} {f_t_costs : Nat → Int32} {t_history_next : Int32} {t_history_kept : Int32} {f_t_machine_values : Nat → Int32} {f_t_machine_depths : Nat → Int32} {f_t_tidier_newNumbers : Nat → Int32} {f_t_tidier_needed : Nat → Int32} {t_listing_left : Int32} {t_listing_seen : Int32} {sW : Nat → Int32} {sL : Nat → Int32} {sR : Nat → Int32} {sK : Nat → Int32} {sD : Nat → Int32} {sO : Nat → Nat → Int32} {sF : Nat → Nat → Int32} {sS : Nat → Nat → Int32} {k_edits : Int32} {k_thrown : Int32} {k_outs : Int32} {f_k_v : Nat → Int32} {f_k_past : Nat → Int32} {f_k_costs : Nat → Int32} {f_k_into : Nat → Int32} {f_k_isNeeded : Nat → Int32} {f_k_depths : Nat → Int32} {f_k_names : Nat → Int32} {f_k_out : Nat → Int32} {f_k_has : Nat → Int64} {f_out : Nat → Int64} (hR : Rel t_generator_input t_program_width t_program_length t_program_result t_program_taskKind t_program_taskDivisor f_t_program_operations f_t_program_firsts f_t_program_seconds f_t_costs t_history_next t_history_kept f_t_machine_values f_t_machine_depths f_t_tidier_newNumbers f_t_tidier_needed t_listing_left t_listing_seen sW sL sR sK sD sO sF sS k_edits k_thrown k_outs f_k_v f_k_past f_k_costs f_k_into f_k_isNeeded f_k_depths f_k_names f_k_out f_k_has f_out) : wc_6 L xs aP i t_generator_input t_program_width t_program_length t_program_result t_program_taskKind t_program_taskDivisor f_t_program_operations f_t_program_firsts f_t_program_seconds f_t_costs t_history_next t_history_kept f_t_machine_values f_t_machine_depths f_t_tidier_newNumbers f_t_tidier_needed t_listing_left t_listing_seen sW sL sR sK sD sO sF sS k_edits k_thrown k_outs f_k_v f_k_past f_k_costs f_k_into f_k_isNeeded f_k_depths f_k_names f_k_out f_k_has f_out Rel := by
  have hR' := hR
  obtain ⟨gi, hcst, hnm, hd0, ⟨W, N, R, kd, dv, code⟩, nx, E, hs, hw, hc, hm, hx, hE8, hws, hch, hmh⟩ := hR
  have w4 : 4 ≤ W := hw.1
  have w16 : W ≤ 16 := hw.2.1
  have n40 : N ≤ 40 := hw.2.2.1
  have rN : R ≤ N := hw.2.2.2.1
  have tk : kd = -1 ∨ tsk W kd dv := hw.2.2.2.2.1
  have wfc : ∀ i, i < N → wfI W i (code i) := hw.2.2.2.2.2
  obtain ⟨p16, pm, ph⟩ := pw w4 w16
  have e1 : t_program_width = iI W := hc.1
  have e2 : t_program_length = iI N := hc.2.1
  have e3 : t_program_result = iI R := hc.2.2.1
  have e4 : t_program_taskKind = iI kd := hc.2.2.2.1
  have hd : kd ≠ -1 → t_program_taskDivisor = iI dv := hc.2.2.2.2.1
  have hcc : cCode N code f_t_program_operations f_t_program_firsts f_t_program_seconds := hc.2.2.2.2.2
  have hv0 : f_k_v 0 = iI W := hm.1
  have hv3 : f_k_v 3 = iI N := hm.2.1
  have hv4 : f_k_v 4 = iI R := hm.2.2.1
  have hv1 : f_k_v 1 = iI kd := hm.2.2.2.1
  have hv2 : kd ≠ -1 → f_k_v 2 = iI dv := hm.2.2.2.2.1
  have hmc : mCode N code f_k_v := hm.2.2.2.2.2
  have hpw := hPush_w hE8 hws hw
  subst e1 e2 e3 e4
  unfold wc_6
  refine ⟨ixl hL hi0 hi6 1 (by decide) (by decide), ?_⟩
  generalize xs (i + 1).toNatClampNeg = x
  obtain ⟨z, z1, z2, rfl⟩ := iI_of x
  unfold wL_inverse wX8_inverse wX9_inverse wX9_inverse_37 wX9_thrown wX9_fails
  rw [iI_l z1 z2, iI_m1]
  refine c_great w16 (c_req z 1 (2 ^ W - 1) (fun a b => ?_) (fun a => ?_))
  · have eR : iI z - iI z / 2 * 2 = iI (z % 2) := by show iI z - iI z / iI 2 * iI 2 = _; rw [iI_remN (by omega) (by omega) (by decide) (by decide)]
    rw [eR]
    refine br_eq (z % 2) 0 (fun c => ⟨rfl, ixl hL hi0 hi6 1 (by decide) (by decide), ?_⟩) (fun c => c_inv w16 ⟨in01, ixl hL hi0 hi6 1 (by decide) (by decide), ?_⟩)
    · refine m_rngA hv0 w16 (lo := 1) z1 z2 (by omega) (by omega) (fun _ b' => ⟨fun q => absurd q (by decide), fun _ => ?_⟩) (fun q => absurd ⟨a, by omega⟩ q)
      exact br_eq (z % 2) 1 (fun d => by omega) (fun _ => end_no (by decide) hR')
    · refine m_rngA hv0 w16 (lo := 1) z1 z2 (by omega) (by omega) (fun _ b' => ⟨fun q => absurd q (by decide), fun _ => ?_⟩) (fun q => absurd ⟨a, by omega⟩ q)
      exact br_eq (z % 2) 1 (fun d => m_inv hv0 w4 w16 d (by omega) (by omega) (end_ok (by rw [up00, lI_i]) hR')) (fun d => by omega)
  · refine ⟨rfl, ixl hL hi0 hi6 1 (by decide) (by decide), ?_⟩
    exact m_rngA hv0 w16 (lo := 1) z1 z2 (by omega) (by omega) (fun a' b' => absurd ⟨a', by omega⟩ a) (fun _ => ⟨fun _ => end_no (by decide) hR', fun q => absurd rfl q⟩)

set_option maxHeartbeats 1000000 in
theorem s_7 {L : Nat} {xs : Nat → Int32} (hL : L ≤ 3072) {aP : Nat → Nat} {i : Int32} (hi0 : 0 ≤ i.toInt) (hi6 : i.toInt + 6 ≤ L) {t_generator_input : Int32} {t_program_width : Int32} {t_program_length : Int32} {t_program_result : Int32} {t_program_taskKind : Int32} {t_program_taskDivisor : Int32} {f_t_program_operations : Nat → Int32} {f_t_program_firsts : Nat → Int32} {f_t_program_seconds : Nat → Int32} {f_t_costs : Nat → Int32} {t_history_next : Int32} {t_history_kept : Int32} {f_t_machine_values : Nat → Int32} {f_t_machine_depths : Nat → Int32} {f_t_tidier_newNumbers : Nat → Int32} {f_t_tidier_needed : Nat → Int32} {t_listing_left : Int32} {t_listing_seen : Int32} {sW : Nat → Int32} {sL : Nat → Int32} {sR : Nat → Int32} {sK : Nat → Int32} {sD : Nat → Int32} {sO : Nat → Nat → Int32} {sF : Nat → Nat → Int32} {sS : Nat → Nat → Int32} {k_edits : Int32} {k_thrown : Int32} {k_outs : Int32} {f_k_v : Nat → Int32} {f_k_past : Nat → Int32} {f_k_costs : Nat → Int32} {f_k_into : Nat → Int32} {f_k_isNeeded : Nat → Int32} {f_k_depths : Nat → Int32} {f_k_names : Nat → Int32} {f_k_out : Nat → Int32} {f_k_has : Nat → Int64} {f_out : Nat → Int64} (hR : Rel t_generator_input t_program_width t_program_length t_program_result t_program_taskKind t_program_taskDivisor f_t_program_operations f_t_program_firsts f_t_program_seconds f_t_costs t_history_next t_history_kept f_t_machine_values f_t_machine_depths f_t_tidier_newNumbers f_t_tidier_needed t_listing_left t_listing_seen sW sL sR sK sD sO sF sS k_edits k_thrown k_outs f_k_v f_k_past f_k_costs f_k_into f_k_isNeeded f_k_depths f_k_names f_k_out f_k_has f_out) : wc_7 L xs aP i t_generator_input t_program_width t_program_length t_program_result t_program_taskKind t_program_taskDivisor f_t_program_operations f_t_program_firsts f_t_program_seconds f_t_costs t_history_next t_history_kept f_t_machine_values f_t_machine_depths f_t_tidier_newNumbers f_t_tidier_needed t_listing_left t_listing_seen sW sL sR sK sD sO sF sS k_edits k_thrown k_outs f_k_v f_k_past f_k_costs f_k_into f_k_isNeeded f_k_depths f_k_names f_k_out f_k_has f_out Rel := by
  have hR' := hR
  obtain ⟨gi, hcst, hnm, hd0, ⟨W, N, R, kd, dv, code⟩, nx, E, hs, hw, hc, hm, hx, hE8, hws, hch, hmh⟩ := hR
  have w4 : 4 ≤ W := hw.1
  have w16 : W ≤ 16 := hw.2.1
  have n40 : N ≤ 40 := hw.2.2.1
  have rN : R ≤ N := hw.2.2.2.1
  have tk : kd = -1 ∨ tsk W kd dv := hw.2.2.2.2.1
  have wfc : ∀ i, i < N → wfI W i (code i) := hw.2.2.2.2.2
  obtain ⟨p16, pm, ph⟩ := pw w4 w16
  have e1 : t_program_width = iI W := hc.1
  have e2 : t_program_length = iI N := hc.2.1
  have e3 : t_program_result = iI R := hc.2.2.1
  have e4 : t_program_taskKind = iI kd := hc.2.2.2.1
  have hd : kd ≠ -1 → t_program_taskDivisor = iI dv := hc.2.2.2.2.1
  have hcc : cCode N code f_t_program_operations f_t_program_firsts f_t_program_seconds := hc.2.2.2.2.2
  have hv0 : f_k_v 0 = iI W := hm.1
  have hv3 : f_k_v 3 = iI N := hm.2.1
  have hv4 : f_k_v 4 = iI R := hm.2.2.1
  have hv1 : f_k_v 1 = iI kd := hm.2.2.2.1
  have hv2 : kd ≠ -1 → f_k_v 2 = iI dv := hm.2.2.2.2.1
  have hmc : mCode N code f_k_v := hm.2.2.2.2.2
  have hpw := hPush_w hE8 hws hw
  subst e1 e2 e3 e4
  unfold wc_7
  refine ⟨ixl hL hi0 hi6 1 (by decide) (by decide), ?_⟩
  generalize xs (i + 1).toNatClampNeg = x
  obtain ⟨z, z1, z2, rfl⟩ := iI_of x
  unfold wL_digits wX8_digits wX9_digits wX9_thrown wX9_fails
  rw [iI_l z1 z2]
  refine c_great w16 (c_req z 0 (2 ^ W - 1) (fun a b => ?_) (fun a => ?_))
  · refine ⟨_, c_cnt4 w16 a (by omega) ⟨in01, ixl hL hi0 hi6 1 (by decide) (by decide), ?_⟩ W 0 (by omega)⟩
    refine m_rngA hv0 w16 (lo := 0) z1 z2 (by omega) (by omega) (fun _ b' => ⟨fun q => absurd q (by decide), fun _ => ?_⟩) (fun q => absurd ⟨a, by omega⟩ q)
    exact ⟨_, m_cnt5 hv0 w16 a (by omega) (end_ok (by rw [up00]) hR') W 0 (by omega)⟩
  · refine ⟨rfl, ixl hL hi0 hi6 1 (by decide) (by decide), ?_⟩
    exact m_rngA hv0 w16 (lo := 0) z1 z2 (by omega) (by omega) (fun a' b' => absurd ⟨a', by omega⟩ a) (fun _ => ⟨fun _ => end_no (by decide) hR', fun q => absurd rfl q⟩)
