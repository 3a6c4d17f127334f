set_option maxHeartbeats 1000000 in
theorem s_0 {L : Nat} {xs : Nat → Int32} (hL : L ≤ 3072) {aP : Nat → Nat} {i : Int32} (hi0 : 0 ≤ i.toInt) (hi6 : i.toInt + 6 ≤ L) {t_generator_input : Int32} {t_program_width : Int32} {t_program_length : Int32} {t_program_result : Int32} {t_program_taskKind : Int32} {t_program_taskDivisor : Int32} {f_t_program_operations : Nat → Int32} {f_t_program_firsts : Nat → Int32} {f_t_program_seconds : Nat → Int32} {f_t_costs : Nat → Int32} {t_history_next : Int32} {t_history_kept : Int32} {f_t_machine_values : Nat → Int32} {f_t_machine_depths : Nat → Int32} {f_t_tidier_newNumbers : Nat → Int32} {f_t_tidier_needed : Nat → Int32} {t_listing_left : Int32} {t_listing_seen : Int32} {sW : Nat → Int32} {sL : Nat → Int32} {sR : Nat → Int32} {sK : Nat → Int32} {sD : Nat → Int32} {sO : Nat → Nat → Int32} {sF : Nat → Nat → Int32} {sS : Nat → Nat → Int32} {k_edits : Int32} {k_thrown : Int32} {k_outs : Int32} {f_k_v : Nat → Int32} {f_k_past : Nat → Int32} {f_k_costs : Nat → Int32} {f_k_into : Nat → Int32} {f_k_isNeeded : Nat → Int32} {f_k_depths : Nat → Int32} {f_k_names : Nat → Int32} {f_k_out : Nat → Int32} {f_k_has : Nat → Int64} {f_out : Nat → Int64} (hR : Rel t_generator_input t_program_width t_program_length t_program_result t_program_taskKind t_program_taskDivisor f_t_program_operations f_t_program_firsts f_t_program_seconds f_t_costs t_history_next t_history_kept f_t_machine_values f_t_machine_depths f_t_tidier_newNumbers f_t_tidier_needed t_listing_left t_listing_seen sW sL sR sK sD sO sF sS k_edits k_thrown k_outs f_k_v f_k_past f_k_costs f_k_into f_k_isNeeded f_k_depths f_k_names f_k_out f_k_has f_out) : wc_0 L xs aP i t_generator_input t_program_width t_program_length t_program_result t_program_taskKind t_program_taskDivisor f_t_program_operations f_t_program_firsts f_t_program_seconds f_t_costs t_history_next t_history_kept f_t_machine_values f_t_machine_depths f_t_tidier_newNumbers f_t_tidier_needed t_listing_left t_listing_seen sW sL sR sK sD sO sF sS k_edits k_thrown k_outs f_k_v f_k_past f_k_costs f_k_into f_k_isNeeded f_k_depths f_k_names f_k_out f_k_has f_out Rel := by
  obtain ⟨gi, hcst, hnm, hd0, P, nx, E, hs, hw, hc, hm, hx, hE8, hws, hch, hmh⟩ := hR
  unfold wc_0
  refine ⟨ixl hL hi0 hi6 1 (by decide) (by decide), ?_⟩
  generalize xs (i + 1).toNatClampNeg = x
  obtain ⟨z, z1, z2, rfl⟩ := iI_of x
  unfold wL_setWidth wX8_setWidth wX8_setWidth_11
  by_cases hz : 4 ≤ z ∧ z ≤ 16
  · refine ⟨fun c => absurd ((iI_lt z1 z2 (by decide) (by decide)).mp (show iI z < iI 4 from c)) (by omega), fun _ => ⟨fun _ => ?_, fun c => absurd (show iI z ≤ iI 16 from (iI_le z1 z2 (by decide) (by decide)).mpr hz.2) c⟩⟩
    refine c_rem hw hc hx hE8 hch (fun next' kept' sW' sL' sR' sK' sD' sO' sF' sS' hch' => ?_)
    unfold wX8_setWidth_40 wX5_clear
    refine ⟨in01, ixl hL hi0 hi6 1 (by decide) (by decide), ?_⟩
    unfold wX9_setWidth
    rw [iI_l z1 z2]
    refine m_in (a := 4) (b := 16) (by omega) (by omega) (by decide) (by decide) (by decide) (by decide) (fun _ _ => ⟨fun c => absurd c (by decide), fun _ => ?_⟩) (fun c => absurd hz c)
    refine m_edits hw.2.2.1 hm hE8 hws hmh (fun edits' past' hmh' => ⟨v0, fun x2 hx2 => ⟨v0, v1, v3, v4, ?_⟩⟩)
    refine end_ok (by rw [up00, hx2, hc.1]; exact congrArg Int32.toInt64 hm.1.symm) ?_
    have hzN : ∃ W : Nat, (W : Int) = z := ⟨z.toNat, by omega⟩
    obtain ⟨W, rfl⟩ := hzN
    refine ⟨gi, hcst, hnm, hd0, (W, 0, 0, -1, 0, P.2.2.2.2.2), _, _, _, ?_, ?_, ?_, Nat.mod_lt _ (by decide), hE_le hE8, hPush_w hE8 hws hw, hch', hmh'⟩
    · exact ⟨by omega, by omega, Nat.zero_le _, Nat.zero_le _, Or.inl rfl, fun i hi => absurd hi (Nat.not_lt_zero _)⟩
    · exact ⟨rfl, rfl, rfl, rfl, fun c => absurd rfl c, fun i hi => absurd hi (Nat.not_lt_zero _)⟩
    · exact ⟨rfl, rfl, rfl, rfl, fun c => absurd rfl c, fun i hi => absurd hi (Nat.not_lt_zero _)⟩
  · have hQ : ∀ (Q : Prop), Q → (xIA = xIA ∧ Q) := fun Q q => ⟨rfl, q⟩
    have key : (∀ (A B : Prop), B → ((iI z < 4 → B) ∧ (¬ iI z < 4 → ((iI z ≤ 16 → A) ∧ (¬ iI z ≤ 16 → B))))) := fun A B q => ⟨fun _ => q, fun c => ⟨fun d => absurd ⟨Int.not_lt.mp (fun q => c (show iI z < iI 4 from (iI_lt z1 z2 (by decide) (by decide)).mpr q)), (iI_le z1 z2 (by decide) (by decide)).mp (show iI z ≤ iI 16 from d)⟩ hz, fun _ => q⟩⟩
    refine key _ _ (hQ _ ⟨ixl hL hi0 hi6 1 (by decide) (by decide), ?_⟩)
    unfold wX9_setWidth
    rw [iI_l z1 z2]
    refine m_in (a := 4) (b := 16) (by omega) (by omega) (by decide) (by decide) (by decide) (by decide) (fun c d => absurd ⟨c, d⟩ hz) (fun _ => ⟨fun _ => ?_, fun c => absurd rfl c⟩)
    exact end_no (by decide) ⟨gi, hcst, hnm, hd0, P, nx, E, hs, hw, hc, hm, hx, hE8, hws, hch, hmh⟩
set_option maxHeartbeats 1000000 in
theorem s_1 {L : Nat} {xs : Nat → Int32} (hL : L ≤ 3072) {aP : Nat → Nat} {i : Int32} (hi0 : 0 ≤ i.toInt) (hi6 : i.toInt + 6 ≤ L) {t_generator_input : Int32} {t_program_width : Int32} {t_program_length : Int32} {t_program_result : Int32} {t_program_taskKind : Int32} {t_program_taskDivisor : Int32} {f_t_program_operations : Nat → Int32} {f_t_program_firsts : Nat → Int32} {f_t_program_seconds : Nat → Int32} {f_t_costs : Nat → Int32} {t_history_next : Int32} {t_history_kept : Int32} {f_t_machine_values : Nat → Int32} {f_t_machine_depths : Nat → Int32} {f_t_tidier_newNumbers : Nat → Int32} {f_t_tidier_needed : Nat → Int32} {t_listing_left : Int32} {t_listing_seen : Int32} {sW : Nat → Int32} {sL : Nat → Int32} {sR : Nat → Int32} {sK : Nat → Int32} {sD : Nat → Int32} {sO : Nat → Nat → Int32} {sF : Nat → Nat → Int32} {sS : Nat → Nat → Int32} {k_edits : Int32} {k_thrown : Int32} {k_outs : Int32} {f_k_v : Nat → Int32} {f_k_past : Nat → Int32} {f_k_costs : Nat → Int32} {f_k_into : Nat → Int32} {f_k_isNeeded : Nat → Int32} {f_k_depths : Nat → Int32} {f_k_names : Nat → Int32} {f_k_out : Nat → Int32} {f_k_has : Nat → Int64} {f_out : Nat → Int64} (hR : Rel t_generator_input t_program_width t_program_length t_program_result t_program_taskKind t_program_taskDivisor f_t_program_operations f_t_program_firsts f_t_program_seconds f_t_costs t_history_next t_history_kept f_t_machine_values f_t_machine_depths f_t_tidier_newNumbers f_t_tidier_needed t_listing_left t_listing_seen sW sL sR sK sD sO sF sS k_edits k_thrown k_outs f_k_v f_k_past f_k_costs f_k_into f_k_isNeeded f_k_depths f_k_names f_k_out f_k_has f_out) : wc_1 L xs aP i t_generator_input t_program_width t_program_length t_program_result t_program_taskKind t_program_taskDivisor f_t_program_operations f_t_program_firsts f_t_program_seconds f_t_costs t_history_next t_history_kept f_t_machine_values f_t_machine_depths f_t_tidier_newNumbers f_t_tidier_needed t_listing_left t_listing_seen sW sL sR sK sD sO sF sS k_edits k_thrown k_outs f_k_v f_k_past f_k_costs f_k_into f_k_isNeeded f_k_depths f_k_names f_k_out f_k_has f_out Rel := by
  have hR' := hR
  obtain ⟨gi, hcst, hnm, hd0, P, nx, E, hs, hw, hc, hm, hx, hE8, hws, hch, hmh⟩ := hR
  unfold wc_1 wX8_width wX9_width
  exact ⟨v0, end_eq (hc.1.trans hm.1.symm) hR'⟩
