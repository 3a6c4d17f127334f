theorem cst_up {c c' : Nat → Int32} (h : cstR c c') {z y : Int} (z0 : 0 ≤ z) (z2 : z ≤ 2) (y1 : 1 ≤ y) (y2 : y ≤ 20) : cstR (upd c z.toNat (iI y)) (upd c' z.toNat (iI y)) := by
  intro j hj
  by_cases e : j = z.toNat
  · subst e
    exact ⟨y.toNat, by omega, by omega, by rw [pk_us]; congr 1; omega, by rw [pk_us]; congr 1; omega⟩
  · rw [pk_un e, pk_un e]; exact h j hj
theorem g1 : (1 : Int32).toNatClampNeg = 1 := rfl
theorem g2 : (2 : Int32).toNatClampNeg = 2 := rfl
theorem g3 : (3 : Int32).toNatClampNeg = 3 := rfl
theorem g4 : (4 : Int32).toNatClampNeg = 4 := rfl
theorem g0 : (0 : Int32).toNatClampNeg = 0 := rfl

set_option maxHeartbeats 1000000 in
theorem s_2 {L : Nat} {xs : Nat → Int32} (hL : L ≤ 3072) {aP : Nat → Nat} {i : Int32} (hi0 : 0 ≤ i.toInt) (hi6 : i.toInt + 6 ≤ L) {t_generator_input : Int32} {t_program_width : Int32} {t_program_length : Int32} {t_program_result : Int32} {t_program_taskKind : Int32} {t_program_taskDivisor : Int32} {f_t_program_operations : Nat → Int32} {f_t_program_firsts : Nat → Int32} {f_t_program_seconds : Nat → Int32} {f_t_costs : Nat → Int32} {t_history_next : Int32} {t_history_kept : Int32} {f_t_machine_values : Nat → Int32} {f_t_machine_depths : Nat → Int32} {f_t_tidier_newNumbers : Nat → Int32} {f_t_tidier_needed : Nat → Int32} {t_listing_left : Int32} {t_listing_seen : Int32} {sW : Nat → Int32} {sL : Nat → Int32} {sR : Nat → Int32} {sK : Nat → Int32} {sD : Nat → Int32} {sO : Nat → Nat → Int32} {sF : Nat → Nat → Int32} {sS : Nat → Nat → Int32} {k_edits : Int32} {k_thrown : Int32} {k_outs : Int32} {f_k_v : Nat → Int32} {f_k_past : Nat → Int32} {f_k_costs : Nat → Int32} {f_k_into : Nat → Int32} {f_k_isNeeded : Nat → Int32} {f_k_depths : Nat → Int32} {f_k_names : Nat → Int32} {f_k_out : Nat → Int32} {f_k_has : Nat → Int64} {f_out : Nat → Int64} (hR : Rel t_generator_input t_program_width t_program_length t_program_result t_program_taskKind t_program_taskDivisor f_t_program_operations f_t_program_firsts f_t_program_seconds f_t_costs t_history_next t_history_kept f_t_machine_values f_t_machine_depths f_t_tidier_newNumbers f_t_tidier_needed t_listing_left t_listing_seen sW sL sR sK sD sO sF sS k_edits k_thrown k_outs f_k_v f_k_past f_k_costs f_k_into f_k_isNeeded f_k_depths f_k_names f_k_out f_k_has f_out) : wc_2 L xs aP i t_generator_input t_program_width t_program_length t_program_result t_program_taskKind t_program_taskDivisor f_t_program_operations f_t_program_firsts f_t_program_seconds f_t_costs t_history_next t_history_kept f_t_machine_values f_t_machine_depths f_t_tidier_newNumbers f_t_tidier_needed t_listing_left t_listing_seen sW sL sR sK sD sO sF sS k_edits k_thrown k_outs f_k_v f_k_past f_k_costs f_k_into f_k_isNeeded f_k_depths f_k_names f_k_out f_k_has f_out Rel := by
  have hR' := hR
  obtain ⟨gi, hcst, hnm, hd0, ⟨W, N, R, kd, dv, code⟩, nx, E, hs, hw, hc, hm, hx, hE8, hws, hch, hmh⟩ := hR
  have w4 : 4 ≤ W := hw.1
  have w16 : W ≤ 16 := hw.2.1
  have n40 : N ≤ 40 := hw.2.2.1
  have rN : R ≤ N := hw.2.2.2.1
  have tk : kd = -1 ∨ tsk W kd dv := hw.2.2.2.2.1
  have wfc : ∀ i, i < N → wfI W i (code i) := hw.2.2.2.2.2
  obtain ⟨p16, pm, ph⟩ := pw w4 w16
  have e1 : t_program_width = iI W := hc.1
  have e2 : t_program_length = iI N := hc.2.1
  have e3 : t_program_result = iI R := hc.2.2.1
  have e4 : t_program_taskKind = iI kd := hc.2.2.2.1
  have hd : kd ≠ -1 → t_program_taskDivisor = iI dv := hc.2.2.2.2.1
  have hcc : cCode N code f_t_program_operations f_t_program_firsts f_t_program_seconds := hc.2.2.2.2.2
  have hv0 : f_k_v 0 = iI W := hm.1
  have hv3 : f_k_v 3 = iI N := hm.2.1
  have hv4 : f_k_v 4 = iI R := hm.2.2.1
  have hv1 : f_k_v 1 = iI kd := hm.2.2.2.1
  have hv2 : kd ≠ -1 → f_k_v 2 = iI dv := hm.2.2.2.2.1
  have hmc : mCode N code f_k_v := hm.2.2.2.2.2
  have hpw := hPush_w hE8 hws hw
  subst e1 e2 e3 e4
  unfold wc_2
  refine ⟨ixl hL hi0 hi6 1 (by decide) (by decide), ixl hL hi0 hi6 2 (by decide) (by decide), ?_⟩
  generalize xs (i + 1).toNatClampNeg = x
  generalize xs (i + 2).toNatClampNeg = y
  obtain ⟨z, z1, z2, rfl⟩ := iI_of x
  obtain ⟨c, c1, c2, rfl⟩ := iI_of y
  unfold wL_setCost wX8_setCost wX8_setCost_13 wX8_setCost_34 wX9_setCost
  rw [iI_l z1 z2, iI_l c1 c2]
  by_cases hz : 0 ≤ z ∧ z ≤ 2
  · by_cases hy : 1 ≤ c ∧ c ≤ 20
    · refine br_lt z 0 (fun _ => by omega) (fun _ => br_lt z 3 (fun _ => br_lt c 1 (fun _ => by omega) (fun _ => br_le c 20 (fun _ => ?_) (fun _ => by omega))) (fun _ => by omega))
      refine ⟨inI z, fun x3 hx3 => ⟨inI z, in01, ixl hL hi0 hi6 1 (by decide) (by decide), ixl hL hi0 hi6 2 (by decide) (by decide), ?_⟩⟩
      refine m_in (a := 0) (b := 2) (by omega) (by omega) (by omega) (by omega) (by omega) (by omega) (fun _ _ => ⟨fun q => absurd q (by decide), fun _ => ?_⟩) (fun q => absurd hz q)
      refine m_in (a := 1) (b := 20) (by omega) (by omega) (by omega) (by omega) (by omega) (by omega) (fun _ _ => ⟨fun q => absurd q (by decide), fun _ => ?_⟩) (fun q => absurd hy q)
      refine ⟨inI z, fun x4 hx4 => ⟨inI z, end_ok ?_ ?_⟩⟩
      · rw [up00, hx3, hx4, iI_cl (by omega) (by omega)]
        obtain ⟨u, u1, u2, u3, u4⟩ := hcst z.toNat (by omega)
        rw [u3, u4]
      · rw [iI_cl (by omega) (by omega)]
        exact ⟨gi, cst_up hcst hz.1 hz.2 hy.1 hy.2, hnm, hd0, (W, N, R, kd, dv, code), nx, E, hs, hw, hc, hm, hx, hE8, hws, hch, hmh⟩
    · skip
      have key : ∀ A B C : Prop, B → ((iI z < 0 → C) ∧ (¬ iI z < 0 → ((iI z < 3 → ((iI c < 1 → B) ∧ (¬ iI c < 1 → ((iI c ≤ 20 → A) ∧ (¬ iI c ≤ 20 → B))))) ∧ (¬ iI z < 3 → C)))) := fun A B C b => br_lt z 0 (fun _ => by omega) (fun _ => br_lt z 3 (fun _ => br_lt c 1 (fun _ => b) (fun _ => br_le c 20 (fun _ => by omega) (fun _ => b))) (fun _ => by omega))
      refine key _ _ _ ?_
      all_goals
        refine Or.inr ⟨rfl, ixl hL hi0 hi6 1 (by decide) (by decide), ixl hL hi0 hi6 2 (by decide) (by decide), ?_⟩
        refine m_in (a := 0) (b := 2) (by omega) (by omega) (by omega) (by omega) (by omega) (by omega) (fun _ _ => ⟨fun q => absurd q (by decide), fun _ => ?_⟩) (fun q => absurd hz q)
        refine m_in (a := 1) (b := 20) (by omega) (by omega) (by omega) (by omega) (by omega) (by omega) (fun _ _ => by omega) (fun _ => ⟨fun _ => ?_, fun q => absurd rfl q⟩)
        exact end_no (by decide) hR'
  · refine br_lt z 0 (fun _ => ?_) (fun _ => br_lt z 3 (fun _ => by omega) (fun _ => ?_))
    all_goals
      refine Or.inl ⟨rfl, ixl hL hi0 hi6 1 (by decide) (by decide), ixl hL hi0 hi6 2 (by decide) (by decide), ?_⟩
      refine m_in (a := 0) (b := 2) (by omega) (by omega) (by omega) (by omega) (by omega) (by omega) (fun _ _ => by omega) (fun _ => ⟨fun _ => ?_, fun q => absurd rfl q⟩)
      exact end_no (by decide) hR'

set_option maxHeartbeats 1000000 in
theorem s_9 {L : Nat} {xs : Nat → Int32} (hL : L ≤ 3072) {aP : Nat → Nat} {i : Int32} (hi0 : 0 ≤ i.toInt) (hi6 : i.toInt + 6 ≤ L) {t_generator_input : Int32} {t_program_width : Int32} {t_program_length : Int32} {t_program_result : Int32} {t_program_taskKind : Int32} {t_program_taskDivisor : Int32} {f_t_program_operations : Nat → Int32} {f_t_program_firsts : Nat → Int32} {f_t_program_seconds : Nat → Int32} {f_t_costs : Nat → Int32} {t_history_next : Int32} {t_history_kept : Int32} {f_t_machine_values : Nat → Int32} {f_t_machine_depths : Nat → Int32} {f_t_tidier_newNumbers : Nat → Int32} {f_t_tidier_needed : Nat → Int32} {t_listing_left : Int32} {t_listing_seen : Int32} {sW : Nat → Int32} {sL : Nat → Int32} {sR : Nat → Int32} {sK : Nat → Int32} {sD : Nat → Int32} {sO : Nat → Nat → Int32} {sF : Nat → Nat → Int32} {sS : Nat → Nat → Int32} {k_edits : Int32} {k_thrown : Int32} {k_outs : Int32} {f_k_v : Nat → Int32} {f_k_past : Nat → Int32} {f_k_costs : Nat → Int32} {f_k_into : Nat → Int32} {f_k_isNeeded : Nat → Int32} {f_k_depths : Nat → Int32} {f_k_names : Nat → Int32} {f_k_out : Nat → Int32} {f_k_has : Nat → Int64} {f_out : Nat → Int64} (hR : Rel t_generator_input t_program_width t_program_length t_program_result t_program_taskKind t_program_taskDivisor f_t_program_operations f_t_program_firsts f_t_program_seconds f_t_costs t_history_next t_history_kept f_t_machine_values f_t_machine_depths f_t_tidier_newNumbers f_t_tidier_needed t_listing_left t_listing_seen sW sL sR sK sD sO sF sS k_edits k_thrown k_outs f_k_v f_k_past f_k_costs f_k_into f_k_isNeeded f_k_depths f_k_names f_k_out f_k_has f_out) : wc_9 L xs aP i t_generator_input t_program_width t_program_length t_program_result t_program_taskKind t_program_taskDivisor f_t_program_operations f_t_program_firsts f_t_program_seconds f_t_costs t_history_next t_history_kept f_t_machine_values f_t_machine_depths f_t_tidier_newNumbers f_t_tidier_needed t_listing_left t_listing_seen sW sL sR sK sD sO sF sS k_edits k_thrown k_outs f_k_v f_k_past f_k_costs f_k_into f_k_isNeeded f_k_depths f_k_names f_k_out f_k_has f_out Rel := by
  have hR' := hR
  obtain ⟨gi, hcst, hnm, hd0, ⟨W, N, R, kd, dv, code⟩, nx, E, hs, hw, hc, hm, hx, hE8, hws, hch, hmh⟩ := hR
  have w4 : 4 ≤ W := hw.1
  have w16 : W ≤ 16 := hw.2.1
  have n40 : N ≤ 40 := hw.2.2.1
  have rN : R ≤ N := hw.2.2.2.1
  have tk : kd = -1 ∨ tsk W kd dv := hw.2.2.2.2.1
  have wfc : ∀ i, i < N → wfI W i (code i) := hw.2.2.2.2.2
  obtain ⟨p16, pm, ph⟩ := pw w4 w16
  have e1 : t_program_width = iI W := hc.1
  have e2 : t_program_length = iI N := hc.2.1
  have e3 : t_program_result = iI R := hc.2.2.1
  have e4 : t_program_taskKind = iI kd := hc.2.2.2.1
  have hd : kd ≠ -1 → t_program_taskDivisor = iI dv := hc.2.2.2.2.1
  have hcc : cCode N code f_t_program_operations f_t_program_firsts f_t_program_seconds := hc.2.2.2.2.2
  have hv0 : f_k_v 0 = iI W := hm.1
  have hv3 : f_k_v 3 = iI N := hm.2.1
  have hv4 : f_k_v 4 = iI R := hm.2.2.1
  have hv1 : f_k_v 1 = iI kd := hm.2.2.2.1
  have hv2 : kd ≠ -1 → f_k_v 2 = iI dv := hm.2.2.2.2.1
  have hmc : mCode N code f_k_v := hm.2.2.2.2.2
  have hpw := hPush_w hE8 hws hw
  subst e1 e2 e3 e4
  unfold wc_9
  refine ⟨ixl hL hi0 hi6 1 (by decide) (by decide), ixl hL hi0 hi6 2 (by decide) (by decide), ?_⟩
  generalize xs (i + 1).toNatClampNeg = x
  generalize xs (i + 2).toNatClampNeg = y
  obtain ⟨z, z1, z2, rfl⟩ := iI_of x
  obtain ⟨c, c1, c2, rfl⟩ := iI_of y
  unfold wL_setTask wX8_setTask wX8_requireTask wX9_setTask
  rw [iI_l c1 c2]
  refine c_task w4 w16 z1 z2 c1 c2 (fun ht => ⟨fun q => absurd q (by decide), fun _ => ?_⟩) (fun ht => ⟨fun _ => ?_, fun q => absurd rfl q⟩)
  · refine c_rem hw hc hx hE8 hch (fun next' kept' sW' sL' sR' sK' sD' sO' sF' sS' hch' => ?_)
    refine ⟨in01, ixl hL hi0 hi6 1 (by decide) (by decide), ixl hL hi0 hi6 2 (by decide) (by decide), ?_⟩
    refine m_task hv0 w4 w16 z1 z2 c1 c2 (fun _ => ⟨fun q => absurd q (by decide), fun _ => ?_⟩) (fun q => absurd ht q)
    refine m_edits n40 hm hE8 hws hmh (fun edits' past' hmh' => ⟨v1, fun x3 hx3 => ⟨v1, v2, end_ok (by rw [up00, hx3, g1, hv1]) ?_⟩⟩)
    refine ⟨gi, hcst, hnm, hd0, (W, N, R, z, c, code), _, _, _, ⟨w4, w16, n40, rN, Or.inr ht, wfc⟩, ⟨rfl, rfl, rfl, rfl, fun _ => rfl, hcc⟩, ?_, Nat.mod_lt _ (by decide), hE_le hE8, hpw, hch', hmh'⟩
    exact ⟨hv0, hv3, hv4, rfl, fun _ => rfl, mCode_ext hmc (fun j hj => by rw [g1, g2, pk_un (by omega), pk_un (by omega)])⟩
  · refine ⟨rfl, ixl hL hi0 hi6 1 (by decide) (by decide), ixl hL hi0 hi6 2 (by decide) (by decide), ?_⟩
    refine m_task hv0 w4 w16 z1 z2 c1 c2 (fun q => absurd q ht) (fun _ => ⟨fun _ => ?_, fun q => absurd rfl q⟩)
    exact end_no (by decide) hR'

set_option maxHeartbeats 1000000 in
theorem s_11 {L : Nat} {xs : Nat → Int32} (hL : L ≤ 3072) {aP : Nat → Nat} {i : Int32} (hi0 : 0 ≤ i.toInt) (hi6 : i.toInt + 6 ≤ L) {t_generator_input : Int32} {t_program_width : Int32} {t_program_length : Int32} {t_program_result : Int32} {t_program_taskKind : Int32} {t_program_taskDivisor : Int32} {f_t_program_operations : Nat → Int32} {f_t_program_firsts : Nat → Int32} {f_t_program_seconds : Nat → Int32} {f_t_costs : Nat → Int32} {t_history_next : Int32} {t_history_kept : Int32} {f_t_machine_values : Nat → Int32} {f_t_machine_depths : Nat → Int32} {f_t_tidier_newNumbers : Nat → Int32} {f_t_tidier_needed : Nat → Int32} {t_listing_left : Int32} {t_listing_seen : Int32} {sW : Nat → Int32} {sL : Nat → Int32} {sR : Nat → Int32} {sK : Nat → Int32} {sD : Nat → Int32} {sO : Nat → Nat → Int32} {sF : Nat → Nat → Int32} {sS : Nat → Nat → Int32} {k_edits : Int32} {k_thrown : Int32} {k_outs : Int32} {f_k_v : Nat → Int32} {f_k_past : Nat → Int32} {f_k_costs : Nat → Int32} {f_k_into : Nat → Int32} {f_k_isNeeded : Nat → Int32} {f_k_depths : Nat → Int32} {f_k_names : Nat → Int32} {f_k_out : Nat → Int32} {f_k_has : Nat → Int64} {f_out : Nat → Int64} (hR : Rel t_generator_input t_program_width t_program_length t_program_result t_program_taskKind t_program_taskDivisor f_t_program_operations f_t_program_firsts f_t_program_seconds f_t_costs t_history_next t_history_kept f_t_machine_values f_t_machine_depths f_t_tidier_newNumbers f_t_tidier_needed t_listing_left t_listing_seen sW sL sR sK sD sO sF sS k_edits k_thrown k_outs f_k_v f_k_past f_k_costs f_k_into f_k_isNeeded f_k_depths f_k_names f_k_out f_k_has f_out) : wc_11 L xs aP i t_generator_input t_program_width t_program_length t_program_result t_program_taskKind t_program_taskDivisor f_t_program_operations f_t_program_firsts f_t_program_seconds f_t_costs t_history_next t_history_kept f_t_machine_values f_t_machine_depths f_t_tidier_newNumbers f_t_tidier_needed t_listing_left t_listing_seen sW sL sR sK sD sO sF sS k_edits k_thrown k_outs f_k_v f_k_past f_k_costs f_k_into f_k_isNeeded f_k_depths f_k_names f_k_out f_k_has f_out Rel := by
  have hR' := hR
  obtain ⟨gi, hcst, hnm, hd0, ⟨W, N, R, kd, dv, code⟩, nx, E, hs, hw, hc, hm, hx, hE8, hws, hch, hmh⟩ := hR
  have w4 : 4 ≤ W := hw.1
  have w16 : W ≤ 16 := hw.2.1
  have n40 : N ≤ 40 := hw.2.2.1
  have rN : R ≤ N := hw.2.2.2.1
  have tk : kd = -1 ∨ tsk W kd dv := hw.2.2.2.2.1
  have wfc : ∀ i, i < N → wfI W i (code i) := hw.2.2.2.2.2
  obtain ⟨p16, pm, ph⟩ := pw w4 w16
  have e1 : t_program_width = iI W := hc.1
  have e2 : t_program_length = iI N := hc.2.1
  have e3 : t_program_result = iI R := hc.2.2.1
  have e4 : t_program_taskKind = iI kd := hc.2.2.2.1
  have hd : kd ≠ -1 → t_program_taskDivisor = iI dv := hc.2.2.2.2.1
  have hcc : cCode N code f_t_program_operations f_t_program_firsts f_t_program_seconds := hc.2.2.2.2.2
  have hv0 : f_k_v 0 = iI W := hm.1
  have hv3 : f_k_v 3 = iI N := hm.2.1
  have hv4 : f_k_v 4 = iI R := hm.2.2.1
  have hv1 : f_k_v 1 = iI kd := hm.2.2.2.1
  have hv2 : kd ≠ -1 → f_k_v 2 = iI dv := hm.2.2.2.2.1
  have hmc : mCode N code f_k_v := hm.2.2.2.2.2
  have hpw := hPush_w hE8 hws hw
  subst e1 e2 e3 e4
  unfold wc_11
  refine ⟨ixl hL hi0 hi6 1 (by decide) (by decide), ?_⟩
  generalize xs (i + 1).toNatClampNeg = x
  obtain ⟨z, z1, z2, rfl⟩ := iI_of x
  unfold wL_setResult wX8_setResult wX9_setResult
  rw [iI_l z1 z2, g3, hv3, iI_l (by omega) (by omega)]
  refine c_reqV z n40 (fun a b => ?_) (fun a => ?_)
  · refine c_rem hw hc hx hE8 hch (fun next' kept' sW' sL' sR' sK' sD' sO' sF' sS' hch' => ?_)
    refine ⟨in01, ixl hL hi0 hi6 1 (by decide) (by decide), v3, ?_⟩
    refine m_in (a := 0) (by omega) (by omega) (by omega) (by omega) (by omega) (by omega) (fun _ _ => ⟨fun q => absurd q (by decide), fun _ => ?_⟩) (fun q => absurd ⟨a, b⟩ q)
    refine m_edits n40 hm hE8 hws hmh (fun edits' past' hmh' => ⟨v4, fun x3 hx3 => ⟨v4, end_ok (by rw [up00, hx3, g4, hv4]) ?_⟩⟩)
    obtain ⟨r, rfl⟩ : ∃ r : Nat, (r : Int) = z := ⟨z.toNat, by omega⟩
    refine ⟨gi, hcst, hnm, hd0, (W, N, r, kd, dv, code), _, _, _, ⟨w4, w16, n40, (by omega : r ≤ N), tk, wfc⟩, ⟨rfl, rfl, rfl, rfl, hd, hcc⟩, ?_, Nat.mod_lt _ (by decide), hE_le hE8, hpw, hch', hmh'⟩
    exact ⟨hv0, hv3, rfl, hv1, hv2, mCode_ext hmc (fun j hj => by rw [g4, pk_un (by omega)])⟩
  · refine ⟨rfl, ixl hL hi0 hi6 1 (by decide) (by decide), v3, ?_⟩
    refine m_in (a := 0) (by omega) (by omega) (by omega) (by omega) (by omega) (by omega) (fun c d => absurd ⟨c, d⟩ a) (fun _ => ⟨fun _ => ?_, fun q => absurd rfl q⟩)
    exact end_no (by decide) hR'

set_option maxHeartbeats 1000000 in
theorem s_12 {L : Nat} {xs : Nat → Int32} (hL : L ≤ 3072) {aP : Nat → Nat} {i : Int32} (hi0 : 0 ≤ i.toInt) (hi6 : i.toInt + 6 ≤ L) {t_generator_input : Int32} {t_program_width : Int32} {t_program_length : Int32} {t_program_result : Int32} {t_program_taskKind : Int32} {t_program_taskDivisor : Int32} {f_t_program_operations : Nat → Int32} {f_t_program_firsts : Nat → Int32} {f_t_program_seconds : Nat → Int32} {f_t_costs : Nat → Int32} {t_history_next : Int32} {t_history_kept : Int32} {f_t_machine_values : Nat → Int32} {f_t_machine_depths : Nat → Int32} {f_t_tidier_newNumbers : Nat → Int32} {f_t_tidier_needed : Nat → Int32} {t_listing_left : Int32} {t_listing_seen : Int32} {sW : Nat → Int32} {sL : Nat → Int32} {sR : Nat → Int32} {sK : Nat → Int32} {sD : Nat → Int32} {sO : Nat → Nat → Int32} {sF : Nat → Nat → Int32} {sS : Nat → Nat → Int32} {k_edits : Int32} {k_thrown : Int32} {k_outs : Int32} {f_k_v : Nat → Int32} {f_k_past : Nat → Int32} {f_k_costs : Nat → Int32} {f_k_into : Nat → Int32} {f_k_isNeeded : Nat → Int32} {f_k_depths : Nat → Int32} {f_k_names : Nat → Int32} {f_k_out : Nat → Int32} {f_k_has : Nat → Int64} {f_out : Nat → Int64} (hR : Rel t_generator_input t_program_width t_program_length t_program_result t_program_taskKind t_program_taskDivisor f_t_program_operations f_t_program_firsts f_t_program_seconds f_t_costs t_history_next t_history_kept f_t_machine_values f_t_machine_depths f_t_tidier_newNumbers f_t_tidier_needed t_listing_left t_listing_seen sW sL sR sK sD sO sF sS k_edits k_thrown k_outs f_k_v f_k_past f_k_costs f_k_into f_k_isNeeded f_k_depths f_k_names f_k_out f_k_has f_out) : wc_12 L xs aP i t_generator_input t_program_width t_program_length t_program_result t_program_taskKind t_program_taskDivisor f_t_program_operations f_t_program_firsts f_t_program_seconds f_t_costs t_history_next t_history_kept f_t_machine_values f_t_machine_depths f_t_tidier_newNumbers f_t_tidier_needed t_listing_left t_listing_seen sW sL sR sK sD sO sF sS k_edits k_thrown k_outs f_k_v f_k_past f_k_costs f_k_into f_k_isNeeded f_k_depths f_k_names f_k_out f_k_has f_out Rel := by
  have hR' := hR
  obtain ⟨gi, hcst, hnm, hd0, ⟨W, N, R, kd, dv, code⟩, nx, E, hs, hw, hc, hm, hx, hE8, hws, hch, hmh⟩ := hR
  have w4 : 4 ≤ W := hw.1
  have w16 : W ≤ 16 := hw.2.1
  have n40 : N ≤ 40 := hw.2.2.1
  have rN : R ≤ N := hw.2.2.2.1
  have tk : kd = -1 ∨ tsk W kd dv := hw.2.2.2.2.1
  have wfc : ∀ i, i < N → wfI W i (code i) := hw.2.2.2.2.2
  obtain ⟨p16, pm, ph⟩ := pw w4 w16
  have e1 : t_program_width = iI W := hc.1
  have e2 : t_program_length = iI N := hc.2.1
  have e3 : t_program_result = iI R := hc.2.2.1
  have e4 : t_program_taskKind = iI kd := hc.2.2.2.1
  have hd : kd ≠ -1 → t_program_taskDivisor = iI dv := hc.2.2.2.2.1
  have hcc : cCode N code f_t_program_operations f_t_program_firsts f_t_program_seconds := hc.2.2.2.2.2
  have hv0 : f_k_v 0 = iI W := hm.1
  have hv3 : f_k_v 3 = iI N := hm.2.1
  have hv4 : f_k_v 4 = iI R := hm.2.2.1
  have hv1 : f_k_v 1 = iI kd := hm.2.2.2.1
  have hv2 : kd ≠ -1 → f_k_v 2 = iI dv := hm.2.2.2.2.1
  have hmc : mCode N code f_k_v := hm.2.2.2.2.2
  have hpw := hPush_w hE8 hws hw
  subst e1 e2 e3 e4
  unfold wc_12
  unfold wL_drop wX8_drop wX9_drop
  rw [g3, g4, hv3]
  have es : iI N - 1 = iI ((N : Int) - 1) := by show iI N - iI 1 = _; rw [iI_sub]
  rw [es]
  refine br_eq N 0 (fun c => ?_) (fun c => ?_)
  · refine ⟨rfl, v3, ?_⟩
    refine br_eq N 0 (fun _ => ?_) (fun q => absurd c q)
    exact end_no (by decide) hR'
  · refine c_rem hw hc hx hE8 hch (fun next' kept' sW' sL' sR' sK' sD' sO' sF' sS' hch' => ?_)
    unfold wX8_drop_31
    rw [es]
    refine ⟨in01, v3, ?_⟩
    refine br_eq N 0 (fun q => absurd q c) (fun _ => ?_)
    refine m_edits n40 hm hE8 hws hmh (fun edits' past' hmh' => ⟨v3, v3, v4, v3, ?_⟩)
    have f4 : upd f_k_v 3 (iI ((N : Int) - 1)) 4 = iI R := hv4
    have f3 : upd f_k_v 3 (iI ((N : Int) - 1)) 3 = iI ((N : Int) - 1) := rfl
    rw [f4, f3]
    unfold wX9_drop_69
    rw [g3, g4, hv3, es]
    obtain ⟨n, hn⟩ : ∃ n : Nat, (n : Int) = (N : Int) - 1 := ⟨N - 1, by omega⟩
    rw [← hn]
    have w5 : ∀ i, i < n → wfI W i (code i) := fun i hi => wfc i (by omega)
    have hcc5 : cCode n code f_t_program_operations f_t_program_firsts f_t_program_seconds := fun i hi => hcc i (by omega)
    have hmc5 : mCode n code f_k_v := fun i hi => hmc i (by omega)
    refine br_le R n (fun d => ⟨v4, v4, v3, end_ok rfl ?_⟩) (fun d => ⟨v3, v4, v3, end_ok rfl ?_⟩)
    · have hif : (if iI (n : Int) < iI R then iI (n : Int) else iI R) = iI R := by rw [if_neg]; rw [iI_lt (by omega) (by omega) (by omega) (by omega)]; omega
      rw [hif]
      refine ⟨gi, hcst, hnm, hd0, (W, n, R, kd, dv, code), _, _, _, ⟨w4, w16, (by omega : n ≤ 40), (by omega : R ≤ n), tk, w5⟩, ⟨rfl, rfl, rfl, rfl, hd, hcc5⟩, ?_, Nat.mod_lt _ (by decide), hE_le hE8, hpw, hch', hmh'⟩
      exact ⟨hv0, rfl, rfl, hv1, hv2, mCode_ext hmc5 (fun j hj => by rw [pk_un (by omega), pk_un (by omega)])⟩
    · have hif : (if iI (n : Int) < iI R then iI (n : Int) else iI R) = iI n := by rw [if_pos]; rw [iI_lt (by omega) (by omega) (by omega) (by omega)]; omega
      rw [hif]
      refine ⟨gi, hcst, hnm, hd0, (W, n, n, kd, dv, code), _, _, _, ⟨w4, w16, (by omega : n ≤ 40), Nat.le_refl _, tk, w5⟩, ⟨rfl, rfl, rfl, rfl, hd, hcc5⟩, ?_, Nat.mod_lt _ (by decide), hE_le hE8, hpw, hch', hmh'⟩
      exact ⟨hv0, rfl, rfl, hv1, hv2, mCode_ext hmc5 (fun j hj => by rw [pk_un (by omega), pk_un (by omega)])⟩

set_option maxHeartbeats 1000000 in
theorem s_14 {L : Nat} {xs : Nat → Int32} (hL : L ≤ 3072) {aP : Nat → Nat} {i : Int32} (hi0 : 0 ≤ i.toInt) (hi6 : i.toInt + 6 ≤ L) {t_generator_input : Int32} {t_program_width : Int32} {t_program_length : Int32} {t_program_result : Int32} {t_program_taskKind : Int32} {t_program_taskDivisor : Int32} {f_t_program_operations : Nat → Int32} {f_t_program_firsts : Nat → Int32} {f_t_program_seconds : Nat → Int32} {f_t_costs : Nat → Int32} {t_history_next : Int32} {t_history_kept : Int32} {f_t_machine_values : Nat → Int32} {f_t_machine_depths : Nat → Int32} {f_t_tidier_newNumbers : Nat → Int32} {f_t_tidier_needed : Nat → Int32} {t_listing_left : Int32} {t_listing_seen : Int32} {sW : Nat → Int32} {sL : Nat → Int32} {sR : Nat → Int32} {sK : Nat → Int32} {sD : Nat → Int32} {sO : Nat → Nat → Int32} {sF : Nat → Nat → Int32} {sS : Nat → Nat → Int32} {k_edits : Int32} {k_thrown : Int32} {k_outs : Int32} {f_k_v : Nat → Int32} {f_k_past : Nat → Int32} {f_k_costs : Nat → Int32} {f_k_into : Nat → Int32} {f_k_isNeeded : Nat → Int32} {f_k_depths : Nat → Int32} {f_k_names : Nat → Int32} {f_k_out : Nat → Int32} {f_k_has : Nat → Int64} {f_out : Nat → Int64} (hR : Rel t_generator_input t_program_width t_program_length t_program_result t_program_taskKind t_program_taskDivisor f_t_program_operations f_t_program_firsts f_t_program_seconds f_t_costs t_history_next t_history_kept f_t_machine_values f_t_machine_depths f_t_tidier_newNumbers f_t_tidier_needed t_listing_left t_listing_seen sW sL sR sK sD sO sF sS k_edits k_thrown k_outs f_k_v f_k_past f_k_costs f_k_into f_k_isNeeded f_k_depths f_k_names f_k_out f_k_has f_out) : wc_14 L xs aP i t_generator_input t_program_width t_program_length t_program_result t_program_taskKind t_program_taskDivisor f_t_program_operations f_t_program_firsts f_t_program_seconds f_t_costs t_history_next t_history_kept f_t_machine_values f_t_machine_depths f_t_tidier_newNumbers f_t_tidier_needed t_listing_left t_listing_seen sW sL sR sK sD sO sF sS k_edits k_thrown k_outs f_k_v f_k_past f_k_costs f_k_into f_k_isNeeded f_k_depths f_k_names f_k_out f_k_has f_out Rel := by
  have hR' := hR
  obtain ⟨gi, hcst, hnm, hd0, ⟨W, N, R, kd, dv, code⟩, nx, E, hs, hw, hc, hm, hx, hE8, hws, hch, hmh⟩ := hR
  have w4 : 4 ≤ W := hw.1
  have w16 : W ≤ 16 := hw.2.1
  have n40 : N ≤ 40 := hw.2.2.1
  have rN : R ≤ N := hw.2.2.2.1
  have tk : kd = -1 ∨ tsk W kd dv := hw.2.2.2.2.1
  have wfc : ∀ i, i < N → wfI W i (code i) := hw.2.2.2.2.2
  obtain ⟨p16, pm, ph⟩ := pw w4 w16
  have e1 : t_program_width = iI W := hc.1
  have e2 : t_program_length = iI N := hc.2.1
  have e3 : t_program_result = iI R := hc.2.2.1
  have e4 : t_program_taskKind = iI kd := hc.2.2.2.1
  have hd : kd ≠ -1 → t_program_taskDivisor = iI dv := hc.2.2.2.2.1
  have hcc : cCode N code f_t_program_operations f_t_program_firsts f_t_program_seconds := hc.2.2.2.2.2
  have hv0 : f_k_v 0 = iI W := hm.1
  have hv3 : f_k_v 3 = iI N := hm.2.1
  have hv4 : f_k_v 4 = iI R := hm.2.2.1
  have hv1 : f_k_v 1 = iI kd := hm.2.2.2.1
  have hv2 : kd ≠ -1 → f_k_v 2 = iI dv := hm.2.2.2.2.1
  have hmc : mCode N code f_k_v := hm.2.2.2.2.2
  have hpw := hPush_w hE8 hws hw
  subst e1 e2 e3 e4
  unfold wc_14
  unfold wL_undo wX8_undo wX9_undo
  have ek : t_history_kept = iI E := hch.2.1
  have ee : k_edits = iI E := hmh.1
  subst ek ee
  refine br_eq E 0 (fun c => ?_) (fun c => ?_)
  · refine ⟨rfl, ?_⟩
    refine br_eq E 0 (fun _ => ?_) (fun q => absurd c q)
    exact end_no (by decide) hR'
  · obtain ⟨F, rfl⟩ : ∃ F : Nat, E = F + 1 := ⟨E - 1, by omega⟩
    refine c_res hx (by omega) hws hch (fun j next' kept' w' n' r' k' d' o' f' s' hc' hch' => ?_)
    unfold wX8_undo_31
    refine ⟨in01, ?_⟩
    refine br_eq ((F + 1 : Nat) : Int) 0 (fun q => absurd q c) (fun _ => ⟨_, m_un30 f_k_past _ F (by omega) 206 0 f_k_v rfl (fun v' hv' => ?_)⟩)
    refine end_ok (by rw [up00, hch'.2.1]) ?_
    refine ⟨gi, hcst, hnm, hd0, hs F, (nx + 7) % 8, F, hs, hws F (by omega), hc', ?_, Nat.mod_lt _ (by decide), by omega, fun e he => hws e (by omega), hch', rfl, fun e he => hmh.2 e (by omega)⟩
    refine mPrg_ext (hws F (by omega)).2.2.1 (hmh.2 F (by omega)) (fun j hj => ?_)
    rw [hv' j hj, if_pos (Nat.zero_le _)]

set_option maxHeartbeats 1000000 in
theorem s_15 {L : Nat} {xs : Nat → Int32} (hL : L ≤ 3072) {aP : Nat → Nat} {i : Int32} (hi0 : 0 ≤ i.toInt) (hi6 : i.toInt + 6 ≤ L) {t_generator_input : Int32} {t_program_width : Int32} {t_program_length : Int32} {t_program_result : Int32} {t_program_taskKind : Int32} {t_program_taskDivisor : Int32} {f_t_program_operations : Nat → Int32} {f_t_program_firsts : Nat → Int32} {f_t_program_seconds : Nat → Int32} {f_t_costs : Nat → Int32} {t_history_next : Int32} {t_history_kept : Int32} {f_t_machine_values : Nat → Int32} {f_t_machine_depths : Nat → Int32} {f_t_tidier_newNumbers : Nat → Int32} {f_t_tidier_needed : Nat → Int32} {t_listing_left : Int32} {t_listing_seen : Int32} {sW : Nat → Int32} {sL : Nat → Int32} {sR : Nat → Int32} {sK : Nat → Int32} {sD : Nat → Int32} {sO : Nat → Nat → Int32} {sF : Nat → Nat → Int32} {sS : Nat → Nat → Int32} {k_edits : Int32} {k_thrown : Int32} {k_outs : Int32} {f_k_v : Nat → Int32} {f_k_past : Nat → Int32} {f_k_costs : Nat → Int32} {f_k_into : Nat → Int32} {f_k_isNeeded : Nat → Int32} {f_k_depths : Nat → Int32} {f_k_names : Nat → Int32} {f_k_out : Nat → Int32} {f_k_has : Nat → Int64} {f_out : Nat → Int64} (hR : Rel t_generator_input t_program_width t_program_length t_program_result t_program_taskKind t_program_taskDivisor f_t_program_operations f_t_program_firsts f_t_program_seconds f_t_costs t_history_next t_history_kept f_t_machine_values f_t_machine_depths f_t_tidier_newNumbers f_t_tidier_needed t_listing_left t_listing_seen sW sL sR sK sD sO sF sS k_edits k_thrown k_outs f_k_v f_k_past f_k_costs f_k_into f_k_isNeeded f_k_depths f_k_names f_k_out f_k_has f_out) : wc_15 L xs aP i t_generator_input t_program_width t_program_length t_program_result t_program_taskKind t_program_taskDivisor f_t_program_operations f_t_program_firsts f_t_program_seconds f_t_costs t_history_next t_history_kept f_t_machine_values f_t_machine_depths f_t_tidier_newNumbers f_t_tidier_needed t_listing_left t_listing_seen sW sL sR sK sD sO sF sS k_edits k_thrown k_outs f_k_v f_k_past f_k_costs f_k_into f_k_isNeeded f_k_depths f_k_names f_k_out f_k_has f_out Rel := by
  have hR' := hR
  obtain ⟨gi, hcst, hnm, hd0, ⟨W, N, R, kd, dv, code⟩, nx, E, hs, hw, hc, hm, hx, hE8, hws, hch, hmh⟩ := hR
  have w4 : 4 ≤ W := hw.1
  have w16 : W ≤ 16 := hw.2.1
  have n40 : N ≤ 40 := hw.2.2.1
  have rN : R ≤ N := hw.2.2.2.1
  have tk : kd = -1 ∨ tsk W kd dv := hw.2.2.2.2.1
  have wfc : ∀ i, i < N → wfI W i (code i) := hw.2.2.2.2.2
  obtain ⟨p16, pm, ph⟩ := pw w4 w16
  have e1 : t_program_width = iI W := hc.1
  have e2 : t_program_length = iI N := hc.2.1
  have e3 : t_program_result = iI R := hc.2.2.1
  have e4 : t_program_taskKind = iI kd := hc.2.2.2.1
  have hd : kd ≠ -1 → t_program_taskDivisor = iI dv := hc.2.2.2.2.1
  have hcc : cCode N code f_t_program_operations f_t_program_firsts f_t_program_seconds := hc.2.2.2.2.2
  have hv0 : f_k_v 0 = iI W := hm.1
  have hv3 : f_k_v 3 = iI N := hm.2.1
  have hv4 : f_k_v 4 = iI R := hm.2.2.1
  have hv1 : f_k_v 1 = iI kd := hm.2.2.2.1
  have hv2 : kd ≠ -1 → f_k_v 2 = iI dv := hm.2.2.2.2.1
  have hmc : mCode N code f_k_v := hm.2.2.2.2.2
  have hpw := hPush_w hE8 hws hw
  subst e1 e2 e3 e4
  unfold wc_15
  unfold wX8_instructions wX9_instructions
  exact ⟨v3, end_eq hv3.symm hR'⟩

set_option maxHeartbeats 1000000 in
theorem s_19 {L : Nat} {xs : Nat → Int32} (hL : L ≤ 3072) {aP : Nat → Nat} {i : Int32} (hi0 : 0 ≤ i.toInt) (hi6 : i.toInt + 6 ≤ L) {t_generator_input : Int32} {t_program_width : Int32} {t_program_length : Int32} {t_program_result : Int32} {t_program_taskKind : Int32} {t_program_taskDivisor : Int32} {f_t_program_operations : Nat → Int32} {f_t_program_firsts : Nat → Int32} {f_t_program_seconds : Nat → Int32} {f_t_costs : Nat → Int32} {t_history_next : Int32} {t_history_kept : Int32} {f_t_machine_values : Nat → Int32} {f_t_machine_depths : Nat → Int32} {f_t_tidier_newNumbers : Nat → Int32} {f_t_tidier_needed : Nat → Int32} {t_listing_left : Int32} {t_listing_seen : Int32} {sW : Nat → Int32} {sL : Nat → Int32} {sR : Nat → Int32} {sK : Nat → Int32} {sD : Nat → Int32} {sO : Nat → Nat → Int32} {sF : Nat → Nat → Int32} {sS : Nat → Nat → Int32} {k_edits : Int32} {k_thrown : Int32} {k_outs : Int32} {f_k_v : Nat → Int32} {f_k_past : Nat → Int32} {f_k_costs : Nat → Int32} {f_k_into : Nat → Int32} {f_k_isNeeded : Nat → Int32} {f_k_depths : Nat → Int32} {f_k_names : Nat → Int32} {f_k_out : Nat → Int32} {f_k_has : Nat → Int64} {f_out : Nat → Int64} (hR : Rel t_generator_input t_program_width t_program_length t_program_result t_program_taskKind t_program_taskDivisor f_t_program_operations f_t_program_firsts f_t_program_seconds f_t_costs t_history_next t_history_kept f_t_machine_values f_t_machine_depths f_t_tidier_newNumbers f_t_tidier_needed t_listing_left t_listing_seen sW sL sR sK sD sO sF sS k_edits k_thrown k_outs f_k_v f_k_past f_k_costs f_k_into f_k_isNeeded f_k_depths f_k_names f_k_out f_k_has f_out) : wc_19 L xs aP i t_generator_input t_program_width t_program_length t_program_result t_program_taskKind t_program_taskDivisor f_t_program_operations f_t_program_firsts f_t_program_seconds f_t_costs t_history_next t_history_kept f_t_machine_values f_t_machine_depths f_t_tidier_newNumbers f_t_tidier_needed t_listing_left t_listing_seen sW sL sR sK sD sO sF sS k_edits k_thrown k_outs f_k_v f_k_past f_k_costs f_k_into f_k_isNeeded f_k_depths f_k_names f_k_out f_k_has f_out Rel := by
  have hR' := hR
  obtain ⟨gi, hcst, hnm, hd0, ⟨W, N, R, kd, dv, code⟩, nx, E, hs, hw, hc, hm, hx, hE8, hws, hch, hmh⟩ := hR
  have w4 : 4 ≤ W := hw.1
  have w16 : W ≤ 16 := hw.2.1
  have n40 : N ≤ 40 := hw.2.2.1
  have rN : R ≤ N := hw.2.2.2.1
  have tk : kd = -1 ∨ tsk W kd dv := hw.2.2.2.2.1
  have wfc : ∀ i, i < N → wfI W i (code i) := hw.2.2.2.2.2
  obtain ⟨p16, pm, ph⟩ := pw w4 w16
  have e1 : t_program_width = iI W := hc.1
  have e2 : t_program_length = iI N := hc.2.1
  have e3 : t_program_result = iI R := hc.2.2.1
  have e4 : t_program_taskKind = iI kd := hc.2.2.2.1
  have hd : kd ≠ -1 → t_program_taskDivisor = iI dv := hc.2.2.2.2.1
  have hcc : cCode N code f_t_program_operations f_t_program_firsts f_t_program_seconds := hc.2.2.2.2.2
  have hv0 : f_k_v 0 = iI W := hm.1
  have hv3 : f_k_v 3 = iI N := hm.2.1
  have hv4 : f_k_v 4 = iI R := hm.2.2.1
  have hv1 : f_k_v 1 = iI kd := hm.2.2.2.1
  have hv2 : kd ≠ -1 → f_k_v 2 = iI dv := hm.2.2.2.2.1
  have hmc : mCode N code f_k_v := hm.2.2.2.2.2
  have hpw := hPush_w hE8 hws hw
  subst e1 e2 e3 e4
  unfold wc_19
  unfold wX8_result wX9_result
  exact ⟨v4, end_eq hv4.symm hR'⟩

theorem c_num {q : Opd} {B : Nat} (h : q.2 ≤ B) (hB : B ≤ 1000000) {Q : Int32 → Prop} (hQ : Q (iI q.2)) : wX5_numberOf (cOp q) Q := by
  unfold wX5_numberOf wX5_isValue cOp
  cases hq : q.1 with
  | true =>
    rw [if_pos rfl]
    exact br_le 0 q.2 (fun _ => ⟨fun _ => hQ, fun c => absurd rfl c⟩) (fun c => by omega)
  | false =>
    rw [if_neg (by decide)]
    refine br_le 0 (-1 - q.2) (fun c => by omega) (fun c => ⟨fun c => absurd c (by decide), fun _ => ?_⟩)
    have e : ((-1) : Int32) - iI (-1 - (q.2 : Int)) = iI q.2 := by show iI (-1) - _ = _; rw [iI_sub]; congr 1; omega
    rw [e]; exact hQ
theorem c_isv {q : Opd} {B : Nat} (h : q.2 ≤ B) (hB : B ≤ 1000000) {Q : Int32 → Prop} (hT : q.1 = false → Q 1) (hF : q.1 = true → Q 0) : wX5_isValue (cOp q) Q := by
  unfold wX5_isValue cOp
  cases hq : q.1 with
  | true => rw [if_pos rfl]; exact br_le 0 q.2 (fun _ => hF hq) (fun c => by omega)
  | false => rw [if_neg (by decide)]; exact br_le 0 (-1 - q.2) (fun c => by omega) (fun c => hT hq)
theorem wf_le {W i : Nat} (w16 : W ≤ 16) (w4 : 4 ≤ W) (hi : i ≤ 40) {q : Opd} (h : wfO W i q) : q.2 ≤ 65536 := by
  obtain ⟨p16, pm, ph⟩ := pw w4 w16
  cases hq : q.1 with
  | true => have := h.1 hq; omega
  | false => have := h.2 hq; omega

set_option maxHeartbeats 1000000 in
theorem s_16 {L : Nat} {xs : Nat → Int32} (hL : L ≤ 3072) {aP : Nat → Nat} {i : Int32} (hi0 : 0 ≤ i.toInt) (hi6 : i.toInt + 6 ≤ L) {t_generator_input : Int32} {t_program_width : Int32} {t_program_length : Int32} {t_program_result : Int32} {t_program_taskKind : Int32} {t_program_taskDivisor : Int32} {f_t_program_operations : Nat → Int32} {f_t_program_firsts : Nat → Int32} {f_t_program_seconds : Nat → Int32} {f_t_costs : Nat → Int32} {t_history_next : Int32} {t_history_kept : Int32} {f_t_machine_values : Nat → Int32} {f_t_machine_depths : Nat → Int32} {f_t_tidier_newNumbers : Nat → Int32} {f_t_tidier_needed : Nat → Int32} {t_listing_left : Int32} {t_listing_seen : Int32} {sW : Nat → Int32} {sL : Nat → Int32} {sR : Nat → Int32} {sK : Nat → Int32} {sD : Nat → Int32} {sO : Nat → Nat → Int32} {sF : Nat → Nat → Int32} {sS : Nat → Nat → Int32} {k_edits : Int32} {k_thrown : Int32} {k_outs : Int32} {f_k_v : Nat → Int32} {f_k_past : Nat → Int32} {f_k_costs : Nat → Int32} {f_k_into : Nat → Int32} {f_k_isNeeded : Nat → Int32} {f_k_depths : Nat → Int32} {f_k_names : Nat → Int32} {f_k_out : Nat → Int32} {f_k_has : Nat → Int64} {f_out : Nat → Int64} (hR : Rel t_generator_input t_program_width t_program_length t_program_result t_program_taskKind t_program_taskDivisor f_t_program_operations f_t_program_firsts f_t_program_seconds f_t_costs t_history_next t_history_kept f_t_machine_values f_t_machine_depths f_t_tidier_newNumbers f_t_tidier_needed t_listing_left t_listing_seen sW sL sR sK sD sO sF sS k_edits k_thrown k_outs f_k_v f_k_past f_k_costs f_k_into f_k_isNeeded f_k_depths f_k_names f_k_out f_k_has f_out) : wc_16 L xs aP i t_generator_input t_program_width t_program_length t_program_result t_program_taskKind t_program_taskDivisor f_t_program_operations f_t_program_firsts f_t_program_seconds f_t_costs t_history_next t_history_kept f_t_machine_values f_t_machine_depths f_t_tidier_newNumbers f_t_tidier_needed t_listing_left t_listing_seen sW sL sR sK sD sO sF sS k_edits k_thrown k_outs f_k_v f_k_past f_k_costs f_k_into f_k_isNeeded f_k_depths f_k_names f_k_out f_k_has f_out Rel := by
  have hR' := hR
  obtain ⟨gi, hcst, hnm, hd0, ⟨W, N, R, kd, dv, code⟩, nx, E, hs, hw, hc, hm, hx, hE8, hws, hch, hmh⟩ := hR
  have w4 : 4 ≤ W := hw.1
  have w16 : W ≤ 16 := hw.2.1
  have n40 : N ≤ 40 := hw.2.2.1
  have rN : R ≤ N := hw.2.2.2.1
  have tk : kd = -1 ∨ tsk W kd dv := hw.2.2.2.2.1
  have wfc : ∀ i, i < N → wfI W i (code i) := hw.2.2.2.2.2
  obtain ⟨p16, pm, ph⟩ := pw w4 w16
  have e1 : t_program_width = iI W := hc.1
  have e2 : t_program_length = iI N := hc.2.1
  have e3 : t_program_result = iI R := hc.2.2.1
  have e4 : t_program_taskKind = iI kd := hc.2.2.2.1
  have hd : kd ≠ -1 → t_program_taskDivisor = iI dv := hc.2.2.2.2.1
  have hcc : cCode N code f_t_program_operations f_t_program_firsts f_t_program_seconds := hc.2.2.2.2.2
  have hv0 : f_k_v 0 = iI W := hm.1
  have hv3 : f_k_v 3 = iI N := hm.2.1
  have hv4 : f_k_v 4 = iI R := hm.2.2.1
  have hv1 : f_k_v 1 = iI kd := hm.2.2.2.1
  have hv2 : kd ≠ -1 → f_k_v 2 = iI dv := hm.2.2.2.2.1
  have hmc : mCode N code f_k_v := hm.2.2.2.2.2
  have hpw := hPush_w hE8 hws hw
  subst e1 e2 e3 e4
  unfold wc_16
  refine ⟨ixl hL hi0 hi6 1 (by decide) (by decide), ?_⟩
  generalize xs (i + 1).toNatClampNeg = x
  obtain ⟨z, z1, z2, rfl⟩ := iI_of x
  unfold wL_operation wX8_operation wX9_operation
  have es : iI N - 1 = iI ((N : Int) - 1) := by show iI N - iI 1 = _; rw [iI_sub]
  rw [iI_l z1 z2, g3, hv3, es, iI_l (by omega) (by omega)]
  refine c_reqI z n40 (fun a b => ?_) (fun a => ?_)
  · refine ⟨inI z, in01, ixl hL hi0 hi6 1 (by decide) (by decide), v3, ?_⟩
    refine m_in (a := 0) (by omega) (by omega) (by omega) (by omega) (by omega) (by omega) (fun _ _ => ⟨fun q => absurd q (by decide), fun _ => ?_⟩) (fun q => by omega)
    have e5 : (5 + 5 * iI z) = iI (5 + 5 * z) := by show iI 5 + iI 5 * iI z = _; rw [iI_mul, iI_add]
    rw [e5]
    refine ⟨inI _, end_ok ?_ hR'⟩
    rw [up00, iI_cl (by omega) (by omega), iI_cl (by omega) (by omega), show (5 + 5 * z).toNat = 5 + 5 * z.toNat by omega, (hcc z.toNat (by omega)).1, (hmc z.toNat (by omega)).1]
  · refine ⟨rfl, ixl hL hi0 hi6 1 (by decide) (by decide), v3, ?_⟩
    refine m_in (a := 0) (by omega) (by omega) (by omega) (by omega) (by omega) (by omega) (fun c d => by omega) (fun _ => ⟨fun _ => ?_, fun q => absurd rfl q⟩)
    exact end_no (by decide) hR'

set_option maxHeartbeats 1000000 in
theorem s_17 {L : Nat} {xs : Nat → Int32} (hL : L ≤ 3072) {aP : Nat → Nat} {i : Int32} (hi0 : 0 ≤ i.toInt) (hi6 : i.toInt + 6 ≤ L) {t_generator_input : Int32} {t_program_width : Int32} {t_program_length : Int32} {t_program_result : Int32} {t_program_taskKind : Int32} {t_program_taskDivisor : Int32} {f_t_program_operations : Nat → Int32} {f_t_program_firsts : Nat → Int32} {f_t_program_seconds : Nat → Int32} {f_t_costs : Nat → Int32} {t_history_next : Int32} {t_history_kept : Int32} {f_t_machine_values : Nat → Int32} {f_t_machine_depths : Nat → Int32} {f_t_tidier_newNumbers : Nat → Int32} {f_t_tidier_needed : Nat → Int32} {t_listing_left : Int32} {t_listing_seen : Int32} {sW : Nat → Int32} {sL : Nat → Int32} {sR : Nat → Int32} {sK : Nat → Int32} {sD : Nat → Int32} {sO : Nat → Nat → Int32} {sF : Nat → Nat → Int32} {sS : Nat → Nat → Int32} {k_edits : Int32} {k_thrown : Int32} {k_outs : Int32} {f_k_v : Nat → Int32} {f_k_past : Nat → Int32} {f_k_costs : Nat → Int32} {f_k_into : Nat → Int32} {f_k_isNeeded : Nat → Int32} {f_k_depths : Nat → Int32} {f_k_names : Nat → Int32} {f_k_out : Nat → Int32} {f_k_has : Nat → Int64} {f_out : Nat → Int64} (hR : Rel t_generator_input t_program_width t_program_length t_program_result t_program_taskKind t_program_taskDivisor f_t_program_operations f_t_program_firsts f_t_program_seconds f_t_costs t_history_next t_history_kept f_t_machine_values f_t_machine_depths f_t_tidier_newNumbers f_t_tidier_needed t_listing_left t_listing_seen sW sL sR sK sD sO sF sS k_edits k_thrown k_outs f_k_v f_k_past f_k_costs f_k_into f_k_isNeeded f_k_depths f_k_names f_k_out f_k_has f_out) : wc_17 L xs aP i t_generator_input t_program_width t_program_length t_program_result t_program_taskKind t_program_taskDivisor f_t_program_operations f_t_program_firsts f_t_program_seconds f_t_costs t_history_next t_history_kept f_t_machine_values f_t_machine_depths f_t_tidier_newNumbers f_t_tidier_needed t_listing_left t_listing_seen sW sL sR sK sD sO sF sS k_edits k_thrown k_outs f_k_v f_k_past f_k_costs f_k_into f_k_isNeeded f_k_depths f_k_names f_k_out f_k_has f_out Rel := by
  have hR' := hR
  obtain ⟨gi, hcst, hnm, hd0, ⟨W, N, R, kd, dv, code⟩, nx, E, hs, hw, hc, hm, hx, hE8, hws, hch, hmh⟩ := hR
  have w4 : 4 ≤ W := hw.1
  have w16 : W ≤ 16 := hw.2.1
  have n40 : N ≤ 40 := hw.2.2.1
  have rN : R ≤ N := hw.2.2.2.1
  have tk : kd = -1 ∨ tsk W kd dv := hw.2.2.2.2.1
  have wfc : ∀ i, i < N → wfI W i (code i) := hw.2.2.2.2.2
  obtain ⟨p16, pm, ph⟩ := pw w4 w16
  have e1 : t_program_width = iI W := hc.1
  have e2 : t_program_length = iI N := hc.2.1
  have e3 : t_program_result = iI R := hc.2.2.1
  have e4 : t_program_taskKind = iI kd := hc.2.2.2.1
  have hd : kd ≠ -1 → t_program_taskDivisor = iI dv := hc.2.2.2.2.1
  have hcc : cCode N code f_t_program_operations f_t_program_firsts f_t_program_seconds := hc.2.2.2.2.2
  have hv0 : f_k_v 0 = iI W := hm.1
  have hv3 : f_k_v 3 = iI N := hm.2.1
  have hv4 : f_k_v 4 = iI R := hm.2.2.1
  have hv1 : f_k_v 1 = iI kd := hm.2.2.2.1
  have hv2 : kd ≠ -1 → f_k_v 2 = iI dv := hm.2.2.2.2.1
  have hmc : mCode N code f_k_v := hm.2.2.2.2.2
  have hpw := hPush_w hE8 hws hw
  subst e1 e2 e3 e4
  unfold wc_17
  refine ⟨ixl hL hi0 hi6 1 (by decide) (by decide), ixl hL hi0 hi6 2 (by decide) (by decide), ?_⟩
  generalize xs (i + 1).toNatClampNeg = x
  generalize xs (i + 2).toNatClampNeg = y
  obtain ⟨z, z1, z2, rfl⟩ := iI_of x
  obtain ⟨c, c1, c2, rfl⟩ := iI_of y
  unfold wL_operand wX8_operand wX8_operandAt wX8_operandAt_25 wX9_operand wX9_operand_52
  have es : iI N - 1 = iI ((N : Int) - 1) := by show iI N - iI 1 = _; rw [iI_sub]
  rw [iI_l z1 z2, iI_l c1 c2, g3, hv3, es, iI_l (by omega) (by omega)]
  refine c_reqI z n40 (fun a b => ?_) (fun a => ?_)
  · refine br_eq c 0 (fun h0 => br_eq c 0 (fun _ => ⟨inI z, ?_⟩) (fun q => absurd h0 q)) (fun h0 => br_eq c 1 (fun h1 => br_eq c 0 (fun q => absurd q h0) (fun _ => ⟨inI z, ?_⟩)) (fun h1 => ?_))
    · subst h0
      rw [iI_cl (by omega) (by omega), (hcc z.toNat (by omega)).2.1]
      refine c_num (B := 65536) (wf_le w16 w4 (by omega) (wfc z.toNat (by omega)).2.1) (by decide) ?_
      refine ⟨in01, ixl hL hi0 hi6 1 (by decide) (by decide), ixl hL hi0 hi6 2 (by decide) (by decide), v3, ?_⟩
      refine m_in (a := 0) (by omega) (by omega) (by omega) (by omega) (by omega) (by omega) (fun _ _ => ⟨fun q => absurd q (by decide), fun _ => ?_⟩) (fun q => by omega)
      refine m_in (a := 0) (b := 1) (by omega) (by omega) (by omega) (by omega) (by omega) (by omega) (fun _ _ => ⟨fun q => absurd q (by decide), fun _ => ?_⟩) (fun q => by omega)
      have e5 : (((5 + (5 * iI z)) + 2) + (2 * iI 0)) = iI (5 + 5 * z + 2 + 2 * 0) := by show iI 5 + iI 5 * iI z + iI 2 + iI 2 * iI 0 = _; rw [iI_mul, iI_mul, iI_add, iI_add, iI_add]
      rw [e5]
      refine ⟨inI _, end_ok ?_ hR'⟩
      rw [up00, iI_cl (by omega) (by omega), show (5 + 5 * z + 2 + 2 * 0).toNat = 5 + 5 * z.toNat + 2 by omega, (hmc z.toNat (by omega)).2.2.1]
    · subst h1
      rw [iI_cl (by omega) (by omega), (hcc z.toNat (by omega)).2.2]
      refine c_num (B := 65536) (wf_le w16 w4 (by omega) (wfc z.toNat (by omega)).2.2.1) (by decide) ?_
      refine ⟨in01, ixl hL hi0 hi6 1 (by decide) (by decide), ixl hL hi0 hi6 2 (by decide) (by decide), v3, ?_⟩
      refine m_in (a := 0) (by omega) (by omega) (by omega) (by omega) (by omega) (by omega) (fun _ _ => ⟨fun q => absurd q (by decide), fun _ => ?_⟩) (fun q => by omega)
      refine m_in (a := 0) (b := 1) (by omega) (by omega) (by omega) (by omega) (by omega) (by omega) (fun _ _ => ⟨fun q => absurd q (by decide), fun _ => ?_⟩) (fun q => by omega)
      have e5 : (((5 + (5 * iI z)) + 2) + (2 * iI 1)) = iI (5 + 5 * z + 2 + 2 * 1) := by show iI 5 + iI 5 * iI z + iI 2 + iI 2 * iI 1 = _; rw [iI_mul, iI_mul, iI_add, iI_add, iI_add]
      rw [e5]
      refine ⟨inI _, end_ok ?_ hR'⟩
      rw [up00, iI_cl (by omega) (by omega), show (5 + 5 * z + 2 + 2 * 1).toNat = 5 + 5 * z.toNat + 4 by omega, (hmc z.toNat (by omega)).2.2.2.2]
    · refine ⟨rfl, ixl hL hi0 hi6 1 (by decide) (by decide), ixl hL hi0 hi6 2 (by decide) (by decide), v3, ?_⟩
      refine m_in (a := 0) (by omega) (by omega) (by omega) (by omega) (by omega) (by omega) (fun _ _ => ⟨fun q => absurd q (by decide), fun _ => ?_⟩) (fun q => by omega)
      refine m_in (a := 0) (b := 1) (by omega) (by omega) (by omega) (by omega) (by omega) (by omega) (fun _ _ => by omega) (fun _ => ⟨fun _ => ?_, fun q => absurd rfl q⟩)
      exact end_no (by decide) hR'
  · refine ⟨rfl, ixl hL hi0 hi6 1 (by decide) (by decide), ixl hL hi0 hi6 2 (by decide) (by decide), v3, ?_⟩
    refine m_in (a := 0) (by omega) (by omega) (by omega) (by omega) (by omega) (by omega) (fun c d => by omega) (fun _ => ⟨fun _ => ?_, fun q => absurd rfl q⟩)
    exact end_no (by decide) hR'

set_option maxHeartbeats 1000000 in
theorem s_18 {L : Nat} {xs : Nat → Int32} (hL : L ≤ 3072) {aP : Nat → Nat} {i : Int32} (hi0 : 0 ≤ i.toInt) (hi6 : i.toInt + 6 ≤ L) {t_generator_input : Int32} {t_program_width : Int32} {t_program_length : Int32} {t_program_result : Int32} {t_program_taskKind : Int32} {t_program_taskDivisor : Int32} {f_t_program_operations : Nat → Int32} {f_t_program_firsts : Nat → Int32} {f_t_program_seconds : Nat → Int32} {f_t_costs : Nat → Int32} {t_history_next : Int32} {t_history_kept : Int32} {f_t_machine_values : Nat → Int32} {f_t_machine_depths : Nat → Int32} {f_t_tidier_newNumbers : Nat → Int32} {f_t_tidier_needed : Nat → Int32} {t_listing_left : Int32} {t_listing_seen : Int32} {sW : Nat → Int32} {sL : Nat → Int32} {sR : Nat → Int32} {sK : Nat → Int32} {sD : Nat → Int32} {sO : Nat → Nat → Int32} {sF : Nat → Nat → Int32} {sS : Nat → Nat → Int32} {k_edits : Int32} {k_thrown : Int32} {k_outs : Int32} {f_k_v : Nat → Int32} {f_k_past : Nat → Int32} {f_k_costs : Nat → Int32} {f_k_into : Nat → Int32} {f_k_isNeeded : Nat → Int32} {f_k_depths : Nat → Int32} {f_k_names : Nat → Int32} {f_k_out : Nat → Int32} {f_k_has : Nat → Int64} {f_out : Nat → Int64} (hR : Rel t_generator_input t_program_width t_program_length t_program_result t_program_taskKind t_program_taskDivisor f_t_program_operations f_t_program_firsts f_t_program_seconds f_t_costs t_history_next t_history_kept f_t_machine_values f_t_machine_depths f_t_tidier_newNumbers f_t_tidier_needed t_listing_left t_listing_seen sW sL sR sK sD sO sF sS k_edits k_thrown k_outs f_k_v f_k_past f_k_costs f_k_into f_k_isNeeded f_k_depths f_k_names f_k_out f_k_has f_out) : wc_18 L xs aP i t_generator_input t_program_width t_program_length t_program_result t_program_taskKind t_program_taskDivisor f_t_program_operations f_t_program_firsts f_t_program_seconds f_t_costs t_history_next t_history_kept f_t_machine_values f_t_machine_depths f_t_tidier_newNumbers f_t_tidier_needed t_listing_left t_listing_seen sW sL sR sK sD sO sF sS k_edits k_thrown k_outs f_k_v f_k_past f_k_costs f_k_into f_k_isNeeded f_k_depths f_k_names f_k_out f_k_has f_out Rel := by
  have hR' := hR
  obtain ⟨gi, hcst, hnm, hd0, ⟨W, N, R, kd, dv, code⟩, nx, E, hs, hw, hc, hm, hx, hE8, hws, hch, hmh⟩ := hR
  have w4 : 4 ≤ W := hw.1
  have w16 : W ≤ 16 := hw.2.1
  have n40 : N ≤ 40 := hw.2.2.1
  have rN : R ≤ N := hw.2.2.2.1
  have tk : kd = -1 ∨ tsk W kd dv := hw.2.2.2.2.1
  have wfc : ∀ i, i < N → wfI W i (code i) := hw.2.2.2.2.2
  obtain ⟨p16, pm, ph⟩ := pw w4 w16
  have e1 : t_program_width = iI W := hc.1
  have e2 : t_program_length = iI N := hc.2.1
  have e3 : t_program_result = iI R := hc.2.2.1
  have e4 : t_program_taskKind = iI kd := hc.2.2.2.1
  have hd : kd ≠ -1 → t_program_taskDivisor = iI dv := hc.2.2.2.2.1
  have hcc : cCode N code f_t_program_operations f_t_program_firsts f_t_program_seconds := hc.2.2.2.2.2
  have hv0 : f_k_v 0 = iI W := hm.1
  have hv3 : f_k_v 3 = iI N := hm.2.1
  have hv4 : f_k_v 4 = iI R := hm.2.2.1
  have hv1 : f_k_v 1 = iI kd := hm.2.2.2.1
  have hv2 : kd ≠ -1 → f_k_v 2 = iI dv := hm.2.2.2.2.1
  have hmc : mCode N code f_k_v := hm.2.2.2.2.2
  have hpw := hPush_w hE8 hws hw
  subst e1 e2 e3 e4
  unfold wc_18
  refine ⟨ixl hL hi0 hi6 1 (by decide) (by decide), ixl hL hi0 hi6 2 (by decide) (by decide), ?_⟩
  generalize xs (i + 1).toNatClampNeg = x
  generalize xs (i + 2).toNatClampNeg = y
  obtain ⟨z, z1, z2, rfl⟩ := iI_of x
  obtain ⟨c, c1, c2, rfl⟩ := iI_of y
  unfold wL_isConstant wX8_isConstant wX8_operandAt wX8_operandAt_25 wX9_isConstant wX9_isConstant_33 wX9_isConstant_34
  have es : iI N - 1 = iI ((N : Int) - 1) := by show iI N - iI 1 = _; rw [iI_sub]
  rw [iI_l z1 z2, iI_l c1 c2, g3, hv3, es, iI_l (by omega) (by omega)]
  refine c_reqI z n40 (fun a b => ?_) (fun a => ?_)
  · refine br_eq c 0 (fun h0 => br_eq c 0 (fun _ => ⟨inI z, ?_⟩) (fun q => absurd h0 q)) (fun h0 => br_eq c 1 (fun h1 => br_eq c 0 (fun q => absurd q h0) (fun _ => ⟨inI z, ?_⟩)) (fun h1 => ?_))
    · subst h0
      rw [iI_cl (by omega) (by omega), (hcc z.toNat (by omega)).2.1]
      have e5 : (((5 + (5 * iI z)) + 1) + (2 * iI 0)) = iI (5 + 5 * z + 1 + 2 * 0) := by show iI 5 + iI 5 * iI z + iI 1 + iI 2 * iI 0 = _; rw [iI_mul, iI_mul, iI_add, iI_add, iI_add]
      have e6 : f_k_v (iI (5 + 5 * z + 1 + 2 * 0)).toNatClampNeg = bN (code z.toNat).2.1.1 := by rw [iI_cl (by omega) (by omega), show (5 + 5 * z + 1 + 2 * 0).toNat = 5 + 5 * z.toNat + 1 by omega]; exact (hmc z.toNat (by omega)).2.1
      rw [e5, e6]
      refine c_isv (B := 65536) (wf_le w16 w4 (by omega) (wfc z.toNat (by omega)).2.1) (by decide) (fun hq => ⟨fun c => absurd c (by decide), fun _ => ?_⟩) (fun hq => ⟨fun _ => ?_, fun c => absurd rfl c⟩)
      all_goals
        rw [hq]
        refine ⟨in01, ixl hL hi0 hi6 1 (by decide) (by decide), ixl hL hi0 hi6 2 (by decide) (by decide), v3, ?_⟩
        refine m_in (a := 0) (by omega) (by omega) (by omega) (by omega) (by omega) (by omega) (fun _ _ => ⟨fun q => absurd q (by decide), fun _ => ?_⟩) (fun q => by omega)
        refine m_in (a := 0) (b := 1) (by omega) (by omega) (by omega) (by omega) (by omega) (by omega) (fun _ _ => ⟨fun q => absurd q (by decide), fun _ => ?_⟩) (fun q => by omega)
      · exact ⟨fun _ => ⟨inI _, fun c => absurd c (by decide), fun _ => ⟨fun _ => ⟨fun _ => ⟨in01, fun _ => ⟨fun _ => hR', fun c => absurd rfl c⟩, fun c => absurd rfl c⟩, fun c => absurd rfl c⟩, fun c => absurd rfl c⟩⟩, fun c => absurd rfl c⟩
      · exact ⟨fun _ => ⟨inI _, fun _ => ⟨fun _ => ⟨fun _ => ⟨in01, fun c => absurd c (by decide), fun _ => ⟨fun _ => hR', fun c => absurd rfl c⟩⟩, fun c => absurd rfl c⟩, fun c => absurd rfl c⟩, fun c => absurd rfl c⟩, fun c => absurd rfl c⟩
    · subst h1
      rw [iI_cl (by omega) (by omega), (hcc z.toNat (by omega)).2.2]
      have e5 : (((5 + (5 * iI z)) + 1) + (2 * iI 1)) = iI (5 + 5 * z + 1 + 2 * 1) := by show iI 5 + iI 5 * iI z + iI 1 + iI 2 * iI 1 = _; rw [iI_mul, iI_mul, iI_add, iI_add, iI_add]
      have e6 : f_k_v (iI (5 + 5 * z + 1 + 2 * 1)).toNatClampNeg = bN (code z.toNat).2.2.1 := by rw [iI_cl (by omega) (by omega), show (5 + 5 * z + 1 + 2 * 1).toNat = 5 + 5 * z.toNat + 3 by omega]; exact (hmc z.toNat (by omega)).2.2.2.1
      rw [e5, e6]
      refine c_isv (B := 65536) (wf_le w16 w4 (by omega) (wfc z.toNat (by omega)).2.2.1) (by decide) (fun hq => ⟨fun c => absurd c (by decide), fun _ => ?_⟩) (fun hq => ⟨fun _ => ?_, fun c => absurd rfl c⟩)
      all_goals
        rw [hq]
        refine ⟨in01, ixl hL hi0 hi6 1 (by decide) (by decide), ixl hL hi0 hi6 2 (by decide) (by decide), v3, ?_⟩
        refine m_in (a := 0) (by omega) (by omega) (by omega) (by omega) (by omega) (by omega) (fun _ _ => ⟨fun q => absurd q (by decide), fun _ => ?_⟩) (fun q => by omega)
        refine m_in (a := 0) (b := 1) (by omega) (by omega) (by omega) (by omega) (by omega) (by omega) (fun _ _ => ⟨fun q => absurd q (by decide), fun _ => ?_⟩) (fun q => by omega)
      · exact ⟨fun _ => ⟨inI _, fun c => absurd c (by decide), fun _ => ⟨fun _ => ⟨fun _ => ⟨in01, fun _ => ⟨fun _ => hR', fun c => absurd rfl c⟩, fun c => absurd rfl c⟩, fun c => absurd rfl c⟩, fun c => absurd rfl c⟩⟩, fun c => absurd rfl c⟩
      · exact ⟨fun _ => ⟨inI _, fun _ => ⟨fun _ => ⟨fun _ => ⟨in01, fun c => absurd c (by decide), fun _ => ⟨fun _ => hR', fun c => absurd rfl c⟩⟩, fun c => absurd rfl c⟩, fun c => absurd rfl c⟩, fun c => absurd rfl c⟩, fun c => absurd rfl c⟩
    · refine ⟨rfl, ixl hL hi0 hi6 1 (by decide) (by decide), ixl hL hi0 hi6 2 (by decide) (by decide), v3, ?_⟩
      refine m_in (a := 0) (by omega) (by omega) (by omega) (by omega) (by omega) (by omega) (fun _ _ => ⟨fun q => absurd q (by decide), fun _ => ?_⟩) (fun q => by omega)
      refine m_in (a := 0) (b := 1) (by omega) (by omega) (by omega) (by omega) (by omega) (by omega) (fun _ _ => by omega) (fun _ => ⟨fun _ => ?_, fun q => absurd rfl q⟩)
      exact ⟨fun c => absurd c (by decide), fun _ => end_no (by decide) hR'⟩
  · refine ⟨rfl, ixl hL hi0 hi6 1 (by decide) (by decide), ixl hL hi0 hi6 2 (by decide) (by decide), v3, ?_⟩
    refine m_in (a := 0) (by omega) (by omega) (by omega) (by omega) (by omega) (by omega) (fun c d => by omega) (fun _ => ⟨fun _ => ?_, fun q => absurd rfl q⟩)
    exact ⟨fun c => absurd c (by decide), fun _ => end_no (by decide) hR'⟩
