/-! the kinds -/
set_option maxHeartbeats 1000000 in
theorem o_kind {W : Nat} {code : Nat → Ins} (w4 : 4 ≤ W) (w16 : W ≤ 16) {cc cm : Nat → Int32} (hcst : cstR cc cm) {kd dv : Int} (tk : tsk W kd dv) : Out W 0 code 30 (fun n o f s Q => wX0_writeKind (iI (-1 - ((0 : Nat) : Int))) (iI W) n o f s cc (iI kd) (iI dv) Q) (fun v Q => wX9_writesKind v cm (iI kd) (lI dv) Q) := by
  obtain ⟨p16, pm, ph⟩ := pw w4 w16
  have wf : wfA W 0 code := fun i hi => absurd hi (Nat.not_lt_zero _)
  have ew : iI W - 1 = iI ((W - 1 : Nat) : Int) := by show iI W - iI 1 = _; rw [iI_sub]; congr 1; omega
  have z0 : (0 : Nat) ≤ 0 := Nat.le_refl _
  unfold tsk at tk
  have kb : kd = 0 ∨ kd = 1 ∨ kd = 2 ∨ kd = 3 ∨ kd = 4 ∨ kd = 5 ∨ kd = 6 ∨ kd = 7 := by omega
  have ent : ∀ (k d : Int32) (v : Nat → Int32) (Q : Int32 → (Nat → Int32) → Prop) (G : Int32 → Prop), mS W k d 0 code v → G (iI W) → (∀ x4 : Int32, x4 = v (0 : Int32).toNatClampNeg → G x4) := by
    intro k d v Q G hm h x hx
    rw [g0, hm.1] at hx
    rw [hx]; exact h
  rcases kb with rfl | rfl | rfl | rfl | rfl | rfl | rfl | rfl
  · -- 0
    obtain ⟨d, rfl⟩ : ∃ d : Nat, (d : Int) = dv := ⟨dv.toNat, by omega⟩
    obtain ⟨y1, N1, e1, a1, b1, l1, w1, C1, M1⟩ := o_quo w4 w16 wf (by omega) z0 (show 1 ≤ d by omega) (by omega)
    refine ⟨y1, N1, e1, a1, by omega, l1, w1, fun o f s hc Q hQ => ?_, fun k e v hm Q hQ => ?_⟩
    · exact ⟨fun _ => C1 o f s hc _ hQ, fun q => absurd rfl q⟩
    · exact ⟨v0, fun x hx => ⟨fun _ => M1 k e v hm _ hQ, fun q => absurd rfl q⟩⟩
  · -- 1
    obtain ⟨d, rfl⟩ : ∃ d : Nat, (d : Int) = dv := ⟨dv.toNat, by omega⟩
    have d1 : 1 ≤ d := by omega
    have d65 : d < 65536 := by omega
    by_cases hp : isP d
    · obtain ⟨e1, w1, C1, M1⟩ := o_k w16 wf (by omega) (op := 8) (x1 := 8) (by omega) rfl z0 (c := (d : Int) - 1) (by omega) (by omega)
      refine ⟨1, 1, e1, by omega, by omega, Nat.le_refl _, w1, fun o f s hc Q hQ => ⟨fun q => absurd q (by decide), fun _ => ⟨fun _ => c_isp d1 d65 (fun _ => ⟨fun q => absurd q (by decide), fun _ => ?_⟩) (fun q => absurd hp q), fun q => absurd rfl q⟩⟩, fun k e v hm Q hQ => ⟨v0, fun x hx => ⟨fun q => absurd q (by decide), fun _ => ⟨fun _ => m_isp d1 d65 (fun _ => ⟨fun q => absurd q (by decide), fun _ => ?_⟩) (fun q => absurd hp q), fun q => absurd rfl q⟩⟩⟩⟩
      · rw [show iI (d : Int) - 1 = iI ((d : Int) - 1) by show iI _ - iI 1 = _; rw [iI_sub]]
        exact C1 o f s hc _ hQ
      · rw [show lI (d : Int) - 1 = lI ((d : Int) - 1) by show lI _ - lI 1 = _; rw [lI_sub]]
        exact M1 k e v hm _ hQ
    · obtain ⟨y1, N1, e1, a1, b1, l1, w1, C1, M1⟩ := o_quo w4 w16 wf (by omega) z0 d1 (by omega)
      obtain ⟨y2, N2, e2, a2, b2, l2, w2, C2, M2⟩ := o_prod w4 w16 hcst w1 l1 (by omega) (c := (d : Int)) (by omega) (by omega)
      obtain ⟨e3, w3, C3, M3⟩ := o_bo w2 (by omega) (op := 4) (x1 := 4) (by omega) rfl (Nat.zero_le N2) l2
      refine ⟨N2 + 1, N2 + 1, e3, by omega, by omega, Nat.le_refl _, w3, fun o f s hc Q hQ => ⟨fun q => absurd q (by decide), fun _ => ⟨fun _ => c_isp d1 d65 (fun q => absurd q hp) (fun _ => ⟨fun _ => ?_, fun q => absurd rfl q⟩), fun q => absurd rfl q⟩⟩, fun k e v hm Q hQ => ⟨v0, fun x hx => ⟨fun q => absurd q (by decide), fun _ => ⟨fun _ => m_isp d1 d65 (fun q => absurd q hp) (fun _ => ⟨fun _ => ?_, fun q => absurd rfl q⟩), fun q => absurd rfl q⟩⟩⟩⟩
      · exact C1 o f s hc _ (fun o f s hc => C2 o f s hc _ (fun o f s hc => C3 o f s hc _ hQ))
      · exact M1 k e v hm _ (fun v hm => M2 k e v hm _ (fun v hm => M3 k e v hm _ hQ))
  · -- 2
    obtain ⟨y1, N1, e1, a1, b1, l1, w1, C1, M1⟩ := o_sq w4 w16 wf (by omega) (d := dv) (by omega) (by omega) (by omega)
    refine ⟨y1, N1, e1, a1, by omega, l1, w1, fun o f s hc Q hQ => ⟨fun q => absurd q (by decide), fun _ => ⟨fun q => absurd q (by decide), fun _ => ⟨fun _ => C1 o f s hc _ hQ, fun q => absurd rfl q⟩⟩⟩, fun k e v hm Q hQ => ⟨v0, fun x hx => ⟨fun q => absurd q (by decide), fun _ => ⟨fun q => absurd q (by decide), fun _ => ⟨fun _ => M1 k e v hm _ hQ, fun q => absurd rfl q⟩⟩⟩⟩⟩
  · -- 3
    have mb := mod_b dv W
    obtain ⟨y1, N1, e1, a1, b1, l1, w1, C1, M1⟩ := o_sq w4 w16 wf (by omega) (d := dv) (by omega) (by omega) (by omega)
    obtain ⟨y2, N2, e2, a2, b2, l2, w2, C2, M2⟩ := o_prod w4 w16 hcst w1 l1 (by omega) (c := dv % 2 ^ W) mb.1 mb.2
    obtain ⟨e3, w3, C3, M3⟩ := o_bo w2 (by omega) (op := 4) (x1 := 4) (by omega) rfl (Nat.zero_le N2) l2
    refine ⟨N2 + 1, N2 + 1, e3, by omega, by omega, Nat.le_refl _, w3, fun o f s hc Q hQ => ⟨fun q => absurd q (by decide), fun _ => ⟨fun q => absurd q (by decide), fun _ => ⟨fun q => absurd q (by decide), fun _ => ⟨fun _ => ?_, fun q => absurd rfl q⟩⟩⟩⟩, fun k e v hm Q hQ => ⟨v0, fun x hx => ⟨fun q => absurd q (by decide), fun _ => ⟨fun q => absurd q (by decide), fun _ => ⟨fun q => absurd q (by decide), fun _ => ⟨fun _ => ?_, fun q => absurd rfl q⟩⟩⟩⟩⟩⟩
    · refine C1 o f s hc _ (fun o f s hc => c_mask w16 ?_)
      rw [iI_mask _ (by omega)]
      exact C2 o f s hc _ (fun o f s hc => C3 o f s hc _ hQ)
    · exact M1 k e v hm _ (fun v hm => m_value hm.1 w16 (by omega) (by omega) (M2 k e v hm _ (fun v hm => M3 k e v hm _ hQ)))
  · -- 4
    obtain ⟨d, rfl⟩ : ∃ d : Nat, (d : Int) = dv := ⟨dv.toNat, by omega⟩
    have d1 : 1 ≤ d := by omega
    have d65 : d < 65536 := by omega
    have dN : d < 2 ^ W := by have := pwN W; omega
    have skc : ∀ {A0 A1 A2 A3 A4 B : Prop}, A4 → ((iI 4 = 0 → A0) ∧ (¬ (iI 4 = 0) → ((iI 4 = 1 → A1) ∧ (¬ (iI 4 = 1) → ((iI 4 = 2 → A2) ∧ (¬ (iI 4 = 2) → ((iI 4 = 3 → A3) ∧ (¬ (iI 4 = 3) → ((iI 4 = 4 → A4) ∧ (¬ (iI 4 = 4) → B)))))))))) := fun a => ⟨fun q => absurd q (by decide), fun _ => ⟨fun q => absurd q (by decide), fun _ => ⟨fun q => absurd q (by decide), fun _ => ⟨fun q => absurd q (by decide), fun _ => ⟨fun _ => a, fun q => absurd rfl q⟩⟩⟩⟩⟩
    by_cases hp : isP d
    · obtain ⟨y1, N1, e1, a1, b1, l1, w1, C1, M1⟩ := o_sh w16 wf (by omega) (op := 2) (x1 := 2) (by omega) rfl z0 (tz_lt d1 d65 dN)
      refine ⟨y1, N1, e1, a1, by omega, l1, w1, fun o f s hc Q hQ => skc ?_, fun k e v hm Q hQ => ⟨v0, fun x hx => skc ?_⟩⟩
      · exact c_isp d1 d65 (fun _ => ⟨fun q => absurd q (by decide), fun _ => c_tz d1 d65 (C1 o f s hc _ hQ)⟩) (fun q => absurd hp q)
      · exact m_isp d1 d65 (fun _ => ⟨fun q => absurd q (by decide), fun _ => m_tz d1 d65 (M1 k e v hm _ hQ)⟩) (fun q => absurd hp q)
    · obtain ⟨e1, w1, C1, M1⟩ := o_w1 w16 wf (by omega) (op := 2) (x1 := 2) (by omega) rfl z0 (b := W - 1) (by omega) (by omega)
      obtain ⟨e2, w2, C2, M2⟩ := o_bo w1 (by omega) (op := 9) (x1 := 9) (by omega) rfl (Nat.zero_le (0 + 1)) (Nat.le_refl (0 + 1))
      obtain ⟨y3, N3, e3, a3, b3, l3, w3, C3, M3⟩ := o_quo w4 w16 w2 (by omega) (Nat.le_refl (0 + 1 + 1)) d1 (by omega)
      obtain ⟨e4, w4', C4, M4⟩ := o_bo w3 (by omega) (op := 9) (x1 := 9) (by omega) rfl l3 (show 0 + 1 ≤ N3 by omega)
      refine ⟨N3 + 1, N3 + 1, e4, by omega, by omega, Nat.le_refl _, w4', fun o f s hc Q hQ => skc ?_, fun k e v hm Q hQ => ⟨v0, fun x hx => skc ?_⟩⟩
      · unfold wX0_floorQuotient
        rw [ew]
        exact c_isp d1 d65 (fun q => absurd q hp) (fun _ => ⟨fun _ => C1 o f s hc _ (fun o f s hc => C2 o f s hc _ (fun o f s hc => C3 o f s hc _ (fun o f s hc => C4 o f s hc _ hQ))), fun q => absurd rfl q⟩)
      · rw [g0, hm.1] at hx
        subst hx
        unfold wX9_floors
        rw [ew]
        exact m_isp d1 d65 (fun q => absurd q hp) (fun _ => ⟨fun _ => M1 k e v hm _ (fun v hm => M2 k e v hm _ (fun v hm => M3 k e v hm _ (fun v hm => M4 k e v hm _ hQ))), fun q => absurd rfl q⟩)
  · -- 5
    obtain ⟨d, rfl⟩ : ∃ d : Nat, (d : Int) = dv := ⟨dv.toNat, by omega⟩
    have d1 : 1 ≤ d := by omega
    have d65 : d < 65536 := by omega
    have dN : d < 2 ^ W := by have := pwN W; omega
    have tl := tz_lt d1 d65 dN
    obtain ⟨o1, o2, o3, -⟩ := odd_part d1 d65
    obtain ⟨r1, r2, r3, r4⟩ := iv_ok w4 w16 (e := ((d / 2 ^ tz d : Nat) : Int)) (by omega)
    have skc : ∀ {A0 A1 A2 A3 A4 A5 B : Prop}, A5 → ((iI 5 = 0 → A0) ∧ (¬ (iI 5 = 0) → ((iI 5 = 1 → A1) ∧ (¬ (iI 5 = 1) → ((iI 5 = 2 → A2) ∧ (¬ (iI 5 = 2) → ((iI 5 = 3 → A3) ∧ (¬ (iI 5 = 3) → ((iI 5 = 4 → A4) ∧ (¬ (iI 5 = 4) → ((iI 5 = 5 → A5) ∧ (¬ (iI 5 = 5) → B)))))))))))) := fun a => ⟨fun q => absurd q (by decide), fun _ => ⟨fun q => absurd q (by decide), fun _ => ⟨fun q => absurd q (by decide), fun _ => ⟨fun q => absurd q (by decide), fun _ => ⟨fun q => absurd q (by decide), fun _ => ⟨fun _ => a, fun q => absurd rfl q⟩⟩⟩⟩⟩⟩
    obtain ⟨y1, N1, e1, a1, b1, l1, w1, C1, M1⟩ := o_sh w16 wf (by omega) (op := 1) (x1 := 1) (by omega) rfl z0 tl
    obtain ⟨y2, N2, e2, a2, b2, l2, w2, C2, M2⟩ := o_prod w4 w16 hcst w1 l1 (by omega) (c := ivZ W ((d / 2 ^ tz d : Nat) : Int)) r2 r3
    refine ⟨y2, N2, e2, by omega, by omega, l2, w2, fun o f s hc Q hQ => skc ?_, fun k e v hm Q hQ => ⟨v0, fun x hx => skc ?_⟩⟩
    · refine c_tz d1 d65 (C1 o f s hc _ (fun o f s hc => ?_))
      rw [iI_shr (by omega) (by omega) (by omega), shrZ]
      exact c_inv w16 (C2 o f s hc _ hQ)
    · refine m_tz d1 d65 (M1 k e v hm _ (fun v hm => m_tz d1 d65 ?_))
      rw [lI_shr (by omega) (by omega) (by omega), shrZ]
      exact m_inv hm.1 w4 w16 (by omega) (by omega) (by omega) (M2 k e v hm _ hQ)
  · -- 6
    obtain ⟨d, rfl⟩ : ∃ d : Nat, (d : Int) = dv := ⟨dv.toNat, by omega⟩
    have d1 : 1 ≤ d := by omega
    have d65 : d < 65536 := by omega
    have dN : d < 2 ^ W := by have := pwN W; omega
    have tl := tz_lt d1 d65 dN
    obtain ⟨o1, o2, o3, -⟩ := odd_part d1 d65
    obtain ⟨r1, r2, r3, r4⟩ := iv_ok w4 w16 (e := ((d / 2 ^ tz d : Nat) : Int)) (by omega)
    have skc : ∀ {A0 A1 A2 A3 A4 A5 A6 B : Prop}, A6 → ((iI 6 = 0 → A0) ∧ (¬ (iI 6 = 0) → ((iI 6 = 1 → A1) ∧ (¬ (iI 6 = 1) → ((iI 6 = 2 → A2) ∧ (¬ (iI 6 = 2) → ((iI 6 = 3 → A3) ∧ (¬ (iI 6 = 3) → ((iI 6 = 4 → A4) ∧ (¬ (iI 6 = 4) → ((iI 6 = 5 → A5) ∧ (¬ (iI 6 = 5) → ((iI 6 = 6 → A6) ∧ (¬ (iI 6 = 6) → B)))))))))))))) := fun a => ⟨fun q => absurd q (by decide), fun _ => ⟨fun q => absurd q (by decide), fun _ => ⟨fun q => absurd q (by decide), fun _ => ⟨fun q => absurd q (by decide), fun _ => ⟨fun q => absurd q (by decide), fun _ => ⟨fun q => absurd q (by decide), fun _ => ⟨fun _ => a, fun q => absurd rfl q⟩⟩⟩⟩⟩⟩⟩
    have q0 : 0 ≤ ((2 : Int) ^ W - 1) / d := Int.ediv_nonneg (by omega) (by omega)
    have q1 := Int.ediv_le_self (a := (2 : Int) ^ W - 1) (d : Int) (by omega)
    obtain ⟨y1, N1, e1, a1, b1, l1, w1, C1, M1⟩ := o_prod w4 w16 hcst wf z0 (by omega) (c := ivZ W ((d / 2 ^ tz d : Nat) : Int)) r2 r3
    obtain ⟨y2, N2, e2, a2, b2, l2, w2, C2, M2⟩ := o_sh w16 w1 (by omega) (op := 10) (x1 := 10) (by omega) rfl l1 tl
    obtain ⟨e3, w3, C3, M3⟩ := o_k w16 w2 (by omega) (op := 11) (x1 := 11) (by omega) rfl l2 (c := ((2 : Int) ^ W - 1) / d) q0 (by omega)
    refine ⟨N2 + 1, N2 + 1, e3, by omega, by omega, Nat.le_refl _, w3, fun o f s hc Q hQ => skc ?_, fun k e v hm Q hQ => ⟨v0, fun x hx => skc ?_⟩⟩
    · refine br_le 1 d (fun _ => c_tz d1 d65 ?_) (fun q => by omega)
      rw [iI_shr (by omega) (by omega) (by omega), shrZ]
      refine c_inv w16 (C1 o f s hc _ (fun o f s hc => C2 o f s hc _ (fun o f s hc => c_mask w16 ⟨iI_ne0 (by omega) (by omega) (by omega), ?_⟩)))
      rw [iI_div (by omega) (by omega) (by omega) (by omega)]
      exact C3 o f s hc _ hQ
    · refine m_tz d1 d65 ?_
      rw [lI_shr (by omega) (by omega) (by omega), shrZ]
      refine m_inv hm.1 w4 w16 (by omega) (by omega) (by omega) (M1 k e v hm _ (fun v hm => m_tz d1 d65 (M2 k e v hm _ (fun v hm => m_all hm.1 w16 ⟨lI_ne0 (by omega) (by omega) (by omega), ?_⟩))))
      rw [show lI (2 ^ W) - 1 = lI (2 ^ W - 1) by show lI _ - lI 1 = _; rw [lI_sub], lI_div (by omega) (by omega) (by omega) (by omega)]
      exact M3 k e v hm _ hQ
  · -- 7
    obtain ⟨y1, N1, e1, a1, b1, l1, w1, C1, M1⟩ := o_prod w4 w16 hcst wf z0 (by omega) (c := dv) (by omega) (by omega)
    have skc : ∀ {A0 A1 A2 A3 A4 A5 A6 B : Prop}, B → ((iI 7 = 0 → A0) ∧ (¬ (iI 7 = 0) → ((iI 7 = 1 → A1) ∧ (¬ (iI 7 = 1) → ((iI 7 = 2 → A2) ∧ (¬ (iI 7 = 2) → ((iI 7 = 3 → A3) ∧ (¬ (iI 7 = 3) → ((iI 7 = 4 → A4) ∧ (¬ (iI 7 = 4) → ((iI 7 = 5 → A5) ∧ (¬ (iI 7 = 5) → ((iI 7 = 6 → A6) ∧ (¬ (iI 7 = 6) → B)))))))))))))) := fun a => ⟨fun q => absurd q (by decide), fun _ => ⟨fun q => absurd q (by decide), fun _ => ⟨fun q => absurd q (by decide), fun _ => ⟨fun q => absurd q (by decide), fun _ => ⟨fun q => absurd q (by decide), fun _ => ⟨fun q => absurd q (by decide), fun _ => ⟨fun q => absurd q (by decide), fun _ => a⟩⟩⟩⟩⟩⟩⟩
    exact ⟨y1, N1, e1, a1, by omega, l1, w1, fun o f s hc Q hQ => skc (C1 o f s hc _ hQ), fun k e v hm Q hQ => ⟨v0, fun x hx => skc (M1 k e v hm _ hQ)⟩⟩

set_option maxHeartbeats 1000000 in
theorem s_8 {L : Nat} {xs : Nat → Int32} (hL : L ≤ 3072) {aP : Nat → Nat} {i : Int32} (hi0 : 0 ≤ i.toInt) (hi6 : i.toInt + 6 ≤ L) {t_generator_input : Int32} {t_program_width : Int32} {t_program_length : Int32} {t_program_result : Int32} {t_program_taskKind : Int32} {t_program_taskDivisor : Int32} {f_t_program_operations : Nat → Int32} {f_t_program_firsts : Nat → Int32} {f_t_program_seconds : Nat → Int32} {f_t_costs : Nat → Int32} {t_history_next : Int32} {t_history_kept : Int32} {f_t_machine_values : Nat → Int32} {f_t_machine_depths : Nat → Int32} {f_t_tidier_newNumbers : Nat → Int32} {f_t_tidier_needed : Nat → Int32} {t_listing_left : Int32} {t_listing_seen : Int32} {sW : Nat → Int32} {sL : Nat → Int32} {sR : Nat → Int32} {sK : Nat → Int32} {sD : Nat → Int32} {sO : Nat → Nat → Int32} {sF : Nat → Nat → Int32} {sS : Nat → Nat → Int32} {k_edits : Int32} {k_thrown : Int32} {k_outs : Int32} {f_k_v : Nat → Int32} {f_k_past : Nat → Int32} {f_k_costs : Nat → Int32} {f_k_into : Nat → Int32} {f_k_isNeeded : Nat → Int32} {f_k_depths : Nat → Int32} {f_k_names : Nat → Int32} {f_k_out : Nat → Int32} {f_k_has : Nat → Int64} {f_out : Nat → Int64} (hR : Rel t_generator_input t_program_width t_program_length t_program_result t_program_taskKind t_program_taskDivisor f_t_program_operations f_t_program_firsts f_t_program_seconds f_t_costs t_history_next t_history_kept f_t_machine_values f_t_machine_depths f_t_tidier_newNumbers f_t_tidier_needed t_listing_left t_listing_seen sW sL sR sK sD sO sF sS k_edits k_thrown k_outs f_k_v f_k_past f_k_costs f_k_into f_k_isNeeded f_k_depths f_k_names f_k_out f_k_has f_out) : wc_8 L xs aP i t_generator_input t_program_width t_program_length t_program_result t_program_taskKind t_program_taskDivisor f_t_program_operations f_t_program_firsts f_t_program_seconds f_t_costs t_history_next t_history_kept f_t_machine_values f_t_machine_depths f_t_tidier_newNumbers f_t_tidier_needed t_listing_left t_listing_seen sW sL sR sK sD sO sF sS k_edits k_thrown k_outs f_k_v f_k_past f_k_costs f_k_into f_k_isNeeded f_k_depths f_k_names f_k_out f_k_has f_out Rel := by
  have hR' := hR
  obtain ⟨gi, hcst, hnm, hd0, ⟨W, N, R, kd, dv, code⟩, nx, E, hs, hw, hc, hm, hx, hE8, hws, hch, hmh⟩ := hR
  have w4 : 4 ≤ W := hw.1
  have w16 : W ≤ 16 := hw.2.1
  have n40 : N ≤ 40 := hw.2.2.1
  have rN : R ≤ N := hw.2.2.2.1
  have tk : kd = -1 ∨ tsk W kd dv := hw.2.2.2.2.1
  have wfc : ∀ i, i < N → wfI W i (code i) := hw.2.2.2.2.2
  obtain ⟨p16, pm, ph⟩ := pw w4 w16
  have e1 : t_program_width = iI W := hc.1
  have e2 : t_program_length = iI N := hc.2.1
  have e3 : t_program_result = iI R := hc.2.2.1
  have e4 : t_program_taskKind = iI kd := hc.2.2.2.1
  have hd : kd ≠ -1 → t_program_taskDivisor = iI dv := hc.2.2.2.2.1
  have hcc : cCode N code f_t_program_operations f_t_program_firsts f_t_program_seconds := hc.2.2.2.2.2
  have hv0 : f_k_v 0 = iI W := hm.1
  have hv3 : f_k_v 3 = iI N := hm.2.1
  have hv4 : f_k_v 4 = iI R := hm.2.2.1
  have hv1 : f_k_v 1 = iI kd := hm.2.2.2.1
  have hv2 : kd ≠ -1 → f_k_v 2 = iI dv := hm.2.2.2.2.1
  have hmc : mCode N code f_k_v := hm.2.2.2.2.2
  have hpw := hPush_w hE8 hws hw
  subst e1 e2 e3 e4
  unfold wc_8
  refine ⟨ixl hL hi0 hi6 1 (by decide) (by decide), ixl hL hi0 hi6 2 (by decide) (by decide), ?_⟩
  generalize xs (i + 1).toNatClampNeg = x
  generalize xs (i + 2).toNatClampNeg = y
  obtain ⟨z, z1, z2, rfl⟩ := iI_of x
  obtain ⟨c, c1, c2, rfl⟩ := iI_of y
  unfold wL_build wX8_build wX8_requireTask wX9_build wX9_thrown wX9_fails
  rw [iI_l c1 c2]
  refine c_task w4 w16 z1 z2 c1 c2 (fun ht => ⟨fun q => absurd q (by decide), fun _ => ?_⟩) (fun ht => ⟨fun _ => ?_, fun q => absurd rfl q⟩)
  · refine c_rem hw hc hx hE8 hch (fun next' kept' sW' sL' sR' sK' sD' sO' sF' sS' hch' => ?_)
    obtain ⟨y1, N1, code1, a1, b1, l1, w1, C1, M1⟩ := o_kind (code := code) w4 w16 hcst ht
    unfold wX8_build_17 wX5_clear
    have gi' := gi
    subst gi
    refine C1 _ _ _ (fun i hi => absurd hi (Nat.not_lt_zero _)) _ (fun o f s hcc1 => ?_)
    show wX5_numberOf (cOp (false, y1)) _
    refine c_num (q := (false, y1)) (B := 40) (show y1 ≤ 40 by omega) (by decide) ?_
    refine ⟨in01, ixl hL hi0 hi6 1 (by decide) (by decide), ixl hL hi0 hi6 2 (by decide) (by decide), ?_⟩
    refine m_task hv0 w4 w16 z1 z2 c1 c2 (fun _ => ⟨fun q => absurd q (by decide), fun _ => ?_⟩) (fun q => absurd ht q)
    refine m_edits n40 hm hE8 hws hmh (fun edits' past' hmh' => ⟨v1, v2, v3, ?_⟩)
    rw [g1, g2, g3, g4]
    refine M1 (iI z) (iI c) _ ⟨?_, ?_, ?_, pk_us, fun i hi => absurd hi (Nat.not_lt_zero _)⟩ _ (fun v' hv' => ⟨v4, v3, end_ok ?_ ?_⟩)
    · rw [pk_un (by decide), pk_un (by decide), pk_un (by decide)]; exact hv0
    · rw [pk_un (by decide), pk_un (by decide), pk_us]
    · rw [pk_un (by decide), pk_us]
    · rw [up00, pk_un (by decide), hv'.2.2.2.1]
    · refine ⟨gi', hcst, hnm, hd0, (W, N1, y1, z, c, code1), _, _, _, ⟨w4, w16, show N1 ≤ 40 by omega, l1, Or.inr ht, w1⟩, ⟨rfl, rfl, rfl, rfl, fun _ => rfl, hcc1⟩, ?_, Nat.mod_lt _ (by decide), hE_le hE8, hpw, hch', hmh'⟩
      refine ⟨?_, ?_, pk_us, ?_, fun _ => ?_, mCode_ext hv'.2.2.2.2 (fun j hj => pk_un (by omega))⟩
      · rw [pk_un (by decide)]; exact hv'.1
      · rw [pk_un (by decide)]; exact hv'.2.2.2.1
      · rw [pk_un (by decide)]; exact hv'.2.1
      · rw [pk_un (by decide)]; exact hv'.2.2.1
  · refine ⟨rfl, ixl hL hi0 hi6 1 (by decide) (by decide), ixl hL hi0 hi6 2 (by decide) (by decide), ?_⟩
    refine m_task hv0 w4 w16 z1 z2 c1 c2 (fun q => absurd q ht) (fun _ => ⟨fun _ => ?_, fun q => absurd rfl q⟩)
    exact end_no (by decide) hR'
