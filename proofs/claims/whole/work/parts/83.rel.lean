/-! the tie between the two -/
def relP (P : Prg) (nx E : Nat) (hs : Nat → Prg) (t_program_width : Int32) (t_program_length : Int32) (t_program_result : Int32) (t_program_taskKind : Int32) (t_program_taskDivisor : Int32) (f_t_program_operations : Nat → Int32) (f_t_program_firsts : Nat → Int32) (f_t_program_seconds : Nat → Int32) (t_history_next : Int32) (t_history_kept : Int32) (sW : Nat → Int32) (sL : Nat → Int32) (sR : Nat → Int32) (sK : Nat → Int32) (sD : Nat → Int32) (sO : Nat → Nat → Int32) (sF : Nat → Nat → Int32) (sS : Nat → Nat → Int32) (k_edits : Int32) (f_k_v : Nat → Int32) (f_k_past : Nat → Int32) : Prop := wPrg P ∧ cPrg P t_program_width t_program_length t_program_result t_program_taskKind t_program_taskDivisor f_t_program_operations f_t_program_firsts f_t_program_seconds ∧ mPrg P f_k_v ∧ nx < 8 ∧ E ≤ 8 ∧ (∀ e, e < E → wPrg (hs e)) ∧ cHist nx E hs t_history_next t_history_kept sW sL sR sK sD sO sF sS ∧ mHist E hs k_edits f_k_past
def cstR (c c' : Nat → Int32) : Prop := ∀ j, j < 3 → ∃ x : Nat, 1 ≤ x ∧ x ≤ 20 ∧ c j = iI x ∧ c' j = iI x
def nmL : List Nat := [115, 104, 108, 59, 115, 104, 114, 59, 115, 97, 114, 59, 97, 100, 100, 59, 115, 117, 98, 59, 109, 117, 108, 59, 109, 117, 108, 104, 117, 59, 109, 117, 108, 104, 115, 59, 97, 110, 100, 59, 120, 111, 114, 59, 114, 111, 114, 59, 108, 101, 117, 59, 32, 61, 32, 59, 44, 32, 59, 114, 101, 116, 117, 114, 110, 32, 118, 59]
def nmR (f : Nat → Int32) : Prop := ∀ j, j < 68 → f j = iI (nmL.getD j 0)
def Rel (t_generator_input : Int32) (t_program_width : Int32) (t_program_length : Int32) (t_program_result : Int32) (t_program_taskKind : Int32) (t_program_taskDivisor : Int32) (f_t_program_operations : Nat → Int32) (f_t_program_firsts : Nat → Int32) (f_t_program_seconds : Nat → Int32) (f_t_costs : Nat → Int32) (t_history_next : Int32) (t_history_kept : Int32) (f_t_machine_values : Nat → Int32) (f_t_machine_depths : Nat → Int32) (f_t_tidier_newNumbers : Nat → Int32) (f_t_tidier_needed : Nat → Int32) (t_listing_left : Int32) (t_listing_seen : Int32) (sW : Nat → Int32) (sL : Nat → Int32) (sR : Nat → Int32) (sK : Nat → Int32) (sD : Nat → Int32) (sO : Nat → Nat → Int32) (sF : Nat → Nat → Int32) (sS : Nat → Nat → Int32) (k_edits : Int32) (k_thrown : Int32) (k_outs : Int32) (f_k_v : Nat → Int32) (f_k_past : Nat → Int32) (f_k_costs : Nat → Int32) (f_k_into : Nat → Int32) (f_k_isNeeded : Nat → Int32) (f_k_depths : Nat → Int32) (f_k_names : Nat → Int32) (f_k_out : Nat → Int32) (f_k_has : Nat → Int64) (f_out : Nat → Int64) : Prop := t_generator_input = iI (-1) ∧ cstR f_t_costs f_k_costs ∧ nmR f_k_names ∧ (f_k_depths 0 = 0 ∧ f_t_tidier_newNumbers 0 = 0) ∧ ∃ (P : Prg) (nx E : Nat) (hs : Nat → Prg), relP P nx E hs t_program_width t_program_length t_program_result t_program_taskKind t_program_taskDivisor f_t_program_operations f_t_program_firsts f_t_program_seconds t_history_next t_history_kept sW sL sR sK sD sO sF sS k_edits f_k_v f_k_past
theorem hPush_w {E : Nat} {hs : Nat → Prg} {P : Prg} (hE8 : E ≤ 8) (h : ∀ e, e < E → wPrg (hs e)) (hP : wPrg P) : ∀ e, e < hE E → wPrg (hPush E hs P e) := by
  intro e he
  by_cases h8 : E = 8
  · simp only [hE, hPush, if_pos h8] at he ⊢
    by_cases c : e = 7
    · rw [if_pos c]; exact hP
    · rw [if_neg c]; exact h _ (by omega)
  · simp only [hE, hPush, if_neg h8] at he ⊢
    by_cases c : e = E
    · rw [if_pos c]; exact hP
    · rw [if_neg c]; exact h _ (by omega)
theorem hE_le {E : Nat} (h : E ≤ 8) : hE E ≤ 8 := by unfold hE; split <;> omega
theorem in01 : vp_in 0 1 := (show vp_in (iI 0) 1 from iI_in (by decide) (by decide) (by decide))
theorem v0 : vp_in 0 206 := (show vp_in (iI 0) 206 from iI_in (by decide) (by decide) (by decide))
theorem v1 : vp_in 1 206 := (show vp_in (iI 1) 206 from iI_in (by decide) (by decide) (by decide))
theorem v2 : vp_in 2 206 := (show vp_in (iI 2) 206 from iI_in (by decide) (by decide) (by decide))
theorem v3 : vp_in 3 206 := (show vp_in (iI 3) 206 from iI_in (by decide) (by decide) (by decide))
theorem v4 : vp_in 4 206 := (show vp_in (iI 4) 206 from iI_in (by decide) (by decide) (by decide))
theorem u0 : vp_in 0 41 := (show vp_in (iI 0) 41 from iI_in (by decide) (by decide) (by decide))
theorem q0 : vp_in 0 3 := (show vp_in (iI 0) 3 from iI_in (by decide) (by decide) (by decide))
theorem q1 : vp_in 1 3 := (show vp_in (iI 1) 3 from iI_in (by decide) (by decide) (by decide))
theorem q2 : vp_in 2 3 := (show vp_in (iI 2) 3 from iI_in (by decide) (by decide) (by decide))
theorem end_ok {K : Prop} {x y : Int64} (e : x = y) (h : K) : (((0 : Int32) = 0 → (((0 : Int32) = 0 → (vp_in 0 1 ∧ ((x = y → K) ∧ (¬ x = y → False)))) ∧ (¬ (0 : Int32) = 0 → K))) ∧ (¬ (0 : Int32) = 0 → False)) :=
  ⟨fun _ => ⟨fun _ => ⟨in01, fun _ => h, fun c => c e⟩, fun c => absurd rfl c⟩, fun c => absurd rfl c⟩
theorem end_no {A K : Prop} {k : Int32} (hk : k ≠ 0) (h : K) : ((k = k → ((k = 0 → A) ∧ (¬ k = 0 → K))) ∧ (¬ k = k → False)) :=
  ⟨fun _ => ⟨fun c => absurd c hk, fun _ => h⟩, fun c => absurd rfl c⟩
theorem end_eq {K : Prop} {x y : Int32} (e : x = y) (h : K) : ((x = y → K) ∧ (¬ x = y → False)) := ⟨fun _ => h, fun c => c e⟩
theorem ixl {i : Int32} {L : Nat} (hL : L ≤ 3072) (h0 : 0 ≤ i.toInt) (h6 : i.toInt + 6 ≤ L) (k : Int) (k0 : 0 ≤ k) (k5 : k ≤ 5) : vp_in (i + iI k) L := by
  obtain ⟨z, z1, z2, rfl⟩ := iI_of i
  rw [iI_t z1 z2] at h0 h6
  rw [iI_add]
  exact iI_in (by omega) (by omega) (by omega)
theorem up00 {f : Nat → Int64} {x : Int64} : vp_updL f (0 : Int32).toNatClampNeg x (0 : Int32).toNatClampNeg = x := rfl
theorem m_in {x a b : Int} {Q : Int32 → Prop} (h1 : -9223372036854775808 ≤ x) (h2 : x < 9223372036854775808) (h3 : -9223372036854775808 ≤ a) (h4 : a < 9223372036854775808) (h5 : -9223372036854775808 ≤ b) (h6 : b < 9223372036854775808) (hT : a ≤ x → x ≤ b → Q 1) (hF : ¬ (a ≤ x ∧ x ≤ b) → Q 0) : wX9_in (lI x) (lI a) (lI b) Q := by
  unfold wX9_in
  rw [lI_lt h1 h2 h3 h4, lI_lt h5 h6 h1 h2]
  exact ⟨fun c => hF (by omega), fun c => ⟨fun d => hF (by omega), fun d => hT (by omega) (by omega)⟩⟩
