/-! tasks -/
theorem kd_eq (kd : Int) (h1 : -2147483648 ≤ kd) (h2 : kd < 2147483648) (c : Int) (h3 : -2147483648 ≤ c) (h4 : c < 2147483648) : (iI kd = iI c) = (kd = c) := propext (iI_eq h1 h2 h3 h4)
theorem c_task {W : Nat} (w4 : 4 ≤ W) (w16 : W ≤ 16) {kd dv : Int} (k1 : -2147483648 ≤ kd) (k2 : kd < 2147483648) (d1 : -2147483648 ≤ dv) (d2 : dv < 2147483648) {Q : Int32 → Prop} (hT : tsk W kd dv → Q 1) (hF : ¬ tsk W kd dv → Q 0) : wX8_allowsTask (iI W) (iI kd) (iI dv) Q := by
  obtain ⟨p16, pm, ph⟩ := pw w4 w16
  unfold wX8_allowsTask
  refine c_great w16 (fun x4 hx4 => ?_)
  have ex : x4 = iI (2 ^ (W - 1) - 1) := by
    rw [hx4]
    show iI (2 ^ W - 1) >>> (iI ((1 : Nat) : Int) &&& 31) = _
    rw [iI_shr (by decide) (by omega) (by omega)]
    congr 1; omega
  subst ex
  have q0 : (iI kd = 0) = (kd = 0) := kd_eq kd k1 k2 0 (by decide) (by decide)
  have q1 : (iI kd = 1) = (kd = 1) := kd_eq kd k1 k2 1 (by decide) (by decide)
  have q2 : (iI kd = 2) = (kd = 2) := kd_eq kd k1 k2 2 (by decide) (by decide)
  have q3 : (iI kd = 3) = (kd = 3) := kd_eq kd k1 k2 3 (by decide) (by decide)
  have q4 : (iI kd = 4) = (kd = 4) := kd_eq kd k1 k2 4 (by decide) (by decide)
  have q5 : (iI kd = 5) = (kd = 5) := kd_eq kd k1 k2 5 (by decide) (by decide)
  have q6 : (iI kd = 6) = (kd = 6) := kd_eq kd k1 k2 6 (by decide) (by decide)
  have q7 : (iI kd = 7) = (kd = 7) := kd_eq kd k1 k2 7 (by decide) (by decide)
  rw [q0, q1, q2, q3, q4, q5, q6, q7]
  unfold tsk at hT hF
  refine ⟨fun c => ?_, fun n0 => ⟨fun c => ?_, fun n1 => ⟨fun c => ?_, fun n2 => ⟨fun c => ?_, fun n3 => ⟨fun c => ?_, fun n4 => hF (by omega)⟩⟩⟩⟩⟩
  · exact br_lt dv 1 (fun d => hF (by omega)) (fun d => br_lt (2 ^ W - 1) dv (fun e => hF (by omega)) (fun e => hT (by omega)))
  · refine br_eq dv 0 (fun d => hF (by omega)) (fun d => ?_)
    have e5 : ((-1) : Int32) - iI (2 ^ (W - 1) - 1) = iI (-1 - (2 ^ (W - 1) - 1)) := by show iI (-1) - _ = _; rw [iI_sub]
    rw [e5]
    exact br_lt dv (-1 - (2 ^ (W - 1) - 1)) (fun d => hF (by omega)) (fun d => br_lt (2 ^ (W - 1) - 1) dv (fun e => hF (by omega)) (fun e => hT (by omega)))
  · exact br_lt dv 1 (fun d => hF (by omega)) (fun d => br_lt (2 ^ (W - 1) - 1) dv (fun e => hF (by omega)) (fun e => hT (by omega)))
  · exact br_lt dv 2 (fun d => hF (by omega)) (fun d => br_lt (2 ^ W - 1) dv (fun e => hF (by omega)) (fun e => hT (by omega)))
  · exact br_lt dv 0 (fun d => hF (by omega)) (fun d => br_lt (2 ^ W - 1) dv (fun e => hF (by omega)) (fun e => hT (by omega)))
theorem m_inB {x a b : Int} {Q : Int32 → Prop} (hT : a ≤ x → x ≤ b → Q 1) (hF : ¬ (a ≤ x ∧ x ≤ b) → Q 0) (h1 : -9223372036854775808 ≤ x := by omega) (h2 : x < 9223372036854775808 := by omega) (h3 : -9223372036854775808 ≤ a := by omega) (h4 : a < 9223372036854775808 := by omega) (h5 : -9223372036854775808 ≤ b := by omega) (h6 : b < 9223372036854775808 := by omega) : wX9_in (lI x) (lI a) (lI b) (fun r => (narrow .boolean (.int r) = .int r ∧ Q r)) :=
  m_in h1 h2 h3 h4 h5 h6 (fun c d => ⟨rfl, hT c d⟩) (fun c => ⟨rfl, hF c⟩)
theorem m_task {v : Nat → Int32} {W : Nat} (hv : v 0 = iI W) (w4 : 4 ≤ W) (w16 : W ≤ 16) {kd dv : Int} (k1 : -2147483648 ≤ kd) (k2 : kd < 2147483648) (d1 : -2147483648 ≤ dv) (d2 : dv < 2147483648) {Q : Int32 → Prop} (hT : tsk W kd dv → Q 1) (hF : ¬ tsk W kd dv → Q 0) : wX9_isTask v (iI kd) (lI dv) Q := by
  obtain ⟨p16, pm, ph⟩ := pw w4 w16
  unfold wX9_isTask
  have q0 : (iI kd = 0) = (kd = 0) := kd_eq kd k1 k2 0 (by decide) (by decide)
  have q1 : (iI kd = 1) = (kd = 1) := kd_eq kd k1 k2 1 (by decide) (by decide)
  have q2 : (iI kd = 2) = (kd = 2) := kd_eq kd k1 k2 2 (by decide) (by decide)
  have q3 : (iI kd = 3) = (kd = 3) := kd_eq kd k1 k2 3 (by decide) (by decide)
  have q4 : (iI kd = 4) = (kd = 4) := kd_eq kd k1 k2 4 (by decide) (by decide)
  have q5 : (iI kd = 5) = (kd = 5) := kd_eq kd k1 k2 5 (by decide) (by decide)
  have q6 : (iI kd = 6) = (kd = 6) := kd_eq kd k1 k2 6 (by decide) (by decide)
  have q7 : (iI kd = 7) = (kd = 7) := kd_eq kd k1 k2 7 (by decide) (by decide)
  rw [q0, q1, q2, q3, q4, q5, q6, q7]
  unfold tsk at hT hF
  have eA : lI (2 ^ W) - 1 = lI (2 ^ W - 1) := by show lI _ - lI 1 = _; rw [lI_sub]
  have eH : lI (2 ^ (W - 1)) - 1 = lI (2 ^ (W - 1) - 1) := by show lI _ - lI 1 = _; rw [lI_sub]
  have eZ : 0 - lI (2 ^ (W - 1)) = lI (0 - 2 ^ (W - 1)) := by show lI 0 - _ = _; rw [lI_sub]
  refine ⟨fun c => m_all hv w16 ?_, fun n0 => ⟨fun c => m_half hv (by omega) w16 (m_half hv (by omega) w16 ?_), fun n1 => ⟨fun c => m_half hv (by omega) w16 ?_, fun n2 => ⟨fun c => m_all hv w16 ?_, fun n3 => ⟨fun c => m_all hv w16 ?_, fun n4 => hF (by omega)⟩⟩⟩⟩⟩
  · rw [eA]; exact m_inB (a := 1) (fun _ _ => hT (by omega)) (fun _ => hF (by omega))
  · rw [eH, eZ]
    refine m_in (by omega) (by omega) (by omega) (by omega) (by omega) (by omega) (fun a b => ⟨fun c => absurd c (by decide), fun _ => bl_eq dv 0 (fun _ => hF (by omega)) (fun _ => hT (by omega))⟩) (fun _ => ⟨fun _ => hF (by omega), fun c => absurd rfl c⟩)
  · rw [eH]; exact m_inB (a := 1) (fun _ _ => hT (by omega)) (fun _ => hF (by omega))
  · rw [eA]; exact m_inB (a := 2) (fun _ _ => hT (by omega)) (fun _ => hF (by omega))
  · rw [eA]; exact m_inB (a := 0) (fun _ _ => hT (by omega)) (fun _ => hF (by omega))
theorem mCode_ext {N : Nat} {code : Nat → Ins} {v v' : Nat → Int32} (h : mCode N code v) (e : ∀ j, 5 ≤ j → v' j = v j) : mCode N code v' := fun i hi => mIns_ext (h i hi) (fun j hj => e _ (by omega))
