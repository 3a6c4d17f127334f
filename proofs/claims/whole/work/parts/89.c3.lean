/-! cost -/
def cCl (op : Nat) : Nat := if op = 5 then 0 else if op = 6 ∨ op = 7 then 1 else 2
theorem cCl_lt (op : Nat) : cCl op < 3 := by unfold cCl; split <;> (try split) <;> omega
def cSum (c : Nat → Int32) (code : Nat → Ins) : Nat → Int32
  | 0 => 0
  | i + 1 => cSum c code i + c (cCl (code i).1)
theorem c_ccl {op : Nat} (h : op ≤ 11) {Q : Int32 → Prop} (hQ : Q (iI (cCl op))) : wX3_costClass (iI op) Q := by
  unfold wX3_costClass
  unfold cCl at hQ
  refine br_eq op 5 (fun c => ?_) (fun c => br_eq op 6 (fun d => ?_) (fun d => br_eq op 7 (fun e => ?_) (fun e => ?_)))
  · rw [if_pos (by omega)] at hQ; exact hQ
  · rw [if_neg (by omega), if_pos (by omega)] at hQ; exact hQ
  · rw [if_neg (by omega), if_pos (by omega)] at hQ; exact hQ
  · rw [if_neg (by omega), if_neg (by omega)] at hQ; exact hQ
theorem c_cost4 {W N : Nat} (n40 : N ≤ 40) {code : Nat → Ins} (wfc : ∀ i, i < N → wfI W i (code i)) {o f s : Nat → Int32} (hcc : cCode N code o f s) {c : Nat → Int32} {Q : Int32 → Prop} (hQ : Q (cSum c code N)) : ∀ (m i : Nat), i + m = N → wX8_cost_4 (iI N) o c Q (m + 1) (cSum c code i) (iI i)
  | 0, i, hi => by
    rw [wX8_cost_4]
    exact br_le N i (fun _ => by rw [show i = N by omega]; exact hQ) (fun c => by omega)
  | m + 1, i, hi => by
    rw [wX8_cost_4]
    refine br_le N i (fun c => by omega) (fun _ => ⟨inI i, ?_⟩)
    rw [iI_clN (by omega), (hcc i (by omega)).1]
    refine c_ccl (wfc i (by omega)).1 ?_
    have := cCl_lt (code i).1
    refine ⟨inI _, fun x1 h1 x2 h2 => ?_⟩
    have e2 : x2 = iI ((i + 1 : Nat) : Int) := by rw [h2]; show iI i + iI 1 = _; rw [iI_add]; rfl
    have e1 : x1 = cSum c code (i + 1) := by rw [h1, iI_clN (by omega)]; rfl
    rw [e1, e2]
    exact c_cost4 n40 wfc hcc hQ m (i + 1) (by omega)
theorem m_cost9 {W N : Nat} (n40 : N ≤ 40) {code : Nat → Ins} (wfc : ∀ i, i < N → wfI W i (code i)) {v : Nat → Int32} (hv3 : v 3 = iI N) (hmc : mCode N code v) {c : Nat → Int32} {Q : Int32 → Int32 → Prop} (hQ : Q (cSum c code N) 0) : ∀ (m i : Nat), i + m = N → wX9_cost_9 v c Q (m + 1) (cSum c code i) (iI i)
  | 0, i, hi => by
    rw [wX9_cost_9, g3, hv3]
    exact ⟨v3, br_le N i (fun _ => by rw [show i = N by omega]; exact hQ) (fun c => by omega)⟩
  | m + 1, i, hi => by
    rw [wX9_cost_9, g3, hv3]
    refine ⟨v3, br_le N i (fun c => by omega) (fun _ => ?_)⟩
    have e5 : (5 + 5 * iI i) = iI ((5 + 5 * i : Nat) : Int) := by show iI 5 + iI 5 * iI i = _; rw [iI_mul, iI_add]; rfl
    rw [e5]
    refine ⟨inI _, fun x3 h3 => ?_⟩
    rw [iI_clN (by omega), (hmc i (by omega)).1] at h3
    subst h3
    have hop := (wfc i (by omega)).1
    have step : ∀ y, y = c (cCl (code i).1) → wX9_cost_72 (cSum c code i) (iI i) (wX9_cost_9 v c Q (m + 1)) y := by
      intro y hy x1 h1 x2 h2
      have e2 : x2 = iI ((i + 1 : Nat) : Int) := by rw [h2]; show iI i + iI 1 = _; rw [iI_add]; rfl
      have e1 : x1 = cSum c code (i + 1) := by rw [h1, hy]; rfl
      rw [e1, e2]
      exact m_cost9 n40 wfc hv3 hmc hQ m (i + 1) (by omega)
    unfold wX9_cost_57
    refine br_eq (code i).1 5 (fun c => ⟨q0, step _ ?_⟩) (fun c => br_eq (code i).1 6 (fun d => ⟨q1, step _ ?_⟩) (fun d => br_eq (code i).1 7 (fun e => ⟨q1, step _ ?_⟩) (fun e => ⟨q2, step _ ?_⟩)))
    · unfold cCl; rw [if_pos (by omega)]; rfl
    · unfold cCl; rw [if_neg (by omega), if_pos (by omega)]; rfl
    · unfold cCl; rw [if_neg (by omega), if_pos (by omega)]; rfl
    · unfold cCl; rw [if_neg (by omega), if_neg (by omega)]; rfl
theorem cSum_eq {c c' : Nat → Int32} (h : cstR c c') (code : Nat → Ins) : ∀ i, cSum c code i = cSum c' code i
  | 0 => rfl
  | i + 1 => by
    obtain ⟨x, -, -, a, b⟩ := h _ (cCl_lt (code i).1)
    show cSum c code i + _ = cSum c' code i + _
    rw [cSum_eq h code i, a, b]

set_option maxHeartbeats 1000000 in
theorem s_20 {L : Nat} {xs : Nat → Int32} (hL : L ≤ 3072) {aP : Nat → Nat} {i : Int32} (hi0 : 0 ≤ i.toInt) (hi6 : i.toInt + 6 ≤ L) {t_generator_input : Int32} {t_program_width : Int32} {t_program_length : Int32} {t_program_result : Int32} {t_program_taskKind : Int32} {t_program_taskDivisor : Int32} {f_t_program_operations : Nat → Int32} {f_t_program_firsts : Nat → Int32} {f_t_program_seconds : Nat → Int32} {f_t_costs : Nat → Int32} {t_history_next : Int32} {t_history_kept : Int32} {f_t_machine_values : Nat → Int32} {f_t_machine_depths : Nat → Int32} {f_t_tidier_newNumbers : Nat → Int32} {f_t_tidier_needed : Nat → Int32} {t_listing_left : Int32} {t_listing_seen : Int32} {sW : Nat → Int32} {sL : Nat → Int32} {sR : Nat → Int32} {sK : Nat → Int32} {sD : Nat → Int32} {sO : Nat → Nat → Int32} {sF : Nat → Nat → Int32} {sS : Nat → Nat → Int32} {k_edits : Int32} {k_thrown : Int32} {k_outs : Int32} {f_k_v : Nat → Int32} {f_k_past : Nat → Int32} {f_k_costs : Nat → Int32} {f_k_into : Nat → Int32} {f_k_isNeeded : Nat → Int32} {f_k_depths : Nat → Int32} {f_k_names : Nat → Int32} {f_k_out : Nat → Int32} {f_k_has : Nat → Int64} {f_out : Nat → Int64} (hR : Rel t_generator_input t_program_width t_program_length t_program_result t_program_taskKind t_program_taskDivisor f_t_program_operations f_t_program_firsts f_t_program_seconds f_t_costs t_history_next t_history_kept f_t_machine_values f_t_machine_depths f_t_tidier_newNumbers f_t_tidier_needed t_listing_left t_listing_seen sW sL sR sK sD sO sF sS k_edits k_thrown k_outs f_k_v f_k_past f_k_costs f_k_into f_k_isNeeded f_k_depths f_k_names f_k_out f_k_has f_out) : wc_20 L xs aP i t_generator_input t_program_width t_program_length t_program_result t_program_taskKind t_program_taskDivisor f_t_program_operations f_t_program_firsts f_t_program_seconds f_t_costs t_history_next t_history_kept f_t_machine_values f_t_machine_depths f_t_tidier_newNumbers f_t_tidier_needed t_listing_left t_listing_seen sW sL sR sK sD sO sF sS k_edits k_thrown k_outs f_k_v f_k_past f_k_costs f_k_into f_k_isNeeded f_k_depths f_k_names f_k_out f_k_has f_out Rel := by
  have hR' := hR
  obtain ⟨gi, hcst, hnm, hd0, ⟨W, N, R, kd, dv, code⟩, nx, E, hs, hw, hc, hm, hx, hE8, hws, hch, hmh⟩ := hR
  have w4 : 4 ≤ W := hw.1
  have w16 : W ≤ 16 := hw.2.1
  have n40 : N ≤ 40 := hw.2.2.1
  have rN : R ≤ N := hw.2.2.2.1
  have tk : kd = -1 ∨ tsk W kd dv := hw.2.2.2.2.1
  have wfc : ∀ i, i < N → wfI W i (code i) := hw.2.2.2.2.2
  obtain ⟨p16, pm, ph⟩ := pw w4 w16
  have e1 : t_program_width = iI W := hc.1
  have e2 : t_program_length = iI N := hc.2.1
  have e3 : t_program_result = iI R := hc.2.2.1
  have e4 : t_program_taskKind = iI kd := hc.2.2.2.1
  have hd : kd ≠ -1 → t_program_taskDivisor = iI dv := hc.2.2.2.2.1
  have hcc : cCode N code f_t_program_operations f_t_program_firsts f_t_program_seconds := hc.2.2.2.2.2
  have hv0 : f_k_v 0 = iI W := hm.1
  have hv3 : f_k_v 3 = iI N := hm.2.1
  have hv4 : f_k_v 4 = iI R := hm.2.2.1
  have hv1 : f_k_v 1 = iI kd := hm.2.2.2.1
  have hv2 : kd ≠ -1 → f_k_v 2 = iI dv := hm.2.2.2.2.1
  have hmc : mCode N code f_k_v := hm.2.2.2.2.2
  have hpw := hPush_w hE8 hws hw
  subst e1 e2 e3 e4
  unfold wc_20
  unfold wX8_cost wX9_cost
  refine ⟨_, c_cost4 n40 wfc hcc ?_ N 0 (by omega)⟩
  refine ⟨_, m_cost9 n40 wfc hv3 hmc ?_ N 0 (by omega)⟩
  exact end_eq (cSum_eq hcst code N) hR'

/-! tables that a program fills -/
def tab {α : Type} (step : Nat → (Nat → α) → α) (t0 : Nat → α) : Nat → Nat → α
  | 0 => t0
  | i + 1 => fun j => if j = i + 1 then step i (tab step t0 i) else tab step t0 i j
theorem tab_st {α : Type} (step : Nat → (Nat → α) → α) (t0 : Nat → α) (i j : Nat) (h : j ≤ i) : ∀ m, tab step t0 (i + m) j = tab step t0 i j
  | 0 => rfl
  | m + 1 => by
    show (if j = i + m + 1 then _ else tab step t0 (i + m) j) = _
    rw [if_neg (by omega)]; exact tab_st step t0 i j h m
theorem tab_le {α : Type} (step : Nat → (Nat → α) → α) (t0 : Nat → α) {i k j : Nat} (h : j ≤ i) (hk : i ≤ k) : tab step t0 k j = tab step t0 i j := by
  have := tab_st step t0 i j h (k - i)
  rw [show i + (k - i) = k by omega] at this; exact this
/-! depth -/
def dOp (t : Nat → Nat) (q : Opd) : Nat := if q.1 = true then 0 else t q.2
def dStep (code : Nat → Ins) (i : Nat) (t : Nat → Nat) : Nat := 1 + (if dOp t (code i).2.1 < dOp t (code i).2.2 then dOp t (code i).2.2 else dOp t (code i).2.1)
abbrev dT (code : Nat → Ins) : Nat → Nat → Nat := tab (dStep code) (fun _ => 0)
theorem dT_le (code : Nat → Ins) : ∀ i j, dT code i j ≤ i
  | 0, j => Nat.le_refl _
  | i + 1, j => by
    have ih := dT_le code i
    have ho : ∀ q, dOp (dT code i) q ≤ i := fun q => by unfold dOp; split <;> first | exact ih _ | exact Nat.zero_le _
    show (if j = i + 1 then dStep code i (dT code i) else dT code i j) ≤ _
    split
    · unfold dStep
      have h1 := ho (code i).2.1
      have h2 := ho (code i).2.2
      split <;> omega
    · have := ih j; omega
theorem c_dOp {W i : Nat} (w4 : 4 ≤ W) (w16 : W ≤ 16) (hi : i ≤ 40) {q : Opd} (hq : wfO W i q) {f : Nat → Int32} {t : Nat → Nat} (hf : ∀ j, j ≤ i → f j = iI (t j)) {Q : Int32 → Prop} (hQ : Q (iI (dOp t q))) : wX3_depthOfOperand f (cOp q) Q := by
  unfold wX3_depthOfOperand
  unfold dOp at hQ
  have hle := wf_le w16 w4 hi hq
  refine c_isv hle (by decide) (fun h => ⟨fun c => absurd c (by decide), fun _ => c_num hle (by decide) ?_⟩) (fun h => ⟨fun _ => ?_, fun c => absurd rfl c⟩)
  · have h2 := hq.2 h
    refine ⟨inI _, ?_⟩
    rw [iI_clN (by omega), hf _ h2]
    rw [if_neg (by rw [h]; decide)] at hQ
    exact hQ
  · rw [if_pos h] at hQ; exact hQ
theorem c_dep9 {W N R : Nat} (w4 : 4 ≤ W) (w16 : W ≤ 16) (n40 : N ≤ 40) (rN : R ≤ N) {code : Nat → Ins} (wfc : ∀ i, i < N → wfI W i (code i)) {o fs ss : Nat → Int32} (hcc : cCode N code o fs ss) {Q : Int32 → (Nat → Int32) → Prop} (hQ : ∀ f, Q (iI (dT code R R)) f) : ∀ (m i : Nat) (f : Nat → Int32), i + m = R → (∀ j, j ≤ i → f j = iI (dT code i j)) → wX3_depthOf_9 (iI R) fs ss Q (m + 1) (iI i) f
  | 0, i, f, hi, hf => by
    rw [wX3_depthOf_9]
    refine br_le R i (fun _ => ⟨inI _, ?_⟩) (fun c => by omega)
    rw [iI_clN (by omega), hf R (by omega), show i = R by omega]; exact hQ f
  | m + 1, i, f, hi, hf => by
    rw [wX3_depthOf_9]
    refine br_le R i (fun c => by omega) (fun _ => ⟨inI i, ?_⟩)
    rw [iI_clN (by omega), (hcc i (by omega)).2.1, (hcc i (by omega)).2.2]
    have hw := wfc i (by omega)
    refine c_dOp w4 w16 (by omega) hw.2.1 hf ⟨inI i, c_dOp w4 w16 (by omega) hw.2.2.1 hf ?_⟩
    have e2 : iI i + 1 = iI ((i + 1 : Nat) : Int) := by show iI i + iI 1 = _; rw [iI_add]; rfl
    rw [e2]
    refine ⟨inI _, fun x hx => ?_⟩
    rw [hx, iI_clN (by omega)]
    have ho : ∀ q, dOp (dT code i) q ≤ i := fun q => by unfold dOp; split <;> first | exact dT_le code i _ | exact Nat.zero_le _
    have h1 := ho (code i).2.1
    have h2 := ho (code i).2.2
    refine c_dep9 w4 w16 n40 rN wfc hcc hQ m (i + 1) _ (by omega) (fun j hj => ?_)
    by_cases c : j = i + 1
    · subst c
      rw [pk_us]
      show _ = iI ((if i + 1 = i + 1 then dStep code i (dT code i) else dT code i (i + 1) : Nat) : Int)
      rw [if_pos rfl]
      have hlt := iI_lt (a := (dOp (dT code i) (code i).2.1 : Int)) (b := (dOp (dT code i) (code i).2.2 : Int)) (by omega) (by omega) (by omega) (by omega)
      unfold dStep
      by_cases c2 : dOp (dT code i) (code i).2.1 < dOp (dT code i) (code i).2.2
      · rw [if_pos (hlt.mpr (by omega)), if_pos c2]; show iI 1 + iI _ = _; rw [iI_add]; rfl
      · rw [if_neg (fun q => c2 (by have := hlt.mp q; omega)), if_neg c2]; show iI 1 + iI _ = _; rw [iI_add]; rfl
    · rw [pk_un c, hf j (by omega)]
      show _ = iI ((if j = i + 1 then dStep code i (dT code i) else dT code i j : Nat) : Int)
      rw [if_neg c]
theorem m_dep7 {W N R : Nat} (w4 : 4 ≤ W) (w16 : W ≤ 16) (n40 : N ≤ 40) (rN : R ≤ N) {code : Nat → Ins} (wfc : ∀ i, i < N → wfI W i (code i)) {v : Nat → Int32} (hv3 : v 3 = iI N) (hv4 : v 4 = iI R) (hmc : mCode N code v) {Q : Int32 → Int32 → (Nat → Int32) → Prop} (hQ : ∀ f, f 0 = 0 → Q (iI (dT code R R)) 0 f) : ∀ (m i : Nat) (f : Nat → Int32), i + m = N → (∀ j, j ≤ i → f j = iI (dT code i j)) → f 0 = 0 → wX9_depth_7 v Q (m + 1) (iI i) f
  | 0, i, f, hi, hf, hf0 => by
    rw [wX9_depth_7, g3, g4, hv3, hv4]
    refine ⟨v3, br_le N i (fun _ => ⟨v4, inI _, ?_⟩) (fun c => by omega)⟩
    rw [iI_clN (by omega), hf R (by omega), show dT code i R = dT code R R from tab_le _ _ (Nat.le_refl R) (show R ≤ i by omega)]
    exact hQ f hf0
  | m + 1, i, f, hi, hf, hf0 => by
    rw [wX9_depth_7, g3, g4, hv3, hv4]
    refine ⟨v3, br_le N i (fun c => by omega) (fun _ x2 hx2 => ?_)⟩
    have e5 : x2 = iI ((5 + 5 * i : Nat) : Int) := by rw [hx2]; show iI 5 + iI 5 * iI i = _; rw [iI_mul, iI_add]; rfl
    subst e5
    have a1 : iI ((5 + 5 * i : Nat) : Int) + 1 = iI ((5 + 5 * i + 1 : Nat) : Int) := by show iI _ + iI 1 = _; rw [iI_add]; rfl
    have a2 : iI ((5 + 5 * i : Nat) : Int) + 2 = iI ((5 + 5 * i + 2 : Nat) : Int) := by show iI _ + iI 2 = _; rw [iI_add]; rfl
    have a3 : iI ((5 + 5 * i : Nat) : Int) + 3 = iI ((5 + 5 * i + 3 : Nat) : Int) := by show iI _ + iI 3 = _; rw [iI_add]; rfl
    have a4 : iI ((5 + 5 * i : Nat) : Int) + 4 = iI ((5 + 5 * i + 4 : Nat) : Int) := by show iI _ + iI 4 = _; rw [iI_add]; rfl
    have e2 : iI i + 1 = iI ((i + 1 : Nat) : Int) := by show iI i + iI 1 = _; rw [iI_add]; rfl
    obtain ⟨-, k1, k2, k3, k4⟩ := hmc i (by omega)
    have hw := wfc i (by omega)
    have hA := wf_le w16 w4 (by omega) hw.2.1
    have hB := wf_le w16 w4 (by omega) hw.2.2.1
    unfold wX9_depth_52 wX9_depth_82 wX9_depth_104
    rw [a1, a2, a3, a4, iI_clN (by omega), iI_clN (by omega), iI_clN (by omega), iI_clN (by omega), k1, k2, k3, k4, e2]
    have ho : ∀ q, dOp (dT code i) q ≤ i := fun q => by unfold dOp; split <;> first | exact dT_le code i _ | exact Nat.zero_le _
    have h1 := ho (code i).2.1
    have h2 := ho (code i).2.2
    have fin : ∀ y, y = iI (dOp (dT code i) (code i).2.2) ∧ dOp (dT code i) (code i).2.1 ≤ dOp (dT code i) (code i).2.2 ∨ y = iI (dOp (dT code i) (code i).2.1) ∧ dOp (dT code i) (code i).2.2 < dOp (dT code i) (code i).2.1 → (vp_in (iI ((i + 1 : Nat) : Int)) 41 ∧ ∀ x, x = iI ((i + 1 : Nat) : Int) → wX9_depth_7 v Q (m + 1) x (upd f (iI ((i + 1 : Nat) : Int)).toNatClampNeg (1 + y))) := by
      intro y hy
      refine ⟨inI _, fun x hx => ?_⟩
      rw [hx, iI_clN (by omega)]
      refine m_dep7 w4 w16 n40 rN wfc hv3 hv4 hmc hQ m (i + 1) _ (by omega) (fun j hj => ?_) (by rw [pk_un (by omega)]; exact hf0)
      by_cases c : j = i + 1
      · subst c
        rw [pk_us]
        show _ = iI ((if i + 1 = i + 1 then dStep code i (dT code i) else dT code i (i + 1) : Nat) : Int)
        rw [if_pos rfl]
        unfold dStep
        rcases hy with ⟨rfl, c2⟩ | ⟨rfl, c2⟩
        · by_cases c3 : dOp (dT code i) (code i).2.1 < dOp (dT code i) (code i).2.2
          · rw [if_pos c3]; show iI 1 + iI _ = _; rw [iI_add]; rfl
          · rw [if_neg c3, show dOp (dT code i) (code i).2.1 = dOp (dT code i) (code i).2.2 by omega]; show iI 1 + iI _ = _; rw [iI_add]; rfl
        · rw [if_neg (by omega)]; show iI 1 + iI _ = _; rw [iI_add]; rfl
      · rw [pk_un c, hf j (by omega)]
        show _ = iI ((if j = i + 1 then dStep code i (dT code i) else dT code i j : Nat) : Int)
        rw [if_neg c]
    have cmp : ∀ yb, yb = iI (dOp (dT code i) (code i).2.2) → ∀ ya, ya = iI (dOp (dT code i) (code i).2.1) → ((ya ≤ yb → (vp_in (iI ((i + 1 : Nat) : Int)) 41 ∧ ∀ x, x = iI ((i + 1 : Nat) : Int) → wX9_depth_7 v Q (m + 1) x (upd f (iI ((i + 1 : Nat) : Int)).toNatClampNeg (1 + yb)))) ∧ (¬ ya ≤ yb → (vp_in (iI ((i + 1 : Nat) : Int)) 41 ∧ ∀ x, x = iI ((i + 1 : Nat) : Int) → wX9_depth_7 v Q (m + 1) x (upd f (iI ((i + 1 : Nat) : Int)).toNatClampNeg (1 + ya))))) := by
      intro yb hb ya ha
      subst hb ha
      exact br_le (dOp (dT code i) (code i).2.1) (dOp (dT code i) (code i).2.2) (fun c => fin _ (Or.inl ⟨rfl, by omega⟩)) (fun c => fin _ (Or.inr ⟨rfl, by omega⟩))
    refine ⟨inI _, ?_⟩
    cases ca : (code i).2.1.1 with
    | true =>
      refine ⟨fun _ => ⟨inI _, ?_⟩, fun c => absurd rfl c⟩
      have dA : (0 : Int32) = iI (dOp (dT code i) (code i).2.1) := by unfold dOp; rw [if_pos ca]; rfl
      cases cb : (code i).2.2.1 with
      | true =>
        have dB : (0 : Int32) = iI (dOp (dT code i) (code i).2.2) := by unfold dOp; rw [if_pos cb]; rfl
        exact ⟨fun _ => cmp _ dB _ dA, fun c => absurd rfl c⟩
      | false =>
        have l2 := hw.2.2.1.2 cb
        refine ⟨fun c => absurd c (by decide), fun _ => ⟨inI _, inI _, ?_⟩⟩
        have dB : f (iI ((code i).2.2.2 : Int)).toNatClampNeg = iI (dOp (dT code i) (code i).2.2) := by unfold dOp; rw [if_neg (by rw [cb]; decide), iI_clN (by omega)]; exact hf _ l2
        exact cmp _ dB _ dA
    | false =>
      have l1 := hw.2.1.2 ca
      refine ⟨fun c => absurd c (by decide), fun _ => ⟨inI _, inI _, inI _, ?_⟩⟩
      have dA : f (iI ((code i).2.1.2 : Int)).toNatClampNeg = iI (dOp (dT code i) (code i).2.1) := by unfold dOp; rw [if_neg (by rw [ca]; decide), iI_clN (by omega)]; exact hf _ l1
      cases cb : (code i).2.2.1 with
      | true =>
        have dB : (0 : Int32) = iI (dOp (dT code i) (code i).2.2) := by unfold dOp; rw [if_pos cb]; rfl
        exact ⟨fun _ => cmp _ dB _ dA, fun c => absurd rfl c⟩
      | false =>
        have l2 := hw.2.2.1.2 cb
        refine ⟨fun c => absurd c (by decide), fun _ => ⟨inI _, inI _, ?_⟩⟩
        have dB : f (iI ((code i).2.2.2 : Int)).toNatClampNeg = iI (dOp (dT code i) (code i).2.2) := by unfold dOp; rw [if_neg (by rw [cb]; decide), iI_clN (by omega)]; exact hf _ l2
        exact cmp _ dB _ dA

set_option maxHeartbeats 1000000 in
theorem s_21 {L : Nat} {xs : Nat → Int32} (hL : L ≤ 3072) {aP : Nat → Nat} {i : Int32} (hi0 : 0 ≤ i.toInt) (hi6 : i.toInt + 6 ≤ L) {t_generator_input : Int32} {t_program_width : Int32} {t_program_length : Int32} {t_program_result : Int32} {t_program_taskKind : Int32} {t_program_taskDivisor : Int32} {f_t_program_operations : Nat → Int32} {f_t_program_firsts : Nat → Int32} {f_t_program_seconds : Nat → Int32} {f_t_costs : Nat → Int32} {t_history_next : Int32} {t_history_kept : Int32} {f_t_machine_values : Nat → Int32} {f_t_machine_depths : Nat → Int32} {f_t_tidier_newNumbers : Nat → Int32} {f_t_tidier_needed : Nat → Int32} {t_listing_left : Int32} {t_listing_seen : Int32} {sW : Nat → Int32} {sL : Nat → Int32} {sR : Nat → Int32} {sK : Nat → Int32} {sD : Nat → Int32} {sO : Nat → Nat → Int32} {sF : Nat → Nat → Int32} {sS : Nat → Nat → Int32} {k_edits : Int32} {k_thrown : Int32} {k_outs : Int32} {f_k_v : Nat → Int32} {f_k_past : Nat → Int32} {f_k_costs : Nat → Int32} {f_k_into : Nat → Int32} {f_k_isNeeded : Nat → Int32} {f_k_depths : Nat → Int32} {f_k_names : Nat → Int32} {f_k_out : Nat → Int32} {f_k_has : Nat → Int64} {f_out : Nat → Int64} (hR : Rel t_generator_input t_program_width t_program_length t_program_result t_program_taskKind t_program_taskDivisor f_t_program_operations f_t_program_firsts f_t_program_seconds f_t_costs t_history_next t_history_kept f_t_machine_values f_t_machine_depths f_t_tidier_newNumbers f_t_tidier_needed t_listing_left t_listing_seen sW sL sR sK sD sO sF sS k_edits k_thrown k_outs f_k_v f_k_past f_k_costs f_k_into f_k_isNeeded f_k_depths f_k_names f_k_out f_k_has f_out) : wc_21 L xs aP i t_generator_input t_program_width t_program_length t_program_result t_program_taskKind t_program_taskDivisor f_t_program_operations f_t_program_firsts f_t_program_seconds f_t_costs t_history_next t_history_kept f_t_machine_values f_t_machine_depths f_t_tidier_newNumbers f_t_tidier_needed t_listing_left t_listing_seen sW sL sR sK sD sO sF sS k_edits k_thrown k_outs f_k_v f_k_past f_k_costs f_k_into f_k_isNeeded f_k_depths f_k_names f_k_out f_k_has f_out Rel := by
  have hR' := hR
  obtain ⟨gi, hcst, hnm, hd0, ⟨W, N, R, kd, dv, code⟩, nx, E, hs, hw, hc, hm, hx, hE8, hws, hch, hmh⟩ := hR
  have w4 : 4 ≤ W := hw.1
  have w16 : W ≤ 16 := hw.2.1
  have n40 : N ≤ 40 := hw.2.2.1
  have rN : R ≤ N := hw.2.2.2.1
  have tk : kd = -1 ∨ tsk W kd dv := hw.2.2.2.2.1
  have wfc : ∀ i, i < N → wfI W i (code i) := hw.2.2.2.2.2
  obtain ⟨p16, pm, ph⟩ := pw w4 w16
  have e1 : t_program_width = iI W := hc.1
  have e2 : t_program_length = iI N := hc.2.1
  have e3 : t_program_result = iI R := hc.2.2.1
  have e4 : t_program_taskKind = iI kd := hc.2.2.2.1
  have hd : kd ≠ -1 → t_program_taskDivisor = iI dv := hc.2.2.2.2.1
  have hcc : cCode N code f_t_program_operations f_t_program_firsts f_t_program_seconds := hc.2.2.2.2.2
  have hv0 : f_k_v 0 = iI W := hm.1
  have hv3 : f_k_v 3 = iI N := hm.2.1
  have hv4 : f_k_v 4 = iI R := hm.2.2.1
  have hv1 : f_k_v 1 = iI kd := hm.2.2.2.1
  have hv2 : kd ≠ -1 → f_k_v 2 = iI dv := hm.2.2.2.2.1
  have hmc : mCode N code f_k_v := hm.2.2.2.2.2
  have hpw := hPush_w hE8 hws hw
  subst e1 e2 e3 e4
  unfold wc_21
  unfold wX8_depth wX3_depthOf wX9_depth
  refine ⟨u0, _, c_dep9 w4 w16 n40 rN wfc hcc (fun f => ?_) R 0 _ (by omega) (fun j hj => ?_)⟩
  · refine ⟨_, m_dep7 w4 w16 n40 rN wfc hv3 hv4 hmc (fun f' hf' => ?_) N 0 _ (by omega) (fun j hj => ?_) hd0.1⟩
    · exact end_eq rfl ⟨gi, hcst, hnm, ⟨hf', hd0.2⟩, (W, N, R, kd, dv, code), nx, E, hs, hw, hc, hm, hx, hE8, hws, hch, hmh⟩
    · rw [show j = 0 by omega]; exact hd0.1
  · rw [show j = 0 by omega]; rfl
