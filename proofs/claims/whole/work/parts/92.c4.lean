/-! what the task asks -/
theorem im1 : (-1 : Int32) = iI (-1) := by decide
theorem br_m1 (a : Int) {A B : Prop} (f : a = -1 → A) (g : a ≠ -1 → B) (h1 : -2147483648 ≤ a := by omega) (h2 : a < 2147483648 := by omega) : (iI a = (-1) → A) ∧ (¬ iI a = (-1) → B) := by
  rw [im1]; exact br_eq a (-1) f g h1 h2 (by decide) (by decide)
def mean (W : Nat) (kd dv x : Int) : Int :=
  if kd = 0 then x / dv else if kd = 1 then x % dv else if kd = 2 then (sgn W x).tdiv dv % 2 ^ W else if kd = 3 then (sgn W x).tmod dv % 2 ^ W
  else if kd = 4 then sgn W x / dv % 2 ^ W else if kd = 5 then (if x % dv = 0 then x / dv else -1) else if kd = 6 then (if x % dv = 0 then 1 else 0) else x * dv % 2 ^ W
theorem xor_nn {s d : Int} (h1 : -2147483648 ≤ s) (h2 : s < 2147483648) (h3 : 0 ≤ d) (h4 : d < 2147483648) : (0 ≤ iI s ^^^ iI d) ↔ 0 ≤ s := by
  have key : ∀ x y : Int32, 0 ≤ y.toInt → ((0 : Int32) ≤ x ^^^ y ↔ 0 ≤ x.toInt) := by
    intro x y hy
    rw [Int32.le_iff_toInt_le]
    show (0 : Int) ≤ (x.toBitVec ^^^ y.toBitVec).toInt ↔ 0 ≤ x.toBitVec.toInt
    have hy' : 0 ≤ y.toBitVec.toInt := hy
    have a := BitVec.msb_eq_toInt (x := x.toBitVec ^^^ y.toBitVec)
    rw [BitVec.msb_xor, BitVec.msb_eq_toInt, BitVec.msb_eq_toInt, decide_eq_false (show ¬ y.toBitVec.toInt < 0 by omega), Bool.xor_false] at a
    have b := decide_eq_decide.mp a
    omega
  have := key (iI s) (iI d) (by rw [iI_t (by omega) (by omega)]; exact h3)
  rw [iI_t h1 h2] at this
  exact this
theorem c_fdiv {s d : Int} (h1 : -65536 ≤ s) (h2 : s ≤ 65536) (h3 : 0 < d) (h4 : d ≤ 65536) {Q : Int32 → Prop} (hQ : Q (iI (s / d))) : wJ9_floorDiv_7cf53 (iI s) (iI d) Q := by
  unfold wJ9_floorDiv_7cf53
  refine ⟨iI_ne0 (by omega) (by omega) (by omega), fun x hx => ?_⟩
  rw [xor_nn (by omega) (by omega) (by omega) (by omega)]
  rw [iI_tdiv (by omega) (by omega) (by omega) (by omega)] at hx
  subst hx
  refine ⟨fun c => ?_, fun c => ?_⟩
  · rw [Int.tdiv_eq_ediv_of_nonneg c]; exact hQ
  · have e1 : s.tdiv d = -((-s) / d) := by rw [← Int.tdiv_eq_ediv_of_nonneg (show 0 ≤ -s by omega), Int.neg_tdiv, Int.neg_neg]
    have e := emz (-s) d
    have m0 : 0 ≤ (-s) % d := Int.emod_nonneg _ (by omega)
    have m1 : (-s) % d < d := Int.emod_lt_of_pos _ h3
    rw [e1, iI_mul, Int.neg_mul]
    refine br_eq (-(-s / d * d)) s (fun c2 => ?_) (fun c2 => ?_)
    · rw [show -((-s) / d) = s / d from (fl_u h3 (by rw [Int.neg_mul]; omega) (by rw [Int.add_mul, Int.neg_mul]; omega)).symm]; exact hQ
    · show Q (iI _ - iI 1)
      rw [iI_sub, show -((-s) / d) - 1 = s / d from (fl_u h3 (by rw [Int.sub_mul, Int.neg_mul]; omega) (by rw [Int.sub_add_cancel, Int.neg_mul]; omega)).symm]; exact hQ
set_option maxHeartbeats 1000000 in
theorem c_mean {W : Nat} (w4 : 4 ≤ W) (w16 : W ≤ 16) {kd dv : Int} (tk : tsk W kd dv) {x : Int} (x0 : 0 ≤ x) (x1 : x < 2 ^ W) {Q : Int32 → Prop} (hQ : Q (iI (mean W kd dv x))) : wX8_meaning (iI W) (iI kd) (iI dv) (iI x) Q := by
  obtain ⟨p16, pm, ph⟩ := pw w4 w16
  have sb := sgn_b w4 w16 x0 x1
  unfold tsk at tk
  unfold wX8_meaning
  refine br_eq dv 0 (fun c => ?_) (fun dn => c_great w16 (c_sgn w4 w16 x0 x1 ?_))
  · obtain rfl : dv = 0 := c
    obtain rfl : kd = 7 := by omega
    rw [show mean W 7 0 x = x * 0 % 2 ^ W from rfl, Int.mul_zero, Int.zero_emod] at hQ
    exact hQ
  have nd : ¬ iI dv = 0 := iI_ne0 (by omega) (by omega) dn
  have hb := mul_b (x := x) (y := dv) (h := 65536) (by omega) (by omega) (by omega) (by omega)
  refine br_eq kd 0 (fun c => ?_) (fun c0 => ?_)
  · subst c
    refine ⟨nd, ?_⟩
    rw [iI_div x0 (by omega) (by omega) (by omega)]; exact hQ
  refine br_eq kd 1 (fun c => ?_) (fun c1 => ?_)
  · subst c
    refine ⟨nd, ?_⟩
    rw [iI_remN x0 (by omega) (by omega) (by omega)]; exact hQ
  refine br_eq kd 2 (fun c => ?_) (fun c2 => ?_)
  · subst c
    refine ⟨nd, ?_⟩
    rw [iI_tdiv (by omega) (by omega) (by omega) (by omega), iI_mask _ (by omega)]; exact hQ
  refine br_eq kd 3 (fun c => ?_) (fun c3 => ?_)
  · subst c
    refine ⟨nd, ?_⟩
    rw [iI_rem (by omega) (by omega) (by omega) (by omega), iI_mask _ (by omega)]; exact hQ
  refine br_eq kd 4 (fun c => ?_) (fun c4 => ?_)
  · subst c
    refine c_fdiv (by omega) (by omega) (by omega) (by omega) ?_
    rw [iI_mask _ (by omega)]; exact hQ
  refine br_eq kd 5 (fun c => ?_) (fun c5 => ?_)
  · subst c
    rw [show mean W 5 dv x = (if x % dv = 0 then x / dv else -1) from rfl] at hQ
    have r0 : 0 ≤ x % dv := Int.emod_nonneg _ dn
    have r1 : x % dv < dv := Int.emod_lt_of_pos _ (by omega)
    refine ⟨nd, ?_⟩
    rw [iI_remN x0 (by omega) (by omega) (by omega)]
    refine br_eq (x % dv) 0 (fun d => ⟨nd, ?_⟩) (fun d => ?_)
    · rw [if_pos d] at hQ; rw [iI_div x0 (by omega) (by omega) (by omega)]; exact hQ
    · rw [if_neg d] at hQ; exact hQ
  refine br_eq kd 6 (fun c => ?_) (fun c6 => ?_)
  · subst c
    rw [show mean W 6 dv x = (if x % dv = 0 then 1 else 0) from rfl] at hQ
    have r0 : 0 ≤ x % dv := Int.emod_nonneg _ dn
    have r1 : x % dv < dv := Int.emod_lt_of_pos _ (by omega)
    refine ⟨nd, ?_⟩
    rw [iI_remN x0 (by omega) (by omega) (by omega)]
    refine br_eq (x % dv) 0 (fun d => ?_) (fun d => ?_)
    · rw [if_pos d] at hQ; exact hQ
    · rw [if_neg d] at hQ; exact hQ
  · obtain rfl : kd = 7 := by omega
    rw [iI_mul, iI_mask _ (by omega)]; exact hQ
set_option maxHeartbeats 1000000 in
theorem m_asked {v : Nat → Int32} {W : Nat} (hv : v 0 = iI W) (w4 : 4 ≤ W) (w16 : W ≤ 16) {kd dv : Int} (hv1 : v 1 = iI kd) (hv2 : v 2 = iI dv) (tk : tsk W kd dv) {x : Int} (x0 : 0 ≤ x) (x1 : x < 2 ^ W) {Q : Int64 → Prop} (hQ : Q (lI (mean W kd dv x))) : wX9_asked v (lI x) Q := by
  obtain ⟨p16, pm, ph⟩ := pw w4 w16
  have sb := sgn_b w4 w16 x0 x1
  unfold tsk at tk
  unfold wX9_asked
  rw [g1, g2, hv1, hv2, iI_l (by omega) (by omega)]
  refine ⟨v2, fun y hy => m_sgn hv w4 w16 x0 x1 ⟨v1, ?_⟩⟩
  subst hy
  have hb := mul_b (x := x) (y := dv) (h := 65536) (by omega) (by omega) (by omega) (by omega)
  have qb := Int.natAbs_tdiv_le_natAbs (sgn W x) dv
  refine br_eq kd 0 (fun c => ?_) (fun c0 => ?_)
  · subst c
    refine ⟨lI_ne0 (by omega) (by omega) (by omega), ?_⟩
    rw [lI_div x0 (by omega) (by omega) (by omega)]; exact hQ
  refine br_eq kd 1 (fun c => ?_) (fun c1 => ?_)
  · subst c
    refine ⟨lI_ne0 (by omega) (by omega) (by omega), ?_⟩
    rw [lI_remN x0 (by omega) (by omega) (by omega)]; exact hQ
  refine br_eq kd 2 (fun c => ?_) (fun c2 => ?_)
  · subst c
    refine ⟨lI_ne0 (by omega) (by omega) (by omega), ?_⟩
    rw [lI_tdiv (by omega) (by omega) (by omega) (by omega)]
    exact m_value hv w16 (by omega) (by omega) hQ
  refine br_eq kd 3 (fun c => ?_) (fun c3 => ?_)
  · subst c
    refine ⟨lI_ne0 (by omega) (by omega) (by omega), ?_⟩
    have hb2 := mul_b (x := (sgn W x).tdiv dv) (y := dv) (h := 65536) (by omega) (by omega) (by omega) (by omega)
    have rd := Int.tmod_def (sgn W x) dv
    rw [Int.mul_comm dv] at rd
    rw [lI_rem (by omega) (by omega) (by omega) (by omega)]
    exact m_value hv w16 (by omega) (by omega) hQ
  refine br_eq kd 4 (fun c => ?_) (fun c4 => ?_)
  · subst c
    have fb := fd_b (x := sgn W x) (p := dv) (by omega) (B := 65536) (by omega) (by omega)
    exact m_floor (by omega) (by omega) (by omega) (by omega) (m_value hv w16 (by omega) (by omega) hQ)
  refine br_eq kd 5 (fun c => ?_) (fun c5 => ?_)
  · subst c
    rw [show mean W 5 dv x = (if x % dv = 0 then x / dv else -1) from rfl] at hQ
    have r0 : 0 ≤ x % dv := Int.emod_nonneg _ (by omega)
    have r1 : x % dv < dv := Int.emod_lt_of_pos _ (by omega)
    have nd : ¬ lI dv = 0 := lI_ne0 (by omega) (by omega) (by omega)
    refine ⟨nd, ?_⟩
    rw [lI_remN x0 (by omega) (by omega) (by omega)]
    refine bl_eq (x % dv) 0 (fun d => ⟨nd, ?_⟩) (fun d => ?_)
    · rw [if_pos d] at hQ; rw [lI_div x0 (by omega) (by omega) (by omega)]; exact hQ
    · rw [if_neg d] at hQ; exact hQ
  refine br_eq kd 6 (fun c => ?_) (fun c6 => ?_)
  · subst c
    rw [show mean W 6 dv x = (if x % dv = 0 then 1 else 0) from rfl] at hQ
    have r0 : 0 ≤ x % dv := Int.emod_nonneg _ (by omega)
    have r1 : x % dv < dv := Int.emod_lt_of_pos _ (by omega)
    refine ⟨lI_ne0 (by omega) (by omega) (by omega), ?_⟩
    rw [lI_remN x0 (by omega) (by omega) (by omega)]
    refine bl_eq (x % dv) 0 (fun d => ?_) (fun d => ?_)
    · rw [if_pos d] at hQ; exact hQ
    · rw [if_neg d] at hQ; exact hQ
  · obtain rfl : kd = 7 := by omega
    rw [lI_mul]; exact m_value hv w16 (by omega) (by omega) hQ
theorem mean_b {W : Nat} (w4 : 4 ≤ W) (w16 : W ≤ 16) {kd dv : Int} (tk : tsk W kd dv) {x : Int} (x0 : 0 ≤ x) (x1 : x < 2 ^ W) : -1 ≤ mean W kd dv x ∧ mean W kd dv x < 2 ^ W := by
  obtain ⟨p16, pm, ph⟩ := pw w4 w16
  unfold tsk at tk
  have hm : ∀ z : Int, -1 ≤ z % 2 ^ W ∧ z % 2 ^ W < 2 ^ W := fun z => by have := mod_b z W; omega
  have hd : 1 ≤ dv → -1 ≤ x / dv ∧ x / dv < 2 ^ W := fun h => by
    have a := Int.ediv_le_self (a := x) dv x0
    have b := Int.ediv_nonneg x0 (show 0 ≤ dv by omega)
    omega
  unfold mean
  split
  · exact hd (by omega)
  split
  · have a := Int.emod_nonneg x (show dv ≠ 0 by omega)
    have b := Int.emod_lt_of_pos x (show 0 < dv by omega)
    omega
  split
  · exact hm _
  split
  · exact hm _
  split
  · exact hm _
  split
  · split
    · exact hd (by omega)
    · omega
  split
  · split <;> omega
  · exact hm _
/-! right inputs -/
def rgt (W R : Nat) (kd dv : Int) (code : Nat → Ins) (x : Nat) : Bool := decide (mean W kd dv x = -1) || decide (mean W kd dv x = vT W code x R R)
theorem c_rgt {W N R : Nat} (w4 : 4 ≤ W) (w16 : W ≤ 16) (n40 : N ≤ 40) (rN : R ≤ N) {kd dv : Int} (tk : tsk W kd dv) {code : Nat → Ins} (wfc : ∀ i, i < N → wfI W i (code i)) {o fs ss : Nat → Int32} (hcc : cCode N code o fs ss) {x : Nat} (x1 : (x : Int) < 2 ^ W) {f : Nat → Int32} {Q : Int32 → (Nat → Int32) → Prop} (hT : ∀ f, rgt W R kd dv code x = true → Q 1 f) (hF : ∀ f, rgt W R kd dv code x = false → Q 0 f) : wX8_isRight (iI W) (iI R) (iI kd) (iI dv) o fs ss f (iI x) Q := by
  obtain ⟨p16, pm, ph⟩ := pw w4 w16
  have mb := mean_b w4 w16 tk (show (0 : Int) ≤ x by omega) x1
  have vb := vT_b w4 w16 wfc (show (0 : Int) ≤ x by omega) x1 R R rN
  unfold rgt at hT hF
  unfold wX8_isRight
  refine c_mean w4 w16 tk (by omega) x1 (br_m1 (mean W kd dv x) (fun c => ?_) (fun c => ?_))
  · exact hT f (by rw [decide_eq_true c, Bool.true_or])
  · refine c_comp w4 w16 n40 rN wfc hcc (by omega) x1 (fun f' => br_eq (mean W kd dv x) (vT W code x R R) (fun d => ?_) (fun d => ?_))
    · exact hT f' (by rw [decide_eq_true d, Bool.or_true])
    · exact hF f' (by rw [decide_eq_false (show ¬ mean W kd dv x = -1 from c), decide_eq_false (show ¬ mean W kd dv x = vT W code x R R from d)]; rfl)
theorem m_rgt {W N R : Nat} (w4 : 4 ≤ W) (w16 : W ≤ 16) (n40 : N ≤ 40) (rN : R ≤ N) {kd dv : Int} (tk : tsk W kd dv) {code : Nat → Ins} (wfc : ∀ i, i < N → wfI W i (code i)) {v : Nat → Int32} (hv0 : v 0 = iI W) (hv3 : v 3 = iI N) (hv4 : v 4 = iI R) (hv1 : v 1 = iI kd) (hv2 : v 2 = iI dv) (hmc : mCode N code v) {x : Nat} (x1 : (x : Int) < 2 ^ W) {f : Nat → Int64} {Q : Int32 → (Nat → Int64) → Prop} (hT : ∀ f, rgt W R kd dv code x = true → Q 1 f) (hF : ∀ f, rgt W R kd dv code x = false → Q 0 f) : wX9_isRight v f (lI x) Q := by
  obtain ⟨p16, pm, ph⟩ := pw w4 w16
  have mb := mean_b w4 w16 tk (show (0 : Int) ≤ x by omega) x1
  have vb := vT_b w4 w16 wfc (show (0 : Int) ≤ x by omega) x1 R R rN
  unfold rgt at hT hF
  unfold wX9_isRight
  refine m_runs w4 w16 n40 wfc hv0 hv3 hmc (by omega) x1 (fun f' hf => m_asked hv0 w4 w16 hv1 hv2 tk (by omega) x1 (bl_lt (mean W kd dv x) 0 (fun c => ?_) (fun c => ?_)))
  · exact hT f' (by rw [decide_eq_true (show mean W kd dv x = -1 by omega), Bool.true_or])
  · rw [g4, hv4, iI_clN (by omega), hf R rN]
    refine ⟨v4, inI R, bl_eq (vT W code x R R) (mean W kd dv x) (fun d => ?_) (fun d => ?_)⟩
    · exact hT f' (by rw [decide_eq_true d.symm, Bool.or_true])
    · exact hF f' (by rw [decide_eq_false (show ¬ mean W kd dv x = -1 by omega), decide_eq_false (show ¬ mean W kd dv x = vT W code x R R from fun e => d e.symm)]; rfl)
def fwF (P : Nat → Bool) : Nat → Nat → Int
  | 0, _ => -1
  | m + 1, x => if P x = true then fwF P m (x + 1) else x
theorem c_fw {W N R : Nat} (w4 : 4 ≤ W) (w16 : W ≤ 16) (n40 : N ≤ 40) (rN : R ≤ N) {kd dv : Int} (tk : tsk W kd dv) {code : Nat → Ins} (wfc : ∀ i, i < N → wfI W i (code i)) {o fs ss : Nat → Int32} (hcc : cCode N code o fs ss) {Q : Int32 → (Nat → Int32) → Prop} : ∀ (m x : Nat) (f : Nat → Int32), ((x + m : Nat) : Int) = 2 ^ W → (∀ f, Q (iI (fwF (rgt W R kd dv code) m x)) f) → wX8_firstWrong_20 (iI W) (iI R) (iI kd) (iI dv) o fs ss Q (iI (2 ^ W - 1)) (m + 1) (iI x) f
  | 0, x, f, hx, hQ => by
    obtain ⟨p16, pm, ph⟩ := pw w4 w16
    rw [wX8_firstWrong_20]
    exact br_lt (2 ^ W - 1) x (fun _ => hQ f) (fun c => by omega)
  | m + 1, x, f, hx, hQ => by
    obtain ⟨p16, pm, ph⟩ := pw w4 w16
    rw [wX8_firstWrong_20]
    refine br_lt (2 ^ W - 1) x (fun c => by omega) (fun c => ?_)
    unfold fwF at hQ
    refine c_rgt w4 w16 n40 rN tk wfc hcc (by omega) (fun f' hr => ⟨fun c => absurd c (by decide), fun _ y hy => ?_⟩) (fun f' hr => ⟨fun _ => ?_, fun c => absurd rfl c⟩)
    · have e1 : y = iI ((x + 1 : Nat) : Int) := by rw [hy]; show iI x + iI 1 = _; rw [iI_add]; rfl
      rw [e1]
      exact c_fw w4 w16 n40 rN tk wfc hcc m (x + 1) f' (by omega) (fun f => by have := hQ f; rw [if_pos hr] at this; exact this)
    · have := hQ f'; rw [if_neg (by rw [hr]; decide)] at this; exact this
theorem m_fw {W N R : Nat} (w4 : 4 ≤ W) (w16 : W ≤ 16) (n40 : N ≤ 40) (rN : R ≤ N) {kd dv : Int} (tk : tsk W kd dv) {code : Nat → Ins} (wfc : ∀ i, i < N → wfI W i (code i)) {v : Nat → Int32} (hv0 : v 0 = iI W) (hv3 : v 3 = iI N) (hv4 : v 4 = iI R) (hv1 : v 1 = iI kd) (hv2 : v 2 = iI dv) (hmc : mCode N code v) {Q : Int32 → Int32 → (Nat → Int64) → Prop} : ∀ (m x : Nat) (f : Nat → Int64), ((x + m : Nat) : Int) = 2 ^ W → (∀ f, Q (iI (fwF (rgt W R kd dv code) m x)) 0 f) → wX9_firstWrong_36 v Q (m + 1) (iI x) f
  | 0, x, f, hx, hQ => by
    obtain ⟨p16, pm, ph⟩ := pw w4 w16
    rw [wX9_firstWrong_36, iI_l (by omega) (by omega)]
    exact m_all hv0 w16 (bl_le (2 ^ W) x (fun _ => hQ f) (fun c => by omega))
  | m + 1, x, f, hx, hQ => by
    obtain ⟨p16, pm, ph⟩ := pw w4 w16
    rw [wX9_firstWrong_36, iI_l (by omega) (by omega)]
    refine m_all hv0 w16 (bl_le (2 ^ W) x (fun c => by omega) (fun c => ?_))
    unfold fwF at hQ
    refine m_rgt w4 w16 n40 rN tk wfc hv0 hv3 hv4 hv1 hv2 hmc (by omega) (fun f' hr => ⟨fun c => absurd c (by decide), fun _ y hy => ?_⟩) (fun f' hr => ⟨fun _ => ?_, fun c => absurd rfl c⟩)
    · have e1 : y = iI ((x + 1 : Nat) : Int) := by rw [hy]; show iI x + iI 1 = _; rw [iI_add]; rfl
      rw [e1]
      exact m_fw w4 w16 n40 rN tk wfc hv0 hv3 hv4 hv1 hv2 hmc m (x + 1) f' (by omega) (fun f => by have := hQ f; rw [if_pos hr] at this; exact this)
    · have := hQ f'; rw [if_neg (by rw [hr]; decide)] at this; exact this
def wrF (P : Nat → Bool) : Nat → Nat → Int → Int
  | 0, _, c => c
  | m + 1, x, c => wrF P m (x + 1) (if P x = true then c else c + 1)
theorem c_wr {W N R : Nat} (w4 : 4 ≤ W) (w16 : W ≤ 16) (n40 : N ≤ 40) (rN : R ≤ N) {kd dv : Int} (tk : tsk W kd dv) {code : Nat → Ins} (wfc : ∀ i, i < N → wfI W i (code i)) {o fs ss : Nat → Int32} (hcc : cCode N code o fs ss) {Q : Int32 → (Nat → Int32) → Prop} : ∀ (m x : Nat) (c : Int) (f : Nat → Int32), ((x + m : Nat) : Int) = 2 ^ W → (∀ f, Q (iI (wrF (rgt W R kd dv code) m x c)) f) → wX8_wrong_13 (iI W) (iI R) (iI kd) (iI dv) o fs ss Q (iI (2 ^ W - 1)) (m + 1) (iI c) (iI x) f
  | 0, x, c, f, hx, hQ => by
    obtain ⟨p16, pm, ph⟩ := pw w4 w16
    rw [wX8_wrong_13]
    exact br_lt (2 ^ W - 1) x (fun _ => hQ f) (fun c => by omega)
  | m + 1, x, c, f, hx, hQ => by
    obtain ⟨p16, pm, ph⟩ := pw w4 w16
    rw [wX8_wrong_13]
    refine br_lt (2 ^ W - 1) x (fun c => by omega) (fun _ => ?_)
    unfold wrF at hQ
    have step : ∀ f' c', (∀ f, Q (iI (wrF (rgt W R kd dv code) m (x + 1) c')) f) → wX8_wrong_29 (iI x) (wX8_wrong_13 (iI W) (iI R) (iI kd) (iI dv) o fs ss Q (iI (2 ^ W - 1)) (m + 1)) f' (iI c') := by
      intro f' c' h y hy
      have e1 : y = iI ((x + 1 : Nat) : Int) := by rw [hy]; show iI x + iI 1 = _; rw [iI_add]; rfl
      rw [e1]
      exact c_wr w4 w16 n40 rN tk wfc hcc m (x + 1) c' f' (by omega) h
    refine c_rgt w4 w16 n40 rN tk wfc hcc (by omega) (fun f' hr => ⟨fun c => absurd c (by decide), fun _ => ?_⟩) (fun f' hr => ⟨fun _ y hy => ?_, fun c => absurd rfl c⟩)
    · exact step f' c (fun f => by have := hQ f; rw [if_pos hr] at this; exact this)
    · have e1 : y = iI (c + 1) := by rw [hy]; show iI c + iI 1 = _; rw [iI_add]
      rw [e1]
      exact step f' (c + 1) (fun f => by have := hQ f; rw [if_neg (by rw [hr]; decide)] at this; exact this)
theorem m_wr {W N R : Nat} (w4 : 4 ≤ W) (w16 : W ≤ 16) (n40 : N ≤ 40) (rN : R ≤ N) {kd dv : Int} (tk : tsk W kd dv) {code : Nat → Ins} (wfc : ∀ i, i < N → wfI W i (code i)) {v : Nat → Int32} (hv0 : v 0 = iI W) (hv3 : v 3 = iI N) (hv4 : v 4 = iI R) (hv1 : v 1 = iI kd) (hv2 : v 2 = iI dv) (hmc : mCode N code v) {Q : Int32 → Int32 → (Nat → Int64) → Prop} : ∀ (m x : Nat) (c : Int) (f : Nat → Int64), ((x + m : Nat) : Int) = 2 ^ W → (∀ f, Q (iI (wrF (rgt W R kd dv code) m x c)) 0 f) → wX9_wrong_24 v Q (m + 1) (iI c) (iI x) f
  | 0, x, c, f, hx, hQ => by
    obtain ⟨p16, pm, ph⟩ := pw w4 w16
    rw [wX9_wrong_24, iI_l (by omega) (by omega)]
    exact m_all hv0 w16 (bl_le (2 ^ W) x (fun _ => hQ f) (fun c => by omega))
  | m + 1, x, c, f, hx, hQ => by
    obtain ⟨p16, pm, ph⟩ := pw w4 w16
    rw [wX9_wrong_24, iI_l (by omega) (by omega)]
    refine m_all hv0 w16 (bl_le (2 ^ W) x (fun c => by omega) (fun _ => ?_))
    unfold wrF at hQ
    have step : ∀ f' c' d, (∀ f, Q (iI (wrF (rgt W R kd dv code) m (x + 1) (c + c'))) 0 f) → d = iI c' → wX9_wrong_49 (iI c) (iI x) (wX9_wrong_24 v Q (m + 1)) f' d := by
      intro f' c' d h hd z hz y hy
      have e1 : y = iI ((x + 1 : Nat) : Int) := by rw [hy]; show iI x + iI 1 = _; rw [iI_add]; rfl
      rw [e1, hz, hd, iI_add]
      exact m_wr w4 w16 n40 rN tk wfc hv0 hv3 hv4 hv1 hv2 hmc m (x + 1) _ f' (by omega) h
    refine m_rgt w4 w16 n40 rN tk wfc hv0 hv3 hv4 hv1 hv2 hmc (by omega) (fun f' hr => ⟨fun c => absurd c (by decide), fun _ => ?_⟩) (fun f' hr => ⟨fun _ => ?_, fun c => absurd rfl c⟩)
    · exact step f' 0 0 (fun f => by have := hQ f; rw [if_pos hr] at this; rw [Int.add_zero]; exact this) rfl
    · exact step f' 1 1 (fun f => by have := hQ f; rw [if_neg (by rw [hr]; decide)] at this; exact this) rfl
theorem kdn {W : Nat} {kd dv : Int} (h : tsk W kd dv) : 0 ≤ kd ∧ kd ≤ 7 := by unfold tsk at h; omega

set_option maxHeartbeats 1000000 in
theorem s_23 {L : Nat} {xs : Nat → Int32} (hL : L ≤ 3072) {aP : Nat → Nat} {i : Int32} (hi0 : 0 ≤ i.toInt) (hi6 : i.toInt + 6 ≤ L) {t_generator_input : Int32} {t_program_width : Int32} {t_program_length : Int32} {t_program_result : Int32} {t_program_taskKind : Int32} {t_program_taskDivisor : Int32} {f_t_program_operations : Nat → Int32} {f_t_program_firsts : Nat → Int32} {f_t_program_seconds : Nat → Int32} {f_t_costs : Nat → Int32} {t_history_next : Int32} {t_history_kept : Int32} {f_t_machine_values : Nat → Int32} {f_t_machine_depths : Nat → Int32} {f_t_tidier_newNumbers : Nat → Int32} {f_t_tidier_needed : Nat → Int32} {t_listing_left : Int32} {t_listing_seen : Int32} {sW : Nat → Int32} {sL : Nat → Int32} {sR : Nat → Int32} {sK : Nat → Int32} {sD : Nat → Int32} {sO : Nat → Nat → Int32} {sF : Nat → Nat → Int32} {sS : Nat → Nat → Int32} {k_edits : Int32} {k_thrown : Int32} {k_outs : Int32} {f_k_v : Nat → Int32} {f_k_past : Nat → Int32} {f_k_costs : Nat → Int32} {f_k_into : Nat → Int32} {f_k_isNeeded : Nat → Int32} {f_k_depths : Nat → Int32} {f_k_names : Nat → Int32} {f_k_out : Nat → Int32} {f_k_has : Nat → Int64} {f_out : Nat → Int64} (hR : Rel t_generator_input t_program_width t_program_length t_program_result t_program_taskKind t_program_taskDivisor f_t_program_operations f_t_program_firsts f_t_program_seconds f_t_costs t_history_next t_history_kept f_t_machine_values f_t_machine_depths f_t_tidier_newNumbers f_t_tidier_needed t_listing_left t_listing_seen sW sL sR sK sD sO sF sS k_edits k_thrown k_outs f_k_v f_k_past f_k_costs f_k_into f_k_isNeeded f_k_depths f_k_names f_k_out f_k_has f_out) : wc_23 L xs aP i t_generator_input t_program_width t_program_length t_program_result t_program_taskKind t_program_taskDivisor f_t_program_operations f_t_program_firsts f_t_program_seconds f_t_costs t_history_next t_history_kept f_t_machine_values f_t_machine_depths f_t_tidier_newNumbers f_t_tidier_needed t_listing_left t_listing_seen sW sL sR sK sD sO sF sS k_edits k_thrown k_outs f_k_v f_k_past f_k_costs f_k_into f_k_isNeeded f_k_depths f_k_names f_k_out f_k_has f_out Rel := by
  have hR' := hR
  obtain ⟨gi, hcst, hnm, hd0, ⟨W, N, R, kd, dv, code⟩, nx, E, hs, hw, hc, hm, hx, hE8, hws, hch, hmh⟩ := hR
  have w4 : 4 ≤ W := hw.1
  have w16 : W ≤ 16 := hw.2.1
  have n40 : N ≤ 40 := hw.2.2.1
  have rN : R ≤ N := hw.2.2.2.1
  have tk : kd = -1 ∨ tsk W kd dv := hw.2.2.2.2.1
  have wfc : ∀ i, i < N → wfI W i (code i) := hw.2.2.2.2.2
  obtain ⟨p16, pm, ph⟩ := pw w4 w16
  have e1 : t_program_width = iI W := hc.1
  have e2 : t_program_length = iI N := hc.2.1
  have e3 : t_program_result = iI R := hc.2.2.1
  have e4 : t_program_taskKind = iI kd := hc.2.2.2.1
  have hd : kd ≠ -1 → t_program_taskDivisor = iI dv := hc.2.2.2.2.1
  have hcc : cCode N code f_t_program_operations f_t_program_firsts f_t_program_seconds := hc.2.2.2.2.2
  have hv0 : f_k_v 0 = iI W := hm.1
  have hv3 : f_k_v 3 = iI N := hm.2.1
  have hv4 : f_k_v 4 = iI R := hm.2.2.1
  have hv1 : f_k_v 1 = iI kd := hm.2.2.2.1
  have hv2 : kd ≠ -1 → f_k_v 2 = iI dv := hm.2.2.2.2.1
  have hmc : mCode N code f_k_v := hm.2.2.2.2.2
  have hpw := hPush_w hE8 hws hw
  subst e1 e2 e3 e4
  unfold wc_23
  refine ⟨ixl hL hi0 hi6 1 (by decide) (by decide), ?_⟩
  generalize xs (i + 1).toNatClampNeg = x
  obtain ⟨z, z1, z2, rfl⟩ := iI_of x
  unfold wL_run wX8_run wX9_run wX9_thrown wX9_fails
  refine c_great w16 (c_req z 0 (2 ^ W - 1) (fun a b => ?_) (fun a => ?_))
  · refine c_comp w4 w16 n40 rN wfc hcc a (by omega) (fun f' => ⟨in01, ixl hL hi0 hi6 1 (by decide) (by decide), ?_⟩)
    refine m_inp hv0 w16 z1 z2 (fun _ b' => ⟨fun q => absurd q (by decide), fun _ => ?_⟩) (fun q => absurd ⟨a, by omega⟩ q)
    rw [iI_l z1 z2]
    refine m_runs w4 w16 n40 wfc hv0 hv3 hmc a b' (fun h' hh => ⟨v4, ?_⟩)
    rw [g4, hv4, iI_clN (by omega), hh R rN]
    exact ⟨inI R, end_ok (by rw [up00, lI_i]) ⟨gi, hcst, hnm, hd0, (W, N, R, kd, dv, code), nx, E, hs, hw, hc, hm, hx, hE8, hws, hch, hmh⟩⟩
  · refine ⟨rfl, ixl hL hi0 hi6 1 (by decide) (by decide), ?_⟩
    refine m_inp hv0 w16 z1 z2 (fun a' b' => absurd ⟨a', by omega⟩ a) (fun _ => ⟨fun _ => ?_, fun q => absurd rfl q⟩)
    exact end_no (by decide) hR'

set_option maxHeartbeats 1000000 in
theorem s_24 {L : Nat} {xs : Nat → Int32} (hL : L ≤ 3072) {aP : Nat → Nat} {i : Int32} (hi0 : 0 ≤ i.toInt) (hi6 : i.toInt + 6 ≤ L) {t_generator_input : Int32} {t_program_width : Int32} {t_program_length : Int32} {t_program_result : Int32} {t_program_taskKind : Int32} {t_program_taskDivisor : Int32} {f_t_program_operations : Nat → Int32} {f_t_program_firsts : Nat → Int32} {f_t_program_seconds : Nat → Int32} {f_t_costs : Nat → Int32} {t_history_next : Int32} {t_history_kept : Int32} {f_t_machine_values : Nat → Int32} {f_t_machine_depths : Nat → Int32} {f_t_tidier_newNumbers : Nat → Int32} {f_t_tidier_needed : Nat → Int32} {t_listing_left : Int32} {t_listing_seen : Int32} {sW : Nat → Int32} {sL : Nat → Int32} {sR : Nat → Int32} {sK : Nat → Int32} {sD : Nat → Int32} {sO : Nat → Nat → Int32} {sF : Nat → Nat → Int32} {sS : Nat → Nat → Int32} {k_edits : Int32} {k_thrown : Int32} {k_outs : Int32} {f_k_v : Nat → Int32} {f_k_past : Nat → Int32} {f_k_costs : Nat → Int32} {f_k_into : Nat → Int32} {f_k_isNeeded : Nat → Int32} {f_k_depths : Nat → Int32} {f_k_names : Nat → Int32} {f_k_out : Nat → Int32} {f_k_has : Nat → Int64} {f_out : Nat → Int64} (hR : Rel t_generator_input t_program_width t_program_length t_program_result t_program_taskKind t_program_taskDivisor f_t_program_operations f_t_program_firsts f_t_program_seconds f_t_costs t_history_next t_history_kept f_t_machine_values f_t_machine_depths f_t_tidier_newNumbers f_t_tidier_needed t_listing_left t_listing_seen sW sL sR sK sD sO sF sS k_edits k_thrown k_outs f_k_v f_k_past f_k_costs f_k_into f_k_isNeeded f_k_depths f_k_names f_k_out f_k_has f_out) : wc_24 L xs aP i t_generator_input t_program_width t_program_length t_program_result t_program_taskKind t_program_taskDivisor f_t_program_operations f_t_program_firsts f_t_program_seconds f_t_costs t_history_next t_history_kept f_t_machine_values f_t_machine_depths f_t_tidier_newNumbers f_t_tidier_needed t_listing_left t_listing_seen sW sL sR sK sD sO sF sS k_edits k_thrown k_outs f_k_v f_k_past f_k_costs f_k_into f_k_isNeeded f_k_depths f_k_names f_k_out f_k_has f_out Rel := by
  have hR' := hR
  obtain ⟨gi, hcst, hnm, hd0, ⟨W, N, R, kd, dv, code⟩, nx, E, hs, hw, hc, hm, hx, hE8, hws, hch, hmh⟩ := hR
  have w4 : 4 ≤ W := hw.1
  have w16 : W ≤ 16 := hw.2.1
  have n40 : N ≤ 40 := hw.2.2.1
  have rN : R ≤ N := hw.2.2.2.1
  have tk : kd = -1 ∨ tsk W kd dv := hw.2.2.2.2.1
  have wfc : ∀ i, i < N → wfI W i (code i) := hw.2.2.2.2.2
  obtain ⟨p16, pm, ph⟩ := pw w4 w16
  have e1 : t_program_width = iI W := hc.1
  have e2 : t_program_length = iI N := hc.2.1
  have e3 : t_program_result = iI R := hc.2.2.1
  have e4 : t_program_taskKind = iI kd := hc.2.2.2.1
  have hd : kd ≠ -1 → t_program_taskDivisor = iI dv := hc.2.2.2.2.1
  have hcc : cCode N code f_t_program_operations f_t_program_firsts f_t_program_seconds := hc.2.2.2.2.2
  have hv0 : f_k_v 0 = iI W := hm.1
  have hv3 : f_k_v 3 = iI N := hm.2.1
  have hv4 : f_k_v 4 = iI R := hm.2.2.1
  have hv1 : f_k_v 1 = iI kd := hm.2.2.2.1
  have hv2 : kd ≠ -1 → f_k_v 2 = iI dv := hm.2.2.2.2.1
  have hmc : mCode N code f_k_v := hm.2.2.2.2.2
  have hpw := hPush_w hE8 hws hw
  subst e1 e2 e3 e4
  unfold wc_24
  refine ⟨ixl hL hi0 hi6 1 (by decide) (by decide), ixl hL hi0 hi6 2 (by decide) (by decide), ?_⟩
  generalize xs (i + 1).toNatClampNeg = x
  obtain ⟨z, z1, z2, rfl⟩ := iI_of x
  generalize xs (i + 2).toNatClampNeg = y
  obtain ⟨c, c1, c2, rfl⟩ := iI_of y
  unfold wL_valueOf wX8_valueOf wX9_valueOf wX9_thrown wX9_fails
  rw [g3, hv3, iI_l c1 c2, iI_l (z := (N : Int)) (by omega) (by omega)]
  refine c_great w16 (c_req z 0 (2 ^ W - 1) (fun a b => c_reqV c n40 (fun d e => ?_) (fun d => ?_)) (fun a => ?_))
  · obtain ⟨V, rfl⟩ : ∃ V : Nat, (V : Int) = c := ⟨c.toNat, by omega⟩
    refine c_comp w4 w16 n40 (show V ≤ N by omega) wfc hcc a (by omega) (fun f' => ⟨in01, ixl hL hi0 hi6 1 (by decide) (by decide), ixl hL hi0 hi6 2 (by decide) (by decide), ?_⟩)
    refine m_inp hv0 w16 z1 z2 (fun _ b' => ⟨fun q => absurd q (by decide), fun _ => ⟨v3, ?_⟩⟩) (fun q => absurd ⟨a, by omega⟩ q)
    refine m_in (a := 0) (by omega) (by omega) (by omega) (by omega) (by omega) (by omega) (fun _ _ => ⟨fun q => absurd q (by decide), fun _ => ?_⟩) (fun q => absurd ⟨d, e⟩ q)
    rw [iI_l z1 z2]
    refine m_runs w4 w16 n40 wfc hv0 hv3 hmc a b' (fun h' hh => ⟨inI V, ?_⟩)
    rw [iI_clN (by omega), hh V (by omega)]
    exact end_ok (by rw [up00, lI_i]) ⟨gi, hcst, hnm, hd0, (W, N, R, kd, dv, code), nx, E, hs, hw, hc, hm, hx, hE8, hws, hch, hmh⟩
  · refine Or.inr ⟨rfl, ixl hL hi0 hi6 1 (by decide) (by decide), ixl hL hi0 hi6 2 (by decide) (by decide), ?_⟩
    refine m_inp hv0 w16 z1 z2 (fun _ b' => ⟨fun q => absurd q (by decide), fun _ => ⟨v3, ?_⟩⟩) (fun q => absurd ⟨a, by omega⟩ q)
    refine m_in (a := 0) (by omega) (by omega) (by omega) (by omega) (by omega) (by omega) (fun d' e' => absurd ⟨d', e'⟩ d) (fun _ => ⟨fun _ => ?_, fun q => absurd rfl q⟩)
    exact end_no (by decide) hR'
  · refine Or.inl ⟨rfl, ixl hL hi0 hi6 1 (by decide) (by decide), ixl hL hi0 hi6 2 (by decide) (by decide), ?_⟩
    refine m_inp hv0 w16 z1 z2 (fun a' b' => absurd ⟨a', by omega⟩ a) (fun _ => ⟨fun _ => ?_, fun q => absurd rfl q⟩)
    exact end_no (by decide) hR'

set_option maxHeartbeats 1000000 in
theorem s_25 {L : Nat} {xs : Nat → Int32} (hL : L ≤ 3072) {aP : Nat → Nat} {i : Int32} (hi0 : 0 ≤ i.toInt) (hi6 : i.toInt + 6 ≤ L) {t_generator_input : Int32} {t_program_width : Int32} {t_program_length : Int32} {t_program_result : Int32} {t_program_taskKind : Int32} {t_program_taskDivisor : Int32} {f_t_program_operations : Nat → Int32} {f_t_program_firsts : Nat → Int32} {f_t_program_seconds : Nat → Int32} {f_t_costs : Nat → Int32} {t_history_next : Int32} {t_history_kept : Int32} {f_t_machine_values : Nat → Int32} {f_t_machine_depths : Nat → Int32} {f_t_tidier_newNumbers : Nat → Int32} {f_t_tidier_needed : Nat → Int32} {t_listing_left : Int32} {t_listing_seen : Int32} {sW : Nat → Int32} {sL : Nat → Int32} {sR : Nat → Int32} {sK : Nat → Int32} {sD : Nat → Int32} {sO : Nat → Nat → Int32} {sF : Nat → Nat → Int32} {sS : Nat → Nat → Int32} {k_edits : Int32} {k_thrown : Int32} {k_outs : Int32} {f_k_v : Nat → Int32} {f_k_past : Nat → Int32} {f_k_costs : Nat → Int32} {f_k_into : Nat → Int32} {f_k_isNeeded : Nat → Int32} {f_k_depths : Nat → Int32} {f_k_names : Nat → Int32} {f_k_out : Nat → Int32} {f_k_has : Nat → Int64} {f_out : Nat → Int64} (hR : Rel t_generator_input t_program_width t_program_length t_program_result t_program_taskKind t_program_taskDivisor f_t_program_operations f_t_program_firsts f_t_program_seconds f_t_costs t_history_next t_history_kept f_t_machine_values f_t_machine_depths f_t_tidier_newNumbers f_t_tidier_needed t_listing_left t_listing_seen sW sL sR sK sD sO sF sS k_edits k_thrown k_outs f_k_v f_k_past f_k_costs f_k_into f_k_isNeeded f_k_depths f_k_names f_k_out f_k_has f_out) : wc_25 L xs aP i t_generator_input t_program_width t_program_length t_program_result t_program_taskKind t_program_taskDivisor f_t_program_operations f_t_program_firsts f_t_program_seconds f_t_costs t_history_next t_history_kept f_t_machine_values f_t_machine_depths f_t_tidier_newNumbers f_t_tidier_needed t_listing_left t_listing_seen sW sL sR sK sD sO sF sS k_edits k_thrown k_outs f_k_v f_k_past f_k_costs f_k_into f_k_isNeeded f_k_depths f_k_names f_k_out f_k_has f_out Rel := by
  have hR' := hR
  obtain ⟨gi, hcst, hnm, hd0, ⟨W, N, R, kd, dv, code⟩, nx, E, hs, hw, hc, hm, hx, hE8, hws, hch, hmh⟩ := hR
  have w4 : 4 ≤ W := hw.1
  have w16 : W ≤ 16 := hw.2.1
  have n40 : N ≤ 40 := hw.2.2.1
  have rN : R ≤ N := hw.2.2.2.1
  have tk : kd = -1 ∨ tsk W kd dv := hw.2.2.2.2.1
  have wfc : ∀ i, i < N → wfI W i (code i) := hw.2.2.2.2.2
  obtain ⟨p16, pm, ph⟩ := pw w4 w16
  have e1 : t_program_width = iI W := hc.1
  have e2 : t_program_length = iI N := hc.2.1
  have e3 : t_program_result = iI R := hc.2.2.1
  have e4 : t_program_taskKind = iI kd := hc.2.2.2.1
  have hd : kd ≠ -1 → t_program_taskDivisor = iI dv := hc.2.2.2.2.1
  have hcc : cCode N code f_t_program_operations f_t_program_firsts f_t_program_seconds := hc.2.2.2.2.2
  have hv0 : f_k_v 0 = iI W := hm.1
  have hv3 : f_k_v 3 = iI N := hm.2.1
  have hv4 : f_k_v 4 = iI R := hm.2.2.1
  have hv1 : f_k_v 1 = iI kd := hm.2.2.2.1
  have hv2 : kd ≠ -1 → f_k_v 2 = iI dv := hm.2.2.2.2.1
  have hmc : mCode N code f_k_v := hm.2.2.2.2.2
  have hpw := hPush_w hE8 hws hw
  subst e1 e2 e3 e4
  unfold wc_25
  have tkk : kd ≠ -1 → tsk W kd dv := fun h => tk.resolve_left h
  have kb : kd = -1 ∨ (0 ≤ kd ∧ kd ≤ 7) := tk.imp_right kdn
  refine ⟨ixl hL hi0 hi6 1 (by decide) (by decide), ?_⟩
  generalize xs (i + 1).toNatClampNeg = x
  obtain ⟨z, z1, z2, rfl⟩ := iI_of x
  unfold wL_expected wX8_expected wX9_expected wX9_thrown wX9_fails wX8_requireSomeTask
  refine c_great w16 (c_req z 0 (2 ^ W - 1) (fun a b => br_m1 kd (fun d => ?_) (fun d => ?_)) (fun a => ?_))
  · refine Or.inr ⟨rfl, ixl hL hi0 hi6 1 (by decide) (by decide), ?_⟩
    refine m_inp hv0 w16 z1 z2 (fun _ b' => ⟨fun q => absurd q (by decide), fun _ => ⟨v1, ?_⟩⟩) (fun q => absurd ⟨a, by omega⟩ q)
    rw [g1, hv1]
    exact br_le 0 kd (fun q => by omega) (fun _ => end_no (by decide) hR')
  · have hdd := hd d
    subst hdd
    refine c_mean w4 w16 (tkk d) a (by omega) ⟨in01, ixl hL hi0 hi6 1 (by decide) (by decide), ?_⟩
    refine m_inp hv0 w16 z1 z2 (fun _ b' => ⟨fun q => absurd q (by decide), fun _ => ⟨v1, ?_⟩⟩) (fun q => absurd ⟨a, by omega⟩ q)
    rw [g1, hv1]
    refine br_le 0 kd (fun _ => ?_) (fun q => by omega)
    rw [iI_l z1 z2]
    exact m_asked hv0 w4 w16 hv1 (hv2 d) (tkk d) a b' (end_ok (by rw [up00, lI_i]) hR')
  · refine Or.inl ⟨rfl, ixl hL hi0 hi6 1 (by decide) (by decide), ?_⟩
    refine m_inp hv0 w16 z1 z2 (fun a' b' => absurd ⟨a', by omega⟩ a) (fun _ => ⟨fun _ => ?_, fun q => absurd rfl q⟩)
    exact end_no (by decide) hR'

set_option maxHeartbeats 1000000 in
theorem s_26 {L : Nat} {xs : Nat → Int32} (hL : L ≤ 3072) {aP : Nat → Nat} {i : Int32} (hi0 : 0 ≤ i.toInt) (hi6 : i.toInt + 6 ≤ L) {t_generator_input : Int32} {t_program_width : Int32} {t_program_length : Int32} {t_program_result : Int32} {t_program_taskKind : Int32} {t_program_taskDivisor : Int32} {f_t_program_operations : Nat → Int32} {f_t_program_firsts : Nat → Int32} {f_t_program_seconds : Nat → Int32} {f_t_costs : Nat → Int32} {t_history_next : Int32} {t_history_kept : Int32} {f_t_machine_values : Nat → Int32} {f_t_machine_depths : Nat → Int32} {f_t_tidier_newNumbers : Nat → Int32} {f_t_tidier_needed : Nat → Int32} {t_listing_left : Int32} {t_listing_seen : Int32} {sW : Nat → Int32} {sL : Nat → Int32} {sR : Nat → Int32} {sK : Nat → Int32} {sD : Nat → Int32} {sO : Nat → Nat → Int32} {sF : Nat → Nat → Int32} {sS : Nat → Nat → Int32} {k_edits : Int32} {k_thrown : Int32} {k_outs : Int32} {f_k_v : Nat → Int32} {f_k_past : Nat → Int32} {f_k_costs : Nat → Int32} {f_k_into : Nat → Int32} {f_k_isNeeded : Nat → Int32} {f_k_depths : Nat → Int32} {f_k_names : Nat → Int32} {f_k_out : Nat → Int32} {f_k_has : Nat → Int64} {f_out : Nat → Int64} (hR : Rel t_generator_input t_program_width t_program_length t_program_result t_program_taskKind t_program_taskDivisor f_t_program_operations f_t_program_firsts f_t_program_seconds f_t_costs t_history_next t_history_kept f_t_machine_values f_t_machine_depths f_t_tidier_newNumbers f_t_tidier_needed t_listing_left t_listing_seen sW sL sR sK sD sO sF sS k_edits k_thrown k_outs f_k_v f_k_past f_k_costs f_k_into f_k_isNeeded f_k_depths f_k_names f_k_out f_k_has f_out) : wc_26 L xs aP i t_generator_input t_program_width t_program_length t_program_result t_program_taskKind t_program_taskDivisor f_t_program_operations f_t_program_firsts f_t_program_seconds f_t_costs t_history_next t_history_kept f_t_machine_values f_t_machine_depths f_t_tidier_newNumbers f_t_tidier_needed t_listing_left t_listing_seen sW sL sR sK sD sO sF sS k_edits k_thrown k_outs f_k_v f_k_past f_k_costs f_k_into f_k_isNeeded f_k_depths f_k_names f_k_out f_k_has f_out Rel := by
  have hR' := hR
  obtain ⟨gi, hcst, hnm, hd0, ⟨W, N, R, kd, dv, code⟩, nx, E, hs, hw, hc, hm, hx, hE8, hws, hch, hmh⟩ := hR
  have w4 : 4 ≤ W := hw.1
  have w16 : W ≤ 16 := hw.2.1
  have n40 : N ≤ 40 := hw.2.2.1
  have rN : R ≤ N := hw.2.2.2.1
  have tk : kd = -1 ∨ tsk W kd dv := hw.2.2.2.2.1
  have wfc : ∀ i, i < N → wfI W i (code i) := hw.2.2.2.2.2
  obtain ⟨p16, pm, ph⟩ := pw w4 w16
  have e1 : t_program_width = iI W := hc.1
  have e2 : t_program_length = iI N := hc.2.1
  have e3 : t_program_result = iI R := hc.2.2.1
  have e4 : t_program_taskKind = iI kd := hc.2.2.2.1
  have hd : kd ≠ -1 → t_program_taskDivisor = iI dv := hc.2.2.2.2.1
  have hcc : cCode N code f_t_program_operations f_t_program_firsts f_t_program_seconds := hc.2.2.2.2.2
  have hv0 : f_k_v 0 = iI W := hm.1
  have hv3 : f_k_v 3 = iI N := hm.2.1
  have hv4 : f_k_v 4 = iI R := hm.2.2.1
  have hv1 : f_k_v 1 = iI kd := hm.2.2.2.1
  have hv2 : kd ≠ -1 → f_k_v 2 = iI dv := hm.2.2.2.2.1
  have hmc : mCode N code f_k_v := hm.2.2.2.2.2
  have hpw := hPush_w hE8 hws hw
  subst e1 e2 e3 e4
  unfold wc_26
  have tkk : kd ≠ -1 → tsk W kd dv := fun h => tk.resolve_left h
  have kb : kd = -1 ∨ (0 ≤ kd ∧ kd ≤ 7) := tk.imp_right kdn
  refine ⟨ixl hL hi0 hi6 1 (by decide) (by decide), ?_⟩
  generalize xs (i + 1).toNatClampNeg = x
  obtain ⟨z, z1, z2, rfl⟩ := iI_of x
  unfold wL_firstWrong wX8_firstWrong wX9_firstWrong wX9_thrown wX9_fails wX8_requireSomeTask
  refine c_great w16 (c_req z 0 (2 ^ W - 1) (fun a b => br_m1 kd (fun d => ?_) (fun d => c_great w16 ?_)) (fun a => ?_))
  · refine Or.inr ⟨rfl, ixl hL hi0 hi6 1 (by decide) (by decide), ?_⟩
    refine m_inp hv0 w16 z1 z2 (fun _ b' => ⟨fun q => absurd q (by decide), fun _ => ⟨v1, ?_⟩⟩) (fun q => absurd ⟨a, by omega⟩ q)
    rw [g1, hv1]
    exact br_le 0 kd (fun q => by omega) (fun _ => end_no (by decide) hR')
  · have hdd := hd d
    subst hdd
    obtain ⟨V, rfl⟩ : ∃ V : Nat, (V : Int) = z := ⟨z.toNat, by omega⟩
    obtain ⟨M, hM⟩ : ∃ M : Nat, ((V + M : Nat) : Int) = 2 ^ W := ⟨(2 ^ W - (V : Int)).toNat, by omega⟩
    refine ⟨_, c_fw w4 w16 n40 rN (tkk d) wfc hcc M V _ hM (fun f' => ⟨in01, ixl hL hi0 hi6 1 (by decide) (by decide), ?_⟩)⟩
    refine m_inp hv0 w16 z1 z2 (fun _ b' => ⟨fun q => absurd q (by decide), fun _ => ⟨v1, ?_⟩⟩) (fun q => absurd ⟨a, by omega⟩ q)
    rw [g1, hv1]
    refine br_le 0 kd (fun _ => ?_) (fun q => by omega)
    exact ⟨_, m_fw w4 w16 n40 rN (tkk d) wfc hv0 hv3 hv4 hv1 (hv2 d) hmc M V _ hM (fun f2 => end_ok (by rw [up00]) ⟨gi, hcst, hnm, hd0, (W, N, R, kd, dv, code), nx, E, hs, hw, hc, hm, hx, hE8, hws, hch, hmh⟩)⟩
  · refine Or.inl ⟨rfl, ixl hL hi0 hi6 1 (by decide) (by decide), ?_⟩
    refine m_inp hv0 w16 z1 z2 (fun a' b' => absurd ⟨a', by omega⟩ a) (fun _ => ⟨fun _ => ?_, fun q => absurd rfl q⟩)
    exact end_no (by decide) hR'

set_option maxHeartbeats 1000000 in
theorem s_27 {L : Nat} {xs : Nat → Int32} (hL : L ≤ 3072) {aP : Nat → Nat} {i : Int32} (hi0 : 0 ≤ i.toInt) (hi6 : i.toInt + 6 ≤ L) {t_generator_input : Int32} {t_program_width : Int32} {t_program_length : Int32} {t_program_result : Int32} {t_program_taskKind : Int32} {t_program_taskDivisor : Int32} {f_t_program_operations : Nat → Int32} {f_t_program_firsts : Nat → Int32} {f_t_program_seconds : Nat → Int32} {f_t_costs : Nat → Int32} {t_history_next : Int32} {t_history_kept : Int32} {f_t_machine_values : Nat → Int32} {f_t_machine_depths : Nat → Int32} {f_t_tidier_newNumbers : Nat → Int32} {f_t_tidier_needed : Nat → Int32} {t_listing_left : Int32} {t_listing_seen : Int32} {sW : Nat → Int32} {sL : Nat → Int32} {sR : Nat → Int32} {sK : Nat → Int32} {sD : Nat → Int32} {sO : Nat → Nat → Int32} {sF : Nat → Nat → Int32} {sS : Nat → Nat → Int32} {k_edits : Int32} {k_thrown : Int32} {k_outs : Int32} {f_k_v : Nat → Int32} {f_k_past : Nat → Int32} {f_k_costs : Nat → Int32} {f_k_into : Nat → Int32} {f_k_isNeeded : Nat → Int32} {f_k_depths : Nat → Int32} {f_k_names : Nat → Int32} {f_k_out : Nat → Int32} {f_k_has : Nat → Int64} {f_out : Nat → Int64} (hR : Rel t_generator_input t_program_width t_program_length t_program_result t_program_taskKind t_program_taskDivisor f_t_program_operations f_t_program_firsts f_t_program_seconds f_t_costs t_history_next t_history_kept f_t_machine_values f_t_machine_depths f_t_tidier_newNumbers f_t_tidier_needed t_listing_left t_listing_seen sW sL sR sK sD sO sF sS k_edits k_thrown k_outs f_k_v f_k_past f_k_costs f_k_into f_k_isNeeded f_k_depths f_k_names f_k_out f_k_has f_out) : wc_27 L xs aP i t_generator_input t_program_width t_program_length t_program_result t_program_taskKind t_program_taskDivisor f_t_program_operations f_t_program_firsts f_t_program_seconds f_t_costs t_history_next t_history_kept f_t_machine_values f_t_machine_depths f_t_tidier_newNumbers f_t_tidier_needed t_listing_left t_listing_seen sW sL sR sK sD sO sF sS k_edits k_thrown k_outs f_k_v f_k_past f_k_costs f_k_into f_k_isNeeded f_k_depths f_k_names f_k_out f_k_has f_out Rel := by
  have hR' := hR
  obtain ⟨gi, hcst, hnm, hd0, ⟨W, N, R, kd, dv, code⟩, nx, E, hs, hw, hc, hm, hx, hE8, hws, hch, hmh⟩ := hR
  have w4 : 4 ≤ W := hw.1
  have w16 : W ≤ 16 := hw.2.1
  have n40 : N ≤ 40 := hw.2.2.1
  have rN : R ≤ N := hw.2.2.2.1
  have tk : kd = -1 ∨ tsk W kd dv := hw.2.2.2.2.1
  have wfc : ∀ i, i < N → wfI W i (code i) := hw.2.2.2.2.2
  obtain ⟨p16, pm, ph⟩ := pw w4 w16
  have e1 : t_program_width = iI W := hc.1
  have e2 : t_program_length = iI N := hc.2.1
  have e3 : t_program_result = iI R := hc.2.2.1
  have e4 : t_program_taskKind = iI kd := hc.2.2.2.1
  have hd : kd ≠ -1 → t_program_taskDivisor = iI dv := hc.2.2.2.2.1
  have hcc : cCode N code f_t_program_operations f_t_program_firsts f_t_program_seconds := hc.2.2.2.2.2
  have hv0 : f_k_v 0 = iI W := hm.1
  have hv3 : f_k_v 3 = iI N := hm.2.1
  have hv4 : f_k_v 4 = iI R := hm.2.2.1
  have hv1 : f_k_v 1 = iI kd := hm.2.2.2.1
  have hv2 : kd ≠ -1 → f_k_v 2 = iI dv := hm.2.2.2.2.1
  have hmc : mCode N code f_k_v := hm.2.2.2.2.2
  have hpw := hPush_w hE8 hws hw
  subst e1 e2 e3 e4
  unfold wc_27
  have tkk : kd ≠ -1 → tsk W kd dv := fun h => tk.resolve_left h
  have kb : kd = -1 ∨ (0 ≤ kd ∧ kd ≤ 7) := tk.imp_right kdn
  unfold wL_wrong wX8_wrong wX9_wrong wX9_thrown wX9_fails wX8_requireSomeTask
  rw [g1, hv1]
  refine br_m1 kd (fun d => ?_) (fun d => c_great w16 ?_)
  · exact ⟨rfl, v1, br_le 0 kd (fun q => by omega) (fun _ => end_no (by decide) hR')⟩
  · have hdd := hd d
    subst hdd
    obtain ⟨M, hM⟩ : ∃ M : Nat, ((0 + M : Nat) : Int) = 2 ^ W := ⟨(2 ^ W : Int).toNat, by omega⟩
    refine ⟨_, c_wr w4 w16 n40 rN (tkk d) wfc hcc M 0 0 _ hM (fun f' => ⟨in01, v1, br_le 0 kd (fun _ => ?_) (fun q => by omega)⟩)⟩
    exact ⟨_, m_wr w4 w16 n40 rN (tkk d) wfc hv0 hv3 hv4 hv1 (hv2 d) hmc M 0 0 _ hM (fun f2 => end_ok (by rw [up00]) ⟨gi, hcst, hnm, hd0, (W, N, R, kd, dv, code), nx, E, hs, hw, hc, hm, hx, hE8, hws, hch, hmh⟩)⟩
