/-! tidying: the class -/
abbrev rJ (J : Nat → Nat) : Nat → Nat := fun x => rho J (J x)
theorem c_ren {q : Opd} (hq : q.2 ≤ 65536) (h40 : q.1 = false → q.2 ≤ 40) {f : Nat → Int32} {t : Nat → Nat} (hf : q.1 = false → f q.2 = iI (t q.2)) {Q : Int32 → Prop} (hQ : Q (cOp (mO t q))) : wX7_renumbered f (cOp q) Q := by
  unfold wX7_renumbered
  refine c_isv hq (by decide) (fun h => ⟨fun c => absurd c (by decide), fun _ => c_num hq (by decide) ?_⟩) (fun h => ⟨fun _ => ?_, fun c => absurd rfl c⟩)
  · have h2 := h40 h
    refine ⟨inI _, ?_⟩
    unfold wX5_operandOf
    rw [iI_clN (by omega), hf h, im1, iI_sub]
    rw [mO_f h] at hQ; exact hQ
  · rw [mO_t h] at hQ; exact hQ
def kpt (J : Nat → Nat) (code : Nat → Ins) (o f s : Nat → Int32) (j : Nat) : Prop := o (rho J j) = iI ((code j).1 : Int) ∧ f (rho J j) = cOp (mO (rJ J) (code j).2.1) ∧ s (rho J j) = cOp (mO (rJ J) (code j).2.2)
theorem rJ_le {N : Nat} {code : Nat → Ins} {J : Nat → Nat} (hJ : isJ N code J) {x : Nat} (hx : x ≤ N) : rJ J x ≤ x := by
  have h1 := J_le hJ x hx
  have h2 := @rho_id J (J x)
  show rho J (J x) ≤ x; omega
theorem c_fa {W N : Nat} (w4 : 4 ≤ W) (w16 : W ≤ 16) (n40 : N ≤ 40) {code : Nat → Ins} {J : Nat → Nat} (hJ : isJ N code J) (wfc : ∀ i, i < N → wfI W i (code i)) {i : Nat} (hi : i < N) {o f s : Nat → Int32} (ha : ∀ j, j < i → J (j + 1) = j + 1 → kpt J code o f s j) {Q : Int32 → Prop} (hQ : Q (iI ((rho J (J (i + 1)) - 1 : Nat) : Int))) : ∀ m j, j + m = i → (∀ k, k < j → jP J code i k = false) → wX7_findAmong_3 o f s (iI (rho J i)) (iI ((code i).1 : Int)) (cOp (mO (rJ J) (code i).2.1)) (cOp (mO (rJ J) (code i).2.2)) Q (rho J i - rho J j + 1) (iI (rho J j)) := by
  have hri := @rho_id J i
  have hsp := gL_spec (jP J code i) i (i + 1)
  rw [← hJ.2 i hi] at hsp
  have hwi := wfc i hi
  intro m
  induction m with
  | zero =>
    intro j hj hP
    obtain rfl : j = i := by omega
    rw [Nat.sub_self, wX7_findAmong_3]
    refine br_le (rho J j) (rho J j) (fun _ => ?_) (fun c => by omega)
    rcases hsp with ⟨k, k1, k2, k3, k4⟩ | ⟨k1, k2⟩
    · rw [hP k k1] at k2; exact absurd k2 (by decide)
    · rw [k2, rho_s k2] at hQ; exact hQ
  | succ m ih =>
    intro j hj hP
    by_cases hr : J (j + 1) = j + 1
    · have h1 := rho_s hr
      have h2 := @rho_le J (j + 1) i (by omega)
      obtain ⟨a1, a2, a3⟩ := ha j (by omega) hr
      have hwj := wfc j (by omega)
      have b1 := cOz_b (mO_le (t := rJ J) w16 w4 (by omega) hwj.2.1 (fun x hx => rJ_le hJ (show x ≤ N by omega)))
      have b2 := cOz_b (mO_le (t := rJ J) w16 w4 (by omega) hwi.2.1 (fun x hx => rJ_le hJ (show x ≤ N by omega)))
      have b3 := cOz_b (mO_le (t := rJ J) w16 w4 (by omega) hwj.2.2.1 (fun x hx => rJ_le hJ (show x ≤ N by omega)))
      have b4 := cOz_b (mO_le (t := rJ J) w16 w4 (by omega) hwi.2.2.1 (fun x hx => rJ_le hJ (show x ≤ N by omega)))
      have wfo : ∀ q, wfO W j q → wfO W i q := fun q h => ⟨h.1, fun c => by have := h.2 c; omega⟩
      rw [show rho J i - rho J j + 1 = (rho J i - rho J (j + 1) + 1) + 1 by omega, wX7_findAmong_3, iI_clN (by omega), a1, a2, a3, cOp_z, cOp_z, cOp_z, cOp_z]
      have nx : ¬ mI J (code j) = mI J (code i) → wX7_findAmong_46 (iI (rho J j)) (wX7_findAmong_3 o f s (iI (rho J i)) (iI ((code i).1 : Int)) (iI (cOz (mO (rJ J) (code i).2.1))) (iI (cOz (mO (rJ J) (code i).2.2))) Q (rho J i - rho J (j + 1) + 1)) := by
        intro hne x hx
        have e1 : x = iI ((rho J (j + 1) : Nat) : Int) := by rw [hx, h1]; show iI _ + iI 1 = _; rw [iI_add]; rfl
        rw [e1, ← cOp_z, ← cOp_z]
        refine ih (j + 1) (by omega) (fun k hk => ?_)
        by_cases d : k = j
        · rw [d]; unfold jP; rw [decide_eq_false hne, Bool.and_false]
        · exact hP k (by omega)
      have o1 := hwj.1
      have o2 := hwi.1
      refine br_le (rho J i) (rho J j) (fun c => by omega) (fun _ => ⟨inI _, br_eq ((code j).1 : Int) ((code i).1 : Int) (fun e1 => ⟨inI _, br_eq (cOz (mO (rJ J) (code j).2.1)) (cOz (mO (rJ J) (code i).2.1)) (fun e2 => ⟨inI _, br_eq (cOz (mO (rJ J) (code j).2.2)) (cOz (mO (rJ J) (code i).2.2)) (fun e3 => ?_) (fun n => nx (fun q => ?_))⟩) (fun n => nx (fun q => ?_))⟩) (fun n => nx (fun q => ?_))⟩)
      · have m1 := mO_inj hJ (show i ≤ N by omega) (wfo _ hwj.2.1) hwi.2.1 (cOz_inj e2)
        have m2 := mO_inj hJ (show i ≤ N by omega) (wfo _ hwj.2.2.1) hwi.2.2.1 (cOz_inj e3)
        have hm : mI J (code j) = mI J (code i) := by unfold mI; rw [m1, m2, show (code j).1 = (code i).1 by omega]
        have hPj : jP J code i j = true := by unfold jP; rw [decide_eq_true hr, decide_eq_true hm]; rfl
        rcases hsp with ⟨k, k1, k2, k3, k4⟩ | ⟨k1, k2⟩
        · have : k = j := by
            rcases Nat.lt_trichotomy k j with c | c | c
            · rw [hP k c] at k2; exact absurd k2 (by decide)
            · exact c
            · rw [k3 j c] at hPj; exact absurd hPj (by decide)
          rw [k4, this, h1] at hQ; exact hQ
        · rw [k1 j (by omega)] at hPj; exact absurd hPj (by decide)
      · have q2 : mO J (code j).2.2 = mO J (code i).2.2 := congrArg (fun z => z.2.2) q
        exact n (by rw [mO_fwd q2])
      · have q2 : mO J (code j).2.1 = mO J (code i).2.1 := congrArg (fun z => z.2.1) q
        exact n (by rw [mO_fwd q2])
      · have q2 : (code j).1 = (code i).1 := congrArg (fun z => z.1) q
        exact n (by rw [q2])
    · have := ih (j + 1) (by omega) (fun k hk => by
        by_cases d : k = j
        · rw [d]; unfold jP; rw [decide_eq_false hr, Bool.false_and]
        · exact hP k (by omega))
      rw [rho_n hr] at this
      exact this
theorem J_pos {N : Nat} {code : Nat → Ins} {J : Nat → Nat} (hJ : isJ N code J) {i : Nat} (hi : i < N) : 1 ≤ rho J (J (i + 1)) ∧ (J (i + 1) = i + 1 ∨ (¬ J (i + 1) = i + 1 ∧ rho J (J (i + 1)) ≤ rho J i)) := by
  have hle := J_le hJ (i + 1) (by omega)
  have hjj := J_J hJ (i + 1) (by omega)
  have h0 : J (i + 1) ≠ 0 := by
    rw [hJ.2 i hi]
    rcases gL_spec (jP J code i) i (i + 1) with ⟨k, -, -, -, k4⟩ | ⟨-, k2⟩ <;> omega
  refine ⟨by have := rho_lt hjj (show 0 < J (i + 1) by omega); omega, ?_⟩
  by_cases c : J (i + 1) = i + 1
  · exact Or.inl c
  · exact Or.inr ⟨c, rho_le (by omega)⟩
theorem c_mg {W N R : Nat} (w4 : 4 ≤ W) (w16 : W ≤ 16) (n40 : N ≤ 40) (rN : R ≤ N) {code : Nat → Ins} {J : Nat → Nat} (hJ : isJ N code J) (wfc : ∀ i, i < N → wfI W i (code i)) {Q : (Nat → Int32) → Int32 → Int32 → (Nat → Int32) → (Nat → Int32) → (Nat → Int32) → Prop} (hQ : ∀ nw o f s, nw 0 = 0 → (∀ j, j < N → J (j + 1) = j + 1 → kpt J code o f s j) → Q nw (iI (rho J N)) (iI (rJ J R)) o f s) : ∀ m i (nw o f s : Nat → Int32), i + m = N → (∀ x, x ≤ i → nw x = iI ((rJ J x : Nat) : Int)) → (∀ j, j < i → J (j + 1) = j + 1 → kpt J code o f s j) → (∀ j, i ≤ j → j < N → o j = iI ((code j).1 : Int) ∧ f j = cOp (code j).2.1 ∧ s j = cOp (code j).2.2) → wX7_mergeEqual_4 (iI N) (iI R) Q (m + 1) (iI (rho J i)) (iI i) nw o f s := by
  intro m
  induction m with
  | zero =>
    intro i nw o f s hi h1 h2 h3
    obtain rfl : i = N := by omega
    rw [wX7_mergeEqual_4]
    refine br_le i i (fun _ => ⟨inI R, ?_⟩) (fun c => by omega)
    rw [iI_clN (by omega), h1 R rN]
    refine hQ nw o f s ?_ h2
    rw [h1 0 (by omega), show rJ J 0 = 0 by show rho J (J 0) = 0; rw [hJ.1]; rfl]; rfl
  | succ m ih =>
    intro i nw o f s hi h1 h2 h3
    rw [wX7_mergeEqual_4]
    obtain ⟨a1, a2, a3⟩ := h3 i (Nat.le_refl _) (by omega)
    have hw := wfc i (by omega)
    have hri := @rho_id J i
    have hp := J_pos hJ (show i < N by omega)
    have l1 := wf_le w16 w4 (by omega) hw.2.1
    have l2 := wf_le w16 w4 (by omega) hw.2.2.1
    have e1 : iI i + 1 = iI ((i + 1 : Nat) : Int) := by show iI i + iI 1 = _; rw [iI_add]; rfl
    rw [iI_clN (n := i) (by omega), iI_clN (n := rho J i) (by omega), a1, a2, a3]
    refine br_le N i (fun c => by omega) (fun _ => ⟨inI i, fun x4 hx4 => ⟨inI i, c_ren l1 (fun c => by have := hw.2.1.2 c; omega) (t := rJ J) (fun c => h1 _ (hw.2.1.2 c)) ⟨inI i, c_ren l2 (fun c => by have := hw.2.2.1.2 c; omega) (t := rJ J) (fun c => h1 _ (hw.2.2.1.2 c)) ?_⟩⟩⟩)
    subst hx4
    refine ⟨_, c_fa w4 w16 n40 hJ wfc (by omega) h2 ?_ i 0 (Nat.zero_add _) (fun k hk => absurd hk (Nat.not_lt_zero _))⟩
    have ec : ∀ y : Int32, y = iI ((rho J (J (i + 1)) - 1 : Nat) : Int) + 1 → y = iI ((rJ J (i + 1) : Nat) : Int) := by
      intro y hy
      rw [hy]; show iI _ + iI 1 = _
      rw [iI_add]; congr 1
      show ((rho J (J (i + 1)) - 1 : Nat) : Int) + 1 = ((rho J (J (i + 1)) : Nat) : Int)
      omega
    have nwx : ∀ x, x ≤ i + 1 → upd nw (i + 1) (iI ((rho J (J (i + 1)) - 1 : Nat) : Int) + 1) x = iI ((rJ J x : Nat) : Int) := by
      intro x hx
      by_cases c : x = i + 1
      · rw [c, pk_us]; exact ec _ rfl
      · rw [pk_un c]; exact h1 x (by omega)
    unfold wX7_mergeEqual_90
    rw [e1, iI_clN (n := i + 1) (by omega)]
    refine br_eq ((rho J (J (i + 1)) - 1 : Nat) : Int) (rho J i) (fun c => ⟨inI _, inI _, inI _, fun x2 hx2 => ⟨inI _, fun x3 hx3 => ?_⟩⟩) (fun c => ⟨inI _, fun x3 hx3 => ?_⟩) (by omega) (by have := @rJ_le N code J hJ (i + 1) (by omega); have h9 : rho J (J (i + 1)) ≤ i + 1 := this; omega)
    · have hr : J (i + 1) = i + 1 := by
        rcases hp.2 with h | ⟨-, h⟩
        · exact h
        · omega
      have hrs := rho_s hr
      have e2 : x2 = iI ((rho J (i + 1) : Nat) : Int) := by rw [hx2, hrs]; show iI _ + iI 1 = _; rw [iI_add]; rfl
      rw [hx3, e2]
      refine ih (i + 1) _ _ _ _ (by omega) nwx (fun j hj hjr => ?_) (fun j hj hjN => ?_)
      · by_cases d : j = i
        · subst d
          exact ⟨pk_us, pk_us, pk_us⟩
        · have h4 := rho_s hjr
          have h5 := @rho_le J (j + 1) i (by omega)
          obtain ⟨k1, k2, k3⟩ := h2 j (by omega) hjr
          exact ⟨by rw [pk_un (by omega)]; exact k1, by rw [pk_un (by omega)]; exact k2, by rw [pk_un (by omega)]; exact k3⟩
      · obtain ⟨k1, k2, k3⟩ := h3 j (by omega) hjN
        exact ⟨by rw [pk_un (by omega)]; exact k1, by rw [pk_un (by omega)]; exact k2, by rw [pk_un (by omega)]; exact k3⟩
    · have hr : ¬ J (i + 1) = i + 1 := by
        intro h
        rw [h, rho_s h] at c
        omega
      have e2 : iI ((rho J i : Nat) : Int) = iI ((rho J (i + 1) : Nat) : Int) := by rw [rho_n hr]
      rw [hx3, e2]
      refine ih (i + 1) _ _ _ _ (by omega) nwx (fun j hj hjr => ?_) (fun j hj hjN => h3 j (by omega) hjN)
      have : j ≠ i := fun d => hr (by rw [d] at hjr; exact hjr)
      exact h2 j (by omega) hjr
theorem nar1 : vp_nar .boolean 1 = 1 := rfl
theorem nar0 : vp_nar .boolean 0 = 0 := rfl
theorem c_mk2 {K r : Nat} (hK : K ≤ 40) (hr : r ≤ 40) {f s : Nat → Int32} {Q : (Nat → Int32) → Prop} (hQ : ∀ nd, (∀ y, y ≤ K → nd y = bN (decide (y = r))) → ∃ k9, wX7_markNeeded_42 f s Q k9 (iI ((K : Int) - 1)) nd) : ∀ (m k : Nat) (nd : Nat → Int32), k + m = K + 1 → (∀ y, y < k → nd y = bN (decide (y = r))) → wX7_markNeeded_2 (iI K) (iI r) f s Q (m + 1) (iI k) nd := by
  intro m
  induction m with
  | zero =>
    intro k nd hk h
    rw [wX7_markNeeded_2]
    refine br_lt K k (fun _ x hx => ?_) (fun c => by omega)
    have e : x = iI ((K : Int) - 1) := by rw [hx]; show iI _ - iI 1 = _; rw [iI_sub]
    rw [e]; exact hQ nd (fun y hy => h y (by omega))
  | succ m ih =>
    intro k nd hk h
    have e1 : iI k + 1 = iI ((k + 1 : Nat) : Int) := by show iI k + iI 1 = _; rw [iI_add]; rfl
    rw [wX7_markNeeded_2]
    have step : ∀ y : Int32, vp_nar .boolean y = bN (decide (k = r)) → wX7_markNeeded_28 (iI k) nd (wX7_markNeeded_2 (iI K) (iI r) f s Q (m + 1)) y := by
      intro y hy
      refine ⟨inI k, fun x hx => ?_⟩
      rw [hx, e1, iI_clN (by omega), hy]
      refine ih (k + 1) _ (by omega) (fun z hz => ?_)
      by_cases c : z = k
      · rw [c, pk_us]
      · rw [pk_un c]; exact h z (by omega)
    refine br_lt K k (fun c => by omega) (fun _ => br_eq k r (fun c => step 1 ?_) (fun c => step 0 ?_))
    · rw [decide_eq_true (show k = r by omega)]; rfl
    · rw [decide_eq_false (show ¬ k = r by omega)]; rfl
theorem c_mo {J : Nat → Nat} {q : Opd} (hq : (mO (rJ J) q).2 ≤ 65536) (h40 : q.1 = false → rJ J q.2 ≤ 40) {nd : Nat → Int32} {Q : (Nat → Int32) → Prop} (hQ : ∀ nd', (∀ y, nd' y = if q.1 = false ∧ y = rJ J q.2 then 1 else nd y) → Q nd') : wX7_markOperand nd (cOp (mO (rJ J) q)) Q := by
  unfold wX7_markOperand
  refine c_isv hq (by decide) (fun h => ⟨fun c => absurd c (by decide), fun _ => c_num hq (by decide) ?_⟩) (fun h => ⟨fun _ => ?_, fun c => absurd rfl c⟩)
  · rw [mO_1] at h
    have h2 := h40 h
    rw [mO_f h]
    refine ⟨inI ((rJ J q.2 : Nat) : Int), ?_⟩
    rw [iI_clN (show rJ J q.2 < 2147483648 by omega), nar1]
    refine hQ _ (fun y => ?_)
    by_cases c : y = rJ J q.2
    · rw [if_pos ⟨h, c⟩, c, pk_us]
    · rw [if_neg (fun d => c d.2), pk_un c]
  · rw [mO_1] at h
    exact hQ nd (fun y => by rw [if_neg (fun d => by rw [h] at d; exact absurd d.1 (by decide))])
theorem c_mk42 {W N R : Nat} (w4 : 4 ≤ W) (w16 : W ≤ 16) (n40 : N ≤ 40) (rN : R ≤ N) {code : Nat → Ins} {J : Nat → Nat} (hJ : isJ N code J) (wfc : ∀ i, i < N → wfI W i (code i)) {o f s : Nat → Int32} (ha : ∀ j, j < N → J (j + 1) = j + 1 → kpt J code o f s j) {Q : (Nat → Int32) → Prop} (hQ : ∀ nd, (∀ x, x ≤ N → J x = x → nd (rho J x) = bN (nds N R J code N x)) → Q nd) : ∀ (i : Nat) (nd : Nat → Int32), i ≤ N → (∀ x, x ≤ N → J x = x → nd (rho J x) = bN (nds N R J code (N - i) x)) → wX7_markNeeded_42 f s Q (rho J i + 1) (iI ((rho J i : Int) - 1)) nd := by
  intro i
  induction i with
  | zero =>
    intro nd hi h
    show wX7_markNeeded_42 f s Q (0 + 1) (iI (((0 : Nat) : Int) - 1)) nd
    rw [wX7_markNeeded_42]
    exact br_lt (((0 : Nat) : Int) - 1) 0 (fun _ => hQ nd h) (fun c => by omega)
  | succ i ih =>
    intro nd hi h
    have em : N - i = N - (i + 1) + 1 := by omega
    have ei : N - 1 - (N - (i + 1)) = i := by omega
    have hri := @rho_id J i
    by_cases hr : J (i + 1) = i + 1
    · have hrs := rho_s hr
      rw [hrs, show ((rho J i + 1 : Nat) : Int) - 1 = (rho J i : Int) by omega, wX7_markNeeded_42]
      obtain ⟨a1, a2, a3⟩ := ha i (by omega) hr
      have hw := wfc i (by omega)
      have e1 : iI (rho J i) + 1 = iI ((rho J (i + 1) : Nat) : Int) := by rw [hrs]; show iI _ + iI 1 = _; rw [iI_add]; rfl
      have e2 : iI (rho J i) + (-1) = iI ((rho J i : Int) - 1) := by rw [im1, iI_add]; congr 1
      have b1 := mO_le (t := rJ J) w16 w4 (by omega) hw.2.1 (fun x hx => rJ_le hJ (show x ≤ N by omega))
      have b2 := mO_le (t := rJ J) w16 w4 (by omega) hw.2.2.1 (fun x hx => rJ_le hJ (show x ≤ N by omega))
      refine br_lt (rho J i) 0 (fun c => by omega) (fun _ => ?_)
      rw [e1, iI_clN (by omega), iI_clN (by omega), h (i + 1) hi hr, a2, a3]
      refine ⟨inI ((rho J (i + 1) : Nat) : Int), ?_⟩
      cases hn : nds N R J code (N - (i + 1)) (i + 1) with
      | false =>
        refine ⟨fun _ x hx => ?_, fun c => absurd rfl c⟩
        rw [hx, e2]
        refine ih nd (by omega) (fun x hx hxr => ?_)
        rw [h x hx hxr, em, show nds N R J code (N - (i + 1) + 1) x = nds N R J code (N - (i + 1)) x by
          rw [nds, ei, if_neg (by rw [hn]; decide)]]
      | true =>
        refine ⟨fun c => absurd c (by decide), fun _ => ⟨inI _, c_mo b1 (fun c => ?_) (fun nd1 h1 => ⟨inI _, c_mo b2 (fun c => ?_) (fun nd2 h2 x hx => ?_)⟩)⟩⟩
        · have := hw.2.1.2 c; have := rJ_le hJ (show (code i).2.1.2 ≤ N by omega); omega
        · have := hw.2.2.1.2 c; have := rJ_le hJ (show (code i).2.2.2 ≤ N by omega); omega
        rw [hx, e2]
        refine ih nd2 (by omega) (fun x hx hxr => ?_)
        rw [h2, h1, h x hx hxr, em, nds, ei, if_pos hn]
        have io : ∀ q : Opd, wfO W i q → isO (mO J q) x = decide (q.1 = false ∧ rho J x = rJ J q.2) := by
          intro q hq
          unfold isO
          rw [mO_1]
          cases c : q.1 with
          | true => rfl
          | false =>
            rw [mO_f c, decide_eq_true rfl, Bool.true_and]
            have hle := hq.2 c
            by_cases d : J q.2 = x
            · rw [decide_eq_true d, decide_eq_true ⟨rfl, by rw [← d]⟩]
            · rw [decide_eq_false d, decide_eq_false (fun e => d (rho_inj (J_J hJ q.2 (by omega)) hxr e.2.symm))]
        rw [io _ hw.2.1, io _ hw.2.2.1]
        by_cases c2 : (code i).2.2.1 = false ∧ rho J x = rJ J (code i).2.2.2
        · rw [if_pos c2, decide_eq_true c2, Bool.or_true]; rfl
        · rw [if_neg c2, decide_eq_false c2, Bool.or_false]
          by_cases c1 : (code i).2.1.1 = false ∧ rho J x = rJ J (code i).2.1.2
          · rw [if_pos c1, decide_eq_true c1, Bool.or_true]; rfl
          · rw [if_neg c1, decide_eq_false c1, Bool.or_false]
    · have hrn := rho_n hr
      rw [hrn]
      refine ih nd (by omega) (fun x hx hxr => ?_)
      have hn : ¬ nds N R J code (N - (i + 1)) (i + 1) = true := fun c => hr (nds_rt hJ wfc rN _ _ (by omega) c).1
      rw [h x hx hxr, em, show nds N R J code (N - (i + 1) + 1) x = nds N R J code (N - (i + 1)) x by rw [nds, ei, if_neg hn]]
theorem c_rm9 {W N R : Nat} (w4 : 4 ≤ W) (w16 : W ≤ 16) (n40 : N ≤ 40) (rN : R ≤ N) {code : Nat → Ins} {J : Nat → Nat} (hJ : isJ N code J) (wfc : ∀ i, i < N → wfI W i (code i)) {ndA : Nat → Int32} (hA : ∀ x, x ≤ N → J x = x → ndA (rho J x) = bN (nds N R J code N x)) {Q : (Nat → Int32) → (Nat → Int32) → Int32 → Int32 → (Nat → Int32) → (Nat → Int32) → (Nat → Int32) → Prop} (hQ : ∀ nw o f s, nw 0 = 0 → cCode (En (nds N R J code N) N) (cdT (nds N R J code N) J code N) o f s → Q nw ndA (iI (En (nds N R J code N) N)) (iI (En (nds N R J code N) (J R))) o f s) : ∀ m i (nw o f s : Nat → Int32), i + m = N → nw 0 = 0 → (∀ x, x ≤ i → nds N R J code N x = true → nw (rho J x) = iI (En (nds N R J code N) x)) → cCode (En (nds N R J code N) i) (cdT (nds N R J code N) J code i) o f s → (∀ j, i ≤ j → j < N → J (j + 1) = j + 1 → kpt J code o f s j) → wX7_removeUnneeded_9 (iI (rho J N)) (iI (rJ J R)) Q ndA (rho J N - rho J i + 1) (iI (En (nds N R J code N) i)) (iI (rho J i)) nw o f s := by
  have hrt : ∀ x, nds N R J code N x = true → J x = x ∧ x ≤ N := fun x h => nds_rt hJ wfc rN N x (Nat.le_refl _) h
  have hER := fun n => En_rho (nd := nds N R J code N) (J := J) (fun x h => (hrt x h).1) n
  have hRN : nds N R J code N (J R) = true := by
    have := nds_le (N := N) (R := R) (J := J) (code := code) (m := 0) (x := J R) (decide_eq_true rfl) N
    rw [Nat.zero_add] at this; exact this
  intro m
  induction m with
  | zero =>
    intro i nw o f s hi h0 h1 h2 h3
    obtain rfl : i = N := by omega
    rw [Nat.sub_self, wX7_removeUnneeded_9]
    have hid := @rho_id J i
    have hr := rJ_le hJ rN
    refine br_le (rho J i) (rho J i) (fun _ => ⟨inI ((rJ J R : Nat) : Int), ?_⟩) (fun c => by omega)
    rw [iI_clN (by omega), h1 (J R) (Nat.le_trans (J_le hJ R rN) rN) hRN]
    exact hQ nw o f s h0 h2
  | succ m ih =>
    intro i nw o f s hi h0 h1 h2 h3
    have hid := @rho_id J i
    have hE := hER i
    by_cases hr : J (i + 1) = i + 1
    · have hrs := rho_s hr
      have hle := @rho_le J (i + 1) N (by omega)
      have hidN := @rho_id J N
      have e1 : iI (rho J i) + 1 = iI ((rho J (i + 1) : Nat) : Int) := by rw [hrs]; show iI _ + iI 1 = _; rw [iI_add]; rfl
      rw [show rho J N - rho J i + 1 = (rho J N - rho J (i + 1) + 1) + 1 by omega, wX7_removeUnneeded_9]
      obtain ⟨a1, a2, a3⟩ := h3 i (Nat.le_refl _) (by omega) hr
      have hw := wfc i (by omega)
      refine br_le (rho J N) (rho J i) (fun c => by omega) (fun _ => ?_)
      rw [e1, iI_clN (by omega), iI_clN (by omega), iI_clN (by omega), hA (i + 1) (by omega) hr, a1, a2, a3]
      refine ⟨inI ((rho J (i + 1) : Nat) : Int), ?_⟩
      have h3' : ∀ j, i + 1 ≤ j → j < N → J (j + 1) = j + 1 → rho J (i + 1) ≤ rho J j := fun j hj _ _ => rho_le hj
      cases hn : nds N R J code N (i + 1) with
      | false =>
        refine ⟨fun _ x hx => ?_, fun c => absurd rfl c⟩
        have eE : En (nds N R J code N) (i + 1) = En (nds N R J code N) i := En_n (by rw [hn]; decide)
        have eC : cdT (nds N R J code N) J code (i + 1) = cdT (nds N R J code N) J code i := by rw [cdT, if_neg (by rw [hn]; decide)]
        rw [hx, e1, ← eE]
        refine ih (i + 1) nw o f s (by omega) h0 (fun x hx hxn => ?_) (by rw [eE, eC]; exact h2) (fun j hj hjN hjr => h3 j (by omega) hjN hjr)
        have : x ≠ i + 1 := fun d => by rw [d, hn] at hxn; exact absurd hxn (by decide)
        exact h1 x (by omega) hxn
      | true =>
        have eE : En (nds N R J code N) (i + 1) = En (nds N R J code N) i + 1 := En_s hn
        have eC : cdT (nds N R J code N) J code (i + 1) = snoc (En (nds N R J code N) i) (cdT (nds N R J code N) J code i) (mI (En (nds N R J code N)) (mI J (code i))) := by rw [cdT, if_pos hn]
        obtain ⟨cl1, cl2⟩ := nds_cl (R := R) hJ wfc (show i < N by omega) hn
        have rn : ∀ q : Opd, wfO W i q → (q.1 = false → nds N R J code N (J q.2) = true) → ∀ (Q : Int32 → Prop), Q (cOp (mO (En (nds N R J code N)) (mO J q))) → wX7_renumbered nw (cOp (mO (rJ J) q)) Q := by
          intro q hq hc Q hQ
          refine c_ren (mO_le (t := rJ J) w16 w4 (by omega) hq (fun x hx => rJ_le hJ (show x ≤ N by omega))) (fun c => ?_) (t := fun _ => En (nds N R J code N) (J q.2)) (fun c => ?_) ?_
          · rw [mO_1] at c
            rw [mO_f c]
            have := hq.2 c; have := rJ_le hJ (show q.2 ≤ N by omega); show rJ J q.2 ≤ 40; omega
          · rw [mO_1] at c
            rw [mO_f c]
            have h4 := hq.2 c
            have h5 := J_le hJ q.2 (by omega)
            exact h1 (J q.2) (by omega) (hc c)
          · cases c : q.1 with
            | true => rw [mO_t c, mO_t c] at hQ; rw [mO_t c, mO_t c]; exact hQ
            | false => rw [mO_f c, mO_f rfl] at hQ; rw [mO_f c, mO_f rfl]; exact hQ
        refine ⟨fun c => absurd c (by decide), fun _ => ⟨inI _, inI _, inI _, rn _ hw.2.1 cl1 _ ⟨inI _, inI _, rn _ hw.2.2.1 cl2 _ ⟨inI _, fun x2 hx2 => ⟨inI ((rho J (i + 1) : Nat) : Int), fun x3 hx3 => ?_⟩⟩⟩⟩⟩
        have e2 : x2 = iI ((En (nds N R J code N) (i + 1) : Nat) : Int) := by rw [hx2, eE]; show iI _ + iI 1 = _; rw [iI_add]; rfl
        rw [hx3, e1, e2]
        refine ih (i + 1) _ _ _ _ (by omega) ?_ (fun x hx hxn => ?_) (fun k hk => ?_) (fun j hj hjN hjr => ?_)
        · rw [pk_un (by omega)]; exact h0
        · by_cases c : x = i + 1
          · rw [c, pk_us]
          · have hx2 := rho_lt hr (show x < i + 1 by omega)
            rw [pk_un (by omega)]; exact h1 x (by omega) hxn
        · rw [eE] at hk
          rw [eC]
          by_cases c : k = En (nds N R J code N) i
          · subst c
            simp only [snoc, if_true, pk_us]
            exact ⟨rfl, rfl, rfl⟩
          · simp only [snoc, if_neg c, pk_un c]
            exact h2 k (by omega)
        · have h5 := h3' j hj hjN hjr
          obtain ⟨k1, k2, k3⟩ := h3 j (by omega) hjN hjr
          exact ⟨by rw [pk_un (by omega)]; exact k1, by rw [pk_un (by omega)]; exact k2, by rw [pk_un (by omega)]; exact k3⟩
    · have hrn := rho_n hr
      have hn : ¬ nds N R J code N (i + 1) = true := fun c => hr (hrt _ c).1
      have eE : En (nds N R J code N) (i + 1) = En (nds N R J code N) i := En_n hn
      have eC : cdT (nds N R J code N) J code (i + 1) = cdT (nds N R J code N) J code i := by rw [cdT, if_neg hn]
      have := ih (i + 1) nw o f s (by omega) h0 (fun x hx hxn => by
        have : x ≠ i + 1 := fun d => by rw [d] at hxn; exact hn hxn
        exact h1 x (by omega) hxn) (by rw [eE, eC]; exact h2) (fun j hj hjN hjr => h3 j (by omega) hjN hjr)
      rw [hrn, eE] at this
      exact this
