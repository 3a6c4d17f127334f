/-! tidying: the reference -/
theorem at5 (i : Nat) : (5 : Int32) + 5 * iI i = iI ((5 + 5 * i : Nat) : Int) := by show iI 5 + iI 5 * iI i = _; rw [iI_mul, iI_add]; rfl
theorem ad (a k : Nat) {y : Int32} (h : y = iI k) : iI (a : Int) + y = iI ((a + k : Nat) : Int) := by rw [h, iI_add]; rfl
theorem m_rep {v into : Nat → Int32} {i : Nat} (hi : i < 40) {q : Ins} (hq : mIns q v (5 + 5 * i)) {t : Nat → Nat} (h1 : q.2.1.1 = false → q.2.1.2 ≤ 40 ∧ into q.2.1.2 = iI (t q.2.1.2)) (h2 : q.2.2.1 = false → q.2.2.2 ≤ 40 ∧ into q.2.2.2 = iI (t q.2.2.2)) {Q : (Nat → Int32) → Prop} (hQ : ∀ v', mIns (mI t q) v' (5 + 5 * i) → (∀ j, (j < 5 + 5 * i ∨ 5 + 5 * i + 5 ≤ j) → v' j = v j) → Q v') : wX9_replaces v into (iI i) Q := by
  obtain ⟨k0, k1, k2, k3, k4⟩ := hq
  have fin : ∀ y2 y4, y2 = iI ((mO t q.2.1).2 : Int) → y4 = iI ((mO t q.2.2).2 : Int) → Q (upd (upd v (5 + 5 * i + 2) y2) (5 + 5 * i + 4) y4) := by
    intro y2 y4 e2 e4
    refine hQ _ ⟨?_, ?_, ?_, ?_, ?_⟩ (fun j hj => ?_)
    · rw [pk_un (by omega), pk_un (by omega)]; exact k0
    · rw [pk_un (by omega), pk_un (by omega), k1]; show _ = bN (mO t q.2.1).1; rw [mO_1]
    · rw [pk_un (by omega), pk_us]; exact e2
    · rw [pk_un (by omega), pk_un (by omega), k3]; show _ = bN (mO t q.2.2).1; rw [mO_1]
    · rw [pk_us]; exact e4
    · rw [pk_un (by omega), pk_un (by omega)]
  intro x hx
  rw [at5] at hx
  subst hx
  unfold wX9_replaces_49 wX9_replaces_93
  rw [ad (5 + 5 * i) 1 (y := 1) rfl, ad (5 + 5 * i) 2 (y := 2) rfl, ad (5 + 5 * i) 3 (y := 3) rfl, ad (5 + 5 * i) 4 (y := 4) rfl, iI_clN (n := 5 + 5 * i + 1) (by omega), iI_clN (n := 5 + 5 * i + 2) (by omega), iI_clN (n := 5 + 5 * i + 3) (by omega), iI_clN (n := 5 + 5 * i + 4) (by omega), k1, k2]
  have mid : ∀ y2, y2 = iI ((mO t q.2.1).2 : Int) → (vp_in (iI ((5 + 5 * i + 2 : Nat) : Int)) 206 ∧ (vp_in (iI ((5 + 5 * i + 3 : Nat) : Int)) 206 ∧ (((upd v (5 + 5 * i + 2) y2) (5 + 5 * i + 3) = 1 → (vp_in (iI ((5 + 5 * i + 4 : Nat) : Int)) 206 ∧ (vp_in (iI ((5 + 5 * i + 4 : Nat) : Int)) 206 ∧ Q (upd (upd v (5 + 5 * i + 2) y2) (5 + 5 * i + 4) ((upd v (5 + 5 * i + 2) y2) (5 + 5 * i + 4)))))) ∧ (¬ (upd v (5 + 5 * i + 2) y2) (5 + 5 * i + 3) = 1 → (vp_in (iI ((5 + 5 * i + 4 : Nat) : Int)) 206 ∧ (vp_in ((upd v (5 + 5 * i + 2) y2) (5 + 5 * i + 4)) 41 ∧ (vp_in (iI ((5 + 5 * i + 4 : Nat) : Int)) 206 ∧ Q (upd (upd v (5 + 5 * i + 2) y2) (5 + 5 * i + 4) (into ((upd v (5 + 5 * i + 2) y2) (5 + 5 * i + 4)).toNatClampNeg))))))))) := by
    intro y2 e2
    have u3 : (upd v (5 + 5 * i + 2) y2) (5 + 5 * i + 3) = bN q.2.2.1 := by rw [pk_un (by omega)]; exact k3
    have u4 : (upd v (5 + 5 * i + 2) y2) (5 + 5 * i + 4) = iI (q.2.2.2 : Int) := by rw [pk_un (by omega)]; exact k4
    rw [u3, u4]
    refine ⟨inI _, inI _, ?_⟩
    cases c : q.2.2.1 with
    | true => exact ⟨fun _ => ⟨inI _, inI _, fin _ _ e2 (by rw [mO_t c])⟩, fun d => absurd rfl d⟩
    | false =>
      obtain ⟨l, e⟩ := h2 c
      refine ⟨fun d => absurd d (by decide), fun _ => ⟨inI _, inI _, inI _, fin _ _ e2 ?_⟩⟩
      rw [iI_clN (by omega), e, mO_f c]
  refine ⟨inI _, ?_⟩
  cases c : q.2.1.1 with
  | true => exact ⟨fun _ => ⟨inI _, mid _ (by rw [mO_t c])⟩, fun d => absurd rfl d⟩
  | false =>
    obtain ⟨l, e⟩ := h1 c
    refine ⟨fun d => absurd d (by decide), fun _ => ⟨inI _, inI _, mid _ ?_⟩⟩
    rw [iI_clN (by omega), e, mO_f c]
theorem m_al5 {v : Nat → Int32} {i j : Nat} (hi : i < 40) (hj : j < 40) {Q : Int32 → Prop} : ∀ (m k : Nat) (b : Bool), k + m = 5 → (b = true → (∀ l, k ≤ l → l < 5 → v (5 + 5 * i + l) = v (5 + 5 * j + l)) → Q 1) → (¬ (b = true ∧ ∀ l, k ≤ l → l < 5 → v (5 + 5 * i + l) = v (5 + 5 * j + l)) → Q 0) → wX9_areLike_5 v (iI i) (iI j) Q (m + 1) (bN b) (iI k) := by
  intro m
  induction m with
  | zero =>
    intro k b hk hT hF
    rw [wX9_areLike_5]
    refine br_le 5 k (fun _ => ?_) (fun c => by omega)
    cases b with
    | true => exact ⟨rfl, hT rfl (fun l h1 h2 => by omega)⟩
    | false => exact ⟨rfl, hF (fun c => absurd c.1 (by decide))⟩
  | succ m ih =>
    intro k b hk hT hF
    have e1 : iI k + 1 = iI ((k + 1 : Nat) : Int) := by show iI k + iI 1 = _; rw [iI_add]; rfl
    rw [wX9_areLike_5, at5, at5, ad (5 + 5 * i) k rfl, ad (5 + 5 * j) k rfl, iI_clN (n := 5 + 5 * i + k) (by omega), iI_clN (n := 5 + 5 * j + k) (by omega)]
    have stop : ¬ (b = true ∧ ∀ l, k ≤ l → l < 5 → v (5 + 5 * i + l) = v (5 + 5 * j + l)) → ∀ x : Int32, x = iI k + 1 → wX9_areLike_5 v (iI i) (iI j) Q (m + 1) 0 x := by
      intro hn x hx
      rw [hx, e1]
      exact ih (k + 1) false (by omega) (fun c => absurd c (by decide)) (fun _ => hF hn)
    refine br_le 5 k (fun c => by omega) (fun _ => ?_)
    cases b with
    | false => exact ⟨fun _ => stop (fun c => absurd c.1 (by decide)), fun c => absurd rfl c⟩
    | true =>
      refine ⟨fun c => absurd c (by decide), fun _ => ⟨inI _, inI _, fun e x hx => ?_, fun n => stop (fun c => n (c.2 k (Nat.le_refl _) (by omega)))⟩⟩
      rw [hx, e1]
      refine ih (k + 1) true (by omega) (fun _ h => hT rfl (fun l h1 h2 => ?_)) (fun h => hF (fun c => h ⟨rfl, fun l h1 h2 => c.2 l (by omega) h2⟩))
      by_cases d : l = k
      · rw [d]; exact e
      · exact h l (by omega) h2
theorem bN_inj {a b : Bool} (h : bN a = bN b) : a = b := by
  cases a <;> cases b
  · rfl
  · exact absurd h (by decide)
  · exact absurd h (by decide)
  · rfl
theorem mIns_inj {p q : Ins} {v : Nat → Int32} {a c : Nat} (hp : mIns p v a) (hq : mIns q v c) (b1 : p.1 ≤ 11) (b2 : q.1 ≤ 11) (b3 : p.2.1.2 ≤ 65536) (b4 : q.2.1.2 ≤ 65536) (b5 : p.2.2.2 ≤ 65536) (b6 : q.2.2.2 ≤ 65536) (h : ∀ l, 0 ≤ l → l < 5 → v (a + l) = v (c + l)) : p = q := by
  obtain ⟨p0, p1, p2, p3, p4⟩ := hp
  obtain ⟨q0, q1, q2, q3, q4⟩ := hq
  have z0 := h 0 (by decide) (by decide)
  have z1 := h 1 (by decide) (by decide)
  have z2 := h 2 (by decide) (by decide)
  have z3 := h 3 (by decide) (by decide)
  have z4 := h 4 (by decide) (by decide)
  rw [Nat.add_zero, Nat.add_zero, p0, q0] at z0
  rw [p1, q1] at z1
  rw [p2, q2] at z2
  rw [p3, q3] at z3
  rw [p4, q4] at z4
  have y0 := (iI_eq (by omega) (by omega) (by omega) (by omega)).mp z0
  have y1 := bN_inj z1
  have y2 := (iI_eq (by omega) (by omega) (by omega) (by omega)).mp z2
  have y3 := bN_inj z3
  have y4 := (iI_eq (by omega) (by omega) (by omega) (by omega)).mp z4
  refine Prod.ext (by omega) (Prod.ext (Prod.ext y1 (by omega)) (Prod.ext y3 (by omega)))
theorem m_like {v : Nat → Int32} {i j : Nat} (hi : i < 40) (hj : j < 40) {p q : Ins} (hp : mIns p v (5 + 5 * i)) (hq : mIns q v (5 + 5 * j)) (b1 : p.1 ≤ 11) (b2 : q.1 ≤ 11) (b3 : p.2.1.2 ≤ 65536) (b4 : q.2.1.2 ≤ 65536) (b5 : p.2.2.2 ≤ 65536) (b6 : q.2.2.2 ≤ 65536) {Q : Int32 → Prop} (hT : q = p → Q 1) (hF : ¬ q = p → Q 0) : wX9_areLike v (iI i) (iI j) Q := by
  refine ⟨_, m_al5 hi hj 5 0 true rfl (fun _ h => hT (mIns_inj hp hq b1 b2 b3 b4 b5 b6 h).symm) (fun h => hF (fun e => h ⟨rfl, fun l _ hl => ?_⟩))⟩
  subst e
  obtain ⟨p0, p1, p2, p3, p4⟩ := hp
  obtain ⟨q0, q1, q2, q3, q4⟩ := hq
  have h5 : l = 0 ∨ l = 1 ∨ l = 2 ∨ l = 3 ∨ l = 4 := by omega
  rcases h5 with rfl | rfl | rfl | rfl | rfl
  · exact p0.trans q0.symm
  · exact p1.trans q1.symm
  · exact p2.trans q2.symm
  · exact p3.trans q3.symm
  · exact p4.trans q4.symm
theorem mIb {W N i : Nat} (w4 : 4 ≤ W) (w16 : W ≤ 16) (n40 : N ≤ 40) {code : Nat → Ins} {J : Nat → Nat} (hJ : isJ N code J) (hi : i < N) (hw : wfI W i (code i)) : (mI J (code i)).1 ≤ 11 ∧ (mI J (code i)).2.1.2 ≤ 65536 ∧ (mI J (code i)).2.2.2 ≤ 65536 := ⟨hw.1, mO_le w16 w4 (by omega) hw.2.1 (fun x hx => J_le hJ x (by omega)), mO_le w16 w4 (by omega) hw.2.2.1 (fun x hx => J_le hJ x (by omega))⟩
theorem m_jn39 {W N i : Nat} (w4 : 4 ≤ W) (w16 : W ≤ 16) (n40 : N ≤ 40) {code : Nat → Ins} {J : Nat → Nat} (hJ : isJ N code J) (wfc : ∀ i, i < N → wfI W i (code i)) (hi : i < N) {v : Nat → Int32} (hv : ∀ j, j ≤ i → mIns (mI J (code j)) v (5 + 5 * j)) {K : Int32 → (Nat → Int32) → (Nat → Int32) → Prop} : ∀ (n cur : Nat) (into : Nat → Int32), n ≤ i → into (i + 1) = iI cur → (∀ x, x ≤ i → into x = iI (J x)) → (∀ into', into' (i + 1) = iI (gL (jP J code i) n cur) → (∀ x, x ≤ i → into' x = iI (J x)) → K (iI ((i + 1 : Nat) : Int)) v into') → wX9_joins_39 (iI i) K v (n + 1) (iI ((n : Int) - 1)) into := by
  have e1 : iI i + 1 = iI ((i + 1 : Nat) : Int) := by show iI i + iI 1 = _; rw [iI_add]; rfl
  intro n
  induction n with
  | zero =>
    intro cur into hn h1 h2 hK
    rw [wX9_joins_39]
    refine br_lt (((0 : Nat) : Int) - 1) 0 (fun _ x hx => ?_) (fun c => by omega)
    rw [hx, e1]; exact hK into h1 h2
  | succ n ih =>
    intro cur into hn h1 h2 hK
    rw [show ((n + 1 : Nat) : Int) - 1 = (n : Int) by omega, wX9_joins_39]
    have e2 : iI n + 1 = iI ((n + 1 : Nat) : Int) := by show iI n + iI 1 = _; rw [iI_add]; rfl
    have e3 : iI n + (-1) = iI ((n : Int) - 1) := by rw [im1, iI_add]; congr 1
    have hjl := J_le hJ (n + 1) (by omega)
    have step : ∀ (c : Nat) (y : Int32), y = iI c → c = (if jP J code i n = true then n + 1 else cur) → (vp_in (iI ((i + 1 : Nat) : Int)) 41 ∧ (∀ x : Int32, x = iI n + (-1) → wX9_joins_39 (iI i) K v (n + 1) x (upd into (i + 1) y))) := by
      intro c y hy hc
      refine ⟨inI _, fun x hx => ?_⟩
      rw [hx, e3]
      refine ih c _ (by omega) (by rw [pk_us]; exact hy) (fun x hx => by rw [pk_un (by omega)]; exact h2 x hx) (fun into' a b => hK into' ?_ b)
      rw [a, hc]; rfl
    unfold wX9_joins_79 wX9_joins_87
    rw [e1, e2, iI_clN (n := i + 1) (by omega), iI_clN (n := n + 1) (by omega), h2 (n + 1) (by omega), h1]
    refine br_lt n 0 (fun c => by omega) (fun _ => ⟨inI _, br_eq ((J (n + 1) : Nat) : Int) ((n + 1 : Nat) : Int) (fun c => ?_) (fun c => ⟨inI _, step cur _ rfl ?_⟩)⟩)
    · obtain ⟨b1, b2, b3⟩ := mIb w4 w16 n40 hJ hi (wfc i hi)
      obtain ⟨d1, d2, d3⟩ := mIb w4 w16 n40 hJ (show n < N by omega) (wfc n (by omega))
      refine m_like (by omega) (by omega) (hv i (Nat.le_refl _)) (hv n (by omega)) b1 d1 b2 d2 b3 d3 (fun e => ⟨fun q => absurd q (by decide), fun _ => step (n + 1) _ rfl ?_⟩) (fun e => ⟨fun _ => ⟨inI _, step cur _ rfl ?_⟩, fun q => absurd rfl q⟩)
      · rw [if_pos (by unfold jP; rw [decide_eq_true (show J (n + 1) = n + 1 by omega), decide_eq_true e]; rfl)]
      · rw [if_neg (by unfold jP; rw [decide_eq_false e, Bool.and_false]; decide)]
    · rw [if_neg (by unfold jP; rw [decide_eq_false (show ¬ J (n + 1) = n + 1 by omega), Bool.false_and]; decide)]
theorem m_jn9 {W N R : Nat} (w4 : 4 ≤ W) (w16 : W ≤ 16) (n40 : N ≤ 40) (rN : R ≤ N) {code : Nat → Ins} {J : Nat → Nat} (hJ : isJ N code J) (wfc : ∀ i, i < N → wfI W i (code i)) {v0' : Nat → Int32} (hz3 : v0' 3 = iI N) (hz4 : v0' 4 = iI R) {Q : (Nat → Int32) → (Nat → Int32) → Prop} (hQ : ∀ v' into', (∀ k, k < 4 → v' k = v0' k) → v' 4 = iI (J R) → (∀ j, j < N → mIns (mI J (code j)) v' (5 + 5 * j)) → (∀ x, x ≤ N → into' x = iI (J x)) → Q v' into') : ∀ m i (v into : Nat → Int32), i + m = N → (∀ k, k < 5 → v k = v0' k) → (∀ x, x ≤ i → into x = iI (J x)) → (∀ j, j < i → mIns (mI J (code j)) v (5 + 5 * j)) → (∀ j, i ≤ j → j < N → mIns (code j) v (5 + 5 * j)) → wX9_joins_9 Q (m + 1) (iI i) v into := by
  intro m
  induction m with
  | zero =>
    intro i v into hi h0 h1 h2 h3
    rw [wX9_joins_9, g3, g4, h0 3 (by decide), h0 4 (by decide), hz3, hz4]
    refine ⟨v3, br_le N i (fun _ => ⟨v4, inI R, v4, ?_⟩) (fun c => by omega)⟩
    obtain rfl : i = N := by omega
    rw [iI_clN (by omega), h1 R rN]
    refine hQ _ into (fun k hk => by rw [pk_un (by omega)]; exact h0 k (by omega)) pk_us (fun j hj => mIns_ext (h2 j hj) (fun l hl => by rw [pk_un (by omega)])) h1
  | succ m ih =>
    intro i v into hi h0 h1 h2 h3
    rw [wX9_joins_9, g3, g4, h0 3 (by decide), h0 4 (by decide), hz3, hz4]
    have hw := wfc i (by omega)
    have e1 : iI i + 1 = iI ((i + 1 : Nat) : Int) := by show iI i + iI 1 = _; rw [iI_add]; rfl
    have e2 : iI i - 1 = iI ((i : Int) - 1) := by show iI i - iI 1 = _; rw [iI_sub]
    rw [e1, e2, iI_clN (n := i + 1) (by omega)]
    refine ⟨v3, br_le N i (fun c => by omega) (fun _ => m_rep (by omega) (h3 i (Nat.le_refl _) (by omega)) (t := J) (fun c => ?_) (fun c => ?_) (fun v' k1 k2 => ⟨inI _, fun x hx => ?_⟩))⟩
    · have := hw.2.1.2 c; exact ⟨by omega, h1 _ this⟩
    · have := hw.2.2.1.2 c; exact ⟨by omega, h1 _ this⟩
    subst hx
    have hv' : ∀ j, j ≤ i → mIns (mI J (code j)) v' (5 + 5 * j) := by
      intro j hj
      by_cases c : j = i
      · subst c; exact k1
      · exact mIns_ext (h2 j (by omega)) (fun l hl => k2 _ (by omega))
    refine ⟨_, m_jn39 w4 w16 n40 hJ wfc (by omega) hv' i (i + 1) _ (Nat.le_refl _) pk_us (fun x hx => by rw [pk_un (by omega)]; exact h1 x hx) (fun into' a b => ?_)⟩
    refine ih (i + 1) v' into' (by omega) (fun k hk => by rw [k2 k (by omega)]; exact h0 k hk) (fun x hx => ?_) (fun j hj => hv' j (by omega)) (fun j hj hjN => mIns_ext (h3 j (by omega) hjN) (fun l hl => k2 _ (by omega)))
    by_cases c : x = i + 1
    · rw [c, a, hJ.2 i (by omega)]
    · exact b x (by omega)
theorem m_nd2 {N r : Nat} (n40 : N ≤ 40) (hr : r ≤ 40) {v : Nat → Int32} (hv3 : v 3 = iI N) (hv4 : v 4 = iI r) {Q : (Nat → Int32) → Prop} (hQ : ∀ nd, (∀ y, y ≤ 40 → nd y = bN (decide (y = r))) → ∃ k9, wX9_needs_44 v Q k9 (iI ((N : Int) - 1)) nd) : ∀ (m k : Nat) (nd : Nat → Int32), k + m = 41 → (∀ y, y < k → nd y = bN (decide (y = r))) → wX9_needs_2 v Q (m + 1) (iI k) nd := by
  intro m
  induction m with
  | zero =>
    intro k nd hk h
    rw [wX9_needs_2, g3, g4, hv3, hv4]
    refine br_lt 40 k (fun _ => ⟨v3, fun x hx => ?_⟩) (fun c => by omega)
    have e : x = iI ((N : Int) - 1) := by rw [hx]; show iI _ - iI 1 = _; rw [iI_sub]
    rw [e]; exact hQ nd (fun y hy => h y (by omega))
  | succ m ih =>
    intro k nd hk h
    have e1 : iI k + 1 = iI ((k + 1 : Nat) : Int) := by show iI k + iI 1 = _; rw [iI_add]; rfl
    rw [wX9_needs_2, g3, g4, hv3, hv4]
    have step : ∀ y : Int32, vp_nar .boolean y = bN (decide (k = r)) → wX9_needs_28 (iI k) nd (wX9_needs_2 v Q (m + 1)) y := by
      intro y hy
      refine ⟨inI k, fun x hx => ?_⟩
      rw [hx, e1, iI_clN (by omega), hy]
      refine ih (k + 1) _ (by omega) (fun z hz => ?_)
      by_cases c : z = k
      · rw [c, pk_us]
      · rw [pk_un c]; exact h z (by omega)
    refine br_lt 40 k (fun c => by omega) (fun _ => ⟨v4, br_eq k r (fun c => step 1 ?_) (fun c => step 0 ?_)⟩)
    · rw [decide_eq_true (show k = r by omega)]; rfl
    · rw [decide_eq_false (show ¬ k = r by omega)]; rfl
theorem isO_ne {t : Nat → Nat} {q : Opd} {x : Nat} (c : q.1 = false) (d : ¬ x = t q.2) : isO (mO t q) x = false := by
  unfold isO
  rw [mO_f c]
  show (decide (false = false) && decide (t q.2 = x)) = false
  rw [decide_eq_false (show ¬ t q.2 = x from fun e => d e.symm), Bool.and_false]
theorem m_nd44 {W N R : Nat} (n40 : N ≤ 40) {code : Nat → Ins} {J : Nat → Nat} (hJ : isJ N code J) (wfc : ∀ i, i < N → wfI W i (code i)) {v : Nat → Int32} (hv : ∀ j, j < N → mIns (mI J (code j)) v (5 + 5 * j)) {Q : (Nat → Int32) → Prop} (hQ : ∀ nd, (∀ x, x ≤ N → nd x = bN (nds N R J code N x)) → Q nd) : ∀ (i : Nat) (nd : Nat → Int32), i ≤ N → (∀ x, x ≤ N → nd x = bN (nds N R J code (N - i) x)) → wX9_needs_44 v Q (i + 1) (iI ((i : Int) - 1)) nd := by
  intro i
  induction i with
  | zero =>
    intro nd hi h
    rw [wX9_needs_44]
    exact br_lt (((0 : Nat) : Int) - 1) 0 (fun _ => hQ nd h) (fun c => by omega)
  | succ i ih =>
    intro nd hi h
    have em : N - i = N - (i + 1) + 1 := by omega
    have ei : N - 1 - (N - (i + 1)) = i := by omega
    have e1 : iI i + 1 = iI ((i + 1 : Nat) : Int) := by show iI i + iI 1 = _; rw [iI_add]; rfl
    have e2 : iI i + (-1) = iI ((i : Int) - 1) := by rw [im1, iI_add]; congr 1
    rw [show ((i + 1 : Nat) : Int) - 1 = (i : Int) by omega, wX9_needs_44]
    refine br_lt i 0 (fun c => by omega) (fun _ x2 hx2 => ⟨3, ?_⟩)
    rw [at5] at hx2
    subst hx2
    obtain ⟨k0, k1, k2, k3, k4⟩ := hv i (by omega)
    have hw := wfc i (by omega)
    rw [wX9_needs_56, e1, iI_clN (n := i + 1) (by omega), h (i + 1) hi]
    refine ⟨fun c => absurd c (by decide), fun _ => ⟨inI _, ?_⟩⟩
    cases hn : nds N R J code (N - (i + 1)) (i + 1) with
    | false =>
      refine ⟨fun _ x hx => ?_, fun c => absurd rfl c⟩
      rw [hx, e2]
      refine ih nd (by omega) (fun x hx => ?_)
      rw [h x hx, em, show nds N R J code (N - (i + 1) + 1) x = nds N R J code (N - (i + 1)) x by rw [nds, ei, if_neg (by rw [hn]; decide)]]
    | true =>
      refine ⟨fun c => absurd c (by decide), fun _ => ?_⟩
      rw [ad (5 + 5 * i) 1 (y := 1) rfl, ad (5 + 5 * i + 1) 1 (y := 1) rfl, iI_clN (n := 5 + 5 * i + 1) (by omega), iI_clN (n := 5 + 5 * i + 1 + 1) (by omega), k1, show v (5 + 5 * i + 1 + 1) = _ from k2]
      have w1 : (mI J (code i)).2.1.1 = (code i).2.1.1 := mO_1 _ _
      have w2 : (mI J (code i)).2.2.1 = (code i).2.2.1 := mO_1 _ _
      have lst : ∀ nd2, (∀ x, x ≤ N → nd2 x = bN (nds N R J code (N - i) x)) → ∀ x : Int32, x = iI i + (-1) → wX9_needs_44 v Q (i + 1) x nd2 := by
        intro nd2 h2 x hx
        rw [hx, e2]; exact ih nd2 (by omega) h2
      have sec : ∀ nd1, (∀ x, x ≤ N → nd1 x = bN (nds N R J code (N - (i + 1)) x || isO (mO J (code i).2.1) x)) → ∀ y : Int32, y = 1 + 2 → wX9_needs_56 v (iI i) (wX9_needs_44 v Q (i + 1)) (iI ((5 + 5 * i : Nat) : Int)) 2 y nd1 := by
        intro nd1 h1 y hy
        have ey : y = iI ((3 : Nat) : Int) := by rw [hy]; decide
        rw [ey, wX9_needs_56, e1, iI_clN (n := i + 1) (by omega), h1 (i + 1) hi, hn, Bool.true_or]
        refine ⟨fun c => absurd c (by decide), fun _ => ⟨inI _, ⟨fun c => absurd c (by decide), fun _ => ?_⟩⟩⟩
        rw [ad (5 + 5 * i) 3 rfl, ad (5 + 5 * i + 3) 1 (y := 1) rfl, iI_clN (n := 5 + 5 * i + 3) (by omega), iI_clN (n := 5 + 5 * i + 3 + 1) (by omega), k3, show v (5 + 5 * i + 3 + 1) = _ from k4]
        have thr : ∀ nd2, (∀ x, x ≤ N → nd2 x = bN (nds N R J code (N - i) x)) → wX9_needs_99 (iI ((3 : Nat) : Int)) (wX9_needs_56 v (iI i) (wX9_needs_44 v Q (i + 1)) (iI ((5 + 5 * i : Nat) : Int)) 1) nd2 := by
          intro nd2 h2 z hz
          have ez : z = iI ((5 : Nat) : Int) := by rw [hz]; decide
          rw [ez, wX9_needs_56]
          exact ⟨fun _ => lst nd2 h2, fun c => absurd (show iI 5 ≤ iI ((5 : Nat) : Int) by decide) c⟩
        refine ⟨inI _, ?_⟩
        have ndx : ∀ x, nds N R J code (N - i) x = (nds N R J code (N - (i + 1)) x || isO (mO J (code i).2.1) x || isO (mO J (code i).2.2) x) := by
          intro x; rw [em, nds, ei, if_pos hn]
        cases c : (code i).2.2.1 with
        | true =>
          rw [w2, c]
          refine ⟨fun d => absurd d (by decide), fun _ => thr nd1 (fun x hx => ?_)⟩
          rw [h1 x hx, ndx, show isO (mO J (code i).2.2) x = false by unfold isO; rw [mO_1, c]; rfl, Bool.or_false]
        | false =>
          rw [w2, c]
          have hx2 := hw.2.2.1.2 c
          have hJ2 := J_le hJ _ (show (code i).2.2.2 ≤ N by omega)
          have em2 : (mI J (code i)).2.2.2 = J (code i).2.2.2 := by show (mO J (code i).2.2).2 = _; rw [mO_f c]
          rw [em2, iI_clN (n := J (code i).2.2.2) (by omega), nar1]
          refine ⟨fun _ => ⟨inI _, inI _, thr _ (fun x hx => ?_)⟩, fun d => absurd rfl d⟩
          rw [ndx]
          by_cases d : x = J (code i).2.2.2
          · rw [d, pk_us, show isO (mO J (code i).2.2) (J (code i).2.2.2) = true by unfold isO; rw [mO_f c, decide_eq_true rfl, decide_eq_true rfl]; rfl, Bool.or_true]; rfl
          · rw [pk_un d, h1 x hx, isO_ne c d, Bool.or_false]
      refine ⟨inI _, ?_⟩
      cases c : (code i).2.1.1 with
      | true =>
        rw [w1, c]
        refine ⟨fun d => absurd d (by decide), fun _ => sec nd (fun x hx => ?_)⟩
        rw [h x hx, show isO (mO J (code i).2.1) x = false by unfold isO; rw [mO_1, c]; rfl, Bool.or_false]
      | false =>
        rw [w1, c]
        have hx2 := hw.2.1.2 c
        have hJ2 := J_le hJ _ (show (code i).2.1.2 ≤ N by omega)
        have em2 : (mI J (code i)).2.1.2 = J (code i).2.1.2 := by show (mO J (code i).2.1).2 = _; rw [mO_f c]
        rw [em2, iI_clN (n := J (code i).2.1.2) (by omega), nar1]
        refine ⟨fun _ => ⟨inI _, inI _, sec _ (fun x hx => ?_)⟩, fun d => absurd rfl d⟩
        by_cases d : x = J (code i).2.1.2
        · rw [d, pk_us, show isO (mO J (code i).2.1) (J (code i).2.1.2) = true by unfold isO; rw [mO_f c, decide_eq_true rfl, decide_eq_true rfl]; rfl, Bool.or_true]; rfl
        · rw [pk_un d, h x hx, isO_ne c d, Bool.or_false]
theorem m_cp {e i : Nat} (he : e ≤ i) (hi : i < 40) {into : Nat → Int32} {v0' : Nat → Int32} {K : Int32 → Int32 → (Nat → Int32) → (Nat → Int32) → Prop} (hQ : ∀ v', (∀ l, l < 5 → v' (5 + 5 * e + l) = v0' (5 + 5 * i + l)) → (∀ j, j < 5 + 5 * e ∨ 5 + 5 * e + 5 ≤ j → v' j = v0' j) → K (iI ((e + 1 : Nat) : Int)) (iI ((i + 1 : Nat) : Int)) v' (upd into (i + 1) (iI ((e + 1 : Nat) : Int)))) : ∀ m k (v : Nat → Int32), k + m = 5 → (∀ l, l < k → v (5 + 5 * e + l) = v0' (5 + 5 * i + l)) → (∀ l, k ≤ l → l < 5 → v (5 + 5 * i + l) = v0' (5 + 5 * i + l)) → (∀ j, j < 5 + 5 * e ∨ 5 + 5 * e + 5 ≤ j → v j = v0' j) → wX9_tidy_59 (iI e) (iI i) into K (m + 1) (iI k) v := by
  have e1 : iI i + 1 = iI ((i + 1 : Nat) : Int) := by show iI i + iI 1 = _; rw [iI_add]; rfl
  intro m
  induction m with
  | zero =>
    intro k v hk h1 h2 h3
    rw [wX9_tidy_59, e1, iI_clN (n := i + 1) (by omega)]
    refine br_le 5 k (fun _ x hx => ⟨inI _, fun y hy => ?_⟩) (fun c => by omega)
    have ex : x = iI ((e + 1 : Nat) : Int) := by rw [hx]; show iI e + iI 1 = _; rw [iI_add]; rfl
    rw [hy, e1, ex]
    exact hQ v (fun l hl => h1 l (by omega)) h3
  | succ m ih =>
    intro k v hk h1 h2 h3
    rw [wX9_tidy_59, at5, at5, ad (5 + 5 * i) k rfl, ad (5 + 5 * e) k rfl, iI_clN (n := 5 + 5 * i + k) (by omega), iI_clN (n := 5 + 5 * e + k) (by omega)]
    refine br_le 5 k (fun c => by omega) (fun _ => ⟨inI _, inI _, fun x hx => ?_⟩)
    have ex : x = iI ((k + 1 : Nat) : Int) := by rw [hx]; show iI k + iI 1 = _; rw [iI_add]; rfl
    rw [ex]
    refine ih (k + 1) _ (by omega) (fun l hl => ?_) (fun l hl h5 => ?_) (fun j hj => ?_)
    · by_cases c : l = k
      · rw [c, pk_us]; exact h2 k (Nat.le_refl _) (by omega)
      · rw [pk_un (by omega)]; exact h1 l (by omega)
    · rw [pk_un (by omega)]; exact h2 l (by omega) h5
    · rw [pk_un (by omega)]; exact h3 j hj
theorem m_td35 {W N R : Nat} (w4 : 4 ≤ W) (w16 : W ≤ 16) (n40 : N ≤ 40) (rN : R ≤ N) {code : Nat → Ins} {J : Nat → Nat} (hJ : isJ N code J) (wfc : ∀ i, i < N → wfI W i (code i)) {ndA : Nat → Int32} (hA : ∀ x, x ≤ N → ndA x = bN (nds N R J code N x)) {v0' : Nat → Int32} (hz4 : v0' 4 = iI (J R)) {ed : Int32} {past : Nat → Int32} {Q : Int32 → Int32 → Int32 → (Nat → Int32) → (Nat → Int32) → (Nat → Int32) → (Nat → Int32) → Prop} (hQ : ∀ v into, v 0 = v0' 0 → v 1 = v0' 1 → v 2 = v0' 2 → v 3 = iI (En (nds N R J code N) N) → v 4 = iI (En (nds N R J code N) (J R)) → mCode (En (nds N R J code N) N) (cdT (nds N R J code N) J code N) v → Q (iI N - iI (En (nds N R J code N) N)) ed 0 v past into ndA) : ∀ m i (v into : Nat → Int32), i + m = N → (∀ k, k < 5 → v k = v0' k) → (∀ x, x ≤ i → nds N R J code N x = true → into x = iI (En (nds N R J code N) x)) → mCode (En (nds N R J code N) i) (cdT (nds N R J code N) J code i) v → (∀ j, i ≤ j → j < N → mIns (mI J (code j)) v (5 + 5 * j)) → wX9_tidy_35 Q ed past ndA (iI N) (m + 1) (iI (En (nds N R J code N) i)) (iI i) v into := by
  have hrt : ∀ x, nds N R J code N x = true → J x = x ∧ x ≤ N := fun x h => nds_rt hJ wfc rN N x (Nat.le_refl _) h
  have hER := fun n => Nat.le_trans (En_rho (nd := nds N R J code N) (J := J) (fun x h => (hrt x h).1) n) (rho_id n)
  have hRN : nds N R J code N (J R) = true := by
    have := nds_le (N := N) (R := R) (J := J) (code := code) (m := 0) (x := J R) (decide_eq_true rfl) N
    rw [Nat.zero_add] at this; exact this
  have hJR := Nat.le_trans (J_le hJ R rN) rN
  intro m
  induction m with
  | zero =>
    intro i v into hi h0 h1 h2 h3
    obtain rfl : i = N := by omega
    rw [wX9_tidy_35, g3, g4]
    have u4 : ∀ y, (upd v 3 y) 4 = iI (J R) := fun y => by rw [pk_un (by decide), h0 4 (by decide), hz4]
    rw [u4, iI_clN (n := J R) (by omega), h1 (J R) hJR hRN]
    refine br_le i i (fun _ => ⟨v3, v4, inI _, v4, hQ _ into ?_ ?_ ?_ ?_ pk_us ?_⟩) (fun c => by omega)
    · rw [pk_un (by decide), pk_un (by decide)]; exact h0 0 (by decide)
    · rw [pk_un (by decide), pk_un (by decide)]; exact h0 1 (by decide)
    · rw [pk_un (by decide), pk_un (by decide)]; exact h0 2 (by decide)
    · rw [pk_un (by decide), pk_us]
    · exact mCode_ext h2 (fun j hj => by rw [pk_un (by omega), pk_un (by omega)])
  | succ m ih =>
    intro i v into hi h0 h1 h2 h3
    have hE := hER i
    have e1 : iI i + 1 = iI ((i + 1 : Nat) : Int) := by show iI i + iI 1 = _; rw [iI_add]; rfl
    rw [wX9_tidy_35, e1, iI_clN (n := i + 1) (by omega), hA (i + 1) (by omega)]
    refine br_le N i (fun c => by omega) (fun _ => ⟨inI _, ?_⟩)
    have hw := wfc i (by omega)
    cases hn : nds N R J code N (i + 1) with
    | false =>
      have eE : En (nds N R J code N) (i + 1) = En (nds N R J code N) i := En_n (by rw [hn]; decide)
      have eC : cdT (nds N R J code N) J code (i + 1) = cdT (nds N R J code N) J code i := by rw [cdT, if_neg (by rw [hn]; decide)]
      refine ⟨fun _ x hx => ?_, fun c => absurd rfl c⟩
      rw [hx, e1, ← eE]
      refine ih (i + 1) v into (by omega) h0 (fun x hx hxn => ?_) (by rw [eE, eC]; exact h2) (fun j hj hjN => h3 j (by omega) hjN)
      have : x ≠ i + 1 := fun d => by rw [d, hn] at hxn; exact absurd hxn (by decide)
      exact h1 x (by omega) hxn
    | true =>
      have eE : En (nds N R J code N) (i + 1) = En (nds N R J code N) i + 1 := En_s hn
      have eC : cdT (nds N R J code N) J code (i + 1) = snoc (En (nds N R J code N) i) (cdT (nds N R J code N) J code i) (mI (En (nds N R J code N)) (mI J (code i))) := by rw [cdT, if_pos hn]
      obtain ⟨cl1, cl2⟩ := nds_cl (R := R) hJ wfc (show i < N by omega) hn
      have opr : ∀ q : Opd, wfO W i q → (q.1 = false → nds N R J code N (J q.2) = true) → (mO J q).1 = false → (mO J q).2 ≤ 40 ∧ into (mO J q).2 = iI (En (nds N R J code N) (mO J q).2) := by
        intro q hq hc c
        rw [mO_1] at c
        have h4 := hq.2 c
        have h5 := J_le hJ q.2 (by omega)
        rw [mO_f c]
        exact ⟨show J q.2 ≤ 40 by omega, h1 (J q.2) (by omega) (hc c)⟩
      refine ⟨fun c => absurd c (by decide), fun _ => m_rep (by omega) (h3 i (Nat.le_refl _) (by omega)) (t := En (nds N R J code N)) (opr _ hw.2.1 cl1) (opr _ hw.2.2.1 cl2) (fun v' k1 k2 => ⟨_, m_cp hE (by omega) (v0' := v') (fun v2 c1 c2 => ?_) 5 0 v' rfl (fun l hl => absurd hl (Nat.not_lt_zero _)) (fun l _ _ => rfl) (fun j _ => rfl)⟩)⟩
      rw [← eE]
      refine ih (i + 1) v2 _ (by omega) (fun k hk => by rw [c2 k (by omega), k2 k (by omega)]; exact h0 k hk) (fun x hx hxn => ?_) (fun k hk => ?_) (fun j hj hjN => ?_)
      · by_cases c : x = i + 1
        · rw [c, pk_us]
        · rw [pk_un c]; exact h1 x (by omega) hxn
      · rw [eE] at hk
        rw [eC]
        by_cases c : k = En (nds N R J code N) i
        · subst c
          simp only [snoc, if_true]
          exact mIns_ext k1 c1
        · simp only [snoc, if_neg c]
          exact mIns_ext (h2 k (by omega)) (fun l hl => by rw [c2 _ (by omega), k2 _ (by omega)])
      · exact mIns_ext (h3 j (by omega) hjN) (fun l hl => by rw [c2 _ (by omega), k2 _ (by omega)])

set_option maxHeartbeats 1000000 in
theorem s_13 {L : Nat} {xs : Nat → Int32} (hL : L ≤ 3072) {aP : Nat → Nat} {i : Int32} (hi0 : 0 ≤ i.toInt) (hi6 : i.toInt + 6 ≤ L) {t_generator_input : Int32} {t_program_width : Int32} {t_program_length : Int32} {t_program_result : Int32} {t_program_taskKind : Int32} {t_program_taskDivisor : Int32} {f_t_program_operations : Nat → Int32} {f_t_program_firsts : Nat → Int32} {f_t_program_seconds : Nat → Int32} {f_t_costs : Nat → Int32} {t_history_next : Int32} {t_history_kept : Int32} {f_t_machine_values : Nat → Int32} {f_t_machine_depths : Nat → Int32} {f_t_tidier_newNumbers : Nat → Int32} {f_t_tidier_needed : Nat → Int32} {t_listing_left : Int32} {t_listing_seen : Int32} {sW : Nat → Int32} {sL : Nat → Int32} {sR : Nat → Int32} {sK : Nat → Int32} {sD : Nat → Int32} {sO : Nat → Nat → Int32} {sF : Nat → Nat → Int32} {sS : Nat → Nat → Int32} {k_edits : Int32} {k_thrown : Int32} {k_outs : Int32} {f_k_v : Nat → Int32} {f_k_past : Nat → Int32} {f_k_costs : Nat → Int32} {f_k_into : Nat → Int32} {f_k_isNeeded : Nat → Int32} {f_k_depths : Nat → Int32} {f_k_names : Nat → Int32} {f_k_out : Nat → Int32} {f_k_has : Nat → Int64} {f_out : Nat → Int64} (hR : Rel t_generator_input t_program_width t_program_length t_program_result t_program_taskKind t_program_taskDivisor f_t_program_operations f_t_program_firsts f_t_program_seconds f_t_costs t_history_next t_history_kept f_t_machine_values f_t_machine_depths f_t_tidier_newNumbers f_t_tidier_needed t_listing_left t_listing_seen sW sL sR sK sD sO sF sS k_edits k_thrown k_outs f_k_v f_k_past f_k_costs f_k_into f_k_isNeeded f_k_depths f_k_names f_k_out f_k_has f_out) : wc_13 L xs aP i t_generator_input t_program_width t_program_length t_program_result t_program_taskKind t_program_taskDivisor f_t_program_operations f_t_program_firsts f_t_program_seconds f_t_costs t_history_next t_history_kept f_t_machine_values f_t_machine_depths f_t_tidier_newNumbers f_t_tidier_needed t_listing_left t_listing_seen sW sL sR sK sD sO sF sS k_edits k_thrown k_outs f_k_v f_k_past f_k_costs f_k_into f_k_isNeeded f_k_depths f_k_names f_k_out f_k_has f_out Rel := by
  have hR' := hR
  obtain ⟨gi, hcst, hnm, hd0, ⟨W, N, R, kd, dv, code⟩, nx, E, hs, hw, hc, hm, hx, hE8, hws, hch, hmh⟩ := hR
  have w4 : 4 ≤ W := hw.1
  have w16 : W ≤ 16 := hw.2.1
  have n40 : N ≤ 40 := hw.2.2.1
  have rN : R ≤ N := hw.2.2.2.1
  have tk : kd = -1 ∨ tsk W kd dv := hw.2.2.2.2.1
  have wfc : ∀ i, i < N → wfI W i (code i) := hw.2.2.2.2.2
  obtain ⟨p16, pm, ph⟩ := pw w4 w16
  have e1 : t_program_width = iI W := hc.1
  have e2 : t_program_length = iI N := hc.2.1
  have e3 : t_program_result = iI R := hc.2.2.1
  have e4 : t_program_taskKind = iI kd := hc.2.2.2.1
  have hd : kd ≠ -1 → t_program_taskDivisor = iI dv := hc.2.2.2.2.1
  have hcc : cCode N code f_t_program_operations f_t_program_firsts f_t_program_seconds := hc.2.2.2.2.2
  have hv0 : f_k_v 0 = iI W := hm.1
  have hv3 : f_k_v 3 = iI N := hm.2.1
  have hv4 : f_k_v 4 = iI R := hm.2.2.1
  have hv1 : f_k_v 1 = iI kd := hm.2.2.2.1
  have hv2 : kd ≠ -1 → f_k_v 2 = iI dv := hm.2.2.2.2.1
  have hmc : mCode N code f_k_v := hm.2.2.2.2.2
  have hpw := hPush_w hE8 hws hw
  subst e1 e2 e3 e4
  unfold wc_13
  obtain ⟨J, hJ⟩ := ex_J wfc
  have hJR := J_le hJ R rN
  have hid := @rho_id J N
  have hrr := rJ_le hJ rN
  have hER : En (nds N R J code N) N ≤ N := Nat.le_trans (En_rho (nd := nds N R J code N) (J := J) (fun x h => (nds_rt hJ wfc rN N x (Nat.le_refl _) h).1) N) hid
  unfold wX8_tidy wX9_tidy
  refine c_rem hw hc hx hE8 hch (fun next' kept' sW' sL' sR' sK' sD' sO' sF' sS' hch' => ?_)
  unfold wX8_tidy_19 wX7_removeUnneeded wX7_markNeeded
  refine ⟨_, c_mg w4 w16 n40 rN hJ wfc (fun nw o f s h0 hk => ?_) N 0 _ _ _ _ (by omega) (fun x hx => ?_) (fun j hj => absurd hj (Nat.not_lt_zero _)) (fun j _ hj => hcc j hj)⟩
  · refine ⟨_, c_mk2 (K := rho J N) (r := rJ J R) (by omega) (by omega) (fun nd hnd => ⟨_, c_mk42 (R := R) w4 w16 n40 rN hJ wfc hk (fun nd hnd => ⟨_, c_rm9 w4 w16 n40 rN hJ wfc hnd (fun nw o f s h0 hcc' => ?_) N 0 _ _ _ _ (by omega) h0 (fun x hx hxn => ?_) (fun i hi => absurd hi (Nat.not_lt_zero _)) (fun j _ hj hjr => hk j hj hjr)⟩) N nd (Nat.le_refl _) (fun x hx hxr => ?_)⟩) (rho J N + 1) 0 _ (by omega) (fun y hy => absurd hy (Nat.not_lt_zero _))⟩
    · rw [hnd _ (rho_le hx), Nat.sub_self]
      show _ = bN (decide (x = J R))
      by_cases c : x = J R
      · rw [decide_eq_true c, decide_eq_true (show rho J x = rJ J R by rw [c])]
      · rw [decide_eq_false c, decide_eq_false (fun e => c (rho_inj hxr (J_J hJ R rN) e))]
    · refine m_edits n40 hm hE8 hws hmh (fun edits' past' hmh' => ?_)
      refine ⟨u0, _, m_jn9 w4 w16 n40 rN hJ wfc hv3 hv4 (fun v1' into1 a1 a2 a3 a4 => ?_) N 0 _ _ (by omega) (fun k _ => rfl) (fun x hx => ?_) (fun j hj => absurd hj (Nat.not_lt_zero _)) (fun j _ hj => hmc j hj)⟩
      · refine ⟨_, m_nd2 (N := N) (r := J R) n40 (by omega) (by rw [a1 3 (by decide)]; exact hv3) a2 (fun nd hnd => ⟨_, m_nd44 (R := R) n40 hJ wfc a3 (fun nd hnd => ?_) N nd (Nat.le_refl _) (fun x hx => ?_)⟩) 41 0 _ rfl (fun y hy => absurd hy (Nat.not_lt_zero _))⟩
        · refine ⟨v3, fun x1 hx1 => ⟨u0, ?_⟩⟩
          rw [g3, a1 3 (by decide), hv3] at hx1
          subst hx1
          refine ⟨_, m_td35 w4 w16 n40 rN hJ wfc hnd a2 (fun v2' into2 b0 b1 b2 b3 b4 b5 => ?_) N 0 _ _ (by omega) (fun k _ => rfl) (fun x hx hxn => ?_) (fun i hi => absurd hi (Nat.not_lt_zero _)) (fun j _ hj => a3 j hj)⟩
          · refine end_eq rfl ⟨gi, hcst, hnm, ⟨hd0.1, h0⟩, (W, En (nds N R J code N) N, En (nds N R J code N) (J R), kd, dv, cdT (nds N R J code N) J code N), _, _, _, ⟨w4, w16, show En (nds N R J code N) N ≤ 40 by omega, En_mono (by omega), tk, wf_cdT hJ wfc N (Nat.le_refl _)⟩, ⟨rfl, rfl, rfl, rfl, hd, hcc'⟩, ⟨?_, b3, b4, ?_, fun q => ?_, b5⟩, Nat.mod_lt _ (by decide), hE_le hE8, hpw, hch', hmh'⟩
            · rw [b0, a1 0 (by decide)]; exact hv0
            · rw [b1, a1 1 (by decide)]; exact hv1
            · rw [b2, a1 2 (by decide)]; exact hv2 q
          · rw [show x = 0 by omega]; rfl
        · rw [hnd x (by omega), Nat.sub_self]; rfl
      · rw [show x = 0 by omega, hJ.1]; rfl
    · rw [show x = 0 by omega]; exact h0
  · rw [show x = 0 by omega]
    rw [hd0.2, show rJ J 0 = 0 by show rho J (J 0) = 0; rw [hJ.1]; rfl]; rfl
