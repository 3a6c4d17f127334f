/-! the product -/
def dgM (c : Int) : Nat → Nat → Nat
  | _, 0 => 0
  | p, m + 1 => (if dg c p = 0 then 0 else 1) + dgM c (p + 1) m
theorem dgM_le (c : Int) : ∀ m p, dgM c p m ≤ m
  | 0, p => Nat.le_refl _
  | m + 1, p => by have := dgM_le c m (p + 1); unfold dgM; split <;> omega
theorem dgN_M (c : Int) : ∀ m p, dgN c (p + m) = dgN c p + dgM c p m
  | 0, p => rfl
  | m + 1, p => by
    have ih := dgN_M c m (p + 1)
    rw [show p + (m + 1) = p + 1 + m by omega, ih, show dgN c (p + 1) = dgN c p + (if dg c p = 0 then 0 else 1) from rfl, show dgM c p (m + 1) = (if dg c p = 0 then 0 else 1) + dgM c (p + 1) m from rfl]
    omega
theorem dgNat (c p : Nat) : dg c p = ((3 * c / 2 ^ (p + 1) % 2 : Nat) : Int) - ((c / 2 ^ (p + 1) % 2 : Nat) : Int) := by
  unfold dg
  rw [bitZ, show (3 : Int) * (c : Int) = ((3 * c : Nat) : Int) from rfl, bitZ]
theorem dg_lo {c : Nat} (h1 : 0 < c) (h2 : c < 65536) {p : Nat} (hp : p < tz c) : dg c p = 0 := by
  obtain ⟨a, b, e, he⟩ := tz_ex h1 h2
  rw [dgNat]
  obtain ⟨j, hj⟩ : ∃ j, tz c = p + 1 + j := ⟨tz c - (p + 1), by omega⟩
  rw [hj] at he
  have e1 : c / 2 ^ (p + 1) = 2 ^ j * (2 * e + 1) := by
    rw [he, Nat.pow_add, Nat.mul_assoc, Nat.mul_div_cancel_left _ (Nat.two_pow_pos _)]
  have e2 : 3 * c / 2 ^ (p + 1) = 3 * (2 ^ j * (2 * e + 1)) := by
    rw [he, Nat.pow_add, Nat.mul_assoc, Nat.mul_left_comm, Nat.mul_div_cancel_left _ (Nat.two_pow_pos _)]
  rw [e1, e2]
  omega
theorem dg_tz {c : Nat} (h1 : 0 < c) (h2 : c < 65536) : dg c (tz c) ≠ 0 := by
  obtain ⟨a, b, e, he⟩ := tz_ex h1 h2
  rw [dgNat]
  have e1 : c / 2 ^ (tz c + 1) = e := by
    rw [Nat.pow_succ, ← Nat.div_div_eq_div_mul]
    have := @tz_e (tz c) e
    rw [← he] at this
    rw [this]; omega
  have e2 : 3 * c / 2 ^ (tz c + 1) = 3 * e + 1 := by
    rw [Nat.pow_succ, ← Nat.div_div_eq_div_mul]
    have : 3 * c / 2 ^ tz c = 3 * (2 * e + 1) := by
      have h3 : 3 * c = 2 ^ tz c * (3 * (2 * e + 1)) := by rw [Nat.mul_left_comm, ← he]
      rw [h3, Nat.mul_div_cancel_left _ (Nat.two_pow_pos _)]
    rw [this]; omega
  rw [e1, e2]
  omega
def ln (c W : Nat) : Nat := (if tz c = 0 then 0 else 1) + (if dg c (tz c) < 0 then 1 else 0) + 2 * dgM c (tz c + 1) (W - tz c - 1)
theorem dgN_lo {c : Nat} (h1 : 0 < c) (h2 : c < 65536) : ∀ p, p ≤ tz c → dgN c p = 0
  | 0, _ => rfl
  | p + 1, hp => by
    rw [show dgN c (p + 1) = dgN c p + (if dg c p = 0 then 0 else 1) from rfl, dgN_lo h1 h2 p (by omega), if_pos (dg_lo h1 h2 (by omega))]
theorem dgN_W {c W : Nat} (h1 : 0 < c) (h2 : c < 65536) (hW : tz c < W) : dgN c W = 1 + dgM c (tz c + 1) (W - tz c - 1) := by
  have := dgN_M (c : Int) (W - tz c - 1) (tz c + 1)
  rw [show tz c + 1 + (W - tz c - 1) = W by omega, show dgN c (tz c + 1) = dgN c (tz c) + (if dg c (tz c) = 0 then 0 else 1) from rfl, dgN_lo h1 h2 _ (Nat.le_refl _), if_neg (dg_tz h1 h2)] at this
  omega
theorem c_cod {W : Nat} (w16 : W ≤ 16) {c : Nat} (h1 : 0 < c) (h2 : c < 65536) (hW : tz c < W) {f : Nat → Int32} {x : Nat} (hx : f 2 = iI x) {Q : Int32 → Prop} (hQ : Q (iI ((ln c W * x : Nat) : Int))) : wX0_costOfDigits (iI W) f (iI c) Q := by
  unfold wX0_costOfDigits
  have hn := dgN_W h1 h2 hW
  have hb := dg_b c (tz c)
  have hnz := dg_tz h1 h2
  have hle := dgN_le c W
  have fin : ∀ a b : Int, a + b + (dgN c W : Nat) - 1 = (ln c W : Nat) → wX0_costOfDigits_43 f Q (iI (dgN c W)) (iI a) (iI b) := by
    intro a b h
    unfold wX0_costOfDigits_43
    refine ⟨q2, ?_⟩
    rw [g2, hx]
    show Q ((iI a + iI b + iI _ - iI 1) * iI _)
    rw [iI_add, iI_add, iI_sub, h, iI_mul]
    exact hQ
  have mid : ∀ a : Int, a + (if dg c (tz c) < 0 then 1 else 0) + (dgN c W : Nat) - 1 = (ln c W : Nat) → wX0_costOfDigits_28 f (iI c) Q (iI (tz c)) (iI (dgN c W)) (iI a) := by
    intro a h
    unfold wX0_costOfDigits_28
    refine c_dig (by omega) (by omega) (by omega) (br_le 0 (dg c (tz c)) (fun d => fin a 0 ?_) (fun d => fin a 1 ?_))
    · rw [if_neg (by omega)] at h; exact h
    · rw [if_pos (by omega)] at h; exact h
  refine c_tz h1 h2 ⟨_, c_cnt4 w16 (by omega) (by omega) ?_ W 0 (by omega)⟩
  have e1 : iI (dgN c W) - 1 = iI ((dgN c W : Nat) - 1 : Int) := by show iI _ - iI 1 = _; rw [iI_sub]
  refine br_eq (tz c) 0 (fun d => ?_) (fun d => mid _ ?_)
  · rw [e1]; refine mid _ ?_
    unfold ln
    rw [if_pos (show tz c = 0 by omega)]
    by_cases hn : dg c (tz c) < 0
    · rw [if_pos hn, if_pos hn]; omega
    · rw [if_neg hn, if_neg hn]; omega
  · unfold ln
    rw [if_neg (show ¬ tz c = 0 by omega)]
    by_cases hn : dg c (tz c) < 0
    · rw [if_pos hn, if_pos hn]; omega
    · rw [if_neg hn, if_neg hn]; omega
theorem m_len2 {v : Nat → Int32} {W : Nat} (hv : v 0 = iI W) (w16 : W ≤ 16) {c : Int} (h0 : 0 ≤ c) (h1 : c < 65536) {Q : Int32 → Prop} : ∀ (m p n : Nat), p + m = W → 1 ≤ p → Q (iI ((n + 2 * dgM c p m : Nat) : Int)) → wX9_lengthOf_8 v (lI c) Q (m + 1) (iI n) 0 (iI p)
  | 0, p, n, hp, p1, hQ => by
    rw [wX9_lengthOf_8, g0, hv]
    exact ⟨v0, br_le W p (fun _ => hQ) (fun c => by omega)⟩
  | m + 1, p, n, hp, p1, hQ => by
    rw [wX9_lengthOf_8, g0, hv]
    refine ⟨v0, br_le W p (fun c => by omega) (fun _ => m_dig h0 h1 (by omega) ?_)⟩
    have hb := dg_b c p
    rw [show dgM c p (m + 1) = (if dg c p = 0 then 0 else 1) + dgM c (p + 1) m from rfl] at hQ
    have e2 : iI p + 1 = iI ((p + 1 : Nat) : Int) := by show iI p + iI 1 = _; rw [iI_add]; rfl
    refine br_eq (dg c p) 0 (fun d => ?_) (fun d => br_le p 0 (fun q => by omega) (fun _ => ?_))
    · intro x hx
      rw [if_pos d, Nat.zero_add] at hQ
      rw [hx, e2]; exact m_len2 hv w16 h0 h1 m (p + 1) n (by omega) (by omega) hQ
    · refine ⟨fun _ => ?_, fun q => absurd rfl q⟩
      intro y hy x hx
      rw [if_neg d] at hQ
      have ey : y = iI ((n + 2 : Nat) : Int) := by rw [hy]; show iI n + (iI 1 + iI 1) = _; rw [iI_add, iI_add]; rfl
      rw [hx, e2, ey]
      refine m_len2 hv w16 h0 h1 m (p + 1) (n + 2) (by omega) (by omega) ?_
      rw [show n + 2 + 2 * dgM c (p + 1) m = n + 2 * (1 + dgM c (p + 1) m) by omega]; exact hQ
theorem m_len1 {v : Nat → Int32} {W : Nat} (hv : v 0 = iI W) (w16 : W ≤ 16) {c : Nat} (h1 : 0 < c) (h2 : c < 65536) (hW : tz c < W) {Q : Int32 → Prop} {F : Nat} (hQ : wX9_lengthOf_8 v (lI c) Q F 0 1 (iI (tz c))) : ∀ (j p : Nat), p + j = tz c → wX9_lengthOf_8 v (lI c) Q (F + j) 0 1 (iI p)
  | 0, p, hp => by rw [show p = tz c by omega]; exact hQ
  | j + 1, p, hp => by
    rw [show F + (j + 1) = (F + j) + 1 from rfl, wX9_lengthOf_8, g0, hv]
    refine ⟨v0, br_le W p (fun c => by omega) (fun _ => m_dig (by omega) (by omega) (by omega) ?_)⟩
    have e2 : iI p + 1 = iI ((p + 1 : Nat) : Int) := by show iI p + iI 1 = _; rw [iI_add]; rfl
    rw [dg_lo h1 h2 (show p < tz c by omega)]
    refine ⟨fun _ x hx => ?_, fun q => absurd rfl q⟩
    rw [hx, e2]; exact m_len1 hv w16 h1 h2 hW hQ j (p + 1) (by omega)
theorem m_len {v : Nat → Int32} {W : Nat} (hv : v 0 = iI W) (w16 : W ≤ 16) {c : Nat} (h1 : 0 < c) (h2 : c < 65536) (hW : tz c < W) {Q : Int32 → Prop} (hQ : Q (iI (ln c W))) : wX9_lengthOf v (lI c) Q := by
  have hb := dg_b c (tz c)
  have hnz := dg_tz h1 h2
  refine ⟨W - tz c - 1 + 1 + 1 + tz c, m_len1 hv w16 h1 h2 hW ?_ (tz c) 0 (Nat.zero_add _)⟩
  rw [wX9_lengthOf_8, g0, hv]
  refine ⟨v0, br_le W (tz c) (fun c => by omega) (fun _ => m_dig (by omega) (by omega) (by omega) ?_)⟩
  have e2 : iI (tz c) + 1 = iI ((tz c + 1 : Nat) : Int) := by show iI _ + iI 1 = _; rw [iI_add]; rfl
  have fin : ∀ a b : Nat, a + b + 2 * dgM c (tz c + 1) (W - tz c - 1) = ln c W → wX9_lengthOf_58 0 (iI (tz c)) (wX9_lengthOf_8 v (lI c) Q (W - tz c - 1 + 1)) (iI a) (iI b) := by
    intro a b h y hy x hx
    have ey : y = iI ((a + b : Nat) : Int) := by rw [hy]; show iI 0 + (iI a + iI b) = _; rw [iI_add, iI_add, Int.zero_add]; rfl
    rw [hx, e2, ey]
    refine m_len2 hv w16 (by omega) (by omega) (W - tz c - 1) (tz c + 1) (a + b) (by omega) (by omega) ?_
    rw [h]; exact hQ
  have mid : ∀ a : Nat, a + (if dg c (tz c) < 0 then 1 else 0) + 2 * dgM c (tz c + 1) (W - tz c - 1) = ln c W → wX9_lengthOf_43 0 1 (iI (tz c)) (wX9_lengthOf_8 v (lI c) Q (W - tz c - 1 + 1)) (iI (dg c (tz c))) (iI a) := by
    intro a h
    refine ⟨fun q => absurd q (by decide), fun _ => br_le 0 (dg c (tz c)) (fun d => fin a 0 ?_) (fun d => fin a 1 ?_)⟩
    · rw [if_neg (by omega)] at h; exact h
    · rw [if_pos (by omega)] at h; exact h
  refine br_eq (dg c (tz c)) 0 (fun d => absurd d hnz) (fun _ => br_le (tz c) 0 (fun d => mid 0 ?_) (fun d => mid 1 ?_))
  · unfold ln; rw [if_pos (show tz c = 0 by omega)]
  · unfold ln; rw [if_neg (show ¬ tz c = 0 by omega)]
theorem o_loop {W y c : Nat} (w16 : W ≤ 16) (h2 : c < 65536) : ∀ (m p N : Nat) (code : Nat → Ins) (sm : Nat), p + m = W → 1 ≤ p → wfA W N code → y ≤ N → sm ≤ N → N + 2 * dgM c p m ≤ 40 → Out W N code (2 * dgM c p m) (fun n o f s Q => wX0_productByDigits_40 (iI W) (iI (-1 - (y : Int))) (iI c) Q (m + 1) (iI (-1 - (sm : Int))) (iI p) n o f s) (fun v Q => wX9_product_58 (iI y) (lI c) Q (m + 1) (iI sm) (iI p) v)
  | 0, p, N, code, sm, hp, p1, wf, hy, hs, h40 => by
    refine ⟨sm, N, code, Nat.le_refl _, by omega, hs, wf, fun o f s hc Q hQ => ?_, fun k d v hm Q hQ => ?_⟩
    · show wX0_productByDigits_40 _ _ _ _ _ _ _ _ _ _ _
      rw [wX0_productByDigits_40]
      exact br_le W p (fun _ => hQ o f s hc) (fun c => by omega)
    · show wX9_product_58 _ _ _ _ _ _ _
      rw [wX9_product_58, g0, hm.1]
      exact ⟨v0, br_le W p (fun _ => hQ v hm) (fun c => by omega)⟩
  | m + 1, p, N, code, sm, hp, p1, wf, hy, hs, h40 => by
    have e2 : iI p + 1 = iI ((p + 1 : Nat) : Int) := by show iI p + iI 1 = _; rw [iI_add]; rfl
    have hb := dg_b c p
    have hM : dgM c p (m + 1) = (if dg c p = 0 then 0 else 1) + dgM c (p + 1) m := rfl
    by_cases hz : dg c p = 0
    · rw [if_pos hz, Nat.zero_add] at hM
      rw [hM] at h40 ⊢
      obtain ⟨y1, N1, e1, a1, b1, l1, w1, C1, M1⟩ := o_loop (y := y) w16 h2 m (p + 1) N code sm (by omega) (by omega) wf hy hs h40
      refine ⟨y1, N1, e1, a1, b1, l1, w1, fun o f s hc Q hQ => ?_, fun k d v hm Q hQ => ?_⟩
      · show wX0_productByDigits_40 _ _ _ _ _ _ _ _ _ _ _
        rw [wX0_productByDigits_40]
        refine br_le W p (fun c => by omega) (fun _ => c_dig (by omega) (by omega) (by omega) (br_eq (dg c p) 0 (fun _ x hx => ?_) (fun q => absurd hz q)))
        rw [hx, e2]; exact C1 o f s hc Q hQ
      · show wX9_product_58 _ _ _ _ _ _ _
        rw [wX9_product_58, g0, hm.1]
        refine ⟨v0, br_le W p (fun c => by omega) (fun _ => m_dig (by omega) (by omega) (by omega) (br_eq (dg c p) 0 (fun _ x hx => ?_) (fun q => absurd hz q)))⟩
        rw [hx, e2]; exact M1 k d v hm Q hQ
    · rw [if_neg hz] at hM
      rw [hM] at h40 ⊢
      obtain ⟨e1, w1, C1, M1⟩ := o_w1 w16 wf (by omega) (op := 0) (x1 := 0) (by omega) rfl hy (b := p) p1 (by omega)
      rcases hb with hd | hd | hd
      · obtain ⟨e3, w3, C3, M3⟩ := o_bo w1 (by omega) (op := 4) (x1 := 4) (by omega) rfl (show sm ≤ N + 1 by omega) (Nat.le_refl (N + 1))
        obtain ⟨y4, N4, e4, a4, b4, l4, w4, C4, M4⟩ := o_loop (y := y) w16 h2 m (p + 1) (N + 1 + 1) e3 (N + 1 + 1) (by omega) (by omega) w3 (by omega) (Nat.le_refl _) (by omega)
        refine ⟨y4, N4, e4, by omega, by omega, l4, w4, fun o f s hc Q hQ => ?_, fun k d v hm Q hQ => ?_⟩
        · show wX0_productByDigits_40 _ _ _ _ _ _ _ _ _ _ _
          rw [wX0_productByDigits_40]
          refine br_le W p (fun c => by omega) (fun _ => c_dig (by omega) (by omega) (by omega) (br_eq (dg c p) 0 (fun q => absurd q hz) (fun _ => C1 o f s hc _ (fun o f s hc => br_le (dg c p) 0 (fun _ => C3 o f s hc _ (fun o f s hc x hx => ?_)) (fun q => by omega)))))
          rw [hx, e2]; exact C4 o f s hc Q hQ
        · show wX9_product_58 _ _ _ _ _ _ _
          rw [wX9_product_58, g0, hm.1]
          refine ⟨v0, br_le W p (fun c => by omega) (fun _ => m_dig (by omega) (by omega) (by omega) (br_eq (dg c p) 0 (fun q => absurd q hz) (fun _ => M1 k d v hm _ (fun v hm => br_le 0 sm (fun _ => br_le (dg c p) 0 (fun _ => M3 k d v hm _ (fun v hm x hx => ?_)) (fun q => by omega)) (fun q => by omega)))))⟩
          rw [hx, e2]; exact M4 k d v hm Q hQ
      · exact absurd hd hz
      · obtain ⟨e3, w3, C3, M3⟩ := o_bo w1 (by omega) (op := 3) (x1 := 3) (by omega) rfl (show sm ≤ N + 1 by omega) (Nat.le_refl (N + 1))
        obtain ⟨y4, N4, e4, a4, b4, l4, w4, C4, M4⟩ := o_loop (y := y) w16 h2 m (p + 1) (N + 1 + 1) e3 (N + 1 + 1) (by omega) (by omega) w3 (by omega) (Nat.le_refl _) (by omega)
        refine ⟨y4, N4, e4, by omega, by omega, l4, w4, fun o f s hc Q hQ => ?_, fun k d v hm Q hQ => ?_⟩
        · show wX0_productByDigits_40 _ _ _ _ _ _ _ _ _ _ _
          rw [wX0_productByDigits_40]
          refine br_le W p (fun c => by omega) (fun _ => c_dig (by omega) (by omega) (by omega) (br_eq (dg c p) 0 (fun q => absurd q hz) (fun _ => C1 o f s hc _ (fun o f s hc => br_le (dg c p) 0 (fun q => by omega) (fun _ => C3 o f s hc _ (fun o f s hc x hx => ?_))))))
          rw [hx, e2]; exact C4 o f s hc Q hQ
        · show wX9_product_58 _ _ _ _ _ _ _
          rw [wX9_product_58, g0, hm.1]
          refine ⟨v0, br_le W p (fun c => by omega) (fun _ => m_dig (by omega) (by omega) (by omega) (br_eq (dg c p) 0 (fun q => absurd q hz) (fun _ => M1 k d v hm _ (fun v hm => br_le 0 sm (fun _ => br_le (dg c p) 0 (fun q => by omega) (fun _ => M3 k d v hm _ (fun v hm x hx => ?_))) (fun q => by omega)))))⟩
          rw [hx, e2]; exact M4 k d v hm Q hQ
theorem m_skip {v : Nat → Int32} {W y c : Nat} (hv : v 0 = iI W) (w16 : W ≤ 16) (h1 : 0 < c) (h2 : c < 65536) (hW : tz c < W) {Q : Int32 → (Nat → Int32) → Prop} {F : Nat} (hQ : wX9_product_58 (iI y) (lI c) Q F (-1) (iI (tz c)) v) : ∀ (j p : Nat), p + j = tz c → wX9_product_58 (iI y) (lI c) Q (F + j) (-1) (iI p) v
  | 0, p, hp => by rw [show p = tz c by omega]; exact hQ
  | j + 1, p, hp => by
    rw [show F + (j + 1) = (F + j) + 1 from rfl, wX9_product_58, g0, hv]
    have e2 : iI p + 1 = iI ((p + 1 : Nat) : Int) := by show iI p + iI 1 = _; rw [iI_add]; rfl
    refine ⟨v0, br_le W p (fun c => by omega) (fun _ => m_dig (by omega) (by omega) (by omega) ?_)⟩
    rw [dg_lo h1 h2 (show p < tz c by omega)]
    refine ⟨fun _ x hx => ?_, fun q => absurd rfl q⟩
    rw [hx, e2]; exact m_skip hv w16 h1 h2 hW hQ j (p + 1) (by omega)
set_option maxHeartbeats 1000000 in
theorem o_pbd {W N y c : Nat} {code : Nat → Ins} (w16 : W ≤ 16) (h1 : 0 < c) (h2 : c < 65536) (hW : tz c < W) (wf : wfA W N code) (hy : y ≤ N) (h40 : N + ln c W ≤ 40) (h20 : ln c W ≤ 20) (hN : N + 20 ≤ 40) : Out W N code 20 (fun n o f s Q => wX0_productByDigits (iI W) n o f s (iI (-1 - (y : Int))) (iI c) Q) (fun v Q => ∃ k9, wX9_product_58 (iI y) (lI c) Q k9 (-1) 0 v) := by
  have hb := dg_b c (tz c)
  have hnz := dg_tz h1 h2
  have e2 : iI (tz c) + 1 = iI ((tz c + 1 : Nat) : Int) := by show iI _ + iI 1 = _; rw [iI_add]; rfl
  have neg : ¬ (0 : Int32) ≤ -1 := by decide
  have hln : ln c W = (if tz c = 0 then 0 else 1) + (if dg c (tz c) < 0 then 1 else 0) + 2 * dgM c (tz c + 1) (W - tz c - 1) := rfl
  have e0 : W - tz c - 1 + 1 + 1 + tz c = W - tz c - 1 + 1 + 1 + tz c := rfl
  by_cases hn : dg c (tz c) < 0
  · rw [if_pos hn] at hln
    have hy1 : ∃ (y1 N1 : Nat) (e1 : Nat → Ins), N ≤ N1 ∧ N1 ≤ N + (if tz c = 0 then 0 else 1) ∧ y1 ≤ N1 ∧ wfA W N1 e1 ∧ Ch N code y1 N1 e1 (fun n o f s Q => wX0_shifted n o f s 0 (iI (-1 - (y : Int))) (iI (tz c)) Q) ∧ Mh W N code y1 N1 e1 (fun v Q => wX9_shifts v 0 (iI y) (iI (tz c)) Q) := by
      by_cases ht : tz c = 0
      · rw [if_pos ht, ht]
        exact ⟨y, N, code, Nat.le_refl _, by omega, hy, wf, fun o f s hc Q hQ => ⟨fun _ => hQ o f s hc, fun c => absurd rfl c⟩, fun k d v hm Q hQ => ⟨fun _ => hQ v hm, fun c => absurd rfl c⟩⟩
      · rw [if_neg ht]
        exact o_sh w16 wf (by omega) (op := 0) (x1 := 0) (by omega) rfl hy hW
    obtain ⟨y1, N1, e1, a1, b1, l1, w1, C1, M1⟩ := hy1
    obtain ⟨e3, w3, C3, M3⟩ := o_ng w1 (by omega) l1
    obtain ⟨y4, N4, e4, a4, b4, l4, w4, C4, M4⟩ := o_loop w16 h2 (W - tz c - 1) (tz c + 1) (N1 + 1) e3 (N1 + 1) (y := y) (by omega) (by omega) w3 (by omega) (Nat.le_refl _) (by omega)
    refine ⟨y4, N4, e4, by omega, by omega, l4, w4, fun o f s hc Q hQ => ?_, fun k d v hm Q hQ => ⟨W - tz c - 1 + 1 + 1 + tz c, m_skip hm.1 w16 h1 h2 hW ?_ (tz c) 0 (Nat.zero_add _)⟩⟩
    · refine c_tz h1 h2 (C1 o f s hc _ (fun o f s hc => c_dig (by omega) (by omega) (by omega) (br_le 0 (dg c (tz c)) (fun q => by omega) (fun _ => C3 o f s hc _ (fun o f s hc x hx => ?_)))))
      rw [hx, e2]; exact ⟨_, C4 o f s hc Q hQ⟩
    · rw [wX9_product_58, g0, hm.1]
      refine ⟨v0, br_le W (tz c) (fun c => by omega) (fun _ => m_dig (by omega) (by omega) (by omega) (br_eq (dg c (tz c)) 0 (fun q => absurd q hnz) (fun _ => M1 k d v hm _ (fun v hm => ⟨fun q => absurd q neg, fun _ => br_le (dg c (tz c)) 0 (fun _ => M3 k d v hm _ (fun v hm x hx => ?_)) (fun q => by omega)⟩))))⟩
      rw [hx, e2]; exact M4 k d v hm Q hQ
  · rw [if_neg hn] at hln
    have hy1 : ∃ (y1 N1 : Nat) (e1 : Nat → Ins), N ≤ N1 ∧ N1 ≤ N + (if tz c = 0 then 0 else 1) ∧ y1 ≤ N1 ∧ wfA W N1 e1 ∧ Ch N code y1 N1 e1 (fun n o f s Q => wX0_shifted n o f s 0 (iI (-1 - (y : Int))) (iI (tz c)) Q) ∧ Mh W N code y1 N1 e1 (fun v Q => wX9_shifts v 0 (iI y) (iI (tz c)) Q) := by
      by_cases ht : tz c = 0
      · rw [if_pos ht, ht]
        exact ⟨y, N, code, Nat.le_refl _, by omega, hy, wf, fun o f s hc Q hQ => ⟨fun _ => hQ o f s hc, fun c => absurd rfl c⟩, fun k d v hm Q hQ => ⟨fun _ => hQ v hm, fun c => absurd rfl c⟩⟩
      · rw [if_neg ht]
        exact o_sh w16 wf (by omega) (op := 0) (x1 := 0) (by omega) rfl hy hW
    obtain ⟨y1, N1, e1, a1, b1, l1, w1, C1, M1⟩ := hy1
    obtain ⟨y4, N4, e4, a4, b4, l4, w4, C4, M4⟩ := o_loop w16 h2 (W - tz c - 1) (tz c + 1) N1 e1 y1 (y := y) (by omega) (by omega) w1 (by omega) l1 (by omega)
    refine ⟨y4, N4, e4, by omega, by omega, l4, w4, fun o f s hc Q hQ => ?_, fun k d v hm Q hQ => ⟨W - tz c - 1 + 1 + 1 + tz c, m_skip hm.1 w16 h1 h2 hW ?_ (tz c) 0 (Nat.zero_add _)⟩⟩
    · refine c_tz h1 h2 (C1 o f s hc _ (fun o f s hc => c_dig (by omega) (by omega) (by omega) (br_le 0 (dg c (tz c)) (fun _ x hx => ?_) (fun q => by omega))))
      rw [hx, e2]; exact ⟨_, C4 o f s hc Q hQ⟩
    · rw [wX9_product_58, g0, hm.1]
      refine ⟨v0, br_le W (tz c) (fun c => by omega) (fun _ => m_dig (by omega) (by omega) (by omega) (br_eq (dg c (tz c)) 0 (fun q => absurd q hnz) (fun _ => M1 k d v hm _ (fun v hm => ⟨fun q => absurd q neg, fun _ => br_le (dg c (tz c)) 0 (fun q => by omega) (fun _ x hx => ?_)⟩))))⟩
      rw [hx, e2]; exact M4 k d v hm Q hQ
set_option maxHeartbeats 1000000 in
theorem o_prod {W N y : Nat} {code : Nat → Ins} (w4 : 4 ≤ W) (w16 : W ≤ 16) {cc cm : Nat → Int32} (hcst : cstR cc cm) (wf : wfA W N code) (hy : y ≤ N) (hN : N + 20 ≤ 40) {c : Int} (c0 : 0 ≤ c) (c1 : c < 2 ^ W) : Out W N code 20 (fun n o f s Q => wX0_productBy (iI W) n o f s cc (iI (-1 - (y : Int))) (iI c) Q) (fun v Q => wX9_product v cm (iI y) (lI c) Q) := by
  obtain ⟨p16, pm, ph⟩ := pw w4 w16
  obtain ⟨c, rfl⟩ : ∃ n : Nat, (n : Int) = c := ⟨c.toNat, by omega⟩
  by_cases h1 : c = 1
  · subst h1
    exact ⟨y, N, code, Nat.le_refl _, by omega, hy, wf, fun o f s hc Q hQ => ⟨fun _ => hQ o f s hc, fun q => absurd rfl q⟩, fun k d v hm Q hQ => ⟨fun _ => hQ v hm, fun q => absurd rfl q⟩⟩
  by_cases h0 : c = 0
  · subst h0
    obtain ⟨e1, w1, C1, M1⟩ := o_k w16 wf (by omega) (op := 8) (x1 := 8) (by omega) rfl hy (c := 0) (by omega) (by omega)
    exact ⟨N + 1, N + 1, e1, by omega, by omega, Nat.le_refl _, w1, fun o f s hc Q hQ => ⟨fun q => absurd q (by decide), fun _ => ⟨fun _ => C1 o f s hc _ hQ, fun q => absurd rfl q⟩⟩, fun k d v hm Q hQ => ⟨fun q => absurd q (by decide), fun _ => ⟨fun _ => M1 k d v hm _ hQ, fun q => absurd rfl q⟩⟩⟩
  have cp : 0 < c := by omega
  have c65 : c < 65536 := by omega
  have cN : c < 2 ^ W := by have := pwN W; omega
  have tW := tz_lt cp c65 cN
  obtain ⟨x0, u1, u2, u3, u4⟩ := hcst 0 (by decide)
  obtain ⟨x2, t1, t2, t3, t4⟩ := hcst 2 (by decide)
  have lb : ln c W ≤ 40 := by
    have := dgM_le c (W - tz c - 1) (tz c + 1)
    unfold ln
    split <;> split <;> omega
  have mb := Nat.mul_le_mul lb t2
  have mb1 := Nat.mul_le_mul (Nat.le_refl (ln c W)) t1
  have hne : ∀ (A B : Prop), B → ((iI (c : Int) = 1 → A) ∧ (¬ iI (c : Int) = 1 → B)) := fun A B b => br_eq c 1 (fun q => by omega) (fun _ => b)
  by_cases hl : ln c W * x2 ≤ x0
  · obtain ⟨y4, N4, e4, a4, b4, l4, w4', C4, M4⟩ := o_pbd w16 cp c65 tW wf hy (by omega) (by omega) hN
    refine ⟨y4, N4, e4, a4, b4, l4, w4', fun o f s hc Q hQ => ?_, fun k d v hm Q hQ => ?_⟩
    · refine br_eq c 1 (fun q => by omega) (fun _ => br_eq c 0 (fun q => by omega) (fun _ => c_cod w16 cp c65 tW t3 ⟨q0, ?_⟩))
      rw [g0, u3]
      exact br_lt x0 ((ln c W * x2 : Nat) : Int) (fun q => by omega) (fun _ => C4 o f s hc _ hQ)
    · refine bl_eq c 1 (fun q => by omega) (fun _ => bl_eq c 0 (fun q => by omega) (fun _ => m_len hm.1 w16 cp c65 tW ⟨q2, q0, ?_⟩))
      rw [g0, g2, u4, t4, iI_mul, ← Int.natCast_mul]
      exact br_le ((ln c W * x2 : Nat) : Int) x0 (fun _ => M4 k d v hm _ hQ) (fun q => by omega)
  · obtain ⟨e1, w1, C1, M1⟩ := o_k w16 wf (by omega) (op := 5) (x1 := 5) (by omega) rfl hy (c := (c : Int)) (by omega) c1
    refine ⟨N + 1, N + 1, e1, by omega, by omega, Nat.le_refl _, w1, fun o f s hc Q hQ => ?_, fun k d v hm Q hQ => ?_⟩
    · refine br_eq c 1 (fun q => by omega) (fun _ => br_eq c 0 (fun q => by omega) (fun _ => c_cod w16 cp c65 tW t3 ⟨q0, ?_⟩))
      rw [g0, u3]
      exact br_lt x0 ((ln c W * x2 : Nat) : Int) (fun _ => C1 o f s hc _ hQ) (fun q => by omega)
    · refine bl_eq c 1 (fun q => by omega) (fun _ => bl_eq c 0 (fun q => by omega) (fun _ => m_len hm.1 w16 cp c65 tW ⟨q2, q0, ?_⟩))
      rw [g0, g2, u4, t4, iI_mul, ← Int.natCast_mul]
      exact br_le ((ln c W * x2 : Nat) : Int) x0 (fun q => by omega) (fun _ => M1 k d v hm _ hQ)
