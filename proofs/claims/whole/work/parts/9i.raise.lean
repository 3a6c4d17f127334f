/-! leastRaise -/
def Rj (m j : Nat) : Nat := RF 24 (m * (8388608 + j))
def tj (m j : Nat) : Nat := tzF 60 (Rj m j)
def rj (m j : Nat) : Nat := Rj m j / 2 ^ tj m j
theorem fw_b {P : Nat → Bool} : ∀ m x : Nat, -1 ≤ fwF P m x ∧ fwF P m x ≤ ((x + m : Nat) : Int)
  | 0, x => ⟨Int.le_refl _, by show (-1 : Int) ≤ _; omega⟩
  | m + 1, x => by
    have ih := fw_b (P := P) m (x + 1)
    show -1 ≤ (if P x = true then fwF P m (x + 1) else (x : Int)) ∧ (if P x = true then fwF P m (x + 1) else (x : Int)) ≤ _
    split <;> omega
theorem nr24 (x : Nat) : nrs x (2 ^ sB 24 x) ≤ 16777216 := by
  refine nr_le (Nat.two_pow_pos _) ?_
  have h6 := lg_lt x
  have h7 : 2 ^ (x.log2 + 1) ≤ 2 ^ (24 + sB 24 x) := pl (by unfold sB; omega)
  rw [Nat.pow_add 2 24] at h7
  exact Nat.le_trans (Nat.le_of_lt h6) h7
theorem odd_le {r c t s : Nat} (h : r * 2 ^ t = c * 2 ^ s) (hr : r % 2 = 1) : r ≤ c := by
  by_cases q : s ≤ t
  · obtain ⟨u, rfl⟩ : ∃ u, t = u + s := ⟨t - s, by omega⟩
    rw [Nat.pow_add, ← Nat.mul_assoc] at h
    have h8 := Nat.mul_right_cancel (Nat.two_pow_pos s) h
    have h9 := Nat.mul_le_mul_left r (Nat.two_pow_pos u)
    omega
  · obtain ⟨u, rfl⟩ : ∃ u, s = u + 1 + t := ⟨s - t - 1, by omega⟩
    rw [Nat.pow_add, ← Nat.mul_assoc] at h
    have h8 := Nat.mul_right_cancel (Nat.two_pow_pos t) h
    rw [Nat.pow_succ, ← Nat.mul_assoc] at h8
    omega
theorem near_l {md jm K d Y Z : Nat} (h1 : 8388608 * d ≤ K) (e1 : 2 * md ≤ 2 * K + d) (e2 : 2 * K ≤ 2 * md + d) (hj : jm ≤ 20 * md) (hZ : Z = 8388608 * md + jm) (k1 : 16777216 * Y ≤ 16777216 * Z + Z) (k2 : 16777216 * Z ≤ 16777216 * Y + Z) : 262144 * Y ≤ 262144 * (8388608 * K) + 8388608 * K ∧ 262144 * (8388608 * K) ≤ 262144 * Y + 8388608 * K := by omega
theorem near_c {r t d k : Nat} (ht : t ≤ k) (hn : 262144 * (r * 2 ^ t * d) ≤ 262144 * 2 ^ k + 2 ^ k ∧ 262144 * 2 ^ k ≤ 262144 * (r * 2 ^ t * d) + 2 ^ k) : near r (k - t) d := by
  have eS : 2 ^ k = 2 ^ (k - t) * 2 ^ t := by rw [← Nat.pow_add, show k - t + t = k by omega]
  rw [eS, show r * 2 ^ t * d = r * d * 2 ^ t from Nat.mul_right_comm _ _ _] at hn
  refine ⟨Nat.le_of_mul_le_mul_right (c := 2 ^ t) ?_ (Nat.two_pow_pos _), Nat.le_of_mul_le_mul_right (c := 2 ^ t) ?_ (Nat.two_pow_pos _)⟩
  · rw [Nat.add_mul, Nat.mul_assoc 262144, Nat.mul_assoc 262144]; exact hn.1
  · rw [Nat.add_mul, Nat.mul_assoc 262144, Nat.mul_assoc 262144]; exact hn.2
theorem Rj_near {d k j m : Nat} (h1 : 8388608 * d ≤ 2 ^ k) (e1 : 2 * (m * d) ≤ 2 * 2 ^ k + d) (e2 : 2 * 2 ^ k ≤ 2 * (m * d) + d) (hj : j ≤ 20) : 262144 * (Rj m j * d) ≤ 262144 * 2 ^ (k + 23) + 2 ^ (k + 23) ∧ 262144 * 2 ^ (k + 23) ≤ 262144 * (Rj m j * d) + 2 ^ (k + 23) := by
  obtain ⟨r1, r2⟩ := RF_rel (p := 24) (by decide) (m * (8388608 + j))
  have k1 := Nat.mul_le_mul_left d r1
  have k2 := Nat.mul_le_mul_left d r2
  generalize hx : m * (8388608 + j) = x at *
  have hR : Rj m j = RF 24 x := by unfold Rj; rw [hx]
  rw [Nat.mul_add, Nat.mul_left_comm d, Nat.mul_left_comm d 16777216] at k1
  rw [Nat.mul_add, Nat.mul_left_comm d, Nat.mul_left_comm d 16777216] at k2
  have eZ : d * x = 8388608 * (m * d) + j * (m * d) := by
    rw [← hx, ← Nat.mul_assoc, Nat.mul_comm d m, Nat.mul_add, Nat.mul_comm _ 8388608, Nat.mul_comm _ j]
  have eT : 2 ^ (k + 23) = 8388608 * 2 ^ k := by rw [Nat.pow_add, Nat.mul_comm]
  rw [eT, hR, Nat.mul_comm _ d]
  exact near_l h1 e1 e2 (Nat.mul_le_mul_right (m * d) hj) eZ k1 k2
theorem tj_le {k j m d : Nat} (d1 : 1 ≤ d) (hn : 262144 * (Rj m j * d) ≤ 262144 * 2 ^ (k + 23) + 2 ^ (k + 23)) (h4 : 2 ^ tj m j ≤ Rj m j) : tj m j ≤ k + 23 := by
  refine Nat.le_of_not_lt (fun c => ?_)
  have h3 : 2 ^ (k + 23 + 1) ≤ 2 ^ tj m j := pl c
  have hle := Nat.mul_le_mul_left (Rj m j) d1
  rw [Nat.pow_succ] at h3
  have h5 := Nat.two_pow_pos (k + 23)
  generalize 2 ^ (k + 23) = T at *
  generalize Rj m j * d = Y at *
  omega
theorem raise_ok {d k j : Nat} (d1 : 1 ≤ d) (d2 : d < 65536) (hk : k = 23 + lgU d) (hj : j ≤ 20) : Rj (nrs (2 ^ k) d) j = rj (nrs (2 ^ k) d) j * 2 ^ tj (nrs (2 ^ k) d) j ∧ rj (nrs (2 ^ k) d) j % 2 = 1 ∧ tj (nrs (2 ^ k) d) j ≤ k + 23 ∧ rj (nrs (2 ^ k) d) j ≤ 16777216 ∧ Rj (nrs (2 ^ k) d) j < 562949953421312 ∧ near (rj (nrs (2 ^ k) d) j) (k + 23 - tj (nrs (2 ^ k) d) j) d := by
  obtain ⟨l1, l2, l3⟩ := lgU_ok d2
  obtain ⟨-, b1, b2⟩ := rec_k (P := 23) d1 d2 (by decide) (by decide)
  rw [← hk] at b1 b2
  have b1' : 8388608 ≤ nrs (2 ^ k) d := b1
  have b2' : nrs (2 ^ k) d < 16777216 := b2
  obtain ⟨e1, e2⟩ := nr_err (2 ^ k) d d1
  have h1 : 8388608 * d ≤ 2 ^ k := by
    rw [hk, Nat.pow_add]
    exact Nat.mul_le_mul (Nat.le_refl _) l1
  have hn := Rj_near h1 e1 e2 hj
  generalize nrs (2 ^ k) d = m at *
  have hR49 : Rj m j < 562949953421312 ∧ 0 < Rj m j := by
    clear hn e1 e2 h1 l1 l2 l3 b1 b2
    have hx1 := Nat.mul_le_mul (show m ≤ 16777216 by omega) (show 8388608 + j ≤ 8388628 by omega)
    have hx0 := Nat.mul_le_mul b1' (show 1 ≤ 8388608 + j by omega)
    obtain ⟨r1, r2⟩ := RF_rel (p := 24) (by decide) (m * (8388608 + j))
    have hR : Rj m j = RF 24 (m * (8388608 + j)) := rfl
    rw [← hR] at r1 r2
    generalize m * (8388608 + j) = x at *
    omega
  have e60 : (2 : Nat) ^ 60 = 1152921504606846976 := by decide
  obtain ⟨t1, e, he⟩ := tzF_ex 60 (Rj m j) hR49.2 (by rw [e60]; exact Nat.lt_trans hR49.1 (by decide))
  have he : Rj m j = 2 ^ tj m j * (2 * e + 1) := he
  have hr : rj m j = 2 * e + 1 := by
    have : Rj m j / 2 ^ tj m j = 2 * e + 1 := by rw [he]; exact Nat.mul_div_cancel_left _ (Nat.two_pow_pos _)
    exact this
  have hRr : Rj m j = rj m j * 2 ^ tj m j := by rw [hr, Nat.mul_comm]; exact he
  have hodd : rj m j % 2 = 1 := by rw [hr, Nat.mul_add_mod]
  have h4 : 2 ^ tj m j ≤ Rj m j := by
    have := Nat.mul_le_mul_left (2 ^ tj m j) (show 1 ≤ 2 * e + 1 from Nat.le_add_left _ _)
    rw [Nat.mul_one, ← he] at this; exact this
  have htk := tj_le d1 hn.1 h4
  refine ⟨hRr, hodd, htk, Nat.le_trans (odd_le (hRr.symm.trans (show Rj m j = nrs (m * (8388608 + j)) (2 ^ sB 24 (m * (8388608 + j))) * 2 ^ sB 24 (m * (8388608 + j)) from rfl)) hodd) (nr24 _), hR49.1, near_c htk ?_⟩
  rw [← hRr]; exact hn
theorem adj : ∀ j, j < 21 → (FP.fdiv (FP.i2f (Int32.ofNat j)) 1258291200 &&& 0x7fffffff ≤ 0x7f800000) ∧ v32 (FP.fadd FP.fconst1 (FP.fdiv (FP.i2f (Int32.ofNat j)) 1258291200)) = fFin (8388608 + j) (-23) := by decide +kernel
def lrF (G : Nat → Bool) : Nat → Nat → Int
  | 0, _ => -1
  | m + 1, j => if G j = true then (j : Int) else lrF G m (j + 1)
def lrG (W d k m : Nat) : Nat → Bool := fun j => decide (fwF (gdP 24 (rj m j) (k + 23 - tj m j) d) (2 ^ W) 0 = -1)
theorem c_lr9 {W d k : Nat} (w4 : 4 ≤ W) (w16 : W ≤ 16) (d1 : 1 ≤ d) (d2 : d < 65536) (hk : k = 23 + lgU d) {Q : Int32 → Prop} : ∀ m' j : Nat, j + m' = 21 → Q (iI (lrF (lrG W d k (nrs (2 ^ k) d)) m' j)) → wX8_leastRaise_9 (iI W) (iI d) Q (m' + 1) (iI j) := by
  obtain ⟨l1, l2, l3⟩ := lgU_ok d2
  obtain ⟨b0, b1, b2⟩ := rec_k (P := 23) d1 d2 (by decide) (by decide)
  have hr := F32_rec d1 d2
  rw [← hk] at b0 b1 b2 hr
  have b2' : nrs (2 ^ k) d < 16777216 := b2
  have hW := pl w16
  have hW0 := Nat.two_pow_pos W
  intro m'
  induction m' with
  | zero =>
    intro j hj hQ
    rw [wX8_leastRaise_9]
    exact br_lt 20 j (fun _ => by rw [im1]; exact hQ) (fun c => by omega)
  | succ m' ih =>
    intro j hj hQ
    obtain ⟨q1, q2, q3, q4, q5, q6⟩ := raise_ok d1 d2 hk (show j ≤ 20 by omega)
    obtain ⟨a1, a2⟩ := adj j (by omega)
    rw [show Int32.ofNat j = iI (j : Int) from nI_i j] at a1 a2
    have hq : F32 (FP.fadd FP.fconst1 (FP.fdiv (FP.i2f (iI j)) 1258291200)) (8388608 + j) (-23) := ⟨_, _, a2, Or.inl ⟨show 8388608 ≤ 8388608 + j by omega, show 8388608 + j < 16777216 by omega, show (-149 : Int) ≤ -23 by decide, show (-23 : Int) ≤ 104 by decide⟩, VE_refl _ _⟩
    have hb := Nat.mul_le_mul (show nrs (2 ^ k) d ≤ 16777216 by omega) (show 8388608 + j ≤ 8388628 by omega)
    have e80 : (2 : Nat) ^ 80 = 1208925819614629174706176 := by decide
    have hm := F32_mul hr hq (by omega) (by omega) (by omega)
    have hm2 : F32 (FP.fmul (FP.fdiv FP.fconst1 (FP.i2f (iI d))) (FP.fadd FP.fconst1 (FP.fdiv (FP.i2f (iI j)) 1258291200))) (rj (nrs (2 ^ k) d) j) (-((k + 23 - tj (nrs (2 ^ k) d) j : Nat) : Int)) := by
      obtain ⟨c, q, f1, f2, f3⟩ := hm
      refine ⟨c, q, f1, f2, VE_trans f3 ?_⟩
      show VE (Rj (nrs (2 ^ k) d) j) _ _ _
      unfold VE
      rw [show (-(k : Int) + -23 - -((k + 23 - tj (nrs (2 ^ k) d) j : Nat) : Int)).toNat = 0 by omega, show (-((k + 23 - tj (nrs (2 ^ k) d) j : Nat) : Int) - (-(k : Int) + -23)).toNat = tj (nrs (2 ^ k) d) j by omega, Nat.pow_zero, Nat.mul_one]
      exact q1
    rw [wX8_leastRaise_9]
    refine br_lt 20 j (fun c => by omega) (fun _ => ⟨F32_n hr, a1, F32_n hq, F32_n hm2, fun x3 hx3 => c_great w16 ?_⟩)
    subst hx3
    rw [show (2 : Int) ^ W - 1 = ((2 ^ W - 1 : Nat) : Int) by have := pwN W; omega]
    refine c_ffm hm2 (by omega) (by omega) d1 d2 (by omega) q6 ?_
    rw [show 2 ^ W - 1 + 1 = 2 ^ W by omega]
    have fb := fw_b (P := gdP 24 (rj (nrs (2 ^ k) d) j) (k + 23 - tj (nrs (2 ^ k) d) j) d) (2 ^ W) 0
    rw [show lrF (lrG W d k (nrs (2 ^ k) d)) (m' + 1) j = if lrG W d k (nrs (2 ^ k) d) j = true then (j : Int) else lrF (lrG W d k (nrs (2 ^ k) d)) m' (j + 1) from rfl] at hQ
    refine br_m1 _ (fun c => ?_) (fun c y hy => ?_) (by omega) (by omega)
    · rw [if_pos (show lrG W d k (nrs (2 ^ k) d) j = true from decide_eq_true c)] at hQ; exact hQ
    · rw [if_neg (show ¬ lrG W d k (nrs (2 ^ k) d) j = true from fun q => c (of_decide_eq_true q))] at hQ
      have e : y = iI ((j + 1 : Nat) : Int) := by rw [hy]; show iI j + iI 1 = _; rw [iI_add]; rfl
      rw [e]; exact ih (j + 1) (by omega) hQ
theorem m_lr98 {v : Nat → Int32} {W d r s j : Nat} (hv : v 0 = iI W) (w16 : W ≤ 16) (d1 : 1 ≤ d) (d2 : d < 65536) (hr : r ≤ 16777216) (hs : s < 64) (hn : near r s d) {Q : Int32 → Int32 → Prop} {K : Int32 → Prop} : ∀ m n : Nat, n + m = 2 ^ W → (fwF (gdP 24 r s d) m n = -1 → Q (iI j) 0) → (¬ fwF (gdP 24 r s d) m n = -1 → K (iI ((j + 1 : Nat) : Int))) → wX9_leastRaise_98 v (iI d) Q (iI j) K (lI r) (iI s) (m + 1) 1 (lI n) := by
  have hW := pl w16
  have nAll : ∀ {Q : Int64 → Prop}, Q (lI ((2 ^ W : Nat) : Int)) → wX9_all v Q := fun h => m_all hv w16 (by rw [← pwN]; exact h)
  have bad : (K (iI ((j + 1 : Nat) : Int))) → ∀ x : Int32, x = iI j + 1 → K x := by
    intro h x hx
    have e : x = iI ((j + 1 : Nat) : Int) := by rw [hx]; show iI j + iI 1 = _; rw [iI_add]; rfl
    rw [e]; exact h
  intro m
  induction m with
  | zero =>
    intro n h hT hF
    rw [wX9_leastRaise_98]
    exact nAll (nn_le (fun _ => ⟨fun c => absurd c (by decide), fun _ => hT rfl⟩) (fun c => by omega) (by omega) (by omega))
  | succ m ih =>
    intro n h hT hF
    have hb := RFb (p := 24) (by decide) d1 hn (n := n) (by omega)
    have hdv : RF 24 (n * r) / 2 ^ s ≤ 2 * n := Nat.div_le_of_le_mul (by rw [Nat.mul_comm (2 ^ s)]; exact hb)
    have hnr := Nat.mul_le_mul (show n ≤ 65536 by omega) hr
    have hrl := (RF_rel (p := 24) (by decide) (n * r)).1
    have hnd : n / d ≤ n := Nat.div_le_self _ _
    have e1 : ∀ y : Int64, y = lI (n : Int) + 1 → y = lI ((n + 1 : Nat) : Int) := fun y hy => by rw [hy]; show _ + lI ((1 : Nat) : Int) = _; rw [nadd]
    rw [wX9_leastRaise_98]
    refine nAll (nn_le (fun c => by omega) (fun _ => ⟨fun c => absurd c (by decide), fun _ => ?_⟩) (by omega) (by omega))
    rw [nmul, iI_l (z := (d : Int)) (by omega) (by omega)]
    refine m_rf (by omega) (br_lt s 0 (fun c => by omega) (fun _ => ⟨lI_ne0 (by omega) (by omega) (by omega), ?_⟩))
    rw [nshr hs (by omega), ndiv d1 (by omega) (by omega)]
    rw [show fwF (gdP 24 r s d) (m + 1) n = if gdP 24 r s d n = true then fwF (gdP 24 r s d) m (n + 1) else (n : Int) from rfl] at hT hF
    refine nn_eq (fun c y hy => ?_) (fun c y hy => ?_) (by omega) (by omega)
    · rw [if_pos (show gdP 24 r s d n = true from decide_eq_true c)] at hT hF
      rw [e1 y hy]; exact ih (n + 1) (by omega) hT hF
    · rw [if_neg (show ¬ gdP 24 r s d n = true from fun q => c (of_decide_eq_true q))] at hT hF
      have hK := bad (hF (by omega))
      rw [e1 y hy, wX9_leastRaise_98]
      refine nAll (nn_le (fun _ => ⟨fun _ => hK, fun q => absurd rfl q⟩) (fun _ => ⟨fun _ => ⟨fun _ => hK, fun q => absurd rfl q⟩, fun q => absurd rfl q⟩) (by omega) (by omega))
theorem m_lr67 {v : Nat → Int32} {d r s : Nat} {j : Int32} (hr1 : r % 2 = 1) (hs : s ≤ 100) {Q : Int32 → Int32 → Prop} {K : Int32 → Prop} (h : ∃ k9, wX9_leastRaise_98 v (iI d) Q j K (lI r) (iI s) k9 1 0) : ∀ t : Nat, r * 2 ^ t < 4611686018427387904 → t ≤ 100 → wX9_leastRaise_67 v (iI d) Q j K (t + 1) (lI ((r * 2 ^ t : Nat) : Int)) (iI ((s + t : Nat) : Int)) := by
  have od : ∀ a : Nat, a < 9223372036854775808 → lI (a : Int) - lI (a : Int) / 2 * 2 = lI ((a % 2 : Nat) : Int) := fun a ha => by
    show lI (a : Int) - lI (a : Int) / lI ((2 : Nat) : Int) * lI ((2 : Nat) : Int) = _
    rw [nrem ha (by omega)]
  intro t
  induction t with
  | zero =>
    intro hb _
    rw [Nat.pow_zero, Nat.mul_one] at hb ⊢
    rw [wX9_leastRaise_67, od r (by omega)]
    exact nn_eq (b := 0) (fun c => by omega) (fun _ => h) (by omega) (by omega)
  | succ t ih =>
    intro hb ht
    have e : r * 2 ^ (t + 1) = 2 * (r * 2 ^ t) := by rw [Nat.pow_succ, ← Nat.mul_assoc, Nat.mul_comm]
    rw [e] at hb ⊢
    rw [wX9_leastRaise_67, od _ (by omega)]
    refine nn_eq (b := 0) (fun _ x hx y hy => ?_) (fun c => by omega) (by omega) (by omega)
    have ex : x = lI ((r * 2 ^ t : Nat) : Int) := by
      rw [hx]; show _ / lI ((2 : Nat) : Int) = _
      rw [ndiv (by decide) (by omega) (by omega), Nat.mul_div_cancel_left _ (by decide)]
    have ey : y = iI ((s + t : Nat) : Int) := by rw [hy, im1, iI_add]; congr 1; omega
    rw [ex, ey]
    exact ih (by omega) (by omega)
theorem m_lr40 {v : Nat → Int32} {W d k : Nat} (hv : v 0 = iI W) (w16 : W ≤ 16) (d1 : 1 ≤ d) (d2 : d < 65536) (hk : k = 23 + lgU d) {Q : Int32 → Int32 → Prop} : ∀ m' j : Nat, j + m' = 21 → Q (iI (lrF (lrG W d k (nrs (2 ^ k) d)) m' j)) 0 → wX9_leastRaise_40 v (iI d) Q (iI k) (lI (nrs (2 ^ k) d : Nat)) (m' + 1) (iI j) := by
  obtain ⟨l1, l2, l3⟩ := lgU_ok d2
  obtain ⟨b0, b1, b2⟩ := rec_k (P := 23) d1 d2 (by decide) (by decide)
  rw [← hk] at b0 b1 b2
  have b2' : nrs (2 ^ k) d < 16777216 := b2
  intro m'
  induction m' with
  | zero =>
    intro j hj hQ
    rw [wX9_leastRaise_40]
    exact br_lt 20 j (fun _ => by rw [im1]; exact hQ) (fun c => by omega)
  | succ m' ih =>
    intro j hj hQ
    obtain ⟨q1, q2, q3, q4, q5, q6⟩ := raise_ok d1 d2 hk (show j ≤ 20 by omega)
    have hb := Nat.mul_le_mul (show nrs (2 ^ k) d ≤ 16777216 by omega) (show 8388608 + j ≤ 8388628 by omega)
    rw [wX9_leastRaise_40, iI_l (z := (j : Int)) (by omega) (by omega)]
    have ea : (8388608 : Int64) + lI (j : Int) = lI ((8388608 + j : Nat) : Int) := by show lI ((8388608 : Nat) : Int) + _ = _; rw [nadd]
    rw [ea, nmul]
    refine br_lt 20 j (fun c => by omega) (fun _ => m_rf (by omega) (fun x8 h8 => ?_))
    have e8 : x8 = iI ((k + 23 - tj (nrs (2 ^ k) d) j + tj (nrs (2 ^ k) d) j : Nat) : Int) := by rw [h8]; show iI _ + iI 23 = _; rw [iI_add]; congr 1; omega
    rw [e8]
    show ∃ k9, wX9_leastRaise_67 _ _ _ _ _ k9 (lI ((Rj (nrs (2 ^ k) d) j : Nat) : Int)) _
    rw [show lrF (lrG W d k (nrs (2 ^ k) d)) (m' + 1) j = if lrG W d k (nrs (2 ^ k) d) j = true then (j : Int) else lrF (lrG W d k (nrs (2 ^ k) d)) m' (j + 1) from rfl] at hQ
    have hb2 : rj (nrs (2 ^ k) d) j * 2 ^ tj (nrs (2 ^ k) d) j < 4611686018427387904 := by rw [← q1]; omega
    rw [q1]
    refine ⟨_, m_lr67 q2 (by omega) ⟨_, m_lr98 hv w16 d1 d2 q4 (by omega) q6 (2 ^ W) 0 (Nat.zero_add _) (fun c => ?_) (fun c => ?_)⟩ (tj (nrs (2 ^ k) d) j) hb2 (by omega)⟩
    · rw [if_pos (show lrG W d k (nrs (2 ^ k) d) j = true from decide_eq_true c)] at hQ; exact hQ
    · rw [if_neg (show ¬ lrG W d k (nrs (2 ^ k) d) j = true from fun q => c (of_decide_eq_true q))] at hQ
      exact ih (j + 1) (by omega) hQ

set_option maxHeartbeats 1000000 in
theorem s_33 {L : Nat} {xs : Nat → Int32} (hL : L ≤ 3072) {aP : Nat → Nat} {i : Int32} (hi0 : 0 ≤ i.toInt) (hi6 : i.toInt + 6 ≤ L) {t_generator_input : Int32} {t_program_width : Int32} {t_program_length : Int32} {t_program_result : Int32} {t_program_taskKind : Int32} {t_program_taskDivisor : Int32} {f_t_program_operations : Nat → Int32} {f_t_program_firsts : Nat → Int32} {f_t_program_seconds : Nat → Int32} {f_t_costs : Nat → Int32} {t_history_next : Int32} {t_history_kept : Int32} {f_t_machine_values : Nat → Int32} {f_t_machine_depths : Nat → Int32} {f_t_tidier_newNumbers : Nat → Int32} {f_t_tidier_needed : Nat → Int32} {t_listing_left : Int32} {t_listing_seen : Int32} {sW : Nat → Int32} {sL : Nat → Int32} {sR : Nat → Int32} {sK : Nat → Int32} {sD : Nat → Int32} {sO : Nat → Nat → Int32} {sF : Nat → Nat → Int32} {sS : Nat → Nat → Int32} {k_edits : Int32} {k_thrown : Int32} {k_outs : Int32} {f_k_v : Nat → Int32} {f_k_past : Nat → Int32} {f_k_costs : Nat → Int32} {f_k_into : Nat → Int32} {f_k_isNeeded : Nat → Int32} {f_k_depths : Nat → Int32} {f_k_names : Nat → Int32} {f_k_out : Nat → Int32} {f_k_has : Nat → Int64} {f_out : Nat → Int64} (hR : Rel t_generator_input t_program_width t_program_length t_program_result t_program_taskKind t_program_taskDivisor f_t_program_operations f_t_program_firsts f_t_program_seconds f_t_costs t_history_next t_history_kept f_t_machine_values f_t_machine_depths f_t_tidier_newNumbers f_t_tidier_needed t_listing_left t_listing_seen sW sL sR sK sD sO sF sS k_edits k_thrown k_outs f_k_v f_k_past f_k_costs f_k_into f_k_isNeeded f_k_depths f_k_names f_k_out f_k_has f_out) : wc_33 L xs aP i t_generator_input t_program_width t_program_length t_program_result t_program_taskKind t_program_taskDivisor f_t_program_operations f_t_program_firsts f_t_program_seconds f_t_costs t_history_next t_history_kept f_t_machine_values f_t_machine_depths f_t_tidier_newNumbers f_t_tidier_needed t_listing_left t_listing_seen sW sL sR sK sD sO sF sS k_edits k_thrown k_outs f_k_v f_k_past f_k_costs f_k_into f_k_isNeeded f_k_depths f_k_names f_k_out f_k_has f_out Rel := by
  have hR' := hR
  obtain ⟨gi, hcst, hnm, hd0, ⟨W, N, R, kd, dv, code⟩, nx, E, hs, hw, hc, hm, hx, hE8, hws, hch, hmh⟩ := hR
  have w4 : 4 ≤ W := hw.1
  have w16 : W ≤ 16 := hw.2.1
  have n40 : N ≤ 40 := hw.2.2.1
  have rN : R ≤ N := hw.2.2.2.1
  have tk : kd = -1 ∨ tsk W kd dv := hw.2.2.2.2.1
  have wfc : ∀ i, i < N → wfI W i (code i) := hw.2.2.2.2.2
  obtain ⟨p16, pm, ph⟩ := pw w4 w16
  have e1 : t_program_width = iI W := hc.1
  have e2 : t_program_length = iI N := hc.2.1
  have e3 : t_program_result = iI R := hc.2.2.1
  have e4 : t_program_taskKind = iI kd := hc.2.2.2.1
  have hd : kd ≠ -1 → t_program_taskDivisor = iI dv := hc.2.2.2.2.1
  have hcc : cCode N code f_t_program_operations f_t_program_firsts f_t_program_seconds := hc.2.2.2.2.2
  have hv0 : f_k_v 0 = iI W := hm.1
  have hv3 : f_k_v 3 = iI N := hm.2.1
  have hv4 : f_k_v 4 = iI R := hm.2.2.1
  have hv1 : f_k_v 1 = iI kd := hm.2.2.2.1
  have hv2 : kd ≠ -1 → f_k_v 2 = iI dv := hm.2.2.2.2.1
  have hmc : mCode N code f_k_v := hm.2.2.2.2.2
  have hpw := hPush_w hE8 hws hw
  subst e1 e2 e3 e4
  unfold wc_33
  refine ⟨ixl hL hi0 hi6 1 (by decide) (by decide), ?_⟩
  generalize xs (i + 1).toNatClampNeg = x
  obtain ⟨z, z1, z2, rfl⟩ := iI_of x
  unfold wL_leastRaise wX8_leastRaise wX9_leastRaise wX9_thrown wX9_fails
  refine c_req z 1 65535 (fun a b => ?_) (fun a => ?_)
  · obtain ⟨d, rfl⟩ : ∃ d : Nat, (d : Int) = z := ⟨z.toNat, by omega⟩
    have d1 : 1 ≤ d := by omega
    have d2 : d < 65536 := by omega
    obtain ⟨l1, l2, l3⟩ := lgU_ok d2
    obtain ⟨b0, b1, b2⟩ := rec_k (P := 23) d1 d2 (by decide) (by decide)
    have eP : iI ((23 : Nat) : Int) + iI (lgU d : Int) = iI ((23 + lgU d : Nat) : Int) := by rw [iI_add]; rfl
    refine ⟨_, c_lr9 w4 w16 d1 d2 rfl 21 0 rfl ?_⟩
    refine ⟨in01, ixl hL hi0 hi6 1 (by decide) (by decide), m_in65 z1 z2 (fun _ _ => ⟨fun q => absurd q (by decide), fun _ => m_lg d2 (fun x2 hx2 => ?_)⟩) (fun q => absurd ⟨a, b⟩ q)⟩
    have ex : x2 = iI ((23 + lgU d : Nat) : Int) := by rw [hx2]; exact eP
    subst ex
    exact m_rec d1 d2 (by omega) b0 ⟨_, m_lr40 hv0 w16 d1 d2 rfl 21 0 rfl (end_ok (by rw [up00]) hR')⟩
  · refine ⟨rfl, ixl hL hi0 hi6 1 (by decide) (by decide), m_in65 z1 z2 (fun a' b' => absurd ⟨a', b'⟩ a) (fun _ => ⟨fun _ => end_no (by decide) hR', fun q => absurd rfl q⟩)⟩
