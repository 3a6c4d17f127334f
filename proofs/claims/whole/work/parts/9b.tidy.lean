/-! tidying: what is kept -/
def mO (t : Nat → Nat) (q : Opd) : Opd := if q.1 = true then q else (false, t q.2)
def mI (t : Nat → Nat) (q : Ins) : Ins := (q.1, mO t q.2.1, mO t q.2.2)
theorem mO_t {t : Nat → Nat} {q : Opd} (h : q.1 = true) : mO t q = q := by unfold mO; rw [if_pos h]
theorem mO_f {t : Nat → Nat} {q : Opd} (h : q.1 = false) : mO t q = (false, t q.2) := by unfold mO; rw [if_neg (by rw [h]; decide)]
theorem mO_1 (t : Nat → Nat) (q : Opd) : (mO t q).1 = q.1 := by
  cases h : q.1 with
  | true => rw [mO_t h, h]
  | false => rw [mO_f h]
theorem mO_cong {W i : Nat} {t t' : Nat → Nat} {q : Opd} (hq : wfO W i q) (h : ∀ x, x ≤ i → t x = t' x) : mO t q = mO t' q := by
  cases c : q.1 with
  | true => rw [mO_t c, mO_t c]
  | false => rw [mO_f c, mO_f c, h _ (hq.2 c)]
theorem mO_mO (t u : Nat → Nat) (q : Opd) : mO t (mO u q) = mO (fun x => t (u x)) q := by
  cases c : q.1 with
  | true => rw [mO_t c, mO_t c, mO_t c]
  | false => rw [mO_f c, mO_f c, mO_f rfl]
def gL (P : Nat → Bool) : Nat → Nat → Nat
  | 0, cur => cur
  | n + 1, cur => gL P n (if P n = true then n + 1 else cur)
theorem gL_spec (P : Nat → Bool) : ∀ n cur, (∃ j, j < n ∧ P j = true ∧ (∀ k, k < j → P k = false) ∧ gL P n cur = j + 1) ∨ ((∀ j, j < n → P j = false) ∧ gL P n cur = cur)
  | 0, cur => Or.inr ⟨fun j h => absurd h (Nat.not_lt_zero _), rfl⟩
  | n + 1, cur => by
    have ih := gL_spec P n (if P n = true then n + 1 else cur)
    have e : gL P (n + 1) cur = gL P n (if P n = true then n + 1 else cur) := rfl
    rw [e]
    rcases ih with ⟨j, h1, h2, h3, h4⟩ | ⟨h1, h2⟩
    · exact Or.inl ⟨j, by omega, h2, h3, h4⟩
    · by_cases c : P n = true
      · rw [if_pos c] at h2 ⊢
        exact Or.inl ⟨n, by omega, c, h1, h2⟩
      · rw [if_neg c] at h2 ⊢
        refine Or.inr ⟨fun j hj => ?_, h2⟩
        by_cases d : j = n
        · rw [d]; exact Bool.eq_false_iff.mpr c
        · exact h1 j (by omega)
theorem gL_cong {P P' : Nat → Bool} : ∀ n cur, (∀ j, j < n → P j = P' j) → gL P n cur = gL P' n cur
  | 0, cur, h => rfl
  | n + 1, cur, h => by
    show gL P n (if P n = true then n + 1 else cur) = gL P' n (if P' n = true then n + 1 else cur)
    rw [h n (by omega)]
    exact gL_cong n _ (fun j hj => h j (by omega))
def jP (J : Nat → Nat) (code : Nat → Ins) (i : Nat) : Nat → Bool := fun j => decide (J (j + 1) = j + 1) && decide (mI J (code j) = mI J (code i))
def isJ (N : Nat) (code : Nat → Ins) (J : Nat → Nat) : Prop := J 0 = 0 ∧ ∀ i, i < N → J (i + 1) = gL (jP J code i) i (i + 1)
theorem mI_cong {W i : Nat} {t t' : Nat → Nat} {q : Ins} (hq : wfI W i q) (h : ∀ x, x ≤ i → t x = t' x) : mI t q = mI t' q := by
  unfold mI; rw [mO_cong hq.2.1 h, mO_cong hq.2.2.1 h]
theorem jP_cong {W i j : Nat} {t t' : Nat → Nat} {code : Nat → Ins} (hi : wfI W i (code i)) (hj : wfI W j (code j)) (hij : j < i) (e : ∀ x, x ≤ i → t x = t' x) : jP t code i j = jP t' code i j := by
  unfold jP
  rw [e (j + 1) (by omega), mI_cong hj (fun x hx => e x (by omega)), mI_cong hi e]
theorem ex_J {W N : Nat} {code : Nat → Ins} (wfc : ∀ i, i < N → wfI W i (code i)) : ∃ J, isJ N code J := by
  refine ⟨fun x => tab (fun i t => gL (jP t code i) i (i + 1)) (fun _ => 0) x x, rfl, fun i hi => ?_⟩
  have e : ∀ x, x ≤ i → tab (fun i t => gL (jP t code i) i (i + 1)) (fun _ => 0) i x = tab (fun i t => gL (jP t code i) i (i + 1)) (fun _ => 0) x x := fun x hx => tab_le _ _ (Nat.le_refl x) hx
  show (if i + 1 = i + 1 then gL (jP (tab (fun i t => gL (jP t code i) i (i + 1)) (fun _ => 0) i) code i) i (i + 1) else _) = _
  rw [if_pos rfl]
  exact gL_cong i _ (fun j hj => jP_cong (wfc i hi) (wfc j (by omega)) hj e)
theorem J_le {N : Nat} {code : Nat → Ins} {J : Nat → Nat} (h : isJ N code J) : ∀ x, x ≤ N → J x ≤ x
  | 0, _ => by rw [h.1]; exact Nat.le_refl _
  | i + 1, hi => by
    rw [h.2 i (by omega)]
    rcases gL_spec (jP J code i) i (i + 1) with ⟨j, h1, -, -, h4⟩ | ⟨-, h2⟩ <;> omega
theorem J_J {N : Nat} {code : Nat → Ins} {J : Nat → Nat} (h : isJ N code J) : ∀ x, x ≤ N → J (J x) = J x
  | 0, _ => by rw [h.1, h.1]
  | i + 1, hi => by
    have e := h.2 i (by omega)
    rcases gL_spec (jP J code i) i (i + 1) with ⟨j, h1, h2, -, h4⟩ | ⟨-, h2⟩
    · rw [h4] at e
      rw [e]
      unfold jP at h2
      exact of_decide_eq_true (Bool.and_eq_true_iff.mp h2).1
    · rw [h2] at e; rw [e, e]
def rho (J : Nat → Nat) : Nat → Nat
  | 0 => 0
  | n + 1 => rho J n + (if J (n + 1) = n + 1 then 1 else 0)
theorem rho_s {J : Nat → Nat} {n : Nat} (h : J (n + 1) = n + 1) : rho J (n + 1) = rho J n + 1 := by show rho J n + _ = _; rw [if_pos h]
theorem rho_n {J : Nat → Nat} {n : Nat} (h : ¬ J (n + 1) = n + 1) : rho J (n + 1) = rho J n := by show rho J n + _ = _; rw [if_neg h]; rfl
theorem rho_mono {J : Nat → Nat} : ∀ {a : Nat} (m : Nat), rho J a ≤ rho J (a + m)
  | a, 0 => Nat.le_refl _
  | a, m + 1 => by
    have := @rho_mono J a m
    show rho J a ≤ rho J (a + m) + _
    omega
theorem rho_le {J : Nat → Nat} {a b : Nat} (h : a ≤ b) : rho J a ≤ rho J b := by
  have := @rho_mono J a (b - a)
  rw [show a + (b - a) = b by omega] at this; exact this
theorem rho_id {J : Nat → Nat} : ∀ n, rho J n ≤ n
  | 0 => Nat.le_refl _
  | n + 1 => by have := @rho_id J n; show rho J n + _ ≤ n + 1; split <;> omega
theorem rho_lt {J : Nat → Nat} {x y : Nat} (hy : J y = y) (h : x < y) : rho J x < rho J y := by
  obtain ⟨n, rfl⟩ : ∃ n, y = n + 1 := ⟨y - 1, by omega⟩
  have := @rho_le J x n (by omega)
  rw [rho_s hy]; omega
theorem rho_inj {J : Nat → Nat} {x y : Nat} (hx : J x = x) (hy : J y = y) (h : rho J x = rho J y) : x = y := by
  rcases Nat.lt_trichotomy x y with c | c | c
  · have := rho_lt hy c; omega
  · exact c
  · have := rho_lt hx c; omega
/-! operands as whole numbers -/
def cOz (q : Opd) : Int := if q.1 = true then (q.2 : Int) else -1 - (q.2 : Int)
theorem cOp_z (q : Opd) : cOp q = iI (cOz q) := by unfold cOp cOz; split <;> rfl
theorem cOz_inj {p q : Opd} (h : cOz p = cOz q) : p = q := by
  obtain ⟨a, m⟩ := p
  obtain ⟨b, n⟩ := q
  unfold cOz at h
  cases a <;> cases b
  · have h : -1 - (m : Int) = -1 - (n : Int) := h
    rw [show m = n by omega]
  · have h : -1 - (m : Int) = (n : Int) := h
    omega
  · have h : (m : Int) = -1 - (n : Int) := h
    omega
  · have h : (m : Int) = (n : Int) := h
    rw [show m = n by omega]
theorem cOz_b {q : Opd} (h : q.2 ≤ 65536) : -65537 ≤ cOz q ∧ cOz q ≤ 65536 := by unfold cOz; split <;> omega
theorem mO_le {t : Nat → Nat} {q : Opd} {W i : Nat} (w16 : W ≤ 16) (w4 : 4 ≤ W) (hi : i ≤ 40) (hq : wfO W i q) (ht : ∀ x, x ≤ i → t x ≤ x) : (mO t q).2 ≤ 65536 := by
  have := wf_le w16 w4 hi hq
  cases c : q.1 with
  | true => rw [mO_t c]; exact this
  | false => rw [mO_f c]; have := ht _ (hq.2 c); show t q.2 ≤ 65536; omega
theorem mO_inj {W i N : Nat} {code : Nat → Ins} {J : Nat → Nat} (hJ : isJ N code J) (hi : i ≤ N) {p q : Opd} (hp : wfO W i p) (hq : wfO W i q) (h : mO (fun x => rho J (J x)) p = mO (fun x => rho J (J x)) q) : mO J p = mO J q := by
  cases a : p.1 with
  | true =>
    cases b : q.1 with
    | true => rw [mO_t a, mO_t b] at h; rw [mO_t a, mO_t b]; exact h
    | false => rw [mO_t a, mO_f b] at h; rw [h] at a; exact absurd (show false = true from a) (by decide)
  | false =>
    cases b : q.1 with
    | true => rw [mO_f a, mO_t b] at h; rw [← h] at b; exact absurd (show false = true from b) (by decide)
    | false =>
      rw [mO_f a, mO_f b] at h
      have h2 : rho J (J p.2) = rho J (J q.2) := congrArg Prod.snd h
      rw [mO_f a, mO_f b, rho_inj (J_J hJ _ (by have := hp.2 a; omega)) (J_J hJ _ (by have := hq.2 b; omega)) h2]
theorem mO_fwd {J : Nat → Nat} {p q : Opd} (h : mO J p = mO J q) : mO (fun x => rho J (J x)) p = mO (fun x => rho J (J x)) q := by
  rw [← mO_mO (rho J) J p, ← mO_mO (rho J) J q, h]
/-! what is needed -/
def isO (q : Opd) (x : Nat) : Bool := decide (q.1 = false) && decide (q.2 = x)
def nds (N R : Nat) (J : Nat → Nat) (code : Nat → Ins) : Nat → Nat → Bool
  | 0, x => decide (x = J R)
  | m + 1, x => if nds N R J code m (N - 1 - m + 1) = true then (nds N R J code m x || isO (mO J (code (N - 1 - m)).2.1) x || isO (mO J (code (N - 1 - m)).2.2) x) else nds N R J code m x
theorem isO_t {t : Nat → Nat} {q : Opd} {x : Nat} (h : isO (mO t q) x = true) : q.1 = false ∧ t q.2 = x := by
  unfold isO at h
  have h1 := of_decide_eq_true (Bool.and_eq_true_iff.mp h).1
  have h2 := of_decide_eq_true (Bool.and_eq_true_iff.mp h).2
  rw [mO_1] at h1
  rw [mO_f h1] at h2
  exact ⟨h1, h2⟩
theorem nds_up {N R : Nat} {J : Nat → Nat} {code : Nat → Ins} {m x : Nat} (h : nds N R J code m x = true) : nds N R J code (m + 1) x = true := by
  unfold nds
  split
  · rw [h]; rfl
  · exact h
theorem nds_le {N R : Nat} {J : Nat → Nat} {code : Nat → Ins} {m x : Nat} (h : nds N R J code m x = true) : ∀ k, nds N R J code (m + k) x = true
  | 0 => h
  | k + 1 => nds_up (nds_le h k)
theorem nds_rt {W N R : Nat} {J : Nat → Nat} {code : Nat → Ins} (hJ : isJ N code J) (wfc : ∀ i, i < N → wfI W i (code i)) (rN : R ≤ N) : ∀ m x, m ≤ N → nds N R J code m x = true → J x = x ∧ x ≤ N
  | 0, x, hm, h => by
    have h : x = J R := of_decide_eq_true h
    rw [h]
    exact ⟨J_J hJ R rN, Nat.le_trans (J_le hJ R rN) rN⟩
  | m + 1, x, hm, h => by
    unfold nds at h
    have ih := nds_rt hJ wfc rN m x (by omega)
    split at h
    · have hw := wfc (N - 1 - m) (by omega)
      rcases Bool.or_eq_true_iff.mp h with h | h
      · rcases Bool.or_eq_true_iff.mp h with h | h
        · exact ih h
        · obtain ⟨a, b⟩ := isO_t h
          have hx := hw.2.1.2 a
          rw [← b]
          exact ⟨J_J hJ _ (by omega), Nat.le_trans (J_le hJ _ (by omega)) (by omega)⟩
      · obtain ⟨a, b⟩ := isO_t h
        have hx := hw.2.2.1.2 a
        rw [← b]
        exact ⟨J_J hJ _ (by omega), Nat.le_trans (J_le hJ _ (by omega)) (by omega)⟩
    · exact ih h
theorem nds_st {W N R : Nat} {J : Nat → Nat} {code : Nat → Ins} (hJ : isJ N code J) (wfc : ∀ i, i < N → wfI W i (code i)) {j : Nat} (hj : j < N) : ∀ k, N - 1 - j + k ≤ N → nds N R J code (N - 1 - j + k) (j + 1) = true → nds N R J code (N - 1 - j) (j + 1) = true
  | 0, hk, h => h
  | k + 1, hk, h => by
    refine nds_st hJ wfc hj k (by omega) ?_
    have h : nds N R J code (N - 1 - j + k + 1) (j + 1) = true := h
    unfold nds at h
    split at h
    · have hw := wfc (N - 1 - (N - 1 - j + k)) (by omega)
      rcases Bool.or_eq_true_iff.mp h with h | h
      · rcases Bool.or_eq_true_iff.mp h with h | h
        · exact h
        · obtain ⟨a, b⟩ := isO_t h
          have hx := hw.2.1.2 a
          have := J_le hJ _ (show (code (N - 1 - (N - 1 - j + k))).2.1.2 ≤ N by omega)
          omega
      · obtain ⟨a, b⟩ := isO_t h
        have hx := hw.2.2.1.2 a
        have := J_le hJ _ (show (code (N - 1 - (N - 1 - j + k))).2.2.2 ≤ N by omega)
        omega
    · exact h
/-- an operand of what is needed is needed -/
theorem nds_cl {W N R : Nat} {J : Nat → Nat} {code : Nat → Ins} (hJ : isJ N code J) (wfc : ∀ i, i < N → wfI W i (code i)) {j : Nat} (hj : j < N) (h : nds N R J code N (j + 1) = true) : ((code j).2.1.1 = false → nds N R J code N (J (code j).2.1.2) = true) ∧ ((code j).2.2.1 = false → nds N R J code N (J (code j).2.2.2) = true) := by
  have h1 := nds_st (R := R) hJ wfc hj (N - (N - 1 - j)) (by omega) (by rw [show N - 1 - j + (N - (N - 1 - j)) = N by omega]; exact h)
  have e : N - 1 - (N - 1 - j) = j := by omega
  have key : ∀ x, isO (mO J (code j).2.1) x = true ∨ isO (mO J (code j).2.2) x = true → nds N R J code N x = true := by
    intro x hx
    have h2 : nds N R J code (N - 1 - j + 1) x = true := by
      unfold nds
      rw [e, if_pos h1]
      rcases hx with hx | hx <;> rw [hx]
      · rw [Bool.or_true]; rfl
      · rw [Bool.or_true]
    have := nds_le h2 (N - (N - 1 - j + 1))
    rw [show N - 1 - j + 1 + (N - (N - 1 - j + 1)) = N by omega] at this
    exact this
  constructor
  · intro a
    refine key _ (Or.inl ?_)
    unfold isO
    rw [mO_f a, decide_eq_true rfl, decide_eq_true rfl]; rfl
  · intro a
    refine key _ (Or.inr ?_)
    unfold isO
    rw [mO_f a, decide_eq_true rfl, decide_eq_true rfl]; rfl
def En (nd : Nat → Bool) : Nat → Nat
  | 0 => 0
  | n + 1 => En nd n + (if nd (n + 1) = true then 1 else 0)
theorem En_s {nd : Nat → Bool} {n : Nat} (h : nd (n + 1) = true) : En nd (n + 1) = En nd n + 1 := by show En nd n + _ = _; rw [if_pos h]
theorem En_n {nd : Nat → Bool} {n : Nat} (h : ¬ nd (n + 1) = true) : En nd (n + 1) = En nd n := by show En nd n + _ = _; rw [if_neg h]; rfl
theorem En_le {nd : Nat → Bool} {a : Nat} : ∀ m, En nd a ≤ En nd (a + m)
  | 0 => Nat.le_refl _
  | m + 1 => by have := @En_le nd a m; show En nd a ≤ En nd (a + m) + _; omega
theorem En_mono {nd : Nat → Bool} {a b : Nat} (h : a ≤ b) : En nd a ≤ En nd b := by
  have := @En_le nd a (b - a)
  rw [show a + (b - a) = b by omega] at this; exact this
theorem En_rho {nd : Nat → Bool} {J : Nat → Nat} (h : ∀ x, nd x = true → J x = x) : ∀ n, En nd n ≤ rho J n
  | 0 => Nat.le_refl _
  | n + 1 => by
    have ih := En_rho h n
    by_cases c : nd (n + 1) = true
    · rw [En_s c, rho_s (h _ c)]; omega
    · rw [En_n c]; have := @rho_le J n (n + 1) (by omega); omega
def cdT (nd : Nat → Bool) (J : Nat → Nat) (code : Nat → Ins) : Nat → (Nat → Ins)
  | 0 => code
  | i + 1 => if nd (i + 1) = true then snoc (En nd i) (cdT nd J code i) (mI (En nd) (mI J (code i))) else cdT nd J code i
theorem wf_mI {W i N : Nat} {nd : Nat → Bool} {J : Nat → Nat} {code : Nat → Ins} (hJ : isJ N code J) (hi : i < N) (hq : wfI W i (code i)) : wfI W (En nd i) (mI (En nd) (mI J (code i))) := by
  have ho : ∀ q, wfO W i q → wfO W (En nd i) (mO (En nd) (mO J q)) := by
    intro q h
    cases c : q.1 with
    | true => rw [mO_t c, mO_t c]; exact ⟨h.1, fun d => by rw [c] at d; exact absurd d (by decide)⟩
    | false =>
      rw [mO_f c, mO_f rfl]
      refine ⟨fun d => absurd (show false = true from d) (by decide), fun _ => ?_⟩
      have h1 := h.2 c
      have := J_le hJ q.2 (by omega)
      exact En_mono (by omega)
  refine ⟨hq.1, ho _ hq.2.1, ho _ hq.2.2.1, fun c => ?_⟩
  obtain ⟨h1, h2⟩ := hq.2.2.2 c
  show (mO (En nd) (mO J (code i).2.2)).1 = true ∧ (mO (En nd) (mO J (code i).2.2)).2 < W
  rw [mO_t h1, mO_t h1]; exact ⟨h1, h2⟩
theorem wf_cdT {W N : Nat} {nd : Nat → Bool} {J : Nat → Nat} {code : Nat → Ins} (hJ : isJ N code J) (wfc : ∀ i, i < N → wfI W i (code i)) : ∀ i, i ≤ N → ∀ k, k < En nd i → wfI W k (cdT nd J code i k)
  | 0, _, k, hk => absurd hk (Nat.not_lt_zero _)
  | i + 1, hi, k, hk => by
    have ih := wf_cdT (nd := nd) hJ wfc i (by omega)
    unfold cdT
    by_cases c : nd (i + 1) = true
    · rw [if_pos c]
      rw [En_s c] at hk
      unfold snoc
      by_cases d : k = En nd i
      · subst d; rw [if_pos rfl]; exact wf_mI hJ (by omega) (wfc i (by omega))
      · rw [if_neg d]; exact ih k (by omega)
    · rw [if_neg c]; rw [En_n c] at hk; exact ih k hk
