/-! programs, as the class keeps them and as the reference keeps them -/
abbrev Opd : Type := Bool × Nat
abbrev Ins : Type := Nat × Opd × Opd
/-- an operand as the class keeps it -/
def cOp (q : Opd) : Int32 := if q.1 = true then iI q.2 else iI (-1 - q.2)
def bN (b : Bool) : Int32 := if b = true then 1 else 0
/-- width, length, result, kind, divisor, code -/
abbrev Prg : Type := Nat × Nat × Nat × Int × Int × (Nat → Ins)
def cPrg (P : Prg) (w n r k d : Int32) (o f s : Nat → Int32) : Prop :=
  w = iI P.1 ∧ n = iI P.2.1 ∧ r = iI P.2.2.1 ∧ k = iI P.2.2.2.1 ∧ (P.2.2.2.1 ≠ -1 → d = iI P.2.2.2.2.1) ∧ ∀ i, i < P.2.1 → o i = iI (P.2.2.2.2.2 i).1 ∧ f i = cOp (P.2.2.2.2.2 i).2.1 ∧ s i = cOp (P.2.2.2.2.2 i).2.2
def mIns (q : Ins) (v : Nat → Int32) (a : Nat) : Prop := v a = iI q.1 ∧ v (a + 1) = bN q.2.1.1 ∧ v (a + 2) = iI q.2.1.2 ∧ v (a + 3) = bN q.2.2.1 ∧ v (a + 4) = iI q.2.2.2
def mPrg (P : Prg) (v : Nat → Int32) : Prop :=
  v 0 = iI P.1 ∧ v 3 = iI P.2.1 ∧ v 4 = iI P.2.2.1 ∧ v 1 = iI P.2.2.2.1 ∧ (P.2.2.2.1 ≠ -1 → v 2 = iI P.2.2.2.2.1) ∧ ∀ i, i < P.2.1 → mIns (P.2.2.2.2.2 i) v (5 + 5 * i)
def wfO (W i : Nat) (q : Opd) : Prop := (q.1 = true → (q.2 : Int) < 2 ^ W) ∧ (q.1 = false → q.2 ≤ i)
def wfI (W i : Nat) (q : Ins) : Prop := q.1 ≤ 11 ∧ wfO W i q.2.1 ∧ wfO W i q.2.2 ∧ ((q.1 ≤ 2 ∨ q.1 = 10) → q.2.2.1 = true ∧ q.2.2.2 < W)
def tsk (W : Nat) (kd dv : Int) : Prop := ((kd = 0 ∨ kd = 1 ∨ kd = 5) ∧ 1 ≤ dv ∧ dv < 2 ^ W) ∨ ((kd = 2 ∨ kd = 3) ∧ dv ≠ 0 ∧ -2 ^ (W - 1) ≤ dv ∧ dv < 2 ^ (W - 1)) ∨ (kd = 4 ∧ 1 ≤ dv ∧ dv < 2 ^ (W - 1)) ∨ (kd = 6 ∧ 2 ≤ dv ∧ dv < 2 ^ W) ∨ (kd = 7 ∧ 0 ≤ dv ∧ dv < 2 ^ W)
def wPrg (P : Prg) : Prop := 4 ≤ P.1 ∧ P.1 ≤ 16 ∧ P.2.1 ≤ 40 ∧ P.2.2.1 ≤ P.2.1 ∧ (P.2.2.2.1 = -1 ∨ tsk P.1 P.2.2.2.1 P.2.2.2.2.1) ∧ ∀ i, i < P.2.1 → wfI P.1 i (P.2.2.2.2.2 i)
def cHist (nx E : Nat) (hs : Nat → Prg) (next kept : Int32) (sW sL sR sK sD : Nat → Int32) (sO sF sS : Nat → Nat → Int32) : Prop :=
  next = iI nx ∧ kept = iI E ∧ ∀ e j, e < E → j = (nx + 8 - E + e) % 8 → cPrg (hs e) (sW j) (sL j) (sR j) (sK j) (sD j) (sO j) (sF j) (sS j)
def mHist (E : Nat) (hs : Nat → Prg) (edits : Int32) (past : Nat → Int32) : Prop := edits = iI E ∧ ∀ e, e < E → mPrg (hs e) (fun k => past (206 * e + k))
def hPush (E : Nat) (hs : Nat → Prg) (P : Prg) : Nat → Prg := if E = 8 then fun e => if e = 7 then P else hs (e + 1) else fun e => if e = E then P else hs e
def hE (E : Nat) : Nat := if E = 8 then 8 else E + 1
theorem nI_iI (n : Nat) : nI n = iI n := nI_i n
/-- a copy of a program -/
theorem c_copy {P : Prg} (hw : wPrg P) {w n r k d : Int32} {o f s : Nat → Int32} (hP : cPrg P w n r k d o f s) {w0 n0 r0 k0 d0 : Int32} {o0 f0 s0 : Nat → Int32} {Q : Int32 → Int32 → Int32 → Int32 → Int32 → (Nat → Int32) → (Nat → Int32) → (Nat → Int32) → Prop} (h : ∀ o' f' s', cPrg P w n r k d o' f' s' → Q w n r k d o' f' s') :
    wX5_copyFrom w0 n0 r0 k0 d0 o0 f0 s0 w n r k d o f s Q := by
  obtain ⟨h1, h2, h3, h4, h5, h6⟩ := hP
  obtain ⟨g1, g2, g3, -⟩ := hw
  have hn : n.toNatClampNeg = P.2.1 := by rw [h2]; exact iI_clN (by omega)
  have hz : ((0 : Int32).toNatClampNeg) = 0 := rfl
  have hlt : ¬ n < 0 := by
    rw [h2, show (0 : Int32) = iI 0 from rfl, iI_lt (by omega) (by omega) (by omega) (by omega)]; omega
  unfold wX5_copyFrom
  rw [hn, hz]
  refine ⟨⟨by decide, by decide, hlt, by omega, by omega⟩, ⟨by decide, by decide, hlt, by omega, by omega⟩, ⟨by decide, by decide, hlt, by omega, by omega⟩, ?_⟩
  refine h _ _ _ ⟨h1, h2, h3, h4, h5, fun i hi => ?_⟩
  have e : ∀ a b : Nat → Int32, va_cpy a b 0 0 P.2.1 i = a i := fun a b => by
    rw [pk_cpy_in (Nat.zero_le _) (by omega)]; simp
  rw [e, e, e]
  exact h6 i hi
theorem c_next (nx : Nat) (h : nx < 8) : (iI nx + 1) - (iI nx + 1) / 8 * 8 = iI (((nx + 1) % 8 : Nat) : Int) := by
  have : ∀ n : Nat, n < 8 → (iI n + 1) - (iI n + 1) / 8 * 8 = iI (((n + 1) % 8 : Nat) : Int) := by decide
  exact this nx h
theorem c_kept (E : Nat) (h : E ≤ 8) : (if 8 < (iI E + 1) then 8 else (iI E + 1)) = iI (hE E) := by
  have : ∀ n : Nat, n < 9 → (if 8 < (iI n + 1) then 8 else (iI n + 1)) = iI (hE n) := by decide
  exact this E (by omega)
theorem c_rem {aP : Nat → Nat} {P : Prg} (hw : wPrg P) {w n r k d : Int32} {o f s : Nat → Int32} (hP : cPrg P w n r k d o f s) {nx E : Nat} {hs : Nat → Prg} (hx : nx < 8) (hE8 : E ≤ 8) {next kept : Int32} {sW sL sR sK sD : Nat → Int32} {sO sF sS : Nat → Nat → Int32} (hH : cHist nx E hs next kept sW sL sR sK sD sO sF sS)
    {K : Int32 → Int32 → (Nat → Int32) → (Nat → Int32) → (Nat → Int32) → (Nat → Int32) → (Nat → Int32) → (Nat → Nat → Int32) → (Nat → Nat → Int32) → (Nat → Nat → Int32) → Prop} (h : ∀ next' kept' sW' sL' sR' sK' sD' sO' sF' sS', cHist ((nx + 1) % 8) (hE E) (hPush E hs P) next' kept' sW' sL' sR' sK' sD' sO' sF' sS' → K next' kept' sW' sL' sR' sK' sD' sO' sF' sS') :
    ∃ j9 : Nat, j9 < 8 ∧ wX1_remember (aP j9) next kept ((fun k9 => some (aP k9))) w n r k d o f s (sW j9) (sL j9) (sR j9) (sK j9) (sD j9) (sO j9) (sF j9) (sS j9) (fun n_t_next n_t_kept n_s_width n_s_length n_s_result n_s_taskKind n_s_taskDivisor n_f_s_operations n_f_s_firsts n_f_s_seconds => K n_t_next n_t_kept (va_up sW j9 n_s_width) (va_up sL j9 n_s_length) (va_up sR j9 n_s_result) (va_up sK j9 n_s_taskKind) (va_up sD j9 n_s_taskDivisor) (va_up sO j9 n_f_s_operations) (va_up sF j9 n_f_s_firsts) (va_up sS j9 n_f_s_seconds)) := by
  obtain ⟨e1, e2, e3⟩ := hH
  refine ⟨nx, hx, ?_⟩
  unfold wX1_remember
  have hcl : next.toNatClampNeg = nx := by rw [e1]; exact iI_clN (by omega)
  refine ⟨by rw [e1]; exact iI_in (by omega) (by omega) (by omega), by rw [hcl], ?_⟩
  refine c_copy hw hP (fun o' f' s' hc => ?_)
  rw [e1, e2, c_next nx hx, c_kept E hE8]
  refine h _ _ _ _ _ _ _ _ _ _ ⟨rfl, rfl, fun e j he hj => ?_⟩
  have up : ∀ {α : Type} (g : Nat → α) (x : α), va_up g nx x nx = x := fun g x => by simp [va_up]
  have un : ∀ {α : Type} (g : Nat → α) (x : α) {j : Nat}, j ≠ nx → va_up g nx x j = g j := fun g x j hj => by simp [va_up, hj]
  by_cases h8 : E = 8
  · subst h8
    simp only [hE, hPush, if_true] at he hj ⊢
    by_cases h7 : e = 7
    · subst h7
      have : j = nx := by omega
      subst this
      simp only [up, if_true]
      exact hc
    · have hjn : j ≠ nx := by omega
      simp only [un _ _ hjn, if_neg h7]
      exact e3 (e + 1) j (by omega) (by omega)
  · simp only [hE, hPush, if_neg h8] at he hj ⊢
    by_cases h7 : e = E
    · subst h7
      have : j = nx := by omega
      subst this
      simp only [up, if_true]
      exact hc
    · have hjn : j ≠ nx := by omega
      simp only [un _ _ hjn, if_neg h7]
      exact e3 e j (by omega) (by omega)
