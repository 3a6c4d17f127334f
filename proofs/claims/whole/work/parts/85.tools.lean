/-! branches, ranges -/
theorem br_lt (a b : Int) {A B : Prop} (f : a < b → A) (g : b ≤ a → B) (h1 : -2147483648 ≤ a := by omega) (h2 : a < 2147483648 := by omega) (h3 : -2147483648 ≤ b := by omega) (h4 : b < 2147483648 := by omega) : (iI a < iI b → A) ∧ (¬ iI a < iI b → B) := by
  rw [iI_lt h1 h2 h3 h4]; exact ⟨f, fun c => g (Int.not_lt.mp c)⟩
theorem br_le (a b : Int) {A B : Prop} (f : a ≤ b → A) (g : b < a → B) (h1 : -2147483648 ≤ a := by omega) (h2 : a < 2147483648 := by omega) (h3 : -2147483648 ≤ b := by omega) (h4 : b < 2147483648 := by omega) : (iI a ≤ iI b → A) ∧ (¬ iI a ≤ iI b → B) := by
  rw [iI_le h1 h2 h3 h4]; exact ⟨f, fun c => g (Int.not_le.mp c)⟩
theorem br_eq (a b : Int) {A B : Prop} (f : a = b → A) (g : a ≠ b → B) (h1 : -2147483648 ≤ a := by omega) (h2 : a < 2147483648 := by omega) (h3 : -2147483648 ≤ b := by omega) (h4 : b < 2147483648 := by omega) : (iI a = iI b → A) ∧ (¬ iI a = iI b → B) := by
  rw [iI_eq h1 h2 h3 h4]; exact ⟨f, g⟩
theorem bl_lt (a b : Int) {A B : Prop} (f : a < b → A) (g : b ≤ a → B) (h1 : -9223372036854775808 ≤ a := by omega) (h2 : a < 9223372036854775808 := by omega) (h3 : -9223372036854775808 ≤ b := by omega) (h4 : b < 9223372036854775808 := by omega) : (lI a < lI b → A) ∧ (¬ lI a < lI b → B) := by
  rw [lI_lt h1 h2 h3 h4]; exact ⟨f, fun c => g (Int.not_lt.mp c)⟩
theorem bl_le (a b : Int) {A B : Prop} (f : a ≤ b → A) (g : b < a → B) (h1 : -9223372036854775808 ≤ a := by omega) (h2 : a < 9223372036854775808 := by omega) (h3 : -9223372036854775808 ≤ b := by omega) (h4 : b < 9223372036854775808 := by omega) : (lI a ≤ lI b → A) ∧ (¬ lI a ≤ lI b → B) := by
  rw [lI_le h1 h2 h3 h4]; exact ⟨f, fun c => g (Int.not_le.mp c)⟩
theorem bl_eq (a b : Int) {A B : Prop} (f : a = b → A) (g : a ≠ b → B) (h1 : -9223372036854775808 ≤ a := by omega) (h2 : a < 9223372036854775808 := by omega) (h3 : -9223372036854775808 ≤ b := by omega) (h4 : b < 9223372036854775808 := by omega) : (lI a = lI b → A) ∧ (¬ lI a = lI b → B) := by
  rw [lI_eq h1 h2 h3 h4]; exact ⟨f, g⟩
theorem inI (z : Int) {n : Nat} (h1 : 0 ≤ z := by omega) (h2 : z < n := by omega) (h3 : n ≤ 2147483648 := by omega) : vp_in (iI z) n := iI_in h1 h2 h3
theorem nar01 {b : Int32} (h : b = 0 ∨ b = 1) : narrow .boolean (.int b) = .int b := by
  rcases h with rfl | rfl <;> rfl
theorem c_req (z a b : Int) {Q : Prop} {QX : String → Prop} (hT : a ≤ z → z ≤ b → Q) (hF : ¬ (a ≤ z ∧ z ≤ b) → QX xIA) (h1 : -2147483648 ≤ z := by omega) (h2 : z < 2147483648 := by omega) (h3 : -2147483648 ≤ a := by omega) (h4 : a < 2147483648 := by omega) (h5 : -2147483648 ≤ b := by omega) (h6 : b < 2147483648 := by omega) : wX8_requireFromTo (iI z) (iI a) (iI b) Q QX := by
  unfold wX8_requireFromTo wX8_requireFromTo_10
  exact br_lt z a (fun c => hF (by omega)) (fun c => br_le z b (fun d => hT c d) (fun d => hF (by omega)))
theorem c_reqV (z : Int) {N : Nat} (hN : N ≤ 40) {Q : Prop} {QX : String → Prop} (hT : 0 ≤ z → z ≤ N → Q) (hF : ¬ (0 ≤ z ∧ z ≤ N) → QX xIO) (h1 : -2147483648 ≤ z := by omega) (h2 : z < 2147483648 := by omega) : wX8_requireValue (iI N) (iI z) Q QX := by
  unfold wX8_requireValue wX8_requireValue_15
  exact br_lt z 0 (fun c => hF (by omega)) (fun c => br_le z N (fun d => hT c d) (fun d => hF (by omega)))
theorem c_reqI (z : Int) {N : Nat} (hN : N ≤ 40) {Q : Prop} {QX : String → Prop} (hT : 0 ≤ z → z < N → Q) (hF : ¬ (0 ≤ z ∧ z < N) → QX xIO) (h1 : -2147483648 ≤ z := by omega) (h2 : z < 2147483648 := by omega) : wX8_requireInstruction (iI N) (iI z) Q QX := by
  unfold wX8_requireInstruction wX8_requireInstruction_15
  exact br_lt z 0 (fun c => hF (by omega)) (fun c => br_lt z N (fun d => hT c d) (fun d => hF (by omega)))
theorem c_great {W : Nat} (hW : W ≤ 16) {Q : Int32 → Prop} (h : Q (iI (2 ^ W - 1))) : wX8_greatestValue (iI W) Q := by
  unfold wX8_greatestValue
  rw [iI_p2 (by omega)]
  show Q (iI (2 ^ W) - iI 1)
  rw [iI_sub]; exact h
theorem m_pow {k : Nat} (hk : k < 64) {Q : Int64 → Prop} (h : Q (lI (2 ^ k))) : wX9_power (iI k) Q := by
  unfold wX9_power
  rw [lI_p2 hk]; exact h
theorem m_all {v : Nat → Int32} {W : Nat} (hv : v 0 = iI W) (hW : W ≤ 16) {Q : Int64 → Prop} (h : Q (lI (2 ^ W))) : wX9_all v Q := by
  refine ⟨v0, ?_⟩
  show wX9_power (v 0) _
  rw [hv]
  exact m_pow (by omega) h
theorem m_half {v : Nat → Int32} {W : Nat} (hv : v 0 = iI W) (h1 : 1 ≤ W) (hW : W ≤ 16) {Q : Int64 → Prop} (h : Q (lI (2 ^ (W - 1)))) : wX9_half v Q := by
  refine ⟨v0, ?_⟩
  show wX9_power (v 0 - iI 1) _
  rw [hv, iI_sub, show ((W : Int) - 1) = ((W - 1 : Nat) : Int) by omega]
  exact m_pow (by omega) h
/-! writing an instruction -/
def snoc (N : Nat) (code : Nat → Ins) (q : Ins) : Nat → Ins := fun j => if j = N then q else code j
def cCode (N : Nat) (code : Nat → Ins) (o f s : Nat → Int32) : Prop := ∀ i, i < N → o i = iI (code i).1 ∧ f i = cOp (code i).2.1 ∧ s i = cOp (code i).2.2
def mCode (N : Nat) (code : Nat → Ins) (v : Nat → Int32) : Prop := ∀ i, i < N → mIns (code i) v (5 + 5 * i)
theorem c_write {N : Nat} {code : Nat → Ins} {o f s : Nat → Int32} (q : Ins) (hN : N < 40) (hc : cCode N code o f s) {Q : Int32 → Int32 → (Nat → Int32) → (Nat → Int32) → (Nat → Int32) → Prop} (h : ∀ o' f' s', cCode (N + 1) (snoc N code q) o' f' s' → Q (iI (-1 - ((N + 1 : Nat) : Int))) (iI ((N + 1 : Nat) : Int)) o' f' s') : wX5_write (iI N) o f s (iI q.1) (cOp q.2.1) (cOp q.2.2) Q := by
  refine br_le 40 N (fun c => by omega) (fun _ => ⟨inI N, inI N, inI N, ?_⟩)
  have e1 : iI N + 1 = iI ((N + 1 : Nat) : Int) := by show iI N + iI 1 = _; rw [iI_add]; rfl
  have e2 : ((-1) : Int32) - iI ((N + 1 : Nat) : Int) = iI (-1 - ((N + 1 : Nat) : Int)) := by show iI (-1) - _ = _; rw [iI_sub]
  rw [e1, e2, iI_clN (by omega)]
  refine h _ _ _ (fun i hi => ?_)
  by_cases c : i = N
  · subst c; simp only [snoc, if_true, pk_us]; exact ⟨trivial, trivial, trivial⟩
  · simp only [snoc, if_neg c, pk_un c]; exact hc i (by omega)
theorem m_writes {N : Nat} {code : Nat → Ins} {v : Nat → Int32} (q : Ins) (hN : N < 40) (h3 : v 3 = iI N) (hm : mCode N code v) {x2 x5 : Int32} (e2 : x2 = bN q.2.1.1) (e5 : x5 = bN q.2.2.1) {Q : Int32 → (Nat → Int32) → Prop} (h : ∀ v', mCode (N + 1) (snoc N code q) v' → v' 0 = v 0 → v' 1 = v 1 → v' 2 = v 2 → v' 3 = iI ((N + 1 : Nat) : Int) → v' 4 = v 4 → Q (iI ((N + 1 : Nat) : Int)) v') : wX9_writes v (iI q.1) x2 (lI q.2.1.2) x5 (lI q.2.2.2) Q := by
  have fin : ∀ y1 y2 : Int32, y1 = bN q.2.1.1 → y2 = bN q.2.2.1 → wX9_writes_67 v (iI q.1) (lI q.2.1.2) (lI q.2.2.2) Q (iI ((5 + 5 * N : Nat) : Int)) y1 y2 := by
    intro y1 y2 g1 g2
    unfold wX9_writes_67
    have a1 : iI ((5 + 5 * N : Nat) : Int) + 1 = iI ((5 + 5 * N + 1 : Nat) : Int) := by show iI _ + iI 1 = _; rw [iI_add]; rfl
    have a2 : iI ((5 + 5 * N : Nat) : Int) + 2 = iI ((5 + 5 * N + 2 : Nat) : Int) := by show iI _ + iI 2 = _; rw [iI_add]; rfl
    have a3 : iI ((5 + 5 * N : Nat) : Int) + 3 = iI ((5 + 5 * N + 3 : Nat) : Int) := by show iI _ + iI 3 = _; rw [iI_add]; rfl
    have a4 : iI ((5 + 5 * N : Nat) : Int) + 4 = iI ((5 + 5 * N + 4 : Nat) : Int) := by show iI _ + iI 4 = _; rw [iI_add]; rfl
    have z3 : ((3 : Int32).toNatClampNeg) = 3 := rfl
    rw [a1, a2, a3, a4]
    refine ⟨inI _, inI _, v3, v3, v3, ?_⟩
    rw [iI_clN (by omega), iI_clN (by omega), iI_clN (by omega), iI_clN (by omega), iI_clN (by omega), z3, lI_i, lI_i]
    have n3 : ∀ k, 5 ≤ k → (3 : Nat) ≠ k := fun k hk => by omega
    have e3 : (upd (upd (upd (upd (upd v (5 + 5 * N) (iI q.1)) (5 + 5 * N + 1) y1) (5 + 5 * N + 2) (iI q.2.1.2)) (5 + 5 * N + 3) y2) (5 + 5 * N + 4) (iI q.2.2.2)) 3 + 1 = iI ((N + 1 : Nat) : Int) := by
      rw [pk_un (by omega), pk_un (by omega), pk_un (by omega), pk_un (by omega), pk_un (by omega), h3]
      show iI _ + iI 1 = _; rw [iI_add]; rfl
    rw [e3, pk_us]
    have lo : ∀ k, k < 5 → k ≠ 3 → upd (upd (upd (upd (upd (upd v (5 + 5 * N) (iI q.1)) (5 + 5 * N + 1) y1) (5 + 5 * N + 2) (iI q.2.1.2)) (5 + 5 * N + 3) y2) (5 + 5 * N + 4) (iI q.2.2.2)) 3 (iI ((N + 1 : Nat) : Int)) k = v k := fun k hk hk3 => by
      rw [pk_un hk3, pk_un (by omega), pk_un (by omega), pk_un (by omega), pk_un (by omega), pk_un (by omega)]
    refine h _ (fun i hi => ?_) (lo 0 (by decide) (by decide)) (lo 1 (by decide) (by decide)) (lo 2 (by decide) (by decide)) pk_us (lo 4 (by decide) (by decide))
    by_cases c : i = N
    · subst c
      simp only [snoc, if_true]
      refine ⟨?_, ?_, ?_, ?_, ?_⟩
      · rw [pk_un (by omega), pk_un (by omega), pk_un (by omega), pk_un (by omega), pk_un (by omega), pk_us]
      · rw [pk_un (by omega), pk_un (by omega), pk_un (by omega), pk_un (by omega), pk_us]; exact g1
      · rw [pk_un (by omega), pk_un (by omega), pk_un (by omega), pk_us]
      · rw [pk_un (by omega), pk_un (by omega), pk_us]; exact g2
      · rw [pk_un (by omega), pk_us]
    · simp only [snoc, if_neg c]
      refine mIns_ext (hm i (by omega)) (fun j hj => ?_)
      rw [pk_un (by omega), pk_un (by omega), pk_un (by omega), pk_un (by omega), pk_un (by omega), pk_un (by omega)]
  have fin2 : ∀ y1 : Int32, y1 = bN q.2.1.1 → wX9_writes_37 v (iI q.1) (lI q.2.1.2) x5 (lI q.2.2.2) Q (iI ((5 + 5 * N : Nat) : Int)) y1 := by
    intro y1 g1
    unfold wX9_writes_37
    have a1 : iI ((5 + 5 * N : Nat) : Int) + 1 = iI ((5 + 5 * N + 1 : Nat) : Int) := by show iI _ + iI 1 = _; rw [iI_add]; rfl
    have a2 : iI ((5 + 5 * N : Nat) : Int) + 2 = iI ((5 + 5 * N + 2 : Nat) : Int) := by show iI _ + iI 2 = _; rw [iI_add]; rfl
    rw [a1, a2]
    refine ⟨inI _, inI _, fun c => fin y1 0 g1 (c ▸ e5), fun c => fin y1 1 g1 ?_⟩
    rw [e5] at c
    cases hb : q.2.2.1 with
    | true => rfl
    | false => rw [hb] at c; exact absurd rfl c
  unfold wX9_writes
  refine ⟨v3, fun x8 hx8 => ?_⟩
  have ex : x8 = iI ((5 + 5 * N : Nat) : Int) := by
    rw [hx8]
    show iI 5 + iI 5 * v 3 = _
    rw [h3, iI_mul, iI_add]; congr 1
  rw [ex]
  refine ⟨inI _, fun c => fin2 0 (c ▸ e2), fun c => fin2 1 ?_⟩
  rw [e2] at c
  cases hb : q.2.1.1 with
  | true => rfl
  | false => rw [hb] at c; exact absurd rfl c
