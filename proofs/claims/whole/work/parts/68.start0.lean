/-! the law's start: what the statement gives -/
theorem st_flags {l : Launch} (h : l.flags = flags0) : l.stackTraces = false := by
  unfold Launch.stackTraces; rw [h]; decide
theorem st_len : ∀ i, i < 15 → (jBy i).length < 2 ^ 31 := by decide +kernel
theorem st_m0 : ∀ i, i < 15 → Cond.exactly (.string RX2 (jIx i)) "java/lang/String" ∈ flatC (Jvm.Cond.and given_1 narrow_1) := by decide +kernel
theorem st_m1 : ∀ i, i < 15 → Cond.eq (.field (.string RX2 (jIx i)) "java/lang/String" "coder" "B") (.int 0) ∈ flatC (Jvm.Cond.and given_1 narrow_1) := by decide +kernel
theorem st_m2 : ∀ i, i < 15 → Cond.arrayOf (.field (.string RX2 (jIx i)) "java/lang/String" "value" "[B") .byte ∈ flatC (Jvm.Cond.and given_1 narrow_1) := by decide +kernel
theorem st_m3 : ∀ i, i < 15 → Cond.eq (.length (.field (.string RX2 (jIx i)) "java/lang/String" "value" "[B")) (.int (Int32.ofNat (jBy i).length)) ∈ flatC (Jvm.Cond.and given_1 narrow_1) := by decide +kernel
def jPo (i j : Nat) : Nat := (([[600, 601, 602], [607, 608, 609], [614, 615, 616], [621, 622, 623], [628, 629, 630], [635, 636, 637], [642, 643, 644, 645, 646], [651, 652, 653, 654, 655], [660, 661, 662], [667, 668, 669], [674, 675, 676], [681, 682, 683], [593, 594, 595], [688, 689], [694, 695, 696, 697, 698, 699, 700, 701]] : List (List Nat)).getD i []).getD j 0
theorem st_m4a : ∀ i, i < 15 → ∀ j, j < (jBy i).length → (flatC (Jvm.Cond.and given_1 narrow_1))[jPo i j]? = some (Cond.eq (.elem (.field (.string RX2 (jIx i)) "java/lang/String" "value" "[B") (.int (Int32.ofNat j))) (.int ((jBy i).getD j 0))) := by decide +kernel
theorem st_m4 : ∀ i, i < 15 → ∀ j, j < (jBy i).length → Cond.eq (.elem (.field (.string RX2 (jIx i)) "java/lang/String" "value" "[B") (.int (Int32.ofNat j))) (.int ((jBy i).getD j 0)) ∈ flatC (Jvm.Cond.and given_1 narrow_1) := fun i hi j hj => List.mem_of_getElem? (st_m4a i hi j hj)
theorem st_m5 : ∀ i, i < 15 → Cond.stringRef RX2 (jIx i) (jSt i) ∈ lw_tbl := by decide +kernel
theorem st_m6 : ∀ q ∈ xStrs, Cond.exactly (.string RX8 q.1) "java/lang/String" ∈ flatC (Jvm.Cond.and given_1 narrow_1) := by decide +kernel
theorem st_m7 : ∀ q ∈ xStrs, Cond.stringRef RX8 q.1 q.2 ∈ lw_tbl := by decide +kernel
theorem st_ex {args : Array Value} {s : State} {t : Term} (h : (Cond.exactly t "java/lang/String").before args s = true) : ∃ a, t.eval args s none [] s = some (.ref a) := by
  obtain ⟨a, c, cA, kA, q1, -⟩ := Cond.exactly_spec (args := args) (first := s) (o := none) (s := s) (idx := []) h
  exact ⟨a, q1⟩
theorem st_jAll {s : State} {b : Nat} (hts : ∀ w ∈ lw_tbl, w.before #[Value.ref b] s = true) (hgv : (Jvm.Cond.and given_1 narrow_1).before #[Value.ref b] s = true) : ∃ adK adV : Nat → Nat, jAll adK adV (fun q : Nat => s.heap.size ≤ q) s := by
  have hs := flat_of_before _ hgv
  have hA : ∀ a : Nat, a < s.heap.size → ¬ (fun q : Nat => s.heap.size ≤ q) a := fun a h => Nat.not_le.mpr h
  have hcs : va_Z "java/lang/String" "COMPACT_STRINGS" "Z" (.int 1) (fun q : Nat => s.heap.size ≤ q) s s.heap := va_Zof (hts _ (by decide +kernel)) (hts _ (by decide +kernel)) (va_eqt (hs (Cond.eq (.static "java/lang/String" "COMPACT_STRINGS" "Z") (.int 1)) (by decide +kernel))) hA
  have hfm : va_Zq "jdk/internal/util/Preconditions" "SIOOBE_FORMATTER" "Ljava/util/function/BiFunction;" (fun q : Nat => s.heap.size ≤ q) s s.heap := va_Zqof (hts _ (by decide +kernel)) (hts _ (by decide +kernel)) (hs (Cond.isRef (.static "jdk/internal/util/Preconditions" "SIOOBE_FORMATTER" "Ljava/util/function/BiFunction;")) (by decide +kernel)) hA
  have h0 : ∀ i : Nat, ∃ q : Nat × Nat, i < 15 → vk_R RX2 (jIx i) (jSt i) q.1 s ∧ jC q.1 q.2 (jBy i) (fun q : Nat => s.heap.size ≤ q) s := by
    intro i
    by_cases hi : i < 15
    · obtain ⟨a, c, cA, kA, q1, q2, q3, q4, q5, q6, -⟩ := Cond.exactly_spec (args := #[Value.ref b]) (first := s) (o := none) (s := s) (idx := []) (t := .string RX2 (jIx i)) (cls := "java/lang/String") (hs _ (st_m0 i hi))
      obtain ⟨t, ht, hT⟩ := va_Tof (f := fun j => .int ((jBy i).getD j 0)) (A := (fun q : Nat => s.heap.size ≤ q)) (st_len i hi) (hs _ (st_m2 i hi)) (va_eqt (hs _ (st_m3 i hi))) (fun j hj => va_eqt (hs _ (st_m4 i hi j hj))) hA
      exact ⟨(a, t), fun _ => ⟨vk_R.of (hts _ (st_m5 i hi)) q1, ⟨cA, q3, q5, by rw [q6]; exact q2, hA a (Array.getElem?_eq_some_iff.mp q3).1⟩, vk_OFof q1 (va_eqt (hs _ (st_m1 i hi))) hA, vk_OFof q1 ht hA, hT, hcs, hfm⟩⟩
    · exact ⟨(0, 0), fun h => absurd h hi⟩
  obtain ⟨ad, had⟩ := Classical.axiomOfChoice h0
  exact ⟨fun i => (ad i).1, fun i => (ad i).2, fun i hi => had i hi⟩
theorem st_lC {s : State} {b : Nat} (hts : ∀ w ∈ lw_tbl, w.before #[Value.ref b] s = true) (hgv : (Jvm.Cond.and given_1 narrow_1).before #[Value.ref b] s = true) : lC (fun q : Nat => s.heap.size ≤ q) s := by
  have hs := flat_of_before _ hgv
  have hA : ∀ a : Nat, a < s.heap.size → ¬ (fun q : Nat => s.heap.size ≤ q) a := fun a h => Nat.not_le.mpr h
  refine ⟨⟨vx_Zqof (hts _ (by decide +kernel)) (hts _ (by decide +kernel)) (hs _ (by decide +kernel)) hA, vx_Zqof (hts _ (by decide +kernel)) (hts _ (by decide +kernel)) (hs _ (by decide +kernel)) hA, va_Nw.of rfl (hts (.castable xIA xIA) (by decide +kernel)), va_Nw.of rfl (hts (.castable xIS xIS) (by decide +kernel)), va_Nw.of rfl (hts (.castable xIO xIO) (by decide +kernel)), ⟨va_Nw.of rfl (hts _ (by decide +kernel)), va_Nw.of rfl (hts _ (by decide +kernel)), va_Nw.of rfl (hts _ (by decide +kernel))⟩, fun q hq => ?_⟩, va_Nc.of (hs (Cond.not (.castable xIA xIO)) (by decide +kernel)), va_Nc.of (hs (Cond.not (.castable xIO xIA)) (by decide +kernel)), va_Nc.of (hs (Cond.not (.castable xIA xIS)) (by decide +kernel)), va_Nc.of (hs (Cond.not (.castable xIS xIA)) (by decide +kernel)), va_Nc.of (hs (Cond.not (.castable xIO xIS)) (by decide +kernel)), va_Nc.of (hs (Cond.not (.castable xIS xIO)) (by decide +kernel))⟩
  obtain ⟨a, ha⟩ := st_ex (hs _ (st_m6 q hq))
  exact ⟨a, vk_R.of (hts _ (st_m7 q hq)) ha⟩
theorem st_arr {args : Array Value} {s : State} {ty : FieldType} (hty : ∀ C, ty ≠ .object C) (h : (Cond.arrayClass ty).before args s = true) : ∃ c, ArrOfT s c ty ∧ va_RA s c ty := by
  obtain ⟨c, k, comp, h1, h2, h3⟩ := Cond.arrayClass_spec (args := args) (first := s) (o := none) (s := s) (idx := []) h
  refine ⟨c, fun n z => ⟨fun k h => (by cases h), k, h2, comp, h3⟩, ?_⟩
  cases ty with
  | object C => exact absurd rfl (hty C)
  | _ => exact h1
theorem st_arr2 {args : Array Value} {s : State} {C : String} (h : (Cond.arrayOver (.object C)).before args s = true) : ∃ c, ArrOfT s c (.object C) ∧ va_RA s c (.object C) := by
  obtain ⟨comp, c, k, h1, h2, h3, h4, h5⟩ := Cond.arrayOver_spec (args := args) (first := s) (o := none) (s := s) (idx := []) h
  exact ⟨c, fun n z => ⟨fun k h => (by cases h), k, h3, comp, h4⟩, k, comp, h3, h4, h1, h5⟩
theorem st_K {s : State} {b : Nat} (hts : ∀ w ∈ lw_tbl, w.before #[Value.ref b] s = true) : ∃ (D : va_G) (ca : Nat → ClassId), va_K D vwCl (tysA ca) s := by
  have hq : ∀ w ∈ wsG, w.before #[Value.ref b] s = true := fun w hw => hts w (wsG_tbl hw)
  obtain ⟨c0, i0, k0⟩ := u_known (C := RX0) (T := TX0) (N := 3) hq inX0g (hq _ q_33)
  obtain ⟨c1, i1, k1⟩ := u_known (C := RX1) (T := TX1) (N := 3) hq inX1g (hq _ q_110)
  obtain ⟨c2, i2, k2⟩ := u_known (C := RX2) (T := TX2) (N := 2) hq inX2g (hq _ q_157)
  obtain ⟨c3, i3, k3⟩ := u_known (C := RX3) (T := TX3) (N := 2) hq inX3g (hq _ q_130)
  obtain ⟨c4, i4, k4⟩ := u_known (C := RX5) (T := TX5) (N := 8) hq inX5g (hq _ q_39)
  obtain ⟨c5, i5, k5⟩ := u_known (C := RX7) (T := TX7) (N := 2) hq inX7g (hq _ q_143)
  obtain ⟨c6, i6, k6⟩ := u_known (C := RX8) (T := TX8) (N := 7) hq inX8g (hq _ q_25)
  obtain ⟨c7, i7, k7⟩ := u_known (C := RX9) (T := TX9) (N := 12) hq inX9g (hq _ q_876)
  obtain ⟨t0, g0⟩ := st_arr (ty := .int) (fun _ h => by cases h) (hts (.arrayClass .int) (by decide +kernel))
  obtain ⟨t1, g1⟩ := st_arr (ty := .long) (fun _ h => by cases h) (hts (.arrayClass .long) (by decide +kernel))
  obtain ⟨t2, g2⟩ := st_arr (ty := .char) (fun _ h => by cases h) (hts (.arrayClass .char) (by decide +kernel))
  obtain ⟨t3, g3⟩ := st_arr (ty := .boolean) (fun _ h => by cases h) (hts (.arrayClass .boolean) (by decide +kernel))
  obtain ⟨t4, g4⟩ := st_arr2 (C := "ConstantDivider$Program") (hts (.arrayOver (.object "ConstantDivider$Program")) (by decide +kernel))
  refine ⟨(fun k => [c0, c1, c2, c3, c4, c5, c6, c7].getD k c0, fun k => [i0, i1, i2, i3, i4, i5, i6, i7].getD k i0), fun k => [t0, t1, t2, t3, t4].getD k t0, ?_, ?_⟩
  · intro k q hk
    match k, hk with
    | 0, hk => cases hk; exact k0
    | 1, hk => cases hk; exact k1
    | 2, hk => cases hk; exact k2
    | 3, hk => cases hk; exact k3
    | 4, hk => cases hk; exact k4
    | 5, hk => cases hk; exact k5
    | 6, hk => cases hk; exact k6
    | 7, hk => cases hk; exact k7
    | k + 8, hk => cases hk
  · intro k q hk
    match k, hk with
    | 0, hk => cases hk; exact g0
    | 1, hk => cases hk; exact g1
    | 2, hk => cases hk; exact g2
    | 3, hk => cases hk; exact g3
    | 4, hk => cases hk; exact g4
    | k + 5, hk => cases hk
