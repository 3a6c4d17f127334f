abbrev qX9_thrown (D : va_G) (ca : Nat → ClassId) (a_t a_t_v a_t_past a_t_costs a_t_into a_t_isNeeded a_t_depths a_t_names a_t_out a_t_has : Nat) (t_edits : Int32) (t_thrown : Int32) (t_outs : Int32) (Q : Int32 → Prop) (A : Nat → Prop) : Array Value → State → Outcome → State → Prop := va_Qi (fun (r : Int32) (_ : Unit) => Q r) (wEnd D ca (fun _ : Unit => [(a_t, .inr (7, [.ref a_t_v, .ref a_t_past, .ref a_t_costs, .int t_edits, .int t_thrown, .ref a_t_into, .ref a_t_isNeeded, .ref a_t_depths, .ref a_t_names, .ref a_t_out, .int t_outs, .ref a_t_has]))]) A) A
def wX9_thrown (t_thrown : Int32) (Q : Int32 → Prop) : Prop :=
  Q t_thrown
set_option maxHeartbeats 4000000 in
set_option maxRecDepth 100000 in
theorem mX9_thrown (l : Launch) (D : va_G) (ca : Nat → ClassId) (a_t a_t_v a_t_past a_t_costs a_t_into a_t_isNeeded a_t_depths a_t_names a_t_out a_t_has : Nat) (sz : Nat) (t_edits : Int32) (t_thrown : Int32) (t_outs : Int32) (Q : Int32 → Prop) (h : wX9_thrown t_thrown Q) : Met l yX9_thrown (Cond.code yX9_thrown cX9_thrown 1 (some .int) :: wsG) ({ frames := 0, cells := 0, slots := 0, locals := 0 } : Room) (va_Pc [.ref a_t] (wPre D ca [(a_t, .inr (7, [.ref a_t_v, .ref a_t_past, .ref a_t_costs, .int t_edits, .int t_thrown, .ref a_t_into, .ref a_t_isNeeded, .ref a_t_depths, .ref a_t_names, .ref a_t_out, .int t_outs, .ref a_t_has]))] sz)) (qX9_thrown D ca a_t a_t_v a_t_past a_t_costs a_t_into a_t_isNeeded a_t_depths a_t_names a_t_out a_t_has t_edits t_thrown t_outs Q (va_A [(a_t, .inr (7, [.ref a_t_v, .ref a_t_past, .ref a_t_costs, .int t_edits, .int t_thrown, .ref a_t_into, .ref a_t_isNeeded, .ref a_t_depths, .ref a_t_names, .ref a_t_out, .int t_outs, .ref a_t_has]))] sz)) 0 0 (va_A [(a_t, .inr (7, [.ref a_t_v, .ref a_t_past, .ref a_t_costs, .int t_edits, .int t_thrown, .ref a_t_into, .ref a_t_isNeeded, .ref a_t_depths, .ref a_t_names, .ref a_t_out, .int t_outs, .ref a_t_has]))] sz) := by
  refine Met.ofW (cc := cX9_thrown) (maxL := 1) (ret := (some .int)) (by decide) rfl ?_
  intro p e s m args below meth c s₁ B hml hv
  obtain ⟨rfl, hsz, hP, hK, hD0⟩ := hv
  have hx := B.exec
  have hb := B.bytes
  have hr := B.returns
  have hts := atoms_spec (ws := (Cond.code yX9_thrown cX9_thrown 1 (some .int) :: wsG)) B.pre
  have hq : ∀ w ∈ wsG, w.before _ s = true := fun w hw => hts w (List.mem_cons_of_mem _ hw)
  have hown : s.vm.findClass RX9 = some m.cls := findClass_of_methodNamed B.named
  have hlocks := B.notSynchronized
  subst hsz
  have hD := hD0.self (sz := s.heap.size)
  generalize hAe : va_A [(a_t, .inr (7, [.ref a_t_v, .ref a_t_past, .ref a_t_costs, .int t_edits, .int t_thrown, .ref a_t_into, .ref a_t_isNeeded, .ref a_t_depths, .ref a_t_names, .ref a_t_out, .int t_outs, .ref a_t_has]))] s.heap.size = A at hD ⊢
  have hA : ∀ q : Nat, s.heap.size ≤ q → A q := fun q h => by rw [← hAe]; exact Or.inr h
  have hS : va_S A s.heap s.heap [] := va_S.rf
  have hP : va_P D vwCl [(a_t, .inr (7, [.ref a_t_v, .ref a_t_past, .ref a_t_costs, .int t_edits, .int t_thrown, .ref a_t_into, .ref a_t_isNeeded, .ref a_t_depths, .ref a_t_names, .ref a_t_out, .int t_outs, .ref a_t_has]))] s.heap := hP
  have hl := lv_entry ([.ref a_t]) (n := 1) (Nat.le_of_ble_eq_true rfl)
  rw [lg_entry_eq]
  generalize (lg_sl ([.ref a_t]) ++ List.replicate (1 - (lg_sl ([.ref a_t])).length) Slot.unset).toArray = ls at hl ⊢
  have hl : lv_has ls 1 [(0, .ref a_t)] := hl
  unfold wX9_thrown at h
  refine lv_aload_n hx hb dX9_thrown_0 rfl (lv_at hl 0 rfl) ?_
  refine va_get (D := D) (ci := 7) (v := .int t_thrown) (C := RX9) (T := TX9) (N := 12) hx hb hq inX9g hown hK hP 0 rfl rfl 4 (by decide) (hq _ q_885) (fun _ h9 => h9) rfl dX9_thrown_1 ?_
  exact W.iret (v := t_thrown) hx hb hr (fun t ht hW => ⟨⟨t_thrown, (), rfl, h, by rw [ht]; exact hP, va_K.moved hW.alike hK, hD⟩, hS.F ht⟩) hS.2.2 dX9_thrown_4

def wX9_in (x0 : Int64) (x2 : Int64) (x4 : Int64) (Q : Int32 → Prop) : Prop :=
  ((x0 < x2 → Q 0) ∧ (¬ x0 < x2 → ((x4 < x0 → Q 0) ∧ (¬ x4 < x0 → Q 1))))
set_option maxHeartbeats 4000000 in
set_option maxRecDepth 100000 in
theorem mX9_in (l : Launch) (x0 : Int64) (x2 : Int64) (x4 : Int64) (Q : Int32 → Prop) (h : wX9_in x0 x2 x4 Q) : Met l yX9_in (Cond.code yX9_in cX9_in 6 (some .boolean) :: wsG) ({ frames := 0, cells := 0, slots := 0, locals := 0 } : Room) (va_Pc [.long x0, .long x2, .long x4] (fun _ => True)) (va_Qi (fun (r : Int32) (_ : Unit) => Q r) (fun _ _ => True) (fun _ => False)) 0 0 (fun _ => False) := by
  refine Met.ofW (cc := cX9_in) (maxL := 6) (ret := (some .boolean)) (by decide) rfl ?_
  intro p e s m args below meth c s₁ B hml hv
  obtain ⟨rfl, -⟩ := hv
  have hx := B.exec
  have hb := B.bytes
  have hr := B.returns
  have hts := atoms_spec (ws := (Cond.code yX9_in cX9_in 6 (some .boolean) :: wsG)) B.pre
  have hq : ∀ w ∈ wsG, w.before _ s = true := fun w hw => hts w (List.mem_cons_of_mem _ hw)
  have hown : s.vm.findClass RX9 = some m.cls := findClass_of_methodNamed B.named
  have hlocks := B.notSynchronized
  have hS : va_S (fun _ : Nat => False) s.heap s.heap [] := va_S.rf
  have hl := lv_entry ([.long x0, .long x2, .long x4]) (n := 6) (Nat.le_of_ble_eq_true rfl)
  rw [lg_entry_eq]
  generalize (lg_sl ([.long x0, .long x2, .long x4]) ++ List.replicate (6 - (lg_sl ([.long x0, .long x2, .long x4])).length) Slot.unset).toArray = ls at hl ⊢
  have hl : lv_has ls 6 [(0, .long x0), (2, .long x2), (4, .long x4)] := hl
  unfold wX9_in at h
  refine lv_lload_n hx hb dX9_in_0 rfl (lv_at hl 0 rfl) ?_
  refine lv_lload_n hx hb dX9_in_1 rfl (lv_at hl 1 rfl) ?_
  refine jl_lt (tgt := 17) hx hb dX9_in_2 dX9_in_3 (by decide) (fun c9 => ?_) (fun c9 => ?_)
  · have h := h.1 c9
    refine lv_iconst (v := 0) hx hb dX9_in_17 (by decide) ?_
    exact W.zret (v := 0) hx hb hr rfl (fun t ht hW => ⟨⟨0, (), rfl, h, trivial⟩, hS.F ht⟩) hS.2.2 dX9_in_18
  · have h := h.2 c9
    refine lv_lload_n hx hb dX9_in_6 rfl (lv_at hl 0 rfl) ?_
    refine lv_lload hx hb dX9_in_7 (lv_at hl 2 rfl) ?_
    refine jl_gt (tgt := 17) hx hb dX9_in_9 dX9_in_10 (by decide) (fun c9 => ?_) (fun c9 => ?_)
    · have h := h.1 c9
      refine lv_iconst (v := 0) hx hb dX9_in_17 (by decide) ?_
      exact W.zret (v := 0) hx hb hr rfl (fun t ht hW => ⟨⟨0, (), rfl, h, trivial⟩, hS.F ht⟩) hS.2.2 dX9_in_18
    · have h := h.2 c9
      refine lv_iconst (v := 1) hx hb dX9_in_13 (by decide) ?_
      refine lv_goto (tgt := 18) hx hb dX9_in_14 (by decide) ?_
      exact W.zret (v := 1) hx hb hr rfl (fun t ht hW => ⟨⟨1, (), rfl, h, trivial⟩, hS.F ht⟩) hS.2.2 dX9_in_18

abbrev qX9_fails (D : va_G) (ca : Nat → ClassId) (a_t a_t_v a_t_past a_t_costs a_t_into a_t_isNeeded a_t_depths a_t_names a_t_out a_t_has : Nat) (t_edits : Int32) (t_outs : Int32) (Q : Int32 → Int32 → Prop) (A : Nat → Prop) : Array Value → State → Outcome → State → Prop := va_Qi (fun (r : Int32) (u : Int32) => Q r u) (wEnd D ca (fun u : Int32 => [(a_t, .inr (7, [.ref a_t_v, .ref a_t_past, .ref a_t_costs, .int t_edits, .int u, .ref a_t_into, .ref a_t_isNeeded, .ref a_t_depths, .ref a_t_names, .ref a_t_out, .int t_outs, .ref a_t_has]))]) A) A
def wX9_fails (t_thrown : Int32) (x1 : Int32) (Q : Int32 → Int32 → Prop) : Prop :=
  Q 0 x1
set_option maxHeartbeats 4000000 in
set_option maxRecDepth 100000 in
theorem mX9_fails (l : Launch) (D : va_G) (ca : Nat → ClassId) (a_t a_t_v a_t_past a_t_costs a_t_into a_t_isNeeded a_t_depths a_t_names a_t_out a_t_has : Nat) (sz : Nat) (t_edits : Int32) (t_thrown : Int32) (t_outs : Int32) (x1 : Int32) (Q : Int32 → Int32 → Prop) (h : wX9_fails t_thrown x1 Q) : Met l yX9_fails (Cond.code yX9_fails cX9_fails 2 (some .int) :: wsG) ({ frames := 0, cells := 0, slots := 0, locals := 0 } : Room) (va_Pc [.ref a_t, .int x1] (wPre D ca [(a_t, .inr (7, [.ref a_t_v, .ref a_t_past, .ref a_t_costs, .int t_edits, .int t_thrown, .ref a_t_into, .ref a_t_isNeeded, .ref a_t_depths, .ref a_t_names, .ref a_t_out, .int t_outs, .ref a_t_has]))] sz)) (qX9_fails D ca a_t a_t_v a_t_past a_t_costs a_t_into a_t_isNeeded a_t_depths a_t_names a_t_out a_t_has t_edits t_outs Q (va_A [(a_t, .inr (7, [.ref a_t_v, .ref a_t_past, .ref a_t_costs, .int t_edits, .int t_thrown, .ref a_t_into, .ref a_t_isNeeded, .ref a_t_depths, .ref a_t_names, .ref a_t_out, .int t_outs, .ref a_t_has]))] sz)) 0 0 (va_A [(a_t, .inr (7, [.ref a_t_v, .ref a_t_past, .ref a_t_costs, .int t_edits, .int t_thrown, .ref a_t_into, .ref a_t_isNeeded, .ref a_t_depths, .ref a_t_names, .ref a_t_out, .int t_outs, .ref a_t_has]))] sz) := by
  refine Met.ofW (cc := cX9_fails) (maxL := 2) (ret := (some .int)) (by decide) rfl ?_
  intro p e s m args below meth c s₁ B hml hv
  obtain ⟨rfl, hsz, hP, hK, hD0⟩ := hv
  have hx := B.exec
  have hb := B.bytes
  have hr := B.returns
  have hts := atoms_spec (ws := (Cond.code yX9_fails cX9_fails 2 (some .int) :: wsG)) B.pre
  have hq : ∀ w ∈ wsG, w.before _ s = true := fun w hw => hts w (List.mem_cons_of_mem _ hw)
  have hown : s.vm.findClass RX9 = some m.cls := findClass_of_methodNamed B.named
  have hlocks := B.notSynchronized
  subst hsz
  have hD := hD0.self (sz := s.heap.size)
  generalize hAe : va_A [(a_t, .inr (7, [.ref a_t_v, .ref a_t_past, .ref a_t_costs, .int t_edits, .int t_thrown, .ref a_t_into, .ref a_t_isNeeded, .ref a_t_depths, .ref a_t_names, .ref a_t_out, .int t_outs, .ref a_t_has]))] s.heap.size = A at hD ⊢
  have hA : ∀ q : Nat, s.heap.size ≤ q → A q := fun q h => by rw [← hAe]; exact Or.inr h
  have hS : va_S A s.heap s.heap [] := va_S.rf
  have hP : va_P D vwCl [(a_t, .inr (7, [.ref a_t_v, .ref a_t_past, .ref a_t_costs, .int t_edits, .int t_thrown, .ref a_t_into, .ref a_t_isNeeded, .ref a_t_depths, .ref a_t_names, .ref a_t_out, .int t_outs, .ref a_t_has]))] s.heap := hP
  have hl := lv_entry ([.ref a_t, .int x1]) (n := 2) (Nat.le_of_ble_eq_true rfl)
  rw [lg_entry_eq]
  generalize (lg_sl ([.ref a_t, .int x1]) ++ List.replicate (2 - (lg_sl ([.ref a_t, .int x1])).length) Slot.unset).toArray = ls at hl ⊢
  have hl : lv_has ls 2 [(0, .ref a_t), (1, .int x1)] := hl
  unfold wX9_fails at h
  refine lv_aload_n hx hb dX9_fails_0 rfl (lv_at hl 0 rfl) ?_
  refine lv_iload_n hx hb dX9_fails_1 rfl (lv_at hl 1 rfl) ?_
  refine va_put (D := D) (ci := 7) (v := .int x1) (ty := .int) (C := RX9) (T := TX9) (N := 12) hx hb hq inX9g tyX9 tyX9_ok nmX9 hown hK hP hD hS 0 rfl rfl 4 (by decide) (hq _ q_885) (fun _ h9 => h9) rfl (by decide +kernel) rfl rfl (Nat.le_of_ble_eq_true rfl) dX9_fails_2 (fun H locs hP hD hS => ?_)
  have hP : va_P D vwCl [(a_t, .inr (7, [.ref a_t_v, .ref a_t_past, .ref a_t_costs, .int t_edits, .int x1, .ref a_t_into, .ref a_t_isNeeded, .ref a_t_depths, .ref a_t_names, .ref a_t_out, .int t_outs, .ref a_t_has]))] H := hP
  have hD : va_D A [(a_t, .inr (7, [.ref a_t_v, .ref a_t_past, .ref a_t_costs, .int t_edits, .int x1, .ref a_t_into, .ref a_t_isNeeded, .ref a_t_depths, .ref a_t_names, .ref a_t_out, .int t_outs, .ref a_t_has]))] := hD
  refine lv_iconst (v := 0) hx hb dX9_fails_5 (by decide) ?_
  exact W.iret (v := 0) hx hb hr (fun t ht hW => ⟨⟨0, x1, rfl, h, by rw [ht]; exact hP, va_K.moved hW.alike hK, hD⟩, hS.F ht⟩) hS.2.2 dX9_fails_6

abbrev qX9_edits (D : va_G) (ca : Nat → ClassId) (a_t a_t_v a_t_past a_t_costs a_t_into a_t_isNeeded a_t_depths a_t_names a_t_out a_t_has : Nat) (t_thrown : Int32) (t_outs : Int32) (f_t_v : Nat → Int32) (Q : Int32 → (Nat → Int32) → Prop) (A : Nat → Prop) : Array Value → State → Outcome → State → Prop := va_Qv (fun (u : Int32 × (Nat → Int32)) => Q u.1 u.2) (wEnd D ca (fun u : Int32 × (Nat → Int32) => [(a_t, .inr (7, [.ref a_t_v, .ref a_t_past, .ref a_t_costs, .int u.1, .int t_thrown, .ref a_t_into, .ref a_t_isNeeded, .ref a_t_depths, .ref a_t_names, .ref a_t_out, .int t_outs, .ref a_t_has])), (a_t_v, .inl (ca 0, 206, .inl f_t_v)), (a_t_past, .inl (ca 0, 1648, .inl u.2))]) A) A
def wX9_edits_52 (f_t_v : Nat → Int32) (Q : Int32 → (Nat → Int32) → Prop) (t_edits_50 : Int32) : Nat → Int32 → (Nat → Int32) → Prop
  | 0, _, _ => False
  | n9 + 1, x1_52, f_t_past_52 =>
  ((206 ≤ x1_52 → Q (t_edits_50 + 1) f_t_past_52) ∧ (¬ 206 ≤ x1_52 → (vp_in x1_52 206 ∧ (vp_in ((206 * t_edits_50) + x1_52) 1648 ∧ (∀ x1_80 : Int32, x1_80 = x1_52 + 1 → (wX9_edits_52 f_t_v Q t_edits_50 n9) x1_80 (upd f_t_past_52 ((206 * t_edits_50) + x1_52).toNatClampNeg (f_t_v x1_52.toNatClampNeg)))))))
def wX9_edits_50 (f_t_v : Nat → Int32) (Q : Int32 → (Nat → Int32) → Prop) (t_edits_50 : Int32) (f_t_past_50 : Nat → Int32) : Prop :=
  (∃ k9, wX9_edits_52 f_t_v Q t_edits_50 k9 0 f_t_past_50)
def wX9_edits_11 (t_edits : Int32) (f_t_v : Nat → Int32) (Q : Int32 → (Nat → Int32) → Prop) : Nat → Int32 → (Nat → Int32) → Prop
  | 0, _, _ => False
  | n9 + 1, x1_11, f_t_past_11 =>
  ((1442 ≤ x1_11 → wX9_edits_50 f_t_v Q (t_edits - 1) f_t_past_11) ∧ (¬ 1442 ≤ x1_11 → (vp_in (x1_11 + 206) 1648 ∧ (vp_in x1_11 1648 ∧ (∀ x1_34 : Int32, x1_34 = x1_11 + 1 → (wX9_edits_11 t_edits f_t_v Q n9) x1_34 (upd f_t_past_11 x1_11.toNatClampNeg (f_t_past_11 (x1_11 + 206).toNatClampNeg)))))))
def wX9_edits (t_edits : Int32) (f_t_v : Nat → Int32) (f_t_past : Nat → Int32) (Q : Int32 → (Nat → Int32) → Prop) : Prop :=
  ((t_edits = 8 → (∃ k9, wX9_edits_11 t_edits f_t_v Q k9 0 f_t_past)) ∧ (¬ t_edits = 8 → wX9_edits_50 f_t_v Q t_edits f_t_past))
set_option maxHeartbeats 4000000 in
set_option maxRecDepth 100000 in
theorem mX9_edits (l : Launch) (D : va_G) (ca : Nat → ClassId) (a_t a_t_v a_t_past a_t_costs a_t_into a_t_isNeeded a_t_depths a_t_names a_t_out a_t_has : Nat) (sz : Nat) (t_edits : Int32) (t_thrown : Int32) (t_outs : Int32) (f_t_v : Nat → Int32) (f_t_past : Nat → Int32) (Q : Int32 → (Nat → Int32) → Prop) (h : wX9_edits t_edits f_t_v f_t_past Q) : Met l yX9_edits (Cond.code yX9_edits cX9_edits 2 none :: wsG) ({ frames := 0, cells := 0, slots := 0, locals := 0 } : Room) (va_Pc [.ref a_t] (wPre D ca [(a_t, .inr (7, [.ref a_t_v, .ref a_t_past, .ref a_t_costs, .int t_edits, .int t_thrown, .ref a_t_into, .ref a_t_isNeeded, .ref a_t_depths, .ref a_t_names, .ref a_t_out, .int t_outs, .ref a_t_has])), (a_t_v, .inl (ca 0, 206, .inl f_t_v)), (a_t_past, .inl (ca 0, 1648, .inl f_t_past))] sz)) (qX9_edits D ca a_t a_t_v a_t_past a_t_costs a_t_into a_t_isNeeded a_t_depths a_t_names a_t_out a_t_has t_thrown t_outs f_t_v Q (va_A [(a_t, .inr (7, [.ref a_t_v, .ref a_t_past, .ref a_t_costs, .int t_edits, .int t_thrown, .ref a_t_into, .ref a_t_isNeeded, .ref a_t_depths, .ref a_t_names, .ref a_t_out, .int t_outs, .ref a_t_has])), (a_t_v, .inl (ca 0, 206, .inl f_t_v)), (a_t_past, .inl (ca 0, 1648, .inl f_t_past))] sz)) 0 0 (va_A [(a_t, .inr (7, [.ref a_t_v, .ref a_t_past, .ref a_t_costs, .int t_edits, .int t_thrown, .ref a_t_into, .ref a_t_isNeeded, .ref a_t_depths, .ref a_t_names, .ref a_t_out, .int t_outs, .ref a_t_has])), (a_t_v, .inl (ca 0, 206, .inl f_t_v)), (a_t_past, .inl (ca 0, 1648, .inl f_t_past))] sz) := by
  refine Met.ofW (cc := cX9_edits) (maxL := 2) (ret := none) (by decide) rfl ?_
  intro p e s m args below meth c s₁ B hml hv
  obtain ⟨rfl, hsz, hP, hK, hD0⟩ := hv
  have hx := B.exec
  have hb := B.bytes
  have hr := B.returns
  have hts := atoms_spec (ws := (Cond.code yX9_edits cX9_edits 2 none :: wsG)) B.pre
  have hq : ∀ w ∈ wsG, w.before _ s = true := fun w hw => hts w (List.mem_cons_of_mem _ hw)
  have hown : s.vm.findClass RX9 = some m.cls := findClass_of_methodNamed B.named
  have hlocks := B.notSynchronized
  subst hsz
  have hD := hD0.self (sz := s.heap.size)
  generalize hAe : va_A [(a_t, .inr (7, [.ref a_t_v, .ref a_t_past, .ref a_t_costs, .int t_edits, .int t_thrown, .ref a_t_into, .ref a_t_isNeeded, .ref a_t_depths, .ref a_t_names, .ref a_t_out, .int t_outs, .ref a_t_has])), (a_t_v, .inl (ca 0, 206, .inl f_t_v)), (a_t_past, .inl (ca 0, 1648, .inl f_t_past))] s.heap.size = A at hD ⊢
  have hA : ∀ q : Nat, s.heap.size ≤ q → A q := fun q h => by rw [← hAe]; exact Or.inr h
  have hS : va_S A s.heap s.heap [] := va_S.rf
  have hP : va_P D vwCl [(a_t, .inr (7, [.ref a_t_v, .ref a_t_past, .ref a_t_costs, .int t_edits, .int t_thrown, .ref a_t_into, .ref a_t_isNeeded, .ref a_t_depths, .ref a_t_names, .ref a_t_out, .int t_outs, .ref a_t_has])), (a_t_v, .inl (ca 0, 206, .inl f_t_v)), (a_t_past, .inl (ca 0, 1648, .inl f_t_past))] s.heap := hP
  have hl := lv_entry ([.ref a_t]) (n := 2) (Nat.le_of_ble_eq_true rfl)
  rw [lg_entry_eq]
  generalize (lg_sl ([.ref a_t]) ++ List.replicate (2 - (lg_sl ([.ref a_t])).length) Slot.unset).toArray = ls at hl ⊢
  have hl : lv_has ls 2 [(0, .ref a_t)] := hl
  unfold wX9_edits at h
  refine lv_aload_n hx hb dX9_edits_0 rfl (lv_at hl 0 rfl) ?_
  refine va_get (D := D) (ci := 7) (v := .int t_edits) (C := RX9) (T := TX9) (N := 12) hx hb hq inX9g hown hK hP 0 rfl rfl 3 (by decide) (hq _ q_884) (fun _ h9 => h9) rfl dX9_edits_1 ?_
  refine lv_bipush (v := 8) hx hb dX9_edits_4 (by decide) ?_
  have hJ50 : ∀ (t_edits_50 : Int32) (f_t_past_50 : Nat → Int32) (H : Heap) (locs : List Loc) (ls : Array Slot), va_P D vwCl [(a_t, .inr (7, [.ref a_t_v, .ref a_t_past, .ref a_t_costs, .int t_edits_50, .int t_thrown, .ref a_t_into, .ref a_t_isNeeded, .ref a_t_depths, .ref a_t_names, .ref a_t_out, .int t_outs, .ref a_t_has])), (a_t_v, .inl (ca 0, 206, .inl f_t_v)), (a_t_past, .inl (ca 0, 1648, .inl f_t_past_50))] H → va_D A [(a_t, .inr (7, [.ref a_t_v, .ref a_t_past, .ref a_t_costs, .int t_edits_50, .int t_thrown, .ref a_t_into, .ref a_t_isNeeded, .ref a_t_depths, .ref a_t_names, .ref a_t_out, .int t_outs, .ref a_t_has])), (a_t_v, .inl (ca 0, 206, .inl f_t_v)), (a_t_past, .inl (ca 0, 1648, .inl f_t_past_50))] → va_S A s.heap H locs → lv_has ls 2 [(0, .ref a_t)] → wX9_edits_50 f_t_v Q t_edits_50 f_t_past_50 → W p l e (headSpec (Cond.code yX9_edits cX9_edits 2 none :: wsG) ({ frames := 0, cells := 0, slots := 0, locals := 0 } : Room)).room s m ([.ref a_t] : List Value).toArray below meth c H locs 0 0 (MQ below (qX9_edits D ca a_t a_t_v a_t_past a_t_costs a_t_into a_t_isNeeded a_t_depths a_t_names a_t_out a_t_has t_thrown t_outs f_t_v Q A) ([.ref a_t] : List Value).toArray s 0 0 A) (F0 m 50 ls []) := by
    intro t_edits_50 f_t_past_50 H locs ls hP hD hS hl h
    unfold wX9_edits_50 at h
    refine lv_iconst (v := 0) hx hb dX9_edits_50 (by decide) ?_
    refine lv_istore_n (lv' := [(1, .int 0), (0, .ref a_t)]) hx hb dX9_edits_51 rfl hl (by decide) rfl (fun ls hl => ?_)
    have hL52 : ∀ (n9_52 : Nat) (x1_52 : Int32) (f_t_past_52 : Nat → Int32) (H : Heap) (locs : List Loc) (ls : Array Slot), va_P D vwCl [(a_t, .inr (7, [.ref a_t_v, .ref a_t_past, .ref a_t_costs, .int t_edits_50, .int t_thrown, .ref a_t_into, .ref a_t_isNeeded, .ref a_t_depths, .ref a_t_names, .ref a_t_out, .int t_outs, .ref a_t_has])), (a_t_v, .inl (ca 0, 206, .inl f_t_v)), (a_t_past, .inl (ca 0, 1648, .inl f_t_past_52))] H → va_D A [(a_t, .inr (7, [.ref a_t_v, .ref a_t_past, .ref a_t_costs, .int t_edits_50, .int t_thrown, .ref a_t_into, .ref a_t_isNeeded, .ref a_t_depths, .ref a_t_names, .ref a_t_out, .int t_outs, .ref a_t_has])), (a_t_v, .inl (ca 0, 206, .inl f_t_v)), (a_t_past, .inl (ca 0, 1648, .inl f_t_past_52))] → va_S A s.heap H locs → lv_has ls 2 [(0, .ref a_t), (1, .int x1_52)] → wX9_edits_52 f_t_v Q t_edits_50 n9_52 x1_52 f_t_past_52 → W p l e (headSpec (Cond.code yX9_edits cX9_edits 2 none :: wsG) ({ frames := 0, cells := 0, slots := 0, locals := 0 } : Room)).room s m ([.ref a_t] : List Value).toArray below meth c H locs 0 0 (MQ below (qX9_edits D ca a_t a_t_v a_t_past a_t_costs a_t_into a_t_isNeeded a_t_depths a_t_names a_t_out a_t_has t_thrown t_outs f_t_v Q A) ([.ref a_t] : List Value).toArray s 0 0 A) (F0 m 52 ls []) := by
      intro n9_52
      induction n9_52 with
      | zero =>
        intro x1_52 f_t_past_52 H locs ls hP hD hS hl h
        exact False.elim h
      | succ n9_52 ih52 =>
        intro x1_52 f_t_past_52 H locs ls hP hD hS hl h
        unfold wX9_edits_52 at h
        refine lv_iload_n hx hb dX9_edits_52 rfl (lv_at hl 1 rfl) ?_
        refine lv_sipush (v := 206) hx hb dX9_edits_53 (by decide) ?_
        refine lv_icmp_ge (tgt := 86) hx hb dX9_edits_56 (by decide) (fun c9 => ?_) (fun c9 => ?_)
        · have h := h.1 c9
          refine lv_aload_n hx hb dX9_edits_86 rfl (lv_at hl 0 rfl) ?_
          refine lv_dup hx hb dX9_edits_87 rfl ?_
          refine va_get (D := D) (ci := 7) (v := .int t_edits_50) (C := RX9) (T := TX9) (N := 12) hx hb hq inX9g hown hK hP 0 rfl rfl 3 (by decide) (hq _ q_884) (fun _ h9 => h9) rfl dX9_edits_88 ?_
          refine lv_iconst (v := 1) hx hb dX9_edits_91 (by decide) ?_
          refine lv_iadd hx hb dX9_edits_92 ?_
          refine va_put (D := D) (ci := 7) (v := .int (t_edits_50 + 1)) (ty := .int) (C := RX9) (T := TX9) (N := 12) hx hb hq inX9g tyX9 tyX9_ok nmX9 hown hK hP hD hS 0 rfl rfl 3 (by decide) (hq _ q_884) (fun _ h9 => h9) rfl (by decide +kernel) rfl rfl (Nat.le_of_ble_eq_true rfl) dX9_edits_93 (fun H locs hP hD hS => ?_)
          have hP : va_P D vwCl [(a_t, .inr (7, [.ref a_t_v, .ref a_t_past, .ref a_t_costs, .int (t_edits_50 + 1), .int t_thrown, .ref a_t_into, .ref a_t_isNeeded, .ref a_t_depths, .ref a_t_names, .ref a_t_out, .int t_outs, .ref a_t_has])), (a_t_v, .inl (ca 0, 206, .inl f_t_v)), (a_t_past, .inl (ca 0, 1648, .inl f_t_past_52))] H := hP
          have hD : va_D A [(a_t, .inr (7, [.ref a_t_v, .ref a_t_past, .ref a_t_costs, .int (t_edits_50 + 1), .int t_thrown, .ref a_t_into, .ref a_t_isNeeded, .ref a_t_depths, .ref a_t_names, .ref a_t_out, .int t_outs, .ref a_t_has])), (a_t_v, .inl (ca 0, 206, .inl f_t_v)), (a_t_past, .inl (ca 0, 1648, .inl f_t_past_52))] := hD
          exact W.vret hx hb hr (fun t ht hW => ⟨⟨(t_edits_50 + 1, f_t_past_52), rfl, h, by rw [ht]; exact hP, va_K.moved hW.alike hK, hD⟩, hS.F ht⟩) hS.2.2 dX9_edits_96
        · have h := h.2 c9
          refine lv_aload_n hx hb dX9_edits_59 rfl (lv_at hl 0 rfl) ?_
          refine va_get (D := D) (ci := 7) (v := .ref a_t_past) (C := RX9) (T := TX9) (N := 12) hx hb hq inX9g hown hK hP 0 rfl rfl 1 (by decide) (hq _ q_882) (fun _ h9 => h9) rfl dX9_edits_60 ?_
          refine lv_sipush (v := 206) hx hb dX9_edits_63 (by decide) ?_
          refine lv_aload_n hx hb dX9_edits_66 rfl (lv_at hl 0 rfl) ?_
          refine va_get (D := D) (ci := 7) (v := .int t_edits_50) (C := RX9) (T := TX9) (N := 12) hx hb hq inX9g hown hK hP 0 rfl rfl 3 (by decide) (hq _ q_884) (fun _ h9 => h9) rfl dX9_edits_67 ?_
          refine lv_imul hx hb dX9_edits_70 ?_
          refine lv_iload_n hx hb dX9_edits_71 rfl (lv_at hl 1 rfl) ?_
          refine lv_iadd hx hb dX9_edits_72 ?_
          refine lv_aload_n hx hb dX9_edits_73 rfl (lv_at hl 0 rfl) ?_
          refine va_get (D := D) (ci := 7) (v := .ref a_t_v) (C := RX9) (T := TX9) (N := 12) hx hb hq inX9g hown hK hP 0 rfl rfl 0 (by decide) (hq _ q_881) (fun _ h9 => h9) rfl dX9_edits_74 ?_
          refine lv_iload_n hx hb dX9_edits_77 rfl (lv_at hl 1 rfl) ?_
          obtain ⟨hi9, h⟩ := h
          refine va_iald hx hb hK hP 1 0 rfl rfl hi9 dX9_edits_78 ?_
          obtain ⟨hi9, h⟩ := h
          refine va_iast hx hb hK hP hD hS 2 0 rfl rfl hi9 dX9_edits_79 (fun H locs hP hD hS => ?_)
          have hP : va_P D vwCl [(a_t, .inr (7, [.ref a_t_v, .ref a_t_past, .ref a_t_costs, .int t_edits_50, .int t_thrown, .ref a_t_into, .ref a_t_isNeeded, .ref a_t_depths, .ref a_t_names, .ref a_t_out, .int t_outs, .ref a_t_has])), (a_t_v, .inl (ca 0, 206, .inl f_t_v)), (a_t_past, .inl (ca 0, 1648, .inl (upd f_t_past_52 ((206 * t_edits_50) + x1_52).toNatClampNeg (f_t_v x1_52.toNatClampNeg))))] H := hP
          have hD : va_D A [(a_t, .inr (7, [.ref a_t_v, .ref a_t_past, .ref a_t_costs, .int t_edits_50, .int t_thrown, .ref a_t_into, .ref a_t_isNeeded, .ref a_t_depths, .ref a_t_names, .ref a_t_out, .int t_outs, .ref a_t_has])), (a_t_v, .inl (ca 0, 206, .inl f_t_v)), (a_t_past, .inl (ca 0, 1648, .inl (upd f_t_past_52 ((206 * t_edits_50) + x1_52).toNatClampNeg (f_t_v x1_52.toNatClampNeg))))] := hD
          obtain ⟨x1_80, ex1_80⟩ : ∃ y : Int32, y = x1_52 + 1 := ⟨_, rfl⟩
          have h := h x1_80 ex1_80
          refine lv_iinc (v := x1_80) (lv' := [(1, .int x1_80), (0, .ref a_t)]) hx hb dX9_edits_80 hl (k := 1) rfl (by rw [ex1_80]; rfl) (by decide) rfl (fun ls hl => ?_)
          refine lv_goto (tgt := 52) hx hb dX9_edits_83 (by decide) ?_
          exact ih52 x1_80 (upd f_t_past_52 ((206 * t_edits_50) + x1_52).toNatClampNeg (f_t_v x1_52.toNatClampNeg)) _ _ _ hP hD hS (lv_sub hl [1, 0] rfl) h
    obtain ⟨k9, h⟩ := h
    exact hL52 k9 0 f_t_past_50 _ _ _ hP hD hS (lv_sub hl [1, 0] rfl) h
  refine lv_icmp_ne (tgt := 50) hx hb dX9_edits_6 (by decide) (fun c9 => ?_) (fun c9 => ?_)
  · have h := h.2 c9
    exact hJ50 t_edits f_t_past _ _ _ hP hD hS (lv_sub hl [0] rfl) h
  · have h := h.1 c9
    refine lv_iconst (v := 0) hx hb dX9_edits_9 (by decide) ?_
    refine lv_istore_n (lv' := [(1, .int 0), (0, .ref a_t)]) hx hb dX9_edits_10 rfl hl (by decide) rfl (fun ls hl => ?_)
    have hL11 : ∀ (n9_11 : Nat) (x1_11 : Int32) (f_t_past_11 : Nat → Int32) (H : Heap) (locs : List Loc) (ls : Array Slot), va_P D vwCl [(a_t, .inr (7, [.ref a_t_v, .ref a_t_past, .ref a_t_costs, .int t_edits, .int t_thrown, .ref a_t_into, .ref a_t_isNeeded, .ref a_t_depths, .ref a_t_names, .ref a_t_out, .int t_outs, .ref a_t_has])), (a_t_v, .inl (ca 0, 206, .inl f_t_v)), (a_t_past, .inl (ca 0, 1648, .inl f_t_past_11))] H → va_D A [(a_t, .inr (7, [.ref a_t_v, .ref a_t_past, .ref a_t_costs, .int t_edits, .int t_thrown, .ref a_t_into, .ref a_t_isNeeded, .ref a_t_depths, .ref a_t_names, .ref a_t_out, .int t_outs, .ref a_t_has])), (a_t_v, .inl (ca 0, 206, .inl f_t_v)), (a_t_past, .inl (ca 0, 1648, .inl f_t_past_11))] → va_S A s.heap H locs → lv_has ls 2 [(0, .ref a_t), (1, .int x1_11)] → wX9_edits_11 t_edits f_t_v Q n9_11 x1_11 f_t_past_11 → W p l e (headSpec (Cond.code yX9_edits cX9_edits 2 none :: wsG) ({ frames := 0, cells := 0, slots := 0, locals := 0 } : Room)).room s m ([.ref a_t] : List Value).toArray below meth c H locs 0 0 (MQ below (qX9_edits D ca a_t a_t_v a_t_past a_t_costs a_t_into a_t_isNeeded a_t_depths a_t_names a_t_out a_t_has t_thrown t_outs f_t_v Q A) ([.ref a_t] : List Value).toArray s 0 0 A) (F0 m 11 ls []) := by
      intro n9_11
      induction n9_11 with
      | zero =>
        intro x1_11 f_t_past_11 H locs ls hP hD hS hl h
        exact False.elim h
      | succ n9_11 ih11 =>
        intro x1_11 f_t_past_11 H locs ls hP hD hS hl h
        unfold wX9_edits_11 at h
        refine lv_iload_n hx hb dX9_edits_11 rfl (lv_at hl 1 rfl) ?_
        refine lv_sipush (v := 1442) hx hb dX9_edits_12 (by decide) ?_
        refine lv_icmp_ge (tgt := 40) hx hb dX9_edits_15 (by decide) (fun c9 => ?_) (fun c9 => ?_)
        · have h := h.1 c9
          refine lv_aload_n hx hb dX9_edits_40 rfl (lv_at hl 0 rfl) ?_
          refine lv_dup hx hb dX9_edits_41 rfl ?_
          refine va_get (D := D) (ci := 7) (v := .int t_edits) (C := RX9) (T := TX9) (N := 12) hx hb hq inX9g hown hK hP 0 rfl rfl 3 (by decide) (hq _ q_884) (fun _ h9 => h9) rfl dX9_edits_42 ?_
          refine lv_iconst (v := 1) hx hb dX9_edits_45 (by decide) ?_
          refine lv_isub hx hb dX9_edits_46 ?_
          refine va_put (D := D) (ci := 7) (v := .int (t_edits - 1)) (ty := .int) (C := RX9) (T := TX9) (N := 12) hx hb hq inX9g tyX9 tyX9_ok nmX9 hown hK hP hD hS 0 rfl rfl 3 (by decide) (hq _ q_884) (fun _ h9 => h9) rfl (by decide +kernel) rfl rfl (Nat.le_of_ble_eq_true rfl) dX9_edits_47 (fun H locs hP hD hS => ?_)
          have hP : va_P D vwCl [(a_t, .inr (7, [.ref a_t_v, .ref a_t_past, .ref a_t_costs, .int (t_edits - 1), .int t_thrown, .ref a_t_into, .ref a_t_isNeeded, .ref a_t_depths, .ref a_t_names, .ref a_t_out, .int t_outs, .ref a_t_has])), (a_t_v, .inl (ca 0, 206, .inl f_t_v)), (a_t_past, .inl (ca 0, 1648, .inl f_t_past_11))] H := hP
          have hD : va_D A [(a_t, .inr (7, [.ref a_t_v, .ref a_t_past, .ref a_t_costs, .int (t_edits - 1), .int t_thrown, .ref a_t_into, .ref a_t_isNeeded, .ref a_t_depths, .ref a_t_names, .ref a_t_out, .int t_outs, .ref a_t_has])), (a_t_v, .inl (ca 0, 206, .inl f_t_v)), (a_t_past, .inl (ca 0, 1648, .inl f_t_past_11))] := hD
          exact hJ50 (t_edits - 1) f_t_past_11 _ _ _ hP hD hS (lv_sub hl [0] rfl) h
        · have h := h.2 c9
          refine lv_aload_n hx hb dX9_edits_18 rfl (lv_at hl 0 rfl) ?_
          refine va_get (D := D) (ci := 7) (v := .ref a_t_past) (C := RX9) (T := TX9) (N := 12) hx hb hq inX9g hown hK hP 0 rfl rfl 1 (by decide) (hq _ q_882) (fun _ h9 => h9) rfl dX9_edits_19 ?_
          refine lv_iload_n hx hb dX9_edits_22 rfl (lv_at hl 1 rfl) ?_
          refine lv_aload_n hx hb dX9_edits_23 rfl (lv_at hl 0 rfl) ?_
          refine va_get (D := D) (ci := 7) (v := .ref a_t_past) (C := RX9) (T := TX9) (N := 12) hx hb hq inX9g hown hK hP 0 rfl rfl 1 (by decide) (hq _ q_882) (fun _ h9 => h9) rfl dX9_edits_24 ?_
          refine lv_iload_n hx hb dX9_edits_27 rfl (lv_at hl 1 rfl) ?_
          refine lv_sipush (v := 206) hx hb dX9_edits_28 (by decide) ?_
          refine lv_iadd hx hb dX9_edits_31 ?_
          obtain ⟨hi9, h⟩ := h
          refine va_iald hx hb hK hP 2 0 rfl rfl hi9 dX9_edits_32 ?_
          obtain ⟨hi9, h⟩ := h
          refine va_iast hx hb hK hP hD hS 2 0 rfl rfl hi9 dX9_edits_33 (fun H locs hP hD hS => ?_)
          have hP : va_P D vwCl [(a_t, .inr (7, [.ref a_t_v, .ref a_t_past, .ref a_t_costs, .int t_edits, .int t_thrown, .ref a_t_into, .ref a_t_isNeeded, .ref a_t_depths, .ref a_t_names, .ref a_t_out, .int t_outs, .ref a_t_has])), (a_t_v, .inl (ca 0, 206, .inl f_t_v)), (a_t_past, .inl (ca 0, 1648, .inl (upd f_t_past_11 x1_11.toNatClampNeg (f_t_past_11 (x1_11 + 206).toNatClampNeg))))] H := hP
          have hD : va_D A [(a_t, .inr (7, [.ref a_t_v, .ref a_t_past, .ref a_t_costs, .int t_edits, .int t_thrown, .ref a_t_into, .ref a_t_isNeeded, .ref a_t_depths, .ref a_t_names, .ref a_t_out, .int t_outs, .ref a_t_has])), (a_t_v, .inl (ca 0, 206, .inl f_t_v)), (a_t_past, .inl (ca 0, 1648, .inl (upd f_t_past_11 x1_11.toNatClampNeg (f_t_past_11 (x1_11 + 206).toNatClampNeg))))] := hD
          obtain ⟨x1_34, ex1_34⟩ : ∃ y : Int32, y = x1_11 + 1 := ⟨_, rfl⟩
          have h := h x1_34 ex1_34
          refine lv_iinc (v := x1_34) (lv' := [(1, .int x1_34), (0, .ref a_t)]) hx hb dX9_edits_34 hl (k := 1) rfl (by rw [ex1_34]; rfl) (by decide) rfl (fun ls hl => ?_)
          refine lv_goto (tgt := 11) hx hb dX9_edits_37 (by decide) ?_
          exact ih11 x1_34 (upd f_t_past_11 x1_11.toNatClampNeg (f_t_past_11 (x1_11 + 206).toNatClampNeg)) _ _ _ hP hD hS (lv_sub hl [1, 0] rfl) h
    obtain ⟨k9, h⟩ := h
    exact hL11 k9 0 f_t_past _ _ _ hP hD hS (lv_sub hl [1, 0] rfl) h

def wX9_power (x0 : Int32) (Q : Int64 → Prop) : Prop :=
  Q ((1 : Int64) <<< (x0.toInt64 &&& 63))
set_option maxHeartbeats 4000000 in
set_option maxRecDepth 100000 in
theorem mX9_power (l : Launch) (x0 : Int32) (Q : Int64 → Prop) (h : wX9_power x0 Q) : Met l yX9_power (Cond.code yX9_power cX9_power 1 (some .long) :: wsG) ({ frames := 0, cells := 0, slots := 0, locals := 0 } : Room) (va_Pc [.int x0] (fun _ => True)) (va_Ql (fun (r : Int64) (_ : Unit) => Q r) (fun _ _ => True) (fun _ => False)) 0 0 (fun _ => False) := by
  refine Met.ofW (cc := cX9_power) (maxL := 1) (ret := (some .long)) (by decide) rfl ?_
  intro p e s m args below meth c s₁ B hml hv
  obtain ⟨rfl, -⟩ := hv
  have hx := B.exec
  have hb := B.bytes
  have hr := B.returns
  have hts := atoms_spec (ws := (Cond.code yX9_power cX9_power 1 (some .long) :: wsG)) B.pre
  have hq : ∀ w ∈ wsG, w.before _ s = true := fun w hw => hts w (List.mem_cons_of_mem _ hw)
  have hown : s.vm.findClass RX9 = some m.cls := findClass_of_methodNamed B.named
  have hlocks := B.notSynchronized
  have hS : va_S (fun _ : Nat => False) s.heap s.heap [] := va_S.rf
  have hl := lv_entry ([.int x0]) (n := 1) (Nat.le_of_ble_eq_true rfl)
  rw [lg_entry_eq]
  generalize (lg_sl ([.int x0]) ++ List.replicate (1 - (lg_sl ([.int x0])).length) Slot.unset).toArray = ls at hl ⊢
  have hl : lv_has ls 1 [(0, .int x0)] := hl
  unfold wX9_power at h
  refine lv_lconst (v := 1) hx hb dX9_power_0 (by decide) ?_
  refine lv_iload_n hx hb dX9_power_1 rfl (lv_at hl 0 rfl) ?_
  refine lv_lshl hx hb dX9_power_2 rfl ?_
  exact W.lret (v := (1 : Int64) <<< (x0.toInt64 &&& 63)) hx hb hr (fun t ht hW => ⟨⟨(1 : Int64) <<< (x0.toInt64 &&& 63), (), rfl, h, trivial⟩, hS.F ht⟩) hS.2.2 dX9_power_3

abbrev qX9_all (D : va_G) (ca : Nat → ClassId) (a_t a_t_v a_t_past a_t_costs a_t_into a_t_isNeeded a_t_depths a_t_names a_t_out a_t_has : Nat) (t_edits : Int32) (t_thrown : Int32) (t_outs : Int32) (f_t_v : Nat → Int32) (Q : Int64 → Prop) (A : Nat → Prop) : Array Value → State → Outcome → State → Prop := va_Ql (fun (r : Int64) (_ : Unit) => Q r) (wEnd D ca (fun _ : Unit => [(a_t, .inr (7, [.ref a_t_v, .ref a_t_past, .ref a_t_costs, .int t_edits, .int t_thrown, .ref a_t_into, .ref a_t_isNeeded, .ref a_t_depths, .ref a_t_names, .ref a_t_out, .int t_outs, .ref a_t_has])), (a_t_v, .inl (ca 0, 206, .inl f_t_v))]) A) A
def wX9_all (f_t_v : Nat → Int32) (Q : Int64 → Prop) : Prop :=
  (vp_in 0 206 ∧ wX9_power (f_t_v (0 : Int32).toNatClampNeg) (fun r_6 => Q r_6))
set_option maxHeartbeats 4000000 in
set_option maxRecDepth 100000 in
theorem mX9_all (l : Launch) (D : va_G) (ca : Nat → ClassId) (a_t a_t_v a_t_past a_t_costs a_t_into a_t_isNeeded a_t_depths a_t_names a_t_out a_t_has : Nat) (sz : Nat) (t_edits : Int32) (t_thrown : Int32) (t_outs : Int32) (f_t_v : Nat → Int32) (Q : Int64 → Prop) (h : wX9_all f_t_v Q) : Met l yX9_all (Cond.code yX9_all cX9_all 1 (some .long) :: wsG) ({ frames := 1, cells := 0, slots := 0, locals := 20 } : Room) (va_Pc [.ref a_t] (wPre D ca [(a_t, .inr (7, [.ref a_t_v, .ref a_t_past, .ref a_t_costs, .int t_edits, .int t_thrown, .ref a_t_into, .ref a_t_isNeeded, .ref a_t_depths, .ref a_t_names, .ref a_t_out, .int t_outs, .ref a_t_has])), (a_t_v, .inl (ca 0, 206, .inl f_t_v))] sz)) (qX9_all D ca a_t a_t_v a_t_past a_t_costs a_t_into a_t_isNeeded a_t_depths a_t_names a_t_out a_t_has t_edits t_thrown t_outs f_t_v Q (va_A [(a_t, .inr (7, [.ref a_t_v, .ref a_t_past, .ref a_t_costs, .int t_edits, .int t_thrown, .ref a_t_into, .ref a_t_isNeeded, .ref a_t_depths, .ref a_t_names, .ref a_t_out, .int t_outs, .ref a_t_has])), (a_t_v, .inl (ca 0, 206, .inl f_t_v))] sz)) 0 0 (va_A [(a_t, .inr (7, [.ref a_t_v, .ref a_t_past, .ref a_t_costs, .int t_edits, .int t_thrown, .ref a_t_into, .ref a_t_isNeeded, .ref a_t_depths, .ref a_t_names, .ref a_t_out, .int t_outs, .ref a_t_has])), (a_t_v, .inl (ca 0, 206, .inl f_t_v))] sz) := by
  refine Met.ofW (cc := cX9_all) (maxL := 1) (ret := (some .long)) (by decide) rfl ?_
  intro p e s m args below meth c s₁ B hml hv
  obtain ⟨rfl, hsz, hP, hK, hD0⟩ := hv
  have hx := B.exec
  have hb := B.bytes
  have hr := B.returns
  have hts := atoms_spec (ws := (Cond.code yX9_all cX9_all 1 (some .long) :: wsG)) B.pre
  have hq : ∀ w ∈ wsG, w.before _ s = true := fun w hw => hts w (List.mem_cons_of_mem _ hw)
  have hown : s.vm.findClass RX9 = some m.cls := findClass_of_methodNamed B.named
  have hlocks := B.notSynchronized
  subst hsz
  have hD := hD0.self (sz := s.heap.size)
  generalize hAe : va_A [(a_t, .inr (7, [.ref a_t_v, .ref a_t_past, .ref a_t_costs, .int t_edits, .int t_thrown, .ref a_t_into, .ref a_t_isNeeded, .ref a_t_depths, .ref a_t_names, .ref a_t_out, .int t_outs, .ref a_t_has])), (a_t_v, .inl (ca 0, 206, .inl f_t_v))] s.heap.size = A at hD ⊢
  have hA : ∀ q : Nat, s.heap.size ≤ q → A q := fun q h => by rw [← hAe]; exact Or.inr h
  have hS : va_S A s.heap s.heap [] := va_S.rf
  have hP : va_P D vwCl [(a_t, .inr (7, [.ref a_t_v, .ref a_t_past, .ref a_t_costs, .int t_edits, .int t_thrown, .ref a_t_into, .ref a_t_isNeeded, .ref a_t_depths, .ref a_t_names, .ref a_t_out, .int t_outs, .ref a_t_has])), (a_t_v, .inl (ca 0, 206, .inl f_t_v))] s.heap := hP
  have hl := lv_entry ([.ref a_t]) (n := 1) (Nat.le_of_ble_eq_true rfl)
  rw [lg_entry_eq]
  generalize (lg_sl ([.ref a_t]) ++ List.replicate (1 - (lg_sl ([.ref a_t])).length) Slot.unset).toArray = ls at hl ⊢
  have hl : lv_has ls 1 [(0, .ref a_t)] := hl
  unfold wX9_all at h
  refine lv_aload_n hx hb dX9_all_0 rfl (lv_at hl 0 rfl) ?_
  refine va_get (D := D) (ci := 7) (v := .ref a_t_v) (C := RX9) (T := TX9) (N := 12) hx hb hq inX9g hown hK hP 0 rfl rfl 0 (by decide) (hq _ q_881) (fun _ h9 => h9) rfl dX9_all_1 ?_
  refine lv_iconst (v := 0) hx hb dX9_all_4 (by decide) ?_
  obtain ⟨hi9, h⟩ := h
  refine va_iald hx hb hK hP 1 0 rfl rfl hi9 dX9_all_5 ?_
  refine cPl (As := [.int (f_t_v (0 : Int32).toNatClampNeg)]) (rest := []) ⟨hx, hb, hml, hown, hts⟩ (mX9_power l (f_t_v (0 : Int32).toNatClampNeg) _ h) (va_cwS 1 hts (gS q_959 q_960 q_8 q_961) rfl rfl rfl (by decide +kernel) ⟨Nat.le_of_ble_eq_true rfl, Nat.le_of_ble_eq_true rfl⟩) hS rfl hl.1 rfl (Nat.le_of_ble_eq_true rfl) dX9_all_6 ⟨Nat.le_of_ble_eq_true rfl, Nat.le_of_ble_eq_true rfl⟩ (fun r_6 H1 locs h hk1 hS => ?_)
  have hP := s_back hP hk1
  try dsimp only at h
  exact W.lret (v := r_6) hx hb hr (fun t ht hW => ⟨⟨r_6, (), rfl, h, by rw [ht]; exact hP, va_K.moved hW.alike hK, hD⟩, hS.F ht⟩) hS.2.2 dX9_all_9

abbrev qX9_half (D : va_G) (ca : Nat → ClassId) (a_t a_t_v a_t_past a_t_costs a_t_into a_t_isNeeded a_t_depths a_t_names a_t_out a_t_has : Nat) (t_edits : Int32) (t_thrown : Int32) (t_outs : Int32) (f_t_v : Nat → Int32) (Q : Int64 → Prop) (A : Nat → Prop) : Array Value → State → Outcome → State → Prop := va_Ql (fun (r : Int64) (_ : Unit) => Q r) (wEnd D ca (fun _ : Unit => [(a_t, .inr (7, [.ref a_t_v, .ref a_t_past, .ref a_t_costs, .int t_edits, .int t_thrown, .ref a_t_into, .ref a_t_isNeeded, .ref a_t_depths, .ref a_t_names, .ref a_t_out, .int t_outs, .ref a_t_has])), (a_t_v, .inl (ca 0, 206, .inl f_t_v))]) A) A
def wX9_half (f_t_v : Nat → Int32) (Q : Int64 → Prop) : Prop :=
  (vp_in 0 206 ∧ wX9_power ((f_t_v (0 : Int32).toNatClampNeg) - 1) (fun r_8 => Q r_8))
set_option maxHeartbeats 4000000 in
set_option maxRecDepth 100000 in
theorem mX9_half (l : Launch) (D : va_G) (ca : Nat → ClassId) (a_t a_t_v a_t_past a_t_costs a_t_into a_t_isNeeded a_t_depths a_t_names a_t_out a_t_has : Nat) (sz : Nat) (t_edits : Int32) (t_thrown : Int32) (t_outs : Int32) (f_t_v : Nat → Int32) (Q : Int64 → Prop) (h : wX9_half f_t_v Q) : Met l yX9_half (Cond.code yX9_half cX9_half 1 (some .long) :: wsG) ({ frames := 1, cells := 0, slots := 0, locals := 20 } : Room) (va_Pc [.ref a_t] (wPre D ca [(a_t, .inr (7, [.ref a_t_v, .ref a_t_past, .ref a_t_costs, .int t_edits, .int t_thrown, .ref a_t_into, .ref a_t_isNeeded, .ref a_t_depths, .ref a_t_names, .ref a_t_out, .int t_outs, .ref a_t_has])), (a_t_v, .inl (ca 0, 206, .inl f_t_v))] sz)) (qX9_half D ca a_t a_t_v a_t_past a_t_costs a_t_into a_t_isNeeded a_t_depths a_t_names a_t_out a_t_has t_edits t_thrown t_outs f_t_v Q (va_A [(a_t, .inr (7, [.ref a_t_v, .ref a_t_past, .ref a_t_costs, .int t_edits, .int t_thrown, .ref a_t_into, .ref a_t_isNeeded, .ref a_t_depths, .ref a_t_names, .ref a_t_out, .int t_outs, .ref a_t_has])), (a_t_v, .inl (ca 0, 206, .inl f_t_v))] sz)) 0 0 (va_A [(a_t, .inr (7, [.ref a_t_v, .ref a_t_past, .ref a_t_costs, .int t_edits, .int t_thrown, .ref a_t_into, .ref a_t_isNeeded, .ref a_t_depths, .ref a_t_names, .ref a_t_out, .int t_outs, .ref a_t_has])), (a_t_v, .inl (ca 0, 206, .inl f_t_v))] sz) := by
  refine Met.ofW (cc := cX9_half) (maxL := 1) (ret := (some .long)) (by decide) rfl ?_
  intro p e s m args below meth c s₁ B hml hv
  obtain ⟨rfl, hsz, hP, hK, hD0⟩ := hv
  have hx := B.exec
  have hb := B.bytes
  have hr := B.returns
  have hts := atoms_spec (ws := (Cond.code yX9_half cX9_half 1 (some .long) :: wsG)) B.pre
  have hq : ∀ w ∈ wsG, w.before _ s = true := fun w hw => hts w (List.mem_cons_of_mem _ hw)
  have hown : s.vm.findClass RX9 = some m.cls := findClass_of_methodNamed B.named
  have hlocks := B.notSynchronized
  subst hsz
  have hD := hD0.self (sz := s.heap.size)
  generalize hAe : va_A [(a_t, .inr (7, [.ref a_t_v, .ref a_t_past, .ref a_t_costs, .int t_edits, .int t_thrown, .ref a_t_into, .ref a_t_isNeeded, .ref a_t_depths, .ref a_t_names, .ref a_t_out, .int t_outs, .ref a_t_has])), (a_t_v, .inl (ca 0, 206, .inl f_t_v))] s.heap.size = A at hD ⊢
  have hA : ∀ q : Nat, s.heap.size ≤ q → A q := fun q h => by rw [← hAe]; exact Or.inr h
  have hS : va_S A s.heap s.heap [] := va_S.rf
  have hP : va_P D vwCl [(a_t, .inr (7, [.ref a_t_v, .ref a_t_past, .ref a_t_costs, .int t_edits, .int t_thrown, .ref a_t_into, .ref a_t_isNeeded, .ref a_t_depths, .ref a_t_names, .ref a_t_out, .int t_outs, .ref a_t_has])), (a_t_v, .inl (ca 0, 206, .inl f_t_v))] s.heap := hP
  have hl := lv_entry ([.ref a_t]) (n := 1) (Nat.le_of_ble_eq_true rfl)
  rw [lg_entry_eq]
  generalize (lg_sl ([.ref a_t]) ++ List.replicate (1 - (lg_sl ([.ref a_t])).length) Slot.unset).toArray = ls at hl ⊢
  have hl : lv_has ls 1 [(0, .ref a_t)] := hl
  unfold wX9_half at h
  refine lv_aload_n hx hb dX9_half_0 rfl (lv_at hl 0 rfl) ?_
  refine va_get (D := D) (ci := 7) (v := .ref a_t_v) (C := RX9) (T := TX9) (N := 12) hx hb hq inX9g hown hK hP 0 rfl rfl 0 (by decide) (hq _ q_881) (fun _ h9 => h9) rfl dX9_half_1 ?_
  refine lv_iconst (v := 0) hx hb dX9_half_4 (by decide) ?_
  obtain ⟨hi9, h⟩ := h
  refine va_iald hx hb hK hP 1 0 rfl rfl hi9 dX9_half_5 ?_
  refine lv_iconst (v := 1) hx hb dX9_half_6 (by decide) ?_
  refine lv_isub hx hb dX9_half_7 ?_
  refine cPl (As := [.int ((f_t_v (0 : Int32).toNatClampNeg) - 1)]) (rest := []) ⟨hx, hb, hml, hown, hts⟩ (mX9_power l ((f_t_v (0 : Int32).toNatClampNeg) - 1) _ h) (va_cwS 1 hts (gS q_959 q_960 q_8 q_961) rfl rfl rfl (by decide +kernel) ⟨Nat.le_of_ble_eq_true rfl, Nat.le_of_ble_eq_true rfl⟩) hS rfl hl.1 rfl (Nat.le_of_ble_eq_true rfl) dX9_half_8 ⟨Nat.le_of_ble_eq_true rfl, Nat.le_of_ble_eq_true rfl⟩ (fun r_8 H1 locs h hk1 hS => ?_)
  have hP := s_back hP hk1
  try dsimp only at h
  exact W.lret (v := r_8) hx hb hr (fun t ht hW => ⟨⟨r_8, (), rfl, h, by rw [ht]; exact hP, va_K.moved hW.alike hK, hD⟩, hS.F ht⟩) hS.2.2 dX9_half_11

def wX9_floor (x0 : Int64) (x2 : Int64) (Q : Int64 → Prop) : Prop :=
  (¬ x2 = 0 ∧ (∀ x4_3 : Int64, x4_3 = x0 / x2 → (¬ x2 = 0 ∧ ((0 ≤ (x0 - x0 / x2 * x2) → Q x4_3) ∧ (¬ 0 ≤ (x0 - x0 / x2 * x2) → Q (x4_3 - 1))))))
set_option maxHeartbeats 4000000 in
set_option maxRecDepth 100000 in
theorem mX9_floor (l : Launch) (x0 : Int64) (x2 : Int64) (Q : Int64 → Prop) (h : wX9_floor x0 x2 Q) : Met l yX9_floor (Cond.code yX9_floor cX9_floor 6 (some .long) :: wsG) ({ frames := 0, cells := 0, slots := 0, locals := 0 } : Room) (va_Pc [.long x0, .long x2] (fun _ => True)) (va_Ql (fun (r : Int64) (_ : Unit) => Q r) (fun _ _ => True) (fun _ => False)) 0 0 (fun _ => False) := by
  refine Met.ofW (cc := cX9_floor) (maxL := 6) (ret := (some .long)) (by decide) rfl ?_
  intro p e s m args below meth c s₁ B hml hv
  obtain ⟨rfl, -⟩ := hv
  have hx := B.exec
  have hb := B.bytes
  have hr := B.returns
  have hts := atoms_spec (ws := (Cond.code yX9_floor cX9_floor 6 (some .long) :: wsG)) B.pre
  have hq : ∀ w ∈ wsG, w.before _ s = true := fun w hw => hts w (List.mem_cons_of_mem _ hw)
  have hown : s.vm.findClass RX9 = some m.cls := findClass_of_methodNamed B.named
  have hlocks := B.notSynchronized
  have hS : va_S (fun _ : Nat => False) s.heap s.heap [] := va_S.rf
  have hl := lv_entry ([.long x0, .long x2]) (n := 6) (Nat.le_of_ble_eq_true rfl)
  rw [lg_entry_eq]
  generalize (lg_sl ([.long x0, .long x2]) ++ List.replicate (6 - (lg_sl ([.long x0, .long x2])).length) Slot.unset).toArray = ls at hl ⊢
  have hl : lv_has ls 6 [(0, .long x0), (2, .long x2)] := hl
  unfold wX9_floor at h
  refine lv_lload_n hx hb dX9_floor_0 rfl (lv_at hl 0 rfl) ?_
  refine lv_lload_n hx hb dX9_floor_1 rfl (lv_at hl 1 rfl) ?_
  obtain ⟨hne9, h⟩ := h
  refine lv_ldiv hx hb dX9_floor_2 hne9 ?_
  refine lv_topl (fun x4_3 ex4_3 => ?_)
  have h := h x4_3 ex4_3
  refine lv_lstore (lv' := [(4, .long x4_3), (0, .long x0), (2, .long x2)]) hx hb dX9_floor_3 hl (by decide) rfl (fun ls hl => ?_)
  refine lv_lload_n hx hb dX9_floor_5 rfl (lv_at hl 1 rfl) ?_
  refine lv_lload_n hx hb dX9_floor_6 rfl (lv_at hl 2 rfl) ?_
  obtain ⟨hne9, h⟩ := h
  refine lv_lrem hx hb dX9_floor_7 hne9 ?_
  refine lv_lconst (v := 0) hx hb dX9_floor_8 (by decide) ?_
  refine jl_ge (tgt := 20) hx hb dX9_floor_9 dX9_floor_10 (by decide) (fun c9 => ?_) (fun c9 => ?_)
  · have h := h.1 c9
    refine lv_lload hx hb dX9_floor_20 (lv_at hl 0 rfl) ?_
    exact W.lret (v := x4_3) hx hb hr (fun t ht hW => ⟨⟨x4_3, (), rfl, h, trivial⟩, hS.F ht⟩) hS.2.2 dX9_floor_22
  · have h := h.2 c9
    refine lv_lload hx hb dX9_floor_13 (lv_at hl 0 rfl) ?_
    refine lv_lconst (v := 1) hx hb dX9_floor_15 (by decide) ?_
    refine lv_lsub hx hb dX9_floor_16 ?_
    refine lv_goto (tgt := 22) hx hb dX9_floor_17 (by decide) ?_
    exact W.lret (v := x4_3 - 1) hx hb hr (fun t ht hW => ⟨⟨x4_3 - 1, (), rfl, h, trivial⟩, hS.F ht⟩) hS.2.2 dX9_floor_22

abbrev qX9_value (D : va_G) (ca : Nat → ClassId) (a_t a_t_v a_t_past a_t_costs a_t_into a_t_isNeeded a_t_depths a_t_names a_t_out a_t_has : Nat) (t_edits : Int32) (t_thrown : Int32) (t_outs : Int32) (f_t_v : Nat → Int32) (Q : Int64 → Prop) (A : Nat → Prop) : Array Value → State → Outcome → State → Prop := va_Ql (fun (r : Int64) (_ : Unit) => Q r) (wEnd D ca (fun _ : Unit => [(a_t, .inr (7, [.ref a_t_v, .ref a_t_past, .ref a_t_costs, .int t_edits, .int t_thrown, .ref a_t_into, .ref a_t_isNeeded, .ref a_t_depths, .ref a_t_names, .ref a_t_out, .int t_outs, .ref a_t_has])), (a_t_v, .inl (ca 0, 206, .inl f_t_v))]) A) A
def wX9_value (f_t_v : Nat → Int32) (x1 : Int64) (Q : Int64 → Prop) : Prop :=
  wX9_all f_t_v (fun r_2 => wX9_all f_t_v (fun r_7 => wX9_floor x1 r_7 (fun r_10 => Q (x1 - (r_2 * r_10)))))
set_option maxHeartbeats 4000000 in
set_option maxRecDepth 100000 in
theorem mX9_value (l : Launch) (D : va_G) (ca : Nat → ClassId) (a_t a_t_v a_t_past a_t_costs a_t_into a_t_isNeeded a_t_depths a_t_names a_t_out a_t_has : Nat) (sz : Nat) (t_edits : Int32) (t_thrown : Int32) (t_outs : Int32) (f_t_v : Nat → Int32) (x1 : Int64) (Q : Int64 → Prop) (h : wX9_value f_t_v x1 Q) : Met l yX9_value (Cond.code yX9_value cX9_value 3 (some .long) :: wsG) ({ frames := 2, cells := 0, slots := 0, locals := 40 } : Room) (va_Pc [.ref a_t, .long x1] (wPre D ca [(a_t, .inr (7, [.ref a_t_v, .ref a_t_past, .ref a_t_costs, .int t_edits, .int t_thrown, .ref a_t_into, .ref a_t_isNeeded, .ref a_t_depths, .ref a_t_names, .ref a_t_out, .int t_outs, .ref a_t_has])), (a_t_v, .inl (ca 0, 206, .inl f_t_v))] sz)) (qX9_value D ca a_t a_t_v a_t_past a_t_costs a_t_into a_t_isNeeded a_t_depths a_t_names a_t_out a_t_has t_edits t_thrown t_outs f_t_v Q (va_A [(a_t, .inr (7, [.ref a_t_v, .ref a_t_past, .ref a_t_costs, .int t_edits, .int t_thrown, .ref a_t_into, .ref a_t_isNeeded, .ref a_t_depths, .ref a_t_names, .ref a_t_out, .int t_outs, .ref a_t_has])), (a_t_v, .inl (ca 0, 206, .inl f_t_v))] sz)) 0 0 (va_A [(a_t, .inr (7, [.ref a_t_v, .ref a_t_past, .ref a_t_costs, .int t_edits, .int t_thrown, .ref a_t_into, .ref a_t_isNeeded, .ref a_t_depths, .ref a_t_names, .ref a_t_out, .int t_outs, .ref a_t_has])), (a_t_v, .inl (ca 0, 206, .inl f_t_v))] sz) := by
  refine Met.ofW (cc := cX9_value) (maxL := 3) (ret := (some .long)) (by decide) rfl ?_
  intro p e s m args below meth c s₁ B hml hv
  obtain ⟨rfl, hsz, hP, hK, hD0⟩ := hv
  have hx := B.exec
  have hb := B.bytes
  have hr := B.returns
  have hts := atoms_spec (ws := (Cond.code yX9_value cX9_value 3 (some .long) :: wsG)) B.pre
  have hq : ∀ w ∈ wsG, w.before _ s = true := fun w hw => hts w (List.mem_cons_of_mem _ hw)
  have hown : s.vm.findClass RX9 = some m.cls := findClass_of_methodNamed B.named
  have hlocks := B.notSynchronized
  subst hsz
  have hD := hD0.self (sz := s.heap.size)
  generalize hAe : va_A [(a_t, .inr (7, [.ref a_t_v, .ref a_t_past, .ref a_t_costs, .int t_edits, .int t_thrown, .ref a_t_into, .ref a_t_isNeeded, .ref a_t_depths, .ref a_t_names, .ref a_t_out, .int t_outs, .ref a_t_has])), (a_t_v, .inl (ca 0, 206, .inl f_t_v))] s.heap.size = A at hD ⊢
  have hA : ∀ q : Nat, s.heap.size ≤ q → A q := fun q h => by rw [← hAe]; exact Or.inr h
  have hS : va_S A s.heap s.heap [] := va_S.rf
  have hP : va_P D vwCl [(a_t, .inr (7, [.ref a_t_v, .ref a_t_past, .ref a_t_costs, .int t_edits, .int t_thrown, .ref a_t_into, .ref a_t_isNeeded, .ref a_t_depths, .ref a_t_names, .ref a_t_out, .int t_outs, .ref a_t_has])), (a_t_v, .inl (ca 0, 206, .inl f_t_v))] s.heap := hP
  have hl := lv_entry ([.ref a_t, .long x1]) (n := 3) (Nat.le_of_ble_eq_true rfl)
  rw [lg_entry_eq]
  generalize (lg_sl ([.ref a_t, .long x1]) ++ List.replicate (3 - (lg_sl ([.ref a_t, .long x1])).length) Slot.unset).toArray = ls at hl ⊢
  have hl : lv_has ls 3 [(0, .ref a_t), (1, .long x1)] := hl
  unfold wX9_value at h
  refine lv_lload_n hx hb dX9_value_0 rfl (lv_at hl 1 rfl) ?_
  refine lv_aload_n hx hb dX9_value_1 rfl (lv_at hl 0 rfl) ?_
  refine cVl (As := []) (rest := [.long x1]) (wc := [(a_t, .inr (7, [.ref a_t_v, .ref a_t_past, .ref a_t_costs, .int t_edits, .int t_thrown, .ref a_t_into, .ref a_t_isNeeded, .ref a_t_depths, .ref a_t_names, .ref a_t_out, .int t_outs, .ref a_t_has])), (a_t_v, .inl (ca 0, 206, .inl f_t_v))]) (wr := []) (w1 := fun _ : Unit => [(a_t, .inr (7, [.ref a_t_v, .ref a_t_past, .ref a_t_costs, .int t_edits, .int t_thrown, .ref a_t_into, .ref a_t_isNeeded, .ref a_t_depths, .ref a_t_names, .ref a_t_out, .int t_outs, .ref a_t_has])), (a_t_v, .inl (ca 0, 206, .inl f_t_v))]) (ws2 := fun _ : Unit => [(a_t, .inr (7, [.ref a_t_v, .ref a_t_past, .ref a_t_costs, .int t_edits, .int t_thrown, .ref a_t_into, .ref a_t_isNeeded, .ref a_t_depths, .ref a_t_names, .ref a_t_out, .int t_outs, .ref a_t_has])), (a_t_v, .inl (ca 0, 206, .inl f_t_v))]) ⟨hx, hb, hml, hown, hts⟩ (mX9_all l D ca a_t a_t_v a_t_past a_t_costs a_t_into a_t_isNeeded a_t_depths a_t_names a_t_out a_t_has _ t_edits t_thrown t_outs f_t_v _ h) (cwV 0 hts (gV q_955 q_957 qs_35 q_8 q_958) rfl rfl rfl (by decide +kernel) ⟨Nat.le_of_ble_eq_true rfl, Nat.le_of_ble_eq_true rfl⟩) hK hP hD hS hA [0, 1] [] [0, 1] rfl rfl rfl (by decide) (fun _ => rfl) (ci := 7) (q0 := 0) rfl rfl rfl hl.1 rfl (Nat.le_of_ble_eq_true rfl) dX9_value_2 ⟨Nat.le_of_ble_eq_true rfl, Nat.le_of_ble_eq_true rfl⟩ (fun r_2 u9 H locs h hP hD hS => ?_)
  try dsimp only at h
  refine lv_lload_n hx hb dX9_value_5 rfl (lv_at hl 1 rfl) ?_
  refine lv_aload_n hx hb dX9_value_6 rfl (lv_at hl 0 rfl) ?_
  refine cVl (As := []) (rest := [.long x1, .long r_2, .long x1]) (wc := [(a_t, .inr (7, [.ref a_t_v, .ref a_t_past, .ref a_t_costs, .int t_edits, .int t_thrown, .ref a_t_into, .ref a_t_isNeeded, .ref a_t_depths, .ref a_t_names, .ref a_t_out, .int t_outs, .ref a_t_has])), (a_t_v, .inl (ca 0, 206, .inl f_t_v))]) (wr := []) (w1 := fun _ : Unit => [(a_t, .inr (7, [.ref a_t_v, .ref a_t_past, .ref a_t_costs, .int t_edits, .int t_thrown, .ref a_t_into, .ref a_t_isNeeded, .ref a_t_depths, .ref a_t_names, .ref a_t_out, .int t_outs, .ref a_t_has])), (a_t_v, .inl (ca 0, 206, .inl f_t_v))]) (ws2 := fun _ : Unit => [(a_t, .inr (7, [.ref a_t_v, .ref a_t_past, .ref a_t_costs, .int t_edits, .int t_thrown, .ref a_t_into, .ref a_t_isNeeded, .ref a_t_depths, .ref a_t_names, .ref a_t_out, .int t_outs, .ref a_t_has])), (a_t_v, .inl (ca 0, 206, .inl f_t_v))]) ⟨hx, hb, hml, hown, hts⟩ (mX9_all l D ca a_t a_t_v a_t_past a_t_costs a_t_into a_t_isNeeded a_t_depths a_t_names a_t_out a_t_has _ t_edits t_thrown t_outs f_t_v _ h) (cwV 0 hts (gV q_955 q_957 qs_35 q_8 q_958) rfl rfl rfl (by decide +kernel) ⟨Nat.le_of_ble_eq_true rfl, Nat.le_of_ble_eq_true rfl⟩) hK hP hD hS hA [0, 1] [] [0, 1] rfl rfl rfl (by decide) (fun _ => rfl) (ci := 7) (q0 := 0) rfl rfl rfl hl.1 rfl (Nat.le_of_ble_eq_true rfl) dX9_value_7 ⟨Nat.le_of_ble_eq_true rfl, Nat.le_of_ble_eq_true rfl⟩ (fun r_7 u9 H locs h hP hD hS => ?_)
  try dsimp only at h
  refine cPl (As := [.long x1, .long r_7]) (rest := [.long r_2, .long x1]) ⟨hx, hb, hml, hown, hts⟩ (mX9_floor l x1 r_7 _ h) (va_cwS 2 hts (gS q_1003 q_1004 q_8 q_1005) rfl rfl rfl (by decide +kernel) ⟨Nat.le_of_ble_eq_true rfl, Nat.le_of_ble_eq_true rfl⟩) hS rfl hl.1 rfl (Nat.le_of_ble_eq_true rfl) dX9_value_10 ⟨Nat.le_of_ble_eq_true rfl, Nat.le_of_ble_eq_true rfl⟩ (fun r_10 H1 locs h hk1 hS => ?_)
  have hP := s_back hP hk1
  try dsimp only at h
  refine lv_lmul hx hb dX9_value_13 ?_
  refine lv_lsub hx hb dX9_value_14 ?_
  exact W.lret (v := x1 - (r_2 * r_10)) hx hb hr (fun t ht hW => ⟨⟨x1 - (r_2 * r_10), (), rfl, h, by rw [ht]; exact hP, va_K.moved hW.alike hK, hD⟩, hS.F ht⟩) hS.2.2 dX9_value_15

abbrev qX9_signed (D : va_G) (ca : Nat → ClassId) (a_t a_t_v a_t_past a_t_costs a_t_into a_t_isNeeded a_t_depths a_t_names a_t_out a_t_has : Nat) (t_edits : Int32) (t_thrown : Int32) (t_outs : Int32) (f_t_v : Nat → Int32) (Q : Int64 → Prop) (A : Nat → Prop) : Array Value → State → Outcome → State → Prop := va_Ql (fun (r : Int64) (_ : Unit) => Q r) (wEnd D ca (fun _ : Unit => [(a_t, .inr (7, [.ref a_t_v, .ref a_t_past, .ref a_t_costs, .int t_edits, .int t_thrown, .ref a_t_into, .ref a_t_isNeeded, .ref a_t_depths, .ref a_t_names, .ref a_t_out, .int t_outs, .ref a_t_has])), (a_t_v, .inl (ca 0, 206, .inl f_t_v))]) A) A
def wX9_signed (f_t_v : Nat → Int32) (x1 : Int64) (Q : Int64 → Prop) : Prop :=
  wX9_half f_t_v (fun r_2 => ((r_2 ≤ x1 → wX9_all f_t_v (fun r_15 => Q (x1 - r_15))) ∧ (¬ r_2 ≤ x1 → Q x1)))
set_option maxHeartbeats 4000000 in
set_option maxRecDepth 100000 in
theorem mX9_signed (l : Launch) (D : va_G) (ca : Nat → ClassId) (a_t a_t_v a_t_past a_t_costs a_t_into a_t_isNeeded a_t_depths a_t_names a_t_out a_t_has : Nat) (sz : Nat) (t_edits : Int32) (t_thrown : Int32) (t_outs : Int32) (f_t_v : Nat → Int32) (x1 : Int64) (Q : Int64 → Prop) (h : wX9_signed f_t_v x1 Q) : Met l yX9_signed (Cond.code yX9_signed cX9_signed 3 (some .long) :: wsG) ({ frames := 2, cells := 0, slots := 0, locals := 40 } : Room) (va_Pc [.ref a_t, .long x1] (wPre D ca [(a_t, .inr (7, [.ref a_t_v, .ref a_t_past, .ref a_t_costs, .int t_edits, .int t_thrown, .ref a_t_into, .ref a_t_isNeeded, .ref a_t_depths, .ref a_t_names, .ref a_t_out, .int t_outs, .ref a_t_has])), (a_t_v, .inl (ca 0, 206, .inl f_t_v))] sz)) (qX9_signed D ca a_t a_t_v a_t_past a_t_costs a_t_into a_t_isNeeded a_t_depths a_t_names a_t_out a_t_has t_edits t_thrown t_outs f_t_v Q (va_A [(a_t, .inr (7, [.ref a_t_v, .ref a_t_past, .ref a_t_costs, .int t_edits, .int t_thrown, .ref a_t_into, .ref a_t_isNeeded, .ref a_t_depths, .ref a_t_names, .ref a_t_out, .int t_outs, .ref a_t_has])), (a_t_v, .inl (ca 0, 206, .inl f_t_v))] sz)) 0 0 (va_A [(a_t, .inr (7, [.ref a_t_v, .ref a_t_past, .ref a_t_costs, .int t_edits, .int t_thrown, .ref a_t_into, .ref a_t_isNeeded, .ref a_t_depths, .ref a_t_names, .ref a_t_out, .int t_outs, .ref a_t_has])), (a_t_v, .inl (ca 0, 206, .inl f_t_v))] sz) := by
  refine Met.ofW (cc := cX9_signed) (maxL := 3) (ret := (some .long)) (by decide) rfl ?_
  intro p e s m args below meth c s₁ B hml hv
  obtain ⟨rfl, hsz, hP, hK, hD0⟩ := hv
  have hx := B.exec
  have hb := B.bytes
  have hr := B.returns
  have hts := atoms_spec (ws := (Cond.code yX9_signed cX9_signed 3 (some .long) :: wsG)) B.pre
  have hq : ∀ w ∈ wsG, w.before _ s = true := fun w hw => hts w (List.mem_cons_of_mem _ hw)
  have hown : s.vm.findClass RX9 = some m.cls := findClass_of_methodNamed B.named
  have hlocks := B.notSynchronized
  subst hsz
  have hD := hD0.self (sz := s.heap.size)
  generalize hAe : va_A [(a_t, .inr (7, [.ref a_t_v, .ref a_t_past, .ref a_t_costs, .int t_edits, .int t_thrown, .ref a_t_into, .ref a_t_isNeeded, .ref a_t_depths, .ref a_t_names, .ref a_t_out, .int t_outs, .ref a_t_has])), (a_t_v, .inl (ca 0, 206, .inl f_t_v))] s.heap.size = A at hD ⊢
  have hA : ∀ q : Nat, s.heap.size ≤ q → A q := fun q h => by rw [← hAe]; exact Or.inr h
  have hS : va_S A s.heap s.heap [] := va_S.rf
  have hP : va_P D vwCl [(a_t, .inr (7, [.ref a_t_v, .ref a_t_past, .ref a_t_costs, .int t_edits, .int t_thrown, .ref a_t_into, .ref a_t_isNeeded, .ref a_t_depths, .ref a_t_names, .ref a_t_out, .int t_outs, .ref a_t_has])), (a_t_v, .inl (ca 0, 206, .inl f_t_v))] s.heap := hP
  have hl := lv_entry ([.ref a_t, .long x1]) (n := 3) (Nat.le_of_ble_eq_true rfl)
  rw [lg_entry_eq]
  generalize (lg_sl ([.ref a_t, .long x1]) ++ List.replicate (3 - (lg_sl ([.ref a_t, .long x1])).length) Slot.unset).toArray = ls at hl ⊢
  have hl : lv_has ls 3 [(0, .ref a_t), (1, .long x1)] := hl
  unfold wX9_signed at h
  refine lv_lload_n hx hb dX9_signed_0 rfl (lv_at hl 1 rfl) ?_
  refine lv_aload_n hx hb dX9_signed_1 rfl (lv_at hl 0 rfl) ?_
  refine cVl (As := []) (rest := [.long x1]) (wc := [(a_t, .inr (7, [.ref a_t_v, .ref a_t_past, .ref a_t_costs, .int t_edits, .int t_thrown, .ref a_t_into, .ref a_t_isNeeded, .ref a_t_depths, .ref a_t_names, .ref a_t_out, .int t_outs, .ref a_t_has])), (a_t_v, .inl (ca 0, 206, .inl f_t_v))]) (wr := []) (w1 := fun _ : Unit => [(a_t, .inr (7, [.ref a_t_v, .ref a_t_past, .ref a_t_costs, .int t_edits, .int t_thrown, .ref a_t_into, .ref a_t_isNeeded, .ref a_t_depths, .ref a_t_names, .ref a_t_out, .int t_outs, .ref a_t_has])), (a_t_v, .inl (ca 0, 206, .inl f_t_v))]) (ws2 := fun _ : Unit => [(a_t, .inr (7, [.ref a_t_v, .ref a_t_past, .ref a_t_costs, .int t_edits, .int t_thrown, .ref a_t_into, .ref a_t_isNeeded, .ref a_t_depths, .ref a_t_names, .ref a_t_out, .int t_outs, .ref a_t_has])), (a_t_v, .inl (ca 0, 206, .inl f_t_v))]) ⟨hx, hb, hml, hown, hts⟩ (mX9_half l D ca a_t a_t_v a_t_past a_t_costs a_t_into a_t_isNeeded a_t_depths a_t_names a_t_out a_t_has _ t_edits t_thrown t_outs f_t_v _ h) (cwV 0 hts (gV q_987 q_989 qs_38 q_8 q_990) rfl rfl rfl (by decide +kernel) ⟨Nat.le_of_ble_eq_true rfl, Nat.le_of_ble_eq_true rfl⟩) hK hP hD hS hA [0, 1] [] [0, 1] rfl rfl rfl (by decide) (fun _ => rfl) (ci := 7) (q0 := 0) rfl rfl rfl hl.1 rfl (Nat.le_of_ble_eq_true rfl) dX9_signed_2 ⟨Nat.le_of_ble_eq_true rfl, Nat.le_of_ble_eq_true rfl⟩ (fun r_2 u9 H locs h hP hD hS => ?_)
  try dsimp only at h
  refine jl_ge (tgt := 13) hx hb dX9_signed_5 dX9_signed_6 (by decide) (fun c9 => ?_) (fun c9 => ?_)
  · have h := h.1 c9
    refine lv_lload_n hx hb dX9_signed_13 rfl (lv_at hl 1 rfl) ?_
    refine lv_aload_n hx hb dX9_signed_14 rfl (lv_at hl 0 rfl) ?_
    refine cVl (As := []) (rest := [.long x1]) (wc := [(a_t, .inr (7, [.ref a_t_v, .ref a_t_past, .ref a_t_costs, .int t_edits, .int t_thrown, .ref a_t_into, .ref a_t_isNeeded, .ref a_t_depths, .ref a_t_names, .ref a_t_out, .int t_outs, .ref a_t_has])), (a_t_v, .inl (ca 0, 206, .inl f_t_v))]) (wr := []) (w1 := fun _ : Unit => [(a_t, .inr (7, [.ref a_t_v, .ref a_t_past, .ref a_t_costs, .int t_edits, .int t_thrown, .ref a_t_into, .ref a_t_isNeeded, .ref a_t_depths, .ref a_t_names, .ref a_t_out, .int t_outs, .ref a_t_has])), (a_t_v, .inl (ca 0, 206, .inl f_t_v))]) (ws2 := fun _ : Unit => [(a_t, .inr (7, [.ref a_t_v, .ref a_t_past, .ref a_t_costs, .int t_edits, .int t_thrown, .ref a_t_into, .ref a_t_isNeeded, .ref a_t_depths, .ref a_t_names, .ref a_t_out, .int t_outs, .ref a_t_has])), (a_t_v, .inl (ca 0, 206, .inl f_t_v))]) ⟨hx, hb, hml, hown, hts⟩ (mX9_all l D ca a_t a_t_v a_t_past a_t_costs a_t_into a_t_isNeeded a_t_depths a_t_names a_t_out a_t_has _ t_edits t_thrown t_outs f_t_v _ h) (cwV 0 hts (gV q_955 q_957 qs_35 q_8 q_958) rfl rfl rfl (by decide +kernel) ⟨Nat.le_of_ble_eq_true rfl, Nat.le_of_ble_eq_true rfl⟩) hK hP hD hS hA [0, 1] [] [0, 1] rfl rfl rfl (by decide) (fun _ => rfl) (ci := 7) (q0 := 0) rfl rfl rfl hl.1 rfl (Nat.le_of_ble_eq_true rfl) dX9_signed_15 ⟨Nat.le_of_ble_eq_true rfl, Nat.le_of_ble_eq_true rfl⟩ (fun r_15 u9 H locs h hP hD hS => ?_)
    try dsimp only at h
    refine lv_lsub hx hb dX9_signed_18 ?_
    exact W.lret (v := x1 - r_15) hx hb hr (fun t ht hW => ⟨⟨x1 - r_15, (), rfl, h, by rw [ht]; exact hP, va_K.moved hW.alike hK, hD⟩, hS.F ht⟩) hS.2.2 dX9_signed_19
  · have h := h.2 c9
    refine lv_lload_n hx hb dX9_signed_9 rfl (lv_at hl 1 rfl) ?_
    refine lv_goto (tgt := 19) hx hb dX9_signed_10 (by decide) ?_
    exact W.lret (v := x1) hx hb hr (fun t ht hW => ⟨⟨x1, (), rfl, h, by rw [ht]; exact hP, va_K.moved hW.alike hK, hD⟩, hS.F ht⟩) hS.2.2 dX9_signed_19

def wX9_ceil (x0 : Int64) (x2 : Int64) (Q : Int64 → Prop) : Prop :=
  (¬ x2 = 0 ∧ Q (((x0 + x2) - 1) / x2))
set_option maxHeartbeats 4000000 in
set_option maxRecDepth 100000 in
theorem mX9_ceil (l : Launch) (x0 : Int64) (x2 : Int64) (Q : Int64 → Prop) (h : wX9_ceil x0 x2 Q) : Met l yX9_ceil (Cond.code yX9_ceil cX9_ceil 4 (some .long) :: wsG) ({ frames := 0, cells := 0, slots := 0, locals := 0 } : Room) (va_Pc [.long x0, .long x2] (fun _ => True)) (va_Ql (fun (r : Int64) (_ : Unit) => Q r) (fun _ _ => True) (fun _ => False)) 0 0 (fun _ => False) := by
  refine Met.ofW (cc := cX9_ceil) (maxL := 4) (ret := (some .long)) (by decide) rfl ?_
  intro p e s m args below meth c s₁ B hml hv
  obtain ⟨rfl, -⟩ := hv
  have hx := B.exec
  have hb := B.bytes
  have hr := B.returns
  have hts := atoms_spec (ws := (Cond.code yX9_ceil cX9_ceil 4 (some .long) :: wsG)) B.pre
  have hq : ∀ w ∈ wsG, w.before _ s = true := fun w hw => hts w (List.mem_cons_of_mem _ hw)
  have hown : s.vm.findClass RX9 = some m.cls := findClass_of_methodNamed B.named
  have hlocks := B.notSynchronized
  have hS : va_S (fun _ : Nat => False) s.heap s.heap [] := va_S.rf
  have hl := lv_entry ([.long x0, .long x2]) (n := 4) (Nat.le_of_ble_eq_true rfl)
  rw [lg_entry_eq]
  generalize (lg_sl ([.long x0, .long x2]) ++ List.replicate (4 - (lg_sl ([.long x0, .long x2])).length) Slot.unset).toArray = ls at hl ⊢
  have hl : lv_has ls 4 [(0, .long x0), (2, .long x2)] := hl
  unfold wX9_ceil at h
  refine lv_lload_n hx hb dX9_ceil_0 rfl (lv_at hl 0 rfl) ?_
  refine lv_lload_n hx hb dX9_ceil_1 rfl (lv_at hl 1 rfl) ?_
  refine lv_ladd hx hb dX9_ceil_2 ?_
  refine lv_lconst (v := 1) hx hb dX9_ceil_3 (by decide) ?_
  refine lv_lsub hx hb dX9_ceil_4 ?_
  refine lv_lload_n hx hb dX9_ceil_5 rfl (lv_at hl 1 rfl) ?_
  obtain ⟨hne9, h⟩ := h
  refine lv_ldiv hx hb dX9_ceil_6 hne9 ?_
  exact W.lret (v := ((x0 + x2) - 1) / x2) hx hb hr (fun t ht hW => ⟨⟨((x0 + x2) - 1) / x2, (), rfl, h, trivial⟩, hS.F ht⟩) hS.2.2 dX9_ceil_7

def wX9_twos_2 (x0 : Int64) (Q : Int32 → Prop) : Nat → Int32 → Prop
  | 0, _ => False
  | n9 + 1, x2_2 =>
  ((((x0 >>> (x2_2.toInt64 &&& 63)) &&& 1) = 0 → (∀ x2_12 : Int32, x2_12 = x2_2 + 1 → (wX9_twos_2 x0 Q n9) x2_12)) ∧ (¬ ((x0 >>> (x2_2.toInt64 &&& 63)) &&& 1) = 0 → Q x2_2))
def wX9_twos (x0 : Int64) (Q : Int32 → Prop) : Prop :=
  (∃ k9, wX9_twos_2 x0 Q k9 0)
set_option maxHeartbeats 4000000 in
set_option maxRecDepth 100000 in
theorem mX9_twos (l : Launch) (x0 : Int64) (Q : Int32 → Prop) (h : wX9_twos x0 Q) : Met l yX9_twos (Cond.code yX9_twos cX9_twos 3 (some .int) :: wsG) ({ frames := 0, cells := 0, slots := 0, locals := 0 } : Room) (va_Pc [.long x0] (fun _ => True)) (va_Qi (fun (r : Int32) (_ : Unit) => Q r) (fun _ _ => True) (fun _ => False)) 0 0 (fun _ => False) := by
  refine Met.ofW (cc := cX9_twos) (maxL := 3) (ret := (some .int)) (by decide) rfl ?_
  intro p e s m args below meth c s₁ B hml hv
  obtain ⟨rfl, -⟩ := hv
  have hx := B.exec
  have hb := B.bytes
  have hr := B.returns
  have hts := atoms_spec (ws := (Cond.code yX9_twos cX9_twos 3 (some .int) :: wsG)) B.pre
  have hq : ∀ w ∈ wsG, w.before _ s = true := fun w hw => hts w (List.mem_cons_of_mem _ hw)
  have hown : s.vm.findClass RX9 = some m.cls := findClass_of_methodNamed B.named
  have hlocks := B.notSynchronized
  have hS : va_S (fun _ : Nat => False) s.heap s.heap [] := va_S.rf
  have hl := lv_entry ([.long x0]) (n := 3) (Nat.le_of_ble_eq_true rfl)
  rw [lg_entry_eq]
  generalize (lg_sl ([.long x0]) ++ List.replicate (3 - (lg_sl ([.long x0])).length) Slot.unset).toArray = ls at hl ⊢
  have hl : lv_has ls 3 [(0, .long x0)] := hl
  unfold wX9_twos at h
  refine lv_iconst (v := 0) hx hb dX9_twos_0 (by decide) ?_
  refine lv_istore_n (lv' := [(2, .int 0), (0, .long x0)]) hx hb dX9_twos_1 rfl hl (by decide) rfl (fun ls hl => ?_)
  have hL2 : ∀ (n9_2 : Nat) (x2_2 : Int32) (H : Heap) (locs : List Loc) (ls : Array Slot), va_S (fun _ => False) s.heap H locs → lv_has ls 3 [(0, .long x0), (2, .int x2_2)] → wX9_twos_2 x0 Q n9_2 x2_2 → W p l e (headSpec (Cond.code yX9_twos cX9_twos 3 (some .int) :: wsG) ({ frames := 0, cells := 0, slots := 0, locals := 0 } : Room)).room s m ([.long x0] : List Value).toArray below meth c H locs 0 0 (MQ below (va_Qi (fun (r : Int32) (_ : Unit) => Q r) (fun _ _ => True) (fun _ => False)) ([.long x0] : List Value).toArray s 0 0 (fun _ => False)) (F0 m 2 ls []) := by
    intro n9_2
    induction n9_2 with
    | zero =>
      intro x2_2 H locs ls hS hl h
      exact False.elim h
    | succ n9_2 ih2 =>
      intro x2_2 H locs ls hS hl h
      unfold wX9_twos_2 at h
      refine lv_lload_n hx hb dX9_twos_2 rfl (lv_at hl 0 rfl) ?_
      refine lv_iload_n hx hb dX9_twos_3 rfl (lv_at hl 1 rfl) ?_
      refine lv_lshr hx hb dX9_twos_4 rfl ?_
      refine lv_lconst (v := 1) hx hb dX9_twos_5 (by decide) ?_
      refine lv_land hx hb dX9_twos_6 ?_
      refine lv_lconst (v := 0) hx hb dX9_twos_7 (by decide) ?_
      refine jl_ne (tgt := 18) hx hb dX9_twos_8 dX9_twos_9 (by decide) (fun c9 => ?_) (fun c9 => ?_)
      · have h := h.2 c9
        refine lv_iload_n hx hb dX9_twos_18 rfl (lv_at hl 1 rfl) ?_
        exact W.iret (v := x2_2) hx hb hr (fun t ht hW => ⟨⟨x2_2, (), rfl, h, trivial⟩, hS.F ht⟩) hS.2.2 dX9_twos_19
      · have h := h.1 c9
        obtain ⟨x2_12, ex2_12⟩ : ∃ y : Int32, y = x2_2 + 1 := ⟨_, rfl⟩
        have h := h x2_12 ex2_12
        refine lv_iinc (v := x2_12) (lv' := [(2, .int x2_12), (0, .long x0)]) hx hb dX9_twos_12 hl (k := 1) rfl (by rw [ex2_12]; rfl) (by decide) rfl (fun ls hl => ?_)
        refine lv_goto (tgt := 2) hx hb dX9_twos_15 (by decide) ?_
        exact ih2 x2_12 _ _ _ hS (lv_sub hl [1, 0] rfl) h
  obtain ⟨k9, h⟩ := h
  exact hL2 k9 0 _ _ _ hS (lv_sub hl [1, 0] rfl) h

def wX9_isPower (x0 : Int64) (Q : Int32 → Prop) : Prop :=
  ((x0 ≤ 0 → Q 0) ∧ (¬ x0 ≤ 0 → (((x0 &&& (x0 - 1)) = 0 → Q 1) ∧ (¬ (x0 &&& (x0 - 1)) = 0 → Q 0))))
set_option maxHeartbeats 4000000 in
set_option maxRecDepth 100000 in
theorem mX9_isPower (l : Launch) (x0 : Int64) (Q : Int32 → Prop) (h : wX9_isPower x0 Q) : Met l yX9_isPower (Cond.code yX9_isPower cX9_isPower 2 (some .boolean) :: wsG) ({ frames := 0, cells := 0, slots := 0, locals := 0 } : Room) (va_Pc [.long x0] (fun _ => True)) (va_Qi (fun (r : Int32) (_ : Unit) => Q r) (fun _ _ => True) (fun _ => False)) 0 0 (fun _ => False) := by
  refine Met.ofW (cc := cX9_isPower) (maxL := 2) (ret := (some .boolean)) (by decide) rfl ?_
  intro p e s m args below meth c s₁ B hml hv
  obtain ⟨rfl, -⟩ := hv
  have hx := B.exec
  have hb := B.bytes
  have hr := B.returns
  have hts := atoms_spec (ws := (Cond.code yX9_isPower cX9_isPower 2 (some .boolean) :: wsG)) B.pre
  have hq : ∀ w ∈ wsG, w.before _ s = true := fun w hw => hts w (List.mem_cons_of_mem _ hw)
  have hown : s.vm.findClass RX9 = some m.cls := findClass_of_methodNamed B.named
  have hlocks := B.notSynchronized
  have hS : va_S (fun _ : Nat => False) s.heap s.heap [] := va_S.rf
  have hl := lv_entry ([.long x0]) (n := 2) (Nat.le_of_ble_eq_true rfl)
  rw [lg_entry_eq]
  generalize (lg_sl ([.long x0]) ++ List.replicate (2 - (lg_sl ([.long x0])).length) Slot.unset).toArray = ls at hl ⊢
  have hl : lv_has ls 2 [(0, .long x0)] := hl
  unfold wX9_isPower at h
  refine lv_lload_n hx hb dX9_isPower_0 rfl (lv_at hl 0 rfl) ?_
  refine lv_lconst (v := 0) hx hb dX9_isPower_1 (by decide) ?_
  refine jl_le (tgt := 20) hx hb dX9_isPower_2 dX9_isPower_3 (by decide) (fun c9 => ?_) (fun c9 => ?_)
  · have h := h.1 c9
    refine lv_iconst (v := 0) hx hb dX9_isPower_20 (by decide) ?_
    exact W.zret (v := 0) hx hb hr rfl (fun t ht hW => ⟨⟨0, (), rfl, h, trivial⟩, hS.F ht⟩) hS.2.2 dX9_isPower_21
  · have h := h.2 c9
    refine lv_lload_n hx hb dX9_isPower_6 rfl (lv_at hl 0 rfl) ?_
    refine lv_lload_n hx hb dX9_isPower_7 rfl (lv_at hl 0 rfl) ?_
    refine lv_lconst (v := 1) hx hb dX9_isPower_8 (by decide) ?_
    refine lv_lsub hx hb dX9_isPower_9 ?_
    refine lv_land hx hb dX9_isPower_10 ?_
    refine lv_lconst (v := 0) hx hb dX9_isPower_11 (by decide) ?_
    refine jl_ne (tgt := 20) hx hb dX9_isPower_12 dX9_isPower_13 (by decide) (fun c9 => ?_) (fun c9 => ?_)
    · have h := h.2 c9
      refine lv_iconst (v := 0) hx hb dX9_isPower_20 (by decide) ?_
      exact W.zret (v := 0) hx hb hr rfl (fun t ht hW => ⟨⟨0, (), rfl, h, trivial⟩, hS.F ht⟩) hS.2.2 dX9_isPower_21
    · have h := h.1 c9
      refine lv_iconst (v := 1) hx hb dX9_isPower_16 (by decide) ?_
      refine lv_goto (tgt := 21) hx hb dX9_isPower_17 (by decide) ?_
      exact W.zret (v := 1) hx hb hr rfl (fun t ht hW => ⟨⟨1, (), rfl, h, trivial⟩, hS.F ht⟩) hS.2.2 dX9_isPower_21

abbrev qX9_shiftFor (D : va_G) (ca : Nat → ClassId) (a_t a_t_v a_t_past a_t_costs a_t_into a_t_isNeeded a_t_depths a_t_names a_t_out a_t_has : Nat) (t_edits : Int32) (t_thrown : Int32) (t_outs : Int32) (f_t_v : Nat → Int32) (Q : Int32 → Prop) (A : Nat → Prop) : Array Value → State → Outcome → State → Prop := va_Qi (fun (r : Int32) (_ : Unit) => Q r) (wEnd D ca (fun _ : Unit => [(a_t, .inr (7, [.ref a_t_v, .ref a_t_past, .ref a_t_costs, .int t_edits, .int t_thrown, .ref a_t_into, .ref a_t_isNeeded, .ref a_t_depths, .ref a_t_names, .ref a_t_out, .int t_outs, .ref a_t_has])), (a_t_v, .inl (ca 0, 206, .inl f_t_v))]) A) A
def wX9_shiftFor_3 (f_t_v : Nat → Int32) (x1 : Int64) (x3 : Int32) (Q : Int32 → Prop) : Nat → Int32 → Prop
  | 0, _ => False
  | n9 + 1, x4_3 =>
  (vp_in 0 206 ∧ wX9_power ((f_t_v (0 : Int32).toNatClampNeg) + x4_3) (fun r_12 => wX9_ceil r_12 x1 (fun r_16 => (vp_in 0 206 ∧ wX9_power ((f_t_v (0 : Int32).toNatClampNeg) + x4_3) (fun r_30 => wX9_power (x4_3 + x3) (fun r_38 => ((((r_16 * x1) - r_30) ≤ r_38 → Q x4_3) ∧ (¬ ((r_16 * x1) - r_30) ≤ r_38 → (∀ x4_45 : Int32, x4_45 = x4_3 + 1 → (wX9_shiftFor_3 f_t_v x1 x3 Q n9) x4_45)))))))))
def wX9_shiftFor (f_t_v : Nat → Int32) (x1 : Int64) (x3 : Int32) (Q : Int32 → Prop) : Prop :=
  (∃ k9, wX9_shiftFor_3 f_t_v x1 x3 Q k9 0)
set_option maxHeartbeats 4000000 in
set_option maxRecDepth 100000 in
theorem mX9_shiftFor (l : Launch) (D : va_G) (ca : Nat → ClassId) (a_t a_t_v a_t_past a_t_costs a_t_into a_t_isNeeded a_t_depths a_t_names a_t_out a_t_has : Nat) (sz : Nat) (t_edits : Int32) (t_thrown : Int32) (t_outs : Int32) (f_t_v : Nat → Int32) (x1 : Int64) (x3 : Int32) (Q : Int32 → Prop) (h : wX9_shiftFor f_t_v x1 x3 Q) : Met l yX9_shiftFor (Cond.code yX9_shiftFor cX9_shiftFor 5 (some .int) :: wsG) ({ frames := 1, cells := 0, slots := 0, locals := 23 } : Room) (va_Pc [.ref a_t, .long x1, .int x3] (wPre D ca [(a_t, .inr (7, [.ref a_t_v, .ref a_t_past, .ref a_t_costs, .int t_edits, .int t_thrown, .ref a_t_into, .ref a_t_isNeeded, .ref a_t_depths, .ref a_t_names, .ref a_t_out, .int t_outs, .ref a_t_has])), (a_t_v, .inl (ca 0, 206, .inl f_t_v))] sz)) (qX9_shiftFor D ca a_t a_t_v a_t_past a_t_costs a_t_into a_t_isNeeded a_t_depths a_t_names a_t_out a_t_has t_edits t_thrown t_outs f_t_v Q (va_A [(a_t, .inr (7, [.ref a_t_v, .ref a_t_past, .ref a_t_costs, .int t_edits, .int t_thrown, .ref a_t_into, .ref a_t_isNeeded, .ref a_t_depths, .ref a_t_names, .ref a_t_out, .int t_outs, .ref a_t_has])), (a_t_v, .inl (ca 0, 206, .inl f_t_v))] sz)) 0 0 (va_A [(a_t, .inr (7, [.ref a_t_v, .ref a_t_past, .ref a_t_costs, .int t_edits, .int t_thrown, .ref a_t_into, .ref a_t_isNeeded, .ref a_t_depths, .ref a_t_names, .ref a_t_out, .int t_outs, .ref a_t_has])), (a_t_v, .inl (ca 0, 206, .inl f_t_v))] sz) := by
  refine Met.ofW (cc := cX9_shiftFor) (maxL := 5) (ret := (some .int)) (by decide) rfl ?_
  intro p e s m args below meth c s₁ B hml hv
  obtain ⟨rfl, hsz, hP, hK, hD0⟩ := hv
  have hx := B.exec
  have hb := B.bytes
  have hr := B.returns
  have hts := atoms_spec (ws := (Cond.code yX9_shiftFor cX9_shiftFor 5 (some .int) :: wsG)) B.pre
  have hq : ∀ w ∈ wsG, w.before _ s = true := fun w hw => hts w (List.mem_cons_of_mem _ hw)
  have hown : s.vm.findClass RX9 = some m.cls := findClass_of_methodNamed B.named
  have hlocks := B.notSynchronized
  subst hsz
  have hD := hD0.self (sz := s.heap.size)
  generalize hAe : va_A [(a_t, .inr (7, [.ref a_t_v, .ref a_t_past, .ref a_t_costs, .int t_edits, .int t_thrown, .ref a_t_into, .ref a_t_isNeeded, .ref a_t_depths, .ref a_t_names, .ref a_t_out, .int t_outs, .ref a_t_has])), (a_t_v, .inl (ca 0, 206, .inl f_t_v))] s.heap.size = A at hD ⊢
  have hA : ∀ q : Nat, s.heap.size ≤ q → A q := fun q h => by rw [← hAe]; exact Or.inr h
  have hS : va_S A s.heap s.heap [] := va_S.rf
  have hP : va_P D vwCl [(a_t, .inr (7, [.ref a_t_v, .ref a_t_past, .ref a_t_costs, .int t_edits, .int t_thrown, .ref a_t_into, .ref a_t_isNeeded, .ref a_t_depths, .ref a_t_names, .ref a_t_out, .int t_outs, .ref a_t_has])), (a_t_v, .inl (ca 0, 206, .inl f_t_v))] s.heap := hP
  have hl := lv_entry ([.ref a_t, .long x1, .int x3]) (n := 5) (Nat.le_of_ble_eq_true rfl)
  rw [lg_entry_eq]
  generalize (lg_sl ([.ref a_t, .long x1, .int x3]) ++ List.replicate (5 - (lg_sl ([.ref a_t, .long x1, .int x3])).length) Slot.unset).toArray = ls at hl ⊢
  have hl : lv_has ls 5 [(0, .ref a_t), (1, .long x1), (3, .int x3)] := hl
  unfold wX9_shiftFor at h
  refine lv_iconst (v := 0) hx hb dX9_shiftFor_0 (by decide) ?_
  refine lv_istore (lv' := [(4, .int 0), (0, .ref a_t), (1, .long x1), (3, .int x3)]) hx hb dX9_shiftFor_1 hl (by decide) rfl (fun ls hl => ?_)
  have hL3 : ∀ (n9_3 : Nat) (x4_3 : Int32) (H : Heap) (locs : List Loc) (ls : Array Slot), va_P D vwCl [(a_t, .inr (7, [.ref a_t_v, .ref a_t_past, .ref a_t_costs, .int t_edits, .int t_thrown, .ref a_t_into, .ref a_t_isNeeded, .ref a_t_depths, .ref a_t_names, .ref a_t_out, .int t_outs, .ref a_t_has])), (a_t_v, .inl (ca 0, 206, .inl f_t_v))] H → va_D A [(a_t, .inr (7, [.ref a_t_v, .ref a_t_past, .ref a_t_costs, .int t_edits, .int t_thrown, .ref a_t_into, .ref a_t_isNeeded, .ref a_t_depths, .ref a_t_names, .ref a_t_out, .int t_outs, .ref a_t_has])), (a_t_v, .inl (ca 0, 206, .inl f_t_v))] → va_S A s.heap H locs → lv_has ls 5 [(0, .ref a_t), (1, .long x1), (3, .int x3), (4, .int x4_3)] → wX9_shiftFor_3 f_t_v x1 x3 Q n9_3 x4_3 → W p l e (headSpec (Cond.code yX9_shiftFor cX9_shiftFor 5 (some .int) :: wsG) ({ frames := 1, cells := 0, slots := 0, locals := 23 } : Room)).room s m ([.ref a_t, .long x1, .int x3] : List Value).toArray below meth c H locs 0 0 (MQ below (qX9_shiftFor D ca a_t a_t_v a_t_past a_t_costs a_t_into a_t_isNeeded a_t_depths a_t_names a_t_out a_t_has t_edits t_thrown t_outs f_t_v Q A) ([.ref a_t, .long x1, .int x3] : List Value).toArray s 0 0 A) (F0 m 3 ls []) := by
    intro n9_3
    induction n9_3 with
    | zero =>
      intro x4_3 H locs ls hP hD hS hl h
      exact False.elim h
    | succ n9_3 ih3 =>
      intro x4_3 H locs ls hP hD hS hl h
      unfold wX9_shiftFor_3 at h
      refine lv_aload_n hx hb dX9_shiftFor_3 rfl (lv_at hl 0 rfl) ?_
      refine va_get (D := D) (ci := 7) (v := .ref a_t_v) (C := RX9) (T := TX9) (N := 12) hx hb hq inX9g hown hK hP 0 rfl rfl 0 (by decide) (hq _ q_881) (fun _ h9 => h9) rfl dX9_shiftFor_4 ?_
      refine lv_iconst (v := 0) hx hb dX9_shiftFor_7 (by decide) ?_
      obtain ⟨hi9, h⟩ := h
      refine va_iald hx hb hK hP 1 0 rfl rfl hi9 dX9_shiftFor_8 ?_
      refine lv_iload hx hb dX9_shiftFor_9 (lv_at hl 3 rfl) ?_
      refine lv_iadd hx hb dX9_shiftFor_11 ?_
      refine cPl (As := [.int ((f_t_v (0 : Int32).toNatClampNeg) + x4_3)]) (rest := []) ⟨hx, hb, hml, hown, hts⟩ (mX9_power l ((f_t_v (0 : Int32).toNatClampNeg) + x4_3) _ h) (va_cwS 1 hts (gS q_959 q_960 q_8 q_961) rfl rfl rfl (by decide +kernel) ⟨Nat.le_of_ble_eq_true rfl, Nat.le_of_ble_eq_true rfl⟩) hS rfl hl.1 rfl (Nat.le_of_ble_eq_true rfl) dX9_shiftFor_12 ⟨Nat.le_of_ble_eq_true rfl, Nat.le_of_ble_eq_true rfl⟩ (fun r_12 H1 locs h hk1 hS => ?_)
      have hP := s_back hP hk1
      try dsimp only at h
      refine lv_lload_n hx hb dX9_shiftFor_15 rfl (lv_at hl 1 rfl) ?_
      refine cPl (As := [.long r_12, .long x1]) (rest := []) ⟨hx, hb, hml, hown, hts⟩ (mX9_ceil l r_12 x1 _ h) (va_cwS 2 hts (gS q_969 q_970 q_8 q_971) rfl rfl rfl (by decide +kernel) ⟨Nat.le_of_ble_eq_true rfl, Nat.le_of_ble_eq_true rfl⟩) hS rfl hl.1 rfl (Nat.le_of_ble_eq_true rfl) dX9_shiftFor_16 ⟨Nat.le_of_ble_eq_true rfl, Nat.le_of_ble_eq_true rfl⟩ (fun r_16 H1 locs h hk1 hS => ?_)
      have hP := s_back hP hk1
      try dsimp only at h
      refine lv_lload_n hx hb dX9_shiftFor_19 rfl (lv_at hl 1 rfl) ?_
      refine lv_lmul hx hb dX9_shiftFor_20 ?_
      refine lv_aload_n hx hb dX9_shiftFor_21 rfl (lv_at hl 0 rfl) ?_
      refine va_get (D := D) (ci := 7) (v := .ref a_t_v) (C := RX9) (T := TX9) (N := 12) hx hb hq inX9g hown hK hP 0 rfl rfl 0 (by decide) (hq _ q_881) (fun _ h9 => h9) rfl dX9_shiftFor_22 ?_
      refine lv_iconst (v := 0) hx hb dX9_shiftFor_25 (by decide) ?_
      obtain ⟨hi9, h⟩ := h
      refine va_iald hx hb hK hP 1 0 rfl rfl hi9 dX9_shiftFor_26 ?_
      refine lv_iload hx hb dX9_shiftFor_27 (lv_at hl 3 rfl) ?_
      refine lv_iadd hx hb dX9_shiftFor_29 ?_
      refine cPl (As := [.int ((f_t_v (0 : Int32).toNatClampNeg) + x4_3)]) (rest := [.long (r_16 * x1)]) ⟨hx, hb, hml, hown, hts⟩ (mX9_power l ((f_t_v (0 : Int32).toNatClampNeg) + x4_3) _ h) (va_cwS 1 hts (gS q_959 q_960 q_8 q_961) rfl rfl rfl (by decide +kernel) ⟨Nat.le_of_ble_eq_true rfl, Nat.le_of_ble_eq_true rfl⟩) hS rfl hl.1 rfl (Nat.le_of_ble_eq_true rfl) dX9_shiftFor_30 ⟨Nat.le_of_ble_eq_true rfl, Nat.le_of_ble_eq_true rfl⟩ (fun r_30 H1 locs h hk1 hS => ?_)
      have hP := s_back hP hk1
      try dsimp only at h
      refine lv_lsub hx hb dX9_shiftFor_33 ?_
      refine lv_iload hx hb dX9_shiftFor_34 (lv_at hl 3 rfl) ?_
      refine lv_iload_n hx hb dX9_shiftFor_36 rfl (lv_at hl 2 rfl) ?_
      refine lv_iadd hx hb dX9_shiftFor_37 ?_
      refine cPl (As := [.int (x4_3 + x3)]) (rest := [.long ((r_16 * x1) - r_30)]) ⟨hx, hb, hml, hown, hts⟩ (mX9_power l (x4_3 + x3) _ h) (va_cwS 1 hts (gS q_959 q_960 q_8 q_961) rfl rfl rfl (by decide +kernel) ⟨Nat.le_of_ble_eq_true rfl, Nat.le_of_ble_eq_true rfl⟩) hS rfl hl.1 rfl (Nat.le_of_ble_eq_true rfl) dX9_shiftFor_38 ⟨Nat.le_of_ble_eq_true rfl, Nat.le_of_ble_eq_true rfl⟩ (fun r_38 H1 locs h hk1 hS => ?_)
      have hP := s_back hP hk1
      try dsimp only at h
      refine jl_le (tgt := 51) hx hb dX9_shiftFor_41 dX9_shiftFor_42 (by decide) (fun c9 => ?_) (fun c9 => ?_)
      · have h := h.1 c9
        refine lv_iload hx hb dX9_shiftFor_51 (lv_at hl 3 rfl) ?_
        exact W.iret (v := x4_3) hx hb hr (fun t ht hW => ⟨⟨x4_3, (), rfl, h, by rw [ht]; exact hP, va_K.moved hW.alike hK, hD⟩, hS.F ht⟩) hS.2.2 dX9_shiftFor_53
      · have h := h.2 c9
        obtain ⟨x4_45, ex4_45⟩ : ∃ y : Int32, y = x4_3 + 1 := ⟨_, rfl⟩
        have h := h x4_45 ex4_45
        refine lv_iinc (v := x4_45) (lv' := [(4, .int x4_45), (0, .ref a_t), (1, .long x1), (3, .int x3)]) hx hb dX9_shiftFor_45 hl (k := 3) rfl (by rw [ex4_45]; rfl) (by decide) rfl (fun ls hl => ?_)
        refine lv_goto (tgt := 3) hx hb dX9_shiftFor_48 (by decide) ?_
        exact ih3 x4_45 _ _ _ hP hD hS (lv_sub hl [1, 2, 3, 0] rfl) h
  obtain ⟨k9, h⟩ := h
  exact hL3 k9 0 _ _ _ hP hD hS (lv_sub hl [1, 2, 3, 0] rfl) h

abbrev qX9_multiplierFor (D : va_G) (ca : Nat → ClassId) (a_t a_t_v a_t_past a_t_costs a_t_into a_t_isNeeded a_t_depths a_t_names a_t_out a_t_has : Nat) (t_edits : Int32) (t_thrown : Int32) (t_outs : Int32) (f_t_v : Nat → Int32) (Q : Int64 → Prop) (A : Nat → Prop) : Array Value → State → Outcome → State → Prop := va_Ql (fun (r : Int64) (_ : Unit) => Q r) (wEnd D ca (fun _ : Unit => [(a_t, .inr (7, [.ref a_t_v, .ref a_t_past, .ref a_t_costs, .int t_edits, .int t_thrown, .ref a_t_into, .ref a_t_isNeeded, .ref a_t_depths, .ref a_t_names, .ref a_t_out, .int t_outs, .ref a_t_has])), (a_t_v, .inl (ca 0, 206, .inl f_t_v))]) A) A
def wX9_multiplierFor (f_t_v : Nat → Int32) (x1 : Int64) (x3 : Int32) (Q : Int64 → Prop) : Prop :=
  (vp_in 0 206 ∧ wX9_power ((f_t_v (0 : Int32).toNatClampNeg) + x3) (fun r_8 => wX9_ceil r_8 x1 (fun r_12 => Q r_12)))
set_option maxHeartbeats 4000000 in
set_option maxRecDepth 100000 in
theorem mX9_multiplierFor (l : Launch) (D : va_G) (ca : Nat → ClassId) (a_t a_t_v a_t_past a_t_costs a_t_into a_t_isNeeded a_t_depths a_t_names a_t_out a_t_has : Nat) (sz : Nat) (t_edits : Int32) (t_thrown : Int32) (t_outs : Int32) (f_t_v : Nat → Int32) (x1 : Int64) (x3 : Int32) (Q : Int64 → Prop) (h : wX9_multiplierFor f_t_v x1 x3 Q) : Met l yX9_multiplierFor (Cond.code yX9_multiplierFor cX9_multiplierFor 4 (some .long) :: wsG) ({ frames := 1, cells := 0, slots := 0, locals := 23 } : Room) (va_Pc [.ref a_t, .long x1, .int x3] (wPre D ca [(a_t, .inr (7, [.ref a_t_v, .ref a_t_past, .ref a_t_costs, .int t_edits, .int t_thrown, .ref a_t_into, .ref a_t_isNeeded, .ref a_t_depths, .ref a_t_names, .ref a_t_out, .int t_outs, .ref a_t_has])), (a_t_v, .inl (ca 0, 206, .inl f_t_v))] sz)) (qX9_multiplierFor D ca a_t a_t_v a_t_past a_t_costs a_t_into a_t_isNeeded a_t_depths a_t_names a_t_out a_t_has t_edits t_thrown t_outs f_t_v Q (va_A [(a_t, .inr (7, [.ref a_t_v, .ref a_t_past, .ref a_t_costs, .int t_edits, .int t_thrown, .ref a_t_into, .ref a_t_isNeeded, .ref a_t_depths, .ref a_t_names, .ref a_t_out, .int t_outs, .ref a_t_has])), (a_t_v, .inl (ca 0, 206, .inl f_t_v))] sz)) 0 0 (va_A [(a_t, .inr (7, [.ref a_t_v, .ref a_t_past, .ref a_t_costs, .int t_edits, .int t_thrown, .ref a_t_into, .ref a_t_isNeeded, .ref a_t_depths, .ref a_t_names, .ref a_t_out, .int t_outs, .ref a_t_has])), (a_t_v, .inl (ca 0, 206, .inl f_t_v))] sz) := by
  refine Met.ofW (cc := cX9_multiplierFor) (maxL := 4) (ret := (some .long)) (by decide) rfl ?_
  intro p e s m args below meth c s₁ B hml hv
  obtain ⟨rfl, hsz, hP, hK, hD0⟩ := hv
  have hx := B.exec
  have hb := B.bytes
  have hr := B.returns
  have hts := atoms_spec (ws := (Cond.code yX9_multiplierFor cX9_multiplierFor 4 (some .long) :: wsG)) B.pre
  have hq : ∀ w ∈ wsG, w.before _ s = true := fun w hw => hts w (List.mem_cons_of_mem _ hw)
  have hown : s.vm.findClass RX9 = some m.cls := findClass_of_methodNamed B.named
  have hlocks := B.notSynchronized
  subst hsz
  have hD := hD0.self (sz := s.heap.size)
  generalize hAe : va_A [(a_t, .inr (7, [.ref a_t_v, .ref a_t_past, .ref a_t_costs, .int t_edits, .int t_thrown, .ref a_t_into, .ref a_t_isNeeded, .ref a_t_depths, .ref a_t_names, .ref a_t_out, .int t_outs, .ref a_t_has])), (a_t_v, .inl (ca 0, 206, .inl f_t_v))] s.heap.size = A at hD ⊢
  have hA : ∀ q : Nat, s.heap.size ≤ q → A q := fun q h => by rw [← hAe]; exact Or.inr h
  have hS : va_S A s.heap s.heap [] := va_S.rf
  have hP : va_P D vwCl [(a_t, .inr (7, [.ref a_t_v, .ref a_t_past, .ref a_t_costs, .int t_edits, .int t_thrown, .ref a_t_into, .ref a_t_isNeeded, .ref a_t_depths, .ref a_t_names, .ref a_t_out, .int t_outs, .ref a_t_has])), (a_t_v, .inl (ca 0, 206, .inl f_t_v))] s.heap := hP
  have hl := lv_entry ([.ref a_t, .long x1, .int x3]) (n := 4) (Nat.le_of_ble_eq_true rfl)
  rw [lg_entry_eq]
  generalize (lg_sl ([.ref a_t, .long x1, .int x3]) ++ List.replicate (4 - (lg_sl ([.ref a_t, .long x1, .int x3])).length) Slot.unset).toArray = ls at hl ⊢
  have hl : lv_has ls 4 [(0, .ref a_t), (1, .long x1), (3, .int x3)] := hl
  unfold wX9_multiplierFor at h
  refine lv_aload_n hx hb dX9_multiplierFor_0 rfl (lv_at hl 0 rfl) ?_
  refine va_get (D := D) (ci := 7) (v := .ref a_t_v) (C := RX9) (T := TX9) (N := 12) hx hb hq inX9g hown hK hP 0 rfl rfl 0 (by decide) (hq _ q_881) (fun _ h9 => h9) rfl dX9_multiplierFor_1 ?_
  refine lv_iconst (v := 0) hx hb dX9_multiplierFor_4 (by decide) ?_
  obtain ⟨hi9, h⟩ := h
  refine va_iald hx hb hK hP 1 0 rfl rfl hi9 dX9_multiplierFor_5 ?_
  refine lv_iload_n hx hb dX9_multiplierFor_6 rfl (lv_at hl 2 rfl) ?_
  refine lv_iadd hx hb dX9_multiplierFor_7 ?_
  refine cPl (As := [.int ((f_t_v (0 : Int32).toNatClampNeg) + x3)]) (rest := []) ⟨hx, hb, hml, hown, hts⟩ (mX9_power l ((f_t_v (0 : Int32).toNatClampNeg) + x3) _ h) (va_cwS 1 hts (gS q_959 q_960 q_8 q_961) rfl rfl rfl (by decide +kernel) ⟨Nat.le_of_ble_eq_true rfl, Nat.le_of_ble_eq_true rfl⟩) hS rfl hl.1 rfl (Nat.le_of_ble_eq_true rfl) dX9_multiplierFor_8 ⟨Nat.le_of_ble_eq_true rfl, Nat.le_of_ble_eq_true rfl⟩ (fun r_8 H1 locs h hk1 hS => ?_)
  have hP := s_back hP hk1
  try dsimp only at h
  refine lv_lload_n hx hb dX9_multiplierFor_11 rfl (lv_at hl 1 rfl) ?_
  refine cPl (As := [.long r_8, .long x1]) (rest := []) ⟨hx, hb, hml, hown, hts⟩ (mX9_ceil l r_8 x1 _ h) (va_cwS 2 hts (gS q_969 q_970 q_8 q_971) rfl rfl rfl (by decide +kernel) ⟨Nat.le_of_ble_eq_true rfl, Nat.le_of_ble_eq_true rfl⟩) hS rfl hl.1 rfl (Nat.le_of_ble_eq_true rfl) dX9_multiplierFor_12 ⟨Nat.le_of_ble_eq_true rfl, Nat.le_of_ble_eq_true rfl⟩ (fun r_12 H1 locs h hk1 hS => ?_)
  have hP := s_back hP hk1
  try dsimp only at h
  exact W.lret (v := r_12) hx hb hr (fun t ht hW => ⟨⟨r_12, (), rfl, h, by rw [ht]; exact hP, va_K.moved hW.alike hK, hD⟩, hS.F ht⟩) hS.2.2 dX9_multiplierFor_15

abbrev qX9_inverseOf (D : va_G) (ca : Nat → ClassId) (a_t a_t_v a_t_past a_t_costs a_t_into a_t_isNeeded a_t_depths a_t_names a_t_out a_t_has : Nat) (t_edits : Int32) (t_thrown : Int32) (t_outs : Int32) (f_t_v : Nat → Int32) (Q : Int64 → Prop) (A : Nat → Prop) : Array Value → State → Outcome → State → Prop := va_Ql (fun (r : Int64) (_ : Unit) => Q r) (wEnd D ca (fun _ : Unit => [(a_t, .inr (7, [.ref a_t_v, .ref a_t_past, .ref a_t_costs, .int t_edits, .int t_thrown, .ref a_t_into, .ref a_t_isNeeded, .ref a_t_depths, .ref a_t_names, .ref a_t_out, .int t_outs, .ref a_t_has])), (a_t_v, .inl (ca 0, 206, .inl f_t_v))]) A) A
def wX9_inverseOf_2 (f_t_v : Nat → Int32) (x1 : Int64) (Q : Int64 → Prop) : Nat → Int64 → Prop
  | 0, _ => False
  | n9 + 1, x3_2 =>
  wX9_value f_t_v (x1 * x3_2) (fun r_6 => ((r_6 = 1 → Q x3_2) ∧ (¬ r_6 = 1 → (∀ x3_19 : Int64, x3_19 = x3_2 + 2 → (wX9_inverseOf_2 f_t_v x1 Q n9) x3_19))))
def wX9_inverseOf (f_t_v : Nat → Int32) (x1 : Int64) (Q : Int64 → Prop) : Prop :=
  (∃ k9, wX9_inverseOf_2 f_t_v x1 Q k9 1)
set_option maxHeartbeats 4000000 in
set_option maxRecDepth 100000 in
theorem mX9_inverseOf (l : Launch) (D : va_G) (ca : Nat → ClassId) (a_t a_t_v a_t_past a_t_costs a_t_into a_t_isNeeded a_t_depths a_t_names a_t_out a_t_has : Nat) (sz : Nat) (t_edits : Int32) (t_thrown : Int32) (t_outs : Int32) (f_t_v : Nat → Int32) (x1 : Int64) (Q : Int64 → Prop) (h : wX9_inverseOf f_t_v x1 Q) : Met l yX9_inverseOf (Cond.code yX9_inverseOf cX9_inverseOf 5 (some .long) :: wsG) ({ frames := 3, cells := 0, slots := 0, locals := 62 } : Room) (va_Pc [.ref a_t, .long x1] (wPre D ca [(a_t, .inr (7, [.ref a_t_v, .ref a_t_past, .ref a_t_costs, .int t_edits, .int t_thrown, .ref a_t_into, .ref a_t_isNeeded, .ref a_t_depths, .ref a_t_names, .ref a_t_out, .int t_outs, .ref a_t_has])), (a_t_v, .inl (ca 0, 206, .inl f_t_v))] sz)) (qX9_inverseOf D ca a_t a_t_v a_t_past a_t_costs a_t_into a_t_isNeeded a_t_depths a_t_names a_t_out a_t_has t_edits t_thrown t_outs f_t_v Q (va_A [(a_t, .inr (7, [.ref a_t_v, .ref a_t_past, .ref a_t_costs, .int t_edits, .int t_thrown, .ref a_t_into, .ref a_t_isNeeded, .ref a_t_depths, .ref a_t_names, .ref a_t_out, .int t_outs, .ref a_t_has])), (a_t_v, .inl (ca 0, 206, .inl f_t_v))] sz)) 0 0 (va_A [(a_t, .inr (7, [.ref a_t_v, .ref a_t_past, .ref a_t_costs, .int t_edits, .int t_thrown, .ref a_t_into, .ref a_t_isNeeded, .ref a_t_depths, .ref a_t_names, .ref a_t_out, .int t_outs, .ref a_t_has])), (a_t_v, .inl (ca 0, 206, .inl f_t_v))] sz) := by
  refine Met.ofW (cc := cX9_inverseOf) (maxL := 5) (ret := (some .long)) (by decide) rfl ?_
  intro p e s m args below meth c s₁ B hml hv
  obtain ⟨rfl, hsz, hP, hK, hD0⟩ := hv
  have hx := B.exec
  have hb := B.bytes
  have hr := B.returns
  have hts := atoms_spec (ws := (Cond.code yX9_inverseOf cX9_inverseOf 5 (some .long) :: wsG)) B.pre
  have hq : ∀ w ∈ wsG, w.before _ s = true := fun w hw => hts w (List.mem_cons_of_mem _ hw)
  have hown : s.vm.findClass RX9 = some m.cls := findClass_of_methodNamed B.named
  have hlocks := B.notSynchronized
  subst hsz
  have hD := hD0.self (sz := s.heap.size)
  generalize hAe : va_A [(a_t, .inr (7, [.ref a_t_v, .ref a_t_past, .ref a_t_costs, .int t_edits, .int t_thrown, .ref a_t_into, .ref a_t_isNeeded, .ref a_t_depths, .ref a_t_names, .ref a_t_out, .int t_outs, .ref a_t_has])), (a_t_v, .inl (ca 0, 206, .inl f_t_v))] s.heap.size = A at hD ⊢
  have hA : ∀ q : Nat, s.heap.size ≤ q → A q := fun q h => by rw [← hAe]; exact Or.inr h
  have hS : va_S A s.heap s.heap [] := va_S.rf
  have hP : va_P D vwCl [(a_t, .inr (7, [.ref a_t_v, .ref a_t_past, .ref a_t_costs, .int t_edits, .int t_thrown, .ref a_t_into, .ref a_t_isNeeded, .ref a_t_depths, .ref a_t_names, .ref a_t_out, .int t_outs, .ref a_t_has])), (a_t_v, .inl (ca 0, 206, .inl f_t_v))] s.heap := hP
  have hl := lv_entry ([.ref a_t, .long x1]) (n := 5) (Nat.le_of_ble_eq_true rfl)
  rw [lg_entry_eq]
  generalize (lg_sl ([.ref a_t, .long x1]) ++ List.replicate (5 - (lg_sl ([.ref a_t, .long x1])).length) Slot.unset).toArray = ls at hl ⊢
  have hl : lv_has ls 5 [(0, .ref a_t), (1, .long x1)] := hl
  unfold wX9_inverseOf at h
  refine lv_lconst (v := 1) hx hb dX9_inverseOf_0 (by decide) ?_
  refine lv_lstore_n (lv' := [(3, .long 1), (0, .ref a_t), (1, .long x1)]) hx hb dX9_inverseOf_1 rfl hl (by decide) rfl (fun ls hl => ?_)
  have hL2 : ∀ (n9_2 : Nat) (x3_2 : Int64) (H : Heap) (locs : List Loc) (ls : Array Slot), va_P D vwCl [(a_t, .inr (7, [.ref a_t_v, .ref a_t_past, .ref a_t_costs, .int t_edits, .int t_thrown, .ref a_t_into, .ref a_t_isNeeded, .ref a_t_depths, .ref a_t_names, .ref a_t_out, .int t_outs, .ref a_t_has])), (a_t_v, .inl (ca 0, 206, .inl f_t_v))] H → va_D A [(a_t, .inr (7, [.ref a_t_v, .ref a_t_past, .ref a_t_costs, .int t_edits, .int t_thrown, .ref a_t_into, .ref a_t_isNeeded, .ref a_t_depths, .ref a_t_names, .ref a_t_out, .int t_outs, .ref a_t_has])), (a_t_v, .inl (ca 0, 206, .inl f_t_v))] → va_S A s.heap H locs → lv_has ls 5 [(0, .ref a_t), (1, .long x1), (3, .long x3_2)] → wX9_inverseOf_2 f_t_v x1 Q n9_2 x3_2 → W p l e (headSpec (Cond.code yX9_inverseOf cX9_inverseOf 5 (some .long) :: wsG) ({ frames := 3, cells := 0, slots := 0, locals := 62 } : Room)).room s m ([.ref a_t, .long x1] : List Value).toArray below meth c H locs 0 0 (MQ below (qX9_inverseOf D ca a_t a_t_v a_t_past a_t_costs a_t_into a_t_isNeeded a_t_depths a_t_names a_t_out a_t_has t_edits t_thrown t_outs f_t_v Q A) ([.ref a_t, .long x1] : List Value).toArray s 0 0 A) (F0 m 2 ls []) := by
    intro n9_2
    induction n9_2 with
    | zero =>
      intro x3_2 H locs ls hP hD hS hl h
      exact False.elim h
    | succ n9_2 ih2 =>
      intro x3_2 H locs ls hP hD hS hl h
      unfold wX9_inverseOf_2 at h
      refine lv_aload_n hx hb dX9_inverseOf_2 rfl (lv_at hl 0 rfl) ?_
      refine lv_lload_n hx hb dX9_inverseOf_3 rfl (lv_at hl 1 rfl) ?_
      refine lv_lload_n hx hb dX9_inverseOf_4 rfl (lv_at hl 2 rfl) ?_
      refine lv_lmul hx hb dX9_inverseOf_5 ?_
      refine cVl (As := [.long (x1 * x3_2)]) (rest := []) (wc := [(a_t, .inr (7, [.ref a_t_v, .ref a_t_past, .ref a_t_costs, .int t_edits, .int t_thrown, .ref a_t_into, .ref a_t_isNeeded, .ref a_t_depths, .ref a_t_names, .ref a_t_out, .int t_outs, .ref a_t_has])), (a_t_v, .inl (ca 0, 206, .inl f_t_v))]) (wr := []) (w1 := fun _ : Unit => [(a_t, .inr (7, [.ref a_t_v, .ref a_t_past, .ref a_t_costs, .int t_edits, .int t_thrown, .ref a_t_into, .ref a_t_isNeeded, .ref a_t_depths, .ref a_t_names, .ref a_t_out, .int t_outs, .ref a_t_has])), (a_t_v, .inl (ca 0, 206, .inl f_t_v))]) (ws2 := fun _ : Unit => [(a_t, .inr (7, [.ref a_t_v, .ref a_t_past, .ref a_t_costs, .int t_edits, .int t_thrown, .ref a_t_into, .ref a_t_isNeeded, .ref a_t_depths, .ref a_t_names, .ref a_t_out, .int t_outs, .ref a_t_has])), (a_t_v, .inl (ca 0, 206, .inl f_t_v))]) ⟨hx, hb, hml, hown, hts⟩ (mX9_value l D ca a_t a_t_v a_t_past a_t_costs a_t_into a_t_isNeeded a_t_depths a_t_names a_t_out a_t_has _ t_edits t_thrown t_outs f_t_v (x1 * x3_2) _ h) (cwV 1 hts (gV q_999 q_1001 qs_40 q_8 q_1002) rfl rfl rfl (by decide +kernel) ⟨Nat.le_of_ble_eq_true rfl, Nat.le_of_ble_eq_true rfl⟩) hK hP hD hS hA [0, 1] [] [0, 1] rfl rfl rfl (by decide) (fun _ => rfl) (ci := 7) (q0 := 0) rfl rfl rfl hl.1 rfl (Nat.le_of_ble_eq_true rfl) dX9_inverseOf_6 ⟨Nat.le_of_ble_eq_true rfl, Nat.le_of_ble_eq_true rfl⟩ (fun r_6 u9 H locs h hP hD hS => ?_)
      try dsimp only at h
      refine lv_lconst (v := 1) hx hb dX9_inverseOf_9 (by decide) ?_
      refine jl_eq (tgt := 23) hx hb dX9_inverseOf_10 dX9_inverseOf_11 (by decide) (fun c9 => ?_) (fun c9 => ?_)
      · have h := h.1 c9
        refine lv_lload_n hx hb dX9_inverseOf_23 rfl (lv_at hl 2 rfl) ?_
        exact W.lret (v := x3_2) hx hb hr (fun t ht hW => ⟨⟨x3_2, (), rfl, h, by rw [ht]; exact hP, va_K.moved hW.alike hK, hD⟩, hS.F ht⟩) hS.2.2 dX9_inverseOf_24
      · have h := h.2 c9
        refine lv_lload_n hx hb dX9_inverseOf_14 rfl (lv_at hl 2 rfl) ?_
        refine lv_ldc2 (v := 2) hx hb hown (hq _ q_949) dX9_inverseOf_15 ?_
        refine lv_ladd hx hb dX9_inverseOf_18 ?_
        refine lv_topl (fun x3_19 ex3_19 => ?_)
        have h := h x3_19 ex3_19
        refine lv_lstore_n (lv' := [(3, .long x3_19), (0, .ref a_t), (1, .long x1)]) hx hb dX9_inverseOf_19 rfl hl (by decide) rfl (fun ls hl => ?_)
        refine lv_goto (tgt := 2) hx hb dX9_inverseOf_20 (by decide) ?_
        exact ih2 x3_19 _ _ _ hP hD hS (lv_sub hl [1, 2, 0] rfl) h
  obtain ⟨k9, h⟩ := h
  exact hL2 k9 1 _ _ _ hP hD hS (lv_sub hl [1, 2, 0] rfl) h
