abbrev qX8_width (D : va_G) (ca : Nat → ClassId) (a_t a_t_generator a_t_program a_t_costs a_t_history a_t_machine a_t_tidier a_t_listing a_t_program_operations a_t_program_firsts a_t_program_seconds : Nat) (t_program_width : Int32) (t_program_length : Int32) (t_program_result : Int32) (t_program_taskKind : Int32) (t_program_taskDivisor : Int32) (Q : Int32 → Prop) (A : Nat → Prop) : Array Value → State → Outcome → State → Prop := va_Qi (fun (r : Int32) (_ : Unit) => Q r) (wEnd D ca (fun _ : Unit => [(a_t, .inr (6, [.ref a_t_generator, .ref a_t_program, .ref a_t_costs, .ref a_t_history, .ref a_t_machine, .ref a_t_tidier, .ref a_t_listing])), (a_t_program, .inr (4, [.int t_program_width, .int t_program_length, .int t_program_result, .int t_program_taskKind, .int t_program_taskDivisor, .ref a_t_program_operations, .ref a_t_program_firsts, .ref a_t_program_seconds]))]) A) A
def wX8_width (t_program_width : Int32) (Q : Int32 → Prop) : Prop :=
  Q t_program_width
set_option maxHeartbeats 4000000 in
set_option maxRecDepth 100000 in
theorem mX8_width (l : Launch) (D : va_G) (ca : Nat → ClassId) (a_t a_t_generator a_t_program a_t_costs a_t_history a_t_machine a_t_tidier a_t_listing a_t_program_operations a_t_program_firsts a_t_program_seconds : Nat) (sz : Nat) (t_program_width : Int32) (t_program_length : Int32) (t_program_result : Int32) (t_program_taskKind : Int32) (t_program_taskDivisor : Int32) (Q : Int32 → Prop) (h : wX8_width t_program_width Q) : Met l yX8_width (Cond.code yX8_width cX8_width 1 (some .int) :: wsG) ({ frames := 0, cells := 0, slots := 0, locals := 0 } : Room) (va_Pc [.ref a_t] (wPre D ca [(a_t, .inr (6, [.ref a_t_generator, .ref a_t_program, .ref a_t_costs, .ref a_t_history, .ref a_t_machine, .ref a_t_tidier, .ref a_t_listing])), (a_t_program, .inr (4, [.int t_program_width, .int t_program_length, .int t_program_result, .int t_program_taskKind, .int t_program_taskDivisor, .ref a_t_program_operations, .ref a_t_program_firsts, .ref a_t_program_seconds]))] sz)) (qX8_width D ca a_t a_t_generator a_t_program a_t_costs a_t_history a_t_machine a_t_tidier a_t_listing a_t_program_operations a_t_program_firsts a_t_program_seconds t_program_width t_program_length t_program_result t_program_taskKind t_program_taskDivisor Q (va_A [(a_t, .inr (6, [.ref a_t_generator, .ref a_t_program, .ref a_t_costs, .ref a_t_history, .ref a_t_machine, .ref a_t_tidier, .ref a_t_listing])), (a_t_program, .inr (4, [.int t_program_width, .int t_program_length, .int t_program_result, .int t_program_taskKind, .int t_program_taskDivisor, .ref a_t_program_operations, .ref a_t_program_firsts, .ref a_t_program_seconds]))] sz)) 0 0 (va_A [(a_t, .inr (6, [.ref a_t_generator, .ref a_t_program, .ref a_t_costs, .ref a_t_history, .ref a_t_machine, .ref a_t_tidier, .ref a_t_listing])), (a_t_program, .inr (4, [.int t_program_width, .int t_program_length, .int t_program_result, .int t_program_taskKind, .int t_program_taskDivisor, .ref a_t_program_operations, .ref a_t_program_firsts, .ref a_t_program_seconds]))] sz) := by
  refine Met.ofW (cc := cX8_width) (maxL := 1) (ret := (some .int)) (by decide) rfl ?_
  intro p e s m args below meth c s₁ B hml hv
  obtain ⟨rfl, hsz, hP, hK, hD0⟩ := hv
  have hx := B.exec
  have hb := B.bytes
  have hr := B.returns
  have hts := atoms_spec (ws := (Cond.code yX8_width cX8_width 1 (some .int) :: wsG)) B.pre
  have hq : ∀ w ∈ wsG, w.before _ s = true := fun w hw => hts w (List.mem_cons_of_mem _ hw)
  have hown : s.vm.findClass RX8 = some m.cls := findClass_of_methodNamed B.named
  have hlocks := B.notSynchronized
  subst hsz
  have hD := hD0.self (sz := s.heap.size)
  generalize hAe : va_A [(a_t, .inr (6, [.ref a_t_generator, .ref a_t_program, .ref a_t_costs, .ref a_t_history, .ref a_t_machine, .ref a_t_tidier, .ref a_t_listing])), (a_t_program, .inr (4, [.int t_program_width, .int t_program_length, .int t_program_result, .int t_program_taskKind, .int t_program_taskDivisor, .ref a_t_program_operations, .ref a_t_program_firsts, .ref a_t_program_seconds]))] s.heap.size = A at hD ⊢
  have hA : ∀ q : Nat, s.heap.size ≤ q → A q := fun q h => by rw [← hAe]; exact Or.inr h
  have hS : va_S A s.heap s.heap [] := va_S.rf
  have hP : va_P D vwCl [(a_t, .inr (6, [.ref a_t_generator, .ref a_t_program, .ref a_t_costs, .ref a_t_history, .ref a_t_machine, .ref a_t_tidier, .ref a_t_listing])), (a_t_program, .inr (4, [.int t_program_width, .int t_program_length, .int t_program_result, .int t_program_taskKind, .int t_program_taskDivisor, .ref a_t_program_operations, .ref a_t_program_firsts, .ref a_t_program_seconds]))] s.heap := hP
  have hl := lv_entry ([.ref a_t]) (n := 1) (Nat.le_of_ble_eq_true rfl)
  rw [lg_entry_eq]
  generalize (lg_sl ([.ref a_t]) ++ List.replicate (1 - (lg_sl ([.ref a_t])).length) Slot.unset).toArray = ls at hl ⊢
  have hl : lv_has ls 1 [(0, .ref a_t)] := hl
  unfold wX8_width at h
  refine lv_aload_n hx hb dX8_width_0 rfl (lv_at hl 0 rfl) ?_
  refine va_get (D := D) (ci := 6) (v := .ref a_t_program) (C := RX8) (T := TX8) (N := 7) hx hb hq inX8g hown hK hP 0 rfl rfl 1 (by decide) (hq _ q_170) (fun _ h9 => h9) rfl dX8_width_1 ?_
  refine va_get (D := D) (ci := 4) (v := .int t_program_width) (C := RX5) (T := TX5) (N := 8) hx hb hq inX5g hown hK hP 1 rfl rfl 0 (by decide) (hq _ q_45) (fun _ h9 => h9) rfl dX8_width_4 ?_
  exact W.iret (v := t_program_width) hx hb hr (fun t ht hW => ⟨⟨t_program_width, (), rfl, h, by rw [ht]; exact hP, va_K.moved hW.alike hK, hD⟩, hS.F ht⟩) hS.2.2 dX8_width_7

abbrev qX8_setCost (D : va_G) (ca : Nat → ClassId) (a_t a_t_generator a_t_program a_t_costs a_t_history a_t_machine a_t_tidier a_t_listing : Nat) (Q : Int32 → (Nat → Int32) → Prop) (A : Nat → Prop) : Array Value → State → Outcome → State → Prop := va_Qi (fun (r : Int32) (u : (Nat → Int32)) => Q r u) (wEnd D ca (fun u : (Nat → Int32) => [(a_t, .inr (6, [.ref a_t_generator, .ref a_t_program, .ref a_t_costs, .ref a_t_history, .ref a_t_machine, .ref a_t_tidier, .ref a_t_listing])), (a_t_costs, .inl (ca 0, 3, .inl u))]) A) A
def wX8_setCost_13 (QX : String → Prop) : Prop :=
  QX xIO
def wX8_setCost_34 (QX : String → Prop) : Prop :=
  QX xIA
def wX8_setCost (f_t_costs : Nat → Int32) (x1 : Int32) (x2 : Int32) (Q : Int32 → (Nat → Int32) → Prop) (QX : String → Prop) : Prop :=
  ((x1 < 0 → wX8_setCost_13 QX) ∧ (¬ x1 < 0 → ((x1 < 3 → ((x2 < 1 → wX8_setCost_34 QX) ∧ (¬ x2 < 1 → ((x2 ≤ 20 → (vp_in x1 3 ∧ (∀ x3_50 : Int32, x3_50 = f_t_costs x1.toNatClampNeg → (vp_in x1 3 ∧ Q x3_50 (upd f_t_costs x1.toNatClampNeg x2))))) ∧ (¬ x2 ≤ 20 → wX8_setCost_34 QX))))) ∧ (¬ x1 < 3 → wX8_setCost_13 QX))))
set_option maxHeartbeats 4000000 in
set_option maxRecDepth 100000 in
theorem mX8_setCost (l : Launch) (hl0 : l.stackTraces = false) (D : va_G) (ca : Nat → ClassId) (a_t a_t_generator a_t_program a_t_costs a_t_history a_t_machine a_t_tidier a_t_listing : Nat) (sz : Nat) (f_t_costs : Nat → Int32) (x1 : Int32) (x2 : Int32) (Q : Int32 → (Nat → Int32) → Prop) (QX : String → Prop) (h : wX8_setCost f_t_costs x1 x2 Q QX) : vx_Met l yX8_setCost (Cond.code yX8_setCost cX8_setCost 4 (some .int) :: wsG) ({ frames := 6, cells := 1, slots := 6, locals := 90 } : Room) (va_Pc [.ref a_t, .int x1, .int x2] (xPre D ca [(a_t, .inr (6, [.ref a_t_generator, .ref a_t_program, .ref a_t_costs, .ref a_t_history, .ref a_t_machine, .ref a_t_tidier, .ref a_t_listing])), (a_t_costs, .inl (ca 0, 3, .inl f_t_costs))] sz)) (qX8_setCost D ca a_t a_t_generator a_t_program a_t_costs a_t_history a_t_machine a_t_tidier a_t_listing Q (va_A [(a_t, .inr (6, [.ref a_t_generator, .ref a_t_program, .ref a_t_costs, .ref a_t_history, .ref a_t_machine, .ref a_t_tidier, .ref a_t_listing])), (a_t_costs, .inl (ca 0, 3, .inl f_t_costs))] sz)) (xEnd D ca [(a_t, .inr (6, [.ref a_t_generator, .ref a_t_program, .ref a_t_costs, .ref a_t_history, .ref a_t_machine, .ref a_t_tidier, .ref a_t_listing])), (a_t_costs, .inl (ca 0, 3, .inl f_t_costs))] QX (va_A [(a_t, .inr (6, [.ref a_t_generator, .ref a_t_program, .ref a_t_costs, .ref a_t_history, .ref a_t_machine, .ref a_t_tidier, .ref a_t_listing])), (a_t_costs, .inl (ca 0, 3, .inl f_t_costs))] sz)) 1 6 (va_A [(a_t, .inr (6, [.ref a_t_generator, .ref a_t_program, .ref a_t_costs, .ref a_t_history, .ref a_t_machine, .ref a_t_tidier, .ref a_t_listing])), (a_t_costs, .inl (ca 0, 3, .inl f_t_costs))] sz) := by
  refine vx_ofW (cc := cX8_setCost) (maxL := 4) (ret := (some .int)) (by decide) rfl ?_
  intro p e s m args below meth c s₁ B hml htab hv
  obtain ⟨rfl, ⟨hsz, hP, hK, hD0⟩, hX⟩ := hv
  have hx := B.exec
  have hb := B.bytes
  have hr := B.returns
  have hts := atoms_spec (ws := (Cond.code yX8_setCost cX8_setCost 4 (some .int) :: wsG)) B.pre
  have hq : ∀ w ∈ wsG, w.before _ s = true := fun w hw => hts w (List.mem_cons_of_mem _ hw)
  have hown : s.vm.findClass RX8 = some m.cls := findClass_of_methodNamed B.named
  have hlocks := B.notSynchronized
  subst hsz
  have hD := hD0.self (sz := s.heap.size)
  generalize hAe : va_A [(a_t, .inr (6, [.ref a_t_generator, .ref a_t_program, .ref a_t_costs, .ref a_t_history, .ref a_t_machine, .ref a_t_tidier, .ref a_t_listing])), (a_t_costs, .inl (ca 0, 3, .inl f_t_costs))] s.heap.size = A at hD hX ⊢
  have hA : ∀ q : Nat, s.heap.size ≤ q → A q := fun q h => by rw [← hAe]; exact Or.inr h
  have hS : va_S A s.heap s.heap [] := va_S.rf
  have hP : va_P D vwCl [(a_t, .inr (6, [.ref a_t_generator, .ref a_t_program, .ref a_t_costs, .ref a_t_history, .ref a_t_machine, .ref a_t_tidier, .ref a_t_listing])), (a_t_costs, .inl (ca 0, 3, .inl f_t_costs))] s.heap := hP
  have hl := lv_entry ([.ref a_t, .int x1, .int x2]) (n := 4) (Nat.le_of_ble_eq_true rfl)
  rw [lg_entry_eq]
  generalize (lg_sl ([.ref a_t, .int x1, .int x2]) ++ List.replicate (4 - (lg_sl ([.ref a_t, .int x1, .int x2])).length) Slot.unset).toArray = ls at hl ⊢
  have hl : lv_has ls 4 [(0, .ref a_t), (1, .int x1), (2, .int x2)] := hl
  unfold wX8_setCost at h
  refine lv_iload_n hx hb dX8_setCost_0 rfl (lv_at hl 1 rfl) ?_
  have hJ13 : ∀ (H : Heap) (locs : List Loc) (ls : Array Slot), va_P D vwCl [(a_t, .inr (6, [.ref a_t_generator, .ref a_t_program, .ref a_t_costs, .ref a_t_history, .ref a_t_machine, .ref a_t_tidier, .ref a_t_listing])), (a_t_costs, .inl (ca 0, 3, .inl f_t_costs))] H → va_D A [(a_t, .inr (6, [.ref a_t_generator, .ref a_t_program, .ref a_t_costs, .ref a_t_history, .ref a_t_machine, .ref a_t_tidier, .ref a_t_listing])), (a_t_costs, .inl (ca 0, 3, .inl f_t_costs))] → va_S A s.heap H locs → lv_has ls 4 [] → wX8_setCost_13 QX → W p l e (headSpec (Cond.code yX8_setCost cX8_setCost 4 (some .int) :: wsG) ({ frames := 6, cells := 1, slots := 6, locals := 90 } : Room)).room s m ([.ref a_t, .int x1, .int x2] : List Value).toArray below meth c H locs 0 0 (vx_MQ below (qX8_setCost D ca a_t a_t_generator a_t_program a_t_costs a_t_history a_t_machine a_t_tidier a_t_listing Q A) (xEnd D ca [(a_t, .inr (6, [.ref a_t_generator, .ref a_t_program, .ref a_t_costs, .ref a_t_history, .ref a_t_machine, .ref a_t_tidier, .ref a_t_listing])), (a_t_costs, .inl (ca 0, 3, .inl f_t_costs))] QX A) ([.ref a_t, .int x1, .int x2] : List Value).toArray s 1 6 A) (F0 m 13 ls []) := by
    intro  H locs ls hP hD hS hl h
    unfold wX8_setCost_13 at h
    exact x_throw (nmx := xIO) (text := "which is not from 0 to 2") hx hb hl0 hown hX (by decide) (by decide) (hq _ q_364) (hq _ q_15) (xh_IO hq hX.2.2.2.2.1 hX.2.2.2.2.2.1) xg_IO hS (hl.1.trans hml.symm) dX8_setCost_13 dX8_setCost_16 dX8_setCost_17 dX8_setCost_19 dX8_setCost_22 htab (Nat.le_of_ble_eq_true rfl) (Nat.le_of_ble_eq_true rfl) (Nat.le_of_ble_eq_true rfl) (Nat.le_of_ble_eq_true rfl) hlocks (fun t hvm h1 h2 => ⟨(), trivial, ⟨h, fun k q h3 => (hP k q h3).kept (h2 q.1 (hP k q h3).lt), va_K.moved hvm hK, hD⟩, ⟨Nat.le_trans hS.1 h1, fun q h3 h4 => (h2 q (Nat.lt_of_lt_of_le h3 hS.1)).trans (hS.2.1 q h3 h4)⟩⟩) hS.2.2 (Nat.le_of_ble_eq_true rfl) (Nat.le_of_ble_eq_true rfl)
  refine lv_if_lt (tgt := 13) hx hb dX8_setCost_1 (by decide) (fun c9 => ?_) (fun c9 => ?_)
  · have h := h.1 c9
    exact hJ13 _ _ _ hP hD hS (lv_sub hl [] rfl) h
  · have h := h.2 c9
    refine lv_iload_n hx hb dX8_setCost_4 rfl (lv_at hl 1 rfl) ?_
    refine lv_aload_n hx hb dX8_setCost_5 rfl (lv_at hl 0 rfl) ?_
    refine va_get (D := D) (ci := 6) (v := .ref a_t_costs) (C := RX8) (T := TX8) (N := 7) hx hb hq inX8g hown hK hP 0 rfl rfl 2 (by decide) (hq _ q_171) (fun _ h9 => h9) rfl dX8_setCost_6 ?_
    refine va_alen (v := 3) hx hb hK hP 1 0 rfl rfl rfl dX8_setCost_9 ?_
    refine lv_icmp_lt (tgt := 23) hx hb dX8_setCost_10 (by decide) (fun c9 => ?_) (fun c9 => ?_)
    · have h := h.1 c9
      refine lv_iload_n hx hb dX8_setCost_23 rfl (lv_at hl 2 rfl) ?_
      refine lv_iconst (v := 1) hx hb dX8_setCost_24 (by decide) ?_
      have hJ34 : ∀ (H : Heap) (locs : List Loc) (ls : Array Slot), va_P D vwCl [(a_t, .inr (6, [.ref a_t_generator, .ref a_t_program, .ref a_t_costs, .ref a_t_history, .ref a_t_machine, .ref a_t_tidier, .ref a_t_listing])), (a_t_costs, .inl (ca 0, 3, .inl f_t_costs))] H → va_D A [(a_t, .inr (6, [.ref a_t_generator, .ref a_t_program, .ref a_t_costs, .ref a_t_history, .ref a_t_machine, .ref a_t_tidier, .ref a_t_listing])), (a_t_costs, .inl (ca 0, 3, .inl f_t_costs))] → va_S A s.heap H locs → lv_has ls 4 [] → wX8_setCost_34 QX → W p l e (headSpec (Cond.code yX8_setCost cX8_setCost 4 (some .int) :: wsG) ({ frames := 6, cells := 1, slots := 6, locals := 90 } : Room)).room s m ([.ref a_t, .int x1, .int x2] : List Value).toArray below meth c H locs 0 0 (vx_MQ below (qX8_setCost D ca a_t a_t_generator a_t_program a_t_costs a_t_history a_t_machine a_t_tidier a_t_listing Q A) (xEnd D ca [(a_t, .inr (6, [.ref a_t_generator, .ref a_t_program, .ref a_t_costs, .ref a_t_history, .ref a_t_machine, .ref a_t_tidier, .ref a_t_listing])), (a_t_costs, .inl (ca 0, 3, .inl f_t_costs))] QX A) ([.ref a_t, .int x1, .int x2] : List Value).toArray s 1 6 A) (F0 m 34 ls []) := by
        intro  H locs ls hP hD hS hl h
        unfold wX8_setCost_34 at h
        exact x_throw (nmx := xIA) (text := "cost is not from 1 to 20") hx hb hl0 hown hX (by decide) (by decide) (hq _ q_284) (hq _ q_12) (xh_IA hq hX.2.2.1 hX.2.2.2.2.2.1) xg_IA hS (hl.1.trans hml.symm) dX8_setCost_34 dX8_setCost_37 dX8_setCost_38 dX8_setCost_40 dX8_setCost_43 htab (Nat.le_of_ble_eq_true rfl) (Nat.le_of_ble_eq_true rfl) (Nat.le_of_ble_eq_true rfl) (Nat.le_of_ble_eq_true rfl) hlocks (fun t hvm h1 h2 => ⟨(), trivial, ⟨h, fun k q h3 => (hP k q h3).kept (h2 q.1 (hP k q h3).lt), va_K.moved hvm hK, hD⟩, ⟨Nat.le_trans hS.1 h1, fun q h3 h4 => (h2 q (Nat.lt_of_lt_of_le h3 hS.1)).trans (hS.2.1 q h3 h4)⟩⟩) hS.2.2 (Nat.le_of_ble_eq_true rfl) (Nat.le_of_ble_eq_true rfl)
      refine lv_icmp_lt (tgt := 34) hx hb dX8_setCost_25 (by decide) (fun c9 => ?_) (fun c9 => ?_)
      · have h := h.1 c9
        exact hJ34 _ _ _ hP hD hS (lv_sub hl [] rfl) h
      · have h := h.2 c9
        refine lv_iload_n hx hb dX8_setCost_28 rfl (lv_at hl 2 rfl) ?_
        refine lv_bipush (v := 20) hx hb dX8_setCost_29 (by decide) ?_
        refine lv_icmp_le (tgt := 44) hx hb dX8_setCost_31 (by decide) (fun c9 => ?_) (fun c9 => ?_)
        · have h := h.1 c9
          refine lv_aload_n hx hb dX8_setCost_44 rfl (lv_at hl 0 rfl) ?_
          refine va_get (D := D) (ci := 6) (v := .ref a_t_costs) (C := RX8) (T := TX8) (N := 7) hx hb hq inX8g hown hK hP 0 rfl rfl 2 (by decide) (hq _ q_171) (fun _ h9 => h9) rfl dX8_setCost_45 ?_
          refine lv_iload_n hx hb dX8_setCost_48 rfl (lv_at hl 1 rfl) ?_
          obtain ⟨hi9, h⟩ := h
          refine va_iald hx hb hK hP 1 0 rfl rfl hi9 dX8_setCost_49 ?_
          refine lv_topi (fun x3_50 ex3_50 => ?_)
          have h := h x3_50 ex3_50
          refine lv_istore_n (lv' := [(3, .int x3_50), (0, .ref a_t), (1, .int x1), (2, .int x2)]) hx hb dX8_setCost_50 rfl hl (by decide) rfl (fun ls hl => ?_)
          refine lv_aload_n hx hb dX8_setCost_51 rfl (lv_at hl 1 rfl) ?_
          refine va_get (D := D) (ci := 6) (v := .ref a_t_costs) (C := RX8) (T := TX8) (N := 7) hx hb hq inX8g hown hK hP 0 rfl rfl 2 (by decide) (hq _ q_171) (fun _ h9 => h9) rfl dX8_setCost_52 ?_
          refine lv_iload_n hx hb dX8_setCost_55 rfl (lv_at hl 2 rfl) ?_
          refine lv_iload_n hx hb dX8_setCost_56 rfl (lv_at hl 3 rfl) ?_
          obtain ⟨hi9, h⟩ := h
          refine va_iast hx hb hK hP hD hS 1 0 rfl rfl hi9 dX8_setCost_57 (fun H locs hP hD hS => ?_)
          have hP : va_P D vwCl [(a_t, .inr (6, [.ref a_t_generator, .ref a_t_program, .ref a_t_costs, .ref a_t_history, .ref a_t_machine, .ref a_t_tidier, .ref a_t_listing])), (a_t_costs, .inl (ca 0, 3, .inl (upd f_t_costs x1.toNatClampNeg x2)))] H := hP
          have hD : va_D A [(a_t, .inr (6, [.ref a_t_generator, .ref a_t_program, .ref a_t_costs, .ref a_t_history, .ref a_t_machine, .ref a_t_tidier, .ref a_t_listing])), (a_t_costs, .inl (ca 0, 3, .inl (upd f_t_costs x1.toNatClampNeg x2)))] := hD
          refine lv_iload_n hx hb dX8_setCost_58 rfl (lv_at hl 0 rfl) ?_
          refine W.widen (k := 1) (n := 6) (Nat.le_of_ble_eq_true rfl) (Nat.le_of_ble_eq_true rfl) ?_
          refine vx_ret ?_
          exact W.iret (v := x3_50) hx hb hr (fun t ht hW => ⟨⟨x3_50, upd f_t_costs x1.toNatClampNeg x2, rfl, h, by rw [ht]; exact hP, va_K.moved hW.alike hK, hD⟩, hS.F ht⟩) hS.2.2 dX8_setCost_59
        · have h := h.2 c9
          exact hJ34 _ _ _ hP hD hS (lv_sub hl [] rfl) h
    · have h := h.2 c9
      exact hJ13 _ _ _ hP hD hS (lv_sub hl [] rfl) h

abbrev qX8_greatestValue (D : va_G) (ca : Nat → ClassId) (a_t a_t_generator a_t_program a_t_costs a_t_history a_t_machine a_t_tidier a_t_listing a_t_program_operations a_t_program_firsts a_t_program_seconds : Nat) (t_program_width : Int32) (t_program_length : Int32) (t_program_result : Int32) (t_program_taskKind : Int32) (t_program_taskDivisor : Int32) (Q : Int32 → Prop) (A : Nat → Prop) : Array Value → State → Outcome → State → Prop := va_Qi (fun (r : Int32) (_ : Unit) => Q r) (wEnd D ca (fun _ : Unit => [(a_t, .inr (6, [.ref a_t_generator, .ref a_t_program, .ref a_t_costs, .ref a_t_history, .ref a_t_machine, .ref a_t_tidier, .ref a_t_listing])), (a_t_program, .inr (4, [.int t_program_width, .int t_program_length, .int t_program_result, .int t_program_taskKind, .int t_program_taskDivisor, .ref a_t_program_operations, .ref a_t_program_firsts, .ref a_t_program_seconds]))]) A) A
def wX8_greatestValue (t_program_width : Int32) (Q : Int32 → Prop) : Prop :=
  Q (((1 : Int32) <<< (t_program_width &&& 31)) - 1)
set_option maxHeartbeats 4000000 in
set_option maxRecDepth 100000 in
theorem mX8_greatestValue (l : Launch) (D : va_G) (ca : Nat → ClassId) (a_t a_t_generator a_t_program a_t_costs a_t_history a_t_machine a_t_tidier a_t_listing a_t_program_operations a_t_program_firsts a_t_program_seconds : Nat) (sz : Nat) (t_program_width : Int32) (t_program_length : Int32) (t_program_result : Int32) (t_program_taskKind : Int32) (t_program_taskDivisor : Int32) (Q : Int32 → Prop) (h : wX8_greatestValue t_program_width Q) : Met l yX8_greatestValue (Cond.code yX8_greatestValue cX8_greatestValue 1 (some .int) :: wsG) ({ frames := 0, cells := 0, slots := 0, locals := 0 } : Room) (va_Pc [.ref a_t] (wPre D ca [(a_t, .inr (6, [.ref a_t_generator, .ref a_t_program, .ref a_t_costs, .ref a_t_history, .ref a_t_machine, .ref a_t_tidier, .ref a_t_listing])), (a_t_program, .inr (4, [.int t_program_width, .int t_program_length, .int t_program_result, .int t_program_taskKind, .int t_program_taskDivisor, .ref a_t_program_operations, .ref a_t_program_firsts, .ref a_t_program_seconds]))] sz)) (qX8_greatestValue D ca a_t a_t_generator a_t_program a_t_costs a_t_history a_t_machine a_t_tidier a_t_listing a_t_program_operations a_t_program_firsts a_t_program_seconds t_program_width t_program_length t_program_result t_program_taskKind t_program_taskDivisor Q (va_A [(a_t, .inr (6, [.ref a_t_generator, .ref a_t_program, .ref a_t_costs, .ref a_t_history, .ref a_t_machine, .ref a_t_tidier, .ref a_t_listing])), (a_t_program, .inr (4, [.int t_program_width, .int t_program_length, .int t_program_result, .int t_program_taskKind, .int t_program_taskDivisor, .ref a_t_program_operations, .ref a_t_program_firsts, .ref a_t_program_seconds]))] sz)) 0 0 (va_A [(a_t, .inr (6, [.ref a_t_generator, .ref a_t_program, .ref a_t_costs, .ref a_t_history, .ref a_t_machine, .ref a_t_tidier, .ref a_t_listing])), (a_t_program, .inr (4, [.int t_program_width, .int t_program_length, .int t_program_result, .int t_program_taskKind, .int t_program_taskDivisor, .ref a_t_program_operations, .ref a_t_program_firsts, .ref a_t_program_seconds]))] sz) := by
  refine Met.ofW (cc := cX8_greatestValue) (maxL := 1) (ret := (some .int)) (by decide) rfl ?_
  intro p e s m args below meth c s₁ B hml hv
  obtain ⟨rfl, hsz, hP, hK, hD0⟩ := hv
  have hx := B.exec
  have hb := B.bytes
  have hr := B.returns
  have hts := atoms_spec (ws := (Cond.code yX8_greatestValue cX8_greatestValue 1 (some .int) :: wsG)) B.pre
  have hq : ∀ w ∈ wsG, w.before _ s = true := fun w hw => hts w (List.mem_cons_of_mem _ hw)
  have hown : s.vm.findClass RX8 = some m.cls := findClass_of_methodNamed B.named
  have hlocks := B.notSynchronized
  subst hsz
  have hD := hD0.self (sz := s.heap.size)
  generalize hAe : va_A [(a_t, .inr (6, [.ref a_t_generator, .ref a_t_program, .ref a_t_costs, .ref a_t_history, .ref a_t_machine, .ref a_t_tidier, .ref a_t_listing])), (a_t_program, .inr (4, [.int t_program_width, .int t_program_length, .int t_program_result, .int t_program_taskKind, .int t_program_taskDivisor, .ref a_t_program_operations, .ref a_t_program_firsts, .ref a_t_program_seconds]))] s.heap.size = A at hD ⊢
  have hA : ∀ q : Nat, s.heap.size ≤ q → A q := fun q h => by rw [← hAe]; exact Or.inr h
  have hS : va_S A s.heap s.heap [] := va_S.rf
  have hP : va_P D vwCl [(a_t, .inr (6, [.ref a_t_generator, .ref a_t_program, .ref a_t_costs, .ref a_t_history, .ref a_t_machine, .ref a_t_tidier, .ref a_t_listing])), (a_t_program, .inr (4, [.int t_program_width, .int t_program_length, .int t_program_result, .int t_program_taskKind, .int t_program_taskDivisor, .ref a_t_program_operations, .ref a_t_program_firsts, .ref a_t_program_seconds]))] s.heap := hP
  have hl := lv_entry ([.ref a_t]) (n := 1) (Nat.le_of_ble_eq_true rfl)
  rw [lg_entry_eq]
  generalize (lg_sl ([.ref a_t]) ++ List.replicate (1 - (lg_sl ([.ref a_t])).length) Slot.unset).toArray = ls at hl ⊢
  have hl : lv_has ls 1 [(0, .ref a_t)] := hl
  unfold wX8_greatestValue at h
  refine lv_iconst (v := 1) hx hb dX8_greatestValue_0 (by decide) ?_
  refine lv_aload_n hx hb dX8_greatestValue_1 rfl (lv_at hl 0 rfl) ?_
  refine va_get (D := D) (ci := 6) (v := .ref a_t_program) (C := RX8) (T := TX8) (N := 7) hx hb hq inX8g hown hK hP 0 rfl rfl 1 (by decide) (hq _ q_170) (fun _ h9 => h9) rfl dX8_greatestValue_2 ?_
  refine va_get (D := D) (ci := 4) (v := .int t_program_width) (C := RX5) (T := TX5) (N := 8) hx hb hq inX5g hown hK hP 1 rfl rfl 0 (by decide) (hq _ q_45) (fun _ h9 => h9) rfl dX8_greatestValue_5 ?_
  refine lv_ishl hx hb dX8_greatestValue_8 ?_
  refine lv_iconst (v := 1) hx hb dX8_greatestValue_9 (by decide) ?_
  refine lv_isub hx hb dX8_greatestValue_10 ?_
  exact W.iret (v := ((1 : Int32) <<< (t_program_width &&& 31)) - 1) hx hb hr (fun t ht hW => ⟨⟨((1 : Int32) <<< (t_program_width &&& 31)) - 1, (), rfl, h, by rw [ht]; exact hP, va_K.moved hW.alike hK, hD⟩, hS.F ht⟩) hS.2.2 dX8_greatestValue_11

def wX8_requireFromTo_10 (QX : String → Prop) : Prop :=
  QX xIA
def wX8_requireFromTo (x0 : Int32) (x1 : Int32) (x2 : Int32) (Q : Prop) (QX : String → Prop) : Prop :=
  ((x0 < x1 → wX8_requireFromTo_10 QX) ∧ (¬ x0 < x1 → ((x0 ≤ x2 → Q) ∧ (¬ x0 ≤ x2 → wX8_requireFromTo_10 QX))))
set_option maxHeartbeats 4000000 in
set_option maxRecDepth 100000 in
theorem mX8_requireFromTo (l : Launch) (hl0 : l.stackTraces = false) (x0 : Int32) (x1 : Int32) (x2 : Int32) (Q : Prop) (QX : String → Prop) (h : wX8_requireFromTo x0 x1 x2 Q QX) : vx_Met l yX8_requireFromTo (Cond.code yX8_requireFromTo cX8_requireFromTo 3 none :: wsG) ({ frames := 6, cells := 1, slots := 6, locals := 90 } : Room) (va_Pc [.int x0, .int x1, .int x2] (xC (fun _ => False))) (va_Qv (fun (_ : Unit) => Q) (fun _ _ => True) (fun _ => False)) (xEnd0 QX) 1 6 (fun _ => False) := by
  refine vx_ofW (cc := cX8_requireFromTo) (maxL := 3) (ret := none) (by decide) rfl ?_
  intro p e s m args below meth c s₁ B hml htab hv
  obtain ⟨rfl, hX⟩ := hv
  have hx := B.exec
  have hb := B.bytes
  have hr := B.returns
  have hts := atoms_spec (ws := (Cond.code yX8_requireFromTo cX8_requireFromTo 3 none :: wsG)) B.pre
  have hq : ∀ w ∈ wsG, w.before _ s = true := fun w hw => hts w (List.mem_cons_of_mem _ hw)
  have hown : s.vm.findClass RX8 = some m.cls := findClass_of_methodNamed B.named
  have hlocks := B.notSynchronized
  have hS : va_S (fun _ : Nat => False) s.heap s.heap [] := va_S.rf
  have hl := lv_entry ([.int x0, .int x1, .int x2]) (n := 3) (Nat.le_of_ble_eq_true rfl)
  rw [lg_entry_eq]
  generalize (lg_sl ([.int x0, .int x1, .int x2]) ++ List.replicate (3 - (lg_sl ([.int x0, .int x1, .int x2])).length) Slot.unset).toArray = ls at hl ⊢
  have hl : lv_has ls 3 [(0, .int x0), (1, .int x1), (2, .int x2)] := hl
  unfold wX8_requireFromTo at h
  refine lv_iload_n hx hb dX8_requireFromTo_0 rfl (lv_at hl 0 rfl) ?_
  refine lv_iload_n hx hb dX8_requireFromTo_1 rfl (lv_at hl 1 rfl) ?_
  have hJ10 : ∀ (H : Heap) (locs : List Loc) (ls : Array Slot), va_S (fun _ => False) s.heap H locs → lv_has ls 3 [] → wX8_requireFromTo_10 QX → W p l e (headSpec (Cond.code yX8_requireFromTo cX8_requireFromTo 3 none :: wsG) ({ frames := 6, cells := 1, slots := 6, locals := 90 } : Room)).room s m ([.int x0, .int x1, .int x2] : List Value).toArray below meth c H locs 0 0 (vx_MQ below (va_Qv (fun (_ : Unit) => Q) (fun _ _ => True) (fun _ => False)) (xEnd0 QX) ([.int x0, .int x1, .int x2] : List Value).toArray s 1 6 (fun _ => False)) (F0 m 10 ls []) := by
    intro  H locs ls hS hl h
    unfold wX8_requireFromTo_10 at h
    exact x_throw (nmx := xIA) (text := "an argument is out of its range") hx hb hl0 hown hX (by decide) (by decide) (hq _ q_284) (hq _ q_12) (xh_IA hq hX.2.2.1 hX.2.2.2.2.2.1) xg_IA hS (hl.1.trans hml.symm) dX8_requireFromTo_10 dX8_requireFromTo_13 dX8_requireFromTo_14 dX8_requireFromTo_16 dX8_requireFromTo_19 htab (Nat.le_of_ble_eq_true rfl) (Nat.le_of_ble_eq_true rfl) (Nat.le_of_ble_eq_true rfl) (Nat.le_of_ble_eq_true rfl) hlocks (fun t hvm h1 h2 => ⟨(), trivial, h, ⟨Nat.le_trans hS.1 h1, fun q h3 h4 => (h2 q (Nat.lt_of_lt_of_le h3 hS.1)).trans (hS.2.1 q h3 h4)⟩⟩) hS.2.2 (Nat.le_of_ble_eq_true rfl) (Nat.le_of_ble_eq_true rfl)
  refine lv_icmp_lt (tgt := 10) hx hb dX8_requireFromTo_2 (by decide) (fun c9 => ?_) (fun c9 => ?_)
  · have h := h.1 c9
    exact hJ10 _ _ _ hS (lv_sub hl [] rfl) h
  · have h := h.2 c9
    refine lv_iload_n hx hb dX8_requireFromTo_5 rfl (lv_at hl 0 rfl) ?_
    refine lv_iload_n hx hb dX8_requireFromTo_6 rfl (lv_at hl 2 rfl) ?_
    refine lv_icmp_le (tgt := 20) hx hb dX8_requireFromTo_7 (by decide) (fun c9 => ?_) (fun c9 => ?_)
    · have h := h.1 c9
      refine W.widen (k := 1) (n := 6) (Nat.le_of_ble_eq_true rfl) (Nat.le_of_ble_eq_true rfl) ?_
      refine vx_ret ?_
      exact W.vret hx hb hr (fun t ht hW => ⟨⟨(), rfl, h, trivial⟩, hS.F ht⟩) hS.2.2 dX8_requireFromTo_20
    · have h := h.2 c9
      exact hJ10 _ _ _ hS (lv_sub hl [] rfl) h

abbrev qX8_multiplier (D : va_G) (ca : Nat → ClassId) (a_t a_t_generator a_t_program a_t_costs a_t_history a_t_machine a_t_tidier a_t_listing a_t_program_operations a_t_program_firsts a_t_program_seconds : Nat) (t_program_width : Int32) (t_program_length : Int32) (t_program_result : Int32) (t_program_taskKind : Int32) (t_program_taskDivisor : Int32) (Q : Int32 → Prop) (A : Nat → Prop) : Array Value → State → Outcome → State → Prop := va_Qi (fun (r : Int32) (_ : Unit) => Q r) (wEnd D ca (fun _ : Unit => [(a_t, .inr (6, [.ref a_t_generator, .ref a_t_program, .ref a_t_costs, .ref a_t_history, .ref a_t_machine, .ref a_t_tidier, .ref a_t_listing])), (a_t_program, .inr (4, [.int t_program_width, .int t_program_length, .int t_program_result, .int t_program_taskKind, .int t_program_taskDivisor, .ref a_t_program_operations, .ref a_t_program_firsts, .ref a_t_program_seconds]))]) A) A
def wX8_multiplier (t_program_width : Int32) (x1 : Int32) (Q : Int32 → Prop) (QX : String → Prop) : Prop :=
  wX8_greatestValue t_program_width (fun r_3 => wX8_requireFromTo x1 1 r_3 (wX4_isPowerOfTwo x1 (fun r_10 => ((r_10 = 0 → wX4_leastShift t_program_width x1 0 (fun r_35 => wX4_multiplierFor t_program_width x1 r_35 (fun r_38 => Q r_38))) ∧ (¬ r_10 = 0 → Q 0)))) QX)
set_option maxHeartbeats 4000000 in
set_option maxRecDepth 100000 in
theorem mX8_multiplier (l : Launch) (hl0 : l.stackTraces = false) (D : va_G) (ca : Nat → ClassId) (a_t a_t_generator a_t_program a_t_costs a_t_history a_t_machine a_t_tidier a_t_listing a_t_program_operations a_t_program_firsts a_t_program_seconds : Nat) (sz : Nat) (t_program_width : Int32) (t_program_length : Int32) (t_program_result : Int32) (t_program_taskKind : Int32) (t_program_taskDivisor : Int32) (x1 : Int32) (Q : Int32 → Prop) (QX : String → Prop) (h : wX8_multiplier t_program_width x1 Q QX) : vx_Met l yX8_multiplier (Cond.code yX8_multiplier cX8_multiplier 2 (some .int) :: wsG) ({ frames := 7, cells := 1, slots := 6, locals := 112 } : Room) (va_Pc [.ref a_t, .int x1] (xPre D ca [(a_t, .inr (6, [.ref a_t_generator, .ref a_t_program, .ref a_t_costs, .ref a_t_history, .ref a_t_machine, .ref a_t_tidier, .ref a_t_listing])), (a_t_program, .inr (4, [.int t_program_width, .int t_program_length, .int t_program_result, .int t_program_taskKind, .int t_program_taskDivisor, .ref a_t_program_operations, .ref a_t_program_firsts, .ref a_t_program_seconds]))] sz)) (qX8_multiplier D ca a_t a_t_generator a_t_program a_t_costs a_t_history a_t_machine a_t_tidier a_t_listing a_t_program_operations a_t_program_firsts a_t_program_seconds t_program_width t_program_length t_program_result t_program_taskKind t_program_taskDivisor Q (va_A [(a_t, .inr (6, [.ref a_t_generator, .ref a_t_program, .ref a_t_costs, .ref a_t_history, .ref a_t_machine, .ref a_t_tidier, .ref a_t_listing])), (a_t_program, .inr (4, [.int t_program_width, .int t_program_length, .int t_program_result, .int t_program_taskKind, .int t_program_taskDivisor, .ref a_t_program_operations, .ref a_t_program_firsts, .ref a_t_program_seconds]))] sz)) (xEnd D ca [(a_t, .inr (6, [.ref a_t_generator, .ref a_t_program, .ref a_t_costs, .ref a_t_history, .ref a_t_machine, .ref a_t_tidier, .ref a_t_listing])), (a_t_program, .inr (4, [.int t_program_width, .int t_program_length, .int t_program_result, .int t_program_taskKind, .int t_program_taskDivisor, .ref a_t_program_operations, .ref a_t_program_firsts, .ref a_t_program_seconds]))] QX (va_A [(a_t, .inr (6, [.ref a_t_generator, .ref a_t_program, .ref a_t_costs, .ref a_t_history, .ref a_t_machine, .ref a_t_tidier, .ref a_t_listing])), (a_t_program, .inr (4, [.int t_program_width, .int t_program_length, .int t_program_result, .int t_program_taskKind, .int t_program_taskDivisor, .ref a_t_program_operations, .ref a_t_program_firsts, .ref a_t_program_seconds]))] sz)) 1 6 (va_A [(a_t, .inr (6, [.ref a_t_generator, .ref a_t_program, .ref a_t_costs, .ref a_t_history, .ref a_t_machine, .ref a_t_tidier, .ref a_t_listing])), (a_t_program, .inr (4, [.int t_program_width, .int t_program_length, .int t_program_result, .int t_program_taskKind, .int t_program_taskDivisor, .ref a_t_program_operations, .ref a_t_program_firsts, .ref a_t_program_seconds]))] sz) := by
  refine vx_ofW (cc := cX8_multiplier) (maxL := 2) (ret := (some .int)) (by decide) rfl ?_
  intro p e s m args below meth c s₁ B hml htab hv
  obtain ⟨rfl, ⟨hsz, hP, hK, hD0⟩, hX⟩ := hv
  have hx := B.exec
  have hb := B.bytes
  have hr := B.returns
  have hts := atoms_spec (ws := (Cond.code yX8_multiplier cX8_multiplier 2 (some .int) :: wsG)) B.pre
  have hq : ∀ w ∈ wsG, w.before _ s = true := fun w hw => hts w (List.mem_cons_of_mem _ hw)
  have hown : s.vm.findClass RX8 = some m.cls := findClass_of_methodNamed B.named
  have hlocks := B.notSynchronized
  subst hsz
  have hD := hD0.self (sz := s.heap.size)
  generalize hAe : va_A [(a_t, .inr (6, [.ref a_t_generator, .ref a_t_program, .ref a_t_costs, .ref a_t_history, .ref a_t_machine, .ref a_t_tidier, .ref a_t_listing])), (a_t_program, .inr (4, [.int t_program_width, .int t_program_length, .int t_program_result, .int t_program_taskKind, .int t_program_taskDivisor, .ref a_t_program_operations, .ref a_t_program_firsts, .ref a_t_program_seconds]))] s.heap.size = A at hD hX ⊢
  have hA : ∀ q : Nat, s.heap.size ≤ q → A q := fun q h => by rw [← hAe]; exact Or.inr h
  have hS : va_S A s.heap s.heap [] := va_S.rf
  have hP : va_P D vwCl [(a_t, .inr (6, [.ref a_t_generator, .ref a_t_program, .ref a_t_costs, .ref a_t_history, .ref a_t_machine, .ref a_t_tidier, .ref a_t_listing])), (a_t_program, .inr (4, [.int t_program_width, .int t_program_length, .int t_program_result, .int t_program_taskKind, .int t_program_taskDivisor, .ref a_t_program_operations, .ref a_t_program_firsts, .ref a_t_program_seconds]))] s.heap := hP
  have hl := lv_entry ([.ref a_t, .int x1]) (n := 2) (Nat.le_of_ble_eq_true rfl)
  rw [lg_entry_eq]
  generalize (lg_sl ([.ref a_t, .int x1]) ++ List.replicate (2 - (lg_sl ([.ref a_t, .int x1])).length) Slot.unset).toArray = ls at hl ⊢
  have hl : lv_has ls 2 [(0, .ref a_t), (1, .int x1)] := hl
  unfold wX8_multiplier at h
  refine lv_iload_n hx hb dX8_multiplier_0 rfl (lv_at hl 1 rfl) ?_
  refine lv_iconst (v := 1) hx hb dX8_multiplier_1 (by decide) ?_
  refine lv_aload_n hx hb dX8_multiplier_2 rfl (lv_at hl 0 rfl) ?_
  refine cVi (As := []) (rest := [.int 1, .int x1]) (wc := [(a_t, .inr (6, [.ref a_t_generator, .ref a_t_program, .ref a_t_costs, .ref a_t_history, .ref a_t_machine, .ref a_t_tidier, .ref a_t_listing])), (a_t_program, .inr (4, [.int t_program_width, .int t_program_length, .int t_program_result, .int t_program_taskKind, .int t_program_taskDivisor, .ref a_t_program_operations, .ref a_t_program_firsts, .ref a_t_program_seconds]))]) (wr := []) (w1 := fun _ : Unit => [(a_t, .inr (6, [.ref a_t_generator, .ref a_t_program, .ref a_t_costs, .ref a_t_history, .ref a_t_machine, .ref a_t_tidier, .ref a_t_listing])), (a_t_program, .inr (4, [.int t_program_width, .int t_program_length, .int t_program_result, .int t_program_taskKind, .int t_program_taskDivisor, .ref a_t_program_operations, .ref a_t_program_firsts, .ref a_t_program_seconds]))]) (ws2 := fun _ : Unit => [(a_t, .inr (6, [.ref a_t_generator, .ref a_t_program, .ref a_t_costs, .ref a_t_history, .ref a_t_machine, .ref a_t_tidier, .ref a_t_listing])), (a_t_program, .inr (4, [.int t_program_width, .int t_program_length, .int t_program_result, .int t_program_taskKind, .int t_program_taskDivisor, .ref a_t_program_operations, .ref a_t_program_firsts, .ref a_t_program_seconds]))]) ⟨hx, hb, hml, hown, hts⟩ (mX8_greatestValue l D ca a_t a_t_generator a_t_program a_t_costs a_t_history a_t_machine a_t_tidier a_t_listing a_t_program_operations a_t_program_firsts a_t_program_seconds _ t_program_width t_program_length t_program_result t_program_taskKind t_program_taskDivisor _ h) (cwV 0 hts (gV q_388 q_390 qs_5 q_1 q_391) rfl rfl rfl (by decide +kernel) ⟨Nat.le_of_ble_eq_true rfl, Nat.le_of_ble_eq_true rfl⟩) hK hP hD hS hA [0, 1] [] [0, 1] rfl rfl rfl (by decide) (fun _ => rfl) (ci := 6) (q0 := 0) rfl rfl rfl hl.1 rfl (Nat.le_of_ble_eq_true rfl) dX8_multiplier_3 ⟨Nat.le_of_ble_eq_true rfl, Nat.le_of_ble_eq_true rfl⟩ (fun r_3 u9 H locs h hP hD hS => ?_)
  try dsimp only at h
  refine xPv (As := [.int x1, .int 1, .int r_3]) (rest := []) ⟨hx, hb, hml, hown, hts⟩ (mX8_requireFromTo l hl0 x1 1 r_3 _ _ h) (va_cwS 3 hts (gS q_392 q_393 q_1 q_394) rfl rfl rfl (by decide +kernel) ⟨Nat.le_of_ble_eq_true rfl, Nat.le_of_ble_eq_true rfl⟩) hX hS rfl hl.1 rfl (Nat.le_of_ble_eq_true rfl) dX8_multiplier_6 ⟨Nat.le_of_ble_eq_true rfl, Nat.le_of_ble_eq_true rfl⟩ (fun E ce q9 H1 locs hE hk1 hS h1 h2 h3 => x_out htab hlocks hK (s_back hP hk1) hD hS hE h1 h2 h3 (Nat.le_of_ble_eq_true rfl) (Nat.le_of_ble_eq_true rfl)) (fun H1 locs h hk1 hS => ?_)
  have hP := s_back hP hk1
  try dsimp only at h
  refine lv_iload_n hx hb dX8_multiplier_9 rfl (lv_at hl 1 rfl) ?_
  refine cPi (As := [.int x1]) (rest := []) ⟨hx, hb, hml, hown, hts⟩ (mX4_isPowerOfTwo l x1 _ h) (va_cwS 1 hts (gS q_396 q_397 q_16 q_398) rfl rfl rfl (by decide +kernel) ⟨Nat.le_of_ble_eq_true rfl, Nat.le_of_ble_eq_true rfl⟩) hS rfl hl.1 rfl (Nat.le_of_ble_eq_true rfl) dX8_multiplier_10 ⟨Nat.le_of_ble_eq_true rfl, Nat.le_of_ble_eq_true rfl⟩ (fun r_10 H1 locs h hk1 hS => ?_)
  have hP := s_back hP hk1
  try dsimp only at h
  refine lv_if_eq (tgt := 18) hx hb dX8_multiplier_13 (by decide) (fun c9 => ?_) (fun c9 => ?_)
  · have h := h.1 c9
    refine lv_aload_n hx hb dX8_multiplier_18 rfl (lv_at hl 0 rfl) ?_
    refine va_get (D := D) (ci := 6) (v := .ref a_t_program) (C := RX8) (T := TX8) (N := 7) hx hb hq inX8g hown hK hP 0 rfl rfl 1 (by decide) (hq _ q_170) (fun _ h9 => h9) rfl dX8_multiplier_19 ?_
    refine va_get (D := D) (ci := 4) (v := .int t_program_width) (C := RX5) (T := TX5) (N := 8) hx hb hq inX5g hown hK hP 1 rfl rfl 0 (by decide) (hq _ q_45) (fun _ h9 => h9) rfl dX8_multiplier_22 ?_
    refine lv_iload_n hx hb dX8_multiplier_25 rfl (lv_at hl 1 rfl) ?_
    refine lv_aload_n hx hb dX8_multiplier_26 rfl (lv_at hl 0 rfl) ?_
    refine va_get (D := D) (ci := 6) (v := .ref a_t_program) (C := RX8) (T := TX8) (N := 7) hx hb hq inX8g hown hK hP 0 rfl rfl 1 (by decide) (hq _ q_170) (fun _ h9 => h9) rfl dX8_multiplier_27 ?_
    refine va_get (D := D) (ci := 4) (v := .int t_program_width) (C := RX5) (T := TX5) (N := 8) hx hb hq inX5g hown hK hP 1 rfl rfl 0 (by decide) (hq _ q_45) (fun _ h9 => h9) rfl dX8_multiplier_30 ?_
    refine lv_iload_n hx hb dX8_multiplier_33 rfl (lv_at hl 1 rfl) ?_
    refine lv_iconst (v := 0) hx hb dX8_multiplier_34 (by decide) ?_
    refine cPi (As := [.int t_program_width, .int x1, .int 0]) (rest := [.int x1, .int t_program_width]) ⟨hx, hb, hml, hown, hts⟩ (mX4_leastShift l t_program_width x1 0 _ h) (va_cwS 3 hts (gS q_399 q_400 q_16 q_401) rfl rfl rfl (by decide +kernel) ⟨Nat.le_of_ble_eq_true rfl, Nat.le_of_ble_eq_true rfl⟩) hS rfl hl.1 rfl (Nat.le_of_ble_eq_true rfl) dX8_multiplier_35 ⟨Nat.le_of_ble_eq_true rfl, Nat.le_of_ble_eq_true rfl⟩ (fun r_35 H1 locs h hk1 hS => ?_)
    have hP := s_back hP hk1
    try dsimp only at h
    refine cPi (As := [.int t_program_width, .int x1, .int r_35]) (rest := []) ⟨hx, hb, hml, hown, hts⟩ (mX4_multiplierFor l t_program_width x1 r_35 _ h) (va_cwS 3 hts (gS q_405 q_406 q_16 q_407) rfl rfl rfl (by decide +kernel) ⟨Nat.le_of_ble_eq_true rfl, Nat.le_of_ble_eq_true rfl⟩) hS rfl hl.1 rfl (Nat.le_of_ble_eq_true rfl) dX8_multiplier_38 ⟨Nat.le_of_ble_eq_true rfl, Nat.le_of_ble_eq_true rfl⟩ (fun r_38 H1 locs h hk1 hS => ?_)
    have hP := s_back hP hk1
    try dsimp only at h
    refine W.widen (k := 1) (n := 6) (Nat.le_of_ble_eq_true rfl) (Nat.le_of_ble_eq_true rfl) ?_
    refine vx_ret ?_
    exact W.iret (v := r_38) hx hb hr (fun t ht hW => ⟨⟨r_38, (), rfl, h, by rw [ht]; exact hP, va_K.moved hW.alike hK, hD⟩, hS.F ht⟩) hS.2.2 dX8_multiplier_41
  · have h := h.2 c9
    refine lv_iconst (v := 0) hx hb dX8_multiplier_16 (by decide) ?_
    refine W.widen (k := 1) (n := 6) (Nat.le_of_ble_eq_true rfl) (Nat.le_of_ble_eq_true rfl) ?_
    refine vx_ret ?_
    exact W.iret (v := 0) hx hb hr (fun t ht hW => ⟨⟨0, (), rfl, h, by rw [ht]; exact hP, va_K.moved hW.alike hK, hD⟩, hS.F ht⟩) hS.2.2 dX8_multiplier_17

abbrev qX8_shift (D : va_G) (ca : Nat → ClassId) (a_t a_t_generator a_t_program a_t_costs a_t_history a_t_machine a_t_tidier a_t_listing a_t_program_operations a_t_program_firsts a_t_program_seconds : Nat) (t_program_width : Int32) (t_program_length : Int32) (t_program_result : Int32) (t_program_taskKind : Int32) (t_program_taskDivisor : Int32) (Q : Int32 → Prop) (A : Nat → Prop) : Array Value → State → Outcome → State → Prop := va_Qi (fun (r : Int32) (_ : Unit) => Q r) (wEnd D ca (fun _ : Unit => [(a_t, .inr (6, [.ref a_t_generator, .ref a_t_program, .ref a_t_costs, .ref a_t_history, .ref a_t_machine, .ref a_t_tidier, .ref a_t_listing])), (a_t_program, .inr (4, [.int t_program_width, .int t_program_length, .int t_program_result, .int t_program_taskKind, .int t_program_taskDivisor, .ref a_t_program_operations, .ref a_t_program_firsts, .ref a_t_program_seconds]))]) A) A
def wX8_shift (t_program_width : Int32) (x1 : Int32) (Q : Int32 → Prop) (QX : String → Prop) : Prop :=
  wX8_greatestValue t_program_width (fun r_3 => wX8_requireFromTo x1 1 r_3 (wX4_isPowerOfTwo x1 (fun r_10 => ((r_10 = 0 → wX4_leastShift t_program_width x1 0 (fun r_30 => Q r_30)) ∧ (¬ r_10 = 0 → wJ6_numberOfTrailingZeros_0f7a4 x1 (fun r_17 => Q r_17))))) QX)
set_option maxHeartbeats 4000000 in
set_option maxRecDepth 100000 in
theorem mX8_shift (l : Launch) (hl0 : l.stackTraces = false) (D : va_G) (ca : Nat → ClassId) (a_t a_t_generator a_t_program a_t_costs a_t_history a_t_machine a_t_tidier a_t_listing a_t_program_operations a_t_program_firsts a_t_program_seconds : Nat) (sz : Nat) (t_program_width : Int32) (t_program_length : Int32) (t_program_result : Int32) (t_program_taskKind : Int32) (t_program_taskDivisor : Int32) (x1 : Int32) (Q : Int32 → Prop) (QX : String → Prop) (h : wX8_shift t_program_width x1 Q QX) : vx_Met l yX8_shift (Cond.code yX8_shift cX8_shift 2 (some .int) :: wsG) ({ frames := 7, cells := 1, slots := 6, locals := 112 } : Room) (va_Pc [.ref a_t, .int x1] (xPre D ca [(a_t, .inr (6, [.ref a_t_generator, .ref a_t_program, .ref a_t_costs, .ref a_t_history, .ref a_t_machine, .ref a_t_tidier, .ref a_t_listing])), (a_t_program, .inr (4, [.int t_program_width, .int t_program_length, .int t_program_result, .int t_program_taskKind, .int t_program_taskDivisor, .ref a_t_program_operations, .ref a_t_program_firsts, .ref a_t_program_seconds]))] sz)) (qX8_shift D ca a_t a_t_generator a_t_program a_t_costs a_t_history a_t_machine a_t_tidier a_t_listing a_t_program_operations a_t_program_firsts a_t_program_seconds t_program_width t_program_length t_program_result t_program_taskKind t_program_taskDivisor Q (va_A [(a_t, .inr (6, [.ref a_t_generator, .ref a_t_program, .ref a_t_costs, .ref a_t_history, .ref a_t_machine, .ref a_t_tidier, .ref a_t_listing])), (a_t_program, .inr (4, [.int t_program_width, .int t_program_length, .int t_program_result, .int t_program_taskKind, .int t_program_taskDivisor, .ref a_t_program_operations, .ref a_t_program_firsts, .ref a_t_program_seconds]))] sz)) (xEnd D ca [(a_t, .inr (6, [.ref a_t_generator, .ref a_t_program, .ref a_t_costs, .ref a_t_history, .ref a_t_machine, .ref a_t_tidier, .ref a_t_listing])), (a_t_program, .inr (4, [.int t_program_width, .int t_program_length, .int t_program_result, .int t_program_taskKind, .int t_program_taskDivisor, .ref a_t_program_operations, .ref a_t_program_firsts, .ref a_t_program_seconds]))] QX (va_A [(a_t, .inr (6, [.ref a_t_generator, .ref a_t_program, .ref a_t_costs, .ref a_t_history, .ref a_t_machine, .ref a_t_tidier, .ref a_t_listing])), (a_t_program, .inr (4, [.int t_program_width, .int t_program_length, .int t_program_result, .int t_program_taskKind, .int t_program_taskDivisor, .ref a_t_program_operations, .ref a_t_program_firsts, .ref a_t_program_seconds]))] sz)) 1 6 (va_A [(a_t, .inr (6, [.ref a_t_generator, .ref a_t_program, .ref a_t_costs, .ref a_t_history, .ref a_t_machine, .ref a_t_tidier, .ref a_t_listing])), (a_t_program, .inr (4, [.int t_program_width, .int t_program_length, .int t_program_result, .int t_program_taskKind, .int t_program_taskDivisor, .ref a_t_program_operations, .ref a_t_program_firsts, .ref a_t_program_seconds]))] sz) := by
  refine vx_ofW (cc := cX8_shift) (maxL := 2) (ret := (some .int)) (by decide) rfl ?_
  intro p e s m args below meth c s₁ B hml htab hv
  obtain ⟨rfl, ⟨hsz, hP, hK, hD0⟩, hX⟩ := hv
  have hx := B.exec
  have hb := B.bytes
  have hr := B.returns
  have hts := atoms_spec (ws := (Cond.code yX8_shift cX8_shift 2 (some .int) :: wsG)) B.pre
  have hq : ∀ w ∈ wsG, w.before _ s = true := fun w hw => hts w (List.mem_cons_of_mem _ hw)
  have hown : s.vm.findClass RX8 = some m.cls := findClass_of_methodNamed B.named
  have hlocks := B.notSynchronized
  subst hsz
  have hD := hD0.self (sz := s.heap.size)
  generalize hAe : va_A [(a_t, .inr (6, [.ref a_t_generator, .ref a_t_program, .ref a_t_costs, .ref a_t_history, .ref a_t_machine, .ref a_t_tidier, .ref a_t_listing])), (a_t_program, .inr (4, [.int t_program_width, .int t_program_length, .int t_program_result, .int t_program_taskKind, .int t_program_taskDivisor, .ref a_t_program_operations, .ref a_t_program_firsts, .ref a_t_program_seconds]))] s.heap.size = A at hD hX ⊢
  have hA : ∀ q : Nat, s.heap.size ≤ q → A q := fun q h => by rw [← hAe]; exact Or.inr h
  have hS : va_S A s.heap s.heap [] := va_S.rf
  have hP : va_P D vwCl [(a_t, .inr (6, [.ref a_t_generator, .ref a_t_program, .ref a_t_costs, .ref a_t_history, .ref a_t_machine, .ref a_t_tidier, .ref a_t_listing])), (a_t_program, .inr (4, [.int t_program_width, .int t_program_length, .int t_program_result, .int t_program_taskKind, .int t_program_taskDivisor, .ref a_t_program_operations, .ref a_t_program_firsts, .ref a_t_program_seconds]))] s.heap := hP
  have hl := lv_entry ([.ref a_t, .int x1]) (n := 2) (Nat.le_of_ble_eq_true rfl)
  rw [lg_entry_eq]
  generalize (lg_sl ([.ref a_t, .int x1]) ++ List.replicate (2 - (lg_sl ([.ref a_t, .int x1])).length) Slot.unset).toArray = ls at hl ⊢
  have hl : lv_has ls 2 [(0, .ref a_t), (1, .int x1)] := hl
  unfold wX8_shift at h
  refine lv_iload_n hx hb dX8_shift_0 rfl (lv_at hl 1 rfl) ?_
  refine lv_iconst (v := 1) hx hb dX8_shift_1 (by decide) ?_
  refine lv_aload_n hx hb dX8_shift_2 rfl (lv_at hl 0 rfl) ?_
  refine cVi (As := []) (rest := [.int 1, .int x1]) (wc := [(a_t, .inr (6, [.ref a_t_generator, .ref a_t_program, .ref a_t_costs, .ref a_t_history, .ref a_t_machine, .ref a_t_tidier, .ref a_t_listing])), (a_t_program, .inr (4, [.int t_program_width, .int t_program_length, .int t_program_result, .int t_program_taskKind, .int t_program_taskDivisor, .ref a_t_program_operations, .ref a_t_program_firsts, .ref a_t_program_seconds]))]) (wr := []) (w1 := fun _ : Unit => [(a_t, .inr (6, [.ref a_t_generator, .ref a_t_program, .ref a_t_costs, .ref a_t_history, .ref a_t_machine, .ref a_t_tidier, .ref a_t_listing])), (a_t_program, .inr (4, [.int t_program_width, .int t_program_length, .int t_program_result, .int t_program_taskKind, .int t_program_taskDivisor, .ref a_t_program_operations, .ref a_t_program_firsts, .ref a_t_program_seconds]))]) (ws2 := fun _ : Unit => [(a_t, .inr (6, [.ref a_t_generator, .ref a_t_program, .ref a_t_costs, .ref a_t_history, .ref a_t_machine, .ref a_t_tidier, .ref a_t_listing])), (a_t_program, .inr (4, [.int t_program_width, .int t_program_length, .int t_program_result, .int t_program_taskKind, .int t_program_taskDivisor, .ref a_t_program_operations, .ref a_t_program_firsts, .ref a_t_program_seconds]))]) ⟨hx, hb, hml, hown, hts⟩ (mX8_greatestValue l D ca a_t a_t_generator a_t_program a_t_costs a_t_history a_t_machine a_t_tidier a_t_listing a_t_program_operations a_t_program_firsts a_t_program_seconds _ t_program_width t_program_length t_program_result t_program_taskKind t_program_taskDivisor _ h) (cwV 0 hts (gV q_388 q_390 qs_5 q_1 q_391) rfl rfl rfl (by decide +kernel) ⟨Nat.le_of_ble_eq_true rfl, Nat.le_of_ble_eq_true rfl⟩) hK hP hD hS hA [0, 1] [] [0, 1] rfl rfl rfl (by decide) (fun _ => rfl) (ci := 6) (q0 := 0) rfl rfl rfl hl.1 rfl (Nat.le_of_ble_eq_true rfl) dX8_shift_3 ⟨Nat.le_of_ble_eq_true rfl, Nat.le_of_ble_eq_true rfl⟩ (fun r_3 u9 H locs h hP hD hS => ?_)
  try dsimp only at h
  refine xPv (As := [.int x1, .int 1, .int r_3]) (rest := []) ⟨hx, hb, hml, hown, hts⟩ (mX8_requireFromTo l hl0 x1 1 r_3 _ _ h) (va_cwS 3 hts (gS q_392 q_393 q_1 q_394) rfl rfl rfl (by decide +kernel) ⟨Nat.le_of_ble_eq_true rfl, Nat.le_of_ble_eq_true rfl⟩) hX hS rfl hl.1 rfl (Nat.le_of_ble_eq_true rfl) dX8_shift_6 ⟨Nat.le_of_ble_eq_true rfl, Nat.le_of_ble_eq_true rfl⟩ (fun E ce q9 H1 locs hE hk1 hS h1 h2 h3 => x_out htab hlocks hK (s_back hP hk1) hD hS hE h1 h2 h3 (Nat.le_of_ble_eq_true rfl) (Nat.le_of_ble_eq_true rfl)) (fun H1 locs h hk1 hS => ?_)
  have hP := s_back hP hk1
  try dsimp only at h
  refine lv_iload_n hx hb dX8_shift_9 rfl (lv_at hl 1 rfl) ?_
  refine cPi (As := [.int x1]) (rest := []) ⟨hx, hb, hml, hown, hts⟩ (mX4_isPowerOfTwo l x1 _ h) (va_cwS 1 hts (gS q_396 q_397 q_16 q_398) rfl rfl rfl (by decide +kernel) ⟨Nat.le_of_ble_eq_true rfl, Nat.le_of_ble_eq_true rfl⟩) hS rfl hl.1 rfl (Nat.le_of_ble_eq_true rfl) dX8_shift_10 ⟨Nat.le_of_ble_eq_true rfl, Nat.le_of_ble_eq_true rfl⟩ (fun r_10 H1 locs h hk1 hS => ?_)
  have hP := s_back hP hk1
  try dsimp only at h
  refine lv_if_eq (tgt := 21) hx hb dX8_shift_13 (by decide) (fun c9 => ?_) (fun c9 => ?_)
  · have h := h.1 c9
    refine lv_aload_n hx hb dX8_shift_21 rfl (lv_at hl 0 rfl) ?_
    refine va_get (D := D) (ci := 6) (v := .ref a_t_program) (C := RX8) (T := TX8) (N := 7) hx hb hq inX8g hown hK hP 0 rfl rfl 1 (by decide) (hq _ q_170) (fun _ h9 => h9) rfl dX8_shift_22 ?_
    refine va_get (D := D) (ci := 4) (v := .int t_program_width) (C := RX5) (T := TX5) (N := 8) hx hb hq inX5g hown hK hP 1 rfl rfl 0 (by decide) (hq _ q_45) (fun _ h9 => h9) rfl dX8_shift_25 ?_
    refine lv_iload_n hx hb dX8_shift_28 rfl (lv_at hl 1 rfl) ?_
    refine lv_iconst (v := 0) hx hb dX8_shift_29 (by decide) ?_
    refine cPi (As := [.int t_program_width, .int x1, .int 0]) (rest := []) ⟨hx, hb, hml, hown, hts⟩ (mX4_leastShift l t_program_width x1 0 _ h) (va_cwS 3 hts (gS q_399 q_400 q_16 q_401) rfl rfl rfl (by decide +kernel) ⟨Nat.le_of_ble_eq_true rfl, Nat.le_of_ble_eq_true rfl⟩) hS rfl hl.1 rfl (Nat.le_of_ble_eq_true rfl) dX8_shift_30 ⟨Nat.le_of_ble_eq_true rfl, Nat.le_of_ble_eq_true rfl⟩ (fun r_30 H1 locs h hk1 hS => ?_)
    have hP := s_back hP hk1
    try dsimp only at h
    refine W.widen (k := 1) (n := 6) (Nat.le_of_ble_eq_true rfl) (Nat.le_of_ble_eq_true rfl) ?_
    refine vx_ret ?_
    exact W.iret (v := r_30) hx hb hr (fun t ht hW => ⟨⟨r_30, (), rfl, h, by rw [ht]; exact hP, va_K.moved hW.alike hK, hD⟩, hS.F ht⟩) hS.2.2 dX8_shift_33
  · have h := h.2 c9
    refine lv_iload_n hx hb dX8_shift_16 rfl (lv_at hl 1 rfl) ?_
    refine cPi (As := [.int x1]) (rest := []) ⟨hx, hb, hml, hown, hts⟩ (mJ6_numberOfTrailingZeros_0f7a4 l x1 _ h) (va_cwS 1 hts (gS q_415 q_416 q_17 q_417) rfl rfl rfl (by decide +kernel) ⟨Nat.le_of_ble_eq_true rfl, Nat.le_of_ble_eq_true rfl⟩) hS rfl hl.1 rfl (Nat.le_of_ble_eq_true rfl) dX8_shift_17 ⟨Nat.le_of_ble_eq_true rfl, Nat.le_of_ble_eq_true rfl⟩ (fun r_17 H1 locs h hk1 hS => ?_)
    have hP := s_back hP hk1
    try dsimp only at h
    refine W.widen (k := 1) (n := 6) (Nat.le_of_ble_eq_true rfl) (Nat.le_of_ble_eq_true rfl) ?_
    refine vx_ret ?_
    exact W.iret (v := r_17) hx hb hr (fun t ht hW => ⟨⟨r_17, (), rfl, h, by rw [ht]; exact hP, va_K.moved hW.alike hK, hD⟩, hS.F ht⟩) hS.2.2 dX8_shift_20

abbrev qX8_signedMultiplier (D : va_G) (ca : Nat → ClassId) (a_t a_t_generator a_t_program a_t_costs a_t_history a_t_machine a_t_tidier a_t_listing a_t_program_operations a_t_program_firsts a_t_program_seconds : Nat) (t_program_width : Int32) (t_program_length : Int32) (t_program_result : Int32) (t_program_taskKind : Int32) (t_program_taskDivisor : Int32) (Q : Int32 → Prop) (A : Nat → Prop) : Array Value → State → Outcome → State → Prop := va_Qi (fun (r : Int32) (_ : Unit) => Q r) (wEnd D ca (fun _ : Unit => [(a_t, .inr (6, [.ref a_t_generator, .ref a_t_program, .ref a_t_costs, .ref a_t_history, .ref a_t_machine, .ref a_t_tidier, .ref a_t_listing])), (a_t_program, .inr (4, [.int t_program_width, .int t_program_length, .int t_program_result, .int t_program_taskKind, .int t_program_taskDivisor, .ref a_t_program_operations, .ref a_t_program_firsts, .ref a_t_program_seconds]))]) A) A
def wX8_signedMultiplier (t_program_width : Int32) (x1 : Int32) (Q : Int32 → Prop) (QX : String → Prop) : Prop :=
  wX8_greatestValue t_program_width (fun r_3 => wX8_requireFromTo x1 1 (r_3 >>> (1 &&& 31)) (wX4_isPowerOfTwo x1 (fun r_12 => ((r_12 = 0 → wX4_leastShift t_program_width x1 1 (fun r_37 => wX4_multiplierFor t_program_width x1 r_37 (fun r_40 => Q r_40))) ∧ (¬ r_12 = 0 → Q 0)))) QX)
set_option maxHeartbeats 4000000 in
set_option maxRecDepth 100000 in
theorem mX8_signedMultiplier (l : Launch) (hl0 : l.stackTraces = false) (D : va_G) (ca : Nat → ClassId) (a_t a_t_generator a_t_program a_t_costs a_t_history a_t_machine a_t_tidier a_t_listing a_t_program_operations a_t_program_firsts a_t_program_seconds : Nat) (sz : Nat) (t_program_width : Int32) (t_program_length : Int32) (t_program_result : Int32) (t_program_taskKind : Int32) (t_program_taskDivisor : Int32) (x1 : Int32) (Q : Int32 → Prop) (QX : String → Prop) (h : wX8_signedMultiplier t_program_width x1 Q QX) : vx_Met l yX8_signedMultiplier (Cond.code yX8_signedMultiplier cX8_signedMultiplier 2 (some .int) :: wsG) ({ frames := 7, cells := 1, slots := 6, locals := 112 } : Room) (va_Pc [.ref a_t, .int x1] (xPre D ca [(a_t, .inr (6, [.ref a_t_generator, .ref a_t_program, .ref a_t_costs, .ref a_t_history, .ref a_t_machine, .ref a_t_tidier, .ref a_t_listing])), (a_t_program, .inr (4, [.int t_program_width, .int t_program_length, .int t_program_result, .int t_program_taskKind, .int t_program_taskDivisor, .ref a_t_program_operations, .ref a_t_program_firsts, .ref a_t_program_seconds]))] sz)) (qX8_signedMultiplier D ca a_t a_t_generator a_t_program a_t_costs a_t_history a_t_machine a_t_tidier a_t_listing a_t_program_operations a_t_program_firsts a_t_program_seconds t_program_width t_program_length t_program_result t_program_taskKind t_program_taskDivisor Q (va_A [(a_t, .inr (6, [.ref a_t_generator, .ref a_t_program, .ref a_t_costs, .ref a_t_history, .ref a_t_machine, .ref a_t_tidier, .ref a_t_listing])), (a_t_program, .inr (4, [.int t_program_width, .int t_program_length, .int t_program_result, .int t_program_taskKind, .int t_program_taskDivisor, .ref a_t_program_operations, .ref a_t_program_firsts, .ref a_t_program_seconds]))] sz)) (xEnd D ca [(a_t, .inr (6, [.ref a_t_generator, .ref a_t_program, .ref a_t_costs, .ref a_t_history, .ref a_t_machine, .ref a_t_tidier, .ref a_t_listing])), (a_t_program, .inr (4, [.int t_program_width, .int t_program_length, .int t_program_result, .int t_program_taskKind, .int t_program_taskDivisor, .ref a_t_program_operations, .ref a_t_program_firsts, .ref a_t_program_seconds]))] QX (va_A [(a_t, .inr (6, [.ref a_t_generator, .ref a_t_program, .ref a_t_costs, .ref a_t_history, .ref a_t_machine, .ref a_t_tidier, .ref a_t_listing])), (a_t_program, .inr (4, [.int t_program_width, .int t_program_length, .int t_program_result, .int t_program_taskKind, .int t_program_taskDivisor, .ref a_t_program_operations, .ref a_t_program_firsts, .ref a_t_program_seconds]))] sz)) 1 6 (va_A [(a_t, .inr (6, [.ref a_t_generator, .ref a_t_program, .ref a_t_costs, .ref a_t_history, .ref a_t_machine, .ref a_t_tidier, .ref a_t_listing])), (a_t_program, .inr (4, [.int t_program_width, .int t_program_length, .int t_program_result, .int t_program_taskKind, .int t_program_taskDivisor, .ref a_t_program_operations, .ref a_t_program_firsts, .ref a_t_program_seconds]))] sz) := by
  refine vx_ofW (cc := cX8_signedMultiplier) (maxL := 2) (ret := (some .int)) (by decide) rfl ?_
  intro p e s m args below meth c s₁ B hml htab hv
  obtain ⟨rfl, ⟨hsz, hP, hK, hD0⟩, hX⟩ := hv
  have hx := B.exec
  have hb := B.bytes
  have hr := B.returns
  have hts := atoms_spec (ws := (Cond.code yX8_signedMultiplier cX8_signedMultiplier 2 (some .int) :: wsG)) B.pre
  have hq : ∀ w ∈ wsG, w.before _ s = true := fun w hw => hts w (List.mem_cons_of_mem _ hw)
  have hown : s.vm.findClass RX8 = some m.cls := findClass_of_methodNamed B.named
  have hlocks := B.notSynchronized
  subst hsz
  have hD := hD0.self (sz := s.heap.size)
  generalize hAe : va_A [(a_t, .inr (6, [.ref a_t_generator, .ref a_t_program, .ref a_t_costs, .ref a_t_history, .ref a_t_machine, .ref a_t_tidier, .ref a_t_listing])), (a_t_program, .inr (4, [.int t_program_width, .int t_program_length, .int t_program_result, .int t_program_taskKind, .int t_program_taskDivisor, .ref a_t_program_operations, .ref a_t_program_firsts, .ref a_t_program_seconds]))] s.heap.size = A at hD hX ⊢
  have hA : ∀ q : Nat, s.heap.size ≤ q → A q := fun q h => by rw [← hAe]; exact Or.inr h
  have hS : va_S A s.heap s.heap [] := va_S.rf
  have hP : va_P D vwCl [(a_t, .inr (6, [.ref a_t_generator, .ref a_t_program, .ref a_t_costs, .ref a_t_history, .ref a_t_machine, .ref a_t_tidier, .ref a_t_listing])), (a_t_program, .inr (4, [.int t_program_width, .int t_program_length, .int t_program_result, .int t_program_taskKind, .int t_program_taskDivisor, .ref a_t_program_operations, .ref a_t_program_firsts, .ref a_t_program_seconds]))] s.heap := hP
  have hl := lv_entry ([.ref a_t, .int x1]) (n := 2) (Nat.le_of_ble_eq_true rfl)
  rw [lg_entry_eq]
  generalize (lg_sl ([.ref a_t, .int x1]) ++ List.replicate (2 - (lg_sl ([.ref a_t, .int x1])).length) Slot.unset).toArray = ls at hl ⊢
  have hl : lv_has ls 2 [(0, .ref a_t), (1, .int x1)] := hl
  unfold wX8_signedMultiplier at h
  refine lv_iload_n hx hb dX8_signedMultiplier_0 rfl (lv_at hl 1 rfl) ?_
  refine lv_iconst (v := 1) hx hb dX8_signedMultiplier_1 (by decide) ?_
  refine lv_aload_n hx hb dX8_signedMultiplier_2 rfl (lv_at hl 0 rfl) ?_
  refine cVi (As := []) (rest := [.int 1, .int x1]) (wc := [(a_t, .inr (6, [.ref a_t_generator, .ref a_t_program, .ref a_t_costs, .ref a_t_history, .ref a_t_machine, .ref a_t_tidier, .ref a_t_listing])), (a_t_program, .inr (4, [.int t_program_width, .int t_program_length, .int t_program_result, .int t_program_taskKind, .int t_program_taskDivisor, .ref a_t_program_operations, .ref a_t_program_firsts, .ref a_t_program_seconds]))]) (wr := []) (w1 := fun _ : Unit => [(a_t, .inr (6, [.ref a_t_generator, .ref a_t_program, .ref a_t_costs, .ref a_t_history, .ref a_t_machine, .ref a_t_tidier, .ref a_t_listing])), (a_t_program, .inr (4, [.int t_program_width, .int t_program_length, .int t_program_result, .int t_program_taskKind, .int t_program_taskDivisor, .ref a_t_program_operations, .ref a_t_program_firsts, .ref a_t_program_seconds]))]) (ws2 := fun _ : Unit => [(a_t, .inr (6, [.ref a_t_generator, .ref a_t_program, .ref a_t_costs, .ref a_t_history, .ref a_t_machine, .ref a_t_tidier, .ref a_t_listing])), (a_t_program, .inr (4, [.int t_program_width, .int t_program_length, .int t_program_result, .int t_program_taskKind, .int t_program_taskDivisor, .ref a_t_program_operations, .ref a_t_program_firsts, .ref a_t_program_seconds]))]) ⟨hx, hb, hml, hown, hts⟩ (mX8_greatestValue l D ca a_t a_t_generator a_t_program a_t_costs a_t_history a_t_machine a_t_tidier a_t_listing a_t_program_operations a_t_program_firsts a_t_program_seconds _ t_program_width t_program_length t_program_result t_program_taskKind t_program_taskDivisor _ h) (cwV 0 hts (gV q_388 q_390 qs_5 q_1 q_391) rfl rfl rfl (by decide +kernel) ⟨Nat.le_of_ble_eq_true rfl, Nat.le_of_ble_eq_true rfl⟩) hK hP hD hS hA [0, 1] [] [0, 1] rfl rfl rfl (by decide) (fun _ => rfl) (ci := 6) (q0 := 0) rfl rfl rfl hl.1 rfl (Nat.le_of_ble_eq_true rfl) dX8_signedMultiplier_3 ⟨Nat.le_of_ble_eq_true rfl, Nat.le_of_ble_eq_true rfl⟩ (fun r_3 u9 H locs h hP hD hS => ?_)
  try dsimp only at h
  refine lv_iconst (v := 1) hx hb dX8_signedMultiplier_6 (by decide) ?_
  refine lv_ishr hx hb dX8_signedMultiplier_7 ?_
  refine xPv (As := [.int x1, .int 1, .int (r_3 >>> (1 &&& 31))]) (rest := []) ⟨hx, hb, hml, hown, hts⟩ (mX8_requireFromTo l hl0 x1 1 (r_3 >>> (1 &&& 31)) _ _ h) (va_cwS 3 hts (gS q_392 q_393 q_1 q_394) rfl rfl rfl (by decide +kernel) ⟨Nat.le_of_ble_eq_true rfl, Nat.le_of_ble_eq_true rfl⟩) hX hS rfl hl.1 rfl (Nat.le_of_ble_eq_true rfl) dX8_signedMultiplier_8 ⟨Nat.le_of_ble_eq_true rfl, Nat.le_of_ble_eq_true rfl⟩ (fun E ce q9 H1 locs hE hk1 hS h1 h2 h3 => x_out htab hlocks hK (s_back hP hk1) hD hS hE h1 h2 h3 (Nat.le_of_ble_eq_true rfl) (Nat.le_of_ble_eq_true rfl)) (fun H1 locs h hk1 hS => ?_)
  have hP := s_back hP hk1
  try dsimp only at h
  refine lv_iload_n hx hb dX8_signedMultiplier_11 rfl (lv_at hl 1 rfl) ?_
  refine cPi (As := [.int x1]) (rest := []) ⟨hx, hb, hml, hown, hts⟩ (mX4_isPowerOfTwo l x1 _ h) (va_cwS 1 hts (gS q_396 q_397 q_16 q_398) rfl rfl rfl (by decide +kernel) ⟨Nat.le_of_ble_eq_true rfl, Nat.le_of_ble_eq_true rfl⟩) hS rfl hl.1 rfl (Nat.le_of_ble_eq_true rfl) dX8_signedMultiplier_12 ⟨Nat.le_of_ble_eq_true rfl, Nat.le_of_ble_eq_true rfl⟩ (fun r_12 H1 locs h hk1 hS => ?_)
  have hP := s_back hP hk1
  try dsimp only at h
  refine lv_if_eq (tgt := 20) hx hb dX8_signedMultiplier_15 (by decide) (fun c9 => ?_) (fun c9 => ?_)
  · have h := h.1 c9
    refine lv_aload_n hx hb dX8_signedMultiplier_20 rfl (lv_at hl 0 rfl) ?_
    refine va_get (D := D) (ci := 6) (v := .ref a_t_program) (C := RX8) (T := TX8) (N := 7) hx hb hq inX8g hown hK hP 0 rfl rfl 1 (by decide) (hq _ q_170) (fun _ h9 => h9) rfl dX8_signedMultiplier_21 ?_
    refine va_get (D := D) (ci := 4) (v := .int t_program_width) (C := RX5) (T := TX5) (N := 8) hx hb hq inX5g hown hK hP 1 rfl rfl 0 (by decide) (hq _ q_45) (fun _ h9 => h9) rfl dX8_signedMultiplier_24 ?_
    refine lv_iload_n hx hb dX8_signedMultiplier_27 rfl (lv_at hl 1 rfl) ?_
    refine lv_aload_n hx hb dX8_signedMultiplier_28 rfl (lv_at hl 0 rfl) ?_
    refine va_get (D := D) (ci := 6) (v := .ref a_t_program) (C := RX8) (T := TX8) (N := 7) hx hb hq inX8g hown hK hP 0 rfl rfl 1 (by decide) (hq _ q_170) (fun _ h9 => h9) rfl dX8_signedMultiplier_29 ?_
    refine va_get (D := D) (ci := 4) (v := .int t_program_width) (C := RX5) (T := TX5) (N := 8) hx hb hq inX5g hown hK hP 1 rfl rfl 0 (by decide) (hq _ q_45) (fun _ h9 => h9) rfl dX8_signedMultiplier_32 ?_
    refine lv_iload_n hx hb dX8_signedMultiplier_35 rfl (lv_at hl 1 rfl) ?_
    refine lv_iconst (v := 1) hx hb dX8_signedMultiplier_36 (by decide) ?_
    refine cPi (As := [.int t_program_width, .int x1, .int 1]) (rest := [.int x1, .int t_program_width]) ⟨hx, hb, hml, hown, hts⟩ (mX4_leastShift l t_program_width x1 1 _ h) (va_cwS 3 hts (gS q_399 q_400 q_16 q_401) rfl rfl rfl (by decide +kernel) ⟨Nat.le_of_ble_eq_true rfl, Nat.le_of_ble_eq_true rfl⟩) hS rfl hl.1 rfl (Nat.le_of_ble_eq_true rfl) dX8_signedMultiplier_37 ⟨Nat.le_of_ble_eq_true rfl, Nat.le_of_ble_eq_true rfl⟩ (fun r_37 H1 locs h hk1 hS => ?_)
    have hP := s_back hP hk1
    try dsimp only at h
    refine cPi (As := [.int t_program_width, .int x1, .int r_37]) (rest := []) ⟨hx, hb, hml, hown, hts⟩ (mX4_multiplierFor l t_program_width x1 r_37 _ h) (va_cwS 3 hts (gS q_405 q_406 q_16 q_407) rfl rfl rfl (by decide +kernel) ⟨Nat.le_of_ble_eq_true rfl, Nat.le_of_ble_eq_true rfl⟩) hS rfl hl.1 rfl (Nat.le_of_ble_eq_true rfl) dX8_signedMultiplier_40 ⟨Nat.le_of_ble_eq_true rfl, Nat.le_of_ble_eq_true rfl⟩ (fun r_40 H1 locs h hk1 hS => ?_)
    have hP := s_back hP hk1
    try dsimp only at h
    refine W.widen (k := 1) (n := 6) (Nat.le_of_ble_eq_true rfl) (Nat.le_of_ble_eq_true rfl) ?_
    refine vx_ret ?_
    exact W.iret (v := r_40) hx hb hr (fun t ht hW => ⟨⟨r_40, (), rfl, h, by rw [ht]; exact hP, va_K.moved hW.alike hK, hD⟩, hS.F ht⟩) hS.2.2 dX8_signedMultiplier_43
  · have h := h.2 c9
    refine lv_iconst (v := 0) hx hb dX8_signedMultiplier_18 (by decide) ?_
    refine W.widen (k := 1) (n := 6) (Nat.le_of_ble_eq_true rfl) (Nat.le_of_ble_eq_true rfl) ?_
    refine vx_ret ?_
    exact W.iret (v := 0) hx hb hr (fun t ht hW => ⟨⟨0, (), rfl, h, by rw [ht]; exact hP, va_K.moved hW.alike hK, hD⟩, hS.F ht⟩) hS.2.2 dX8_signedMultiplier_19

abbrev qX8_inverse (D : va_G) (ca : Nat → ClassId) (a_t a_t_generator a_t_program a_t_costs a_t_history a_t_machine a_t_tidier a_t_listing a_t_program_operations a_t_program_firsts a_t_program_seconds : Nat) (t_program_width : Int32) (t_program_length : Int32) (t_program_result : Int32) (t_program_taskKind : Int32) (t_program_taskDivisor : Int32) (Q : Int32 → Prop) (A : Nat → Prop) : Array Value → State → Outcome → State → Prop := va_Qi (fun (r : Int32) (_ : Unit) => Q r) (wEnd D ca (fun _ : Unit => [(a_t, .inr (6, [.ref a_t_generator, .ref a_t_program, .ref a_t_costs, .ref a_t_history, .ref a_t_machine, .ref a_t_tidier, .ref a_t_listing])), (a_t_program, .inr (4, [.int t_program_width, .int t_program_length, .int t_program_result, .int t_program_taskKind, .int t_program_taskDivisor, .ref a_t_program_operations, .ref a_t_program_firsts, .ref a_t_program_seconds]))]) A) A
def wX8_inverse (t_program_width : Int32) (x1 : Int32) (Q : Int32 → Prop) (QX : String → Prop) : Prop :=
  wX8_greatestValue t_program_width (fun r_3 => wX8_requireFromTo x1 1 r_3 ((((x1 &&& 1) = 0 → QX xIA) ∧ (¬ (x1 &&& 1) = 0 → wX4_inverseOf x1 t_program_width (fun r_33 => Q r_33)))) QX)
set_option maxHeartbeats 4000000 in
set_option maxRecDepth 100000 in
theorem mX8_inverse (l : Launch) (hl0 : l.stackTraces = false) (D : va_G) (ca : Nat → ClassId) (a_t a_t_generator a_t_program a_t_costs a_t_history a_t_machine a_t_tidier a_t_listing a_t_program_operations a_t_program_firsts a_t_program_seconds : Nat) (sz : Nat) (t_program_width : Int32) (t_program_length : Int32) (t_program_result : Int32) (t_program_taskKind : Int32) (t_program_taskDivisor : Int32) (x1 : Int32) (Q : Int32 → Prop) (QX : String → Prop) (h : wX8_inverse t_program_width x1 Q QX) : vx_Met l yX8_inverse (Cond.code yX8_inverse cX8_inverse 2 (some .int) :: wsG) ({ frames := 7, cells := 2, slots := 12, locals := 112 } : Room) (va_Pc [.ref a_t, .int x1] (xPre D ca [(a_t, .inr (6, [.ref a_t_generator, .ref a_t_program, .ref a_t_costs, .ref a_t_history, .ref a_t_machine, .ref a_t_tidier, .ref a_t_listing])), (a_t_program, .inr (4, [.int t_program_width, .int t_program_length, .int t_program_result, .int t_program_taskKind, .int t_program_taskDivisor, .ref a_t_program_operations, .ref a_t_program_firsts, .ref a_t_program_seconds]))] sz)) (qX8_inverse D ca a_t a_t_generator a_t_program a_t_costs a_t_history a_t_machine a_t_tidier a_t_listing a_t_program_operations a_t_program_firsts a_t_program_seconds t_program_width t_program_length t_program_result t_program_taskKind t_program_taskDivisor Q (va_A [(a_t, .inr (6, [.ref a_t_generator, .ref a_t_program, .ref a_t_costs, .ref a_t_history, .ref a_t_machine, .ref a_t_tidier, .ref a_t_listing])), (a_t_program, .inr (4, [.int t_program_width, .int t_program_length, .int t_program_result, .int t_program_taskKind, .int t_program_taskDivisor, .ref a_t_program_operations, .ref a_t_program_firsts, .ref a_t_program_seconds]))] sz)) (xEnd D ca [(a_t, .inr (6, [.ref a_t_generator, .ref a_t_program, .ref a_t_costs, .ref a_t_history, .ref a_t_machine, .ref a_t_tidier, .ref a_t_listing])), (a_t_program, .inr (4, [.int t_program_width, .int t_program_length, .int t_program_result, .int t_program_taskKind, .int t_program_taskDivisor, .ref a_t_program_operations, .ref a_t_program_firsts, .ref a_t_program_seconds]))] QX (va_A [(a_t, .inr (6, [.ref a_t_generator, .ref a_t_program, .ref a_t_costs, .ref a_t_history, .ref a_t_machine, .ref a_t_tidier, .ref a_t_listing])), (a_t_program, .inr (4, [.int t_program_width, .int t_program_length, .int t_program_result, .int t_program_taskKind, .int t_program_taskDivisor, .ref a_t_program_operations, .ref a_t_program_firsts, .ref a_t_program_seconds]))] sz)) 2 12 (va_A [(a_t, .inr (6, [.ref a_t_generator, .ref a_t_program, .ref a_t_costs, .ref a_t_history, .ref a_t_machine, .ref a_t_tidier, .ref a_t_listing])), (a_t_program, .inr (4, [.int t_program_width, .int t_program_length, .int t_program_result, .int t_program_taskKind, .int t_program_taskDivisor, .ref a_t_program_operations, .ref a_t_program_firsts, .ref a_t_program_seconds]))] sz) := by
  refine vx_ofW (cc := cX8_inverse) (maxL := 2) (ret := (some .int)) (by decide) rfl ?_
  intro p e s m args below meth c s₁ B hml htab hv
  obtain ⟨rfl, ⟨hsz, hP, hK, hD0⟩, hX⟩ := hv
  have hx := B.exec
  have hb := B.bytes
  have hr := B.returns
  have hts := atoms_spec (ws := (Cond.code yX8_inverse cX8_inverse 2 (some .int) :: wsG)) B.pre
  have hq : ∀ w ∈ wsG, w.before _ s = true := fun w hw => hts w (List.mem_cons_of_mem _ hw)
  have hown : s.vm.findClass RX8 = some m.cls := findClass_of_methodNamed B.named
  have hlocks := B.notSynchronized
  subst hsz
  have hD := hD0.self (sz := s.heap.size)
  generalize hAe : va_A [(a_t, .inr (6, [.ref a_t_generator, .ref a_t_program, .ref a_t_costs, .ref a_t_history, .ref a_t_machine, .ref a_t_tidier, .ref a_t_listing])), (a_t_program, .inr (4, [.int t_program_width, .int t_program_length, .int t_program_result, .int t_program_taskKind, .int t_program_taskDivisor, .ref a_t_program_operations, .ref a_t_program_firsts, .ref a_t_program_seconds]))] s.heap.size = A at hD hX ⊢
  have hA : ∀ q : Nat, s.heap.size ≤ q → A q := fun q h => by rw [← hAe]; exact Or.inr h
  have hS : va_S A s.heap s.heap [] := va_S.rf
  have hP : va_P D vwCl [(a_t, .inr (6, [.ref a_t_generator, .ref a_t_program, .ref a_t_costs, .ref a_t_history, .ref a_t_machine, .ref a_t_tidier, .ref a_t_listing])), (a_t_program, .inr (4, [.int t_program_width, .int t_program_length, .int t_program_result, .int t_program_taskKind, .int t_program_taskDivisor, .ref a_t_program_operations, .ref a_t_program_firsts, .ref a_t_program_seconds]))] s.heap := hP
  have hl := lv_entry ([.ref a_t, .int x1]) (n := 2) (Nat.le_of_ble_eq_true rfl)
  rw [lg_entry_eq]
  generalize (lg_sl ([.ref a_t, .int x1]) ++ List.replicate (2 - (lg_sl ([.ref a_t, .int x1])).length) Slot.unset).toArray = ls at hl ⊢
  have hl : lv_has ls 2 [(0, .ref a_t), (1, .int x1)] := hl
  unfold wX8_inverse at h
  refine lv_iload_n hx hb dX8_inverse_0 rfl (lv_at hl 1 rfl) ?_
  refine lv_iconst (v := 1) hx hb dX8_inverse_1 (by decide) ?_
  refine lv_aload_n hx hb dX8_inverse_2 rfl (lv_at hl 0 rfl) ?_
  refine cVi (As := []) (rest := [.int 1, .int x1]) (wc := [(a_t, .inr (6, [.ref a_t_generator, .ref a_t_program, .ref a_t_costs, .ref a_t_history, .ref a_t_machine, .ref a_t_tidier, .ref a_t_listing])), (a_t_program, .inr (4, [.int t_program_width, .int t_program_length, .int t_program_result, .int t_program_taskKind, .int t_program_taskDivisor, .ref a_t_program_operations, .ref a_t_program_firsts, .ref a_t_program_seconds]))]) (wr := []) (w1 := fun _ : Unit => [(a_t, .inr (6, [.ref a_t_generator, .ref a_t_program, .ref a_t_costs, .ref a_t_history, .ref a_t_machine, .ref a_t_tidier, .ref a_t_listing])), (a_t_program, .inr (4, [.int t_program_width, .int t_program_length, .int t_program_result, .int t_program_taskKind, .int t_program_taskDivisor, .ref a_t_program_operations, .ref a_t_program_firsts, .ref a_t_program_seconds]))]) (ws2 := fun _ : Unit => [(a_t, .inr (6, [.ref a_t_generator, .ref a_t_program, .ref a_t_costs, .ref a_t_history, .ref a_t_machine, .ref a_t_tidier, .ref a_t_listing])), (a_t_program, .inr (4, [.int t_program_width, .int t_program_length, .int t_program_result, .int t_program_taskKind, .int t_program_taskDivisor, .ref a_t_program_operations, .ref a_t_program_firsts, .ref a_t_program_seconds]))]) ⟨hx, hb, hml, hown, hts⟩ (mX8_greatestValue l D ca a_t a_t_generator a_t_program a_t_costs a_t_history a_t_machine a_t_tidier a_t_listing a_t_program_operations a_t_program_firsts a_t_program_seconds _ t_program_width t_program_length t_program_result t_program_taskKind t_program_taskDivisor _ h) (cwV 0 hts (gV q_388 q_390 qs_5 q_1 q_391) rfl rfl rfl (by decide +kernel) ⟨Nat.le_of_ble_eq_true rfl, Nat.le_of_ble_eq_true rfl⟩) hK hP hD hS hA [0, 1] [] [0, 1] rfl rfl rfl (by decide) (fun _ => rfl) (ci := 6) (q0 := 0) rfl rfl rfl hl.1 rfl (Nat.le_of_ble_eq_true rfl) dX8_inverse_3 ⟨Nat.le_of_ble_eq_true rfl, Nat.le_of_ble_eq_true rfl⟩ (fun r_3 u9 H locs h hP hD hS => ?_)
  try dsimp only at h
  refine xPv (As := [.int x1, .int 1, .int r_3]) (rest := []) ⟨hx, hb, hml, hown, hts⟩ (mX8_requireFromTo l hl0 x1 1 r_3 _ _ h) (va_cwS 3 hts (gS q_392 q_393 q_1 q_394) rfl rfl rfl (by decide +kernel) ⟨Nat.le_of_ble_eq_true rfl, Nat.le_of_ble_eq_true rfl⟩) hX hS rfl hl.1 rfl (Nat.le_of_ble_eq_true rfl) dX8_inverse_6 ⟨Nat.le_of_ble_eq_true rfl, Nat.le_of_ble_eq_true rfl⟩ (fun E ce q9 H1 locs hE hk1 hS h1 h2 h3 => x_out htab hlocks hK (s_back hP hk1) hD hS hE h1 h2 h3 (Nat.le_of_ble_eq_true rfl) (Nat.le_of_ble_eq_true rfl)) (fun H1 locs h hk1 hS => ?_)
  have hP := s_back hP hk1
  try dsimp only at h
  refine lv_iload_n hx hb dX8_inverse_9 rfl (lv_at hl 1 rfl) ?_
  refine lv_iconst (v := 1) hx hb dX8_inverse_10 (by decide) ?_
  refine lv_iand hx hb dX8_inverse_11 ?_
  refine lv_if_ne (tgt := 25) hx hb dX8_inverse_12 (by decide) (fun c9 => ?_) (fun c9 => ?_)
  · have h := h.2 c9
    refine lv_iload_n hx hb dX8_inverse_25 rfl (lv_at hl 1 rfl) ?_
    refine lv_aload_n hx hb dX8_inverse_26 rfl (lv_at hl 0 rfl) ?_
    refine va_get (D := D) (ci := 6) (v := .ref a_t_program) (C := RX8) (T := TX8) (N := 7) hx hb hq inX8g hown hK hP 0 rfl rfl 1 (by decide) (hq _ q_170) (fun _ h9 => h9) rfl dX8_inverse_27 ?_
    refine va_get (D := D) (ci := 4) (v := .int t_program_width) (C := RX5) (T := TX5) (N := 8) hx hb hq inX5g hown hK hP 1 rfl rfl 0 (by decide) (hq _ q_45) (fun _ h9 => h9) rfl dX8_inverse_30 ?_
    refine cPi (As := [.int x1, .int t_program_width]) (rest := []) ⟨hx, hb, hml, hown, hts⟩ (mX4_inverseOf l x1 t_program_width _ h) (va_cwS 2 hts (gS q_434 q_435 q_16 q_436) rfl rfl rfl (by decide +kernel) ⟨Nat.le_of_ble_eq_true rfl, Nat.le_of_ble_eq_true rfl⟩) hS rfl hl.1 rfl (Nat.le_of_ble_eq_true rfl) dX8_inverse_33 ⟨Nat.le_of_ble_eq_true rfl, Nat.le_of_ble_eq_true rfl⟩ (fun r_33 H1 locs h hk1 hS => ?_)
    have hP := s_back hP hk1
    try dsimp only at h
    refine W.widen (k := 2) (n := 12) (Nat.le_of_ble_eq_true rfl) (Nat.le_of_ble_eq_true rfl) ?_
    refine vx_ret ?_
    exact W.iret (v := r_33) hx hb hr (fun t ht hW => ⟨⟨r_33, (), rfl, h, by rw [ht]; exact hP, va_K.moved hW.alike hK, hD⟩, hS.F ht⟩) hS.2.2 dX8_inverse_36
  · have h := h.1 c9
    exact x_throw (nmx := xIA) (text := "an even number has no inverse") hx hb hl0 hown hX (by decide) (by decide) (hq _ q_284) (hq _ q_12) (xh_IA hq hX.2.2.1 hX.2.2.2.2.2.1) xg_IA hS (hl.1.trans hml.symm) dX8_inverse_15 dX8_inverse_18 dX8_inverse_19 dX8_inverse_21 dX8_inverse_24 htab (Nat.le_of_ble_eq_true rfl) (Nat.le_of_ble_eq_true rfl) (Nat.le_of_ble_eq_true rfl) (Nat.le_of_ble_eq_true rfl) hlocks (fun t hvm h1 h2 => ⟨(), trivial, ⟨h, fun k q h3 => (hP k q h3).kept (h2 q.1 (hP k q h3).lt), va_K.moved hvm hK, hD⟩, ⟨Nat.le_trans hS.1 h1, fun q h3 h4 => (h2 q (Nat.lt_of_lt_of_le h3 hS.1)).trans (hS.2.1 q h3 h4)⟩⟩) hS.2.2 (Nat.le_of_ble_eq_true rfl) (Nat.le_of_ble_eq_true rfl)

abbrev qX8_digits (D : va_G) (ca : Nat → ClassId) (a_t a_t_generator a_t_program a_t_costs a_t_history a_t_machine a_t_tidier a_t_listing a_t_program_operations a_t_program_firsts a_t_program_seconds : Nat) (t_program_width : Int32) (t_program_length : Int32) (t_program_result : Int32) (t_program_taskKind : Int32) (t_program_taskDivisor : Int32) (Q : Int32 → Prop) (A : Nat → Prop) : Array Value → State → Outcome → State → Prop := va_Qi (fun (r : Int32) (_ : Unit) => Q r) (wEnd D ca (fun _ : Unit => [(a_t, .inr (6, [.ref a_t_generator, .ref a_t_program, .ref a_t_costs, .ref a_t_history, .ref a_t_machine, .ref a_t_tidier, .ref a_t_listing])), (a_t_program, .inr (4, [.int t_program_width, .int t_program_length, .int t_program_result, .int t_program_taskKind, .int t_program_taskDivisor, .ref a_t_program_operations, .ref a_t_program_firsts, .ref a_t_program_seconds]))]) A) A
def wX8_digits (t_program_width : Int32) (x1 : Int32) (Q : Int32 → Prop) (QX : String → Prop) : Prop :=
  wX8_greatestValue t_program_width (fun r_3 => wX8_requireFromTo x1 0 r_3 (wX4_countDigits x1 t_program_width (fun r_17 => Q r_17)) QX)
set_option maxHeartbeats 4000000 in
set_option maxRecDepth 100000 in
theorem mX8_digits (l : Launch) (hl0 : l.stackTraces = false) (D : va_G) (ca : Nat → ClassId) (a_t a_t_generator a_t_program a_t_costs a_t_history a_t_machine a_t_tidier a_t_listing a_t_program_operations a_t_program_firsts a_t_program_seconds : Nat) (sz : Nat) (t_program_width : Int32) (t_program_length : Int32) (t_program_result : Int32) (t_program_taskKind : Int32) (t_program_taskDivisor : Int32) (x1 : Int32) (Q : Int32 → Prop) (QX : String → Prop) (h : wX8_digits t_program_width x1 Q QX) : vx_Met l yX8_digits (Cond.code yX8_digits cX8_digits 2 (some .int) :: wsG) ({ frames := 7, cells := 1, slots := 6, locals := 112 } : Room) (va_Pc [.ref a_t, .int x1] (xPre D ca [(a_t, .inr (6, [.ref a_t_generator, .ref a_t_program, .ref a_t_costs, .ref a_t_history, .ref a_t_machine, .ref a_t_tidier, .ref a_t_listing])), (a_t_program, .inr (4, [.int t_program_width, .int t_program_length, .int t_program_result, .int t_program_taskKind, .int t_program_taskDivisor, .ref a_t_program_operations, .ref a_t_program_firsts, .ref a_t_program_seconds]))] sz)) (qX8_digits D ca a_t a_t_generator a_t_program a_t_costs a_t_history a_t_machine a_t_tidier a_t_listing a_t_program_operations a_t_program_firsts a_t_program_seconds t_program_width t_program_length t_program_result t_program_taskKind t_program_taskDivisor Q (va_A [(a_t, .inr (6, [.ref a_t_generator, .ref a_t_program, .ref a_t_costs, .ref a_t_history, .ref a_t_machine, .ref a_t_tidier, .ref a_t_listing])), (a_t_program, .inr (4, [.int t_program_width, .int t_program_length, .int t_program_result, .int t_program_taskKind, .int t_program_taskDivisor, .ref a_t_program_operations, .ref a_t_program_firsts, .ref a_t_program_seconds]))] sz)) (xEnd D ca [(a_t, .inr (6, [.ref a_t_generator, .ref a_t_program, .ref a_t_costs, .ref a_t_history, .ref a_t_machine, .ref a_t_tidier, .ref a_t_listing])), (a_t_program, .inr (4, [.int t_program_width, .int t_program_length, .int t_program_result, .int t_program_taskKind, .int t_program_taskDivisor, .ref a_t_program_operations, .ref a_t_program_firsts, .ref a_t_program_seconds]))] QX (va_A [(a_t, .inr (6, [.ref a_t_generator, .ref a_t_program, .ref a_t_costs, .ref a_t_history, .ref a_t_machine, .ref a_t_tidier, .ref a_t_listing])), (a_t_program, .inr (4, [.int t_program_width, .int t_program_length, .int t_program_result, .int t_program_taskKind, .int t_program_taskDivisor, .ref a_t_program_operations, .ref a_t_program_firsts, .ref a_t_program_seconds]))] sz)) 1 6 (va_A [(a_t, .inr (6, [.ref a_t_generator, .ref a_t_program, .ref a_t_costs, .ref a_t_history, .ref a_t_machine, .ref a_t_tidier, .ref a_t_listing])), (a_t_program, .inr (4, [.int t_program_width, .int t_program_length, .int t_program_result, .int t_program_taskKind, .int t_program_taskDivisor, .ref a_t_program_operations, .ref a_t_program_firsts, .ref a_t_program_seconds]))] sz) := by
  refine vx_ofW (cc := cX8_digits) (maxL := 2) (ret := (some .int)) (by decide) rfl ?_
  intro p e s m args below meth c s₁ B hml htab hv
  obtain ⟨rfl, ⟨hsz, hP, hK, hD0⟩, hX⟩ := hv
  have hx := B.exec
  have hb := B.bytes
  have hr := B.returns
  have hts := atoms_spec (ws := (Cond.code yX8_digits cX8_digits 2 (some .int) :: wsG)) B.pre
  have hq : ∀ w ∈ wsG, w.before _ s = true := fun w hw => hts w (List.mem_cons_of_mem _ hw)
  have hown : s.vm.findClass RX8 = some m.cls := findClass_of_methodNamed B.named
  have hlocks := B.notSynchronized
  subst hsz
  have hD := hD0.self (sz := s.heap.size)
  generalize hAe : va_A [(a_t, .inr (6, [.ref a_t_generator, .ref a_t_program, .ref a_t_costs, .ref a_t_history, .ref a_t_machine, .ref a_t_tidier, .ref a_t_listing])), (a_t_program, .inr (4, [.int t_program_width, .int t_program_length, .int t_program_result, .int t_program_taskKind, .int t_program_taskDivisor, .ref a_t_program_operations, .ref a_t_program_firsts, .ref a_t_program_seconds]))] s.heap.size = A at hD hX ⊢
  have hA : ∀ q : Nat, s.heap.size ≤ q → A q := fun q h => by rw [← hAe]; exact Or.inr h
  have hS : va_S A s.heap s.heap [] := va_S.rf
  have hP : va_P D vwCl [(a_t, .inr (6, [.ref a_t_generator, .ref a_t_program, .ref a_t_costs, .ref a_t_history, .ref a_t_machine, .ref a_t_tidier, .ref a_t_listing])), (a_t_program, .inr (4, [.int t_program_width, .int t_program_length, .int t_program_result, .int t_program_taskKind, .int t_program_taskDivisor, .ref a_t_program_operations, .ref a_t_program_firsts, .ref a_t_program_seconds]))] s.heap := hP
  have hl := lv_entry ([.ref a_t, .int x1]) (n := 2) (Nat.le_of_ble_eq_true rfl)
  rw [lg_entry_eq]
  generalize (lg_sl ([.ref a_t, .int x1]) ++ List.replicate (2 - (lg_sl ([.ref a_t, .int x1])).length) Slot.unset).toArray = ls at hl ⊢
  have hl : lv_has ls 2 [(0, .ref a_t), (1, .int x1)] := hl
  unfold wX8_digits at h
  refine lv_iload_n hx hb dX8_digits_0 rfl (lv_at hl 1 rfl) ?_
  refine lv_iconst (v := 0) hx hb dX8_digits_1 (by decide) ?_
  refine lv_aload_n hx hb dX8_digits_2 rfl (lv_at hl 0 rfl) ?_
  refine cVi (As := []) (rest := [.int 0, .int x1]) (wc := [(a_t, .inr (6, [.ref a_t_generator, .ref a_t_program, .ref a_t_costs, .ref a_t_history, .ref a_t_machine, .ref a_t_tidier, .ref a_t_listing])), (a_t_program, .inr (4, [.int t_program_width, .int t_program_length, .int t_program_result, .int t_program_taskKind, .int t_program_taskDivisor, .ref a_t_program_operations, .ref a_t_program_firsts, .ref a_t_program_seconds]))]) (wr := []) (w1 := fun _ : Unit => [(a_t, .inr (6, [.ref a_t_generator, .ref a_t_program, .ref a_t_costs, .ref a_t_history, .ref a_t_machine, .ref a_t_tidier, .ref a_t_listing])), (a_t_program, .inr (4, [.int t_program_width, .int t_program_length, .int t_program_result, .int t_program_taskKind, .int t_program_taskDivisor, .ref a_t_program_operations, .ref a_t_program_firsts, .ref a_t_program_seconds]))]) (ws2 := fun _ : Unit => [(a_t, .inr (6, [.ref a_t_generator, .ref a_t_program, .ref a_t_costs, .ref a_t_history, .ref a_t_machine, .ref a_t_tidier, .ref a_t_listing])), (a_t_program, .inr (4, [.int t_program_width, .int t_program_length, .int t_program_result, .int t_program_taskKind, .int t_program_taskDivisor, .ref a_t_program_operations, .ref a_t_program_firsts, .ref a_t_program_seconds]))]) ⟨hx, hb, hml, hown, hts⟩ (mX8_greatestValue l D ca a_t a_t_generator a_t_program a_t_costs a_t_history a_t_machine a_t_tidier a_t_listing a_t_program_operations a_t_program_firsts a_t_program_seconds _ t_program_width t_program_length t_program_result t_program_taskKind t_program_taskDivisor _ h) (cwV 0 hts (gV q_388 q_390 qs_5 q_1 q_391) rfl rfl rfl (by decide +kernel) ⟨Nat.le_of_ble_eq_true rfl, Nat.le_of_ble_eq_true rfl⟩) hK hP hD hS hA [0, 1] [] [0, 1] rfl rfl rfl (by decide) (fun _ => rfl) (ci := 6) (q0 := 0) rfl rfl rfl hl.1 rfl (Nat.le_of_ble_eq_true rfl) dX8_digits_3 ⟨Nat.le_of_ble_eq_true rfl, Nat.le_of_ble_eq_true rfl⟩ (fun r_3 u9 H locs h hP hD hS => ?_)
  try dsimp only at h
  refine xPv (As := [.int x1, .int 0, .int r_3]) (rest := []) ⟨hx, hb, hml, hown, hts⟩ (mX8_requireFromTo l hl0 x1 0 r_3 _ _ h) (va_cwS 3 hts (gS q_392 q_393 q_1 q_394) rfl rfl rfl (by decide +kernel) ⟨Nat.le_of_ble_eq_true rfl, Nat.le_of_ble_eq_true rfl⟩) hX hS rfl hl.1 rfl (Nat.le_of_ble_eq_true rfl) dX8_digits_6 ⟨Nat.le_of_ble_eq_true rfl, Nat.le_of_ble_eq_true rfl⟩ (fun E ce q9 H1 locs hE hk1 hS h1 h2 h3 => x_out htab hlocks hK (s_back hP hk1) hD hS hE h1 h2 h3 (Nat.le_of_ble_eq_true rfl) (Nat.le_of_ble_eq_true rfl)) (fun H1 locs h hk1 hS => ?_)
  have hP := s_back hP hk1
  try dsimp only at h
  refine lv_iload_n hx hb dX8_digits_9 rfl (lv_at hl 1 rfl) ?_
  refine lv_aload_n hx hb dX8_digits_10 rfl (lv_at hl 0 rfl) ?_
  refine va_get (D := D) (ci := 6) (v := .ref a_t_program) (C := RX8) (T := TX8) (N := 7) hx hb hq inX8g hown hK hP 0 rfl rfl 1 (by decide) (hq _ q_170) (fun _ h9 => h9) rfl dX8_digits_11 ?_
  refine va_get (D := D) (ci := 4) (v := .int t_program_width) (C := RX5) (T := TX5) (N := 8) hx hb hq inX5g hown hK hP 1 rfl rfl 0 (by decide) (hq _ q_45) (fun _ h9 => h9) rfl dX8_digits_14 ?_
  refine cPi (As := [.int x1, .int t_program_width]) (rest := []) ⟨hx, hb, hml, hown, hts⟩ (mX4_countDigits l x1 t_program_width _ h) (va_cwS 2 hts (gS q_444 q_445 q_16 q_446) rfl rfl rfl (by decide +kernel) ⟨Nat.le_of_ble_eq_true rfl, Nat.le_of_ble_eq_true rfl⟩) hS rfl hl.1 rfl (Nat.le_of_ble_eq_true rfl) dX8_digits_17 ⟨Nat.le_of_ble_eq_true rfl, Nat.le_of_ble_eq_true rfl⟩ (fun r_17 H1 locs h hk1 hS => ?_)
  have hP := s_back hP hk1
  try dsimp only at h
  refine W.widen (k := 1) (n := 6) (Nat.le_of_ble_eq_true rfl) (Nat.le_of_ble_eq_true rfl) ?_
  refine vx_ret ?_
  exact W.iret (v := r_17) hx hb hr (fun t ht hW => ⟨⟨r_17, (), rfl, h, by rw [ht]; exact hP, va_K.moved hW.alike hK, hD⟩, hS.F ht⟩) hS.2.2 dX8_digits_20

abbrev qX8_instructions (D : va_G) (ca : Nat → ClassId) (a_t a_t_generator a_t_program a_t_costs a_t_history a_t_machine a_t_tidier a_t_listing a_t_program_operations a_t_program_firsts a_t_program_seconds : Nat) (t_program_width : Int32) (t_program_length : Int32) (t_program_result : Int32) (t_program_taskKind : Int32) (t_program_taskDivisor : Int32) (Q : Int32 → Prop) (A : Nat → Prop) : Array Value → State → Outcome → State → Prop := va_Qi (fun (r : Int32) (_ : Unit) => Q r) (wEnd D ca (fun _ : Unit => [(a_t, .inr (6, [.ref a_t_generator, .ref a_t_program, .ref a_t_costs, .ref a_t_history, .ref a_t_machine, .ref a_t_tidier, .ref a_t_listing])), (a_t_program, .inr (4, [.int t_program_width, .int t_program_length, .int t_program_result, .int t_program_taskKind, .int t_program_taskDivisor, .ref a_t_program_operations, .ref a_t_program_firsts, .ref a_t_program_seconds]))]) A) A
def wX8_instructions (t_program_length : Int32) (Q : Int32 → Prop) : Prop :=
  Q t_program_length
set_option maxHeartbeats 4000000 in
set_option maxRecDepth 100000 in
theorem mX8_instructions (l : Launch) (D : va_G) (ca : Nat → ClassId) (a_t a_t_generator a_t_program a_t_costs a_t_history a_t_machine a_t_tidier a_t_listing a_t_program_operations a_t_program_firsts a_t_program_seconds : Nat) (sz : Nat) (t_program_width : Int32) (t_program_length : Int32) (t_program_result : Int32) (t_program_taskKind : Int32) (t_program_taskDivisor : Int32) (Q : Int32 → Prop) (h : wX8_instructions t_program_length Q) : Met l yX8_instructions (Cond.code yX8_instructions cX8_instructions 1 (some .int) :: wsG) ({ frames := 0, cells := 0, slots := 0, locals := 0 } : Room) (va_Pc [.ref a_t] (wPre D ca [(a_t, .inr (6, [.ref a_t_generator, .ref a_t_program, .ref a_t_costs, .ref a_t_history, .ref a_t_machine, .ref a_t_tidier, .ref a_t_listing])), (a_t_program, .inr (4, [.int t_program_width, .int t_program_length, .int t_program_result, .int t_program_taskKind, .int t_program_taskDivisor, .ref a_t_program_operations, .ref a_t_program_firsts, .ref a_t_program_seconds]))] sz)) (qX8_instructions D ca a_t a_t_generator a_t_program a_t_costs a_t_history a_t_machine a_t_tidier a_t_listing a_t_program_operations a_t_program_firsts a_t_program_seconds t_program_width t_program_length t_program_result t_program_taskKind t_program_taskDivisor Q (va_A [(a_t, .inr (6, [.ref a_t_generator, .ref a_t_program, .ref a_t_costs, .ref a_t_history, .ref a_t_machine, .ref a_t_tidier, .ref a_t_listing])), (a_t_program, .inr (4, [.int t_program_width, .int t_program_length, .int t_program_result, .int t_program_taskKind, .int t_program_taskDivisor, .ref a_t_program_operations, .ref a_t_program_firsts, .ref a_t_program_seconds]))] sz)) 0 0 (va_A [(a_t, .inr (6, [.ref a_t_generator, .ref a_t_program, .ref a_t_costs, .ref a_t_history, .ref a_t_machine, .ref a_t_tidier, .ref a_t_listing])), (a_t_program, .inr (4, [.int t_program_width, .int t_program_length, .int t_program_result, .int t_program_taskKind, .int t_program_taskDivisor, .ref a_t_program_operations, .ref a_t_program_firsts, .ref a_t_program_seconds]))] sz) := by
  refine Met.ofW (cc := cX8_instructions) (maxL := 1) (ret := (some .int)) (by decide) rfl ?_
  intro p e s m args below meth c s₁ B hml hv
  obtain ⟨rfl, hsz, hP, hK, hD0⟩ := hv
  have hx := B.exec
  have hb := B.bytes
  have hr := B.returns
  have hts := atoms_spec (ws := (Cond.code yX8_instructions cX8_instructions 1 (some .int) :: wsG)) B.pre
  have hq : ∀ w ∈ wsG, w.before _ s = true := fun w hw => hts w (List.mem_cons_of_mem _ hw)
  have hown : s.vm.findClass RX8 = some m.cls := findClass_of_methodNamed B.named
  have hlocks := B.notSynchronized
  subst hsz
  have hD := hD0.self (sz := s.heap.size)
  generalize hAe : va_A [(a_t, .inr (6, [.ref a_t_generator, .ref a_t_program, .ref a_t_costs, .ref a_t_history, .ref a_t_machine, .ref a_t_tidier, .ref a_t_listing])), (a_t_program, .inr (4, [.int t_program_width, .int t_program_length, .int t_program_result, .int t_program_taskKind, .int t_program_taskDivisor, .ref a_t_program_operations, .ref a_t_program_firsts, .ref a_t_program_seconds]))] s.heap.size = A at hD ⊢
  have hA : ∀ q : Nat, s.heap.size ≤ q → A q := fun q h => by rw [← hAe]; exact Or.inr h
  have hS : va_S A s.heap s.heap [] := va_S.rf
  have hP : va_P D vwCl [(a_t, .inr (6, [.ref a_t_generator, .ref a_t_program, .ref a_t_costs, .ref a_t_history, .ref a_t_machine, .ref a_t_tidier, .ref a_t_listing])), (a_t_program, .inr (4, [.int t_program_width, .int t_program_length, .int t_program_result, .int t_program_taskKind, .int t_program_taskDivisor, .ref a_t_program_operations, .ref a_t_program_firsts, .ref a_t_program_seconds]))] s.heap := hP
  have hl := lv_entry ([.ref a_t]) (n := 1) (Nat.le_of_ble_eq_true rfl)
  rw [lg_entry_eq]
  generalize (lg_sl ([.ref a_t]) ++ List.replicate (1 - (lg_sl ([.ref a_t])).length) Slot.unset).toArray = ls at hl ⊢
  have hl : lv_has ls 1 [(0, .ref a_t)] := hl
  unfold wX8_instructions at h
  refine lv_aload_n hx hb dX8_instructions_0 rfl (lv_at hl 0 rfl) ?_
  refine va_get (D := D) (ci := 6) (v := .ref a_t_program) (C := RX8) (T := TX8) (N := 7) hx hb hq inX8g hown hK hP 0 rfl rfl 1 (by decide) (hq _ q_170) (fun _ h9 => h9) rfl dX8_instructions_1 ?_
  refine va_get (D := D) (ci := 4) (v := .int t_program_length) (C := RX5) (T := TX5) (N := 8) hx hb hq inX5g hown hK hP 1 rfl rfl 1 (by decide) (hq _ q_51) (fun _ h9 => h9) rfl dX8_instructions_4 ?_
  exact W.iret (v := t_program_length) hx hb hr (fun t ht hW => ⟨⟨t_program_length, (), rfl, h, by rw [ht]; exact hP, va_K.moved hW.alike hK, hD⟩, hS.F ht⟩) hS.2.2 dX8_instructions_7

abbrev qX8_requireInstruction (D : va_G) (ca : Nat → ClassId) (a_t a_t_generator a_t_program a_t_costs a_t_history a_t_machine a_t_tidier a_t_listing a_t_program_operations a_t_program_firsts a_t_program_seconds : Nat) (t_program_width : Int32) (t_program_length : Int32) (t_program_result : Int32) (t_program_taskKind : Int32) (t_program_taskDivisor : Int32) (Q : Prop) (A : Nat → Prop) : Array Value → State → Outcome → State → Prop := va_Qv (fun (_ : Unit) => Q) (wEnd D ca (fun _ : Unit => [(a_t, .inr (6, [.ref a_t_generator, .ref a_t_program, .ref a_t_costs, .ref a_t_history, .ref a_t_machine, .ref a_t_tidier, .ref a_t_listing])), (a_t_program, .inr (4, [.int t_program_width, .int t_program_length, .int t_program_result, .int t_program_taskKind, .int t_program_taskDivisor, .ref a_t_program_operations, .ref a_t_program_firsts, .ref a_t_program_seconds]))]) A) A
def wX8_requireInstruction_15 (QX : String → Prop) : Prop :=
  QX xIO
def wX8_requireInstruction (t_program_length : Int32) (x1 : Int32) (Q : Prop) (QX : String → Prop) : Prop :=
  ((x1 < 0 → wX8_requireInstruction_15 QX) ∧ (¬ x1 < 0 → ((x1 < t_program_length → Q) ∧ (¬ x1 < t_program_length → wX8_requireInstruction_15 QX))))
set_option maxHeartbeats 4000000 in
set_option maxRecDepth 100000 in
theorem mX8_requireInstruction (l : Launch) (hl0 : l.stackTraces = false) (D : va_G) (ca : Nat → ClassId) (a_t a_t_generator a_t_program a_t_costs a_t_history a_t_machine a_t_tidier a_t_listing a_t_program_operations a_t_program_firsts a_t_program_seconds : Nat) (sz : Nat) (t_program_width : Int32) (t_program_length : Int32) (t_program_result : Int32) (t_program_taskKind : Int32) (t_program_taskDivisor : Int32) (x1 : Int32) (Q : Prop) (QX : String → Prop) (h : wX8_requireInstruction t_program_length x1 Q QX) : vx_Met l yX8_requireInstruction (Cond.code yX8_requireInstruction cX8_requireInstruction 2 none :: wsG) ({ frames := 6, cells := 1, slots := 6, locals := 90 } : Room) (va_Pc [.ref a_t, .int x1] (xPre D ca [(a_t, .inr (6, [.ref a_t_generator, .ref a_t_program, .ref a_t_costs, .ref a_t_history, .ref a_t_machine, .ref a_t_tidier, .ref a_t_listing])), (a_t_program, .inr (4, [.int t_program_width, .int t_program_length, .int t_program_result, .int t_program_taskKind, .int t_program_taskDivisor, .ref a_t_program_operations, .ref a_t_program_firsts, .ref a_t_program_seconds]))] sz)) (qX8_requireInstruction D ca a_t a_t_generator a_t_program a_t_costs a_t_history a_t_machine a_t_tidier a_t_listing a_t_program_operations a_t_program_firsts a_t_program_seconds t_program_width t_program_length t_program_result t_program_taskKind t_program_taskDivisor Q (va_A [(a_t, .inr (6, [.ref a_t_generator, .ref a_t_program, .ref a_t_costs, .ref a_t_history, .ref a_t_machine, .ref a_t_tidier, .ref a_t_listing])), (a_t_program, .inr (4, [.int t_program_width, .int t_program_length, .int t_program_result, .int t_program_taskKind, .int t_program_taskDivisor, .ref a_t_program_operations, .ref a_t_program_firsts, .ref a_t_program_seconds]))] sz)) (xEnd D ca [(a_t, .inr (6, [.ref a_t_generator, .ref a_t_program, .ref a_t_costs, .ref a_t_history, .ref a_t_machine, .ref a_t_tidier, .ref a_t_listing])), (a_t_program, .inr (4, [.int t_program_width, .int t_program_length, .int t_program_result, .int t_program_taskKind, .int t_program_taskDivisor, .ref a_t_program_operations, .ref a_t_program_firsts, .ref a_t_program_seconds]))] QX (va_A [(a_t, .inr (6, [.ref a_t_generator, .ref a_t_program, .ref a_t_costs, .ref a_t_history, .ref a_t_machine, .ref a_t_tidier, .ref a_t_listing])), (a_t_program, .inr (4, [.int t_program_width, .int t_program_length, .int t_program_result, .int t_program_taskKind, .int t_program_taskDivisor, .ref a_t_program_operations, .ref a_t_program_firsts, .ref a_t_program_seconds]))] sz)) 1 6 (va_A [(a_t, .inr (6, [.ref a_t_generator, .ref a_t_program, .ref a_t_costs, .ref a_t_history, .ref a_t_machine, .ref a_t_tidier, .ref a_t_listing])), (a_t_program, .inr (4, [.int t_program_width, .int t_program_length, .int t_program_result, .int t_program_taskKind, .int t_program_taskDivisor, .ref a_t_program_operations, .ref a_t_program_firsts, .ref a_t_program_seconds]))] sz) := by
  refine vx_ofW (cc := cX8_requireInstruction) (maxL := 2) (ret := none) (by decide) rfl ?_
  intro p e s m args below meth c s₁ B hml htab hv
  obtain ⟨rfl, ⟨hsz, hP, hK, hD0⟩, hX⟩ := hv
  have hx := B.exec
  have hb := B.bytes
  have hr := B.returns
  have hts := atoms_spec (ws := (Cond.code yX8_requireInstruction cX8_requireInstruction 2 none :: wsG)) B.pre
  have hq : ∀ w ∈ wsG, w.before _ s = true := fun w hw => hts w (List.mem_cons_of_mem _ hw)
  have hown : s.vm.findClass RX8 = some m.cls := findClass_of_methodNamed B.named
  have hlocks := B.notSynchronized
  subst hsz
  have hD := hD0.self (sz := s.heap.size)
  generalize hAe : va_A [(a_t, .inr (6, [.ref a_t_generator, .ref a_t_program, .ref a_t_costs, .ref a_t_history, .ref a_t_machine, .ref a_t_tidier, .ref a_t_listing])), (a_t_program, .inr (4, [.int t_program_width, .int t_program_length, .int t_program_result, .int t_program_taskKind, .int t_program_taskDivisor, .ref a_t_program_operations, .ref a_t_program_firsts, .ref a_t_program_seconds]))] s.heap.size = A at hD hX ⊢
  have hA : ∀ q : Nat, s.heap.size ≤ q → A q := fun q h => by rw [← hAe]; exact Or.inr h
  have hS : va_S A s.heap s.heap [] := va_S.rf
  have hP : va_P D vwCl [(a_t, .inr (6, [.ref a_t_generator, .ref a_t_program, .ref a_t_costs, .ref a_t_history, .ref a_t_machine, .ref a_t_tidier, .ref a_t_listing])), (a_t_program, .inr (4, [.int t_program_width, .int t_program_length, .int t_program_result, .int t_program_taskKind, .int t_program_taskDivisor, .ref a_t_program_operations, .ref a_t_program_firsts, .ref a_t_program_seconds]))] s.heap := hP
  have hl := lv_entry ([.ref a_t, .int x1]) (n := 2) (Nat.le_of_ble_eq_true rfl)
  rw [lg_entry_eq]
  generalize (lg_sl ([.ref a_t, .int x1]) ++ List.replicate (2 - (lg_sl ([.ref a_t, .int x1])).length) Slot.unset).toArray = ls at hl ⊢
  have hl : lv_has ls 2 [(0, .ref a_t), (1, .int x1)] := hl
  unfold wX8_requireInstruction at h
  refine lv_iload_n hx hb dX8_requireInstruction_0 rfl (lv_at hl 1 rfl) ?_
  have hJ15 : ∀ (H : Heap) (locs : List Loc) (ls : Array Slot), va_P D vwCl [(a_t, .inr (6, [.ref a_t_generator, .ref a_t_program, .ref a_t_costs, .ref a_t_history, .ref a_t_machine, .ref a_t_tidier, .ref a_t_listing])), (a_t_program, .inr (4, [.int t_program_width, .int t_program_length, .int t_program_result, .int t_program_taskKind, .int t_program_taskDivisor, .ref a_t_program_operations, .ref a_t_program_firsts, .ref a_t_program_seconds]))] H → va_D A [(a_t, .inr (6, [.ref a_t_generator, .ref a_t_program, .ref a_t_costs, .ref a_t_history, .ref a_t_machine, .ref a_t_tidier, .ref a_t_listing])), (a_t_program, .inr (4, [.int t_program_width, .int t_program_length, .int t_program_result, .int t_program_taskKind, .int t_program_taskDivisor, .ref a_t_program_operations, .ref a_t_program_firsts, .ref a_t_program_seconds]))] → va_S A s.heap H locs → lv_has ls 2 [] → wX8_requireInstruction_15 QX → W p l e (headSpec (Cond.code yX8_requireInstruction cX8_requireInstruction 2 none :: wsG) ({ frames := 6, cells := 1, slots := 6, locals := 90 } : Room)).room s m ([.ref a_t, .int x1] : List Value).toArray below meth c H locs 0 0 (vx_MQ below (qX8_requireInstruction D ca a_t a_t_generator a_t_program a_t_costs a_t_history a_t_machine a_t_tidier a_t_listing a_t_program_operations a_t_program_firsts a_t_program_seconds t_program_width t_program_length t_program_result t_program_taskKind t_program_taskDivisor Q A) (xEnd D ca [(a_t, .inr (6, [.ref a_t_generator, .ref a_t_program, .ref a_t_costs, .ref a_t_history, .ref a_t_machine, .ref a_t_tidier, .ref a_t_listing])), (a_t_program, .inr (4, [.int t_program_width, .int t_program_length, .int t_program_result, .int t_program_taskKind, .int t_program_taskDivisor, .ref a_t_program_operations, .ref a_t_program_firsts, .ref a_t_program_seconds]))] QX A) ([.ref a_t, .int x1] : List Value).toArray s 1 6 A) (F0 m 15 ls []) := by
    intro  H locs ls hP hD hS hl h
    unfold wX8_requireInstruction_15 at h
    exact x_throwW (nmx := xIO) (text := "there is no such instruction") hx hb hl0 hown hX (by decide) (by decide) (hq _ q_364) (hq _ q_15) (xh_IO hq hX.2.2.2.2.1 hX.2.2.2.2.2.1) xg_IO hS (hl.1.trans hml.symm) dX8_requireInstruction_15 dX8_requireInstruction_18 dX8_requireInstruction_19 dX8_requireInstruction_22 dX8_requireInstruction_25 htab (Nat.le_of_ble_eq_true rfl) (Nat.le_of_ble_eq_true rfl) (Nat.le_of_ble_eq_true rfl) (Nat.le_of_ble_eq_true rfl) hlocks (fun t hvm h1 h2 => ⟨(), trivial, ⟨h, fun k q h3 => (hP k q h3).kept (h2 q.1 (hP k q h3).lt), va_K.moved hvm hK, hD⟩, ⟨Nat.le_trans hS.1 h1, fun q h3 h4 => (h2 q (Nat.lt_of_lt_of_le h3 hS.1)).trans (hS.2.1 q h3 h4)⟩⟩) hS.2.2 (Nat.le_of_ble_eq_true rfl) (Nat.le_of_ble_eq_true rfl)
  refine lv_if_lt (tgt := 15) hx hb dX8_requireInstruction_1 (by decide) (fun c9 => ?_) (fun c9 => ?_)
  · have h := h.1 c9
    exact hJ15 _ _ _ hP hD hS (lv_sub hl [] rfl) h
  · have h := h.2 c9
    refine lv_iload_n hx hb dX8_requireInstruction_4 rfl (lv_at hl 1 rfl) ?_
    refine lv_aload_n hx hb dX8_requireInstruction_5 rfl (lv_at hl 0 rfl) ?_
    refine va_get (D := D) (ci := 6) (v := .ref a_t_program) (C := RX8) (T := TX8) (N := 7) hx hb hq inX8g hown hK hP 0 rfl rfl 1 (by decide) (hq _ q_170) (fun _ h9 => h9) rfl dX8_requireInstruction_6 ?_
    refine va_get (D := D) (ci := 4) (v := .int t_program_length) (C := RX5) (T := TX5) (N := 8) hx hb hq inX5g hown hK hP 1 rfl rfl 1 (by decide) (hq _ q_51) (fun _ h9 => h9) rfl dX8_requireInstruction_9 ?_
    refine lv_icmp_lt (tgt := 26) hx hb dX8_requireInstruction_12 (by decide) (fun c9 => ?_) (fun c9 => ?_)
    · have h := h.1 c9
      refine W.widen (k := 1) (n := 6) (Nat.le_of_ble_eq_true rfl) (Nat.le_of_ble_eq_true rfl) ?_
      refine vx_ret ?_
      exact W.vret hx hb hr (fun t ht hW => ⟨⟨(), rfl, h, by rw [ht]; exact hP, va_K.moved hW.alike hK, hD⟩, hS.F ht⟩) hS.2.2 dX8_requireInstruction_26
    · have h := h.2 c9
      exact hJ15 _ _ _ hP hD hS (lv_sub hl [] rfl) h

abbrev qX8_operation (D : va_G) (ca : Nat → ClassId) (a_t a_t_generator a_t_program a_t_costs a_t_history a_t_machine a_t_tidier a_t_listing a_t_program_operations a_t_program_firsts a_t_program_seconds : Nat) (t_program_width : Int32) (t_program_length : Int32) (t_program_result : Int32) (t_program_taskKind : Int32) (t_program_taskDivisor : Int32) (f_t_program_operations : Nat → Int32) (Q : Int32 → Prop) (A : Nat → Prop) : Array Value → State → Outcome → State → Prop := va_Qi (fun (r : Int32) (_ : Unit) => Q r) (wEnd D ca (fun _ : Unit => [(a_t, .inr (6, [.ref a_t_generator, .ref a_t_program, .ref a_t_costs, .ref a_t_history, .ref a_t_machine, .ref a_t_tidier, .ref a_t_listing])), (a_t_program, .inr (4, [.int t_program_width, .int t_program_length, .int t_program_result, .int t_program_taskKind, .int t_program_taskDivisor, .ref a_t_program_operations, .ref a_t_program_firsts, .ref a_t_program_seconds])), (a_t_program_operations, .inl (ca 0, 40, .inl f_t_program_operations))]) A) A
def wX8_operation (t_program_length : Int32) (f_t_program_operations : Nat → Int32) (x1 : Int32) (Q : Int32 → Prop) (QX : String → Prop) : Prop :=
  wX8_requireInstruction t_program_length x1 ((vp_in x1 40 ∧ Q (f_t_program_operations x1.toNatClampNeg))) QX
set_option maxHeartbeats 4000000 in
set_option maxRecDepth 100000 in
theorem mX8_operation (l : Launch) (hl0 : l.stackTraces = false) (D : va_G) (ca : Nat → ClassId) (a_t a_t_generator a_t_program a_t_costs a_t_history a_t_machine a_t_tidier a_t_listing a_t_program_operations a_t_program_firsts a_t_program_seconds : Nat) (sz : Nat) (t_program_width : Int32) (t_program_length : Int32) (t_program_result : Int32) (t_program_taskKind : Int32) (t_program_taskDivisor : Int32) (f_t_program_operations : Nat → Int32) (x1 : Int32) (Q : Int32 → Prop) (QX : String → Prop) (h : wX8_operation t_program_length f_t_program_operations x1 Q QX) : vx_Met l yX8_operation (Cond.code yX8_operation cX8_operation 2 (some .int) :: wsG) ({ frames := 7, cells := 1, slots := 6, locals := 111 } : Room) (va_Pc [.ref a_t, .int x1] (xPre D ca [(a_t, .inr (6, [.ref a_t_generator, .ref a_t_program, .ref a_t_costs, .ref a_t_history, .ref a_t_machine, .ref a_t_tidier, .ref a_t_listing])), (a_t_program, .inr (4, [.int t_program_width, .int t_program_length, .int t_program_result, .int t_program_taskKind, .int t_program_taskDivisor, .ref a_t_program_operations, .ref a_t_program_firsts, .ref a_t_program_seconds])), (a_t_program_operations, .inl (ca 0, 40, .inl f_t_program_operations))] sz)) (qX8_operation D ca a_t a_t_generator a_t_program a_t_costs a_t_history a_t_machine a_t_tidier a_t_listing a_t_program_operations a_t_program_firsts a_t_program_seconds t_program_width t_program_length t_program_result t_program_taskKind t_program_taskDivisor f_t_program_operations Q (va_A [(a_t, .inr (6, [.ref a_t_generator, .ref a_t_program, .ref a_t_costs, .ref a_t_history, .ref a_t_machine, .ref a_t_tidier, .ref a_t_listing])), (a_t_program, .inr (4, [.int t_program_width, .int t_program_length, .int t_program_result, .int t_program_taskKind, .int t_program_taskDivisor, .ref a_t_program_operations, .ref a_t_program_firsts, .ref a_t_program_seconds])), (a_t_program_operations, .inl (ca 0, 40, .inl f_t_program_operations))] sz)) (xEnd D ca [(a_t, .inr (6, [.ref a_t_generator, .ref a_t_program, .ref a_t_costs, .ref a_t_history, .ref a_t_machine, .ref a_t_tidier, .ref a_t_listing])), (a_t_program, .inr (4, [.int t_program_width, .int t_program_length, .int t_program_result, .int t_program_taskKind, .int t_program_taskDivisor, .ref a_t_program_operations, .ref a_t_program_firsts, .ref a_t_program_seconds])), (a_t_program_operations, .inl (ca 0, 40, .inl f_t_program_operations))] QX (va_A [(a_t, .inr (6, [.ref a_t_generator, .ref a_t_program, .ref a_t_costs, .ref a_t_history, .ref a_t_machine, .ref a_t_tidier, .ref a_t_listing])), (a_t_program, .inr (4, [.int t_program_width, .int t_program_length, .int t_program_result, .int t_program_taskKind, .int t_program_taskDivisor, .ref a_t_program_operations, .ref a_t_program_firsts, .ref a_t_program_seconds])), (a_t_program_operations, .inl (ca 0, 40, .inl f_t_program_operations))] sz)) 1 6 (va_A [(a_t, .inr (6, [.ref a_t_generator, .ref a_t_program, .ref a_t_costs, .ref a_t_history, .ref a_t_machine, .ref a_t_tidier, .ref a_t_listing])), (a_t_program, .inr (4, [.int t_program_width, .int t_program_length, .int t_program_result, .int t_program_taskKind, .int t_program_taskDivisor, .ref a_t_program_operations, .ref a_t_program_firsts, .ref a_t_program_seconds])), (a_t_program_operations, .inl (ca 0, 40, .inl f_t_program_operations))] sz) := by
  refine vx_ofW (cc := cX8_operation) (maxL := 2) (ret := (some .int)) (by decide) rfl ?_
  intro p e s m args below meth c s₁ B hml htab hv
  obtain ⟨rfl, ⟨hsz, hP, hK, hD0⟩, hX⟩ := hv
  have hx := B.exec
  have hb := B.bytes
  have hr := B.returns
  have hts := atoms_spec (ws := (Cond.code yX8_operation cX8_operation 2 (some .int) :: wsG)) B.pre
  have hq : ∀ w ∈ wsG, w.before _ s = true := fun w hw => hts w (List.mem_cons_of_mem _ hw)
  have hown : s.vm.findClass RX8 = some m.cls := findClass_of_methodNamed B.named
  have hlocks := B.notSynchronized
  subst hsz
  have hD := hD0.self (sz := s.heap.size)
  generalize hAe : va_A [(a_t, .inr (6, [.ref a_t_generator, .ref a_t_program, .ref a_t_costs, .ref a_t_history, .ref a_t_machine, .ref a_t_tidier, .ref a_t_listing])), (a_t_program, .inr (4, [.int t_program_width, .int t_program_length, .int t_program_result, .int t_program_taskKind, .int t_program_taskDivisor, .ref a_t_program_operations, .ref a_t_program_firsts, .ref a_t_program_seconds])), (a_t_program_operations, .inl (ca 0, 40, .inl f_t_program_operations))] s.heap.size = A at hD hX ⊢
  have hA : ∀ q : Nat, s.heap.size ≤ q → A q := fun q h => by rw [← hAe]; exact Or.inr h
  have hS : va_S A s.heap s.heap [] := va_S.rf
  have hP : va_P D vwCl [(a_t, .inr (6, [.ref a_t_generator, .ref a_t_program, .ref a_t_costs, .ref a_t_history, .ref a_t_machine, .ref a_t_tidier, .ref a_t_listing])), (a_t_program, .inr (4, [.int t_program_width, .int t_program_length, .int t_program_result, .int t_program_taskKind, .int t_program_taskDivisor, .ref a_t_program_operations, .ref a_t_program_firsts, .ref a_t_program_seconds])), (a_t_program_operations, .inl (ca 0, 40, .inl f_t_program_operations))] s.heap := hP
  have hl := lv_entry ([.ref a_t, .int x1]) (n := 2) (Nat.le_of_ble_eq_true rfl)
  rw [lg_entry_eq]
  generalize (lg_sl ([.ref a_t, .int x1]) ++ List.replicate (2 - (lg_sl ([.ref a_t, .int x1])).length) Slot.unset).toArray = ls at hl ⊢
  have hl : lv_has ls 2 [(0, .ref a_t), (1, .int x1)] := hl
  unfold wX8_operation at h
  refine lv_aload_n hx hb dX8_operation_0 rfl (lv_at hl 0 rfl) ?_
  refine lv_iload_n hx hb dX8_operation_1 rfl (lv_at hl 1 rfl) ?_
  refine xVv (As := [.int x1]) (rest := []) (wc := [(a_t, .inr (6, [.ref a_t_generator, .ref a_t_program, .ref a_t_costs, .ref a_t_history, .ref a_t_machine, .ref a_t_tidier, .ref a_t_listing])), (a_t_program, .inr (4, [.int t_program_width, .int t_program_length, .int t_program_result, .int t_program_taskKind, .int t_program_taskDivisor, .ref a_t_program_operations, .ref a_t_program_firsts, .ref a_t_program_seconds]))]) (wr := [(a_t_program_operations, .inl (ca 0, 40, .inl f_t_program_operations))]) (w1 := fun _ : Unit => [(a_t, .inr (6, [.ref a_t_generator, .ref a_t_program, .ref a_t_costs, .ref a_t_history, .ref a_t_machine, .ref a_t_tidier, .ref a_t_listing])), (a_t_program, .inr (4, [.int t_program_width, .int t_program_length, .int t_program_result, .int t_program_taskKind, .int t_program_taskDivisor, .ref a_t_program_operations, .ref a_t_program_firsts, .ref a_t_program_seconds]))]) (ws2 := fun _ : Unit => [(a_t, .inr (6, [.ref a_t_generator, .ref a_t_program, .ref a_t_costs, .ref a_t_history, .ref a_t_machine, .ref a_t_tidier, .ref a_t_listing])), (a_t_program, .inr (4, [.int t_program_width, .int t_program_length, .int t_program_result, .int t_program_taskKind, .int t_program_taskDivisor, .ref a_t_program_operations, .ref a_t_program_firsts, .ref a_t_program_seconds])), (a_t_program_operations, .inl (ca 0, 40, .inl f_t_program_operations))]) ⟨hx, hb, hml, hown, hts⟩ (mX8_requireInstruction l hl0 D ca a_t a_t_generator a_t_program a_t_costs a_t_history a_t_machine a_t_tidier a_t_listing a_t_program_operations a_t_program_firsts a_t_program_seconds _ t_program_width t_program_length t_program_result t_program_taskKind t_program_taskDivisor x1 _ _ h) (cwV 1 hts (gV q_620 q_622 qs_22 q_1 q_623) rfl rfl rfl (by decide +kernel) ⟨Nat.le_of_ble_eq_true rfl, Nat.le_of_ble_eq_true rfl⟩) hX hK hP hD hS hA [0, 1] [2] [1, 2, 0] rfl rfl rfl (by decide) (fun _ => rfl) rfl (ci := 6) (q0 := 0) rfl rfl rfl hl.1 rfl (Nat.le_of_ble_eq_true rfl) dX8_operation_2 ⟨Nat.le_of_ble_eq_true rfl, Nat.le_of_ble_eq_true rfl⟩ (fun E ce q9 H1 locs hE hP hS h1 h2 h3 => x_out htab hlocks hK hP hD hS hE h1 h2 h3 (Nat.le_of_ble_eq_true rfl) (Nat.le_of_ble_eq_true rfl)) (fun u9 H locs h hP hD hS => ?_)
  try dsimp only at h
  refine lv_aload_n hx hb dX8_operation_5 rfl (lv_at hl 0 rfl) ?_
  refine va_get (D := D) (ci := 6) (v := .ref a_t_program) (C := RX8) (T := TX8) (N := 7) hx hb hq inX8g hown hK hP 0 rfl rfl 1 (by decide) (hq _ q_170) (fun _ h9 => h9) rfl dX8_operation_6 ?_
  refine va_get (D := D) (ci := 4) (v := .ref a_t_program_operations) (C := RX5) (T := TX5) (N := 8) hx hb hq inX5g hown hK hP 1 rfl rfl 5 (by decide) (hq _ q_65) (fun _ h9 => h9) rfl dX8_operation_9 ?_
  refine lv_iload_n hx hb dX8_operation_12 rfl (lv_at hl 1 rfl) ?_
  obtain ⟨hi9, h⟩ := h
  refine va_iald hx hb hK hP 2 0 rfl rfl hi9 dX8_operation_13 ?_
  refine W.widen (k := 1) (n := 6) (Nat.le_of_ble_eq_true rfl) (Nat.le_of_ble_eq_true rfl) ?_
  refine vx_ret ?_
  exact W.iret (v := f_t_program_operations x1.toNatClampNeg) hx hb hr (fun t ht hW => ⟨⟨f_t_program_operations x1.toNatClampNeg, (), rfl, h, by rw [ht]; exact hP, va_K.moved hW.alike hK, hD⟩, hS.F ht⟩) hS.2.2 dX8_operation_14

abbrev qX8_operandAt (D : va_G) (ca : Nat → ClassId) (a_t a_t_generator a_t_program a_t_costs a_t_history a_t_machine a_t_tidier a_t_listing a_t_program_operations a_t_program_firsts a_t_program_seconds : Nat) (t_program_width : Int32) (t_program_length : Int32) (t_program_result : Int32) (t_program_taskKind : Int32) (t_program_taskDivisor : Int32) (f_t_program_firsts : Nat → Int32) (f_t_program_seconds : Nat → Int32) (Q : Int32 → Prop) (A : Nat → Prop) : Array Value → State → Outcome → State → Prop := va_Qi (fun (r : Int32) (_ : Unit) => Q r) (wEnd D ca (fun _ : Unit => [(a_t, .inr (6, [.ref a_t_generator, .ref a_t_program, .ref a_t_costs, .ref a_t_history, .ref a_t_machine, .ref a_t_tidier, .ref a_t_listing])), (a_t_program, .inr (4, [.int t_program_width, .int t_program_length, .int t_program_result, .int t_program_taskKind, .int t_program_taskDivisor, .ref a_t_program_operations, .ref a_t_program_firsts, .ref a_t_program_seconds])), (a_t_program_firsts, .inl (ca 0, 40, .inl f_t_program_firsts)), (a_t_program_seconds, .inl (ca 0, 40, .inl f_t_program_seconds))]) A) A
def wX8_operandAt_25 (f_t_program_firsts : Nat → Int32) (f_t_program_seconds : Nat → Int32) (x1 : Int32) (x2 : Int32) (Q : Int32 → Prop) : Prop :=
  ((x2 = 0 → (vp_in x1 40 ∧ Q (f_t_program_firsts x1.toNatClampNeg))) ∧ (¬ x2 = 0 → (vp_in x1 40 ∧ Q (f_t_program_seconds x1.toNatClampNeg))))
def wX8_operandAt (t_program_length : Int32) (f_t_program_firsts : Nat → Int32) (f_t_program_seconds : Nat → Int32) (x1 : Int32) (x2 : Int32) (Q : Int32 → Prop) (QX : String → Prop) : Prop :=
  wX8_requireInstruction t_program_length x1 (((x2 = 0 → wX8_operandAt_25 f_t_program_firsts f_t_program_seconds x1 x2 Q) ∧ (¬ x2 = 0 → ((x2 = 1 → wX8_operandAt_25 f_t_program_firsts f_t_program_seconds x1 x2 Q) ∧ (¬ x2 = 1 → QX xIO))))) QX
set_option maxHeartbeats 4000000 in
set_option maxRecDepth 100000 in
theorem mX8_operandAt (l : Launch) (hl0 : l.stackTraces = false) (D : va_G) (ca : Nat → ClassId) (a_t a_t_generator a_t_program a_t_costs a_t_history a_t_machine a_t_tidier a_t_listing a_t_program_operations a_t_program_firsts a_t_program_seconds : Nat) (sz : Nat) (t_program_width : Int32) (t_program_length : Int32) (t_program_result : Int32) (t_program_taskKind : Int32) (t_program_taskDivisor : Int32) (f_t_program_firsts : Nat → Int32) (f_t_program_seconds : Nat → Int32) (x1 : Int32) (x2 : Int32) (Q : Int32 → Prop) (QX : String → Prop) (h : wX8_operandAt t_program_length f_t_program_firsts f_t_program_seconds x1 x2 Q QX) : vx_Met l yX8_operandAt (Cond.code yX8_operandAt cX8_operandAt 3 (some .int) :: wsG) ({ frames := 7, cells := 2, slots := 12, locals := 111 } : Room) (va_Pc [.ref a_t, .int x1, .int x2] (xPre D ca [(a_t, .inr (6, [.ref a_t_generator, .ref a_t_program, .ref a_t_costs, .ref a_t_history, .ref a_t_machine, .ref a_t_tidier, .ref a_t_listing])), (a_t_program, .inr (4, [.int t_program_width, .int t_program_length, .int t_program_result, .int t_program_taskKind, .int t_program_taskDivisor, .ref a_t_program_operations, .ref a_t_program_firsts, .ref a_t_program_seconds])), (a_t_program_firsts, .inl (ca 0, 40, .inl f_t_program_firsts)), (a_t_program_seconds, .inl (ca 0, 40, .inl f_t_program_seconds))] sz)) (qX8_operandAt D ca a_t a_t_generator a_t_program a_t_costs a_t_history a_t_machine a_t_tidier a_t_listing a_t_program_operations a_t_program_firsts a_t_program_seconds t_program_width t_program_length t_program_result t_program_taskKind t_program_taskDivisor f_t_program_firsts f_t_program_seconds Q (va_A [(a_t, .inr (6, [.ref a_t_generator, .ref a_t_program, .ref a_t_costs, .ref a_t_history, .ref a_t_machine, .ref a_t_tidier, .ref a_t_listing])), (a_t_program, .inr (4, [.int t_program_width, .int t_program_length, .int t_program_result, .int t_program_taskKind, .int t_program_taskDivisor, .ref a_t_program_operations, .ref a_t_program_firsts, .ref a_t_program_seconds])), (a_t_program_firsts, .inl (ca 0, 40, .inl f_t_program_firsts)), (a_t_program_seconds, .inl (ca 0, 40, .inl f_t_program_seconds))] sz)) (xEnd D ca [(a_t, .inr (6, [.ref a_t_generator, .ref a_t_program, .ref a_t_costs, .ref a_t_history, .ref a_t_machine, .ref a_t_tidier, .ref a_t_listing])), (a_t_program, .inr (4, [.int t_program_width, .int t_program_length, .int t_program_result, .int t_program_taskKind, .int t_program_taskDivisor, .ref a_t_program_operations, .ref a_t_program_firsts, .ref a_t_program_seconds])), (a_t_program_firsts, .inl (ca 0, 40, .inl f_t_program_firsts)), (a_t_program_seconds, .inl (ca 0, 40, .inl f_t_program_seconds))] QX (va_A [(a_t, .inr (6, [.ref a_t_generator, .ref a_t_program, .ref a_t_costs, .ref a_t_history, .ref a_t_machine, .ref a_t_tidier, .ref a_t_listing])), (a_t_program, .inr (4, [.int t_program_width, .int t_program_length, .int t_program_result, .int t_program_taskKind, .int t_program_taskDivisor, .ref a_t_program_operations, .ref a_t_program_firsts, .ref a_t_program_seconds])), (a_t_program_firsts, .inl (ca 0, 40, .inl f_t_program_firsts)), (a_t_program_seconds, .inl (ca 0, 40, .inl f_t_program_seconds))] sz)) 2 12 (va_A [(a_t, .inr (6, [.ref a_t_generator, .ref a_t_program, .ref a_t_costs, .ref a_t_history, .ref a_t_machine, .ref a_t_tidier, .ref a_t_listing])), (a_t_program, .inr (4, [.int t_program_width, .int t_program_length, .int t_program_result, .int t_program_taskKind, .int t_program_taskDivisor, .ref a_t_program_operations, .ref a_t_program_firsts, .ref a_t_program_seconds])), (a_t_program_firsts, .inl (ca 0, 40, .inl f_t_program_firsts)), (a_t_program_seconds, .inl (ca 0, 40, .inl f_t_program_seconds))] sz) := by
  refine vx_ofW (cc := cX8_operandAt) (maxL := 3) (ret := (some .int)) (by decide) rfl ?_
  intro p e s m args below meth c s₁ B hml htab hv
  obtain ⟨rfl, ⟨hsz, hP, hK, hD0⟩, hX⟩ := hv
  have hx := B.exec
  have hb := B.bytes
  have hr := B.returns
  have hts := atoms_spec (ws := (Cond.code yX8_operandAt cX8_operandAt 3 (some .int) :: wsG)) B.pre
  have hq : ∀ w ∈ wsG, w.before _ s = true := fun w hw => hts w (List.mem_cons_of_mem _ hw)
  have hown : s.vm.findClass RX8 = some m.cls := findClass_of_methodNamed B.named
  have hlocks := B.notSynchronized
  subst hsz
  have hD := hD0.self (sz := s.heap.size)
  generalize hAe : va_A [(a_t, .inr (6, [.ref a_t_generator, .ref a_t_program, .ref a_t_costs, .ref a_t_history, .ref a_t_machine, .ref a_t_tidier, .ref a_t_listing])), (a_t_program, .inr (4, [.int t_program_width, .int t_program_length, .int t_program_result, .int t_program_taskKind, .int t_program_taskDivisor, .ref a_t_program_operations, .ref a_t_program_firsts, .ref a_t_program_seconds])), (a_t_program_firsts, .inl (ca 0, 40, .inl f_t_program_firsts)), (a_t_program_seconds, .inl (ca 0, 40, .inl f_t_program_seconds))] s.heap.size = A at hD hX ⊢
  have hA : ∀ q : Nat, s.heap.size ≤ q → A q := fun q h => by rw [← hAe]; exact Or.inr h
  have hS : va_S A s.heap s.heap [] := va_S.rf
  have hP : va_P D vwCl [(a_t, .inr (6, [.ref a_t_generator, .ref a_t_program, .ref a_t_costs, .ref a_t_history, .ref a_t_machine, .ref a_t_tidier, .ref a_t_listing])), (a_t_program, .inr (4, [.int t_program_width, .int t_program_length, .int t_program_result, .int t_program_taskKind, .int t_program_taskDivisor, .ref a_t_program_operations, .ref a_t_program_firsts, .ref a_t_program_seconds])), (a_t_program_firsts, .inl (ca 0, 40, .inl f_t_program_firsts)), (a_t_program_seconds, .inl (ca 0, 40, .inl f_t_program_seconds))] s.heap := hP
  have hl := lv_entry ([.ref a_t, .int x1, .int x2]) (n := 3) (Nat.le_of_ble_eq_true rfl)
  rw [lg_entry_eq]
  generalize (lg_sl ([.ref a_t, .int x1, .int x2]) ++ List.replicate (3 - (lg_sl ([.ref a_t, .int x1, .int x2])).length) Slot.unset).toArray = ls at hl ⊢
  have hl : lv_has ls 3 [(0, .ref a_t), (1, .int x1), (2, .int x2)] := hl
  unfold wX8_operandAt at h
  refine lv_aload_n hx hb dX8_operandAt_0 rfl (lv_at hl 0 rfl) ?_
  refine lv_iload_n hx hb dX8_operandAt_1 rfl (lv_at hl 1 rfl) ?_
  refine xVv (As := [.int x1]) (rest := []) (wc := [(a_t, .inr (6, [.ref a_t_generator, .ref a_t_program, .ref a_t_costs, .ref a_t_history, .ref a_t_machine, .ref a_t_tidier, .ref a_t_listing])), (a_t_program, .inr (4, [.int t_program_width, .int t_program_length, .int t_program_result, .int t_program_taskKind, .int t_program_taskDivisor, .ref a_t_program_operations, .ref a_t_program_firsts, .ref a_t_program_seconds]))]) (wr := [(a_t_program_firsts, .inl (ca 0, 40, .inl f_t_program_firsts)), (a_t_program_seconds, .inl (ca 0, 40, .inl f_t_program_seconds))]) (w1 := fun _ : Unit => [(a_t, .inr (6, [.ref a_t_generator, .ref a_t_program, .ref a_t_costs, .ref a_t_history, .ref a_t_machine, .ref a_t_tidier, .ref a_t_listing])), (a_t_program, .inr (4, [.int t_program_width, .int t_program_length, .int t_program_result, .int t_program_taskKind, .int t_program_taskDivisor, .ref a_t_program_operations, .ref a_t_program_firsts, .ref a_t_program_seconds]))]) (ws2 := fun _ : Unit => [(a_t, .inr (6, [.ref a_t_generator, .ref a_t_program, .ref a_t_costs, .ref a_t_history, .ref a_t_machine, .ref a_t_tidier, .ref a_t_listing])), (a_t_program, .inr (4, [.int t_program_width, .int t_program_length, .int t_program_result, .int t_program_taskKind, .int t_program_taskDivisor, .ref a_t_program_operations, .ref a_t_program_firsts, .ref a_t_program_seconds])), (a_t_program_firsts, .inl (ca 0, 40, .inl f_t_program_firsts)), (a_t_program_seconds, .inl (ca 0, 40, .inl f_t_program_seconds))]) ⟨hx, hb, hml, hown, hts⟩ (mX8_requireInstruction l hl0 D ca a_t a_t_generator a_t_program a_t_costs a_t_history a_t_machine a_t_tidier a_t_listing a_t_program_operations a_t_program_firsts a_t_program_seconds _ t_program_width t_program_length t_program_result t_program_taskKind t_program_taskDivisor x1 _ _ h) (cwV 1 hts (gV q_620 q_622 qs_22 q_1 q_623) rfl rfl rfl (by decide +kernel) ⟨Nat.le_of_ble_eq_true rfl, Nat.le_of_ble_eq_true rfl⟩) hX hK hP hD hS hA [0, 1] [2, 3] [2, 3, 0, 1] rfl rfl rfl (by decide) (fun _ => rfl) rfl (ci := 6) (q0 := 0) rfl rfl rfl hl.1 rfl (Nat.le_of_ble_eq_true rfl) dX8_operandAt_2 ⟨Nat.le_of_ble_eq_true rfl, Nat.le_of_ble_eq_true rfl⟩ (fun E ce q9 H1 locs hE hP hS h1 h2 h3 => x_out htab hlocks hK hP hD hS hE h1 h2 h3 (Nat.le_of_ble_eq_true rfl) (Nat.le_of_ble_eq_true rfl)) (fun u9 H locs h hP hD hS => ?_)
  try dsimp only at h
  refine lv_iload_n hx hb dX8_operandAt_5 rfl (lv_at hl 2 rfl) ?_
  have hJ25 : ∀ (H : Heap) (locs : List Loc) (ls : Array Slot), va_P D vwCl [(a_t, .inr (6, [.ref a_t_generator, .ref a_t_program, .ref a_t_costs, .ref a_t_history, .ref a_t_machine, .ref a_t_tidier, .ref a_t_listing])), (a_t_program, .inr (4, [.int t_program_width, .int t_program_length, .int t_program_result, .int t_program_taskKind, .int t_program_taskDivisor, .ref a_t_program_operations, .ref a_t_program_firsts, .ref a_t_program_seconds])), (a_t_program_firsts, .inl (ca 0, 40, .inl f_t_program_firsts)), (a_t_program_seconds, .inl (ca 0, 40, .inl f_t_program_seconds))] H → va_D A [(a_t, .inr (6, [.ref a_t_generator, .ref a_t_program, .ref a_t_costs, .ref a_t_history, .ref a_t_machine, .ref a_t_tidier, .ref a_t_listing])), (a_t_program, .inr (4, [.int t_program_width, .int t_program_length, .int t_program_result, .int t_program_taskKind, .int t_program_taskDivisor, .ref a_t_program_operations, .ref a_t_program_firsts, .ref a_t_program_seconds])), (a_t_program_firsts, .inl (ca 0, 40, .inl f_t_program_firsts)), (a_t_program_seconds, .inl (ca 0, 40, .inl f_t_program_seconds))] → va_S A s.heap H locs → lv_has ls 3 [(0, .ref a_t), (1, .int x1), (2, .int x2)] → wX8_operandAt_25 f_t_program_firsts f_t_program_seconds x1 x2 Q → W p l e (headSpec (Cond.code yX8_operandAt cX8_operandAt 3 (some .int) :: wsG) ({ frames := 7, cells := 2, slots := 12, locals := 111 } : Room)).room s m ([.ref a_t, .int x1, .int x2] : List Value).toArray below meth c H locs 1 6 (vx_MQ below (qX8_operandAt D ca a_t a_t_generator a_t_program a_t_costs a_t_history a_t_machine a_t_tidier a_t_listing a_t_program_operations a_t_program_firsts a_t_program_seconds t_program_width t_program_length t_program_result t_program_taskKind t_program_taskDivisor f_t_program_firsts f_t_program_seconds Q A) (xEnd D ca [(a_t, .inr (6, [.ref a_t_generator, .ref a_t_program, .ref a_t_costs, .ref a_t_history, .ref a_t_machine, .ref a_t_tidier, .ref a_t_listing])), (a_t_program, .inr (4, [.int t_program_width, .int t_program_length, .int t_program_result, .int t_program_taskKind, .int t_program_taskDivisor, .ref a_t_program_operations, .ref a_t_program_firsts, .ref a_t_program_seconds])), (a_t_program_firsts, .inl (ca 0, 40, .inl f_t_program_firsts)), (a_t_program_seconds, .inl (ca 0, 40, .inl f_t_program_seconds))] QX A) ([.ref a_t, .int x1, .int x2] : List Value).toArray s 2 12 A) (F0 m 25 ls []) := by
    intro  H locs ls hP hD hS hl h
    unfold wX8_operandAt_25 at h
    refine lv_iload_n hx hb dX8_operandAt_25 rfl (lv_at hl 2 rfl) ?_
    refine lv_if_ne (tgt := 41) hx hb dX8_operandAt_26 (by decide) (fun c9 => ?_) (fun c9 => ?_)
    · have h := h.2 c9
      refine lv_aload_n hx hb dX8_operandAt_41 rfl (lv_at hl 0 rfl) ?_
      refine va_get (D := D) (ci := 6) (v := .ref a_t_program) (C := RX8) (T := TX8) (N := 7) hx hb hq inX8g hown hK hP 0 rfl rfl 1 (by decide) (hq _ q_170) (fun _ h9 => h9) rfl dX8_operandAt_42 ?_
      refine va_get (D := D) (ci := 4) (v := .ref a_t_program_seconds) (C := RX5) (T := TX5) (N := 8) hx hb hq inX5g hown hK hP 1 rfl rfl 7 (by decide) (hq _ q_75) (fun _ h9 => h9) rfl dX8_operandAt_45 ?_
      refine lv_iload_n hx hb dX8_operandAt_48 rfl (lv_at hl 1 rfl) ?_
      obtain ⟨hi9, h⟩ := h
      refine va_iald hx hb hK hP 3 0 rfl rfl hi9 dX8_operandAt_49 ?_
      refine W.widen (k := 2) (n := 12) (Nat.le_of_ble_eq_true rfl) (Nat.le_of_ble_eq_true rfl) ?_
      refine vx_ret ?_
      exact W.iret (v := f_t_program_seconds x1.toNatClampNeg) hx hb hr (fun t ht hW => ⟨⟨f_t_program_seconds x1.toNatClampNeg, (), rfl, h, by rw [ht]; exact hP, va_K.moved hW.alike hK, hD⟩, hS.F ht⟩) hS.2.2 dX8_operandAt_50
    · have h := h.1 c9
      refine lv_aload_n hx hb dX8_operandAt_29 rfl (lv_at hl 0 rfl) ?_
      refine va_get (D := D) (ci := 6) (v := .ref a_t_program) (C := RX8) (T := TX8) (N := 7) hx hb hq inX8g hown hK hP 0 rfl rfl 1 (by decide) (hq _ q_170) (fun _ h9 => h9) rfl dX8_operandAt_30 ?_
      refine va_get (D := D) (ci := 4) (v := .ref a_t_program_firsts) (C := RX5) (T := TX5) (N := 8) hx hb hq inX5g hown hK hP 1 rfl rfl 6 (by decide) (hq _ q_70) (fun _ h9 => h9) rfl dX8_operandAt_33 ?_
      refine lv_iload_n hx hb dX8_operandAt_36 rfl (lv_at hl 1 rfl) ?_
      obtain ⟨hi9, h⟩ := h
      refine va_iald hx hb hK hP 2 0 rfl rfl hi9 dX8_operandAt_37 ?_
      refine lv_goto (tgt := 50) hx hb dX8_operandAt_38 (by decide) ?_
      refine W.widen (k := 2) (n := 12) (Nat.le_of_ble_eq_true rfl) (Nat.le_of_ble_eq_true rfl) ?_
      refine vx_ret ?_
      exact W.iret (v := f_t_program_firsts x1.toNatClampNeg) hx hb hr (fun t ht hW => ⟨⟨f_t_program_firsts x1.toNatClampNeg, (), rfl, h, by rw [ht]; exact hP, va_K.moved hW.alike hK, hD⟩, hS.F ht⟩) hS.2.2 dX8_operandAt_50
  refine lv_if_eq (tgt := 25) hx hb dX8_operandAt_6 (by decide) (fun c9 => ?_) (fun c9 => ?_)
  · have h := h.1 c9
    exact hJ25 _ _ _ hP hD hS (lv_sub hl [0, 1, 2] rfl) h
  · have h := h.2 c9
    refine lv_iload_n hx hb dX8_operandAt_9 rfl (lv_at hl 2 rfl) ?_
    refine lv_iconst (v := 1) hx hb dX8_operandAt_10 (by decide) ?_
    refine lv_icmp_eq (tgt := 25) hx hb dX8_operandAt_11 (by decide) (fun c9 => ?_) (fun c9 => ?_)
    · have h := h.1 c9
      exact hJ25 _ _ _ hP hD hS (lv_sub hl [0, 1, 2] rfl) h
    · have h := h.2 c9
      exact x_throwW (nmx := xIO) (text := "side is not 0 or 1") hx hb hl0 hown hX (by decide) (by decide) (hq _ q_364) (hq _ q_15) (xh_IO hq hX.2.2.2.2.1 hX.2.2.2.2.2.1) xg_IO hS (hl.1.trans hml.symm) dX8_operandAt_14 dX8_operandAt_17 dX8_operandAt_18 dX8_operandAt_21 dX8_operandAt_24 htab (Nat.le_of_ble_eq_true rfl) (Nat.le_of_ble_eq_true rfl) (Nat.le_of_ble_eq_true rfl) (Nat.le_of_ble_eq_true rfl) hlocks (fun t hvm h1 h2 => ⟨(), trivial, ⟨h, fun k q h3 => (hP k q h3).kept (h2 q.1 (hP k q h3).lt), va_K.moved hvm hK, hD⟩, ⟨Nat.le_trans hS.1 h1, fun q h3 h4 => (h2 q (Nat.lt_of_lt_of_le h3 hS.1)).trans (hS.2.1 q h3 h4)⟩⟩) hS.2.2 (Nat.le_of_ble_eq_true rfl) (Nat.le_of_ble_eq_true rfl)

abbrev qX8_operand (D : va_G) (ca : Nat → ClassId) (a_t a_t_generator a_t_program a_t_costs a_t_history a_t_machine a_t_tidier a_t_listing a_t_program_operations a_t_program_firsts a_t_program_seconds : Nat) (t_program_width : Int32) (t_program_length : Int32) (t_program_result : Int32) (t_program_taskKind : Int32) (t_program_taskDivisor : Int32) (f_t_program_firsts : Nat → Int32) (f_t_program_seconds : Nat → Int32) (Q : Int32 → Prop) (A : Nat → Prop) : Array Value → State → Outcome → State → Prop := va_Qi (fun (r : Int32) (_ : Unit) => Q r) (wEnd D ca (fun _ : Unit => [(a_t, .inr (6, [.ref a_t_generator, .ref a_t_program, .ref a_t_costs, .ref a_t_history, .ref a_t_machine, .ref a_t_tidier, .ref a_t_listing])), (a_t_program, .inr (4, [.int t_program_width, .int t_program_length, .int t_program_result, .int t_program_taskKind, .int t_program_taskDivisor, .ref a_t_program_operations, .ref a_t_program_firsts, .ref a_t_program_seconds])), (a_t_program_firsts, .inl (ca 0, 40, .inl f_t_program_firsts)), (a_t_program_seconds, .inl (ca 0, 40, .inl f_t_program_seconds))]) A) A
def wX8_operand (t_program_length : Int32) (f_t_program_firsts : Nat → Int32) (f_t_program_seconds : Nat → Int32) (x1 : Int32) (x2 : Int32) (Q : Int32 → Prop) (QX : String → Prop) : Prop :=
  wX8_operandAt t_program_length f_t_program_firsts f_t_program_seconds x1 x2 (fun r_3 => wX5_numberOf r_3 (fun r_6 => Q r_6)) QX
set_option maxHeartbeats 4000000 in
set_option maxRecDepth 100000 in
theorem mX8_operand (l : Launch) (hl0 : l.stackTraces = false) (D : va_G) (ca : Nat → ClassId) (a_t a_t_generator a_t_program a_t_costs a_t_history a_t_machine a_t_tidier a_t_listing a_t_program_operations a_t_program_firsts a_t_program_seconds : Nat) (sz : Nat) (t_program_width : Int32) (t_program_length : Int32) (t_program_result : Int32) (t_program_taskKind : Int32) (t_program_taskDivisor : Int32) (f_t_program_firsts : Nat → Int32) (f_t_program_seconds : Nat → Int32) (x1 : Int32) (x2 : Int32) (Q : Int32 → Prop) (QX : String → Prop) (h : wX8_operand t_program_length f_t_program_firsts f_t_program_seconds x1 x2 Q QX) : vx_Met l yX8_operand (Cond.code yX8_operand cX8_operand 3 (some .int) :: wsG) ({ frames := 8, cells := 2, slots := 12, locals := 133 } : Room) (va_Pc [.ref a_t, .int x1, .int x2] (xPre D ca [(a_t, .inr (6, [.ref a_t_generator, .ref a_t_program, .ref a_t_costs, .ref a_t_history, .ref a_t_machine, .ref a_t_tidier, .ref a_t_listing])), (a_t_program, .inr (4, [.int t_program_width, .int t_program_length, .int t_program_result, .int t_program_taskKind, .int t_program_taskDivisor, .ref a_t_program_operations, .ref a_t_program_firsts, .ref a_t_program_seconds])), (a_t_program_firsts, .inl (ca 0, 40, .inl f_t_program_firsts)), (a_t_program_seconds, .inl (ca 0, 40, .inl f_t_program_seconds))] sz)) (qX8_operand D ca a_t a_t_generator a_t_program a_t_costs a_t_history a_t_machine a_t_tidier a_t_listing a_t_program_operations a_t_program_firsts a_t_program_seconds t_program_width t_program_length t_program_result t_program_taskKind t_program_taskDivisor f_t_program_firsts f_t_program_seconds Q (va_A [(a_t, .inr (6, [.ref a_t_generator, .ref a_t_program, .ref a_t_costs, .ref a_t_history, .ref a_t_machine, .ref a_t_tidier, .ref a_t_listing])), (a_t_program, .inr (4, [.int t_program_width, .int t_program_length, .int t_program_result, .int t_program_taskKind, .int t_program_taskDivisor, .ref a_t_program_operations, .ref a_t_program_firsts, .ref a_t_program_seconds])), (a_t_program_firsts, .inl (ca 0, 40, .inl f_t_program_firsts)), (a_t_program_seconds, .inl (ca 0, 40, .inl f_t_program_seconds))] sz)) (xEnd D ca [(a_t, .inr (6, [.ref a_t_generator, .ref a_t_program, .ref a_t_costs, .ref a_t_history, .ref a_t_machine, .ref a_t_tidier, .ref a_t_listing])), (a_t_program, .inr (4, [.int t_program_width, .int t_program_length, .int t_program_result, .int t_program_taskKind, .int t_program_taskDivisor, .ref a_t_program_operations, .ref a_t_program_firsts, .ref a_t_program_seconds])), (a_t_program_firsts, .inl (ca 0, 40, .inl f_t_program_firsts)), (a_t_program_seconds, .inl (ca 0, 40, .inl f_t_program_seconds))] QX (va_A [(a_t, .inr (6, [.ref a_t_generator, .ref a_t_program, .ref a_t_costs, .ref a_t_history, .ref a_t_machine, .ref a_t_tidier, .ref a_t_listing])), (a_t_program, .inr (4, [.int t_program_width, .int t_program_length, .int t_program_result, .int t_program_taskKind, .int t_program_taskDivisor, .ref a_t_program_operations, .ref a_t_program_firsts, .ref a_t_program_seconds])), (a_t_program_firsts, .inl (ca 0, 40, .inl f_t_program_firsts)), (a_t_program_seconds, .inl (ca 0, 40, .inl f_t_program_seconds))] sz)) 2 12 (va_A [(a_t, .inr (6, [.ref a_t_generator, .ref a_t_program, .ref a_t_costs, .ref a_t_history, .ref a_t_machine, .ref a_t_tidier, .ref a_t_listing])), (a_t_program, .inr (4, [.int t_program_width, .int t_program_length, .int t_program_result, .int t_program_taskKind, .int t_program_taskDivisor, .ref a_t_program_operations, .ref a_t_program_firsts, .ref a_t_program_seconds])), (a_t_program_firsts, .inl (ca 0, 40, .inl f_t_program_firsts)), (a_t_program_seconds, .inl (ca 0, 40, .inl f_t_program_seconds))] sz) := by
  refine vx_ofW (cc := cX8_operand) (maxL := 3) (ret := (some .int)) (by decide) rfl ?_
  intro p e s m args below meth c s₁ B hml htab hv
  obtain ⟨rfl, ⟨hsz, hP, hK, hD0⟩, hX⟩ := hv
  have hx := B.exec
  have hb := B.bytes
  have hr := B.returns
  have hts := atoms_spec (ws := (Cond.code yX8_operand cX8_operand 3 (some .int) :: wsG)) B.pre
  have hq : ∀ w ∈ wsG, w.before _ s = true := fun w hw => hts w (List.mem_cons_of_mem _ hw)
  have hown : s.vm.findClass RX8 = some m.cls := findClass_of_methodNamed B.named
  have hlocks := B.notSynchronized
  subst hsz
  have hD := hD0.self (sz := s.heap.size)
  generalize hAe : va_A [(a_t, .inr (6, [.ref a_t_generator, .ref a_t_program, .ref a_t_costs, .ref a_t_history, .ref a_t_machine, .ref a_t_tidier, .ref a_t_listing])), (a_t_program, .inr (4, [.int t_program_width, .int t_program_length, .int t_program_result, .int t_program_taskKind, .int t_program_taskDivisor, .ref a_t_program_operations, .ref a_t_program_firsts, .ref a_t_program_seconds])), (a_t_program_firsts, .inl (ca 0, 40, .inl f_t_program_firsts)), (a_t_program_seconds, .inl (ca 0, 40, .inl f_t_program_seconds))] s.heap.size = A at hD hX ⊢
  have hA : ∀ q : Nat, s.heap.size ≤ q → A q := fun q h => by rw [← hAe]; exact Or.inr h
  have hS : va_S A s.heap s.heap [] := va_S.rf
  have hP : va_P D vwCl [(a_t, .inr (6, [.ref a_t_generator, .ref a_t_program, .ref a_t_costs, .ref a_t_history, .ref a_t_machine, .ref a_t_tidier, .ref a_t_listing])), (a_t_program, .inr (4, [.int t_program_width, .int t_program_length, .int t_program_result, .int t_program_taskKind, .int t_program_taskDivisor, .ref a_t_program_operations, .ref a_t_program_firsts, .ref a_t_program_seconds])), (a_t_program_firsts, .inl (ca 0, 40, .inl f_t_program_firsts)), (a_t_program_seconds, .inl (ca 0, 40, .inl f_t_program_seconds))] s.heap := hP
  have hl := lv_entry ([.ref a_t, .int x1, .int x2]) (n := 3) (Nat.le_of_ble_eq_true rfl)
  rw [lg_entry_eq]
  generalize (lg_sl ([.ref a_t, .int x1, .int x2]) ++ List.replicate (3 - (lg_sl ([.ref a_t, .int x1, .int x2])).length) Slot.unset).toArray = ls at hl ⊢
  have hl : lv_has ls 3 [(0, .ref a_t), (1, .int x1), (2, .int x2)] := hl
  unfold wX8_operand at h
  refine lv_aload_n hx hb dX8_operand_0 rfl (lv_at hl 0 rfl) ?_
  refine lv_iload_n hx hb dX8_operand_1 rfl (lv_at hl 1 rfl) ?_
  refine lv_iload_n hx hb dX8_operand_2 rfl (lv_at hl 2 rfl) ?_
  refine xVi (As := [.int x1, .int x2]) (rest := []) (wc := [(a_t, .inr (6, [.ref a_t_generator, .ref a_t_program, .ref a_t_costs, .ref a_t_history, .ref a_t_machine, .ref a_t_tidier, .ref a_t_listing])), (a_t_program, .inr (4, [.int t_program_width, .int t_program_length, .int t_program_result, .int t_program_taskKind, .int t_program_taskDivisor, .ref a_t_program_operations, .ref a_t_program_firsts, .ref a_t_program_seconds])), (a_t_program_firsts, .inl (ca 0, 40, .inl f_t_program_firsts)), (a_t_program_seconds, .inl (ca 0, 40, .inl f_t_program_seconds))]) (wr := []) (w1 := fun _ : Unit => [(a_t, .inr (6, [.ref a_t_generator, .ref a_t_program, .ref a_t_costs, .ref a_t_history, .ref a_t_machine, .ref a_t_tidier, .ref a_t_listing])), (a_t_program, .inr (4, [.int t_program_width, .int t_program_length, .int t_program_result, .int t_program_taskKind, .int t_program_taskDivisor, .ref a_t_program_operations, .ref a_t_program_firsts, .ref a_t_program_seconds])), (a_t_program_firsts, .inl (ca 0, 40, .inl f_t_program_firsts)), (a_t_program_seconds, .inl (ca 0, 40, .inl f_t_program_seconds))]) (ws2 := fun _ : Unit => [(a_t, .inr (6, [.ref a_t_generator, .ref a_t_program, .ref a_t_costs, .ref a_t_history, .ref a_t_machine, .ref a_t_tidier, .ref a_t_listing])), (a_t_program, .inr (4, [.int t_program_width, .int t_program_length, .int t_program_result, .int t_program_taskKind, .int t_program_taskDivisor, .ref a_t_program_operations, .ref a_t_program_firsts, .ref a_t_program_seconds])), (a_t_program_firsts, .inl (ca 0, 40, .inl f_t_program_firsts)), (a_t_program_seconds, .inl (ca 0, 40, .inl f_t_program_seconds))]) ⟨hx, hb, hml, hown, hts⟩ (mX8_operandAt l hl0 D ca a_t a_t_generator a_t_program a_t_costs a_t_history a_t_machine a_t_tidier a_t_listing a_t_program_operations a_t_program_firsts a_t_program_seconds _ t_program_width t_program_length t_program_result t_program_taskKind t_program_taskDivisor f_t_program_firsts f_t_program_seconds x1 x2 _ _ h) (cwV 2 hts (gV q_632 q_634 qs_23 q_1 q_635) rfl rfl rfl (by decide +kernel) ⟨Nat.le_of_ble_eq_true rfl, Nat.le_of_ble_eq_true rfl⟩) hX hK hP hD hS hA [0, 1, 2, 3] [] [0, 1, 2, 3] rfl rfl rfl (by decide) (fun _ => rfl) rfl (ci := 6) (q0 := 0) rfl rfl rfl hl.1 rfl (Nat.le_of_ble_eq_true rfl) dX8_operand_3 ⟨Nat.le_of_ble_eq_true rfl, Nat.le_of_ble_eq_true rfl⟩ (fun E ce q9 H1 locs hE hP hS h1 h2 h3 => x_out htab hlocks hK hP hD hS hE h1 h2 h3 (Nat.le_of_ble_eq_true rfl) (Nat.le_of_ble_eq_true rfl)) (fun r_3 u9 H locs h hP hD hS => ?_)
  try dsimp only at h
  refine cPi (As := [.int r_3]) (rest := []) ⟨hx, hb, hml, hown, hts⟩ (mX5_numberOf l r_3 _ h) (va_cwS 1 hts (gS q_536 q_225 q_3 q_226) rfl rfl rfl (by decide +kernel) ⟨Nat.le_of_ble_eq_true rfl, Nat.le_of_ble_eq_true rfl⟩) hS rfl hl.1 rfl (Nat.le_of_ble_eq_true rfl) dX8_operand_6 ⟨Nat.le_of_ble_eq_true rfl, Nat.le_of_ble_eq_true rfl⟩ (fun r_6 H1 locs h hk1 hS => ?_)
  have hP := s_back hP hk1
  try dsimp only at h
  refine W.widen (k := 2) (n := 12) (Nat.le_of_ble_eq_true rfl) (Nat.le_of_ble_eq_true rfl) ?_
  refine vx_ret ?_
  exact W.iret (v := r_6) hx hb hr (fun t ht hW => ⟨⟨r_6, (), rfl, h, by rw [ht]; exact hP, va_K.moved hW.alike hK, hD⟩, hS.F ht⟩) hS.2.2 dX8_operand_9

abbrev qX8_isConstant (D : va_G) (ca : Nat → ClassId) (a_t a_t_generator a_t_program a_t_costs a_t_history a_t_machine a_t_tidier a_t_listing a_t_program_operations a_t_program_firsts a_t_program_seconds : Nat) (t_program_width : Int32) (t_program_length : Int32) (t_program_result : Int32) (t_program_taskKind : Int32) (t_program_taskDivisor : Int32) (f_t_program_firsts : Nat → Int32) (f_t_program_seconds : Nat → Int32) (Q : Int32 → Prop) (A : Nat → Prop) : Array Value → State → Outcome → State → Prop := va_Qi (fun (r : Int32) (_ : Unit) => Q r) (wEnd D ca (fun _ : Unit => [(a_t, .inr (6, [.ref a_t_generator, .ref a_t_program, .ref a_t_costs, .ref a_t_history, .ref a_t_machine, .ref a_t_tidier, .ref a_t_listing])), (a_t_program, .inr (4, [.int t_program_width, .int t_program_length, .int t_program_result, .int t_program_taskKind, .int t_program_taskDivisor, .ref a_t_program_operations, .ref a_t_program_firsts, .ref a_t_program_seconds])), (a_t_program_firsts, .inl (ca 0, 40, .inl f_t_program_firsts)), (a_t_program_seconds, .inl (ca 0, 40, .inl f_t_program_seconds))]) A) A
def wX8_isConstant (t_program_length : Int32) (f_t_program_firsts : Nat → Int32) (f_t_program_seconds : Nat → Int32) (x1 : Int32) (x2 : Int32) (Q : Int32 → Prop) (QX : String → Prop) : Prop :=
  wX8_operandAt t_program_length f_t_program_firsts f_t_program_seconds x1 x2 (fun r_3 => wX5_isValue r_3 (fun r_6 => ((r_6 = 0 → Q 1) ∧ (¬ r_6 = 0 → Q 0)))) QX
set_option maxHeartbeats 4000000 in
set_option maxRecDepth 100000 in
theorem mX8_isConstant (l : Launch) (hl0 : l.stackTraces = false) (D : va_G) (ca : Nat → ClassId) (a_t a_t_generator a_t_program a_t_costs a_t_history a_t_machine a_t_tidier a_t_listing a_t_program_operations a_t_program_firsts a_t_program_seconds : Nat) (sz : Nat) (t_program_width : Int32) (t_program_length : Int32) (t_program_result : Int32) (t_program_taskKind : Int32) (t_program_taskDivisor : Int32) (f_t_program_firsts : Nat → Int32) (f_t_program_seconds : Nat → Int32) (x1 : Int32) (x2 : Int32) (Q : Int32 → Prop) (QX : String → Prop) (h : wX8_isConstant t_program_length f_t_program_firsts f_t_program_seconds x1 x2 Q QX) : vx_Met l yX8_isConstant (Cond.code yX8_isConstant cX8_isConstant 3 (some .boolean) :: wsG) ({ frames := 8, cells := 2, slots := 12, locals := 133 } : Room) (va_Pc [.ref a_t, .int x1, .int x2] (xPre D ca [(a_t, .inr (6, [.ref a_t_generator, .ref a_t_program, .ref a_t_costs, .ref a_t_history, .ref a_t_machine, .ref a_t_tidier, .ref a_t_listing])), (a_t_program, .inr (4, [.int t_program_width, .int t_program_length, .int t_program_result, .int t_program_taskKind, .int t_program_taskDivisor, .ref a_t_program_operations, .ref a_t_program_firsts, .ref a_t_program_seconds])), (a_t_program_firsts, .inl (ca 0, 40, .inl f_t_program_firsts)), (a_t_program_seconds, .inl (ca 0, 40, .inl f_t_program_seconds))] sz)) (qX8_isConstant D ca a_t a_t_generator a_t_program a_t_costs a_t_history a_t_machine a_t_tidier a_t_listing a_t_program_operations a_t_program_firsts a_t_program_seconds t_program_width t_program_length t_program_result t_program_taskKind t_program_taskDivisor f_t_program_firsts f_t_program_seconds Q (va_A [(a_t, .inr (6, [.ref a_t_generator, .ref a_t_program, .ref a_t_costs, .ref a_t_history, .ref a_t_machine, .ref a_t_tidier, .ref a_t_listing])), (a_t_program, .inr (4, [.int t_program_width, .int t_program_length, .int t_program_result, .int t_program_taskKind, .int t_program_taskDivisor, .ref a_t_program_operations, .ref a_t_program_firsts, .ref a_t_program_seconds])), (a_t_program_firsts, .inl (ca 0, 40, .inl f_t_program_firsts)), (a_t_program_seconds, .inl (ca 0, 40, .inl f_t_program_seconds))] sz)) (xEnd D ca [(a_t, .inr (6, [.ref a_t_generator, .ref a_t_program, .ref a_t_costs, .ref a_t_history, .ref a_t_machine, .ref a_t_tidier, .ref a_t_listing])), (a_t_program, .inr (4, [.int t_program_width, .int t_program_length, .int t_program_result, .int t_program_taskKind, .int t_program_taskDivisor, .ref a_t_program_operations, .ref a_t_program_firsts, .ref a_t_program_seconds])), (a_t_program_firsts, .inl (ca 0, 40, .inl f_t_program_firsts)), (a_t_program_seconds, .inl (ca 0, 40, .inl f_t_program_seconds))] QX (va_A [(a_t, .inr (6, [.ref a_t_generator, .ref a_t_program, .ref a_t_costs, .ref a_t_history, .ref a_t_machine, .ref a_t_tidier, .ref a_t_listing])), (a_t_program, .inr (4, [.int t_program_width, .int t_program_length, .int t_program_result, .int t_program_taskKind, .int t_program_taskDivisor, .ref a_t_program_operations, .ref a_t_program_firsts, .ref a_t_program_seconds])), (a_t_program_firsts, .inl (ca 0, 40, .inl f_t_program_firsts)), (a_t_program_seconds, .inl (ca 0, 40, .inl f_t_program_seconds))] sz)) 2 12 (va_A [(a_t, .inr (6, [.ref a_t_generator, .ref a_t_program, .ref a_t_costs, .ref a_t_history, .ref a_t_machine, .ref a_t_tidier, .ref a_t_listing])), (a_t_program, .inr (4, [.int t_program_width, .int t_program_length, .int t_program_result, .int t_program_taskKind, .int t_program_taskDivisor, .ref a_t_program_operations, .ref a_t_program_firsts, .ref a_t_program_seconds])), (a_t_program_firsts, .inl (ca 0, 40, .inl f_t_program_firsts)), (a_t_program_seconds, .inl (ca 0, 40, .inl f_t_program_seconds))] sz) := by
  refine vx_ofW (cc := cX8_isConstant) (maxL := 3) (ret := (some .boolean)) (by decide) rfl ?_
  intro p e s m args below meth c s₁ B hml htab hv
  obtain ⟨rfl, ⟨hsz, hP, hK, hD0⟩, hX⟩ := hv
  have hx := B.exec
  have hb := B.bytes
  have hr := B.returns
  have hts := atoms_spec (ws := (Cond.code yX8_isConstant cX8_isConstant 3 (some .boolean) :: wsG)) B.pre
  have hq : ∀ w ∈ wsG, w.before _ s = true := fun w hw => hts w (List.mem_cons_of_mem _ hw)
  have hown : s.vm.findClass RX8 = some m.cls := findClass_of_methodNamed B.named
  have hlocks := B.notSynchronized
  subst hsz
  have hD := hD0.self (sz := s.heap.size)
  generalize hAe : va_A [(a_t, .inr (6, [.ref a_t_generator, .ref a_t_program, .ref a_t_costs, .ref a_t_history, .ref a_t_machine, .ref a_t_tidier, .ref a_t_listing])), (a_t_program, .inr (4, [.int t_program_width, .int t_program_length, .int t_program_result, .int t_program_taskKind, .int t_program_taskDivisor, .ref a_t_program_operations, .ref a_t_program_firsts, .ref a_t_program_seconds])), (a_t_program_firsts, .inl (ca 0, 40, .inl f_t_program_firsts)), (a_t_program_seconds, .inl (ca 0, 40, .inl f_t_program_seconds))] s.heap.size = A at hD hX ⊢
  have hA : ∀ q : Nat, s.heap.size ≤ q → A q := fun q h => by rw [← hAe]; exact Or.inr h
  have hS : va_S A s.heap s.heap [] := va_S.rf
  have hP : va_P D vwCl [(a_t, .inr (6, [.ref a_t_generator, .ref a_t_program, .ref a_t_costs, .ref a_t_history, .ref a_t_machine, .ref a_t_tidier, .ref a_t_listing])), (a_t_program, .inr (4, [.int t_program_width, .int t_program_length, .int t_program_result, .int t_program_taskKind, .int t_program_taskDivisor, .ref a_t_program_operations, .ref a_t_program_firsts, .ref a_t_program_seconds])), (a_t_program_firsts, .inl (ca 0, 40, .inl f_t_program_firsts)), (a_t_program_seconds, .inl (ca 0, 40, .inl f_t_program_seconds))] s.heap := hP
  have hl := lv_entry ([.ref a_t, .int x1, .int x2]) (n := 3) (Nat.le_of_ble_eq_true rfl)
  rw [lg_entry_eq]
  generalize (lg_sl ([.ref a_t, .int x1, .int x2]) ++ List.replicate (3 - (lg_sl ([.ref a_t, .int x1, .int x2])).length) Slot.unset).toArray = ls at hl ⊢
  have hl : lv_has ls 3 [(0, .ref a_t), (1, .int x1), (2, .int x2)] := hl
  unfold wX8_isConstant at h
  refine lv_aload_n hx hb dX8_isConstant_0 rfl (lv_at hl 0 rfl) ?_
  refine lv_iload_n hx hb dX8_isConstant_1 rfl (lv_at hl 1 rfl) ?_
  refine lv_iload_n hx hb dX8_isConstant_2 rfl (lv_at hl 2 rfl) ?_
  refine xVi (As := [.int x1, .int x2]) (rest := []) (wc := [(a_t, .inr (6, [.ref a_t_generator, .ref a_t_program, .ref a_t_costs, .ref a_t_history, .ref a_t_machine, .ref a_t_tidier, .ref a_t_listing])), (a_t_program, .inr (4, [.int t_program_width, .int t_program_length, .int t_program_result, .int t_program_taskKind, .int t_program_taskDivisor, .ref a_t_program_operations, .ref a_t_program_firsts, .ref a_t_program_seconds])), (a_t_program_firsts, .inl (ca 0, 40, .inl f_t_program_firsts)), (a_t_program_seconds, .inl (ca 0, 40, .inl f_t_program_seconds))]) (wr := []) (w1 := fun _ : Unit => [(a_t, .inr (6, [.ref a_t_generator, .ref a_t_program, .ref a_t_costs, .ref a_t_history, .ref a_t_machine, .ref a_t_tidier, .ref a_t_listing])), (a_t_program, .inr (4, [.int t_program_width, .int t_program_length, .int t_program_result, .int t_program_taskKind, .int t_program_taskDivisor, .ref a_t_program_operations, .ref a_t_program_firsts, .ref a_t_program_seconds])), (a_t_program_firsts, .inl (ca 0, 40, .inl f_t_program_firsts)), (a_t_program_seconds, .inl (ca 0, 40, .inl f_t_program_seconds))]) (ws2 := fun _ : Unit => [(a_t, .inr (6, [.ref a_t_generator, .ref a_t_program, .ref a_t_costs, .ref a_t_history, .ref a_t_machine, .ref a_t_tidier, .ref a_t_listing])), (a_t_program, .inr (4, [.int t_program_width, .int t_program_length, .int t_program_result, .int t_program_taskKind, .int t_program_taskDivisor, .ref a_t_program_operations, .ref a_t_program_firsts, .ref a_t_program_seconds])), (a_t_program_firsts, .inl (ca 0, 40, .inl f_t_program_firsts)), (a_t_program_seconds, .inl (ca 0, 40, .inl f_t_program_seconds))]) ⟨hx, hb, hml, hown, hts⟩ (mX8_operandAt l hl0 D ca a_t a_t_generator a_t_program a_t_costs a_t_history a_t_machine a_t_tidier a_t_listing a_t_program_operations a_t_program_firsts a_t_program_seconds _ t_program_width t_program_length t_program_result t_program_taskKind t_program_taskDivisor f_t_program_firsts f_t_program_seconds x1 x2 _ _ h) (cwV 2 hts (gV q_632 q_634 qs_23 q_1 q_635) rfl rfl rfl (by decide +kernel) ⟨Nat.le_of_ble_eq_true rfl, Nat.le_of_ble_eq_true rfl⟩) hX hK hP hD hS hA [0, 1, 2, 3] [] [0, 1, 2, 3] rfl rfl rfl (by decide) (fun _ => rfl) rfl (ci := 6) (q0 := 0) rfl rfl rfl hl.1 rfl (Nat.le_of_ble_eq_true rfl) dX8_isConstant_3 ⟨Nat.le_of_ble_eq_true rfl, Nat.le_of_ble_eq_true rfl⟩ (fun E ce q9 H1 locs hE hP hS h1 h2 h3 => x_out htab hlocks hK hP hD hS hE h1 h2 h3 (Nat.le_of_ble_eq_true rfl) (Nat.le_of_ble_eq_true rfl)) (fun r_3 u9 H locs h hP hD hS => ?_)
  try dsimp only at h
  refine cPi (As := [.int r_3]) (rest := []) ⟨hx, hb, hml, hown, hts⟩ (mX5_isValue l r_3 _ h) (va_cwS 1 hts (gS q_644 q_222 q_3 q_223) rfl rfl rfl (by decide +kernel) ⟨Nat.le_of_ble_eq_true rfl, Nat.le_of_ble_eq_true rfl⟩) hS rfl hl.1 rfl (Nat.le_of_ble_eq_true rfl) dX8_isConstant_6 ⟨Nat.le_of_ble_eq_true rfl, Nat.le_of_ble_eq_true rfl⟩ (fun r_6 H1 locs h hk1 hS => ?_)
  have hP := s_back hP hk1
  try dsimp only at h
  refine lv_if_ne (tgt := 16) hx hb dX8_isConstant_9 (by decide) (fun c9 => ?_) (fun c9 => ?_)
  · have h := h.2 c9
    refine lv_iconst (v := 0) hx hb dX8_isConstant_16 (by decide) ?_
    refine W.widen (k := 2) (n := 12) (Nat.le_of_ble_eq_true rfl) (Nat.le_of_ble_eq_true rfl) ?_
    refine vx_ret ?_
    exact W.zret (v := 0) hx hb hr rfl (fun t ht hW => ⟨⟨0, (), rfl, h, by rw [ht]; exact hP, va_K.moved hW.alike hK, hD⟩, hS.F ht⟩) hS.2.2 dX8_isConstant_17
  · have h := h.1 c9
    refine lv_iconst (v := 1) hx hb dX8_isConstant_12 (by decide) ?_
    refine lv_goto (tgt := 17) hx hb dX8_isConstant_13 (by decide) ?_
    refine W.widen (k := 2) (n := 12) (Nat.le_of_ble_eq_true rfl) (Nat.le_of_ble_eq_true rfl) ?_
    refine vx_ret ?_
    exact W.zret (v := 1) hx hb hr rfl (fun t ht hW => ⟨⟨1, (), rfl, h, by rw [ht]; exact hP, va_K.moved hW.alike hK, hD⟩, hS.F ht⟩) hS.2.2 dX8_isConstant_17

abbrev qX8_result (D : va_G) (ca : Nat → ClassId) (a_t a_t_generator a_t_program a_t_costs a_t_history a_t_machine a_t_tidier a_t_listing a_t_program_operations a_t_program_firsts a_t_program_seconds : Nat) (t_program_width : Int32) (t_program_length : Int32) (t_program_result : Int32) (t_program_taskKind : Int32) (t_program_taskDivisor : Int32) (Q : Int32 → Prop) (A : Nat → Prop) : Array Value → State → Outcome → State → Prop := va_Qi (fun (r : Int32) (_ : Unit) => Q r) (wEnd D ca (fun _ : Unit => [(a_t, .inr (6, [.ref a_t_generator, .ref a_t_program, .ref a_t_costs, .ref a_t_history, .ref a_t_machine, .ref a_t_tidier, .ref a_t_listing])), (a_t_program, .inr (4, [.int t_program_width, .int t_program_length, .int t_program_result, .int t_program_taskKind, .int t_program_taskDivisor, .ref a_t_program_operations, .ref a_t_program_firsts, .ref a_t_program_seconds]))]) A) A
def wX8_result (t_program_result : Int32) (Q : Int32 → Prop) : Prop :=
  Q t_program_result
set_option maxHeartbeats 4000000 in
set_option maxRecDepth 100000 in
theorem mX8_result (l : Launch) (D : va_G) (ca : Nat → ClassId) (a_t a_t_generator a_t_program a_t_costs a_t_history a_t_machine a_t_tidier a_t_listing a_t_program_operations a_t_program_firsts a_t_program_seconds : Nat) (sz : Nat) (t_program_width : Int32) (t_program_length : Int32) (t_program_result : Int32) (t_program_taskKind : Int32) (t_program_taskDivisor : Int32) (Q : Int32 → Prop) (h : wX8_result t_program_result Q) : Met l yX8_result (Cond.code yX8_result cX8_result 1 (some .int) :: wsG) ({ frames := 0, cells := 0, slots := 0, locals := 0 } : Room) (va_Pc [.ref a_t] (wPre D ca [(a_t, .inr (6, [.ref a_t_generator, .ref a_t_program, .ref a_t_costs, .ref a_t_history, .ref a_t_machine, .ref a_t_tidier, .ref a_t_listing])), (a_t_program, .inr (4, [.int t_program_width, .int t_program_length, .int t_program_result, .int t_program_taskKind, .int t_program_taskDivisor, .ref a_t_program_operations, .ref a_t_program_firsts, .ref a_t_program_seconds]))] sz)) (qX8_result D ca a_t a_t_generator a_t_program a_t_costs a_t_history a_t_machine a_t_tidier a_t_listing a_t_program_operations a_t_program_firsts a_t_program_seconds t_program_width t_program_length t_program_result t_program_taskKind t_program_taskDivisor Q (va_A [(a_t, .inr (6, [.ref a_t_generator, .ref a_t_program, .ref a_t_costs, .ref a_t_history, .ref a_t_machine, .ref a_t_tidier, .ref a_t_listing])), (a_t_program, .inr (4, [.int t_program_width, .int t_program_length, .int t_program_result, .int t_program_taskKind, .int t_program_taskDivisor, .ref a_t_program_operations, .ref a_t_program_firsts, .ref a_t_program_seconds]))] sz)) 0 0 (va_A [(a_t, .inr (6, [.ref a_t_generator, .ref a_t_program, .ref a_t_costs, .ref a_t_history, .ref a_t_machine, .ref a_t_tidier, .ref a_t_listing])), (a_t_program, .inr (4, [.int t_program_width, .int t_program_length, .int t_program_result, .int t_program_taskKind, .int t_program_taskDivisor, .ref a_t_program_operations, .ref a_t_program_firsts, .ref a_t_program_seconds]))] sz) := by
  refine Met.ofW (cc := cX8_result) (maxL := 1) (ret := (some .int)) (by decide) rfl ?_
  intro p e s m args below meth c s₁ B hml hv
  obtain ⟨rfl, hsz, hP, hK, hD0⟩ := hv
  have hx := B.exec
  have hb := B.bytes
  have hr := B.returns
  have hts := atoms_spec (ws := (Cond.code yX8_result cX8_result 1 (some .int) :: wsG)) B.pre
  have hq : ∀ w ∈ wsG, w.before _ s = true := fun w hw => hts w (List.mem_cons_of_mem _ hw)
  have hown : s.vm.findClass RX8 = some m.cls := findClass_of_methodNamed B.named
  have hlocks := B.notSynchronized
  subst hsz
  have hD := hD0.self (sz := s.heap.size)
  generalize hAe : va_A [(a_t, .inr (6, [.ref a_t_generator, .ref a_t_program, .ref a_t_costs, .ref a_t_history, .ref a_t_machine, .ref a_t_tidier, .ref a_t_listing])), (a_t_program, .inr (4, [.int t_program_width, .int t_program_length, .int t_program_result, .int t_program_taskKind, .int t_program_taskDivisor, .ref a_t_program_operations, .ref a_t_program_firsts, .ref a_t_program_seconds]))] s.heap.size = A at hD ⊢
  have hA : ∀ q : Nat, s.heap.size ≤ q → A q := fun q h => by rw [← hAe]; exact Or.inr h
  have hS : va_S A s.heap s.heap [] := va_S.rf
  have hP : va_P D vwCl [(a_t, .inr (6, [.ref a_t_generator, .ref a_t_program, .ref a_t_costs, .ref a_t_history, .ref a_t_machine, .ref a_t_tidier, .ref a_t_listing])), (a_t_program, .inr (4, [.int t_program_width, .int t_program_length, .int t_program_result, .int t_program_taskKind, .int t_program_taskDivisor, .ref a_t_program_operations, .ref a_t_program_firsts, .ref a_t_program_seconds]))] s.heap := hP
  have hl := lv_entry ([.ref a_t]) (n := 1) (Nat.le_of_ble_eq_true rfl)
  rw [lg_entry_eq]
  generalize (lg_sl ([.ref a_t]) ++ List.replicate (1 - (lg_sl ([.ref a_t])).length) Slot.unset).toArray = ls at hl ⊢
  have hl : lv_has ls 1 [(0, .ref a_t)] := hl
  unfold wX8_result at h
  refine lv_aload_n hx hb dX8_result_0 rfl (lv_at hl 0 rfl) ?_
  refine va_get (D := D) (ci := 6) (v := .ref a_t_program) (C := RX8) (T := TX8) (N := 7) hx hb hq inX8g hown hK hP 0 rfl rfl 1 (by decide) (hq _ q_170) (fun _ h9 => h9) rfl dX8_result_1 ?_
  refine va_get (D := D) (ci := 4) (v := .int t_program_result) (C := RX5) (T := TX5) (N := 8) hx hb hq inX5g hown hK hP 1 rfl rfl 2 (by decide) (hq _ q_56) (fun _ h9 => h9) rfl dX8_result_4 ?_
  exact W.iret (v := t_program_result) hx hb hr (fun t ht hW => ⟨⟨t_program_result, (), rfl, h, by rw [ht]; exact hP, va_K.moved hW.alike hK, hD⟩, hS.F ht⟩) hS.2.2 dX8_result_7

abbrev qX8_cost (D : va_G) (ca : Nat → ClassId) (a_t a_t_generator a_t_program a_t_costs a_t_history a_t_machine a_t_tidier a_t_listing a_t_program_operations a_t_program_firsts a_t_program_seconds : Nat) (t_program_width : Int32) (t_program_length : Int32) (t_program_result : Int32) (t_program_taskKind : Int32) (t_program_taskDivisor : Int32) (f_t_program_operations : Nat → Int32) (f_t_costs : Nat → Int32) (Q : Int32 → Prop) (A : Nat → Prop) : Array Value → State → Outcome → State → Prop := va_Qi (fun (r : Int32) (_ : Unit) => Q r) (wEnd D ca (fun _ : Unit => [(a_t, .inr (6, [.ref a_t_generator, .ref a_t_program, .ref a_t_costs, .ref a_t_history, .ref a_t_machine, .ref a_t_tidier, .ref a_t_listing])), (a_t_program, .inr (4, [.int t_program_width, .int t_program_length, .int t_program_result, .int t_program_taskKind, .int t_program_taskDivisor, .ref a_t_program_operations, .ref a_t_program_firsts, .ref a_t_program_seconds])), (a_t_program_operations, .inl (ca 0, 40, .inl f_t_program_operations)), (a_t_costs, .inl (ca 0, 3, .inl f_t_costs))]) A) A
def wX8_cost_4 (t_program_length : Int32) (f_t_program_operations : Nat → Int32) (f_t_costs : Nat → Int32) (Q : Int32 → Prop) : Nat → Int32 → Int32 → Prop
  | 0, _, _ => False
  | n9 + 1, x1_4, x2_4 =>
  ((t_program_length ≤ x2_4 → Q x1_4) ∧ (¬ t_program_length ≤ x2_4 → (vp_in x2_4 40 ∧ wX3_costClass (f_t_program_operations x2_4.toNatClampNeg) (fun r_29 => (vp_in r_29 3 ∧ (∀ x1_34 : Int32, x1_34 = x1_4 + (f_t_costs r_29.toNatClampNeg) → (∀ x2_35 : Int32, x2_35 = x2_4 + 1 → (wX8_cost_4 t_program_length f_t_program_operations f_t_costs Q n9) x1_34 x2_35)))))))
def wX8_cost (t_program_length : Int32) (f_t_program_operations : Nat → Int32) (f_t_costs : Nat → Int32) (Q : Int32 → Prop) : Prop :=
  (∃ k9, wX8_cost_4 t_program_length f_t_program_operations f_t_costs Q k9 0 0)
set_option maxHeartbeats 4000000 in
set_option maxRecDepth 100000 in
theorem mX8_cost (l : Launch) (D : va_G) (ca : Nat → ClassId) (a_t a_t_generator a_t_program a_t_costs a_t_history a_t_machine a_t_tidier a_t_listing a_t_program_operations a_t_program_firsts a_t_program_seconds : Nat) (sz : Nat) (t_program_width : Int32) (t_program_length : Int32) (t_program_result : Int32) (t_program_taskKind : Int32) (t_program_taskDivisor : Int32) (f_t_program_operations : Nat → Int32) (f_t_costs : Nat → Int32) (Q : Int32 → Prop) (h : wX8_cost t_program_length f_t_program_operations f_t_costs Q) : Met l yX8_cost (Cond.code yX8_cost cX8_cost 3 (some .int) :: wsG) ({ frames := 1, cells := 0, slots := 0, locals := 20 } : Room) (va_Pc [.ref a_t] (wPre D ca [(a_t, .inr (6, [.ref a_t_generator, .ref a_t_program, .ref a_t_costs, .ref a_t_history, .ref a_t_machine, .ref a_t_tidier, .ref a_t_listing])), (a_t_program, .inr (4, [.int t_program_width, .int t_program_length, .int t_program_result, .int t_program_taskKind, .int t_program_taskDivisor, .ref a_t_program_operations, .ref a_t_program_firsts, .ref a_t_program_seconds])), (a_t_program_operations, .inl (ca 0, 40, .inl f_t_program_operations)), (a_t_costs, .inl (ca 0, 3, .inl f_t_costs))] sz)) (qX8_cost D ca a_t a_t_generator a_t_program a_t_costs a_t_history a_t_machine a_t_tidier a_t_listing a_t_program_operations a_t_program_firsts a_t_program_seconds t_program_width t_program_length t_program_result t_program_taskKind t_program_taskDivisor f_t_program_operations f_t_costs Q (va_A [(a_t, .inr (6, [.ref a_t_generator, .ref a_t_program, .ref a_t_costs, .ref a_t_history, .ref a_t_machine, .ref a_t_tidier, .ref a_t_listing])), (a_t_program, .inr (4, [.int t_program_width, .int t_program_length, .int t_program_result, .int t_program_taskKind, .int t_program_taskDivisor, .ref a_t_program_operations, .ref a_t_program_firsts, .ref a_t_program_seconds])), (a_t_program_operations, .inl (ca 0, 40, .inl f_t_program_operations)), (a_t_costs, .inl (ca 0, 3, .inl f_t_costs))] sz)) 0 0 (va_A [(a_t, .inr (6, [.ref a_t_generator, .ref a_t_program, .ref a_t_costs, .ref a_t_history, .ref a_t_machine, .ref a_t_tidier, .ref a_t_listing])), (a_t_program, .inr (4, [.int t_program_width, .int t_program_length, .int t_program_result, .int t_program_taskKind, .int t_program_taskDivisor, .ref a_t_program_operations, .ref a_t_program_firsts, .ref a_t_program_seconds])), (a_t_program_operations, .inl (ca 0, 40, .inl f_t_program_operations)), (a_t_costs, .inl (ca 0, 3, .inl f_t_costs))] sz) := by
  refine Met.ofW (cc := cX8_cost) (maxL := 3) (ret := (some .int)) (by decide) rfl ?_
  intro p e s m args below meth c s₁ B hml hv
  obtain ⟨rfl, hsz, hP, hK, hD0⟩ := hv
  have hx := B.exec
  have hb := B.bytes
  have hr := B.returns
  have hts := atoms_spec (ws := (Cond.code yX8_cost cX8_cost 3 (some .int) :: wsG)) B.pre
  have hq : ∀ w ∈ wsG, w.before _ s = true := fun w hw => hts w (List.mem_cons_of_mem _ hw)
  have hown : s.vm.findClass RX8 = some m.cls := findClass_of_methodNamed B.named
  have hlocks := B.notSynchronized
  subst hsz
  have hD := hD0.self (sz := s.heap.size)
  generalize hAe : va_A [(a_t, .inr (6, [.ref a_t_generator, .ref a_t_program, .ref a_t_costs, .ref a_t_history, .ref a_t_machine, .ref a_t_tidier, .ref a_t_listing])), (a_t_program, .inr (4, [.int t_program_width, .int t_program_length, .int t_program_result, .int t_program_taskKind, .int t_program_taskDivisor, .ref a_t_program_operations, .ref a_t_program_firsts, .ref a_t_program_seconds])), (a_t_program_operations, .inl (ca 0, 40, .inl f_t_program_operations)), (a_t_costs, .inl (ca 0, 3, .inl f_t_costs))] s.heap.size = A at hD ⊢
  have hA : ∀ q : Nat, s.heap.size ≤ q → A q := fun q h => by rw [← hAe]; exact Or.inr h
  have hS : va_S A s.heap s.heap [] := va_S.rf
  have hP : va_P D vwCl [(a_t, .inr (6, [.ref a_t_generator, .ref a_t_program, .ref a_t_costs, .ref a_t_history, .ref a_t_machine, .ref a_t_tidier, .ref a_t_listing])), (a_t_program, .inr (4, [.int t_program_width, .int t_program_length, .int t_program_result, .int t_program_taskKind, .int t_program_taskDivisor, .ref a_t_program_operations, .ref a_t_program_firsts, .ref a_t_program_seconds])), (a_t_program_operations, .inl (ca 0, 40, .inl f_t_program_operations)), (a_t_costs, .inl (ca 0, 3, .inl f_t_costs))] s.heap := hP
  have hl := lv_entry ([.ref a_t]) (n := 3) (Nat.le_of_ble_eq_true rfl)
  rw [lg_entry_eq]
  generalize (lg_sl ([.ref a_t]) ++ List.replicate (3 - (lg_sl ([.ref a_t])).length) Slot.unset).toArray = ls at hl ⊢
  have hl : lv_has ls 3 [(0, .ref a_t)] := hl
  unfold wX8_cost at h
  refine lv_iconst (v := 0) hx hb dX8_cost_0 (by decide) ?_
  refine lv_istore_n (lv' := [(1, .int 0), (0, .ref a_t)]) hx hb dX8_cost_1 rfl hl (by decide) rfl (fun ls hl => ?_)
  refine lv_iconst (v := 0) hx hb dX8_cost_2 (by decide) ?_
  refine lv_istore_n (lv' := [(2, .int 0), (1, .int 0), (0, .ref a_t)]) hx hb dX8_cost_3 rfl hl (by decide) rfl (fun ls hl => ?_)
  have hL4 : ∀ (n9_4 : Nat) (x1_4 : Int32) (x2_4 : Int32) (H : Heap) (locs : List Loc) (ls : Array Slot), va_P D vwCl [(a_t, .inr (6, [.ref a_t_generator, .ref a_t_program, .ref a_t_costs, .ref a_t_history, .ref a_t_machine, .ref a_t_tidier, .ref a_t_listing])), (a_t_program, .inr (4, [.int t_program_width, .int t_program_length, .int t_program_result, .int t_program_taskKind, .int t_program_taskDivisor, .ref a_t_program_operations, .ref a_t_program_firsts, .ref a_t_program_seconds])), (a_t_program_operations, .inl (ca 0, 40, .inl f_t_program_operations)), (a_t_costs, .inl (ca 0, 3, .inl f_t_costs))] H → va_D A [(a_t, .inr (6, [.ref a_t_generator, .ref a_t_program, .ref a_t_costs, .ref a_t_history, .ref a_t_machine, .ref a_t_tidier, .ref a_t_listing])), (a_t_program, .inr (4, [.int t_program_width, .int t_program_length, .int t_program_result, .int t_program_taskKind, .int t_program_taskDivisor, .ref a_t_program_operations, .ref a_t_program_firsts, .ref a_t_program_seconds])), (a_t_program_operations, .inl (ca 0, 40, .inl f_t_program_operations)), (a_t_costs, .inl (ca 0, 3, .inl f_t_costs))] → va_S A s.heap H locs → lv_has ls 3 [(0, .ref a_t), (1, .int x1_4), (2, .int x2_4)] → wX8_cost_4 t_program_length f_t_program_operations f_t_costs Q n9_4 x1_4 x2_4 → W p l e (headSpec (Cond.code yX8_cost cX8_cost 3 (some .int) :: wsG) ({ frames := 1, cells := 0, slots := 0, locals := 20 } : Room)).room s m ([.ref a_t] : List Value).toArray below meth c H locs 0 0 (MQ below (qX8_cost D ca a_t a_t_generator a_t_program a_t_costs a_t_history a_t_machine a_t_tidier a_t_listing a_t_program_operations a_t_program_firsts a_t_program_seconds t_program_width t_program_length t_program_result t_program_taskKind t_program_taskDivisor f_t_program_operations f_t_costs Q A) ([.ref a_t] : List Value).toArray s 0 0 A) (F0 m 4 ls []) := by
    intro n9_4
    induction n9_4 with
    | zero =>
      intro x1_4 x2_4 H locs ls hP hD hS hl h
      exact False.elim h
    | succ n9_4 ih4 =>
      intro x1_4 x2_4 H locs ls hP hD hS hl h
      unfold wX8_cost_4 at h
      refine lv_iload_n hx hb dX8_cost_4 rfl (lv_at hl 2 rfl) ?_
      refine lv_aload_n hx hb dX8_cost_5 rfl (lv_at hl 0 rfl) ?_
      refine va_get (D := D) (ci := 6) (v := .ref a_t_program) (C := RX8) (T := TX8) (N := 7) hx hb hq inX8g hown hK hP 0 rfl rfl 1 (by decide) (hq _ q_170) (fun _ h9 => h9) rfl dX8_cost_6 ?_
      refine va_get (D := D) (ci := 4) (v := .int t_program_length) (C := RX5) (T := TX5) (N := 8) hx hb hq inX5g hown hK hP 1 rfl rfl 1 (by decide) (hq _ q_51) (fun _ h9 => h9) rfl dX8_cost_9 ?_
      refine lv_icmp_ge (tgt := 41) hx hb dX8_cost_12 (by decide) (fun c9 => ?_) (fun c9 => ?_)
      · have h := h.1 c9
        refine lv_iload_n hx hb dX8_cost_41 rfl (lv_at hl 1 rfl) ?_
        exact W.iret (v := x1_4) hx hb hr (fun t ht hW => ⟨⟨x1_4, (), rfl, h, by rw [ht]; exact hP, va_K.moved hW.alike hK, hD⟩, hS.F ht⟩) hS.2.2 dX8_cost_42
      · have h := h.2 c9
        refine lv_iload_n hx hb dX8_cost_15 rfl (lv_at hl 1 rfl) ?_
        refine lv_aload_n hx hb dX8_cost_16 rfl (lv_at hl 0 rfl) ?_
        refine va_get (D := D) (ci := 6) (v := .ref a_t_costs) (C := RX8) (T := TX8) (N := 7) hx hb hq inX8g hown hK hP 0 rfl rfl 2 (by decide) (hq _ q_171) (fun _ h9 => h9) rfl dX8_cost_17 ?_
        refine lv_aload_n hx hb dX8_cost_20 rfl (lv_at hl 0 rfl) ?_
        refine va_get (D := D) (ci := 6) (v := .ref a_t_program) (C := RX8) (T := TX8) (N := 7) hx hb hq inX8g hown hK hP 0 rfl rfl 1 (by decide) (hq _ q_170) (fun _ h9 => h9) rfl dX8_cost_21 ?_
        refine va_get (D := D) (ci := 4) (v := .ref a_t_program_operations) (C := RX5) (T := TX5) (N := 8) hx hb hq inX5g hown hK hP 1 rfl rfl 5 (by decide) (hq _ q_65) (fun _ h9 => h9) rfl dX8_cost_24 ?_
        refine lv_iload_n hx hb dX8_cost_27 rfl (lv_at hl 2 rfl) ?_
        obtain ⟨hi9, h⟩ := h
        refine va_iald hx hb hK hP 2 0 rfl rfl hi9 dX8_cost_28 ?_
        refine cPi (As := [.int (f_t_program_operations x2_4.toNatClampNeg)]) (rest := [.ref a_t_costs, .int x1_4]) ⟨hx, hb, hml, hown, hts⟩ (mX3_costClass l (f_t_program_operations x2_4.toNatClampNeg) _ h) (va_cwS 1 hts (gS q_256 q_257 q_5 q_258) rfl rfl rfl (by decide +kernel) ⟨Nat.le_of_ble_eq_true rfl, Nat.le_of_ble_eq_true rfl⟩) hS rfl hl.1 rfl (Nat.le_of_ble_eq_true rfl) dX8_cost_29 ⟨Nat.le_of_ble_eq_true rfl, Nat.le_of_ble_eq_true rfl⟩ (fun r_29 H1 locs h hk1 hS => ?_)
        have hP := s_back hP hk1
        try dsimp only at h
        obtain ⟨hi9, h⟩ := h
        refine va_iald hx hb hK hP 3 0 rfl rfl hi9 dX8_cost_32 ?_
        refine lv_iadd hx hb dX8_cost_33 ?_
        refine lv_topi (fun x1_34 ex1_34 => ?_)
        have h := h x1_34 ex1_34
        refine lv_istore_n (lv' := [(1, .int x1_34), (0, .ref a_t), (2, .int x2_4)]) hx hb dX8_cost_34 rfl hl (by decide) rfl (fun ls hl => ?_)
        obtain ⟨x2_35, ex2_35⟩ : ∃ y : Int32, y = x2_4 + 1 := ⟨_, rfl⟩
        have h := h x2_35 ex2_35
        refine lv_iinc (v := x2_35) (lv' := [(2, .int x2_35), (1, .int x1_34), (0, .ref a_t)]) hx hb dX8_cost_35 hl (k := 2) rfl (by rw [ex2_35]; rfl) (by decide) rfl (fun ls hl => ?_)
        refine lv_goto (tgt := 4) hx hb dX8_cost_38 (by decide) ?_
        exact ih4 x1_34 x2_35 _ _ _ hP hD hS (lv_sub hl [2, 1, 0] rfl) h
  obtain ⟨k9, h⟩ := h
  exact hL4 k9 0 0 _ _ _ hP hD hS (lv_sub hl [2, 1, 0] rfl) h

abbrev qX8_depth (D : va_G) (ca : Nat → ClassId) (a_t a_t_generator a_t_program a_t_costs a_t_history a_t_machine a_t_tidier a_t_listing a_t_program_operations a_t_program_firsts a_t_program_seconds a_t_machine_values a_t_machine_depths : Nat) (t_program_width : Int32) (t_program_length : Int32) (t_program_result : Int32) (t_program_taskKind : Int32) (t_program_taskDivisor : Int32) (f_t_program_firsts : Nat → Int32) (f_t_program_seconds : Nat → Int32) (Q : Int32 → (Nat → Int32) → Prop) (A : Nat → Prop) : Array Value → State → Outcome → State → Prop := va_Qi (fun (r : Int32) (u : (Nat → Int32)) => Q r u) (wEnd D ca (fun u : (Nat → Int32) => [(a_t, .inr (6, [.ref a_t_generator, .ref a_t_program, .ref a_t_costs, .ref a_t_history, .ref a_t_machine, .ref a_t_tidier, .ref a_t_listing])), (a_t_program, .inr (4, [.int t_program_width, .int t_program_length, .int t_program_result, .int t_program_taskKind, .int t_program_taskDivisor, .ref a_t_program_operations, .ref a_t_program_firsts, .ref a_t_program_seconds])), (a_t_program_firsts, .inl (ca 0, 40, .inl f_t_program_firsts)), (a_t_program_seconds, .inl (ca 0, 40, .inl f_t_program_seconds)), (a_t_machine, .inr (3, [.ref a_t_machine_values, .ref a_t_machine_depths])), (a_t_machine_depths, .inl (ca 0, 41, .inl u))]) A) A
def wX8_depth (t_program_result : Int32) (f_t_program_firsts : Nat → Int32) (f_t_program_seconds : Nat → Int32) (f_t_machine_depths : Nat → Int32) (Q : Int32 → (Nat → Int32) → Prop) : Prop :=
  wX3_depthOf f_t_machine_depths t_program_result f_t_program_firsts f_t_program_seconds (fun r_8 f_t_machine_depths_8 => Q r_8 f_t_machine_depths_8)
set_option maxHeartbeats 4000000 in
set_option maxRecDepth 100000 in
theorem mX8_depth (l : Launch) (D : va_G) (ca : Nat → ClassId) (a_t a_t_generator a_t_program a_t_costs a_t_history a_t_machine a_t_tidier a_t_listing a_t_program_operations a_t_program_firsts a_t_program_seconds a_t_machine_values a_t_machine_depths : Nat) (sz : Nat) (t_program_width : Int32) (t_program_length : Int32) (t_program_result : Int32) (t_program_taskKind : Int32) (t_program_taskDivisor : Int32) (f_t_program_firsts : Nat → Int32) (f_t_program_seconds : Nat → Int32) (f_t_machine_depths : Nat → Int32) (Q : Int32 → (Nat → Int32) → Prop) (h : wX8_depth t_program_result f_t_program_firsts f_t_program_seconds f_t_machine_depths Q) : Met l yX8_depth (Cond.code yX8_depth cX8_depth 1 (some .int) :: wsG) ({ frames := 4, cells := 0, slots := 0, locals := 83 } : Room) (va_Pc [.ref a_t] (wPre D ca [(a_t, .inr (6, [.ref a_t_generator, .ref a_t_program, .ref a_t_costs, .ref a_t_history, .ref a_t_machine, .ref a_t_tidier, .ref a_t_listing])), (a_t_program, .inr (4, [.int t_program_width, .int t_program_length, .int t_program_result, .int t_program_taskKind, .int t_program_taskDivisor, .ref a_t_program_operations, .ref a_t_program_firsts, .ref a_t_program_seconds])), (a_t_program_firsts, .inl (ca 0, 40, .inl f_t_program_firsts)), (a_t_program_seconds, .inl (ca 0, 40, .inl f_t_program_seconds)), (a_t_machine, .inr (3, [.ref a_t_machine_values, .ref a_t_machine_depths])), (a_t_machine_depths, .inl (ca 0, 41, .inl f_t_machine_depths))] sz)) (qX8_depth D ca a_t a_t_generator a_t_program a_t_costs a_t_history a_t_machine a_t_tidier a_t_listing a_t_program_operations a_t_program_firsts a_t_program_seconds a_t_machine_values a_t_machine_depths t_program_width t_program_length t_program_result t_program_taskKind t_program_taskDivisor f_t_program_firsts f_t_program_seconds Q (va_A [(a_t, .inr (6, [.ref a_t_generator, .ref a_t_program, .ref a_t_costs, .ref a_t_history, .ref a_t_machine, .ref a_t_tidier, .ref a_t_listing])), (a_t_program, .inr (4, [.int t_program_width, .int t_program_length, .int t_program_result, .int t_program_taskKind, .int t_program_taskDivisor, .ref a_t_program_operations, .ref a_t_program_firsts, .ref a_t_program_seconds])), (a_t_program_firsts, .inl (ca 0, 40, .inl f_t_program_firsts)), (a_t_program_seconds, .inl (ca 0, 40, .inl f_t_program_seconds)), (a_t_machine, .inr (3, [.ref a_t_machine_values, .ref a_t_machine_depths])), (a_t_machine_depths, .inl (ca 0, 41, .inl f_t_machine_depths))] sz)) 0 0 (va_A [(a_t, .inr (6, [.ref a_t_generator, .ref a_t_program, .ref a_t_costs, .ref a_t_history, .ref a_t_machine, .ref a_t_tidier, .ref a_t_listing])), (a_t_program, .inr (4, [.int t_program_width, .int t_program_length, .int t_program_result, .int t_program_taskKind, .int t_program_taskDivisor, .ref a_t_program_operations, .ref a_t_program_firsts, .ref a_t_program_seconds])), (a_t_program_firsts, .inl (ca 0, 40, .inl f_t_program_firsts)), (a_t_program_seconds, .inl (ca 0, 40, .inl f_t_program_seconds)), (a_t_machine, .inr (3, [.ref a_t_machine_values, .ref a_t_machine_depths])), (a_t_machine_depths, .inl (ca 0, 41, .inl f_t_machine_depths))] sz) := by
  refine Met.ofW (cc := cX8_depth) (maxL := 1) (ret := (some .int)) (by decide) rfl ?_
  intro p e s m args below meth c s₁ B hml hv
  obtain ⟨rfl, hsz, hP, hK, hD0⟩ := hv
  have hx := B.exec
  have hb := B.bytes
  have hr := B.returns
  have hts := atoms_spec (ws := (Cond.code yX8_depth cX8_depth 1 (some .int) :: wsG)) B.pre
  have hq : ∀ w ∈ wsG, w.before _ s = true := fun w hw => hts w (List.mem_cons_of_mem _ hw)
  have hown : s.vm.findClass RX8 = some m.cls := findClass_of_methodNamed B.named
  have hlocks := B.notSynchronized
  subst hsz
  have hD := hD0.self (sz := s.heap.size)
  generalize hAe : va_A [(a_t, .inr (6, [.ref a_t_generator, .ref a_t_program, .ref a_t_costs, .ref a_t_history, .ref a_t_machine, .ref a_t_tidier, .ref a_t_listing])), (a_t_program, .inr (4, [.int t_program_width, .int t_program_length, .int t_program_result, .int t_program_taskKind, .int t_program_taskDivisor, .ref a_t_program_operations, .ref a_t_program_firsts, .ref a_t_program_seconds])), (a_t_program_firsts, .inl (ca 0, 40, .inl f_t_program_firsts)), (a_t_program_seconds, .inl (ca 0, 40, .inl f_t_program_seconds)), (a_t_machine, .inr (3, [.ref a_t_machine_values, .ref a_t_machine_depths])), (a_t_machine_depths, .inl (ca 0, 41, .inl f_t_machine_depths))] s.heap.size = A at hD ⊢
  have hA : ∀ q : Nat, s.heap.size ≤ q → A q := fun q h => by rw [← hAe]; exact Or.inr h
  have hS : va_S A s.heap s.heap [] := va_S.rf
  have hP : va_P D vwCl [(a_t, .inr (6, [.ref a_t_generator, .ref a_t_program, .ref a_t_costs, .ref a_t_history, .ref a_t_machine, .ref a_t_tidier, .ref a_t_listing])), (a_t_program, .inr (4, [.int t_program_width, .int t_program_length, .int t_program_result, .int t_program_taskKind, .int t_program_taskDivisor, .ref a_t_program_operations, .ref a_t_program_firsts, .ref a_t_program_seconds])), (a_t_program_firsts, .inl (ca 0, 40, .inl f_t_program_firsts)), (a_t_program_seconds, .inl (ca 0, 40, .inl f_t_program_seconds)), (a_t_machine, .inr (3, [.ref a_t_machine_values, .ref a_t_machine_depths])), (a_t_machine_depths, .inl (ca 0, 41, .inl f_t_machine_depths))] s.heap := hP
  have hl := lv_entry ([.ref a_t]) (n := 1) (Nat.le_of_ble_eq_true rfl)
  rw [lg_entry_eq]
  generalize (lg_sl ([.ref a_t]) ++ List.replicate (1 - (lg_sl ([.ref a_t])).length) Slot.unset).toArray = ls at hl ⊢
  have hl : lv_has ls 1 [(0, .ref a_t)] := hl
  unfold wX8_depth at h
  refine lv_aload_n hx hb dX8_depth_0 rfl (lv_at hl 0 rfl) ?_
  refine va_get (D := D) (ci := 6) (v := .ref a_t_machine) (C := RX8) (T := TX8) (N := 7) hx hb hq inX8g hown hK hP 0 rfl rfl 4 (by decide) (hq _ q_173) (fun _ h9 => h9) rfl dX8_depth_1 ?_
  refine lv_aload_n hx hb dX8_depth_4 rfl (lv_at hl 0 rfl) ?_
  refine va_get (D := D) (ci := 6) (v := .ref a_t_program) (C := RX8) (T := TX8) (N := 7) hx hb hq inX8g hown hK hP 0 rfl rfl 1 (by decide) (hq _ q_170) (fun _ h9 => h9) rfl dX8_depth_5 ?_
  refine cVi (As := [.ref a_t_program]) (rest := []) (wc := [(a_t_machine, .inr (3, [.ref a_t_machine_values, .ref a_t_machine_depths])), (a_t_machine_depths, .inl (ca 0, 41, .inl f_t_machine_depths)), (a_t_program, .inr (4, [.int t_program_width, .int t_program_length, .int t_program_result, .int t_program_taskKind, .int t_program_taskDivisor, .ref a_t_program_operations, .ref a_t_program_firsts, .ref a_t_program_seconds])), (a_t_program_firsts, .inl (ca 0, 40, .inl f_t_program_firsts)), (a_t_program_seconds, .inl (ca 0, 40, .inl f_t_program_seconds))]) (wr := [(a_t, .inr (6, [.ref a_t_generator, .ref a_t_program, .ref a_t_costs, .ref a_t_history, .ref a_t_machine, .ref a_t_tidier, .ref a_t_listing]))]) (w1 := fun u : (Nat → Int32) => [(a_t_machine, .inr (3, [.ref a_t_machine_values, .ref a_t_machine_depths])), (a_t_machine_depths, .inl (ca 0, 41, .inl u)), (a_t_program, .inr (4, [.int t_program_width, .int t_program_length, .int t_program_result, .int t_program_taskKind, .int t_program_taskDivisor, .ref a_t_program_operations, .ref a_t_program_firsts, .ref a_t_program_seconds])), (a_t_program_firsts, .inl (ca 0, 40, .inl f_t_program_firsts)), (a_t_program_seconds, .inl (ca 0, 40, .inl f_t_program_seconds))]) (ws2 := fun u : (Nat → Int32) => [(a_t, .inr (6, [.ref a_t_generator, .ref a_t_program, .ref a_t_costs, .ref a_t_history, .ref a_t_machine, .ref a_t_tidier, .ref a_t_listing])), (a_t_program, .inr (4, [.int t_program_width, .int t_program_length, .int t_program_result, .int t_program_taskKind, .int t_program_taskDivisor, .ref a_t_program_operations, .ref a_t_program_firsts, .ref a_t_program_seconds])), (a_t_program_firsts, .inl (ca 0, 40, .inl f_t_program_firsts)), (a_t_program_seconds, .inl (ca 0, 40, .inl f_t_program_seconds)), (a_t_machine, .inr (3, [.ref a_t_machine_values, .ref a_t_machine_depths])), (a_t_machine_depths, .inl (ca 0, 41, .inl u))]) ⟨hx, hb, hml, hown, hts⟩ (mX3_depthOf l D ca a_t_machine a_t_machine_values a_t_machine_depths a_t_program a_t_program_operations a_t_program_firsts a_t_program_seconds _ f_t_machine_depths t_program_width t_program_length t_program_result t_program_taskKind t_program_taskDivisor f_t_program_firsts f_t_program_seconds _ h) (cwV 1 hts (gV q_263 q_264 q_265 q_5 q_266) rfl rfl rfl (by decide +kernel) ⟨Nat.le_of_ble_eq_true rfl, Nat.le_of_ble_eq_true rfl⟩) hK hP hD hS hA [4, 5, 1, 2, 3] [0] [0, 3, 4, 5, 1, 2] rfl rfl rfl (by decide) (fun _ => rfl) (ci := 3) (q0 := 4) rfl rfl rfl hl.1 rfl (Nat.le_of_ble_eq_true rfl) dX8_depth_8 ⟨Nat.le_of_ble_eq_true rfl, Nat.le_of_ble_eq_true rfl⟩ (fun r_8 u9 H locs h hP hD hS => ?_)
  obtain ⟨f_t_machine_depths_8, rfl⟩ : ∃ z, z = u9 := ⟨_, rfl⟩
  have hP : va_P D vwCl [(a_t, .inr (6, [.ref a_t_generator, .ref a_t_program, .ref a_t_costs, .ref a_t_history, .ref a_t_machine, .ref a_t_tidier, .ref a_t_listing])), (a_t_program, .inr (4, [.int t_program_width, .int t_program_length, .int t_program_result, .int t_program_taskKind, .int t_program_taskDivisor, .ref a_t_program_operations, .ref a_t_program_firsts, .ref a_t_program_seconds])), (a_t_program_firsts, .inl (ca 0, 40, .inl f_t_program_firsts)), (a_t_program_seconds, .inl (ca 0, 40, .inl f_t_program_seconds)), (a_t_machine, .inr (3, [.ref a_t_machine_values, .ref a_t_machine_depths])), (a_t_machine_depths, .inl (ca 0, 41, .inl f_t_machine_depths_8))] H := hP
  have hD : va_D A [(a_t, .inr (6, [.ref a_t_generator, .ref a_t_program, .ref a_t_costs, .ref a_t_history, .ref a_t_machine, .ref a_t_tidier, .ref a_t_listing])), (a_t_program, .inr (4, [.int t_program_width, .int t_program_length, .int t_program_result, .int t_program_taskKind, .int t_program_taskDivisor, .ref a_t_program_operations, .ref a_t_program_firsts, .ref a_t_program_seconds])), (a_t_program_firsts, .inl (ca 0, 40, .inl f_t_program_firsts)), (a_t_program_seconds, .inl (ca 0, 40, .inl f_t_program_seconds)), (a_t_machine, .inr (3, [.ref a_t_machine_values, .ref a_t_machine_depths])), (a_t_machine_depths, .inl (ca 0, 41, .inl f_t_machine_depths_8))] := hD
  try dsimp only at h
  exact W.iret (v := r_8) hx hb hr (fun t ht hW => ⟨⟨r_8, f_t_machine_depths_8, rfl, h, by rw [ht]; exact hP, va_K.moved hW.alike hK, hD⟩, hS.F ht⟩) hS.2.2 dX8_depth_11

abbrev qX8_run (D : va_G) (ca : Nat → ClassId) (a_t a_t_generator a_t_program a_t_costs a_t_history a_t_machine a_t_tidier a_t_listing a_t_program_operations a_t_program_firsts a_t_program_seconds a_t_machine_values a_t_machine_depths : Nat) (t_program_width : Int32) (t_program_length : Int32) (t_program_result : Int32) (t_program_taskKind : Int32) (t_program_taskDivisor : Int32) (f_t_program_operations : Nat → Int32) (f_t_program_firsts : Nat → Int32) (f_t_program_seconds : Nat → Int32) (Q : Int32 → (Nat → Int32) → Prop) (A : Nat → Prop) : Array Value → State → Outcome → State → Prop := va_Qi (fun (r : Int32) (u : (Nat → Int32)) => Q r u) (wEnd D ca (fun u : (Nat → Int32) => [(a_t, .inr (6, [.ref a_t_generator, .ref a_t_program, .ref a_t_costs, .ref a_t_history, .ref a_t_machine, .ref a_t_tidier, .ref a_t_listing])), (a_t_program, .inr (4, [.int t_program_width, .int t_program_length, .int t_program_result, .int t_program_taskKind, .int t_program_taskDivisor, .ref a_t_program_operations, .ref a_t_program_firsts, .ref a_t_program_seconds])), (a_t_program_operations, .inl (ca 0, 40, .inl f_t_program_operations)), (a_t_program_firsts, .inl (ca 0, 40, .inl f_t_program_firsts)), (a_t_program_seconds, .inl (ca 0, 40, .inl f_t_program_seconds)), (a_t_machine, .inr (3, [.ref a_t_machine_values, .ref a_t_machine_depths])), (a_t_machine_values, .inl (ca 0, 41, .inl u))]) A) A
def wX8_run (t_program_width : Int32) (t_program_result : Int32) (f_t_program_operations : Nat → Int32) (f_t_program_firsts : Nat → Int32) (f_t_program_seconds : Nat → Int32) (f_t_machine_values : Nat → Int32) (x1 : Int32) (Q : Int32 → (Nat → Int32) → Prop) (QX : String → Prop) : Prop :=
  wX8_greatestValue t_program_width (fun r_3 => wX8_requireFromTo x1 0 r_3 (wX3_compute f_t_machine_values t_program_width f_t_program_operations f_t_program_firsts f_t_program_seconds x1 t_program_result (fun r_25 f_t_machine_values_25 => Q r_25 f_t_machine_values_25)) QX)
set_option maxHeartbeats 4000000 in
set_option maxRecDepth 100000 in
theorem mX8_run (l : Launch) (hl0 : l.stackTraces = false) (D : va_G) (ca : Nat → ClassId) (a_t a_t_generator a_t_program a_t_costs a_t_history a_t_machine a_t_tidier a_t_listing a_t_program_operations a_t_program_firsts a_t_program_seconds a_t_machine_values a_t_machine_depths : Nat) (sz : Nat) (t_program_width : Int32) (t_program_length : Int32) (t_program_result : Int32) (t_program_taskKind : Int32) (t_program_taskDivisor : Int32) (f_t_program_operations : Nat → Int32) (f_t_program_firsts : Nat → Int32) (f_t_program_seconds : Nat → Int32) (f_t_machine_values : Nat → Int32) (x1 : Int32) (Q : Int32 → (Nat → Int32) → Prop) (QX : String → Prop) (h : wX8_run t_program_width t_program_result f_t_program_operations f_t_program_firsts f_t_program_seconds f_t_machine_values x1 Q QX) : vx_Met l yX8_run (Cond.code yX8_run cX8_run 2 (some .int) :: wsG) ({ frames := 7, cells := 1, slots := 6, locals := 112 } : Room) (va_Pc [.ref a_t, .int x1] (xPre D ca [(a_t, .inr (6, [.ref a_t_generator, .ref a_t_program, .ref a_t_costs, .ref a_t_history, .ref a_t_machine, .ref a_t_tidier, .ref a_t_listing])), (a_t_program, .inr (4, [.int t_program_width, .int t_program_length, .int t_program_result, .int t_program_taskKind, .int t_program_taskDivisor, .ref a_t_program_operations, .ref a_t_program_firsts, .ref a_t_program_seconds])), (a_t_program_operations, .inl (ca 0, 40, .inl f_t_program_operations)), (a_t_program_firsts, .inl (ca 0, 40, .inl f_t_program_firsts)), (a_t_program_seconds, .inl (ca 0, 40, .inl f_t_program_seconds)), (a_t_machine, .inr (3, [.ref a_t_machine_values, .ref a_t_machine_depths])), (a_t_machine_values, .inl (ca 0, 41, .inl f_t_machine_values))] sz)) (qX8_run D ca a_t a_t_generator a_t_program a_t_costs a_t_history a_t_machine a_t_tidier a_t_listing a_t_program_operations a_t_program_firsts a_t_program_seconds a_t_machine_values a_t_machine_depths t_program_width t_program_length t_program_result t_program_taskKind t_program_taskDivisor f_t_program_operations f_t_program_firsts f_t_program_seconds Q (va_A [(a_t, .inr (6, [.ref a_t_generator, .ref a_t_program, .ref a_t_costs, .ref a_t_history, .ref a_t_machine, .ref a_t_tidier, .ref a_t_listing])), (a_t_program, .inr (4, [.int t_program_width, .int t_program_length, .int t_program_result, .int t_program_taskKind, .int t_program_taskDivisor, .ref a_t_program_operations, .ref a_t_program_firsts, .ref a_t_program_seconds])), (a_t_program_operations, .inl (ca 0, 40, .inl f_t_program_operations)), (a_t_program_firsts, .inl (ca 0, 40, .inl f_t_program_firsts)), (a_t_program_seconds, .inl (ca 0, 40, .inl f_t_program_seconds)), (a_t_machine, .inr (3, [.ref a_t_machine_values, .ref a_t_machine_depths])), (a_t_machine_values, .inl (ca 0, 41, .inl f_t_machine_values))] sz)) (xEnd D ca [(a_t, .inr (6, [.ref a_t_generator, .ref a_t_program, .ref a_t_costs, .ref a_t_history, .ref a_t_machine, .ref a_t_tidier, .ref a_t_listing])), (a_t_program, .inr (4, [.int t_program_width, .int t_program_length, .int t_program_result, .int t_program_taskKind, .int t_program_taskDivisor, .ref a_t_program_operations, .ref a_t_program_firsts, .ref a_t_program_seconds])), (a_t_program_operations, .inl (ca 0, 40, .inl f_t_program_operations)), (a_t_program_firsts, .inl (ca 0, 40, .inl f_t_program_firsts)), (a_t_program_seconds, .inl (ca 0, 40, .inl f_t_program_seconds)), (a_t_machine, .inr (3, [.ref a_t_machine_values, .ref a_t_machine_depths])), (a_t_machine_values, .inl (ca 0, 41, .inl f_t_machine_values))] QX (va_A [(a_t, .inr (6, [.ref a_t_generator, .ref a_t_program, .ref a_t_costs, .ref a_t_history, .ref a_t_machine, .ref a_t_tidier, .ref a_t_listing])), (a_t_program, .inr (4, [.int t_program_width, .int t_program_length, .int t_program_result, .int t_program_taskKind, .int t_program_taskDivisor, .ref a_t_program_operations, .ref a_t_program_firsts, .ref a_t_program_seconds])), (a_t_program_operations, .inl (ca 0, 40, .inl f_t_program_operations)), (a_t_program_firsts, .inl (ca 0, 40, .inl f_t_program_firsts)), (a_t_program_seconds, .inl (ca 0, 40, .inl f_t_program_seconds)), (a_t_machine, .inr (3, [.ref a_t_machine_values, .ref a_t_machine_depths])), (a_t_machine_values, .inl (ca 0, 41, .inl f_t_machine_values))] sz)) 1 6 (va_A [(a_t, .inr (6, [.ref a_t_generator, .ref a_t_program, .ref a_t_costs, .ref a_t_history, .ref a_t_machine, .ref a_t_tidier, .ref a_t_listing])), (a_t_program, .inr (4, [.int t_program_width, .int t_program_length, .int t_program_result, .int t_program_taskKind, .int t_program_taskDivisor, .ref a_t_program_operations, .ref a_t_program_firsts, .ref a_t_program_seconds])), (a_t_program_operations, .inl (ca 0, 40, .inl f_t_program_operations)), (a_t_program_firsts, .inl (ca 0, 40, .inl f_t_program_firsts)), (a_t_program_seconds, .inl (ca 0, 40, .inl f_t_program_seconds)), (a_t_machine, .inr (3, [.ref a_t_machine_values, .ref a_t_machine_depths])), (a_t_machine_values, .inl (ca 0, 41, .inl f_t_machine_values))] sz) := by
  refine vx_ofW (cc := cX8_run) (maxL := 2) (ret := (some .int)) (by decide) rfl ?_
  intro p e s m args below meth c s₁ B hml htab hv
  obtain ⟨rfl, ⟨hsz, hP, hK, hD0⟩, hX⟩ := hv
  have hx := B.exec
  have hb := B.bytes
  have hr := B.returns
  have hts := atoms_spec (ws := (Cond.code yX8_run cX8_run 2 (some .int) :: wsG)) B.pre
  have hq : ∀ w ∈ wsG, w.before _ s = true := fun w hw => hts w (List.mem_cons_of_mem _ hw)
  have hown : s.vm.findClass RX8 = some m.cls := findClass_of_methodNamed B.named
  have hlocks := B.notSynchronized
  subst hsz
  have hD := hD0.self (sz := s.heap.size)
  generalize hAe : va_A [(a_t, .inr (6, [.ref a_t_generator, .ref a_t_program, .ref a_t_costs, .ref a_t_history, .ref a_t_machine, .ref a_t_tidier, .ref a_t_listing])), (a_t_program, .inr (4, [.int t_program_width, .int t_program_length, .int t_program_result, .int t_program_taskKind, .int t_program_taskDivisor, .ref a_t_program_operations, .ref a_t_program_firsts, .ref a_t_program_seconds])), (a_t_program_operations, .inl (ca 0, 40, .inl f_t_program_operations)), (a_t_program_firsts, .inl (ca 0, 40, .inl f_t_program_firsts)), (a_t_program_seconds, .inl (ca 0, 40, .inl f_t_program_seconds)), (a_t_machine, .inr (3, [.ref a_t_machine_values, .ref a_t_machine_depths])), (a_t_machine_values, .inl (ca 0, 41, .inl f_t_machine_values))] s.heap.size = A at hD hX ⊢
  have hA : ∀ q : Nat, s.heap.size ≤ q → A q := fun q h => by rw [← hAe]; exact Or.inr h
  have hS : va_S A s.heap s.heap [] := va_S.rf
  have hP : va_P D vwCl [(a_t, .inr (6, [.ref a_t_generator, .ref a_t_program, .ref a_t_costs, .ref a_t_history, .ref a_t_machine, .ref a_t_tidier, .ref a_t_listing])), (a_t_program, .inr (4, [.int t_program_width, .int t_program_length, .int t_program_result, .int t_program_taskKind, .int t_program_taskDivisor, .ref a_t_program_operations, .ref a_t_program_firsts, .ref a_t_program_seconds])), (a_t_program_operations, .inl (ca 0, 40, .inl f_t_program_operations)), (a_t_program_firsts, .inl (ca 0, 40, .inl f_t_program_firsts)), (a_t_program_seconds, .inl (ca 0, 40, .inl f_t_program_seconds)), (a_t_machine, .inr (3, [.ref a_t_machine_values, .ref a_t_machine_depths])), (a_t_machine_values, .inl (ca 0, 41, .inl f_t_machine_values))] s.heap := hP
  have hl := lv_entry ([.ref a_t, .int x1]) (n := 2) (Nat.le_of_ble_eq_true rfl)
  rw [lg_entry_eq]
  generalize (lg_sl ([.ref a_t, .int x1]) ++ List.replicate (2 - (lg_sl ([.ref a_t, .int x1])).length) Slot.unset).toArray = ls at hl ⊢
  have hl : lv_has ls 2 [(0, .ref a_t), (1, .int x1)] := hl
  unfold wX8_run at h
  refine lv_iload_n hx hb dX8_run_0 rfl (lv_at hl 1 rfl) ?_
  refine lv_iconst (v := 0) hx hb dX8_run_1 (by decide) ?_
  refine lv_aload_n hx hb dX8_run_2 rfl (lv_at hl 0 rfl) ?_
  refine cVi (As := []) (rest := [.int 0, .int x1]) (wc := [(a_t, .inr (6, [.ref a_t_generator, .ref a_t_program, .ref a_t_costs, .ref a_t_history, .ref a_t_machine, .ref a_t_tidier, .ref a_t_listing])), (a_t_program, .inr (4, [.int t_program_width, .int t_program_length, .int t_program_result, .int t_program_taskKind, .int t_program_taskDivisor, .ref a_t_program_operations, .ref a_t_program_firsts, .ref a_t_program_seconds]))]) (wr := [(a_t_program_operations, .inl (ca 0, 40, .inl f_t_program_operations)), (a_t_program_firsts, .inl (ca 0, 40, .inl f_t_program_firsts)), (a_t_program_seconds, .inl (ca 0, 40, .inl f_t_program_seconds)), (a_t_machine, .inr (3, [.ref a_t_machine_values, .ref a_t_machine_depths])), (a_t_machine_values, .inl (ca 0, 41, .inl f_t_machine_values))]) (w1 := fun _ : Unit => [(a_t, .inr (6, [.ref a_t_generator, .ref a_t_program, .ref a_t_costs, .ref a_t_history, .ref a_t_machine, .ref a_t_tidier, .ref a_t_listing])), (a_t_program, .inr (4, [.int t_program_width, .int t_program_length, .int t_program_result, .int t_program_taskKind, .int t_program_taskDivisor, .ref a_t_program_operations, .ref a_t_program_firsts, .ref a_t_program_seconds]))]) (ws2 := fun _ : Unit => [(a_t, .inr (6, [.ref a_t_generator, .ref a_t_program, .ref a_t_costs, .ref a_t_history, .ref a_t_machine, .ref a_t_tidier, .ref a_t_listing])), (a_t_program, .inr (4, [.int t_program_width, .int t_program_length, .int t_program_result, .int t_program_taskKind, .int t_program_taskDivisor, .ref a_t_program_operations, .ref a_t_program_firsts, .ref a_t_program_seconds])), (a_t_program_operations, .inl (ca 0, 40, .inl f_t_program_operations)), (a_t_program_firsts, .inl (ca 0, 40, .inl f_t_program_firsts)), (a_t_program_seconds, .inl (ca 0, 40, .inl f_t_program_seconds)), (a_t_machine, .inr (3, [.ref a_t_machine_values, .ref a_t_machine_depths])), (a_t_machine_values, .inl (ca 0, 41, .inl f_t_machine_values))]) ⟨hx, hb, hml, hown, hts⟩ (mX8_greatestValue l D ca a_t a_t_generator a_t_program a_t_costs a_t_history a_t_machine a_t_tidier a_t_listing a_t_program_operations a_t_program_firsts a_t_program_seconds _ t_program_width t_program_length t_program_result t_program_taskKind t_program_taskDivisor _ h) (cwV 0 hts (gV q_388 q_390 qs_5 q_1 q_391) rfl rfl rfl (by decide +kernel) ⟨Nat.le_of_ble_eq_true rfl, Nat.le_of_ble_eq_true rfl⟩) hK hP hD hS hA [0, 1] [2, 3, 4, 5, 6] [5, 6, 0, 1, 2, 3, 4] rfl rfl rfl (by decide) (fun _ => rfl) (ci := 6) (q0 := 0) rfl rfl rfl hl.1 rfl (Nat.le_of_ble_eq_true rfl) dX8_run_3 ⟨Nat.le_of_ble_eq_true rfl, Nat.le_of_ble_eq_true rfl⟩ (fun r_3 u9 H locs h hP hD hS => ?_)
  try dsimp only at h
  refine xPv (As := [.int x1, .int 0, .int r_3]) (rest := []) ⟨hx, hb, hml, hown, hts⟩ (mX8_requireFromTo l hl0 x1 0 r_3 _ _ h) (va_cwS 3 hts (gS q_392 q_393 q_1 q_394) rfl rfl rfl (by decide +kernel) ⟨Nat.le_of_ble_eq_true rfl, Nat.le_of_ble_eq_true rfl⟩) hX hS rfl hl.1 rfl (Nat.le_of_ble_eq_true rfl) dX8_run_6 ⟨Nat.le_of_ble_eq_true rfl, Nat.le_of_ble_eq_true rfl⟩ (fun E ce q9 H1 locs hE hk1 hS h1 h2 h3 => x_out htab hlocks hK (s_back hP hk1) hD hS hE h1 h2 h3 (Nat.le_of_ble_eq_true rfl) (Nat.le_of_ble_eq_true rfl)) (fun H1 locs h hk1 hS => ?_)
  have hP := s_back hP hk1
  try dsimp only at h
  refine lv_aload_n hx hb dX8_run_9 rfl (lv_at hl 0 rfl) ?_
  refine va_get (D := D) (ci := 6) (v := .ref a_t_machine) (C := RX8) (T := TX8) (N := 7) hx hb hq inX8g hown hK hP 0 rfl rfl 4 (by decide) (hq _ q_173) (fun _ h9 => h9) rfl dX8_run_10 ?_
  refine lv_aload_n hx hb dX8_run_13 rfl (lv_at hl 0 rfl) ?_
  refine va_get (D := D) (ci := 6) (v := .ref a_t_program) (C := RX8) (T := TX8) (N := 7) hx hb hq inX8g hown hK hP 0 rfl rfl 1 (by decide) (hq _ q_170) (fun _ h9 => h9) rfl dX8_run_14 ?_
  refine lv_iload_n hx hb dX8_run_17 rfl (lv_at hl 1 rfl) ?_
  refine lv_aload_n hx hb dX8_run_18 rfl (lv_at hl 0 rfl) ?_
  refine va_get (D := D) (ci := 6) (v := .ref a_t_program) (C := RX8) (T := TX8) (N := 7) hx hb hq inX8g hown hK hP 0 rfl rfl 1 (by decide) (hq _ q_170) (fun _ h9 => h9) rfl dX8_run_19 ?_
  refine va_get (D := D) (ci := 4) (v := .int t_program_result) (C := RX5) (T := TX5) (N := 8) hx hb hq inX5g hown hK hP 1 rfl rfl 2 (by decide) (hq _ q_56) (fun _ h9 => h9) rfl dX8_run_22 ?_
  refine cVi (As := [.ref a_t_program, .int x1, .int t_program_result]) (rest := []) (wc := [(a_t_machine, .inr (3, [.ref a_t_machine_values, .ref a_t_machine_depths])), (a_t_machine_values, .inl (ca 0, 41, .inl f_t_machine_values)), (a_t_program, .inr (4, [.int t_program_width, .int t_program_length, .int t_program_result, .int t_program_taskKind, .int t_program_taskDivisor, .ref a_t_program_operations, .ref a_t_program_firsts, .ref a_t_program_seconds])), (a_t_program_operations, .inl (ca 0, 40, .inl f_t_program_operations)), (a_t_program_firsts, .inl (ca 0, 40, .inl f_t_program_firsts)), (a_t_program_seconds, .inl (ca 0, 40, .inl f_t_program_seconds))]) (wr := [(a_t, .inr (6, [.ref a_t_generator, .ref a_t_program, .ref a_t_costs, .ref a_t_history, .ref a_t_machine, .ref a_t_tidier, .ref a_t_listing]))]) (w1 := fun u : (Nat → Int32) => [(a_t_machine, .inr (3, [.ref a_t_machine_values, .ref a_t_machine_depths])), (a_t_machine_values, .inl (ca 0, 41, .inl u)), (a_t_program, .inr (4, [.int t_program_width, .int t_program_length, .int t_program_result, .int t_program_taskKind, .int t_program_taskDivisor, .ref a_t_program_operations, .ref a_t_program_firsts, .ref a_t_program_seconds])), (a_t_program_operations, .inl (ca 0, 40, .inl f_t_program_operations)), (a_t_program_firsts, .inl (ca 0, 40, .inl f_t_program_firsts)), (a_t_program_seconds, .inl (ca 0, 40, .inl f_t_program_seconds))]) (ws2 := fun u : (Nat → Int32) => [(a_t, .inr (6, [.ref a_t_generator, .ref a_t_program, .ref a_t_costs, .ref a_t_history, .ref a_t_machine, .ref a_t_tidier, .ref a_t_listing])), (a_t_program, .inr (4, [.int t_program_width, .int t_program_length, .int t_program_result, .int t_program_taskKind, .int t_program_taskDivisor, .ref a_t_program_operations, .ref a_t_program_firsts, .ref a_t_program_seconds])), (a_t_program_operations, .inl (ca 0, 40, .inl f_t_program_operations)), (a_t_program_firsts, .inl (ca 0, 40, .inl f_t_program_firsts)), (a_t_program_seconds, .inl (ca 0, 40, .inl f_t_program_seconds)), (a_t_machine, .inr (3, [.ref a_t_machine_values, .ref a_t_machine_depths])), (a_t_machine_values, .inl (ca 0, 41, .inl u))]) ⟨hx, hb, hml, hown, hts⟩ (mX3_compute l D ca a_t_machine a_t_machine_values a_t_machine_depths a_t_program a_t_program_operations a_t_program_firsts a_t_program_seconds _ f_t_machine_values t_program_width t_program_length t_program_result t_program_taskKind t_program_taskDivisor f_t_program_operations f_t_program_firsts f_t_program_seconds x1 t_program_result _ h) (cwV 3 hts (gV q_752 q_753 q_754 q_5 q_755) rfl rfl rfl (by decide +kernel) ⟨Nat.le_of_ble_eq_true rfl, Nat.le_of_ble_eq_true rfl⟩) hK hP hD hS hA [5, 6, 1, 2, 3, 4] [0] [0, 3, 4, 5, 6, 1, 2] rfl rfl rfl (by decide) (fun _ => rfl) (ci := 3) (q0 := 5) rfl rfl rfl hl.1 rfl (Nat.le_of_ble_eq_true rfl) dX8_run_25 ⟨Nat.le_of_ble_eq_true rfl, Nat.le_of_ble_eq_true rfl⟩ (fun r_25 u9 H locs h hP hD hS => ?_)
  obtain ⟨f_t_machine_values_25, rfl⟩ : ∃ z, z = u9 := ⟨_, rfl⟩
  have hP : va_P D vwCl [(a_t, .inr (6, [.ref a_t_generator, .ref a_t_program, .ref a_t_costs, .ref a_t_history, .ref a_t_machine, .ref a_t_tidier, .ref a_t_listing])), (a_t_program, .inr (4, [.int t_program_width, .int t_program_length, .int t_program_result, .int t_program_taskKind, .int t_program_taskDivisor, .ref a_t_program_operations, .ref a_t_program_firsts, .ref a_t_program_seconds])), (a_t_program_operations, .inl (ca 0, 40, .inl f_t_program_operations)), (a_t_program_firsts, .inl (ca 0, 40, .inl f_t_program_firsts)), (a_t_program_seconds, .inl (ca 0, 40, .inl f_t_program_seconds)), (a_t_machine, .inr (3, [.ref a_t_machine_values, .ref a_t_machine_depths])), (a_t_machine_values, .inl (ca 0, 41, .inl f_t_machine_values_25))] H := hP
  have hD : va_D A [(a_t, .inr (6, [.ref a_t_generator, .ref a_t_program, .ref a_t_costs, .ref a_t_history, .ref a_t_machine, .ref a_t_tidier, .ref a_t_listing])), (a_t_program, .inr (4, [.int t_program_width, .int t_program_length, .int t_program_result, .int t_program_taskKind, .int t_program_taskDivisor, .ref a_t_program_operations, .ref a_t_program_firsts, .ref a_t_program_seconds])), (a_t_program_operations, .inl (ca 0, 40, .inl f_t_program_operations)), (a_t_program_firsts, .inl (ca 0, 40, .inl f_t_program_firsts)), (a_t_program_seconds, .inl (ca 0, 40, .inl f_t_program_seconds)), (a_t_machine, .inr (3, [.ref a_t_machine_values, .ref a_t_machine_depths])), (a_t_machine_values, .inl (ca 0, 41, .inl f_t_machine_values_25))] := hD
  try dsimp only at h
  refine W.widen (k := 1) (n := 6) (Nat.le_of_ble_eq_true rfl) (Nat.le_of_ble_eq_true rfl) ?_
  refine vx_ret ?_
  exact W.iret (v := r_25) hx hb hr (fun t ht hW => ⟨⟨r_25, f_t_machine_values_25, rfl, h, by rw [ht]; exact hP, va_K.moved hW.alike hK, hD⟩, hS.F ht⟩) hS.2.2 dX8_run_28

abbrev qX8_requireValue (D : va_G) (ca : Nat → ClassId) (a_t a_t_generator a_t_program a_t_costs a_t_history a_t_machine a_t_tidier a_t_listing a_t_program_operations a_t_program_firsts a_t_program_seconds : Nat) (t_program_width : Int32) (t_program_length : Int32) (t_program_result : Int32) (t_program_taskKind : Int32) (t_program_taskDivisor : Int32) (Q : Prop) (A : Nat → Prop) : Array Value → State → Outcome → State → Prop := va_Qv (fun (_ : Unit) => Q) (wEnd D ca (fun _ : Unit => [(a_t, .inr (6, [.ref a_t_generator, .ref a_t_program, .ref a_t_costs, .ref a_t_history, .ref a_t_machine, .ref a_t_tidier, .ref a_t_listing])), (a_t_program, .inr (4, [.int t_program_width, .int t_program_length, .int t_program_result, .int t_program_taskKind, .int t_program_taskDivisor, .ref a_t_program_operations, .ref a_t_program_firsts, .ref a_t_program_seconds]))]) A) A
def wX8_requireValue_15 (QX : String → Prop) : Prop :=
  QX xIO
def wX8_requireValue (t_program_length : Int32) (x1 : Int32) (Q : Prop) (QX : String → Prop) : Prop :=
  ((x1 < 0 → wX8_requireValue_15 QX) ∧ (¬ x1 < 0 → ((x1 ≤ t_program_length → Q) ∧ (¬ x1 ≤ t_program_length → wX8_requireValue_15 QX))))
set_option maxHeartbeats 4000000 in
set_option maxRecDepth 100000 in
theorem mX8_requireValue (l : Launch) (hl0 : l.stackTraces = false) (D : va_G) (ca : Nat → ClassId) (a_t a_t_generator a_t_program a_t_costs a_t_history a_t_machine a_t_tidier a_t_listing a_t_program_operations a_t_program_firsts a_t_program_seconds : Nat) (sz : Nat) (t_program_width : Int32) (t_program_length : Int32) (t_program_result : Int32) (t_program_taskKind : Int32) (t_program_taskDivisor : Int32) (x1 : Int32) (Q : Prop) (QX : String → Prop) (h : wX8_requireValue t_program_length x1 Q QX) : vx_Met l yX8_requireValue (Cond.code yX8_requireValue cX8_requireValue 2 none :: wsG) ({ frames := 6, cells := 1, slots := 6, locals := 90 } : Room) (va_Pc [.ref a_t, .int x1] (xPre D ca [(a_t, .inr (6, [.ref a_t_generator, .ref a_t_program, .ref a_t_costs, .ref a_t_history, .ref a_t_machine, .ref a_t_tidier, .ref a_t_listing])), (a_t_program, .inr (4, [.int t_program_width, .int t_program_length, .int t_program_result, .int t_program_taskKind, .int t_program_taskDivisor, .ref a_t_program_operations, .ref a_t_program_firsts, .ref a_t_program_seconds]))] sz)) (qX8_requireValue D ca a_t a_t_generator a_t_program a_t_costs a_t_history a_t_machine a_t_tidier a_t_listing a_t_program_operations a_t_program_firsts a_t_program_seconds t_program_width t_program_length t_program_result t_program_taskKind t_program_taskDivisor Q (va_A [(a_t, .inr (6, [.ref a_t_generator, .ref a_t_program, .ref a_t_costs, .ref a_t_history, .ref a_t_machine, .ref a_t_tidier, .ref a_t_listing])), (a_t_program, .inr (4, [.int t_program_width, .int t_program_length, .int t_program_result, .int t_program_taskKind, .int t_program_taskDivisor, .ref a_t_program_operations, .ref a_t_program_firsts, .ref a_t_program_seconds]))] sz)) (xEnd D ca [(a_t, .inr (6, [.ref a_t_generator, .ref a_t_program, .ref a_t_costs, .ref a_t_history, .ref a_t_machine, .ref a_t_tidier, .ref a_t_listing])), (a_t_program, .inr (4, [.int t_program_width, .int t_program_length, .int t_program_result, .int t_program_taskKind, .int t_program_taskDivisor, .ref a_t_program_operations, .ref a_t_program_firsts, .ref a_t_program_seconds]))] QX (va_A [(a_t, .inr (6, [.ref a_t_generator, .ref a_t_program, .ref a_t_costs, .ref a_t_history, .ref a_t_machine, .ref a_t_tidier, .ref a_t_listing])), (a_t_program, .inr (4, [.int t_program_width, .int t_program_length, .int t_program_result, .int t_program_taskKind, .int t_program_taskDivisor, .ref a_t_program_operations, .ref a_t_program_firsts, .ref a_t_program_seconds]))] sz)) 1 6 (va_A [(a_t, .inr (6, [.ref a_t_generator, .ref a_t_program, .ref a_t_costs, .ref a_t_history, .ref a_t_machine, .ref a_t_tidier, .ref a_t_listing])), (a_t_program, .inr (4, [.int t_program_width, .int t_program_length, .int t_program_result, .int t_program_taskKind, .int t_program_taskDivisor, .ref a_t_program_operations, .ref a_t_program_firsts, .ref a_t_program_seconds]))] sz) := by
  refine vx_ofW (cc := cX8_requireValue) (maxL := 2) (ret := none) (by decide) rfl ?_
  intro p e s m args below meth c s₁ B hml htab hv
  obtain ⟨rfl, ⟨hsz, hP, hK, hD0⟩, hX⟩ := hv
  have hx := B.exec
  have hb := B.bytes
  have hr := B.returns
  have hts := atoms_spec (ws := (Cond.code yX8_requireValue cX8_requireValue 2 none :: wsG)) B.pre
  have hq : ∀ w ∈ wsG, w.before _ s = true := fun w hw => hts w (List.mem_cons_of_mem _ hw)
  have hown : s.vm.findClass RX8 = some m.cls := findClass_of_methodNamed B.named
  have hlocks := B.notSynchronized
  subst hsz
  have hD := hD0.self (sz := s.heap.size)
  generalize hAe : va_A [(a_t, .inr (6, [.ref a_t_generator, .ref a_t_program, .ref a_t_costs, .ref a_t_history, .ref a_t_machine, .ref a_t_tidier, .ref a_t_listing])), (a_t_program, .inr (4, [.int t_program_width, .int t_program_length, .int t_program_result, .int t_program_taskKind, .int t_program_taskDivisor, .ref a_t_program_operations, .ref a_t_program_firsts, .ref a_t_program_seconds]))] s.heap.size = A at hD hX ⊢
  have hA : ∀ q : Nat, s.heap.size ≤ q → A q := fun q h => by rw [← hAe]; exact Or.inr h
  have hS : va_S A s.heap s.heap [] := va_S.rf
  have hP : va_P D vwCl [(a_t, .inr (6, [.ref a_t_generator, .ref a_t_program, .ref a_t_costs, .ref a_t_history, .ref a_t_machine, .ref a_t_tidier, .ref a_t_listing])), (a_t_program, .inr (4, [.int t_program_width, .int t_program_length, .int t_program_result, .int t_program_taskKind, .int t_program_taskDivisor, .ref a_t_program_operations, .ref a_t_program_firsts, .ref a_t_program_seconds]))] s.heap := hP
  have hl := lv_entry ([.ref a_t, .int x1]) (n := 2) (Nat.le_of_ble_eq_true rfl)
  rw [lg_entry_eq]
  generalize (lg_sl ([.ref a_t, .int x1]) ++ List.replicate (2 - (lg_sl ([.ref a_t, .int x1])).length) Slot.unset).toArray = ls at hl ⊢
  have hl : lv_has ls 2 [(0, .ref a_t), (1, .int x1)] := hl
  unfold wX8_requireValue at h
  refine lv_iload_n hx hb dX8_requireValue_0 rfl (lv_at hl 1 rfl) ?_
  have hJ15 : ∀ (H : Heap) (locs : List Loc) (ls : Array Slot), va_P D vwCl [(a_t, .inr (6, [.ref a_t_generator, .ref a_t_program, .ref a_t_costs, .ref a_t_history, .ref a_t_machine, .ref a_t_tidier, .ref a_t_listing])), (a_t_program, .inr (4, [.int t_program_width, .int t_program_length, .int t_program_result, .int t_program_taskKind, .int t_program_taskDivisor, .ref a_t_program_operations, .ref a_t_program_firsts, .ref a_t_program_seconds]))] H → va_D A [(a_t, .inr (6, [.ref a_t_generator, .ref a_t_program, .ref a_t_costs, .ref a_t_history, .ref a_t_machine, .ref a_t_tidier, .ref a_t_listing])), (a_t_program, .inr (4, [.int t_program_width, .int t_program_length, .int t_program_result, .int t_program_taskKind, .int t_program_taskDivisor, .ref a_t_program_operations, .ref a_t_program_firsts, .ref a_t_program_seconds]))] → va_S A s.heap H locs → lv_has ls 2 [] → wX8_requireValue_15 QX → W p l e (headSpec (Cond.code yX8_requireValue cX8_requireValue 2 none :: wsG) ({ frames := 6, cells := 1, slots := 6, locals := 90 } : Room)).room s m ([.ref a_t, .int x1] : List Value).toArray below meth c H locs 0 0 (vx_MQ below (qX8_requireValue D ca a_t a_t_generator a_t_program a_t_costs a_t_history a_t_machine a_t_tidier a_t_listing a_t_program_operations a_t_program_firsts a_t_program_seconds t_program_width t_program_length t_program_result t_program_taskKind t_program_taskDivisor Q A) (xEnd D ca [(a_t, .inr (6, [.ref a_t_generator, .ref a_t_program, .ref a_t_costs, .ref a_t_history, .ref a_t_machine, .ref a_t_tidier, .ref a_t_listing])), (a_t_program, .inr (4, [.int t_program_width, .int t_program_length, .int t_program_result, .int t_program_taskKind, .int t_program_taskDivisor, .ref a_t_program_operations, .ref a_t_program_firsts, .ref a_t_program_seconds]))] QX A) ([.ref a_t, .int x1] : List Value).toArray s 1 6 A) (F0 m 15 ls []) := by
    intro  H locs ls hP hD hS hl h
    unfold wX8_requireValue_15 at h
    exact x_throwW (nmx := xIO) (text := "there is no such value") hx hb hl0 hown hX (by decide) (by decide) (hq _ q_364) (hq _ q_15) (xh_IO hq hX.2.2.2.2.1 hX.2.2.2.2.2.1) xg_IO hS (hl.1.trans hml.symm) dX8_requireValue_15 dX8_requireValue_18 dX8_requireValue_19 dX8_requireValue_22 dX8_requireValue_25 htab (Nat.le_of_ble_eq_true rfl) (Nat.le_of_ble_eq_true rfl) (Nat.le_of_ble_eq_true rfl) (Nat.le_of_ble_eq_true rfl) hlocks (fun t hvm h1 h2 => ⟨(), trivial, ⟨h, fun k q h3 => (hP k q h3).kept (h2 q.1 (hP k q h3).lt), va_K.moved hvm hK, hD⟩, ⟨Nat.le_trans hS.1 h1, fun q h3 h4 => (h2 q (Nat.lt_of_lt_of_le h3 hS.1)).trans (hS.2.1 q h3 h4)⟩⟩) hS.2.2 (Nat.le_of_ble_eq_true rfl) (Nat.le_of_ble_eq_true rfl)
  refine lv_if_lt (tgt := 15) hx hb dX8_requireValue_1 (by decide) (fun c9 => ?_) (fun c9 => ?_)
  · have h := h.1 c9
    exact hJ15 _ _ _ hP hD hS (lv_sub hl [] rfl) h
  · have h := h.2 c9
    refine lv_iload_n hx hb dX8_requireValue_4 rfl (lv_at hl 1 rfl) ?_
    refine lv_aload_n hx hb dX8_requireValue_5 rfl (lv_at hl 0 rfl) ?_
    refine va_get (D := D) (ci := 6) (v := .ref a_t_program) (C := RX8) (T := TX8) (N := 7) hx hb hq inX8g hown hK hP 0 rfl rfl 1 (by decide) (hq _ q_170) (fun _ h9 => h9) rfl dX8_requireValue_6 ?_
    refine va_get (D := D) (ci := 4) (v := .int t_program_length) (C := RX5) (T := TX5) (N := 8) hx hb hq inX5g hown hK hP 1 rfl rfl 1 (by decide) (hq _ q_51) (fun _ h9 => h9) rfl dX8_requireValue_9 ?_
    refine lv_icmp_le (tgt := 26) hx hb dX8_requireValue_12 (by decide) (fun c9 => ?_) (fun c9 => ?_)
    · have h := h.1 c9
      refine W.widen (k := 1) (n := 6) (Nat.le_of_ble_eq_true rfl) (Nat.le_of_ble_eq_true rfl) ?_
      refine vx_ret ?_
      exact W.vret hx hb hr (fun t ht hW => ⟨⟨(), rfl, h, by rw [ht]; exact hP, va_K.moved hW.alike hK, hD⟩, hS.F ht⟩) hS.2.2 dX8_requireValue_26
    · have h := h.2 c9
      exact hJ15 _ _ _ hP hD hS (lv_sub hl [] rfl) h

abbrev qX8_valueOf (D : va_G) (ca : Nat → ClassId) (a_t a_t_generator a_t_program a_t_costs a_t_history a_t_machine a_t_tidier a_t_listing a_t_program_operations a_t_program_firsts a_t_program_seconds a_t_machine_values a_t_machine_depths : Nat) (t_program_width : Int32) (t_program_length : Int32) (t_program_result : Int32) (t_program_taskKind : Int32) (t_program_taskDivisor : Int32) (f_t_program_operations : Nat → Int32) (f_t_program_firsts : Nat → Int32) (f_t_program_seconds : Nat → Int32) (Q : Int32 → (Nat → Int32) → Prop) (A : Nat → Prop) : Array Value → State → Outcome → State → Prop := va_Qi (fun (r : Int32) (u : (Nat → Int32)) => Q r u) (wEnd D ca (fun u : (Nat → Int32) => [(a_t, .inr (6, [.ref a_t_generator, .ref a_t_program, .ref a_t_costs, .ref a_t_history, .ref a_t_machine, .ref a_t_tidier, .ref a_t_listing])), (a_t_program, .inr (4, [.int t_program_width, .int t_program_length, .int t_program_result, .int t_program_taskKind, .int t_program_taskDivisor, .ref a_t_program_operations, .ref a_t_program_firsts, .ref a_t_program_seconds])), (a_t_program_operations, .inl (ca 0, 40, .inl f_t_program_operations)), (a_t_program_firsts, .inl (ca 0, 40, .inl f_t_program_firsts)), (a_t_program_seconds, .inl (ca 0, 40, .inl f_t_program_seconds)), (a_t_machine, .inr (3, [.ref a_t_machine_values, .ref a_t_machine_depths])), (a_t_machine_values, .inl (ca 0, 41, .inl u))]) A) A
def wX8_valueOf (t_program_width : Int32) (t_program_length : Int32) (f_t_program_operations : Nat → Int32) (f_t_program_firsts : Nat → Int32) (f_t_program_seconds : Nat → Int32) (f_t_machine_values : Nat → Int32) (x1 : Int32) (x2 : Int32) (Q : Int32 → (Nat → Int32) → Prop) (QX : String → Prop) : Prop :=
  wX8_greatestValue t_program_width (fun r_3 => wX8_requireFromTo x1 0 r_3 (wX8_requireValue t_program_length x2 (wX3_compute f_t_machine_values t_program_width f_t_program_operations f_t_program_firsts f_t_program_seconds x1 x2 (fun r_24 f_t_machine_values_24 => Q r_24 f_t_machine_values_24)) QX) QX)
set_option maxHeartbeats 4000000 in
set_option maxRecDepth 100000 in
theorem mX8_valueOf (l : Launch) (hl0 : l.stackTraces = false) (D : va_G) (ca : Nat → ClassId) (a_t a_t_generator a_t_program a_t_costs a_t_history a_t_machine a_t_tidier a_t_listing a_t_program_operations a_t_program_firsts a_t_program_seconds a_t_machine_values a_t_machine_depths : Nat) (sz : Nat) (t_program_width : Int32) (t_program_length : Int32) (t_program_result : Int32) (t_program_taskKind : Int32) (t_program_taskDivisor : Int32) (f_t_program_operations : Nat → Int32) (f_t_program_firsts : Nat → Int32) (f_t_program_seconds : Nat → Int32) (f_t_machine_values : Nat → Int32) (x1 : Int32) (x2 : Int32) (Q : Int32 → (Nat → Int32) → Prop) (QX : String → Prop) (h : wX8_valueOf t_program_width t_program_length f_t_program_operations f_t_program_firsts f_t_program_seconds f_t_machine_values x1 x2 Q QX) : vx_Met l yX8_valueOf (Cond.code yX8_valueOf cX8_valueOf 3 (some .int) :: wsG) ({ frames := 7, cells := 2, slots := 12, locals := 112 } : Room) (va_Pc [.ref a_t, .int x1, .int x2] (xPre D ca [(a_t, .inr (6, [.ref a_t_generator, .ref a_t_program, .ref a_t_costs, .ref a_t_history, .ref a_t_machine, .ref a_t_tidier, .ref a_t_listing])), (a_t_program, .inr (4, [.int t_program_width, .int t_program_length, .int t_program_result, .int t_program_taskKind, .int t_program_taskDivisor, .ref a_t_program_operations, .ref a_t_program_firsts, .ref a_t_program_seconds])), (a_t_program_operations, .inl (ca 0, 40, .inl f_t_program_operations)), (a_t_program_firsts, .inl (ca 0, 40, .inl f_t_program_firsts)), (a_t_program_seconds, .inl (ca 0, 40, .inl f_t_program_seconds)), (a_t_machine, .inr (3, [.ref a_t_machine_values, .ref a_t_machine_depths])), (a_t_machine_values, .inl (ca 0, 41, .inl f_t_machine_values))] sz)) (qX8_valueOf D ca a_t a_t_generator a_t_program a_t_costs a_t_history a_t_machine a_t_tidier a_t_listing a_t_program_operations a_t_program_firsts a_t_program_seconds a_t_machine_values a_t_machine_depths t_program_width t_program_length t_program_result t_program_taskKind t_program_taskDivisor f_t_program_operations f_t_program_firsts f_t_program_seconds Q (va_A [(a_t, .inr (6, [.ref a_t_generator, .ref a_t_program, .ref a_t_costs, .ref a_t_history, .ref a_t_machine, .ref a_t_tidier, .ref a_t_listing])), (a_t_program, .inr (4, [.int t_program_width, .int t_program_length, .int t_program_result, .int t_program_taskKind, .int t_program_taskDivisor, .ref a_t_program_operations, .ref a_t_program_firsts, .ref a_t_program_seconds])), (a_t_program_operations, .inl (ca 0, 40, .inl f_t_program_operations)), (a_t_program_firsts, .inl (ca 0, 40, .inl f_t_program_firsts)), (a_t_program_seconds, .inl (ca 0, 40, .inl f_t_program_seconds)), (a_t_machine, .inr (3, [.ref a_t_machine_values, .ref a_t_machine_depths])), (a_t_machine_values, .inl (ca 0, 41, .inl f_t_machine_values))] sz)) (xEnd D ca [(a_t, .inr (6, [.ref a_t_generator, .ref a_t_program, .ref a_t_costs, .ref a_t_history, .ref a_t_machine, .ref a_t_tidier, .ref a_t_listing])), (a_t_program, .inr (4, [.int t_program_width, .int t_program_length, .int t_program_result, .int t_program_taskKind, .int t_program_taskDivisor, .ref a_t_program_operations, .ref a_t_program_firsts, .ref a_t_program_seconds])), (a_t_program_operations, .inl (ca 0, 40, .inl f_t_program_operations)), (a_t_program_firsts, .inl (ca 0, 40, .inl f_t_program_firsts)), (a_t_program_seconds, .inl (ca 0, 40, .inl f_t_program_seconds)), (a_t_machine, .inr (3, [.ref a_t_machine_values, .ref a_t_machine_depths])), (a_t_machine_values, .inl (ca 0, 41, .inl f_t_machine_values))] QX (va_A [(a_t, .inr (6, [.ref a_t_generator, .ref a_t_program, .ref a_t_costs, .ref a_t_history, .ref a_t_machine, .ref a_t_tidier, .ref a_t_listing])), (a_t_program, .inr (4, [.int t_program_width, .int t_program_length, .int t_program_result, .int t_program_taskKind, .int t_program_taskDivisor, .ref a_t_program_operations, .ref a_t_program_firsts, .ref a_t_program_seconds])), (a_t_program_operations, .inl (ca 0, 40, .inl f_t_program_operations)), (a_t_program_firsts, .inl (ca 0, 40, .inl f_t_program_firsts)), (a_t_program_seconds, .inl (ca 0, 40, .inl f_t_program_seconds)), (a_t_machine, .inr (3, [.ref a_t_machine_values, .ref a_t_machine_depths])), (a_t_machine_values, .inl (ca 0, 41, .inl f_t_machine_values))] sz)) 2 12 (va_A [(a_t, .inr (6, [.ref a_t_generator, .ref a_t_program, .ref a_t_costs, .ref a_t_history, .ref a_t_machine, .ref a_t_tidier, .ref a_t_listing])), (a_t_program, .inr (4, [.int t_program_width, .int t_program_length, .int t_program_result, .int t_program_taskKind, .int t_program_taskDivisor, .ref a_t_program_operations, .ref a_t_program_firsts, .ref a_t_program_seconds])), (a_t_program_operations, .inl (ca 0, 40, .inl f_t_program_operations)), (a_t_program_firsts, .inl (ca 0, 40, .inl f_t_program_firsts)), (a_t_program_seconds, .inl (ca 0, 40, .inl f_t_program_seconds)), (a_t_machine, .inr (3, [.ref a_t_machine_values, .ref a_t_machine_depths])), (a_t_machine_values, .inl (ca 0, 41, .inl f_t_machine_values))] sz) := by
  refine vx_ofW (cc := cX8_valueOf) (maxL := 3) (ret := (some .int)) (by decide) rfl ?_
  intro p e s m args below meth c s₁ B hml htab hv
  obtain ⟨rfl, ⟨hsz, hP, hK, hD0⟩, hX⟩ := hv
  have hx := B.exec
  have hb := B.bytes
  have hr := B.returns
  have hts := atoms_spec (ws := (Cond.code yX8_valueOf cX8_valueOf 3 (some .int) :: wsG)) B.pre
  have hq : ∀ w ∈ wsG, w.before _ s = true := fun w hw => hts w (List.mem_cons_of_mem _ hw)
  have hown : s.vm.findClass RX8 = some m.cls := findClass_of_methodNamed B.named
  have hlocks := B.notSynchronized
  subst hsz
  have hD := hD0.self (sz := s.heap.size)
  generalize hAe : va_A [(a_t, .inr (6, [.ref a_t_generator, .ref a_t_program, .ref a_t_costs, .ref a_t_history, .ref a_t_machine, .ref a_t_tidier, .ref a_t_listing])), (a_t_program, .inr (4, [.int t_program_width, .int t_program_length, .int t_program_result, .int t_program_taskKind, .int t_program_taskDivisor, .ref a_t_program_operations, .ref a_t_program_firsts, .ref a_t_program_seconds])), (a_t_program_operations, .inl (ca 0, 40, .inl f_t_program_operations)), (a_t_program_firsts, .inl (ca 0, 40, .inl f_t_program_firsts)), (a_t_program_seconds, .inl (ca 0, 40, .inl f_t_program_seconds)), (a_t_machine, .inr (3, [.ref a_t_machine_values, .ref a_t_machine_depths])), (a_t_machine_values, .inl (ca 0, 41, .inl f_t_machine_values))] s.heap.size = A at hD hX ⊢
  have hA : ∀ q : Nat, s.heap.size ≤ q → A q := fun q h => by rw [← hAe]; exact Or.inr h
  have hS : va_S A s.heap s.heap [] := va_S.rf
  have hP : va_P D vwCl [(a_t, .inr (6, [.ref a_t_generator, .ref a_t_program, .ref a_t_costs, .ref a_t_history, .ref a_t_machine, .ref a_t_tidier, .ref a_t_listing])), (a_t_program, .inr (4, [.int t_program_width, .int t_program_length, .int t_program_result, .int t_program_taskKind, .int t_program_taskDivisor, .ref a_t_program_operations, .ref a_t_program_firsts, .ref a_t_program_seconds])), (a_t_program_operations, .inl (ca 0, 40, .inl f_t_program_operations)), (a_t_program_firsts, .inl (ca 0, 40, .inl f_t_program_firsts)), (a_t_program_seconds, .inl (ca 0, 40, .inl f_t_program_seconds)), (a_t_machine, .inr (3, [.ref a_t_machine_values, .ref a_t_machine_depths])), (a_t_machine_values, .inl (ca 0, 41, .inl f_t_machine_values))] s.heap := hP
  have hl := lv_entry ([.ref a_t, .int x1, .int x2]) (n := 3) (Nat.le_of_ble_eq_true rfl)
  rw [lg_entry_eq]
  generalize (lg_sl ([.ref a_t, .int x1, .int x2]) ++ List.replicate (3 - (lg_sl ([.ref a_t, .int x1, .int x2])).length) Slot.unset).toArray = ls at hl ⊢
  have hl : lv_has ls 3 [(0, .ref a_t), (1, .int x1), (2, .int x2)] := hl
  unfold wX8_valueOf at h
  refine lv_iload_n hx hb dX8_valueOf_0 rfl (lv_at hl 1 rfl) ?_
  refine lv_iconst (v := 0) hx hb dX8_valueOf_1 (by decide) ?_
  refine lv_aload_n hx hb dX8_valueOf_2 rfl (lv_at hl 0 rfl) ?_
  refine cVi (As := []) (rest := [.int 0, .int x1]) (wc := [(a_t, .inr (6, [.ref a_t_generator, .ref a_t_program, .ref a_t_costs, .ref a_t_history, .ref a_t_machine, .ref a_t_tidier, .ref a_t_listing])), (a_t_program, .inr (4, [.int t_program_width, .int t_program_length, .int t_program_result, .int t_program_taskKind, .int t_program_taskDivisor, .ref a_t_program_operations, .ref a_t_program_firsts, .ref a_t_program_seconds]))]) (wr := [(a_t_program_operations, .inl (ca 0, 40, .inl f_t_program_operations)), (a_t_program_firsts, .inl (ca 0, 40, .inl f_t_program_firsts)), (a_t_program_seconds, .inl (ca 0, 40, .inl f_t_program_seconds)), (a_t_machine, .inr (3, [.ref a_t_machine_values, .ref a_t_machine_depths])), (a_t_machine_values, .inl (ca 0, 41, .inl f_t_machine_values))]) (w1 := fun _ : Unit => [(a_t, .inr (6, [.ref a_t_generator, .ref a_t_program, .ref a_t_costs, .ref a_t_history, .ref a_t_machine, .ref a_t_tidier, .ref a_t_listing])), (a_t_program, .inr (4, [.int t_program_width, .int t_program_length, .int t_program_result, .int t_program_taskKind, .int t_program_taskDivisor, .ref a_t_program_operations, .ref a_t_program_firsts, .ref a_t_program_seconds]))]) (ws2 := fun _ : Unit => [(a_t, .inr (6, [.ref a_t_generator, .ref a_t_program, .ref a_t_costs, .ref a_t_history, .ref a_t_machine, .ref a_t_tidier, .ref a_t_listing])), (a_t_program, .inr (4, [.int t_program_width, .int t_program_length, .int t_program_result, .int t_program_taskKind, .int t_program_taskDivisor, .ref a_t_program_operations, .ref a_t_program_firsts, .ref a_t_program_seconds])), (a_t_program_operations, .inl (ca 0, 40, .inl f_t_program_operations)), (a_t_program_firsts, .inl (ca 0, 40, .inl f_t_program_firsts)), (a_t_program_seconds, .inl (ca 0, 40, .inl f_t_program_seconds)), (a_t_machine, .inr (3, [.ref a_t_machine_values, .ref a_t_machine_depths])), (a_t_machine_values, .inl (ca 0, 41, .inl f_t_machine_values))]) ⟨hx, hb, hml, hown, hts⟩ (mX8_greatestValue l D ca a_t a_t_generator a_t_program a_t_costs a_t_history a_t_machine a_t_tidier a_t_listing a_t_program_operations a_t_program_firsts a_t_program_seconds _ t_program_width t_program_length t_program_result t_program_taskKind t_program_taskDivisor _ h) (cwV 0 hts (gV q_388 q_390 qs_5 q_1 q_391) rfl rfl rfl (by decide +kernel) ⟨Nat.le_of_ble_eq_true rfl, Nat.le_of_ble_eq_true rfl⟩) hK hP hD hS hA [0, 1] [2, 3, 4, 5, 6] [5, 6, 0, 1, 2, 3, 4] rfl rfl rfl (by decide) (fun _ => rfl) (ci := 6) (q0 := 0) rfl rfl rfl hl.1 rfl (Nat.le_of_ble_eq_true rfl) dX8_valueOf_3 ⟨Nat.le_of_ble_eq_true rfl, Nat.le_of_ble_eq_true rfl⟩ (fun r_3 u9 H locs h hP hD hS => ?_)
  try dsimp only at h
  refine xPv (As := [.int x1, .int 0, .int r_3]) (rest := []) ⟨hx, hb, hml, hown, hts⟩ (mX8_requireFromTo l hl0 x1 0 r_3 _ _ h) (va_cwS 3 hts (gS q_392 q_393 q_1 q_394) rfl rfl rfl (by decide +kernel) ⟨Nat.le_of_ble_eq_true rfl, Nat.le_of_ble_eq_true rfl⟩) hX hS rfl hl.1 rfl (Nat.le_of_ble_eq_true rfl) dX8_valueOf_6 ⟨Nat.le_of_ble_eq_true rfl, Nat.le_of_ble_eq_true rfl⟩ (fun E ce q9 H1 locs hE hk1 hS h1 h2 h3 => x_out htab hlocks hK (s_back hP hk1) hD hS hE h1 h2 h3 (Nat.le_of_ble_eq_true rfl) (Nat.le_of_ble_eq_true rfl)) (fun H1 locs h hk1 hS => ?_)
  have hP := s_back hP hk1
  try dsimp only at h
  refine lv_aload_n hx hb dX8_valueOf_9 rfl (lv_at hl 0 rfl) ?_
  refine lv_iload_n hx hb dX8_valueOf_10 rfl (lv_at hl 2 rfl) ?_
  refine xVv (As := [.int x2]) (rest := []) (wc := [(a_t, .inr (6, [.ref a_t_generator, .ref a_t_program, .ref a_t_costs, .ref a_t_history, .ref a_t_machine, .ref a_t_tidier, .ref a_t_listing])), (a_t_program, .inr (4, [.int t_program_width, .int t_program_length, .int t_program_result, .int t_program_taskKind, .int t_program_taskDivisor, .ref a_t_program_operations, .ref a_t_program_firsts, .ref a_t_program_seconds]))]) (wr := [(a_t_program_operations, .inl (ca 0, 40, .inl f_t_program_operations)), (a_t_program_firsts, .inl (ca 0, 40, .inl f_t_program_firsts)), (a_t_program_seconds, .inl (ca 0, 40, .inl f_t_program_seconds)), (a_t_machine, .inr (3, [.ref a_t_machine_values, .ref a_t_machine_depths])), (a_t_machine_values, .inl (ca 0, 41, .inl f_t_machine_values))]) (w1 := fun _ : Unit => [(a_t, .inr (6, [.ref a_t_generator, .ref a_t_program, .ref a_t_costs, .ref a_t_history, .ref a_t_machine, .ref a_t_tidier, .ref a_t_listing])), (a_t_program, .inr (4, [.int t_program_width, .int t_program_length, .int t_program_result, .int t_program_taskKind, .int t_program_taskDivisor, .ref a_t_program_operations, .ref a_t_program_firsts, .ref a_t_program_seconds]))]) (ws2 := fun _ : Unit => [(a_t, .inr (6, [.ref a_t_generator, .ref a_t_program, .ref a_t_costs, .ref a_t_history, .ref a_t_machine, .ref a_t_tidier, .ref a_t_listing])), (a_t_program, .inr (4, [.int t_program_width, .int t_program_length, .int t_program_result, .int t_program_taskKind, .int t_program_taskDivisor, .ref a_t_program_operations, .ref a_t_program_firsts, .ref a_t_program_seconds])), (a_t_program_operations, .inl (ca 0, 40, .inl f_t_program_operations)), (a_t_program_firsts, .inl (ca 0, 40, .inl f_t_program_firsts)), (a_t_program_seconds, .inl (ca 0, 40, .inl f_t_program_seconds)), (a_t_machine, .inr (3, [.ref a_t_machine_values, .ref a_t_machine_depths])), (a_t_machine_values, .inl (ca 0, 41, .inl f_t_machine_values))]) ⟨hx, hb, hml, hown, hts⟩ (mX8_requireValue l hl0 D ca a_t a_t_generator a_t_program a_t_costs a_t_history a_t_machine a_t_tidier a_t_listing a_t_program_operations a_t_program_firsts a_t_program_seconds _ t_program_width t_program_length t_program_result t_program_taskKind t_program_taskDivisor x2 _ _ h) (cwV 1 hts (gV q_587 q_589 qs_21 q_1 q_590) rfl rfl rfl (by decide +kernel) ⟨Nat.le_of_ble_eq_true rfl, Nat.le_of_ble_eq_true rfl⟩) hX hK hP hD hS hA [0, 1] [2, 3, 4, 5, 6] [5, 6, 0, 1, 2, 3, 4] rfl rfl rfl (by decide) (fun _ => rfl) rfl (ci := 6) (q0 := 0) rfl rfl rfl hl.1 rfl (Nat.le_of_ble_eq_true rfl) dX8_valueOf_11 ⟨Nat.le_of_ble_eq_true rfl, Nat.le_of_ble_eq_true rfl⟩ (fun E ce q9 H1 locs hE hP hS h1 h2 h3 => x_out htab hlocks hK hP hD hS hE h1 h2 h3 (Nat.le_of_ble_eq_true rfl) (Nat.le_of_ble_eq_true rfl)) (fun u9 H locs h hP hD hS => ?_)
  try dsimp only at h
  refine lv_aload_n hx hb dX8_valueOf_14 rfl (lv_at hl 0 rfl) ?_
  refine va_get (D := D) (ci := 6) (v := .ref a_t_machine) (C := RX8) (T := TX8) (N := 7) hx hb hq inX8g hown hK hP 0 rfl rfl 4 (by decide) (hq _ q_173) (fun _ h9 => h9) rfl dX8_valueOf_15 ?_
  refine lv_aload_n hx hb dX8_valueOf_18 rfl (lv_at hl 0 rfl) ?_
  refine va_get (D := D) (ci := 6) (v := .ref a_t_program) (C := RX8) (T := TX8) (N := 7) hx hb hq inX8g hown hK hP 0 rfl rfl 1 (by decide) (hq _ q_170) (fun _ h9 => h9) rfl dX8_valueOf_19 ?_
  refine lv_iload_n hx hb dX8_valueOf_22 rfl (lv_at hl 1 rfl) ?_
  refine lv_iload_n hx hb dX8_valueOf_23 rfl (lv_at hl 2 rfl) ?_
  refine cVi (As := [.ref a_t_program, .int x1, .int x2]) (rest := []) (wc := [(a_t_machine, .inr (3, [.ref a_t_machine_values, .ref a_t_machine_depths])), (a_t_machine_values, .inl (ca 0, 41, .inl f_t_machine_values)), (a_t_program, .inr (4, [.int t_program_width, .int t_program_length, .int t_program_result, .int t_program_taskKind, .int t_program_taskDivisor, .ref a_t_program_operations, .ref a_t_program_firsts, .ref a_t_program_seconds])), (a_t_program_operations, .inl (ca 0, 40, .inl f_t_program_operations)), (a_t_program_firsts, .inl (ca 0, 40, .inl f_t_program_firsts)), (a_t_program_seconds, .inl (ca 0, 40, .inl f_t_program_seconds))]) (wr := [(a_t, .inr (6, [.ref a_t_generator, .ref a_t_program, .ref a_t_costs, .ref a_t_history, .ref a_t_machine, .ref a_t_tidier, .ref a_t_listing]))]) (w1 := fun u : (Nat → Int32) => [(a_t_machine, .inr (3, [.ref a_t_machine_values, .ref a_t_machine_depths])), (a_t_machine_values, .inl (ca 0, 41, .inl u)), (a_t_program, .inr (4, [.int t_program_width, .int t_program_length, .int t_program_result, .int t_program_taskKind, .int t_program_taskDivisor, .ref a_t_program_operations, .ref a_t_program_firsts, .ref a_t_program_seconds])), (a_t_program_operations, .inl (ca 0, 40, .inl f_t_program_operations)), (a_t_program_firsts, .inl (ca 0, 40, .inl f_t_program_firsts)), (a_t_program_seconds, .inl (ca 0, 40, .inl f_t_program_seconds))]) (ws2 := fun u : (Nat → Int32) => [(a_t, .inr (6, [.ref a_t_generator, .ref a_t_program, .ref a_t_costs, .ref a_t_history, .ref a_t_machine, .ref a_t_tidier, .ref a_t_listing])), (a_t_program, .inr (4, [.int t_program_width, .int t_program_length, .int t_program_result, .int t_program_taskKind, .int t_program_taskDivisor, .ref a_t_program_operations, .ref a_t_program_firsts, .ref a_t_program_seconds])), (a_t_program_operations, .inl (ca 0, 40, .inl f_t_program_operations)), (a_t_program_firsts, .inl (ca 0, 40, .inl f_t_program_firsts)), (a_t_program_seconds, .inl (ca 0, 40, .inl f_t_program_seconds)), (a_t_machine, .inr (3, [.ref a_t_machine_values, .ref a_t_machine_depths])), (a_t_machine_values, .inl (ca 0, 41, .inl u))]) ⟨hx, hb, hml, hown, hts⟩ (mX3_compute l D ca a_t_machine a_t_machine_values a_t_machine_depths a_t_program a_t_program_operations a_t_program_firsts a_t_program_seconds _ f_t_machine_values t_program_width t_program_length t_program_result t_program_taskKind t_program_taskDivisor f_t_program_operations f_t_program_firsts f_t_program_seconds x1 x2 _ h) (cwV 3 hts (gV q_752 q_753 q_754 q_5 q_755) rfl rfl rfl (by decide +kernel) ⟨Nat.le_of_ble_eq_true rfl, Nat.le_of_ble_eq_true rfl⟩) hK hP hD hS hA [5, 6, 1, 2, 3, 4] [0] [0, 3, 4, 5, 6, 1, 2] rfl rfl rfl (by decide) (fun _ => rfl) (ci := 3) (q0 := 5) rfl rfl rfl hl.1 rfl (Nat.le_of_ble_eq_true rfl) dX8_valueOf_24 ⟨Nat.le_of_ble_eq_true rfl, Nat.le_of_ble_eq_true rfl⟩ (fun r_24 u9 H locs h hP hD hS => ?_)
  obtain ⟨f_t_machine_values_24, rfl⟩ : ∃ z, z = u9 := ⟨_, rfl⟩
  have hP : va_P D vwCl [(a_t, .inr (6, [.ref a_t_generator, .ref a_t_program, .ref a_t_costs, .ref a_t_history, .ref a_t_machine, .ref a_t_tidier, .ref a_t_listing])), (a_t_program, .inr (4, [.int t_program_width, .int t_program_length, .int t_program_result, .int t_program_taskKind, .int t_program_taskDivisor, .ref a_t_program_operations, .ref a_t_program_firsts, .ref a_t_program_seconds])), (a_t_program_operations, .inl (ca 0, 40, .inl f_t_program_operations)), (a_t_program_firsts, .inl (ca 0, 40, .inl f_t_program_firsts)), (a_t_program_seconds, .inl (ca 0, 40, .inl f_t_program_seconds)), (a_t_machine, .inr (3, [.ref a_t_machine_values, .ref a_t_machine_depths])), (a_t_machine_values, .inl (ca 0, 41, .inl f_t_machine_values_24))] H := hP
  have hD : va_D A [(a_t, .inr (6, [.ref a_t_generator, .ref a_t_program, .ref a_t_costs, .ref a_t_history, .ref a_t_machine, .ref a_t_tidier, .ref a_t_listing])), (a_t_program, .inr (4, [.int t_program_width, .int t_program_length, .int t_program_result, .int t_program_taskKind, .int t_program_taskDivisor, .ref a_t_program_operations, .ref a_t_program_firsts, .ref a_t_program_seconds])), (a_t_program_operations, .inl (ca 0, 40, .inl f_t_program_operations)), (a_t_program_firsts, .inl (ca 0, 40, .inl f_t_program_firsts)), (a_t_program_seconds, .inl (ca 0, 40, .inl f_t_program_seconds)), (a_t_machine, .inr (3, [.ref a_t_machine_values, .ref a_t_machine_depths])), (a_t_machine_values, .inl (ca 0, 41, .inl f_t_machine_values_24))] := hD
  try dsimp only at h
  refine W.widen (k := 2) (n := 12) (Nat.le_of_ble_eq_true rfl) (Nat.le_of_ble_eq_true rfl) ?_
  refine vx_ret ?_
  exact W.iret (v := r_24) hx hb hr (fun t ht hW => ⟨⟨r_24, f_t_machine_values_24, rfl, h, by rw [ht]; exact hP, va_K.moved hW.alike hK, hD⟩, hS.F ht⟩) hS.2.2 dX8_valueOf_27

abbrev qX8_requireSomeTask (D : va_G) (ca : Nat → ClassId) (a_t a_t_generator a_t_program a_t_costs a_t_history a_t_machine a_t_tidier a_t_listing a_t_program_operations a_t_program_firsts a_t_program_seconds : Nat) (t_program_width : Int32) (t_program_length : Int32) (t_program_result : Int32) (t_program_taskKind : Int32) (t_program_taskDivisor : Int32) (Q : Prop) (A : Nat → Prop) : Array Value → State → Outcome → State → Prop := va_Qv (fun (_ : Unit) => Q) (wEnd D ca (fun _ : Unit => [(a_t, .inr (6, [.ref a_t_generator, .ref a_t_program, .ref a_t_costs, .ref a_t_history, .ref a_t_machine, .ref a_t_tidier, .ref a_t_listing])), (a_t_program, .inr (4, [.int t_program_width, .int t_program_length, .int t_program_result, .int t_program_taskKind, .int t_program_taskDivisor, .ref a_t_program_operations, .ref a_t_program_firsts, .ref a_t_program_seconds]))]) A) A
def wX8_requireSomeTask (t_program_taskKind : Int32) (Q : Prop) (QX : String → Prop) : Prop :=
  ((t_program_taskKind = ((-1)) → QX xIS) ∧ (¬ t_program_taskKind = ((-1)) → Q))
set_option maxHeartbeats 4000000 in
set_option maxRecDepth 100000 in
theorem mX8_requireSomeTask (l : Launch) (hl0 : l.stackTraces = false) (D : va_G) (ca : Nat → ClassId) (a_t a_t_generator a_t_program a_t_costs a_t_history a_t_machine a_t_tidier a_t_listing a_t_program_operations a_t_program_firsts a_t_program_seconds : Nat) (sz : Nat) (t_program_width : Int32) (t_program_length : Int32) (t_program_result : Int32) (t_program_taskKind : Int32) (t_program_taskDivisor : Int32) (Q : Prop) (QX : String → Prop) (h : wX8_requireSomeTask t_program_taskKind Q QX) : vx_Met l yX8_requireSomeTask (Cond.code yX8_requireSomeTask cX8_requireSomeTask 1 none :: wsG) ({ frames := 6, cells := 1, slots := 6, locals := 90 } : Room) (va_Pc [.ref a_t] (xPre D ca [(a_t, .inr (6, [.ref a_t_generator, .ref a_t_program, .ref a_t_costs, .ref a_t_history, .ref a_t_machine, .ref a_t_tidier, .ref a_t_listing])), (a_t_program, .inr (4, [.int t_program_width, .int t_program_length, .int t_program_result, .int t_program_taskKind, .int t_program_taskDivisor, .ref a_t_program_operations, .ref a_t_program_firsts, .ref a_t_program_seconds]))] sz)) (qX8_requireSomeTask D ca a_t a_t_generator a_t_program a_t_costs a_t_history a_t_machine a_t_tidier a_t_listing a_t_program_operations a_t_program_firsts a_t_program_seconds t_program_width t_program_length t_program_result t_program_taskKind t_program_taskDivisor Q (va_A [(a_t, .inr (6, [.ref a_t_generator, .ref a_t_program, .ref a_t_costs, .ref a_t_history, .ref a_t_machine, .ref a_t_tidier, .ref a_t_listing])), (a_t_program, .inr (4, [.int t_program_width, .int t_program_length, .int t_program_result, .int t_program_taskKind, .int t_program_taskDivisor, .ref a_t_program_operations, .ref a_t_program_firsts, .ref a_t_program_seconds]))] sz)) (xEnd D ca [(a_t, .inr (6, [.ref a_t_generator, .ref a_t_program, .ref a_t_costs, .ref a_t_history, .ref a_t_machine, .ref a_t_tidier, .ref a_t_listing])), (a_t_program, .inr (4, [.int t_program_width, .int t_program_length, .int t_program_result, .int t_program_taskKind, .int t_program_taskDivisor, .ref a_t_program_operations, .ref a_t_program_firsts, .ref a_t_program_seconds]))] QX (va_A [(a_t, .inr (6, [.ref a_t_generator, .ref a_t_program, .ref a_t_costs, .ref a_t_history, .ref a_t_machine, .ref a_t_tidier, .ref a_t_listing])), (a_t_program, .inr (4, [.int t_program_width, .int t_program_length, .int t_program_result, .int t_program_taskKind, .int t_program_taskDivisor, .ref a_t_program_operations, .ref a_t_program_firsts, .ref a_t_program_seconds]))] sz)) 1 6 (va_A [(a_t, .inr (6, [.ref a_t_generator, .ref a_t_program, .ref a_t_costs, .ref a_t_history, .ref a_t_machine, .ref a_t_tidier, .ref a_t_listing])), (a_t_program, .inr (4, [.int t_program_width, .int t_program_length, .int t_program_result, .int t_program_taskKind, .int t_program_taskDivisor, .ref a_t_program_operations, .ref a_t_program_firsts, .ref a_t_program_seconds]))] sz) := by
  refine vx_ofW (cc := cX8_requireSomeTask) (maxL := 1) (ret := none) (by decide) rfl ?_
  intro p e s m args below meth c s₁ B hml htab hv
  obtain ⟨rfl, ⟨hsz, hP, hK, hD0⟩, hX⟩ := hv
  have hx := B.exec
  have hb := B.bytes
  have hr := B.returns
  have hts := atoms_spec (ws := (Cond.code yX8_requireSomeTask cX8_requireSomeTask 1 none :: wsG)) B.pre
  have hq : ∀ w ∈ wsG, w.before _ s = true := fun w hw => hts w (List.mem_cons_of_mem _ hw)
  have hown : s.vm.findClass RX8 = some m.cls := findClass_of_methodNamed B.named
  have hlocks := B.notSynchronized
  subst hsz
  have hD := hD0.self (sz := s.heap.size)
  generalize hAe : va_A [(a_t, .inr (6, [.ref a_t_generator, .ref a_t_program, .ref a_t_costs, .ref a_t_history, .ref a_t_machine, .ref a_t_tidier, .ref a_t_listing])), (a_t_program, .inr (4, [.int t_program_width, .int t_program_length, .int t_program_result, .int t_program_taskKind, .int t_program_taskDivisor, .ref a_t_program_operations, .ref a_t_program_firsts, .ref a_t_program_seconds]))] s.heap.size = A at hD hX ⊢
  have hA : ∀ q : Nat, s.heap.size ≤ q → A q := fun q h => by rw [← hAe]; exact Or.inr h
  have hS : va_S A s.heap s.heap [] := va_S.rf
  have hP : va_P D vwCl [(a_t, .inr (6, [.ref a_t_generator, .ref a_t_program, .ref a_t_costs, .ref a_t_history, .ref a_t_machine, .ref a_t_tidier, .ref a_t_listing])), (a_t_program, .inr (4, [.int t_program_width, .int t_program_length, .int t_program_result, .int t_program_taskKind, .int t_program_taskDivisor, .ref a_t_program_operations, .ref a_t_program_firsts, .ref a_t_program_seconds]))] s.heap := hP
  have hl := lv_entry ([.ref a_t]) (n := 1) (Nat.le_of_ble_eq_true rfl)
  rw [lg_entry_eq]
  generalize (lg_sl ([.ref a_t]) ++ List.replicate (1 - (lg_sl ([.ref a_t])).length) Slot.unset).toArray = ls at hl ⊢
  have hl : lv_has ls 1 [(0, .ref a_t)] := hl
  unfold wX8_requireSomeTask at h
  refine lv_aload_n hx hb dX8_requireSomeTask_0 rfl (lv_at hl 0 rfl) ?_
  refine va_get (D := D) (ci := 6) (v := .ref a_t_program) (C := RX8) (T := TX8) (N := 7) hx hb hq inX8g hown hK hP 0 rfl rfl 1 (by decide) (hq _ q_170) (fun _ h9 => h9) rfl dX8_requireSomeTask_1 ?_
  refine va_get (D := D) (ci := 4) (v := .int t_program_taskKind) (C := RX5) (T := TX5) (N := 8) hx hb hq inX5g hown hK hP 1 rfl rfl 3 (by decide) (hq _ q_58) (fun _ h9 => h9) rfl dX8_requireSomeTask_4 ?_
  refine lv_iconst (v := (-1)) hx hb dX8_requireSomeTask_7 (by decide) ?_
  refine lv_icmp_ne (tgt := 22) hx hb dX8_requireSomeTask_8 (by decide) (fun c9 => ?_) (fun c9 => ?_)
  · have h := h.2 c9
    refine W.widen (k := 1) (n := 6) (Nat.le_of_ble_eq_true rfl) (Nat.le_of_ble_eq_true rfl) ?_
    refine vx_ret ?_
    exact W.vret hx hb hr (fun t ht hW => ⟨⟨(), rfl, h, by rw [ht]; exact hP, va_K.moved hW.alike hK, hD⟩, hS.F ht⟩) hS.2.2 dX8_requireSomeTask_22
  · have h := h.1 c9
    exact x_throwW (nmx := xIS) (text := "there is no task") hx hb hl0 hown hX (by decide) (by decide) (hq _ q_562) (hq _ q_18) (xh_IS hq hX.2.2.2.1 hX.2.2.2.2.2.1) xg_IS hS (hl.1.trans hml.symm) dX8_requireSomeTask_11 dX8_requireSomeTask_14 dX8_requireSomeTask_15 dX8_requireSomeTask_18 dX8_requireSomeTask_21 htab (Nat.le_of_ble_eq_true rfl) (Nat.le_of_ble_eq_true rfl) (Nat.le_of_ble_eq_true rfl) (Nat.le_of_ble_eq_true rfl) hlocks (fun t hvm h1 h2 => ⟨(), trivial, ⟨h, fun k q h3 => (hP k q h3).kept (h2 q.1 (hP k q h3).lt), va_K.moved hvm hK, hD⟩, ⟨Nat.le_trans hS.1 h1, fun q h3 h4 => (h2 q (Nat.lt_of_lt_of_le h3 hS.1)).trans (hS.2.1 q h3 h4)⟩⟩) hS.2.2 (Nat.le_of_ble_eq_true rfl) (Nat.le_of_ble_eq_true rfl)

abbrev qX8_meaning (D : va_G) (ca : Nat → ClassId) (a_t a_t_generator a_t_program a_t_costs a_t_history a_t_machine a_t_tidier a_t_listing a_t_program_operations a_t_program_firsts a_t_program_seconds : Nat) (t_program_width : Int32) (t_program_length : Int32) (t_program_result : Int32) (t_program_taskKind : Int32) (t_program_taskDivisor : Int32) (Q : Int32 → Prop) (A : Nat → Prop) : Array Value → State → Outcome → State → Prop := va_Qi (fun (r : Int32) (_ : Unit) => Q r) (wEnd D ca (fun _ : Unit => [(a_t, .inr (6, [.ref a_t_generator, .ref a_t_program, .ref a_t_costs, .ref a_t_history, .ref a_t_machine, .ref a_t_tidier, .ref a_t_listing])), (a_t_program, .inr (4, [.int t_program_width, .int t_program_length, .int t_program_result, .int t_program_taskKind, .int t_program_taskDivisor, .ref a_t_program_operations, .ref a_t_program_firsts, .ref a_t_program_seconds]))]) A) A
def wX8_meaning (t_program_width : Int32) (t_program_taskKind : Int32) (t_program_taskDivisor : Int32) (x1 : Int32) (Q : Int32 → Prop) : Prop :=
  ((t_program_taskDivisor = 0 → Q 0) ∧ (¬ t_program_taskDivisor = 0 → wX8_greatestValue t_program_width (fun r_15 => wX4_signedMeaning x1 t_program_width (fun r_27 => ((t_program_taskKind = 0 → (¬ t_program_taskDivisor = 0 ∧ Q (x1 / t_program_taskDivisor))) ∧ (¬ (t_program_taskKind = 0) → ((t_program_taskKind = 1 → (¬ t_program_taskDivisor = 0 ∧ Q (x1 - x1 / t_program_taskDivisor * t_program_taskDivisor))) ∧ (¬ (t_program_taskKind = 1) → ((t_program_taskKind = 2 → (¬ t_program_taskDivisor = 0 ∧ Q ((r_27 / t_program_taskDivisor) &&& r_15))) ∧ (¬ (t_program_taskKind = 2) → ((t_program_taskKind = 3 → (¬ t_program_taskDivisor = 0 ∧ Q ((r_27 - r_27 / t_program_taskDivisor * t_program_taskDivisor) &&& r_15))) ∧ (¬ (t_program_taskKind = 3) → ((t_program_taskKind = 4 → wJ9_floorDiv_7cf53 r_27 t_program_taskDivisor (fun r_105 => Q (r_105 &&& r_15))) ∧ (¬ (t_program_taskKind = 4) → ((t_program_taskKind = 5 → (¬ t_program_taskDivisor = 0 ∧ (((x1 - x1 / t_program_taskDivisor * t_program_taskDivisor) = 0 → (¬ t_program_taskDivisor = 0 ∧ Q (x1 / t_program_taskDivisor))) ∧ (¬ (x1 - x1 / t_program_taskDivisor * t_program_taskDivisor) = 0 → Q ((-1)))))) ∧ (¬ (t_program_taskKind = 5) → ((t_program_taskKind = 6 → (¬ t_program_taskDivisor = 0 ∧ (((x1 - x1 / t_program_taskDivisor * t_program_taskDivisor) = 0 → Q 1) ∧ (¬ (x1 - x1 / t_program_taskDivisor * t_program_taskDivisor) = 0 → Q 0)))) ∧ (¬ (t_program_taskKind = 6) → Q ((x1 * t_program_taskDivisor) &&& r_15)))))))))))))))))))
set_option maxHeartbeats 4000000 in
set_option maxRecDepth 100000 in
theorem mX8_meaning (l : Launch) (D : va_G) (ca : Nat → ClassId) (a_t a_t_generator a_t_program a_t_costs a_t_history a_t_machine a_t_tidier a_t_listing a_t_program_operations a_t_program_firsts a_t_program_seconds : Nat) (sz : Nat) (t_program_width : Int32) (t_program_length : Int32) (t_program_result : Int32) (t_program_taskKind : Int32) (t_program_taskDivisor : Int32) (x1 : Int32) (Q : Int32 → Prop) (h : wX8_meaning t_program_width t_program_taskKind t_program_taskDivisor x1 Q) : Met l yX8_meaning (Cond.code yX8_meaning cX8_meaning 5 (some .int) :: wsG) ({ frames := 1, cells := 0, slots := 0, locals := 22 } : Room) (va_Pc [.ref a_t, .int x1] (wPre D ca [(a_t, .inr (6, [.ref a_t_generator, .ref a_t_program, .ref a_t_costs, .ref a_t_history, .ref a_t_machine, .ref a_t_tidier, .ref a_t_listing])), (a_t_program, .inr (4, [.int t_program_width, .int t_program_length, .int t_program_result, .int t_program_taskKind, .int t_program_taskDivisor, .ref a_t_program_operations, .ref a_t_program_firsts, .ref a_t_program_seconds]))] sz)) (qX8_meaning D ca a_t a_t_generator a_t_program a_t_costs a_t_history a_t_machine a_t_tidier a_t_listing a_t_program_operations a_t_program_firsts a_t_program_seconds t_program_width t_program_length t_program_result t_program_taskKind t_program_taskDivisor Q (va_A [(a_t, .inr (6, [.ref a_t_generator, .ref a_t_program, .ref a_t_costs, .ref a_t_history, .ref a_t_machine, .ref a_t_tidier, .ref a_t_listing])), (a_t_program, .inr (4, [.int t_program_width, .int t_program_length, .int t_program_result, .int t_program_taskKind, .int t_program_taskDivisor, .ref a_t_program_operations, .ref a_t_program_firsts, .ref a_t_program_seconds]))] sz)) 0 0 (va_A [(a_t, .inr (6, [.ref a_t_generator, .ref a_t_program, .ref a_t_costs, .ref a_t_history, .ref a_t_machine, .ref a_t_tidier, .ref a_t_listing])), (a_t_program, .inr (4, [.int t_program_width, .int t_program_length, .int t_program_result, .int t_program_taskKind, .int t_program_taskDivisor, .ref a_t_program_operations, .ref a_t_program_firsts, .ref a_t_program_seconds]))] sz) := by
  refine Met.ofW (cc := cX8_meaning) (maxL := 5) (ret := (some .int)) (by decide) rfl ?_
  intro p e s m args below meth c s₁ B hml hv
  obtain ⟨rfl, hsz, hP, hK, hD0⟩ := hv
  have hx := B.exec
  have hb := B.bytes
  have hr := B.returns
  have hts := atoms_spec (ws := (Cond.code yX8_meaning cX8_meaning 5 (some .int) :: wsG)) B.pre
  have hq : ∀ w ∈ wsG, w.before _ s = true := fun w hw => hts w (List.mem_cons_of_mem _ hw)
  have hown : s.vm.findClass RX8 = some m.cls := findClass_of_methodNamed B.named
  have hlocks := B.notSynchronized
  subst hsz
  have hD := hD0.self (sz := s.heap.size)
  generalize hAe : va_A [(a_t, .inr (6, [.ref a_t_generator, .ref a_t_program, .ref a_t_costs, .ref a_t_history, .ref a_t_machine, .ref a_t_tidier, .ref a_t_listing])), (a_t_program, .inr (4, [.int t_program_width, .int t_program_length, .int t_program_result, .int t_program_taskKind, .int t_program_taskDivisor, .ref a_t_program_operations, .ref a_t_program_firsts, .ref a_t_program_seconds]))] s.heap.size = A at hD ⊢
  have hA : ∀ q : Nat, s.heap.size ≤ q → A q := fun q h => by rw [← hAe]; exact Or.inr h
  have hS : va_S A s.heap s.heap [] := va_S.rf
  have hP : va_P D vwCl [(a_t, .inr (6, [.ref a_t_generator, .ref a_t_program, .ref a_t_costs, .ref a_t_history, .ref a_t_machine, .ref a_t_tidier, .ref a_t_listing])), (a_t_program, .inr (4, [.int t_program_width, .int t_program_length, .int t_program_result, .int t_program_taskKind, .int t_program_taskDivisor, .ref a_t_program_operations, .ref a_t_program_firsts, .ref a_t_program_seconds]))] s.heap := hP
  have hl := lv_entry ([.ref a_t, .int x1]) (n := 5) (Nat.le_of_ble_eq_true rfl)
  rw [lg_entry_eq]
  generalize (lg_sl ([.ref a_t, .int x1]) ++ List.replicate (5 - (lg_sl ([.ref a_t, .int x1])).length) Slot.unset).toArray = ls at hl ⊢
  have hl : lv_has ls 5 [(0, .ref a_t), (1, .int x1)] := hl
  unfold wX8_meaning at h
  refine lv_aload_n hx hb dX8_meaning_0 rfl (lv_at hl 0 rfl) ?_
  refine va_get (D := D) (ci := 6) (v := .ref a_t_program) (C := RX8) (T := TX8) (N := 7) hx hb hq inX8g hown hK hP 0 rfl rfl 1 (by decide) (hq _ q_170) (fun _ h9 => h9) rfl dX8_meaning_1 ?_
  refine va_get (D := D) (ci := 4) (v := .int t_program_taskDivisor) (C := RX5) (T := TX5) (N := 8) hx hb hq inX5g hown hK hP 1 rfl rfl 4 (by decide) (hq _ q_59) (fun _ h9 => h9) rfl dX8_meaning_4 ?_
  refine lv_istore_n (lv' := [(2, .int t_program_taskDivisor), (0, .ref a_t), (1, .int x1)]) hx hb dX8_meaning_7 rfl hl (by decide) rfl (fun ls hl => ?_)
  refine lv_iload_n hx hb dX8_meaning_8 rfl (lv_at hl 0 rfl) ?_
  refine lv_if_ne (tgt := 14) hx hb dX8_meaning_9 (by decide) (fun c9 => ?_) (fun c9 => ?_)
  · have h := h.2 c9
    refine lv_aload_n hx hb dX8_meaning_14 rfl (lv_at hl 1 rfl) ?_
    refine cVi (As := []) (rest := []) (wc := [(a_t, .inr (6, [.ref a_t_generator, .ref a_t_program, .ref a_t_costs, .ref a_t_history, .ref a_t_machine, .ref a_t_tidier, .ref a_t_listing])), (a_t_program, .inr (4, [.int t_program_width, .int t_program_length, .int t_program_result, .int t_program_taskKind, .int t_program_taskDivisor, .ref a_t_program_operations, .ref a_t_program_firsts, .ref a_t_program_seconds]))]) (wr := []) (w1 := fun _ : Unit => [(a_t, .inr (6, [.ref a_t_generator, .ref a_t_program, .ref a_t_costs, .ref a_t_history, .ref a_t_machine, .ref a_t_tidier, .ref a_t_listing])), (a_t_program, .inr (4, [.int t_program_width, .int t_program_length, .int t_program_result, .int t_program_taskKind, .int t_program_taskDivisor, .ref a_t_program_operations, .ref a_t_program_firsts, .ref a_t_program_seconds]))]) (ws2 := fun _ : Unit => [(a_t, .inr (6, [.ref a_t_generator, .ref a_t_program, .ref a_t_costs, .ref a_t_history, .ref a_t_machine, .ref a_t_tidier, .ref a_t_listing])), (a_t_program, .inr (4, [.int t_program_width, .int t_program_length, .int t_program_result, .int t_program_taskKind, .int t_program_taskDivisor, .ref a_t_program_operations, .ref a_t_program_firsts, .ref a_t_program_seconds]))]) ⟨hx, hb, hml, hown, hts⟩ (mX8_greatestValue l D ca a_t a_t_generator a_t_program a_t_costs a_t_history a_t_machine a_t_tidier a_t_listing a_t_program_operations a_t_program_firsts a_t_program_seconds _ t_program_width t_program_length t_program_result t_program_taskKind t_program_taskDivisor _ h) (cwV 0 hts (gV q_388 q_390 qs_5 q_1 q_391) rfl rfl rfl (by decide +kernel) ⟨Nat.le_of_ble_eq_true rfl, Nat.le_of_ble_eq_true rfl⟩) hK hP hD hS hA [0, 1] [] [0, 1] rfl rfl rfl (by decide) (fun _ => rfl) (ci := 6) (q0 := 0) rfl rfl rfl hl.1 rfl (Nat.le_of_ble_eq_true rfl) dX8_meaning_15 ⟨Nat.le_of_ble_eq_true rfl, Nat.le_of_ble_eq_true rfl⟩ (fun r_15 u9 H locs h hP hD hS => ?_)
    try dsimp only at h
    refine lv_istore_n (lv' := [(3, .int r_15), (2, .int t_program_taskDivisor), (0, .ref a_t), (1, .int x1)]) hx hb dX8_meaning_18 rfl hl (by decide) rfl (fun ls hl => ?_)
    refine lv_iload_n hx hb dX8_meaning_19 rfl (lv_at hl 3 rfl) ?_
    refine lv_aload_n hx hb dX8_meaning_20 rfl (lv_at hl 2 rfl) ?_
    refine va_get (D := D) (ci := 6) (v := .ref a_t_program) (C := RX8) (T := TX8) (N := 7) hx hb hq inX8g hown hK hP 0 rfl rfl 1 (by decide) (hq _ q_170) (fun _ h9 => h9) rfl dX8_meaning_21 ?_
    refine va_get (D := D) (ci := 4) (v := .int t_program_width) (C := RX5) (T := TX5) (N := 8) hx hb hq inX5g hown hK hP 1 rfl rfl 0 (by decide) (hq _ q_45) (fun _ h9 => h9) rfl dX8_meaning_24 ?_
    refine cPi (As := [.int x1, .int t_program_width]) (rest := []) ⟨hx, hb, hml, hown, hts⟩ (mX4_signedMeaning l x1 t_program_width _ h) (va_cwS 2 hts (gS q_789 q_764 q_16 q_765) rfl rfl rfl (by decide +kernel) ⟨Nat.le_of_ble_eq_true rfl, Nat.le_of_ble_eq_true rfl⟩) hS rfl hl.1 rfl (Nat.le_of_ble_eq_true rfl) dX8_meaning_27 ⟨Nat.le_of_ble_eq_true rfl, Nat.le_of_ble_eq_true rfl⟩ (fun r_27 H1 locs h hk1 hS => ?_)
    have hP := s_back hP hk1
    try dsimp only at h
    refine lv_istore (lv' := [(4, .int r_27), (3, .int r_15), (2, .int t_program_taskDivisor), (0, .ref a_t), (1, .int x1)]) hx hb dX8_meaning_30 hl (by decide) rfl (fun ls hl => ?_)
    refine lv_aload_n hx hb dX8_meaning_32 rfl (lv_at hl 3 rfl) ?_
    refine va_get (D := D) (ci := 6) (v := .ref a_t_program) (C := RX8) (T := TX8) (N := 7) hx hb hq inX8g hown hK hP 0 rfl rfl 1 (by decide) (hq _ q_170) (fun _ h9 => h9) rfl dX8_meaning_33 ?_
    refine va_get (D := D) (ci := 4) (v := .int t_program_taskKind) (C := RX5) (T := TX5) (N := 8) hx hb hq inX5g hown hK hP 1 rfl rfl 3 (by decide) (hq _ q_58) (fun _ h9 => h9) rfl dX8_meaning_36 ?_
    by_cases c9 : t_program_taskKind = 0
    · have h := h.1 c9
      refine lv_tableIn (tgt := 80) hx hb dX8_meaning_39 (by rw [c9]; decide) (by rw [c9]; decide) (off := 41) (by rw [c9]; decide) (by decide) ?_
      refine lv_iload_n hx hb dX8_meaning_80 rfl (lv_at hl 4 rfl) ?_
      refine lv_iload_n hx hb dX8_meaning_81 rfl (lv_at hl 2 rfl) ?_
      obtain ⟨hne9, h⟩ := h
      refine lv_idiv hx hb dX8_meaning_82 hne9 ?_
      exact W.iret (v := x1 / t_program_taskDivisor) hx hb hr (fun t ht hW => ⟨⟨x1 / t_program_taskDivisor, (), rfl, h, by rw [ht]; exact hP, va_K.moved hW.alike hK, hD⟩, hS.F ht⟩) hS.2.2 dX8_meaning_83
    have h := h.2 c9
    have cs_0 := c9
    by_cases c9 : t_program_taskKind = 1
    · have h := h.1 c9
      refine lv_tableIn (tgt := 84) hx hb dX8_meaning_39 (by rw [c9]; decide) (by rw [c9]; decide) (off := 45) (by rw [c9]; decide) (by decide) ?_
      refine lv_iload_n hx hb dX8_meaning_84 rfl (lv_at hl 4 rfl) ?_
      refine lv_iload_n hx hb dX8_meaning_85 rfl (lv_at hl 2 rfl) ?_
      obtain ⟨hne9, h⟩ := h
      refine lv_irem hx hb dX8_meaning_86 hne9 ?_
      exact W.iret (v := x1 - x1 / t_program_taskDivisor * t_program_taskDivisor) hx hb hr (fun t ht hW => ⟨⟨x1 - x1 / t_program_taskDivisor * t_program_taskDivisor, (), rfl, h, by rw [ht]; exact hP, va_K.moved hW.alike hK, hD⟩, hS.F ht⟩) hS.2.2 dX8_meaning_87
    have h := h.2 c9
    have cs_1 := c9
    by_cases c9 : t_program_taskKind = 2
    · have h := h.1 c9
      refine lv_tableIn (tgt := 88) hx hb dX8_meaning_39 (by rw [c9]; decide) (by rw [c9]; decide) (off := 49) (by rw [c9]; decide) (by decide) ?_
      refine lv_iload hx hb dX8_meaning_88 (lv_at hl 0 rfl) ?_
      refine lv_iload_n hx hb dX8_meaning_90 rfl (lv_at hl 2 rfl) ?_
      obtain ⟨hne9, h⟩ := h
      refine lv_idiv hx hb dX8_meaning_91 hne9 ?_
      refine lv_iload_n hx hb dX8_meaning_92 rfl (lv_at hl 1 rfl) ?_
      refine lv_iand hx hb dX8_meaning_93 ?_
      exact W.iret (v := (r_27 / t_program_taskDivisor) &&& r_15) hx hb hr (fun t ht hW => ⟨⟨(r_27 / t_program_taskDivisor) &&& r_15, (), rfl, h, by rw [ht]; exact hP, va_K.moved hW.alike hK, hD⟩, hS.F ht⟩) hS.2.2 dX8_meaning_94
    have h := h.2 c9
    have cs_2 := c9
    by_cases c9 : t_program_taskKind = 3
    · have h := h.1 c9
      refine lv_tableIn (tgt := 95) hx hb dX8_meaning_39 (by rw [c9]; decide) (by rw [c9]; decide) (off := 56) (by rw [c9]; decide) (by decide) ?_
      refine lv_iload hx hb dX8_meaning_95 (lv_at hl 0 rfl) ?_
      refine lv_iload_n hx hb dX8_meaning_97 rfl (lv_at hl 2 rfl) ?_
      obtain ⟨hne9, h⟩ := h
      refine lv_irem hx hb dX8_meaning_98 hne9 ?_
      refine lv_iload_n hx hb dX8_meaning_99 rfl (lv_at hl 1 rfl) ?_
      refine lv_iand hx hb dX8_meaning_100 ?_
      exact W.iret (v := (r_27 - r_27 / t_program_taskDivisor * t_program_taskDivisor) &&& r_15) hx hb hr (fun t ht hW => ⟨⟨(r_27 - r_27 / t_program_taskDivisor * t_program_taskDivisor) &&& r_15, (), rfl, h, by rw [ht]; exact hP, va_K.moved hW.alike hK, hD⟩, hS.F ht⟩) hS.2.2 dX8_meaning_101
    have h := h.2 c9
    have cs_3 := c9
    by_cases c9 : t_program_taskKind = 4
    · have h := h.1 c9
      refine lv_tableIn (tgt := 102) hx hb dX8_meaning_39 (by rw [c9]; decide) (by rw [c9]; decide) (off := 63) (by rw [c9]; decide) (by decide) ?_
      refine lv_iload hx hb dX8_meaning_102 (lv_at hl 0 rfl) ?_
      refine lv_iload_n hx hb dX8_meaning_104 rfl (lv_at hl 2 rfl) ?_
      refine cPi (As := [.int r_27, .int t_program_taskDivisor]) (rest := []) ⟨hx, hb, hml, hown, hts⟩ (mJ9_floorDiv_7cf53 l r_27 t_program_taskDivisor _ h) (va_cwS 2 hts (gS q_790 q_791 q_14 q_792) rfl rfl rfl (by decide +kernel) ⟨Nat.le_of_ble_eq_true rfl, Nat.le_of_ble_eq_true rfl⟩) hS rfl hl.1 rfl (Nat.le_of_ble_eq_true rfl) dX8_meaning_105 ⟨Nat.le_of_ble_eq_true rfl, Nat.le_of_ble_eq_true rfl⟩ (fun r_105 H1 locs h hk1 hS => ?_)
      have hP := s_back hP hk1
      try dsimp only at h
      refine lv_iload_n hx hb dX8_meaning_108 rfl (lv_at hl 1 rfl) ?_
      refine lv_iand hx hb dX8_meaning_109 ?_
      exact W.iret (v := r_105 &&& r_15) hx hb hr (fun t ht hW => ⟨⟨r_105 &&& r_15, (), rfl, h, by rw [ht]; exact hP, va_K.moved hW.alike hK, hD⟩, hS.F ht⟩) hS.2.2 dX8_meaning_110
    have h := h.2 c9
    have cs_4 := c9
    by_cases c9 : t_program_taskKind = 5
    · have h := h.1 c9
      refine lv_tableIn (tgt := 111) hx hb dX8_meaning_39 (by rw [c9]; decide) (by rw [c9]; decide) (off := 72) (by rw [c9]; decide) (by decide) ?_
      refine lv_iload_n hx hb dX8_meaning_111 rfl (lv_at hl 4 rfl) ?_
      refine lv_iload_n hx hb dX8_meaning_112 rfl (lv_at hl 2 rfl) ?_
      obtain ⟨hne9, h⟩ := h
      refine lv_irem hx hb dX8_meaning_113 hne9 ?_
      refine lv_if_ne (tgt := 123) hx hb dX8_meaning_114 (by decide) (fun c9 => ?_) (fun c9 => ?_)
      · have h := h.2 c9
        refine lv_iconst (v := (-1)) hx hb dX8_meaning_123 (by decide) ?_
        exact W.iret (v := (-1)) hx hb hr (fun t ht hW => ⟨⟨(-1), (), rfl, h, by rw [ht]; exact hP, va_K.moved hW.alike hK, hD⟩, hS.F ht⟩) hS.2.2 dX8_meaning_124
      · have h := h.1 c9
        refine lv_iload_n hx hb dX8_meaning_117 rfl (lv_at hl 4 rfl) ?_
        refine lv_iload_n hx hb dX8_meaning_118 rfl (lv_at hl 2 rfl) ?_
        obtain ⟨hne9, h⟩ := h
        refine lv_idiv hx hb dX8_meaning_119 hne9 ?_
        refine lv_goto (tgt := 124) hx hb dX8_meaning_120 (by decide) ?_
        exact W.iret (v := x1 / t_program_taskDivisor) hx hb hr (fun t ht hW => ⟨⟨x1 / t_program_taskDivisor, (), rfl, h, by rw [ht]; exact hP, va_K.moved hW.alike hK, hD⟩, hS.F ht⟩) hS.2.2 dX8_meaning_124
    have h := h.2 c9
    have cs_5 := c9
    by_cases c9 : t_program_taskKind = 6
    · have h := h.1 c9
      refine lv_tableIn (tgt := 125) hx hb dX8_meaning_39 (by rw [c9]; decide) (by rw [c9]; decide) (off := 86) (by rw [c9]; decide) (by decide) ?_
      refine lv_iload_n hx hb dX8_meaning_125 rfl (lv_at hl 4 rfl) ?_
      refine lv_iload_n hx hb dX8_meaning_126 rfl (lv_at hl 2 rfl) ?_
      obtain ⟨hne9, h⟩ := h
      refine lv_irem hx hb dX8_meaning_127 hne9 ?_
      refine lv_if_ne (tgt := 135) hx hb dX8_meaning_128 (by decide) (fun c9 => ?_) (fun c9 => ?_)
      · have h := h.2 c9
        refine lv_iconst (v := 0) hx hb dX8_meaning_135 (by decide) ?_
        exact W.iret (v := 0) hx hb hr (fun t ht hW => ⟨⟨0, (), rfl, h, by rw [ht]; exact hP, va_K.moved hW.alike hK, hD⟩, hS.F ht⟩) hS.2.2 dX8_meaning_136
      · have h := h.1 c9
        refine lv_iconst (v := 1) hx hb dX8_meaning_131 (by decide) ?_
        refine lv_goto (tgt := 136) hx hb dX8_meaning_132 (by decide) ?_
        exact W.iret (v := 1) hx hb hr (fun t ht hW => ⟨⟨1, (), rfl, h, by rw [ht]; exact hP, va_K.moved hW.alike hK, hD⟩, hS.F ht⟩) hS.2.2 dX8_meaning_136
    have h := h.2 c9
    have cs_6 := c9
    refine lv_tableOut (tgt := 137) hx hb dX8_meaning_39 (sw_out (fun j9 h1 h2 hj => ?_)) (by decide) ?_
    · rcases (show j9 = 0 ∨ j9 = 1 ∨ j9 = 2 ∨ j9 = 3 ∨ j9 = 4 ∨ j9 = 5 ∨ j9 = 6 by omega) with rfl | rfl | rfl | rfl | rfl | rfl | rfl
      · exact cs_0 hj
      · exact cs_1 hj
      · exact cs_2 hj
      · exact cs_3 hj
      · exact cs_4 hj
      · exact cs_5 hj
      · exact cs_6 hj
    refine lv_iload_n hx hb dX8_meaning_137 rfl (lv_at hl 4 rfl) ?_
    refine lv_iload_n hx hb dX8_meaning_138 rfl (lv_at hl 2 rfl) ?_
    refine lv_imul hx hb dX8_meaning_139 ?_
    refine lv_iload_n hx hb dX8_meaning_140 rfl (lv_at hl 1 rfl) ?_
    refine lv_iand hx hb dX8_meaning_141 ?_
    exact W.iret (v := (x1 * t_program_taskDivisor) &&& r_15) hx hb hr (fun t ht hW => ⟨⟨(x1 * t_program_taskDivisor) &&& r_15, (), rfl, h, by rw [ht]; exact hP, va_K.moved hW.alike hK, hD⟩, hS.F ht⟩) hS.2.2 dX8_meaning_142
  · have h := h.1 c9
    refine lv_iconst (v := 0) hx hb dX8_meaning_12 (by decide) ?_
    exact W.iret (v := 0) hx hb hr (fun t ht hW => ⟨⟨0, (), rfl, h, by rw [ht]; exact hP, va_K.moved hW.alike hK, hD⟩, hS.F ht⟩) hS.2.2 dX8_meaning_13

abbrev qX8_expected (D : va_G) (ca : Nat → ClassId) (a_t a_t_generator a_t_program a_t_costs a_t_history a_t_machine a_t_tidier a_t_listing a_t_program_operations a_t_program_firsts a_t_program_seconds : Nat) (t_program_width : Int32) (t_program_length : Int32) (t_program_result : Int32) (t_program_taskKind : Int32) (t_program_taskDivisor : Int32) (Q : Int32 → Prop) (A : Nat → Prop) : Array Value → State → Outcome → State → Prop := va_Qi (fun (r : Int32) (_ : Unit) => Q r) (wEnd D ca (fun _ : Unit => [(a_t, .inr (6, [.ref a_t_generator, .ref a_t_program, .ref a_t_costs, .ref a_t_history, .ref a_t_machine, .ref a_t_tidier, .ref a_t_listing])), (a_t_program, .inr (4, [.int t_program_width, .int t_program_length, .int t_program_result, .int t_program_taskKind, .int t_program_taskDivisor, .ref a_t_program_operations, .ref a_t_program_firsts, .ref a_t_program_seconds]))]) A) A
def wX8_expected (t_program_width : Int32) (t_program_taskKind : Int32) (t_program_taskDivisor : Int32) (x1 : Int32) (Q : Int32 → Prop) (QX : String → Prop) : Prop :=
  wX8_greatestValue t_program_width (fun r_3 => wX8_requireFromTo x1 0 r_3 (wX8_requireSomeTask t_program_taskKind (wX8_meaning t_program_width t_program_taskKind t_program_taskDivisor x1 (fun r_15 => Q r_15)) QX) QX)
set_option maxHeartbeats 4000000 in
set_option maxRecDepth 100000 in
theorem mX8_expected (l : Launch) (hl0 : l.stackTraces = false) (D : va_G) (ca : Nat → ClassId) (a_t a_t_generator a_t_program a_t_costs a_t_history a_t_machine a_t_tidier a_t_listing a_t_program_operations a_t_program_firsts a_t_program_seconds : Nat) (sz : Nat) (t_program_width : Int32) (t_program_length : Int32) (t_program_result : Int32) (t_program_taskKind : Int32) (t_program_taskDivisor : Int32) (x1 : Int32) (Q : Int32 → Prop) (QX : String → Prop) (h : wX8_expected t_program_width t_program_taskKind t_program_taskDivisor x1 Q QX) : vx_Met l yX8_expected (Cond.code yX8_expected cX8_expected 2 (some .int) :: wsG) ({ frames := 7, cells := 2, slots := 12, locals := 112 } : Room) (va_Pc [.ref a_t, .int x1] (xPre D ca [(a_t, .inr (6, [.ref a_t_generator, .ref a_t_program, .ref a_t_costs, .ref a_t_history, .ref a_t_machine, .ref a_t_tidier, .ref a_t_listing])), (a_t_program, .inr (4, [.int t_program_width, .int t_program_length, .int t_program_result, .int t_program_taskKind, .int t_program_taskDivisor, .ref a_t_program_operations, .ref a_t_program_firsts, .ref a_t_program_seconds]))] sz)) (qX8_expected D ca a_t a_t_generator a_t_program a_t_costs a_t_history a_t_machine a_t_tidier a_t_listing a_t_program_operations a_t_program_firsts a_t_program_seconds t_program_width t_program_length t_program_result t_program_taskKind t_program_taskDivisor Q (va_A [(a_t, .inr (6, [.ref a_t_generator, .ref a_t_program, .ref a_t_costs, .ref a_t_history, .ref a_t_machine, .ref a_t_tidier, .ref a_t_listing])), (a_t_program, .inr (4, [.int t_program_width, .int t_program_length, .int t_program_result, .int t_program_taskKind, .int t_program_taskDivisor, .ref a_t_program_operations, .ref a_t_program_firsts, .ref a_t_program_seconds]))] sz)) (xEnd D ca [(a_t, .inr (6, [.ref a_t_generator, .ref a_t_program, .ref a_t_costs, .ref a_t_history, .ref a_t_machine, .ref a_t_tidier, .ref a_t_listing])), (a_t_program, .inr (4, [.int t_program_width, .int t_program_length, .int t_program_result, .int t_program_taskKind, .int t_program_taskDivisor, .ref a_t_program_operations, .ref a_t_program_firsts, .ref a_t_program_seconds]))] QX (va_A [(a_t, .inr (6, [.ref a_t_generator, .ref a_t_program, .ref a_t_costs, .ref a_t_history, .ref a_t_machine, .ref a_t_tidier, .ref a_t_listing])), (a_t_program, .inr (4, [.int t_program_width, .int t_program_length, .int t_program_result, .int t_program_taskKind, .int t_program_taskDivisor, .ref a_t_program_operations, .ref a_t_program_firsts, .ref a_t_program_seconds]))] sz)) 2 12 (va_A [(a_t, .inr (6, [.ref a_t_generator, .ref a_t_program, .ref a_t_costs, .ref a_t_history, .ref a_t_machine, .ref a_t_tidier, .ref a_t_listing])), (a_t_program, .inr (4, [.int t_program_width, .int t_program_length, .int t_program_result, .int t_program_taskKind, .int t_program_taskDivisor, .ref a_t_program_operations, .ref a_t_program_firsts, .ref a_t_program_seconds]))] sz) := by
  refine vx_ofW (cc := cX8_expected) (maxL := 2) (ret := (some .int)) (by decide) rfl ?_
  intro p e s m args below meth c s₁ B hml htab hv
  obtain ⟨rfl, ⟨hsz, hP, hK, hD0⟩, hX⟩ := hv
  have hx := B.exec
  have hb := B.bytes
  have hr := B.returns
  have hts := atoms_spec (ws := (Cond.code yX8_expected cX8_expected 2 (some .int) :: wsG)) B.pre
  have hq : ∀ w ∈ wsG, w.before _ s = true := fun w hw => hts w (List.mem_cons_of_mem _ hw)
  have hown : s.vm.findClass RX8 = some m.cls := findClass_of_methodNamed B.named
  have hlocks := B.notSynchronized
  subst hsz
  have hD := hD0.self (sz := s.heap.size)
  generalize hAe : va_A [(a_t, .inr (6, [.ref a_t_generator, .ref a_t_program, .ref a_t_costs, .ref a_t_history, .ref a_t_machine, .ref a_t_tidier, .ref a_t_listing])), (a_t_program, .inr (4, [.int t_program_width, .int t_program_length, .int t_program_result, .int t_program_taskKind, .int t_program_taskDivisor, .ref a_t_program_operations, .ref a_t_program_firsts, .ref a_t_program_seconds]))] s.heap.size = A at hD hX ⊢
  have hA : ∀ q : Nat, s.heap.size ≤ q → A q := fun q h => by rw [← hAe]; exact Or.inr h
  have hS : va_S A s.heap s.heap [] := va_S.rf
  have hP : va_P D vwCl [(a_t, .inr (6, [.ref a_t_generator, .ref a_t_program, .ref a_t_costs, .ref a_t_history, .ref a_t_machine, .ref a_t_tidier, .ref a_t_listing])), (a_t_program, .inr (4, [.int t_program_width, .int t_program_length, .int t_program_result, .int t_program_taskKind, .int t_program_taskDivisor, .ref a_t_program_operations, .ref a_t_program_firsts, .ref a_t_program_seconds]))] s.heap := hP
  have hl := lv_entry ([.ref a_t, .int x1]) (n := 2) (Nat.le_of_ble_eq_true rfl)
  rw [lg_entry_eq]
  generalize (lg_sl ([.ref a_t, .int x1]) ++ List.replicate (2 - (lg_sl ([.ref a_t, .int x1])).length) Slot.unset).toArray = ls at hl ⊢
  have hl : lv_has ls 2 [(0, .ref a_t), (1, .int x1)] := hl
  unfold wX8_expected at h
  refine lv_iload_n hx hb dX8_expected_0 rfl (lv_at hl 1 rfl) ?_
  refine lv_iconst (v := 0) hx hb dX8_expected_1 (by decide) ?_
  refine lv_aload_n hx hb dX8_expected_2 rfl (lv_at hl 0 rfl) ?_
  refine cVi (As := []) (rest := [.int 0, .int x1]) (wc := [(a_t, .inr (6, [.ref a_t_generator, .ref a_t_program, .ref a_t_costs, .ref a_t_history, .ref a_t_machine, .ref a_t_tidier, .ref a_t_listing])), (a_t_program, .inr (4, [.int t_program_width, .int t_program_length, .int t_program_result, .int t_program_taskKind, .int t_program_taskDivisor, .ref a_t_program_operations, .ref a_t_program_firsts, .ref a_t_program_seconds]))]) (wr := []) (w1 := fun _ : Unit => [(a_t, .inr (6, [.ref a_t_generator, .ref a_t_program, .ref a_t_costs, .ref a_t_history, .ref a_t_machine, .ref a_t_tidier, .ref a_t_listing])), (a_t_program, .inr (4, [.int t_program_width, .int t_program_length, .int t_program_result, .int t_program_taskKind, .int t_program_taskDivisor, .ref a_t_program_operations, .ref a_t_program_firsts, .ref a_t_program_seconds]))]) (ws2 := fun _ : Unit => [(a_t, .inr (6, [.ref a_t_generator, .ref a_t_program, .ref a_t_costs, .ref a_t_history, .ref a_t_machine, .ref a_t_tidier, .ref a_t_listing])), (a_t_program, .inr (4, [.int t_program_width, .int t_program_length, .int t_program_result, .int t_program_taskKind, .int t_program_taskDivisor, .ref a_t_program_operations, .ref a_t_program_firsts, .ref a_t_program_seconds]))]) ⟨hx, hb, hml, hown, hts⟩ (mX8_greatestValue l D ca a_t a_t_generator a_t_program a_t_costs a_t_history a_t_machine a_t_tidier a_t_listing a_t_program_operations a_t_program_firsts a_t_program_seconds _ t_program_width t_program_length t_program_result t_program_taskKind t_program_taskDivisor _ h) (cwV 0 hts (gV q_388 q_390 qs_5 q_1 q_391) rfl rfl rfl (by decide +kernel) ⟨Nat.le_of_ble_eq_true rfl, Nat.le_of_ble_eq_true rfl⟩) hK hP hD hS hA [0, 1] [] [0, 1] rfl rfl rfl (by decide) (fun _ => rfl) (ci := 6) (q0 := 0) rfl rfl rfl hl.1 rfl (Nat.le_of_ble_eq_true rfl) dX8_expected_3 ⟨Nat.le_of_ble_eq_true rfl, Nat.le_of_ble_eq_true rfl⟩ (fun r_3 u9 H locs h hP hD hS => ?_)
  try dsimp only at h
  refine xPv (As := [.int x1, .int 0, .int r_3]) (rest := []) ⟨hx, hb, hml, hown, hts⟩ (mX8_requireFromTo l hl0 x1 0 r_3 _ _ h) (va_cwS 3 hts (gS q_392 q_393 q_1 q_394) rfl rfl rfl (by decide +kernel) ⟨Nat.le_of_ble_eq_true rfl, Nat.le_of_ble_eq_true rfl⟩) hX hS rfl hl.1 rfl (Nat.le_of_ble_eq_true rfl) dX8_expected_6 ⟨Nat.le_of_ble_eq_true rfl, Nat.le_of_ble_eq_true rfl⟩ (fun E ce q9 H1 locs hE hk1 hS h1 h2 h3 => x_out htab hlocks hK (s_back hP hk1) hD hS hE h1 h2 h3 (Nat.le_of_ble_eq_true rfl) (Nat.le_of_ble_eq_true rfl)) (fun H1 locs h hk1 hS => ?_)
  have hP := s_back hP hk1
  try dsimp only at h
  refine lv_aload_n hx hb dX8_expected_9 rfl (lv_at hl 0 rfl) ?_
  refine xVv (As := []) (rest := []) (wc := [(a_t, .inr (6, [.ref a_t_generator, .ref a_t_program, .ref a_t_costs, .ref a_t_history, .ref a_t_machine, .ref a_t_tidier, .ref a_t_listing])), (a_t_program, .inr (4, [.int t_program_width, .int t_program_length, .int t_program_result, .int t_program_taskKind, .int t_program_taskDivisor, .ref a_t_program_operations, .ref a_t_program_firsts, .ref a_t_program_seconds]))]) (wr := []) (w1 := fun _ : Unit => [(a_t, .inr (6, [.ref a_t_generator, .ref a_t_program, .ref a_t_costs, .ref a_t_history, .ref a_t_machine, .ref a_t_tidier, .ref a_t_listing])), (a_t_program, .inr (4, [.int t_program_width, .int t_program_length, .int t_program_result, .int t_program_taskKind, .int t_program_taskDivisor, .ref a_t_program_operations, .ref a_t_program_firsts, .ref a_t_program_seconds]))]) (ws2 := fun _ : Unit => [(a_t, .inr (6, [.ref a_t_generator, .ref a_t_program, .ref a_t_costs, .ref a_t_history, .ref a_t_machine, .ref a_t_tidier, .ref a_t_listing])), (a_t_program, .inr (4, [.int t_program_width, .int t_program_length, .int t_program_result, .int t_program_taskKind, .int t_program_taskDivisor, .ref a_t_program_operations, .ref a_t_program_firsts, .ref a_t_program_seconds]))]) ⟨hx, hb, hml, hown, hts⟩ (mX8_requireSomeTask l hl0 D ca a_t a_t_generator a_t_program a_t_costs a_t_history a_t_machine a_t_tidier a_t_listing a_t_program_operations a_t_program_firsts a_t_program_seconds _ t_program_width t_program_length t_program_result t_program_taskKind t_program_taskDivisor _ _ h) (cwV 0 hts (gV q_780 q_782 qs_30 q_1 q_783) rfl rfl rfl (by decide +kernel) ⟨Nat.le_of_ble_eq_true rfl, Nat.le_of_ble_eq_true rfl⟩) hX hK hP hD hS hA [0, 1] [] [0, 1] rfl rfl rfl (by decide) (fun _ => rfl) rfl (ci := 6) (q0 := 0) rfl rfl rfl hl.1 rfl (Nat.le_of_ble_eq_true rfl) dX8_expected_10 ⟨Nat.le_of_ble_eq_true rfl, Nat.le_of_ble_eq_true rfl⟩ (fun E ce q9 H1 locs hE hP hS h1 h2 h3 => x_out htab hlocks hK hP hD hS hE h1 h2 h3 (Nat.le_of_ble_eq_true rfl) (Nat.le_of_ble_eq_true rfl)) (fun u9 H locs h hP hD hS => ?_)
  try dsimp only at h
  refine lv_aload_n hx hb dX8_expected_13 rfl (lv_at hl 0 rfl) ?_
  refine lv_iload_n hx hb dX8_expected_14 rfl (lv_at hl 1 rfl) ?_
  refine cVi (As := [.int x1]) (rest := []) (wc := [(a_t, .inr (6, [.ref a_t_generator, .ref a_t_program, .ref a_t_costs, .ref a_t_history, .ref a_t_machine, .ref a_t_tidier, .ref a_t_listing])), (a_t_program, .inr (4, [.int t_program_width, .int t_program_length, .int t_program_result, .int t_program_taskKind, .int t_program_taskDivisor, .ref a_t_program_operations, .ref a_t_program_firsts, .ref a_t_program_seconds]))]) (wr := []) (w1 := fun _ : Unit => [(a_t, .inr (6, [.ref a_t_generator, .ref a_t_program, .ref a_t_costs, .ref a_t_history, .ref a_t_machine, .ref a_t_tidier, .ref a_t_listing])), (a_t_program, .inr (4, [.int t_program_width, .int t_program_length, .int t_program_result, .int t_program_taskKind, .int t_program_taskDivisor, .ref a_t_program_operations, .ref a_t_program_firsts, .ref a_t_program_seconds]))]) (ws2 := fun _ : Unit => [(a_t, .inr (6, [.ref a_t_generator, .ref a_t_program, .ref a_t_costs, .ref a_t_history, .ref a_t_machine, .ref a_t_tidier, .ref a_t_listing])), (a_t_program, .inr (4, [.int t_program_width, .int t_program_length, .int t_program_result, .int t_program_taskKind, .int t_program_taskDivisor, .ref a_t_program_operations, .ref a_t_program_firsts, .ref a_t_program_seconds]))]) ⟨hx, hb, hml, hown, hts⟩ (mX8_meaning l D ca a_t a_t_generator a_t_program a_t_costs a_t_history a_t_machine a_t_tidier a_t_listing a_t_program_operations a_t_program_firsts a_t_program_seconds _ t_program_width t_program_length t_program_result t_program_taskKind t_program_taskDivisor x1 _ h) (cwV 1 hts (gV q_785 q_787 qs_31 q_1 q_788) rfl rfl rfl (by decide +kernel) ⟨Nat.le_of_ble_eq_true rfl, Nat.le_of_ble_eq_true rfl⟩) hK hP hD hS hA [0, 1] [] [0, 1] rfl rfl rfl (by decide) (fun _ => rfl) (ci := 6) (q0 := 0) rfl rfl rfl hl.1 rfl (Nat.le_of_ble_eq_true rfl) dX8_expected_15 ⟨Nat.le_of_ble_eq_true rfl, Nat.le_of_ble_eq_true rfl⟩ (fun r_15 u9 H locs h hP hD hS => ?_)
  try dsimp only at h
  refine W.widen (k := 2) (n := 12) (Nat.le_of_ble_eq_true rfl) (Nat.le_of_ble_eq_true rfl) ?_
  refine vx_ret ?_
  exact W.iret (v := r_15) hx hb hr (fun t ht hW => ⟨⟨r_15, (), rfl, h, by rw [ht]; exact hP, va_K.moved hW.alike hK, hD⟩, hS.F ht⟩) hS.2.2 dX8_expected_18

abbrev qX8_isRight (D : va_G) (ca : Nat → ClassId) (a_t a_t_generator a_t_program a_t_costs a_t_history a_t_machine a_t_tidier a_t_listing a_t_program_operations a_t_program_firsts a_t_program_seconds a_t_machine_values a_t_machine_depths : Nat) (t_program_width : Int32) (t_program_length : Int32) (t_program_result : Int32) (t_program_taskKind : Int32) (t_program_taskDivisor : Int32) (f_t_program_operations : Nat → Int32) (f_t_program_firsts : Nat → Int32) (f_t_program_seconds : Nat → Int32) (Q : Int32 → (Nat → Int32) → Prop) (A : Nat → Prop) : Array Value → State → Outcome → State → Prop := va_Qi (fun (r : Int32) (u : (Nat → Int32)) => Q r u) (wEnd D ca (fun u : (Nat → Int32) => [(a_t, .inr (6, [.ref a_t_generator, .ref a_t_program, .ref a_t_costs, .ref a_t_history, .ref a_t_machine, .ref a_t_tidier, .ref a_t_listing])), (a_t_program, .inr (4, [.int t_program_width, .int t_program_length, .int t_program_result, .int t_program_taskKind, .int t_program_taskDivisor, .ref a_t_program_operations, .ref a_t_program_firsts, .ref a_t_program_seconds])), (a_t_program_operations, .inl (ca 0, 40, .inl f_t_program_operations)), (a_t_program_firsts, .inl (ca 0, 40, .inl f_t_program_firsts)), (a_t_program_seconds, .inl (ca 0, 40, .inl f_t_program_seconds)), (a_t_machine, .inr (3, [.ref a_t_machine_values, .ref a_t_machine_depths])), (a_t_machine_values, .inl (ca 0, 41, .inl u))]) A) A
def wX8_isRight (t_program_width : Int32) (t_program_result : Int32) (t_program_taskKind : Int32) (t_program_taskDivisor : Int32) (f_t_program_operations : Nat → Int32) (f_t_program_firsts : Nat → Int32) (f_t_program_seconds : Nat → Int32) (f_t_machine_values : Nat → Int32) (x1 : Int32) (Q : Int32 → (Nat → Int32) → Prop) : Prop :=
  wX8_meaning t_program_width t_program_taskKind t_program_taskDivisor x1 (fun r_2 => ((r_2 = ((-1)) → Q 1 f_t_machine_values) ∧ (¬ r_2 = ((-1)) → wX3_compute f_t_machine_values t_program_width f_t_program_operations f_t_program_firsts f_t_program_seconds x1 t_program_result (fun r_28 f_t_machine_values_28 => ((r_2 = r_28 → Q 1 f_t_machine_values_28) ∧ (¬ r_2 = r_28 → Q 0 f_t_machine_values_28))))))
set_option maxHeartbeats 4000000 in
set_option maxRecDepth 100000 in
theorem mX8_isRight (l : Launch) (D : va_G) (ca : Nat → ClassId) (a_t a_t_generator a_t_program a_t_costs a_t_history a_t_machine a_t_tidier a_t_listing a_t_program_operations a_t_program_firsts a_t_program_seconds a_t_machine_values a_t_machine_depths : Nat) (sz : Nat) (t_program_width : Int32) (t_program_length : Int32) (t_program_result : Int32) (t_program_taskKind : Int32) (t_program_taskDivisor : Int32) (f_t_program_operations : Nat → Int32) (f_t_program_firsts : Nat → Int32) (f_t_program_seconds : Nat → Int32) (f_t_machine_values : Nat → Int32) (x1 : Int32) (Q : Int32 → (Nat → Int32) → Prop) (h : wX8_isRight t_program_width t_program_result t_program_taskKind t_program_taskDivisor f_t_program_operations f_t_program_firsts f_t_program_seconds f_t_machine_values x1 Q) : Met l yX8_isRight (Cond.code yX8_isRight cX8_isRight 3 (some .boolean) :: wsG) ({ frames := 4, cells := 0, slots := 0, locals := 87 } : Room) (va_Pc [.ref a_t, .int x1] (wPre D ca [(a_t, .inr (6, [.ref a_t_generator, .ref a_t_program, .ref a_t_costs, .ref a_t_history, .ref a_t_machine, .ref a_t_tidier, .ref a_t_listing])), (a_t_program, .inr (4, [.int t_program_width, .int t_program_length, .int t_program_result, .int t_program_taskKind, .int t_program_taskDivisor, .ref a_t_program_operations, .ref a_t_program_firsts, .ref a_t_program_seconds])), (a_t_program_operations, .inl (ca 0, 40, .inl f_t_program_operations)), (a_t_program_firsts, .inl (ca 0, 40, .inl f_t_program_firsts)), (a_t_program_seconds, .inl (ca 0, 40, .inl f_t_program_seconds)), (a_t_machine, .inr (3, [.ref a_t_machine_values, .ref a_t_machine_depths])), (a_t_machine_values, .inl (ca 0, 41, .inl f_t_machine_values))] sz)) (qX8_isRight D ca a_t a_t_generator a_t_program a_t_costs a_t_history a_t_machine a_t_tidier a_t_listing a_t_program_operations a_t_program_firsts a_t_program_seconds a_t_machine_values a_t_machine_depths t_program_width t_program_length t_program_result t_program_taskKind t_program_taskDivisor f_t_program_operations f_t_program_firsts f_t_program_seconds Q (va_A [(a_t, .inr (6, [.ref a_t_generator, .ref a_t_program, .ref a_t_costs, .ref a_t_history, .ref a_t_machine, .ref a_t_tidier, .ref a_t_listing])), (a_t_program, .inr (4, [.int t_program_width, .int t_program_length, .int t_program_result, .int t_program_taskKind, .int t_program_taskDivisor, .ref a_t_program_operations, .ref a_t_program_firsts, .ref a_t_program_seconds])), (a_t_program_operations, .inl (ca 0, 40, .inl f_t_program_operations)), (a_t_program_firsts, .inl (ca 0, 40, .inl f_t_program_firsts)), (a_t_program_seconds, .inl (ca 0, 40, .inl f_t_program_seconds)), (a_t_machine, .inr (3, [.ref a_t_machine_values, .ref a_t_machine_depths])), (a_t_machine_values, .inl (ca 0, 41, .inl f_t_machine_values))] sz)) 0 0 (va_A [(a_t, .inr (6, [.ref a_t_generator, .ref a_t_program, .ref a_t_costs, .ref a_t_history, .ref a_t_machine, .ref a_t_tidier, .ref a_t_listing])), (a_t_program, .inr (4, [.int t_program_width, .int t_program_length, .int t_program_result, .int t_program_taskKind, .int t_program_taskDivisor, .ref a_t_program_operations, .ref a_t_program_firsts, .ref a_t_program_seconds])), (a_t_program_operations, .inl (ca 0, 40, .inl f_t_program_operations)), (a_t_program_firsts, .inl (ca 0, 40, .inl f_t_program_firsts)), (a_t_program_seconds, .inl (ca 0, 40, .inl f_t_program_seconds)), (a_t_machine, .inr (3, [.ref a_t_machine_values, .ref a_t_machine_depths])), (a_t_machine_values, .inl (ca 0, 41, .inl f_t_machine_values))] sz) := by
  refine Met.ofW (cc := cX8_isRight) (maxL := 3) (ret := (some .boolean)) (by decide) rfl ?_
  intro p e s m args below meth c s₁ B hml hv
  obtain ⟨rfl, hsz, hP, hK, hD0⟩ := hv
  have hx := B.exec
  have hb := B.bytes
  have hr := B.returns
  have hts := atoms_spec (ws := (Cond.code yX8_isRight cX8_isRight 3 (some .boolean) :: wsG)) B.pre
  have hq : ∀ w ∈ wsG, w.before _ s = true := fun w hw => hts w (List.mem_cons_of_mem _ hw)
  have hown : s.vm.findClass RX8 = some m.cls := findClass_of_methodNamed B.named
  have hlocks := B.notSynchronized
  subst hsz
  have hD := hD0.self (sz := s.heap.size)
  generalize hAe : va_A [(a_t, .inr (6, [.ref a_t_generator, .ref a_t_program, .ref a_t_costs, .ref a_t_history, .ref a_t_machine, .ref a_t_tidier, .ref a_t_listing])), (a_t_program, .inr (4, [.int t_program_width, .int t_program_length, .int t_program_result, .int t_program_taskKind, .int t_program_taskDivisor, .ref a_t_program_operations, .ref a_t_program_firsts, .ref a_t_program_seconds])), (a_t_program_operations, .inl (ca 0, 40, .inl f_t_program_operations)), (a_t_program_firsts, .inl (ca 0, 40, .inl f_t_program_firsts)), (a_t_program_seconds, .inl (ca 0, 40, .inl f_t_program_seconds)), (a_t_machine, .inr (3, [.ref a_t_machine_values, .ref a_t_machine_depths])), (a_t_machine_values, .inl (ca 0, 41, .inl f_t_machine_values))] s.heap.size = A at hD ⊢
  have hA : ∀ q : Nat, s.heap.size ≤ q → A q := fun q h => by rw [← hAe]; exact Or.inr h
  have hS : va_S A s.heap s.heap [] := va_S.rf
  have hP : va_P D vwCl [(a_t, .inr (6, [.ref a_t_generator, .ref a_t_program, .ref a_t_costs, .ref a_t_history, .ref a_t_machine, .ref a_t_tidier, .ref a_t_listing])), (a_t_program, .inr (4, [.int t_program_width, .int t_program_length, .int t_program_result, .int t_program_taskKind, .int t_program_taskDivisor, .ref a_t_program_operations, .ref a_t_program_firsts, .ref a_t_program_seconds])), (a_t_program_operations, .inl (ca 0, 40, .inl f_t_program_operations)), (a_t_program_firsts, .inl (ca 0, 40, .inl f_t_program_firsts)), (a_t_program_seconds, .inl (ca 0, 40, .inl f_t_program_seconds)), (a_t_machine, .inr (3, [.ref a_t_machine_values, .ref a_t_machine_depths])), (a_t_machine_values, .inl (ca 0, 41, .inl f_t_machine_values))] s.heap := hP
  have hl := lv_entry ([.ref a_t, .int x1]) (n := 3) (Nat.le_of_ble_eq_true rfl)
  rw [lg_entry_eq]
  generalize (lg_sl ([.ref a_t, .int x1]) ++ List.replicate (3 - (lg_sl ([.ref a_t, .int x1])).length) Slot.unset).toArray = ls at hl ⊢
  have hl : lv_has ls 3 [(0, .ref a_t), (1, .int x1)] := hl
  unfold wX8_isRight at h
  refine lv_aload_n hx hb dX8_isRight_0 rfl (lv_at hl 0 rfl) ?_
  refine lv_iload_n hx hb dX8_isRight_1 rfl (lv_at hl 1 rfl) ?_
  refine cVi (As := [.int x1]) (rest := []) (wc := [(a_t, .inr (6, [.ref a_t_generator, .ref a_t_program, .ref a_t_costs, .ref a_t_history, .ref a_t_machine, .ref a_t_tidier, .ref a_t_listing])), (a_t_program, .inr (4, [.int t_program_width, .int t_program_length, .int t_program_result, .int t_program_taskKind, .int t_program_taskDivisor, .ref a_t_program_operations, .ref a_t_program_firsts, .ref a_t_program_seconds]))]) (wr := [(a_t_program_operations, .inl (ca 0, 40, .inl f_t_program_operations)), (a_t_program_firsts, .inl (ca 0, 40, .inl f_t_program_firsts)), (a_t_program_seconds, .inl (ca 0, 40, .inl f_t_program_seconds)), (a_t_machine, .inr (3, [.ref a_t_machine_values, .ref a_t_machine_depths])), (a_t_machine_values, .inl (ca 0, 41, .inl f_t_machine_values))]) (w1 := fun _ : Unit => [(a_t, .inr (6, [.ref a_t_generator, .ref a_t_program, .ref a_t_costs, .ref a_t_history, .ref a_t_machine, .ref a_t_tidier, .ref a_t_listing])), (a_t_program, .inr (4, [.int t_program_width, .int t_program_length, .int t_program_result, .int t_program_taskKind, .int t_program_taskDivisor, .ref a_t_program_operations, .ref a_t_program_firsts, .ref a_t_program_seconds]))]) (ws2 := fun _ : Unit => [(a_t, .inr (6, [.ref a_t_generator, .ref a_t_program, .ref a_t_costs, .ref a_t_history, .ref a_t_machine, .ref a_t_tidier, .ref a_t_listing])), (a_t_program, .inr (4, [.int t_program_width, .int t_program_length, .int t_program_result, .int t_program_taskKind, .int t_program_taskDivisor, .ref a_t_program_operations, .ref a_t_program_firsts, .ref a_t_program_seconds])), (a_t_program_operations, .inl (ca 0, 40, .inl f_t_program_operations)), (a_t_program_firsts, .inl (ca 0, 40, .inl f_t_program_firsts)), (a_t_program_seconds, .inl (ca 0, 40, .inl f_t_program_seconds)), (a_t_machine, .inr (3, [.ref a_t_machine_values, .ref a_t_machine_depths])), (a_t_machine_values, .inl (ca 0, 41, .inl f_t_machine_values))]) ⟨hx, hb, hml, hown, hts⟩ (mX8_meaning l D ca a_t a_t_generator a_t_program a_t_costs a_t_history a_t_machine a_t_tidier a_t_listing a_t_program_operations a_t_program_firsts a_t_program_seconds _ t_program_width t_program_length t_program_result t_program_taskKind t_program_taskDivisor x1 _ h) (cwV 1 hts (gV q_785 q_787 qs_31 q_1 q_788) rfl rfl rfl (by decide +kernel) ⟨Nat.le_of_ble_eq_true rfl, Nat.le_of_ble_eq_true rfl⟩) hK hP hD hS hA [0, 1] [2, 3, 4, 5, 6] [5, 6, 0, 1, 2, 3, 4] rfl rfl rfl (by decide) (fun _ => rfl) (ci := 6) (q0 := 0) rfl rfl rfl hl.1 rfl (Nat.le_of_ble_eq_true rfl) dX8_isRight_2 ⟨Nat.le_of_ble_eq_true rfl, Nat.le_of_ble_eq_true rfl⟩ (fun r_2 u9 H locs h hP hD hS => ?_)
  try dsimp only at h
  refine lv_istore_n (lv' := [(2, .int r_2), (0, .ref a_t), (1, .int x1)]) hx hb dX8_isRight_5 rfl hl (by decide) rfl (fun ls hl => ?_)
  refine lv_iload_n hx hb dX8_isRight_6 rfl (lv_at hl 0 rfl) ?_
  refine lv_iconst (v := (-1)) hx hb dX8_isRight_7 (by decide) ?_
  refine lv_icmp_eq (tgt := 34) hx hb dX8_isRight_8 (by decide) (fun c9 => ?_) (fun c9 => ?_)
  · have h := h.1 c9
    refine lv_iconst (v := 1) hx hb dX8_isRight_34 (by decide) ?_
    refine lv_goto (tgt := 39) hx hb dX8_isRight_35 (by decide) ?_
    exact W.zret (v := 1) hx hb hr rfl (fun t ht hW => ⟨⟨1, f_t_machine_values, rfl, h, by rw [ht]; exact hP, va_K.moved hW.alike hK, hD⟩, hS.F ht⟩) hS.2.2 dX8_isRight_39
  · have h := h.2 c9
    refine lv_iload_n hx hb dX8_isRight_11 rfl (lv_at hl 0 rfl) ?_
    refine lv_aload_n hx hb dX8_isRight_12 rfl (lv_at hl 1 rfl) ?_
    refine va_get (D := D) (ci := 6) (v := .ref a_t_machine) (C := RX8) (T := TX8) (N := 7) hx hb hq inX8g hown hK hP 0 rfl rfl 4 (by decide) (hq _ q_173) (fun _ h9 => h9) rfl dX8_isRight_13 ?_
    refine lv_aload_n hx hb dX8_isRight_16 rfl (lv_at hl 1 rfl) ?_
    refine va_get (D := D) (ci := 6) (v := .ref a_t_program) (C := RX8) (T := TX8) (N := 7) hx hb hq inX8g hown hK hP 0 rfl rfl 1 (by decide) (hq _ q_170) (fun _ h9 => h9) rfl dX8_isRight_17 ?_
    refine lv_iload_n hx hb dX8_isRight_20 rfl (lv_at hl 2 rfl) ?_
    refine lv_aload_n hx hb dX8_isRight_21 rfl (lv_at hl 1 rfl) ?_
    refine va_get (D := D) (ci := 6) (v := .ref a_t_program) (C := RX8) (T := TX8) (N := 7) hx hb hq inX8g hown hK hP 0 rfl rfl 1 (by decide) (hq _ q_170) (fun _ h9 => h9) rfl dX8_isRight_22 ?_
    refine va_get (D := D) (ci := 4) (v := .int t_program_result) (C := RX5) (T := TX5) (N := 8) hx hb hq inX5g hown hK hP 1 rfl rfl 2 (by decide) (hq _ q_56) (fun _ h9 => h9) rfl dX8_isRight_25 ?_
    refine cVi (As := [.ref a_t_program, .int x1, .int t_program_result]) (rest := [.int r_2]) (wc := [(a_t_machine, .inr (3, [.ref a_t_machine_values, .ref a_t_machine_depths])), (a_t_machine_values, .inl (ca 0, 41, .inl f_t_machine_values)), (a_t_program, .inr (4, [.int t_program_width, .int t_program_length, .int t_program_result, .int t_program_taskKind, .int t_program_taskDivisor, .ref a_t_program_operations, .ref a_t_program_firsts, .ref a_t_program_seconds])), (a_t_program_operations, .inl (ca 0, 40, .inl f_t_program_operations)), (a_t_program_firsts, .inl (ca 0, 40, .inl f_t_program_firsts)), (a_t_program_seconds, .inl (ca 0, 40, .inl f_t_program_seconds))]) (wr := [(a_t, .inr (6, [.ref a_t_generator, .ref a_t_program, .ref a_t_costs, .ref a_t_history, .ref a_t_machine, .ref a_t_tidier, .ref a_t_listing]))]) (w1 := fun u : (Nat → Int32) => [(a_t_machine, .inr (3, [.ref a_t_machine_values, .ref a_t_machine_depths])), (a_t_machine_values, .inl (ca 0, 41, .inl u)), (a_t_program, .inr (4, [.int t_program_width, .int t_program_length, .int t_program_result, .int t_program_taskKind, .int t_program_taskDivisor, .ref a_t_program_operations, .ref a_t_program_firsts, .ref a_t_program_seconds])), (a_t_program_operations, .inl (ca 0, 40, .inl f_t_program_operations)), (a_t_program_firsts, .inl (ca 0, 40, .inl f_t_program_firsts)), (a_t_program_seconds, .inl (ca 0, 40, .inl f_t_program_seconds))]) (ws2 := fun u : (Nat → Int32) => [(a_t, .inr (6, [.ref a_t_generator, .ref a_t_program, .ref a_t_costs, .ref a_t_history, .ref a_t_machine, .ref a_t_tidier, .ref a_t_listing])), (a_t_program, .inr (4, [.int t_program_width, .int t_program_length, .int t_program_result, .int t_program_taskKind, .int t_program_taskDivisor, .ref a_t_program_operations, .ref a_t_program_firsts, .ref a_t_program_seconds])), (a_t_program_operations, .inl (ca 0, 40, .inl f_t_program_operations)), (a_t_program_firsts, .inl (ca 0, 40, .inl f_t_program_firsts)), (a_t_program_seconds, .inl (ca 0, 40, .inl f_t_program_seconds)), (a_t_machine, .inr (3, [.ref a_t_machine_values, .ref a_t_machine_depths])), (a_t_machine_values, .inl (ca 0, 41, .inl u))]) ⟨hx, hb, hml, hown, hts⟩ (mX3_compute l D ca a_t_machine a_t_machine_values a_t_machine_depths a_t_program a_t_program_operations a_t_program_firsts a_t_program_seconds _ f_t_machine_values t_program_width t_program_length t_program_result t_program_taskKind t_program_taskDivisor f_t_program_operations f_t_program_firsts f_t_program_seconds x1 t_program_result _ h) (cwV 3 hts (gV q_752 q_753 q_754 q_5 q_755) rfl rfl rfl (by decide +kernel) ⟨Nat.le_of_ble_eq_true rfl, Nat.le_of_ble_eq_true rfl⟩) hK hP hD hS hA [5, 6, 1, 2, 3, 4] [0] [0, 3, 4, 5, 6, 1, 2] rfl rfl rfl (by decide) (fun _ => rfl) (ci := 3) (q0 := 5) rfl rfl rfl hl.1 rfl (Nat.le_of_ble_eq_true rfl) dX8_isRight_28 ⟨Nat.le_of_ble_eq_true rfl, Nat.le_of_ble_eq_true rfl⟩ (fun r_28 u9 H locs h hP hD hS => ?_)
    obtain ⟨f_t_machine_values_28, rfl⟩ : ∃ z, z = u9 := ⟨_, rfl⟩
    have hP : va_P D vwCl [(a_t, .inr (6, [.ref a_t_generator, .ref a_t_program, .ref a_t_costs, .ref a_t_history, .ref a_t_machine, .ref a_t_tidier, .ref a_t_listing])), (a_t_program, .inr (4, [.int t_program_width, .int t_program_length, .int t_program_result, .int t_program_taskKind, .int t_program_taskDivisor, .ref a_t_program_operations, .ref a_t_program_firsts, .ref a_t_program_seconds])), (a_t_program_operations, .inl (ca 0, 40, .inl f_t_program_operations)), (a_t_program_firsts, .inl (ca 0, 40, .inl f_t_program_firsts)), (a_t_program_seconds, .inl (ca 0, 40, .inl f_t_program_seconds)), (a_t_machine, .inr (3, [.ref a_t_machine_values, .ref a_t_machine_depths])), (a_t_machine_values, .inl (ca 0, 41, .inl f_t_machine_values_28))] H := hP
    have hD : va_D A [(a_t, .inr (6, [.ref a_t_generator, .ref a_t_program, .ref a_t_costs, .ref a_t_history, .ref a_t_machine, .ref a_t_tidier, .ref a_t_listing])), (a_t_program, .inr (4, [.int t_program_width, .int t_program_length, .int t_program_result, .int t_program_taskKind, .int t_program_taskDivisor, .ref a_t_program_operations, .ref a_t_program_firsts, .ref a_t_program_seconds])), (a_t_program_operations, .inl (ca 0, 40, .inl f_t_program_operations)), (a_t_program_firsts, .inl (ca 0, 40, .inl f_t_program_firsts)), (a_t_program_seconds, .inl (ca 0, 40, .inl f_t_program_seconds)), (a_t_machine, .inr (3, [.ref a_t_machine_values, .ref a_t_machine_depths])), (a_t_machine_values, .inl (ca 0, 41, .inl f_t_machine_values_28))] := hD
    try dsimp only at h
    refine lv_icmp_ne (tgt := 38) hx hb dX8_isRight_31 (by decide) (fun c9 => ?_) (fun c9 => ?_)
    · have h := h.2 c9
      refine lv_iconst (v := 0) hx hb dX8_isRight_38 (by decide) ?_
      exact W.zret (v := 0) hx hb hr rfl (fun t ht hW => ⟨⟨0, f_t_machine_values_28, rfl, h, by rw [ht]; exact hP, va_K.moved hW.alike hK, hD⟩, hS.F ht⟩) hS.2.2 dX8_isRight_39
    · have h := h.1 c9
      refine lv_iconst (v := 1) hx hb dX8_isRight_34 (by decide) ?_
      refine lv_goto (tgt := 39) hx hb dX8_isRight_35 (by decide) ?_
      exact W.zret (v := 1) hx hb hr rfl (fun t ht hW => ⟨⟨1, f_t_machine_values_28, rfl, h, by rw [ht]; exact hP, va_K.moved hW.alike hK, hD⟩, hS.F ht⟩) hS.2.2 dX8_isRight_39

abbrev qX8_firstWrong (D : va_G) (ca : Nat → ClassId) (a_t a_t_generator a_t_program a_t_costs a_t_history a_t_machine a_t_tidier a_t_listing a_t_program_operations a_t_program_firsts a_t_program_seconds a_t_machine_values a_t_machine_depths : Nat) (t_program_width : Int32) (t_program_length : Int32) (t_program_result : Int32) (t_program_taskKind : Int32) (t_program_taskDivisor : Int32) (f_t_program_operations : Nat → Int32) (f_t_program_firsts : Nat → Int32) (f_t_program_seconds : Nat → Int32) (Q : Int32 → (Nat → Int32) → Prop) (A : Nat → Prop) : Array Value → State → Outcome → State → Prop := va_Qi (fun (r : Int32) (u : (Nat → Int32)) => Q r u) (wEnd D ca (fun u : (Nat → Int32) => [(a_t, .inr (6, [.ref a_t_generator, .ref a_t_program, .ref a_t_costs, .ref a_t_history, .ref a_t_machine, .ref a_t_tidier, .ref a_t_listing])), (a_t_program, .inr (4, [.int t_program_width, .int t_program_length, .int t_program_result, .int t_program_taskKind, .int t_program_taskDivisor, .ref a_t_program_operations, .ref a_t_program_firsts, .ref a_t_program_seconds])), (a_t_program_operations, .inl (ca 0, 40, .inl f_t_program_operations)), (a_t_program_firsts, .inl (ca 0, 40, .inl f_t_program_firsts)), (a_t_program_seconds, .inl (ca 0, 40, .inl f_t_program_seconds)), (a_t_machine, .inr (3, [.ref a_t_machine_values, .ref a_t_machine_depths])), (a_t_machine_values, .inl (ca 0, 41, .inl u))]) A) A
def wX8_firstWrong_20 (t_program_width : Int32) (t_program_result : Int32) (t_program_taskKind : Int32) (t_program_taskDivisor : Int32) (f_t_program_operations : Nat → Int32) (f_t_program_firsts : Nat → Int32) (f_t_program_seconds : Nat → Int32) (Q : Int32 → (Nat → Int32) → Prop) (r_14 : Int32) : Nat → Int32 → (Nat → Int32) → Prop
  | 0, _, _ => False
  | n9 + 1, x3_20, f_t_machine_values_20 =>
  ((r_14 < x3_20 → Q ((-1)) f_t_machine_values_20) ∧ (¬ r_14 < x3_20 → wX8_isRight t_program_width t_program_result t_program_taskKind t_program_taskDivisor f_t_program_operations f_t_program_firsts f_t_program_seconds f_t_machine_values_20 x3_20 (fun r_27 f_t_machine_values_27 => ((r_27 = 0 → Q x3_20 f_t_machine_values_27) ∧ (¬ r_27 = 0 → (∀ x3_35 : Int32, x3_35 = x3_20 + 1 → (wX8_firstWrong_20 t_program_width t_program_result t_program_taskKind t_program_taskDivisor f_t_program_operations f_t_program_firsts f_t_program_seconds Q r_14 n9) x3_35 f_t_machine_values_27))))))
def wX8_firstWrong (t_program_width : Int32) (t_program_result : Int32) (t_program_taskKind : Int32) (t_program_taskDivisor : Int32) (f_t_program_operations : Nat → Int32) (f_t_program_firsts : Nat → Int32) (f_t_program_seconds : Nat → Int32) (f_t_machine_values : Nat → Int32) (x1 : Int32) (Q : Int32 → (Nat → Int32) → Prop) (QX : String → Prop) : Prop :=
  wX8_greatestValue t_program_width (fun r_3 => wX8_requireFromTo x1 0 r_3 (wX8_requireSomeTask t_program_taskKind (wX8_greatestValue t_program_width (fun r_14 => (∃ k9, wX8_firstWrong_20 t_program_width t_program_result t_program_taskKind t_program_taskDivisor f_t_program_operations f_t_program_firsts f_t_program_seconds Q r_14 k9 x1 f_t_machine_values))) QX) QX)
set_option maxHeartbeats 4000000 in
set_option maxRecDepth 100000 in
theorem mX8_firstWrong (l : Launch) (hl0 : l.stackTraces = false) (D : va_G) (ca : Nat → ClassId) (a_t a_t_generator a_t_program a_t_costs a_t_history a_t_machine a_t_tidier a_t_listing a_t_program_operations a_t_program_firsts a_t_program_seconds a_t_machine_values a_t_machine_depths : Nat) (sz : Nat) (t_program_width : Int32) (t_program_length : Int32) (t_program_result : Int32) (t_program_taskKind : Int32) (t_program_taskDivisor : Int32) (f_t_program_operations : Nat → Int32) (f_t_program_firsts : Nat → Int32) (f_t_program_seconds : Nat → Int32) (f_t_machine_values : Nat → Int32) (x1 : Int32) (Q : Int32 → (Nat → Int32) → Prop) (QX : String → Prop) (h : wX8_firstWrong t_program_width t_program_result t_program_taskKind t_program_taskDivisor f_t_program_operations f_t_program_firsts f_t_program_seconds f_t_machine_values x1 Q QX) : vx_Met l yX8_firstWrong (Cond.code yX8_firstWrong cX8_firstWrong 4 (some .int) :: wsG) ({ frames := 7, cells := 2, slots := 12, locals := 112 } : Room) (va_Pc [.ref a_t, .int x1] (xPre D ca [(a_t, .inr (6, [.ref a_t_generator, .ref a_t_program, .ref a_t_costs, .ref a_t_history, .ref a_t_machine, .ref a_t_tidier, .ref a_t_listing])), (a_t_program, .inr (4, [.int t_program_width, .int t_program_length, .int t_program_result, .int t_program_taskKind, .int t_program_taskDivisor, .ref a_t_program_operations, .ref a_t_program_firsts, .ref a_t_program_seconds])), (a_t_program_operations, .inl (ca 0, 40, .inl f_t_program_operations)), (a_t_program_firsts, .inl (ca 0, 40, .inl f_t_program_firsts)), (a_t_program_seconds, .inl (ca 0, 40, .inl f_t_program_seconds)), (a_t_machine, .inr (3, [.ref a_t_machine_values, .ref a_t_machine_depths])), (a_t_machine_values, .inl (ca 0, 41, .inl f_t_machine_values))] sz)) (qX8_firstWrong D ca a_t a_t_generator a_t_program a_t_costs a_t_history a_t_machine a_t_tidier a_t_listing a_t_program_operations a_t_program_firsts a_t_program_seconds a_t_machine_values a_t_machine_depths t_program_width t_program_length t_program_result t_program_taskKind t_program_taskDivisor f_t_program_operations f_t_program_firsts f_t_program_seconds Q (va_A [(a_t, .inr (6, [.ref a_t_generator, .ref a_t_program, .ref a_t_costs, .ref a_t_history, .ref a_t_machine, .ref a_t_tidier, .ref a_t_listing])), (a_t_program, .inr (4, [.int t_program_width, .int t_program_length, .int t_program_result, .int t_program_taskKind, .int t_program_taskDivisor, .ref a_t_program_operations, .ref a_t_program_firsts, .ref a_t_program_seconds])), (a_t_program_operations, .inl (ca 0, 40, .inl f_t_program_operations)), (a_t_program_firsts, .inl (ca 0, 40, .inl f_t_program_firsts)), (a_t_program_seconds, .inl (ca 0, 40, .inl f_t_program_seconds)), (a_t_machine, .inr (3, [.ref a_t_machine_values, .ref a_t_machine_depths])), (a_t_machine_values, .inl (ca 0, 41, .inl f_t_machine_values))] sz)) (xEnd D ca [(a_t, .inr (6, [.ref a_t_generator, .ref a_t_program, .ref a_t_costs, .ref a_t_history, .ref a_t_machine, .ref a_t_tidier, .ref a_t_listing])), (a_t_program, .inr (4, [.int t_program_width, .int t_program_length, .int t_program_result, .int t_program_taskKind, .int t_program_taskDivisor, .ref a_t_program_operations, .ref a_t_program_firsts, .ref a_t_program_seconds])), (a_t_program_operations, .inl (ca 0, 40, .inl f_t_program_operations)), (a_t_program_firsts, .inl (ca 0, 40, .inl f_t_program_firsts)), (a_t_program_seconds, .inl (ca 0, 40, .inl f_t_program_seconds)), (a_t_machine, .inr (3, [.ref a_t_machine_values, .ref a_t_machine_depths])), (a_t_machine_values, .inl (ca 0, 41, .inl f_t_machine_values))] QX (va_A [(a_t, .inr (6, [.ref a_t_generator, .ref a_t_program, .ref a_t_costs, .ref a_t_history, .ref a_t_machine, .ref a_t_tidier, .ref a_t_listing])), (a_t_program, .inr (4, [.int t_program_width, .int t_program_length, .int t_program_result, .int t_program_taskKind, .int t_program_taskDivisor, .ref a_t_program_operations, .ref a_t_program_firsts, .ref a_t_program_seconds])), (a_t_program_operations, .inl (ca 0, 40, .inl f_t_program_operations)), (a_t_program_firsts, .inl (ca 0, 40, .inl f_t_program_firsts)), (a_t_program_seconds, .inl (ca 0, 40, .inl f_t_program_seconds)), (a_t_machine, .inr (3, [.ref a_t_machine_values, .ref a_t_machine_depths])), (a_t_machine_values, .inl (ca 0, 41, .inl f_t_machine_values))] sz)) 2 12 (va_A [(a_t, .inr (6, [.ref a_t_generator, .ref a_t_program, .ref a_t_costs, .ref a_t_history, .ref a_t_machine, .ref a_t_tidier, .ref a_t_listing])), (a_t_program, .inr (4, [.int t_program_width, .int t_program_length, .int t_program_result, .int t_program_taskKind, .int t_program_taskDivisor, .ref a_t_program_operations, .ref a_t_program_firsts, .ref a_t_program_seconds])), (a_t_program_operations, .inl (ca 0, 40, .inl f_t_program_operations)), (a_t_program_firsts, .inl (ca 0, 40, .inl f_t_program_firsts)), (a_t_program_seconds, .inl (ca 0, 40, .inl f_t_program_seconds)), (a_t_machine, .inr (3, [.ref a_t_machine_values, .ref a_t_machine_depths])), (a_t_machine_values, .inl (ca 0, 41, .inl f_t_machine_values))] sz) := by
  refine vx_ofW (cc := cX8_firstWrong) (maxL := 4) (ret := (some .int)) (by decide) rfl ?_
  intro p e s m args below meth c s₁ B hml htab hv
  obtain ⟨rfl, ⟨hsz, hP, hK, hD0⟩, hX⟩ := hv
  have hx := B.exec
  have hb := B.bytes
  have hr := B.returns
  have hts := atoms_spec (ws := (Cond.code yX8_firstWrong cX8_firstWrong 4 (some .int) :: wsG)) B.pre
  have hq : ∀ w ∈ wsG, w.before _ s = true := fun w hw => hts w (List.mem_cons_of_mem _ hw)
  have hown : s.vm.findClass RX8 = some m.cls := findClass_of_methodNamed B.named
  have hlocks := B.notSynchronized
  subst hsz
  have hD := hD0.self (sz := s.heap.size)
  generalize hAe : va_A [(a_t, .inr (6, [.ref a_t_generator, .ref a_t_program, .ref a_t_costs, .ref a_t_history, .ref a_t_machine, .ref a_t_tidier, .ref a_t_listing])), (a_t_program, .inr (4, [.int t_program_width, .int t_program_length, .int t_program_result, .int t_program_taskKind, .int t_program_taskDivisor, .ref a_t_program_operations, .ref a_t_program_firsts, .ref a_t_program_seconds])), (a_t_program_operations, .inl (ca 0, 40, .inl f_t_program_operations)), (a_t_program_firsts, .inl (ca 0, 40, .inl f_t_program_firsts)), (a_t_program_seconds, .inl (ca 0, 40, .inl f_t_program_seconds)), (a_t_machine, .inr (3, [.ref a_t_machine_values, .ref a_t_machine_depths])), (a_t_machine_values, .inl (ca 0, 41, .inl f_t_machine_values))] s.heap.size = A at hD hX ⊢
  have hA : ∀ q : Nat, s.heap.size ≤ q → A q := fun q h => by rw [← hAe]; exact Or.inr h
  have hS : va_S A s.heap s.heap [] := va_S.rf
  have hP : va_P D vwCl [(a_t, .inr (6, [.ref a_t_generator, .ref a_t_program, .ref a_t_costs, .ref a_t_history, .ref a_t_machine, .ref a_t_tidier, .ref a_t_listing])), (a_t_program, .inr (4, [.int t_program_width, .int t_program_length, .int t_program_result, .int t_program_taskKind, .int t_program_taskDivisor, .ref a_t_program_operations, .ref a_t_program_firsts, .ref a_t_program_seconds])), (a_t_program_operations, .inl (ca 0, 40, .inl f_t_program_operations)), (a_t_program_firsts, .inl (ca 0, 40, .inl f_t_program_firsts)), (a_t_program_seconds, .inl (ca 0, 40, .inl f_t_program_seconds)), (a_t_machine, .inr (3, [.ref a_t_machine_values, .ref a_t_machine_depths])), (a_t_machine_values, .inl (ca 0, 41, .inl f_t_machine_values))] s.heap := hP
  have hl := lv_entry ([.ref a_t, .int x1]) (n := 4) (Nat.le_of_ble_eq_true rfl)
  rw [lg_entry_eq]
  generalize (lg_sl ([.ref a_t, .int x1]) ++ List.replicate (4 - (lg_sl ([.ref a_t, .int x1])).length) Slot.unset).toArray = ls at hl ⊢
  have hl : lv_has ls 4 [(0, .ref a_t), (1, .int x1)] := hl
  unfold wX8_firstWrong at h
  refine lv_iload_n hx hb dX8_firstWrong_0 rfl (lv_at hl 1 rfl) ?_
  refine lv_iconst (v := 0) hx hb dX8_firstWrong_1 (by decide) ?_
  refine lv_aload_n hx hb dX8_firstWrong_2 rfl (lv_at hl 0 rfl) ?_
  refine cVi (As := []) (rest := [.int 0, .int x1]) (wc := [(a_t, .inr (6, [.ref a_t_generator, .ref a_t_program, .ref a_t_costs, .ref a_t_history, .ref a_t_machine, .ref a_t_tidier, .ref a_t_listing])), (a_t_program, .inr (4, [.int t_program_width, .int t_program_length, .int t_program_result, .int t_program_taskKind, .int t_program_taskDivisor, .ref a_t_program_operations, .ref a_t_program_firsts, .ref a_t_program_seconds]))]) (wr := [(a_t_program_operations, .inl (ca 0, 40, .inl f_t_program_operations)), (a_t_program_firsts, .inl (ca 0, 40, .inl f_t_program_firsts)), (a_t_program_seconds, .inl (ca 0, 40, .inl f_t_program_seconds)), (a_t_machine, .inr (3, [.ref a_t_machine_values, .ref a_t_machine_depths])), (a_t_machine_values, .inl (ca 0, 41, .inl f_t_machine_values))]) (w1 := fun _ : Unit => [(a_t, .inr (6, [.ref a_t_generator, .ref a_t_program, .ref a_t_costs, .ref a_t_history, .ref a_t_machine, .ref a_t_tidier, .ref a_t_listing])), (a_t_program, .inr (4, [.int t_program_width, .int t_program_length, .int t_program_result, .int t_program_taskKind, .int t_program_taskDivisor, .ref a_t_program_operations, .ref a_t_program_firsts, .ref a_t_program_seconds]))]) (ws2 := fun _ : Unit => [(a_t, .inr (6, [.ref a_t_generator, .ref a_t_program, .ref a_t_costs, .ref a_t_history, .ref a_t_machine, .ref a_t_tidier, .ref a_t_listing])), (a_t_program, .inr (4, [.int t_program_width, .int t_program_length, .int t_program_result, .int t_program_taskKind, .int t_program_taskDivisor, .ref a_t_program_operations, .ref a_t_program_firsts, .ref a_t_program_seconds])), (a_t_program_operations, .inl (ca 0, 40, .inl f_t_program_operations)), (a_t_program_firsts, .inl (ca 0, 40, .inl f_t_program_firsts)), (a_t_program_seconds, .inl (ca 0, 40, .inl f_t_program_seconds)), (a_t_machine, .inr (3, [.ref a_t_machine_values, .ref a_t_machine_depths])), (a_t_machine_values, .inl (ca 0, 41, .inl f_t_machine_values))]) ⟨hx, hb, hml, hown, hts⟩ (mX8_greatestValue l D ca a_t a_t_generator a_t_program a_t_costs a_t_history a_t_machine a_t_tidier a_t_listing a_t_program_operations a_t_program_firsts a_t_program_seconds _ t_program_width t_program_length t_program_result t_program_taskKind t_program_taskDivisor _ h) (cwV 0 hts (gV q_388 q_390 qs_5 q_1 q_391) rfl rfl rfl (by decide +kernel) ⟨Nat.le_of_ble_eq_true rfl, Nat.le_of_ble_eq_true rfl⟩) hK hP hD hS hA [0, 1] [2, 3, 4, 5, 6] [5, 6, 0, 1, 2, 3, 4] rfl rfl rfl (by decide) (fun _ => rfl) (ci := 6) (q0 := 0) rfl rfl rfl hl.1 rfl (Nat.le_of_ble_eq_true rfl) dX8_firstWrong_3 ⟨Nat.le_of_ble_eq_true rfl, Nat.le_of_ble_eq_true rfl⟩ (fun r_3 u9 H locs h hP hD hS => ?_)
  try dsimp only at h
  refine xPv (As := [.int x1, .int 0, .int r_3]) (rest := []) ⟨hx, hb, hml, hown, hts⟩ (mX8_requireFromTo l hl0 x1 0 r_3 _ _ h) (va_cwS 3 hts (gS q_392 q_393 q_1 q_394) rfl rfl rfl (by decide +kernel) ⟨Nat.le_of_ble_eq_true rfl, Nat.le_of_ble_eq_true rfl⟩) hX hS rfl hl.1 rfl (Nat.le_of_ble_eq_true rfl) dX8_firstWrong_6 ⟨Nat.le_of_ble_eq_true rfl, Nat.le_of_ble_eq_true rfl⟩ (fun E ce q9 H1 locs hE hk1 hS h1 h2 h3 => x_out htab hlocks hK (s_back hP hk1) hD hS hE h1 h2 h3 (Nat.le_of_ble_eq_true rfl) (Nat.le_of_ble_eq_true rfl)) (fun H1 locs h hk1 hS => ?_)
  have hP := s_back hP hk1
  try dsimp only at h
  refine lv_aload_n hx hb dX8_firstWrong_9 rfl (lv_at hl 0 rfl) ?_
  refine xVv (As := []) (rest := []) (wc := [(a_t, .inr (6, [.ref a_t_generator, .ref a_t_program, .ref a_t_costs, .ref a_t_history, .ref a_t_machine, .ref a_t_tidier, .ref a_t_listing])), (a_t_program, .inr (4, [.int t_program_width, .int t_program_length, .int t_program_result, .int t_program_taskKind, .int t_program_taskDivisor, .ref a_t_program_operations, .ref a_t_program_firsts, .ref a_t_program_seconds]))]) (wr := [(a_t_program_operations, .inl (ca 0, 40, .inl f_t_program_operations)), (a_t_program_firsts, .inl (ca 0, 40, .inl f_t_program_firsts)), (a_t_program_seconds, .inl (ca 0, 40, .inl f_t_program_seconds)), (a_t_machine, .inr (3, [.ref a_t_machine_values, .ref a_t_machine_depths])), (a_t_machine_values, .inl (ca 0, 41, .inl f_t_machine_values))]) (w1 := fun _ : Unit => [(a_t, .inr (6, [.ref a_t_generator, .ref a_t_program, .ref a_t_costs, .ref a_t_history, .ref a_t_machine, .ref a_t_tidier, .ref a_t_listing])), (a_t_program, .inr (4, [.int t_program_width, .int t_program_length, .int t_program_result, .int t_program_taskKind, .int t_program_taskDivisor, .ref a_t_program_operations, .ref a_t_program_firsts, .ref a_t_program_seconds]))]) (ws2 := fun _ : Unit => [(a_t, .inr (6, [.ref a_t_generator, .ref a_t_program, .ref a_t_costs, .ref a_t_history, .ref a_t_machine, .ref a_t_tidier, .ref a_t_listing])), (a_t_program, .inr (4, [.int t_program_width, .int t_program_length, .int t_program_result, .int t_program_taskKind, .int t_program_taskDivisor, .ref a_t_program_operations, .ref a_t_program_firsts, .ref a_t_program_seconds])), (a_t_program_operations, .inl (ca 0, 40, .inl f_t_program_operations)), (a_t_program_firsts, .inl (ca 0, 40, .inl f_t_program_firsts)), (a_t_program_seconds, .inl (ca 0, 40, .inl f_t_program_seconds)), (a_t_machine, .inr (3, [.ref a_t_machine_values, .ref a_t_machine_depths])), (a_t_machine_values, .inl (ca 0, 41, .inl f_t_machine_values))]) ⟨hx, hb, hml, hown, hts⟩ (mX8_requireSomeTask l hl0 D ca a_t a_t_generator a_t_program a_t_costs a_t_history a_t_machine a_t_tidier a_t_listing a_t_program_operations a_t_program_firsts a_t_program_seconds _ t_program_width t_program_length t_program_result t_program_taskKind t_program_taskDivisor _ _ h) (cwV 0 hts (gV q_780 q_782 qs_30 q_1 q_783) rfl rfl rfl (by decide +kernel) ⟨Nat.le_of_ble_eq_true rfl, Nat.le_of_ble_eq_true rfl⟩) hX hK hP hD hS hA [0, 1] [2, 3, 4, 5, 6] [5, 6, 0, 1, 2, 3, 4] rfl rfl rfl (by decide) (fun _ => rfl) rfl (ci := 6) (q0 := 0) rfl rfl rfl hl.1 rfl (Nat.le_of_ble_eq_true rfl) dX8_firstWrong_10 ⟨Nat.le_of_ble_eq_true rfl, Nat.le_of_ble_eq_true rfl⟩ (fun E ce q9 H1 locs hE hP hS h1 h2 h3 => x_out htab hlocks hK hP hD hS hE h1 h2 h3 (Nat.le_of_ble_eq_true rfl) (Nat.le_of_ble_eq_true rfl)) (fun u9 H locs h hP hD hS => ?_)
  try dsimp only at h
  refine lv_aload_n hx hb dX8_firstWrong_13 rfl (lv_at hl 0 rfl) ?_
  refine cVi (As := []) (rest := []) (wc := [(a_t, .inr (6, [.ref a_t_generator, .ref a_t_program, .ref a_t_costs, .ref a_t_history, .ref a_t_machine, .ref a_t_tidier, .ref a_t_listing])), (a_t_program, .inr (4, [.int t_program_width, .int t_program_length, .int t_program_result, .int t_program_taskKind, .int t_program_taskDivisor, .ref a_t_program_operations, .ref a_t_program_firsts, .ref a_t_program_seconds]))]) (wr := [(a_t_program_operations, .inl (ca 0, 40, .inl f_t_program_operations)), (a_t_program_firsts, .inl (ca 0, 40, .inl f_t_program_firsts)), (a_t_program_seconds, .inl (ca 0, 40, .inl f_t_program_seconds)), (a_t_machine, .inr (3, [.ref a_t_machine_values, .ref a_t_machine_depths])), (a_t_machine_values, .inl (ca 0, 41, .inl f_t_machine_values))]) (w1 := fun _ : Unit => [(a_t, .inr (6, [.ref a_t_generator, .ref a_t_program, .ref a_t_costs, .ref a_t_history, .ref a_t_machine, .ref a_t_tidier, .ref a_t_listing])), (a_t_program, .inr (4, [.int t_program_width, .int t_program_length, .int t_program_result, .int t_program_taskKind, .int t_program_taskDivisor, .ref a_t_program_operations, .ref a_t_program_firsts, .ref a_t_program_seconds]))]) (ws2 := fun _ : Unit => [(a_t, .inr (6, [.ref a_t_generator, .ref a_t_program, .ref a_t_costs, .ref a_t_history, .ref a_t_machine, .ref a_t_tidier, .ref a_t_listing])), (a_t_program, .inr (4, [.int t_program_width, .int t_program_length, .int t_program_result, .int t_program_taskKind, .int t_program_taskDivisor, .ref a_t_program_operations, .ref a_t_program_firsts, .ref a_t_program_seconds])), (a_t_program_operations, .inl (ca 0, 40, .inl f_t_program_operations)), (a_t_program_firsts, .inl (ca 0, 40, .inl f_t_program_firsts)), (a_t_program_seconds, .inl (ca 0, 40, .inl f_t_program_seconds)), (a_t_machine, .inr (3, [.ref a_t_machine_values, .ref a_t_machine_depths])), (a_t_machine_values, .inl (ca 0, 41, .inl f_t_machine_values))]) ⟨hx, hb, hml, hown, hts⟩ (mX8_greatestValue l D ca a_t a_t_generator a_t_program a_t_costs a_t_history a_t_machine a_t_tidier a_t_listing a_t_program_operations a_t_program_firsts a_t_program_seconds _ t_program_width t_program_length t_program_result t_program_taskKind t_program_taskDivisor _ h) (cwV 0 hts (gV q_388 q_390 qs_5 q_1 q_391) rfl rfl rfl (by decide +kernel) ⟨Nat.le_of_ble_eq_true rfl, Nat.le_of_ble_eq_true rfl⟩) hK hP hD hS hA [0, 1] [2, 3, 4, 5, 6] [5, 6, 0, 1, 2, 3, 4] rfl rfl rfl (by decide) (fun _ => rfl) (ci := 6) (q0 := 0) rfl rfl rfl hl.1 rfl (Nat.le_of_ble_eq_true rfl) dX8_firstWrong_14 ⟨Nat.le_of_ble_eq_true rfl, Nat.le_of_ble_eq_true rfl⟩ (fun r_14 u9 H locs h hP hD hS => ?_)
  try dsimp only at h
  refine lv_istore_n (lv' := [(2, .int r_14), (0, .ref a_t), (1, .int x1)]) hx hb dX8_firstWrong_17 rfl hl (by decide) rfl (fun ls hl => ?_)
  refine lv_iload_n hx hb dX8_firstWrong_18 rfl (lv_at hl 2 rfl) ?_
  refine lv_istore_n (lv' := [(3, .int x1), (2, .int r_14), (0, .ref a_t), (1, .int x1)]) hx hb dX8_firstWrong_19 rfl hl (by decide) rfl (fun ls hl => ?_)
  have hL20 : ∀ (n9_20 : Nat) (x3_20 : Int32) (f_t_machine_values_20 : Nat → Int32) (H : Heap) (locs : List Loc) (ls : Array Slot), va_P D vwCl [(a_t, .inr (6, [.ref a_t_generator, .ref a_t_program, .ref a_t_costs, .ref a_t_history, .ref a_t_machine, .ref a_t_tidier, .ref a_t_listing])), (a_t_program, .inr (4, [.int t_program_width, .int t_program_length, .int t_program_result, .int t_program_taskKind, .int t_program_taskDivisor, .ref a_t_program_operations, .ref a_t_program_firsts, .ref a_t_program_seconds])), (a_t_program_operations, .inl (ca 0, 40, .inl f_t_program_operations)), (a_t_program_firsts, .inl (ca 0, 40, .inl f_t_program_firsts)), (a_t_program_seconds, .inl (ca 0, 40, .inl f_t_program_seconds)), (a_t_machine, .inr (3, [.ref a_t_machine_values, .ref a_t_machine_depths])), (a_t_machine_values, .inl (ca 0, 41, .inl f_t_machine_values_20))] H → va_D A [(a_t, .inr (6, [.ref a_t_generator, .ref a_t_program, .ref a_t_costs, .ref a_t_history, .ref a_t_machine, .ref a_t_tidier, .ref a_t_listing])), (a_t_program, .inr (4, [.int t_program_width, .int t_program_length, .int t_program_result, .int t_program_taskKind, .int t_program_taskDivisor, .ref a_t_program_operations, .ref a_t_program_firsts, .ref a_t_program_seconds])), (a_t_program_operations, .inl (ca 0, 40, .inl f_t_program_operations)), (a_t_program_firsts, .inl (ca 0, 40, .inl f_t_program_firsts)), (a_t_program_seconds, .inl (ca 0, 40, .inl f_t_program_seconds)), (a_t_machine, .inr (3, [.ref a_t_machine_values, .ref a_t_machine_depths])), (a_t_machine_values, .inl (ca 0, 41, .inl f_t_machine_values_20))] → va_S A s.heap H locs → lv_has ls 4 [(0, .ref a_t), (2, .int r_14), (3, .int x3_20)] → wX8_firstWrong_20 t_program_width t_program_result t_program_taskKind t_program_taskDivisor f_t_program_operations f_t_program_firsts f_t_program_seconds Q r_14 n9_20 x3_20 f_t_machine_values_20 → W p l e (headSpec (Cond.code yX8_firstWrong cX8_firstWrong 4 (some .int) :: wsG) ({ frames := 7, cells := 2, slots := 12, locals := 112 } : Room)).room s m ([.ref a_t, .int x1] : List Value).toArray below meth c H locs 2 12 (vx_MQ below (qX8_firstWrong D ca a_t a_t_generator a_t_program a_t_costs a_t_history a_t_machine a_t_tidier a_t_listing a_t_program_operations a_t_program_firsts a_t_program_seconds a_t_machine_values a_t_machine_depths t_program_width t_program_length t_program_result t_program_taskKind t_program_taskDivisor f_t_program_operations f_t_program_firsts f_t_program_seconds Q A) (xEnd D ca [(a_t, .inr (6, [.ref a_t_generator, .ref a_t_program, .ref a_t_costs, .ref a_t_history, .ref a_t_machine, .ref a_t_tidier, .ref a_t_listing])), (a_t_program, .inr (4, [.int t_program_width, .int t_program_length, .int t_program_result, .int t_program_taskKind, .int t_program_taskDivisor, .ref a_t_program_operations, .ref a_t_program_firsts, .ref a_t_program_seconds])), (a_t_program_operations, .inl (ca 0, 40, .inl f_t_program_operations)), (a_t_program_firsts, .inl (ca 0, 40, .inl f_t_program_firsts)), (a_t_program_seconds, .inl (ca 0, 40, .inl f_t_program_seconds)), (a_t_machine, .inr (3, [.ref a_t_machine_values, .ref a_t_machine_depths])), (a_t_machine_values, .inl (ca 0, 41, .inl f_t_machine_values))] QX A) ([.ref a_t, .int x1] : List Value).toArray s 2 12 A) (F0 m 20 ls []) := by
    intro n9_20
    induction n9_20 with
    | zero =>
      intro x3_20 f_t_machine_values_20 H locs ls hP hD hS hl h
      exact False.elim h
    | succ n9_20 ih20 =>
      intro x3_20 f_t_machine_values_20 H locs ls hP hD hS hl h
      unfold wX8_firstWrong_20 at h
      refine lv_iload_n hx hb dX8_firstWrong_20 rfl (lv_at hl 2 rfl) ?_
      refine lv_iload_n hx hb dX8_firstWrong_21 rfl (lv_at hl 1 rfl) ?_
      refine lv_icmp_gt (tgt := 41) hx hb dX8_firstWrong_22 (by decide) (fun c9 => ?_) (fun c9 => ?_)
      · have h := h.1 c9
        refine lv_iconst (v := (-1)) hx hb dX8_firstWrong_41 (by decide) ?_
        refine W.widen (k := 2) (n := 12) (Nat.le_of_ble_eq_true rfl) (Nat.le_of_ble_eq_true rfl) ?_
        refine vx_ret ?_
        exact W.iret (v := (-1)) hx hb hr (fun t ht hW => ⟨⟨(-1), f_t_machine_values_20, rfl, h, by rw [ht]; exact hP, va_K.moved hW.alike hK, hD⟩, hS.F ht⟩) hS.2.2 dX8_firstWrong_42
      · have h := h.2 c9
        refine lv_aload_n hx hb dX8_firstWrong_25 rfl (lv_at hl 0 rfl) ?_
        refine lv_iload_n hx hb dX8_firstWrong_26 rfl (lv_at hl 2 rfl) ?_
        refine cVi (As := [.int x3_20]) (rest := []) (wc := [(a_t, .inr (6, [.ref a_t_generator, .ref a_t_program, .ref a_t_costs, .ref a_t_history, .ref a_t_machine, .ref a_t_tidier, .ref a_t_listing])), (a_t_program, .inr (4, [.int t_program_width, .int t_program_length, .int t_program_result, .int t_program_taskKind, .int t_program_taskDivisor, .ref a_t_program_operations, .ref a_t_program_firsts, .ref a_t_program_seconds])), (a_t_program_operations, .inl (ca 0, 40, .inl f_t_program_operations)), (a_t_program_firsts, .inl (ca 0, 40, .inl f_t_program_firsts)), (a_t_program_seconds, .inl (ca 0, 40, .inl f_t_program_seconds)), (a_t_machine, .inr (3, [.ref a_t_machine_values, .ref a_t_machine_depths])), (a_t_machine_values, .inl (ca 0, 41, .inl f_t_machine_values_20))]) (wr := []) (w1 := fun u : (Nat → Int32) => [(a_t, .inr (6, [.ref a_t_generator, .ref a_t_program, .ref a_t_costs, .ref a_t_history, .ref a_t_machine, .ref a_t_tidier, .ref a_t_listing])), (a_t_program, .inr (4, [.int t_program_width, .int t_program_length, .int t_program_result, .int t_program_taskKind, .int t_program_taskDivisor, .ref a_t_program_operations, .ref a_t_program_firsts, .ref a_t_program_seconds])), (a_t_program_operations, .inl (ca 0, 40, .inl f_t_program_operations)), (a_t_program_firsts, .inl (ca 0, 40, .inl f_t_program_firsts)), (a_t_program_seconds, .inl (ca 0, 40, .inl f_t_program_seconds)), (a_t_machine, .inr (3, [.ref a_t_machine_values, .ref a_t_machine_depths])), (a_t_machine_values, .inl (ca 0, 41, .inl u))]) (ws2 := fun u : (Nat → Int32) => [(a_t, .inr (6, [.ref a_t_generator, .ref a_t_program, .ref a_t_costs, .ref a_t_history, .ref a_t_machine, .ref a_t_tidier, .ref a_t_listing])), (a_t_program, .inr (4, [.int t_program_width, .int t_program_length, .int t_program_result, .int t_program_taskKind, .int t_program_taskDivisor, .ref a_t_program_operations, .ref a_t_program_firsts, .ref a_t_program_seconds])), (a_t_program_operations, .inl (ca 0, 40, .inl f_t_program_operations)), (a_t_program_firsts, .inl (ca 0, 40, .inl f_t_program_firsts)), (a_t_program_seconds, .inl (ca 0, 40, .inl f_t_program_seconds)), (a_t_machine, .inr (3, [.ref a_t_machine_values, .ref a_t_machine_depths])), (a_t_machine_values, .inl (ca 0, 41, .inl u))]) ⟨hx, hb, hml, hown, hts⟩ (mX8_isRight l D ca a_t a_t_generator a_t_program a_t_costs a_t_history a_t_machine a_t_tidier a_t_listing a_t_program_operations a_t_program_firsts a_t_program_seconds a_t_machine_values a_t_machine_depths _ t_program_width t_program_length t_program_result t_program_taskKind t_program_taskDivisor f_t_program_operations f_t_program_firsts f_t_program_seconds f_t_machine_values_20 x3_20 _ h) (cwV 1 hts (gV q_800 q_802 qs_32 q_1 q_803) rfl rfl rfl (by decide +kernel) ⟨Nat.le_of_ble_eq_true rfl, Nat.le_of_ble_eq_true rfl⟩) hK hP hD hS hA [0, 1, 2, 3, 4, 5, 6] [] [0, 1, 2, 3, 4, 5, 6] rfl rfl rfl (by decide) (fun _ => rfl) (ci := 6) (q0 := 0) rfl rfl rfl hl.1 rfl (Nat.le_of_ble_eq_true rfl) dX8_firstWrong_27 ⟨Nat.le_of_ble_eq_true rfl, Nat.le_of_ble_eq_true rfl⟩ (fun r_27 u9 H locs h hP hD hS => ?_)
        obtain ⟨f_t_machine_values_27, rfl⟩ : ∃ z, z = u9 := ⟨_, rfl⟩
        have hP : va_P D vwCl [(a_t, .inr (6, [.ref a_t_generator, .ref a_t_program, .ref a_t_costs, .ref a_t_history, .ref a_t_machine, .ref a_t_tidier, .ref a_t_listing])), (a_t_program, .inr (4, [.int t_program_width, .int t_program_length, .int t_program_result, .int t_program_taskKind, .int t_program_taskDivisor, .ref a_t_program_operations, .ref a_t_program_firsts, .ref a_t_program_seconds])), (a_t_program_operations, .inl (ca 0, 40, .inl f_t_program_operations)), (a_t_program_firsts, .inl (ca 0, 40, .inl f_t_program_firsts)), (a_t_program_seconds, .inl (ca 0, 40, .inl f_t_program_seconds)), (a_t_machine, .inr (3, [.ref a_t_machine_values, .ref a_t_machine_depths])), (a_t_machine_values, .inl (ca 0, 41, .inl f_t_machine_values_27))] H := hP
        have hD : va_D A [(a_t, .inr (6, [.ref a_t_generator, .ref a_t_program, .ref a_t_costs, .ref a_t_history, .ref a_t_machine, .ref a_t_tidier, .ref a_t_listing])), (a_t_program, .inr (4, [.int t_program_width, .int t_program_length, .int t_program_result, .int t_program_taskKind, .int t_program_taskDivisor, .ref a_t_program_operations, .ref a_t_program_firsts, .ref a_t_program_seconds])), (a_t_program_operations, .inl (ca 0, 40, .inl f_t_program_operations)), (a_t_program_firsts, .inl (ca 0, 40, .inl f_t_program_firsts)), (a_t_program_seconds, .inl (ca 0, 40, .inl f_t_program_seconds)), (a_t_machine, .inr (3, [.ref a_t_machine_values, .ref a_t_machine_depths])), (a_t_machine_values, .inl (ca 0, 41, .inl f_t_machine_values_27))] := hD
        try dsimp only at h
        refine lv_if_ne (tgt := 35) hx hb dX8_firstWrong_30 (by decide) (fun c9 => ?_) (fun c9 => ?_)
        · have h := h.2 c9
          obtain ⟨x3_35, ex3_35⟩ : ∃ y : Int32, y = x3_20 + 1 := ⟨_, rfl⟩
          have h := h x3_35 ex3_35
          refine lv_iinc (v := x3_35) (lv' := [(3, .int x3_35), (0, .ref a_t), (2, .int r_14)]) hx hb dX8_firstWrong_35 hl (k := 2) rfl (by rw [ex3_35]; rfl) (by decide) rfl (fun ls hl => ?_)
          refine lv_goto (tgt := 20) hx hb dX8_firstWrong_38 (by decide) ?_
          exact ih20 x3_35 f_t_machine_values_27 _ _ _ hP hD hS (lv_sub hl [1, 2, 0] rfl) h
        · have h := h.1 c9
          refine lv_iload_n hx hb dX8_firstWrong_33 rfl (lv_at hl 2 rfl) ?_
          refine W.widen (k := 2) (n := 12) (Nat.le_of_ble_eq_true rfl) (Nat.le_of_ble_eq_true rfl) ?_
          refine vx_ret ?_
          exact W.iret (v := x3_20) hx hb hr (fun t ht hW => ⟨⟨x3_20, f_t_machine_values_27, rfl, h, by rw [ht]; exact hP, va_K.moved hW.alike hK, hD⟩, hS.F ht⟩) hS.2.2 dX8_firstWrong_34
  obtain ⟨k9, h⟩ := h
  exact hL20 k9 x1 f_t_machine_values _ _ _ hP hD hS (lv_sub hl [2, 1, 0] rfl) h

abbrev qX8_wrong (D : va_G) (ca : Nat → ClassId) (a_t a_t_generator a_t_program a_t_costs a_t_history a_t_machine a_t_tidier a_t_listing a_t_program_operations a_t_program_firsts a_t_program_seconds a_t_machine_values a_t_machine_depths : Nat) (t_program_width : Int32) (t_program_length : Int32) (t_program_result : Int32) (t_program_taskKind : Int32) (t_program_taskDivisor : Int32) (f_t_program_operations : Nat → Int32) (f_t_program_firsts : Nat → Int32) (f_t_program_seconds : Nat → Int32) (Q : Int32 → (Nat → Int32) → Prop) (A : Nat → Prop) : Array Value → State → Outcome → State → Prop := va_Qi (fun (r : Int32) (u : (Nat → Int32)) => Q r u) (wEnd D ca (fun u : (Nat → Int32) => [(a_t, .inr (6, [.ref a_t_generator, .ref a_t_program, .ref a_t_costs, .ref a_t_history, .ref a_t_machine, .ref a_t_tidier, .ref a_t_listing])), (a_t_program, .inr (4, [.int t_program_width, .int t_program_length, .int t_program_result, .int t_program_taskKind, .int t_program_taskDivisor, .ref a_t_program_operations, .ref a_t_program_firsts, .ref a_t_program_seconds])), (a_t_program_operations, .inl (ca 0, 40, .inl f_t_program_operations)), (a_t_program_firsts, .inl (ca 0, 40, .inl f_t_program_firsts)), (a_t_program_seconds, .inl (ca 0, 40, .inl f_t_program_seconds)), (a_t_machine, .inr (3, [.ref a_t_machine_values, .ref a_t_machine_depths])), (a_t_machine_values, .inl (ca 0, 41, .inl u))]) A) A
def wX8_wrong_29 (x3_13 : Int32) (K13 : Int32 → Int32 → (Nat → Int32) → Prop) (f_t_machine_values_20 : Nat → Int32) (x2_29 : Int32) : Prop :=
  (∀ x3_29 : Int32, x3_29 = x3_13 + 1 → K13 x2_29 x3_29 f_t_machine_values_20)
def wX8_wrong_13 (t_program_width : Int32) (t_program_result : Int32) (t_program_taskKind : Int32) (t_program_taskDivisor : Int32) (f_t_program_operations : Nat → Int32) (f_t_program_firsts : Nat → Int32) (f_t_program_seconds : Nat → Int32) (Q : Int32 → (Nat → Int32) → Prop) (r_5 : Int32) : Nat → Int32 → Int32 → (Nat → Int32) → Prop
  | 0, _, _, _ => False
  | n9 + 1, x2_13, x3_13, f_t_machine_values_13 =>
  ((r_5 < x3_13 → Q x2_13 f_t_machine_values_13) ∧ (¬ r_5 < x3_13 → wX8_isRight t_program_width t_program_result t_program_taskKind t_program_taskDivisor f_t_program_operations f_t_program_firsts f_t_program_seconds f_t_machine_values_13 x3_13 (fun r_20 f_t_machine_values_20 => ((r_20 = 0 → (∀ x2_26 : Int32, x2_26 = x2_13 + 1 → wX8_wrong_29 x3_13 (wX8_wrong_13 t_program_width t_program_result t_program_taskKind t_program_taskDivisor f_t_program_operations f_t_program_firsts f_t_program_seconds Q r_5 n9) f_t_machine_values_20 x2_26)) ∧ (¬ r_20 = 0 → wX8_wrong_29 x3_13 (wX8_wrong_13 t_program_width t_program_result t_program_taskKind t_program_taskDivisor f_t_program_operations f_t_program_firsts f_t_program_seconds Q r_5 n9) f_t_machine_values_20 x2_13)))))
def wX8_wrong (t_program_width : Int32) (t_program_result : Int32) (t_program_taskKind : Int32) (t_program_taskDivisor : Int32) (f_t_program_operations : Nat → Int32) (f_t_program_firsts : Nat → Int32) (f_t_program_seconds : Nat → Int32) (f_t_machine_values : Nat → Int32) (Q : Int32 → (Nat → Int32) → Prop) (QX : String → Prop) : Prop :=
  wX8_requireSomeTask t_program_taskKind (wX8_greatestValue t_program_width (fun r_5 => (∃ k9, wX8_wrong_13 t_program_width t_program_result t_program_taskKind t_program_taskDivisor f_t_program_operations f_t_program_firsts f_t_program_seconds Q r_5 k9 0 0 f_t_machine_values))) QX
set_option maxHeartbeats 4000000 in
set_option maxRecDepth 100000 in
theorem mX8_wrong (l : Launch) (hl0 : l.stackTraces = false) (D : va_G) (ca : Nat → ClassId) (a_t a_t_generator a_t_program a_t_costs a_t_history a_t_machine a_t_tidier a_t_listing a_t_program_operations a_t_program_firsts a_t_program_seconds a_t_machine_values a_t_machine_depths : Nat) (sz : Nat) (t_program_width : Int32) (t_program_length : Int32) (t_program_result : Int32) (t_program_taskKind : Int32) (t_program_taskDivisor : Int32) (f_t_program_operations : Nat → Int32) (f_t_program_firsts : Nat → Int32) (f_t_program_seconds : Nat → Int32) (f_t_machine_values : Nat → Int32) (Q : Int32 → (Nat → Int32) → Prop) (QX : String → Prop) (h : wX8_wrong t_program_width t_program_result t_program_taskKind t_program_taskDivisor f_t_program_operations f_t_program_firsts f_t_program_seconds f_t_machine_values Q QX) : vx_Met l yX8_wrong (Cond.code yX8_wrong cX8_wrong 4 (some .int) :: wsG) ({ frames := 7, cells := 1, slots := 6, locals := 110 } : Room) (va_Pc [.ref a_t] (xPre D ca [(a_t, .inr (6, [.ref a_t_generator, .ref a_t_program, .ref a_t_costs, .ref a_t_history, .ref a_t_machine, .ref a_t_tidier, .ref a_t_listing])), (a_t_program, .inr (4, [.int t_program_width, .int t_program_length, .int t_program_result, .int t_program_taskKind, .int t_program_taskDivisor, .ref a_t_program_operations, .ref a_t_program_firsts, .ref a_t_program_seconds])), (a_t_program_operations, .inl (ca 0, 40, .inl f_t_program_operations)), (a_t_program_firsts, .inl (ca 0, 40, .inl f_t_program_firsts)), (a_t_program_seconds, .inl (ca 0, 40, .inl f_t_program_seconds)), (a_t_machine, .inr (3, [.ref a_t_machine_values, .ref a_t_machine_depths])), (a_t_machine_values, .inl (ca 0, 41, .inl f_t_machine_values))] sz)) (qX8_wrong D ca a_t a_t_generator a_t_program a_t_costs a_t_history a_t_machine a_t_tidier a_t_listing a_t_program_operations a_t_program_firsts a_t_program_seconds a_t_machine_values a_t_machine_depths t_program_width t_program_length t_program_result t_program_taskKind t_program_taskDivisor f_t_program_operations f_t_program_firsts f_t_program_seconds Q (va_A [(a_t, .inr (6, [.ref a_t_generator, .ref a_t_program, .ref a_t_costs, .ref a_t_history, .ref a_t_machine, .ref a_t_tidier, .ref a_t_listing])), (a_t_program, .inr (4, [.int t_program_width, .int t_program_length, .int t_program_result, .int t_program_taskKind, .int t_program_taskDivisor, .ref a_t_program_operations, .ref a_t_program_firsts, .ref a_t_program_seconds])), (a_t_program_operations, .inl (ca 0, 40, .inl f_t_program_operations)), (a_t_program_firsts, .inl (ca 0, 40, .inl f_t_program_firsts)), (a_t_program_seconds, .inl (ca 0, 40, .inl f_t_program_seconds)), (a_t_machine, .inr (3, [.ref a_t_machine_values, .ref a_t_machine_depths])), (a_t_machine_values, .inl (ca 0, 41, .inl f_t_machine_values))] sz)) (xEnd D ca [(a_t, .inr (6, [.ref a_t_generator, .ref a_t_program, .ref a_t_costs, .ref a_t_history, .ref a_t_machine, .ref a_t_tidier, .ref a_t_listing])), (a_t_program, .inr (4, [.int t_program_width, .int t_program_length, .int t_program_result, .int t_program_taskKind, .int t_program_taskDivisor, .ref a_t_program_operations, .ref a_t_program_firsts, .ref a_t_program_seconds])), (a_t_program_operations, .inl (ca 0, 40, .inl f_t_program_operations)), (a_t_program_firsts, .inl (ca 0, 40, .inl f_t_program_firsts)), (a_t_program_seconds, .inl (ca 0, 40, .inl f_t_program_seconds)), (a_t_machine, .inr (3, [.ref a_t_machine_values, .ref a_t_machine_depths])), (a_t_machine_values, .inl (ca 0, 41, .inl f_t_machine_values))] QX (va_A [(a_t, .inr (6, [.ref a_t_generator, .ref a_t_program, .ref a_t_costs, .ref a_t_history, .ref a_t_machine, .ref a_t_tidier, .ref a_t_listing])), (a_t_program, .inr (4, [.int t_program_width, .int t_program_length, .int t_program_result, .int t_program_taskKind, .int t_program_taskDivisor, .ref a_t_program_operations, .ref a_t_program_firsts, .ref a_t_program_seconds])), (a_t_program_operations, .inl (ca 0, 40, .inl f_t_program_operations)), (a_t_program_firsts, .inl (ca 0, 40, .inl f_t_program_firsts)), (a_t_program_seconds, .inl (ca 0, 40, .inl f_t_program_seconds)), (a_t_machine, .inr (3, [.ref a_t_machine_values, .ref a_t_machine_depths])), (a_t_machine_values, .inl (ca 0, 41, .inl f_t_machine_values))] sz)) 1 6 (va_A [(a_t, .inr (6, [.ref a_t_generator, .ref a_t_program, .ref a_t_costs, .ref a_t_history, .ref a_t_machine, .ref a_t_tidier, .ref a_t_listing])), (a_t_program, .inr (4, [.int t_program_width, .int t_program_length, .int t_program_result, .int t_program_taskKind, .int t_program_taskDivisor, .ref a_t_program_operations, .ref a_t_program_firsts, .ref a_t_program_seconds])), (a_t_program_operations, .inl (ca 0, 40, .inl f_t_program_operations)), (a_t_program_firsts, .inl (ca 0, 40, .inl f_t_program_firsts)), (a_t_program_seconds, .inl (ca 0, 40, .inl f_t_program_seconds)), (a_t_machine, .inr (3, [.ref a_t_machine_values, .ref a_t_machine_depths])), (a_t_machine_values, .inl (ca 0, 41, .inl f_t_machine_values))] sz) := by
  refine vx_ofW (cc := cX8_wrong) (maxL := 4) (ret := (some .int)) (by decide) rfl ?_
  intro p e s m args below meth c s₁ B hml htab hv
  obtain ⟨rfl, ⟨hsz, hP, hK, hD0⟩, hX⟩ := hv
  have hx := B.exec
  have hb := B.bytes
  have hr := B.returns
  have hts := atoms_spec (ws := (Cond.code yX8_wrong cX8_wrong 4 (some .int) :: wsG)) B.pre
  have hq : ∀ w ∈ wsG, w.before _ s = true := fun w hw => hts w (List.mem_cons_of_mem _ hw)
  have hown : s.vm.findClass RX8 = some m.cls := findClass_of_methodNamed B.named
  have hlocks := B.notSynchronized
  subst hsz
  have hD := hD0.self (sz := s.heap.size)
  generalize hAe : va_A [(a_t, .inr (6, [.ref a_t_generator, .ref a_t_program, .ref a_t_costs, .ref a_t_history, .ref a_t_machine, .ref a_t_tidier, .ref a_t_listing])), (a_t_program, .inr (4, [.int t_program_width, .int t_program_length, .int t_program_result, .int t_program_taskKind, .int t_program_taskDivisor, .ref a_t_program_operations, .ref a_t_program_firsts, .ref a_t_program_seconds])), (a_t_program_operations, .inl (ca 0, 40, .inl f_t_program_operations)), (a_t_program_firsts, .inl (ca 0, 40, .inl f_t_program_firsts)), (a_t_program_seconds, .inl (ca 0, 40, .inl f_t_program_seconds)), (a_t_machine, .inr (3, [.ref a_t_machine_values, .ref a_t_machine_depths])), (a_t_machine_values, .inl (ca 0, 41, .inl f_t_machine_values))] s.heap.size = A at hD hX ⊢
  have hA : ∀ q : Nat, s.heap.size ≤ q → A q := fun q h => by rw [← hAe]; exact Or.inr h
  have hS : va_S A s.heap s.heap [] := va_S.rf
  have hP : va_P D vwCl [(a_t, .inr (6, [.ref a_t_generator, .ref a_t_program, .ref a_t_costs, .ref a_t_history, .ref a_t_machine, .ref a_t_tidier, .ref a_t_listing])), (a_t_program, .inr (4, [.int t_program_width, .int t_program_length, .int t_program_result, .int t_program_taskKind, .int t_program_taskDivisor, .ref a_t_program_operations, .ref a_t_program_firsts, .ref a_t_program_seconds])), (a_t_program_operations, .inl (ca 0, 40, .inl f_t_program_operations)), (a_t_program_firsts, .inl (ca 0, 40, .inl f_t_program_firsts)), (a_t_program_seconds, .inl (ca 0, 40, .inl f_t_program_seconds)), (a_t_machine, .inr (3, [.ref a_t_machine_values, .ref a_t_machine_depths])), (a_t_machine_values, .inl (ca 0, 41, .inl f_t_machine_values))] s.heap := hP
  have hl := lv_entry ([.ref a_t]) (n := 4) (Nat.le_of_ble_eq_true rfl)
  rw [lg_entry_eq]
  generalize (lg_sl ([.ref a_t]) ++ List.replicate (4 - (lg_sl ([.ref a_t])).length) Slot.unset).toArray = ls at hl ⊢
  have hl : lv_has ls 4 [(0, .ref a_t)] := hl
  unfold wX8_wrong at h
  refine lv_aload_n hx hb dX8_wrong_0 rfl (lv_at hl 0 rfl) ?_
  refine xVv (As := []) (rest := []) (wc := [(a_t, .inr (6, [.ref a_t_generator, .ref a_t_program, .ref a_t_costs, .ref a_t_history, .ref a_t_machine, .ref a_t_tidier, .ref a_t_listing])), (a_t_program, .inr (4, [.int t_program_width, .int t_program_length, .int t_program_result, .int t_program_taskKind, .int t_program_taskDivisor, .ref a_t_program_operations, .ref a_t_program_firsts, .ref a_t_program_seconds]))]) (wr := [(a_t_program_operations, .inl (ca 0, 40, .inl f_t_program_operations)), (a_t_program_firsts, .inl (ca 0, 40, .inl f_t_program_firsts)), (a_t_program_seconds, .inl (ca 0, 40, .inl f_t_program_seconds)), (a_t_machine, .inr (3, [.ref a_t_machine_values, .ref a_t_machine_depths])), (a_t_machine_values, .inl (ca 0, 41, .inl f_t_machine_values))]) (w1 := fun _ : Unit => [(a_t, .inr (6, [.ref a_t_generator, .ref a_t_program, .ref a_t_costs, .ref a_t_history, .ref a_t_machine, .ref a_t_tidier, .ref a_t_listing])), (a_t_program, .inr (4, [.int t_program_width, .int t_program_length, .int t_program_result, .int t_program_taskKind, .int t_program_taskDivisor, .ref a_t_program_operations, .ref a_t_program_firsts, .ref a_t_program_seconds]))]) (ws2 := fun _ : Unit => [(a_t, .inr (6, [.ref a_t_generator, .ref a_t_program, .ref a_t_costs, .ref a_t_history, .ref a_t_machine, .ref a_t_tidier, .ref a_t_listing])), (a_t_program, .inr (4, [.int t_program_width, .int t_program_length, .int t_program_result, .int t_program_taskKind, .int t_program_taskDivisor, .ref a_t_program_operations, .ref a_t_program_firsts, .ref a_t_program_seconds])), (a_t_program_operations, .inl (ca 0, 40, .inl f_t_program_operations)), (a_t_program_firsts, .inl (ca 0, 40, .inl f_t_program_firsts)), (a_t_program_seconds, .inl (ca 0, 40, .inl f_t_program_seconds)), (a_t_machine, .inr (3, [.ref a_t_machine_values, .ref a_t_machine_depths])), (a_t_machine_values, .inl (ca 0, 41, .inl f_t_machine_values))]) ⟨hx, hb, hml, hown, hts⟩ (mX8_requireSomeTask l hl0 D ca a_t a_t_generator a_t_program a_t_costs a_t_history a_t_machine a_t_tidier a_t_listing a_t_program_operations a_t_program_firsts a_t_program_seconds _ t_program_width t_program_length t_program_result t_program_taskKind t_program_taskDivisor _ _ h) (cwV 0 hts (gV q_780 q_782 qs_30 q_1 q_783) rfl rfl rfl (by decide +kernel) ⟨Nat.le_of_ble_eq_true rfl, Nat.le_of_ble_eq_true rfl⟩) hX hK hP hD hS hA [0, 1] [2, 3, 4, 5, 6] [5, 6, 0, 1, 2, 3, 4] rfl rfl rfl (by decide) (fun _ => rfl) rfl (ci := 6) (q0 := 0) rfl rfl rfl hl.1 rfl (Nat.le_of_ble_eq_true rfl) dX8_wrong_1 ⟨Nat.le_of_ble_eq_true rfl, Nat.le_of_ble_eq_true rfl⟩ (fun E ce q9 H1 locs hE hP hS h1 h2 h3 => x_out htab hlocks hK hP hD hS hE h1 h2 h3 (Nat.le_of_ble_eq_true rfl) (Nat.le_of_ble_eq_true rfl)) (fun u9 H locs h hP hD hS => ?_)
  try dsimp only at h
  refine lv_aload_n hx hb dX8_wrong_4 rfl (lv_at hl 0 rfl) ?_
  refine cVi (As := []) (rest := []) (wc := [(a_t, .inr (6, [.ref a_t_generator, .ref a_t_program, .ref a_t_costs, .ref a_t_history, .ref a_t_machine, .ref a_t_tidier, .ref a_t_listing])), (a_t_program, .inr (4, [.int t_program_width, .int t_program_length, .int t_program_result, .int t_program_taskKind, .int t_program_taskDivisor, .ref a_t_program_operations, .ref a_t_program_firsts, .ref a_t_program_seconds]))]) (wr := [(a_t_program_operations, .inl (ca 0, 40, .inl f_t_program_operations)), (a_t_program_firsts, .inl (ca 0, 40, .inl f_t_program_firsts)), (a_t_program_seconds, .inl (ca 0, 40, .inl f_t_program_seconds)), (a_t_machine, .inr (3, [.ref a_t_machine_values, .ref a_t_machine_depths])), (a_t_machine_values, .inl (ca 0, 41, .inl f_t_machine_values))]) (w1 := fun _ : Unit => [(a_t, .inr (6, [.ref a_t_generator, .ref a_t_program, .ref a_t_costs, .ref a_t_history, .ref a_t_machine, .ref a_t_tidier, .ref a_t_listing])), (a_t_program, .inr (4, [.int t_program_width, .int t_program_length, .int t_program_result, .int t_program_taskKind, .int t_program_taskDivisor, .ref a_t_program_operations, .ref a_t_program_firsts, .ref a_t_program_seconds]))]) (ws2 := fun _ : Unit => [(a_t, .inr (6, [.ref a_t_generator, .ref a_t_program, .ref a_t_costs, .ref a_t_history, .ref a_t_machine, .ref a_t_tidier, .ref a_t_listing])), (a_t_program, .inr (4, [.int t_program_width, .int t_program_length, .int t_program_result, .int t_program_taskKind, .int t_program_taskDivisor, .ref a_t_program_operations, .ref a_t_program_firsts, .ref a_t_program_seconds])), (a_t_program_operations, .inl (ca 0, 40, .inl f_t_program_operations)), (a_t_program_firsts, .inl (ca 0, 40, .inl f_t_program_firsts)), (a_t_program_seconds, .inl (ca 0, 40, .inl f_t_program_seconds)), (a_t_machine, .inr (3, [.ref a_t_machine_values, .ref a_t_machine_depths])), (a_t_machine_values, .inl (ca 0, 41, .inl f_t_machine_values))]) ⟨hx, hb, hml, hown, hts⟩ (mX8_greatestValue l D ca a_t a_t_generator a_t_program a_t_costs a_t_history a_t_machine a_t_tidier a_t_listing a_t_program_operations a_t_program_firsts a_t_program_seconds _ t_program_width t_program_length t_program_result t_program_taskKind t_program_taskDivisor _ h) (cwV 0 hts (gV q_388 q_390 qs_5 q_1 q_391) rfl rfl rfl (by decide +kernel) ⟨Nat.le_of_ble_eq_true rfl, Nat.le_of_ble_eq_true rfl⟩) hK hP hD hS hA [0, 1] [2, 3, 4, 5, 6] [5, 6, 0, 1, 2, 3, 4] rfl rfl rfl (by decide) (fun _ => rfl) (ci := 6) (q0 := 0) rfl rfl rfl hl.1 rfl (Nat.le_of_ble_eq_true rfl) dX8_wrong_5 ⟨Nat.le_of_ble_eq_true rfl, Nat.le_of_ble_eq_true rfl⟩ (fun r_5 u9 H locs h hP hD hS => ?_)
  try dsimp only at h
  refine lv_istore_n (lv' := [(1, .int r_5), (0, .ref a_t)]) hx hb dX8_wrong_8 rfl hl (by decide) rfl (fun ls hl => ?_)
  refine lv_iconst (v := 0) hx hb dX8_wrong_9 (by decide) ?_
  refine lv_istore_n (lv' := [(2, .int 0), (1, .int r_5), (0, .ref a_t)]) hx hb dX8_wrong_10 rfl hl (by decide) rfl (fun ls hl => ?_)
  refine lv_iconst (v := 0) hx hb dX8_wrong_11 (by decide) ?_
  refine lv_istore_n (lv' := [(3, .int 0), (2, .int 0), (1, .int r_5), (0, .ref a_t)]) hx hb dX8_wrong_12 rfl hl (by decide) rfl (fun ls hl => ?_)
  have hL13 : ∀ (n9_13 : Nat) (x2_13 : Int32) (x3_13 : Int32) (f_t_machine_values_13 : Nat → Int32) (H : Heap) (locs : List Loc) (ls : Array Slot), va_P D vwCl [(a_t, .inr (6, [.ref a_t_generator, .ref a_t_program, .ref a_t_costs, .ref a_t_history, .ref a_t_machine, .ref a_t_tidier, .ref a_t_listing])), (a_t_program, .inr (4, [.int t_program_width, .int t_program_length, .int t_program_result, .int t_program_taskKind, .int t_program_taskDivisor, .ref a_t_program_operations, .ref a_t_program_firsts, .ref a_t_program_seconds])), (a_t_program_operations, .inl (ca 0, 40, .inl f_t_program_operations)), (a_t_program_firsts, .inl (ca 0, 40, .inl f_t_program_firsts)), (a_t_program_seconds, .inl (ca 0, 40, .inl f_t_program_seconds)), (a_t_machine, .inr (3, [.ref a_t_machine_values, .ref a_t_machine_depths])), (a_t_machine_values, .inl (ca 0, 41, .inl f_t_machine_values_13))] H → va_D A [(a_t, .inr (6, [.ref a_t_generator, .ref a_t_program, .ref a_t_costs, .ref a_t_history, .ref a_t_machine, .ref a_t_tidier, .ref a_t_listing])), (a_t_program, .inr (4, [.int t_program_width, .int t_program_length, .int t_program_result, .int t_program_taskKind, .int t_program_taskDivisor, .ref a_t_program_operations, .ref a_t_program_firsts, .ref a_t_program_seconds])), (a_t_program_operations, .inl (ca 0, 40, .inl f_t_program_operations)), (a_t_program_firsts, .inl (ca 0, 40, .inl f_t_program_firsts)), (a_t_program_seconds, .inl (ca 0, 40, .inl f_t_program_seconds)), (a_t_machine, .inr (3, [.ref a_t_machine_values, .ref a_t_machine_depths])), (a_t_machine_values, .inl (ca 0, 41, .inl f_t_machine_values_13))] → va_S A s.heap H locs → lv_has ls 4 [(0, .ref a_t), (1, .int r_5), (2, .int x2_13), (3, .int x3_13)] → wX8_wrong_13 t_program_width t_program_result t_program_taskKind t_program_taskDivisor f_t_program_operations f_t_program_firsts f_t_program_seconds Q r_5 n9_13 x2_13 x3_13 f_t_machine_values_13 → W p l e (headSpec (Cond.code yX8_wrong cX8_wrong 4 (some .int) :: wsG) ({ frames := 7, cells := 1, slots := 6, locals := 110 } : Room)).room s m ([.ref a_t] : List Value).toArray below meth c H locs 1 6 (vx_MQ below (qX8_wrong D ca a_t a_t_generator a_t_program a_t_costs a_t_history a_t_machine a_t_tidier a_t_listing a_t_program_operations a_t_program_firsts a_t_program_seconds a_t_machine_values a_t_machine_depths t_program_width t_program_length t_program_result t_program_taskKind t_program_taskDivisor f_t_program_operations f_t_program_firsts f_t_program_seconds Q A) (xEnd D ca [(a_t, .inr (6, [.ref a_t_generator, .ref a_t_program, .ref a_t_costs, .ref a_t_history, .ref a_t_machine, .ref a_t_tidier, .ref a_t_listing])), (a_t_program, .inr (4, [.int t_program_width, .int t_program_length, .int t_program_result, .int t_program_taskKind, .int t_program_taskDivisor, .ref a_t_program_operations, .ref a_t_program_firsts, .ref a_t_program_seconds])), (a_t_program_operations, .inl (ca 0, 40, .inl f_t_program_operations)), (a_t_program_firsts, .inl (ca 0, 40, .inl f_t_program_firsts)), (a_t_program_seconds, .inl (ca 0, 40, .inl f_t_program_seconds)), (a_t_machine, .inr (3, [.ref a_t_machine_values, .ref a_t_machine_depths])), (a_t_machine_values, .inl (ca 0, 41, .inl f_t_machine_values))] QX A) ([.ref a_t] : List Value).toArray s 1 6 A) (F0 m 13 ls []) := by
    intro n9_13
    induction n9_13 with
    | zero =>
      intro x2_13 x3_13 f_t_machine_values_13 H locs ls hP hD hS hl h
      exact False.elim h
    | succ n9_13 ih13 =>
      intro x2_13 x3_13 f_t_machine_values_13 H locs ls hP hD hS hl h
      unfold wX8_wrong_13 at h
      refine lv_iload_n hx hb dX8_wrong_13 rfl (lv_at hl 3 rfl) ?_
      refine lv_iload_n hx hb dX8_wrong_14 rfl (lv_at hl 1 rfl) ?_
      refine lv_icmp_gt (tgt := 35) hx hb dX8_wrong_15 (by decide) (fun c9 => ?_) (fun c9 => ?_)
      · have h := h.1 c9
        refine lv_iload_n hx hb dX8_wrong_35 rfl (lv_at hl 2 rfl) ?_
        refine W.widen (k := 1) (n := 6) (Nat.le_of_ble_eq_true rfl) (Nat.le_of_ble_eq_true rfl) ?_
        refine vx_ret ?_
        exact W.iret (v := x2_13) hx hb hr (fun t ht hW => ⟨⟨x2_13, f_t_machine_values_13, rfl, h, by rw [ht]; exact hP, va_K.moved hW.alike hK, hD⟩, hS.F ht⟩) hS.2.2 dX8_wrong_36
      · have h := h.2 c9
        refine lv_aload_n hx hb dX8_wrong_18 rfl (lv_at hl 0 rfl) ?_
        refine lv_iload_n hx hb dX8_wrong_19 rfl (lv_at hl 3 rfl) ?_
        refine cVi (As := [.int x3_13]) (rest := []) (wc := [(a_t, .inr (6, [.ref a_t_generator, .ref a_t_program, .ref a_t_costs, .ref a_t_history, .ref a_t_machine, .ref a_t_tidier, .ref a_t_listing])), (a_t_program, .inr (4, [.int t_program_width, .int t_program_length, .int t_program_result, .int t_program_taskKind, .int t_program_taskDivisor, .ref a_t_program_operations, .ref a_t_program_firsts, .ref a_t_program_seconds])), (a_t_program_operations, .inl (ca 0, 40, .inl f_t_program_operations)), (a_t_program_firsts, .inl (ca 0, 40, .inl f_t_program_firsts)), (a_t_program_seconds, .inl (ca 0, 40, .inl f_t_program_seconds)), (a_t_machine, .inr (3, [.ref a_t_machine_values, .ref a_t_machine_depths])), (a_t_machine_values, .inl (ca 0, 41, .inl f_t_machine_values_13))]) (wr := []) (w1 := fun u : (Nat → Int32) => [(a_t, .inr (6, [.ref a_t_generator, .ref a_t_program, .ref a_t_costs, .ref a_t_history, .ref a_t_machine, .ref a_t_tidier, .ref a_t_listing])), (a_t_program, .inr (4, [.int t_program_width, .int t_program_length, .int t_program_result, .int t_program_taskKind, .int t_program_taskDivisor, .ref a_t_program_operations, .ref a_t_program_firsts, .ref a_t_program_seconds])), (a_t_program_operations, .inl (ca 0, 40, .inl f_t_program_operations)), (a_t_program_firsts, .inl (ca 0, 40, .inl f_t_program_firsts)), (a_t_program_seconds, .inl (ca 0, 40, .inl f_t_program_seconds)), (a_t_machine, .inr (3, [.ref a_t_machine_values, .ref a_t_machine_depths])), (a_t_machine_values, .inl (ca 0, 41, .inl u))]) (ws2 := fun u : (Nat → Int32) => [(a_t, .inr (6, [.ref a_t_generator, .ref a_t_program, .ref a_t_costs, .ref a_t_history, .ref a_t_machine, .ref a_t_tidier, .ref a_t_listing])), (a_t_program, .inr (4, [.int t_program_width, .int t_program_length, .int t_program_result, .int t_program_taskKind, .int t_program_taskDivisor, .ref a_t_program_operations, .ref a_t_program_firsts, .ref a_t_program_seconds])), (a_t_program_operations, .inl (ca 0, 40, .inl f_t_program_operations)), (a_t_program_firsts, .inl (ca 0, 40, .inl f_t_program_firsts)), (a_t_program_seconds, .inl (ca 0, 40, .inl f_t_program_seconds)), (a_t_machine, .inr (3, [.ref a_t_machine_values, .ref a_t_machine_depths])), (a_t_machine_values, .inl (ca 0, 41, .inl u))]) ⟨hx, hb, hml, hown, hts⟩ (mX8_isRight l D ca a_t a_t_generator a_t_program a_t_costs a_t_history a_t_machine a_t_tidier a_t_listing a_t_program_operations a_t_program_firsts a_t_program_seconds a_t_machine_values a_t_machine_depths _ t_program_width t_program_length t_program_result t_program_taskKind t_program_taskDivisor f_t_program_operations f_t_program_firsts f_t_program_seconds f_t_machine_values_13 x3_13 _ h) (cwV 1 hts (gV q_800 q_802 qs_32 q_1 q_803) rfl rfl rfl (by decide +kernel) ⟨Nat.le_of_ble_eq_true rfl, Nat.le_of_ble_eq_true rfl⟩) hK hP hD hS hA [0, 1, 2, 3, 4, 5, 6] [] [0, 1, 2, 3, 4, 5, 6] rfl rfl rfl (by decide) (fun _ => rfl) (ci := 6) (q0 := 0) rfl rfl rfl hl.1 rfl (Nat.le_of_ble_eq_true rfl) dX8_wrong_20 ⟨Nat.le_of_ble_eq_true rfl, Nat.le_of_ble_eq_true rfl⟩ (fun r_20 u9 H locs h hP hD hS => ?_)
        obtain ⟨f_t_machine_values_20, rfl⟩ : ∃ z, z = u9 := ⟨_, rfl⟩
        have hP : va_P D vwCl [(a_t, .inr (6, [.ref a_t_generator, .ref a_t_program, .ref a_t_costs, .ref a_t_history, .ref a_t_machine, .ref a_t_tidier, .ref a_t_listing])), (a_t_program, .inr (4, [.int t_program_width, .int t_program_length, .int t_program_result, .int t_program_taskKind, .int t_program_taskDivisor, .ref a_t_program_operations, .ref a_t_program_firsts, .ref a_t_program_seconds])), (a_t_program_operations, .inl (ca 0, 40, .inl f_t_program_operations)), (a_t_program_firsts, .inl (ca 0, 40, .inl f_t_program_firsts)), (a_t_program_seconds, .inl (ca 0, 40, .inl f_t_program_seconds)), (a_t_machine, .inr (3, [.ref a_t_machine_values, .ref a_t_machine_depths])), (a_t_machine_values, .inl (ca 0, 41, .inl f_t_machine_values_20))] H := hP
        have hD : va_D A [(a_t, .inr (6, [.ref a_t_generator, .ref a_t_program, .ref a_t_costs, .ref a_t_history, .ref a_t_machine, .ref a_t_tidier, .ref a_t_listing])), (a_t_program, .inr (4, [.int t_program_width, .int t_program_length, .int t_program_result, .int t_program_taskKind, .int t_program_taskDivisor, .ref a_t_program_operations, .ref a_t_program_firsts, .ref a_t_program_seconds])), (a_t_program_operations, .inl (ca 0, 40, .inl f_t_program_operations)), (a_t_program_firsts, .inl (ca 0, 40, .inl f_t_program_firsts)), (a_t_program_seconds, .inl (ca 0, 40, .inl f_t_program_seconds)), (a_t_machine, .inr (3, [.ref a_t_machine_values, .ref a_t_machine_depths])), (a_t_machine_values, .inl (ca 0, 41, .inl f_t_machine_values_20))] := hD
        try dsimp only at h
        have hJ29 : ∀ (x2_29 : Int32) (H : Heap) (locs : List Loc) (ls : Array Slot), va_P D vwCl [(a_t, .inr (6, [.ref a_t_generator, .ref a_t_program, .ref a_t_costs, .ref a_t_history, .ref a_t_machine, .ref a_t_tidier, .ref a_t_listing])), (a_t_program, .inr (4, [.int t_program_width, .int t_program_length, .int t_program_result, .int t_program_taskKind, .int t_program_taskDivisor, .ref a_t_program_operations, .ref a_t_program_firsts, .ref a_t_program_seconds])), (a_t_program_operations, .inl (ca 0, 40, .inl f_t_program_operations)), (a_t_program_firsts, .inl (ca 0, 40, .inl f_t_program_firsts)), (a_t_program_seconds, .inl (ca 0, 40, .inl f_t_program_seconds)), (a_t_machine, .inr (3, [.ref a_t_machine_values, .ref a_t_machine_depths])), (a_t_machine_values, .inl (ca 0, 41, .inl f_t_machine_values_20))] H → va_D A [(a_t, .inr (6, [.ref a_t_generator, .ref a_t_program, .ref a_t_costs, .ref a_t_history, .ref a_t_machine, .ref a_t_tidier, .ref a_t_listing])), (a_t_program, .inr (4, [.int t_program_width, .int t_program_length, .int t_program_result, .int t_program_taskKind, .int t_program_taskDivisor, .ref a_t_program_operations, .ref a_t_program_firsts, .ref a_t_program_seconds])), (a_t_program_operations, .inl (ca 0, 40, .inl f_t_program_operations)), (a_t_program_firsts, .inl (ca 0, 40, .inl f_t_program_firsts)), (a_t_program_seconds, .inl (ca 0, 40, .inl f_t_program_seconds)), (a_t_machine, .inr (3, [.ref a_t_machine_values, .ref a_t_machine_depths])), (a_t_machine_values, .inl (ca 0, 41, .inl f_t_machine_values_20))] → va_S A s.heap H locs → lv_has ls 4 [(0, .ref a_t), (1, .int r_5), (2, .int x2_29), (3, .int x3_13)] → wX8_wrong_29 x3_13 (wX8_wrong_13 t_program_width t_program_result t_program_taskKind t_program_taskDivisor f_t_program_operations f_t_program_firsts f_t_program_seconds Q r_5 n9_13) f_t_machine_values_20 x2_29 → W p l e (headSpec (Cond.code yX8_wrong cX8_wrong 4 (some .int) :: wsG) ({ frames := 7, cells := 1, slots := 6, locals := 110 } : Room)).room s m ([.ref a_t] : List Value).toArray below meth c H locs 1 6 (vx_MQ below (qX8_wrong D ca a_t a_t_generator a_t_program a_t_costs a_t_history a_t_machine a_t_tidier a_t_listing a_t_program_operations a_t_program_firsts a_t_program_seconds a_t_machine_values a_t_machine_depths t_program_width t_program_length t_program_result t_program_taskKind t_program_taskDivisor f_t_program_operations f_t_program_firsts f_t_program_seconds Q A) (xEnd D ca [(a_t, .inr (6, [.ref a_t_generator, .ref a_t_program, .ref a_t_costs, .ref a_t_history, .ref a_t_machine, .ref a_t_tidier, .ref a_t_listing])), (a_t_program, .inr (4, [.int t_program_width, .int t_program_length, .int t_program_result, .int t_program_taskKind, .int t_program_taskDivisor, .ref a_t_program_operations, .ref a_t_program_firsts, .ref a_t_program_seconds])), (a_t_program_operations, .inl (ca 0, 40, .inl f_t_program_operations)), (a_t_program_firsts, .inl (ca 0, 40, .inl f_t_program_firsts)), (a_t_program_seconds, .inl (ca 0, 40, .inl f_t_program_seconds)), (a_t_machine, .inr (3, [.ref a_t_machine_values, .ref a_t_machine_depths])), (a_t_machine_values, .inl (ca 0, 41, .inl f_t_machine_values))] QX A) ([.ref a_t] : List Value).toArray s 1 6 A) (F0 m 29 ls []) := by
          intro x2_29 H locs ls hP hD hS hl h
          unfold wX8_wrong_29 at h
          obtain ⟨x3_29, ex3_29⟩ : ∃ y : Int32, y = x3_13 + 1 := ⟨_, rfl⟩
          have h := h x3_29 ex3_29
          refine lv_iinc (v := x3_29) (lv' := [(3, .int x3_29), (0, .ref a_t), (1, .int r_5), (2, .int x2_29)]) hx hb dX8_wrong_29 hl (k := 3) rfl (by rw [ex3_29]; rfl) (by decide) rfl (fun ls hl => ?_)
          refine lv_goto (tgt := 13) hx hb dX8_wrong_32 (by decide) ?_
          exact ih13 x2_29 x3_29 f_t_machine_values_20 _ _ _ hP hD hS (lv_sub hl [1, 2, 3, 0] rfl) h
        refine lv_if_ne (tgt := 29) hx hb dX8_wrong_23 (by decide) (fun c9 => ?_) (fun c9 => ?_)
        · have h := h.2 c9
          exact hJ29 x2_13 _ _ _ hP hD hS (lv_sub hl [0, 1, 2, 3] rfl) h
        · have h := h.1 c9
          obtain ⟨x2_26, ex2_26⟩ : ∃ y : Int32, y = x2_13 + 1 := ⟨_, rfl⟩
          have h := h x2_26 ex2_26
          refine lv_iinc (v := x2_26) (lv' := [(2, .int x2_26), (0, .ref a_t), (1, .int r_5), (3, .int x3_13)]) hx hb dX8_wrong_26 hl (k := 2) rfl (by rw [ex2_26]; rfl) (by decide) rfl (fun ls hl => ?_)
          exact hJ29 x2_26 _ _ _ hP hD hS (lv_sub hl [1, 2, 0, 3] rfl) h
  obtain ⟨k9, h⟩ := h
  exact hL13 k9 0 0 f_t_machine_values _ _ _ hP hD hS (lv_sub hl [3, 2, 1, 0] rfl) h

abbrev qX8_reach (D : va_G) (ca : Nat → ClassId) (a_t a_t_generator a_t_program a_t_costs a_t_history a_t_machine a_t_tidier a_t_listing : Nat) (Q : Int32 → Prop) (A : Nat → Prop) : Array Value → State → Outcome → State → Prop := va_Qi (fun (r : Int32) (_ : Unit) => Q r) (wEnd D ca (fun _ : Unit => [(a_t, .inr (6, [.ref a_t_generator, .ref a_t_program, .ref a_t_costs, .ref a_t_history, .ref a_t_machine, .ref a_t_tidier, .ref a_t_listing]))]) A) A
def wX8_reach (x1 : Int32) (x2 : Int32) (x3 : Int32) (Q : Int32 → Prop) (QX : String → Prop) : Prop :=
  wX8_requireFromTo x1 0 1000000 (wX8_requireFromTo x2 0 40 (wX8_requireFromTo x3 1 65535 (wX4_firstUnreached x1.toInt64 ((1 : Int64) <<< (x2.toInt64 &&& 63)) x3.toInt64 (fun r_28 => ((1000000 < r_28 → Q ((-1))) ∧ (¬ 1000000 < r_28 → Q r_28.toInt32)))) QX) QX) QX
set_option maxHeartbeats 4000000 in
set_option maxRecDepth 100000 in
theorem mX8_reach (l : Launch) (hl0 : l.stackTraces = false) (D : va_G) (ca : Nat → ClassId) (a_t a_t_generator a_t_program a_t_costs a_t_history a_t_machine a_t_tidier a_t_listing : Nat) (sz : Nat) (x1 : Int32) (x2 : Int32) (x3 : Int32) (Q : Int32 → Prop) (QX : String → Prop) (h : wX8_reach x1 x2 x3 Q QX) : vx_Met l yX8_reach (Cond.code yX8_reach cX8_reach 6 (some .int) :: wsG) ({ frames := 7, cells := 3, slots := 18, locals := 112 } : Room) (va_Pc [.ref a_t, .int x1, .int x2, .int x3] (xPre D ca [(a_t, .inr (6, [.ref a_t_generator, .ref a_t_program, .ref a_t_costs, .ref a_t_history, .ref a_t_machine, .ref a_t_tidier, .ref a_t_listing]))] sz)) (qX8_reach D ca a_t a_t_generator a_t_program a_t_costs a_t_history a_t_machine a_t_tidier a_t_listing Q (va_A [(a_t, .inr (6, [.ref a_t_generator, .ref a_t_program, .ref a_t_costs, .ref a_t_history, .ref a_t_machine, .ref a_t_tidier, .ref a_t_listing]))] sz)) (xEnd D ca [(a_t, .inr (6, [.ref a_t_generator, .ref a_t_program, .ref a_t_costs, .ref a_t_history, .ref a_t_machine, .ref a_t_tidier, .ref a_t_listing]))] QX (va_A [(a_t, .inr (6, [.ref a_t_generator, .ref a_t_program, .ref a_t_costs, .ref a_t_history, .ref a_t_machine, .ref a_t_tidier, .ref a_t_listing]))] sz)) 3 18 (va_A [(a_t, .inr (6, [.ref a_t_generator, .ref a_t_program, .ref a_t_costs, .ref a_t_history, .ref a_t_machine, .ref a_t_tidier, .ref a_t_listing]))] sz) := by
  refine vx_ofW (cc := cX8_reach) (maxL := 6) (ret := (some .int)) (by decide) rfl ?_
  intro p e s m args below meth c s₁ B hml htab hv
  obtain ⟨rfl, ⟨hsz, hP, hK, hD0⟩, hX⟩ := hv
  have hx := B.exec
  have hb := B.bytes
  have hr := B.returns
  have hts := atoms_spec (ws := (Cond.code yX8_reach cX8_reach 6 (some .int) :: wsG)) B.pre
  have hq : ∀ w ∈ wsG, w.before _ s = true := fun w hw => hts w (List.mem_cons_of_mem _ hw)
  have hown : s.vm.findClass RX8 = some m.cls := findClass_of_methodNamed B.named
  have hlocks := B.notSynchronized
  subst hsz
  have hD := hD0.self (sz := s.heap.size)
  generalize hAe : va_A [(a_t, .inr (6, [.ref a_t_generator, .ref a_t_program, .ref a_t_costs, .ref a_t_history, .ref a_t_machine, .ref a_t_tidier, .ref a_t_listing]))] s.heap.size = A at hD hX ⊢
  have hA : ∀ q : Nat, s.heap.size ≤ q → A q := fun q h => by rw [← hAe]; exact Or.inr h
  have hS : va_S A s.heap s.heap [] := va_S.rf
  have hP : va_P D vwCl [(a_t, .inr (6, [.ref a_t_generator, .ref a_t_program, .ref a_t_costs, .ref a_t_history, .ref a_t_machine, .ref a_t_tidier, .ref a_t_listing]))] s.heap := hP
  have hl := lv_entry ([.ref a_t, .int x1, .int x2, .int x3]) (n := 6) (Nat.le_of_ble_eq_true rfl)
  rw [lg_entry_eq]
  generalize (lg_sl ([.ref a_t, .int x1, .int x2, .int x3]) ++ List.replicate (6 - (lg_sl ([.ref a_t, .int x1, .int x2, .int x3])).length) Slot.unset).toArray = ls at hl ⊢
  have hl : lv_has ls 6 [(0, .ref a_t), (1, .int x1), (2, .int x2), (3, .int x3)] := hl
  unfold wX8_reach at h
  refine lv_iload_n hx hb dX8_reach_0 rfl (lv_at hl 1 rfl) ?_
  refine lv_iconst (v := 0) hx hb dX8_reach_1 (by decide) ?_
  refine lv_ldc (v := 1000000) hx hb hown (hq _ q_818) dX8_reach_2 ?_
  refine xPv (As := [.int x1, .int 0, .int 1000000]) (rest := []) ⟨hx, hb, hml, hown, hts⟩ (mX8_requireFromTo l hl0 x1 0 1000000 _ _ h) (va_cwS 3 hts (gS q_392 q_393 q_1 q_394) rfl rfl rfl (by decide +kernel) ⟨Nat.le_of_ble_eq_true rfl, Nat.le_of_ble_eq_true rfl⟩) hX hS rfl hl.1 rfl (Nat.le_of_ble_eq_true rfl) dX8_reach_4 ⟨Nat.le_of_ble_eq_true rfl, Nat.le_of_ble_eq_true rfl⟩ (fun E ce q9 H1 locs hE hk1 hS h1 h2 h3 => x_out htab hlocks hK (s_back hP hk1) hD hS hE h1 h2 h3 (Nat.le_of_ble_eq_true rfl) (Nat.le_of_ble_eq_true rfl)) (fun H1 locs h hk1 hS => ?_)
  have hP := s_back hP hk1
  try dsimp only at h
  refine lv_iload_n hx hb dX8_reach_7 rfl (lv_at hl 2 rfl) ?_
  refine lv_iconst (v := 0) hx hb dX8_reach_8 (by decide) ?_
  refine lv_bipush (v := 40) hx hb dX8_reach_9 (by decide) ?_
  refine xPv (As := [.int x2, .int 0, .int 40]) (rest := []) ⟨hx, hb, hml, hown, hts⟩ (mX8_requireFromTo l hl0 x2 0 40 _ _ h) (va_cwS 3 hts (gS q_392 q_393 q_1 q_394) rfl rfl rfl (by decide +kernel) ⟨Nat.le_of_ble_eq_true rfl, Nat.le_of_ble_eq_true rfl⟩) hX hS rfl hl.1 rfl (Nat.le_of_ble_eq_true rfl) dX8_reach_11 ⟨Nat.le_of_ble_eq_true rfl, Nat.le_of_ble_eq_true rfl⟩ (fun E ce q9 H1 locs hE hk1 hS h1 h2 h3 => x_out htab hlocks hK (s_back hP hk1) hD hS hE h1 h2 h3 (Nat.le_of_ble_eq_true rfl) (Nat.le_of_ble_eq_true rfl)) (fun H1 locs h hk1 hS => ?_)
  have hP := s_back hP hk1
  try dsimp only at h
  refine lv_iload_n hx hb dX8_reach_14 rfl (lv_at hl 3 rfl) ?_
  refine lv_iconst (v := 1) hx hb dX8_reach_15 (by decide) ?_
  refine lv_ldc (v := 65535) hx hb hown (hq _ q_819) dX8_reach_16 ?_
  refine xPv (As := [.int x3, .int 1, .int 65535]) (rest := []) ⟨hx, hb, hml, hown, hts⟩ (mX8_requireFromTo l hl0 x3 1 65535 _ _ h) (va_cwS 3 hts (gS q_392 q_393 q_1 q_394) rfl rfl rfl (by decide +kernel) ⟨Nat.le_of_ble_eq_true rfl, Nat.le_of_ble_eq_true rfl⟩) hX hS rfl hl.1 rfl (Nat.le_of_ble_eq_true rfl) dX8_reach_18 ⟨Nat.le_of_ble_eq_true rfl, Nat.le_of_ble_eq_true rfl⟩ (fun E ce q9 H1 locs hE hk1 hS h1 h2 h3 => x_out htab hlocks hK (s_back hP hk1) hD hS hE h1 h2 h3 (Nat.le_of_ble_eq_true rfl) (Nat.le_of_ble_eq_true rfl)) (fun H1 locs h hk1 hS => ?_)
  have hP := s_back hP hk1
  try dsimp only at h
  refine lv_iload_n hx hb dX8_reach_21 rfl (lv_at hl 1 rfl) ?_
  refine lv_i2l hx hb dX8_reach_22 rfl ?_
  refine lv_lconst (v := 1) hx hb dX8_reach_23 (by decide) ?_
  refine lv_iload_n hx hb dX8_reach_24 rfl (lv_at hl 2 rfl) ?_
  refine lv_lshl hx hb dX8_reach_25 rfl ?_
  refine lv_iload_n hx hb dX8_reach_26 rfl (lv_at hl 3 rfl) ?_
  refine lv_i2l hx hb dX8_reach_27 rfl ?_
  refine cPl (As := [.long x1.toInt64, .long ((1 : Int64) <<< (x2.toInt64 &&& 63)), .long x3.toInt64]) (rest := []) ⟨hx, hb, hml, hown, hts⟩ (mX4_firstUnreached l x1.toInt64 ((1 : Int64) <<< (x2.toInt64 &&& 63)) x3.toInt64 _ h) (va_cwS 3 hts (gS q_820 q_821 q_16 q_822) rfl rfl rfl (by decide +kernel) ⟨Nat.le_of_ble_eq_true rfl, Nat.le_of_ble_eq_true rfl⟩) hS rfl hl.1 rfl (Nat.le_of_ble_eq_true rfl) dX8_reach_28 ⟨Nat.le_of_ble_eq_true rfl, Nat.le_of_ble_eq_true rfl⟩ (fun r_28 H1 locs h hk1 hS => ?_)
  have hP := s_back hP hk1
  try dsimp only at h
  refine lv_lstore (lv' := [(4, .long r_28), (0, .ref a_t), (1, .int x1), (2, .int x2), (3, .int x3)]) hx hb dX8_reach_31 hl (by decide) rfl (fun ls hl => ?_)
  refine lv_lload hx hb dX8_reach_33 (lv_at hl 0 rfl) ?_
  refine lv_ldc2 (v := 1000000) hx hb hown (hq _ q_827) dX8_reach_35 ?_
  refine jl_gt (tgt := 48) hx hb dX8_reach_38 dX8_reach_39 (by decide) (fun c9 => ?_) (fun c9 => ?_)
  · have h := h.1 c9
    refine lv_iconst (v := (-1)) hx hb dX8_reach_48 (by decide) ?_
    refine W.widen (k := 3) (n := 18) (Nat.le_of_ble_eq_true rfl) (Nat.le_of_ble_eq_true rfl) ?_
    refine vx_ret ?_
    exact W.iret (v := (-1)) hx hb hr (fun t ht hW => ⟨⟨(-1), (), rfl, h, by rw [ht]; exact hP, va_K.moved hW.alike hK, hD⟩, hS.F ht⟩) hS.2.2 dX8_reach_49
  · have h := h.2 c9
    refine lv_lload hx hb dX8_reach_42 (lv_at hl 0 rfl) ?_
    refine lv_l2i hx hb dX8_reach_44 rfl ?_
    refine lv_goto (tgt := 49) hx hb dX8_reach_45 (by decide) ?_
    refine W.widen (k := 3) (n := 18) (Nat.le_of_ble_eq_true rfl) (Nat.le_of_ble_eq_true rfl) ?_
    refine vx_ret ?_
    exact W.iret (v := r_28.toInt32) hx hb hr (fun t ht hW => ⟨⟨r_28.toInt32, (), rfl, h, by rw [ht]; exact hP, va_K.moved hW.alike hK, hD⟩, hS.F ht⟩) hS.2.2 dX8_reach_49

abbrev qX8_floatReciprocal (D : va_G) (ca : Nat → ClassId) (a_t a_t_generator a_t_program a_t_costs a_t_history a_t_machine a_t_tidier a_t_listing : Nat) (Q : Int32 → Prop) (A : Nat → Prop) : Array Value → State → Outcome → State → Prop := va_Qi (fun (r : Int32) (_ : Unit) => Q r) (wEnd D ca (fun _ : Unit => [(a_t, .inr (6, [.ref a_t_generator, .ref a_t_program, .ref a_t_costs, .ref a_t_history, .ref a_t_machine, .ref a_t_tidier, .ref a_t_listing]))]) A) A
def wX8_floatReciprocal (x1 : Int32) (Q : Int32 → Prop) (QX : String → Prop) : Prop :=
  wX8_requireFromTo x1 1 65535 ((vf_n32 (FP.fdiv FP.fconst1 (FP.i2f x1)) ∧ (vf_n64 (FP.f2d (FP.fdiv FP.fconst1 (FP.i2f x1))) ∧ wX6_bitsOf (FP.f2d (FP.fdiv FP.fconst1 (FP.i2f x1))) 127 23 (fun r_16 => Q r_16.toInt32)))) QX
set_option maxHeartbeats 4000000 in
set_option maxRecDepth 100000 in
theorem mX8_floatReciprocal (l : Launch) (hl0 : l.stackTraces = false) (D : va_G) (ca : Nat → ClassId) (a_t a_t_generator a_t_program a_t_costs a_t_history a_t_machine a_t_tidier a_t_listing : Nat) (sz : Nat) (x1 : Int32) (Q : Int32 → Prop) (QX : String → Prop) (h : wX8_floatReciprocal x1 Q QX) : vx_Met l yX8_floatReciprocal (Cond.code yX8_floatReciprocal cX8_floatReciprocal 2 (some .int) :: wsG) ({ frames := 7, cells := 1, slots := 6, locals := 112 } : Room) (va_Pc [.ref a_t, .int x1] (xPre D ca [(a_t, .inr (6, [.ref a_t_generator, .ref a_t_program, .ref a_t_costs, .ref a_t_history, .ref a_t_machine, .ref a_t_tidier, .ref a_t_listing]))] sz)) (qX8_floatReciprocal D ca a_t a_t_generator a_t_program a_t_costs a_t_history a_t_machine a_t_tidier a_t_listing Q (va_A [(a_t, .inr (6, [.ref a_t_generator, .ref a_t_program, .ref a_t_costs, .ref a_t_history, .ref a_t_machine, .ref a_t_tidier, .ref a_t_listing]))] sz)) (xEnd D ca [(a_t, .inr (6, [.ref a_t_generator, .ref a_t_program, .ref a_t_costs, .ref a_t_history, .ref a_t_machine, .ref a_t_tidier, .ref a_t_listing]))] QX (va_A [(a_t, .inr (6, [.ref a_t_generator, .ref a_t_program, .ref a_t_costs, .ref a_t_history, .ref a_t_machine, .ref a_t_tidier, .ref a_t_listing]))] sz)) 1 6 (va_A [(a_t, .inr (6, [.ref a_t_generator, .ref a_t_program, .ref a_t_costs, .ref a_t_history, .ref a_t_machine, .ref a_t_tidier, .ref a_t_listing]))] sz) := by
  refine vx_ofW (cc := cX8_floatReciprocal) (maxL := 2) (ret := (some .int)) (by decide) rfl ?_
  intro p e s m args below meth c s₁ B hml htab hv
  obtain ⟨rfl, ⟨hsz, hP, hK, hD0⟩, hX⟩ := hv
  have hx := B.exec
  have hb := B.bytes
  have hr := B.returns
  have hts := atoms_spec (ws := (Cond.code yX8_floatReciprocal cX8_floatReciprocal 2 (some .int) :: wsG)) B.pre
  have hq : ∀ w ∈ wsG, w.before _ s = true := fun w hw => hts w (List.mem_cons_of_mem _ hw)
  have hown : s.vm.findClass RX8 = some m.cls := findClass_of_methodNamed B.named
  have hlocks := B.notSynchronized
  subst hsz
  have hD := hD0.self (sz := s.heap.size)
  generalize hAe : va_A [(a_t, .inr (6, [.ref a_t_generator, .ref a_t_program, .ref a_t_costs, .ref a_t_history, .ref a_t_machine, .ref a_t_tidier, .ref a_t_listing]))] s.heap.size = A at hD hX ⊢
  have hA : ∀ q : Nat, s.heap.size ≤ q → A q := fun q h => by rw [← hAe]; exact Or.inr h
  have hS : va_S A s.heap s.heap [] := va_S.rf
  have hP : va_P D vwCl [(a_t, .inr (6, [.ref a_t_generator, .ref a_t_program, .ref a_t_costs, .ref a_t_history, .ref a_t_machine, .ref a_t_tidier, .ref a_t_listing]))] s.heap := hP
  have hl := lv_entry ([.ref a_t, .int x1]) (n := 2) (Nat.le_of_ble_eq_true rfl)
  rw [lg_entry_eq]
  generalize (lg_sl ([.ref a_t, .int x1]) ++ List.replicate (2 - (lg_sl ([.ref a_t, .int x1])).length) Slot.unset).toArray = ls at hl ⊢
  have hl : lv_has ls 2 [(0, .ref a_t), (1, .int x1)] := hl
  unfold wX8_floatReciprocal at h
  refine lv_iload_n hx hb dX8_floatReciprocal_0 rfl (lv_at hl 1 rfl) ?_
  refine lv_iconst (v := 1) hx hb dX8_floatReciprocal_1 (by decide) ?_
  refine lv_ldc (v := 65535) hx hb hown (hq _ q_819) dX8_floatReciprocal_2 ?_
  refine xPv (As := [.int x1, .int 1, .int 65535]) (rest := []) ⟨hx, hb, hml, hown, hts⟩ (mX8_requireFromTo l hl0 x1 1 65535 _ _ h) (va_cwS 3 hts (gS q_392 q_393 q_1 q_394) rfl rfl rfl (by decide +kernel) ⟨Nat.le_of_ble_eq_true rfl, Nat.le_of_ble_eq_true rfl⟩) hX hS rfl hl.1 rfl (Nat.le_of_ble_eq_true rfl) dX8_floatReciprocal_4 ⟨Nat.le_of_ble_eq_true rfl, Nat.le_of_ble_eq_true rfl⟩ (fun E ce q9 H1 locs hE hk1 hS h1 h2 h3 => x_out htab hlocks hK (s_back hP hk1) hD hS hE h1 h2 h3 (Nat.le_of_ble_eq_true rfl) (Nat.le_of_ble_eq_true rfl)) (fun H1 locs h hk1 hS => ?_)
  have hP := s_back hP hk1
  try dsimp only at h
  refine lv_fconst1 hx hb dX8_floatReciprocal_7 ?_
  refine lv_iload_n hx hb dX8_floatReciprocal_8 rfl (lv_at hl 1 rfl) ?_
  refine lv_i2f hx hb dX8_floatReciprocal_9 ?_
  obtain ⟨hne9, h⟩ := h
  refine lv_fdiv hx hb dX8_floatReciprocal_10 hne9 ?_
  obtain ⟨hne9, h⟩ := h
  refine lv_f2d hx hb dX8_floatReciprocal_11 hne9 ?_
  refine lv_bipush (v := 127) hx hb dX8_floatReciprocal_12 (by decide) ?_
  refine lv_bipush (v := 23) hx hb dX8_floatReciprocal_14 (by decide) ?_
  refine cPl (As := [.double (FP.f2d (FP.fdiv FP.fconst1 (FP.i2f x1))), .int 127, .int 23]) (rest := []) ⟨hx, hb, hml, hown, hts⟩ (mX6_bitsOf l (FP.f2d (FP.fdiv FP.fconst1 (FP.i2f x1))) 127 23 _ h) (va_cwS 3 hts (gS q_835 q_836 q_23 q_837) rfl rfl rfl (by decide +kernel) ⟨Nat.le_of_ble_eq_true rfl, Nat.le_of_ble_eq_true rfl⟩) hS rfl hl.1 rfl (Nat.le_of_ble_eq_true rfl) dX8_floatReciprocal_16 ⟨Nat.le_of_ble_eq_true rfl, Nat.le_of_ble_eq_true rfl⟩ (fun r_16 H1 locs h hk1 hS => ?_)
  have hP := s_back hP hk1
  try dsimp only at h
  refine lv_l2i hx hb dX8_floatReciprocal_19 rfl ?_
  refine W.widen (k := 1) (n := 6) (Nat.le_of_ble_eq_true rfl) (Nat.le_of_ble_eq_true rfl) ?_
  refine vx_ret ?_
  exact W.iret (v := r_16.toInt32) hx hb hr (fun t ht hW => ⟨⟨r_16.toInt32, (), rfl, h, by rw [ht]; exact hP, va_K.moved hW.alike hK, hD⟩, hS.F ht⟩) hS.2.2 dX8_floatReciprocal_20

abbrev qX8_doubleReciprocal (D : va_G) (ca : Nat → ClassId) (a_t a_t_generator a_t_program a_t_costs a_t_history a_t_machine a_t_tidier a_t_listing : Nat) (Q : Int64 → Prop) (A : Nat → Prop) : Array Value → State → Outcome → State → Prop := va_Ql (fun (r : Int64) (_ : Unit) => Q r) (wEnd D ca (fun _ : Unit => [(a_t, .inr (6, [.ref a_t_generator, .ref a_t_program, .ref a_t_costs, .ref a_t_history, .ref a_t_machine, .ref a_t_tidier, .ref a_t_listing]))]) A) A
def wX8_doubleReciprocal (x1 : Int32) (Q : Int64 → Prop) (QX : String → Prop) : Prop :=
  wX8_requireFromTo x1 1 65535 ((vf_n64 (FP.ddiv FP.dconst1 (FP.i2d x1)) ∧ wX6_bitsOf (FP.ddiv FP.dconst1 (FP.i2d x1)) 1023 52 (fun r_16 => Q r_16))) QX
set_option maxHeartbeats 4000000 in
set_option maxRecDepth 100000 in
theorem mX8_doubleReciprocal (l : Launch) (hl0 : l.stackTraces = false) (D : va_G) (ca : Nat → ClassId) (a_t a_t_generator a_t_program a_t_costs a_t_history a_t_machine a_t_tidier a_t_listing : Nat) (sz : Nat) (x1 : Int32) (Q : Int64 → Prop) (QX : String → Prop) (h : wX8_doubleReciprocal x1 Q QX) : vx_Met l yX8_doubleReciprocal (Cond.code yX8_doubleReciprocal cX8_doubleReciprocal 2 (some .long) :: wsG) ({ frames := 7, cells := 1, slots := 6, locals := 112 } : Room) (va_Pc [.ref a_t, .int x1] (xPre D ca [(a_t, .inr (6, [.ref a_t_generator, .ref a_t_program, .ref a_t_costs, .ref a_t_history, .ref a_t_machine, .ref a_t_tidier, .ref a_t_listing]))] sz)) (qX8_doubleReciprocal D ca a_t a_t_generator a_t_program a_t_costs a_t_history a_t_machine a_t_tidier a_t_listing Q (va_A [(a_t, .inr (6, [.ref a_t_generator, .ref a_t_program, .ref a_t_costs, .ref a_t_history, .ref a_t_machine, .ref a_t_tidier, .ref a_t_listing]))] sz)) (xEnd D ca [(a_t, .inr (6, [.ref a_t_generator, .ref a_t_program, .ref a_t_costs, .ref a_t_history, .ref a_t_machine, .ref a_t_tidier, .ref a_t_listing]))] QX (va_A [(a_t, .inr (6, [.ref a_t_generator, .ref a_t_program, .ref a_t_costs, .ref a_t_history, .ref a_t_machine, .ref a_t_tidier, .ref a_t_listing]))] sz)) 1 6 (va_A [(a_t, .inr (6, [.ref a_t_generator, .ref a_t_program, .ref a_t_costs, .ref a_t_history, .ref a_t_machine, .ref a_t_tidier, .ref a_t_listing]))] sz) := by
  refine vx_ofW (cc := cX8_doubleReciprocal) (maxL := 2) (ret := (some .long)) (by decide) rfl ?_
  intro p e s m args below meth c s₁ B hml htab hv
  obtain ⟨rfl, ⟨hsz, hP, hK, hD0⟩, hX⟩ := hv
  have hx := B.exec
  have hb := B.bytes
  have hr := B.returns
  have hts := atoms_spec (ws := (Cond.code yX8_doubleReciprocal cX8_doubleReciprocal 2 (some .long) :: wsG)) B.pre
  have hq : ∀ w ∈ wsG, w.before _ s = true := fun w hw => hts w (List.mem_cons_of_mem _ hw)
  have hown : s.vm.findClass RX8 = some m.cls := findClass_of_methodNamed B.named
  have hlocks := B.notSynchronized
  subst hsz
  have hD := hD0.self (sz := s.heap.size)
  generalize hAe : va_A [(a_t, .inr (6, [.ref a_t_generator, .ref a_t_program, .ref a_t_costs, .ref a_t_history, .ref a_t_machine, .ref a_t_tidier, .ref a_t_listing]))] s.heap.size = A at hD hX ⊢
  have hA : ∀ q : Nat, s.heap.size ≤ q → A q := fun q h => by rw [← hAe]; exact Or.inr h
  have hS : va_S A s.heap s.heap [] := va_S.rf
  have hP : va_P D vwCl [(a_t, .inr (6, [.ref a_t_generator, .ref a_t_program, .ref a_t_costs, .ref a_t_history, .ref a_t_machine, .ref a_t_tidier, .ref a_t_listing]))] s.heap := hP
  have hl := lv_entry ([.ref a_t, .int x1]) (n := 2) (Nat.le_of_ble_eq_true rfl)
  rw [lg_entry_eq]
  generalize (lg_sl ([.ref a_t, .int x1]) ++ List.replicate (2 - (lg_sl ([.ref a_t, .int x1])).length) Slot.unset).toArray = ls at hl ⊢
  have hl : lv_has ls 2 [(0, .ref a_t), (1, .int x1)] := hl
  unfold wX8_doubleReciprocal at h
  refine lv_iload_n hx hb dX8_doubleReciprocal_0 rfl (lv_at hl 1 rfl) ?_
  refine lv_iconst (v := 1) hx hb dX8_doubleReciprocal_1 (by decide) ?_
  refine lv_ldc (v := 65535) hx hb hown (hq _ q_819) dX8_doubleReciprocal_2 ?_
  refine xPv (As := [.int x1, .int 1, .int 65535]) (rest := []) ⟨hx, hb, hml, hown, hts⟩ (mX8_requireFromTo l hl0 x1 1 65535 _ _ h) (va_cwS 3 hts (gS q_392 q_393 q_1 q_394) rfl rfl rfl (by decide +kernel) ⟨Nat.le_of_ble_eq_true rfl, Nat.le_of_ble_eq_true rfl⟩) hX hS rfl hl.1 rfl (Nat.le_of_ble_eq_true rfl) dX8_doubleReciprocal_4 ⟨Nat.le_of_ble_eq_true rfl, Nat.le_of_ble_eq_true rfl⟩ (fun E ce q9 H1 locs hE hk1 hS h1 h2 h3 => x_out htab hlocks hK (s_back hP hk1) hD hS hE h1 h2 h3 (Nat.le_of_ble_eq_true rfl) (Nat.le_of_ble_eq_true rfl)) (fun H1 locs h hk1 hS => ?_)
  have hP := s_back hP hk1
  try dsimp only at h
  refine lv_dconst1 hx hb dX8_doubleReciprocal_7 ?_
  refine lv_iload_n hx hb dX8_doubleReciprocal_8 rfl (lv_at hl 1 rfl) ?_
  refine lv_i2d hx hb dX8_doubleReciprocal_9 ?_
  obtain ⟨hne9, h⟩ := h
  refine lv_ddiv hx hb dX8_doubleReciprocal_10 hne9 ?_
  refine lv_sipush (v := 1023) hx hb dX8_doubleReciprocal_11 (by decide) ?_
  refine lv_bipush (v := 52) hx hb dX8_doubleReciprocal_14 (by decide) ?_
  refine cPl (As := [.double (FP.ddiv FP.dconst1 (FP.i2d x1)), .int 1023, .int 52]) (rest := []) ⟨hx, hb, hml, hown, hts⟩ (mX6_bitsOf l (FP.ddiv FP.dconst1 (FP.i2d x1)) 1023 52 _ h) (va_cwS 3 hts (gS q_835 q_836 q_23 q_837) rfl rfl rfl (by decide +kernel) ⟨Nat.le_of_ble_eq_true rfl, Nat.le_of_ble_eq_true rfl⟩) hS rfl hl.1 rfl (Nat.le_of_ble_eq_true rfl) dX8_doubleReciprocal_16 ⟨Nat.le_of_ble_eq_true rfl, Nat.le_of_ble_eq_true rfl⟩ (fun r_16 H1 locs h hk1 hS => ?_)
  have hP := s_back hP hk1
  try dsimp only at h
  refine W.widen (k := 1) (n := 6) (Nat.le_of_ble_eq_true rfl) (Nat.le_of_ble_eq_true rfl) ?_
  refine vx_ret ?_
  exact W.lret (v := r_16) hx hb hr (fun t ht hW => ⟨⟨r_16, (), rfl, h, by rw [ht]; exact hP, va_K.moved hW.alike hK, hD⟩, hS.F ht⟩) hS.2.2 dX8_doubleReciprocal_19

abbrev qX8_firstFloatError (D : va_G) (ca : Nat → ClassId) (a_t a_t_generator a_t_program a_t_costs a_t_history a_t_machine a_t_tidier a_t_listing : Nat) (Q : Int32 → Prop) (A : Nat → Prop) : Array Value → State → Outcome → State → Prop := va_Qi (fun (r : Int32) (_ : Unit) => Q r) (wEnd D ca (fun _ : Unit => [(a_t, .inr (6, [.ref a_t_generator, .ref a_t_program, .ref a_t_costs, .ref a_t_history, .ref a_t_machine, .ref a_t_tidier, .ref a_t_listing]))]) A) A
def wX8_firstFloatError (x1 : Int32) (Q : Int32 → Prop) (QX : String → Prop) : Prop :=
  wX8_requireFromTo x1 1 65535 ((vf_n32 (FP.fdiv FP.fconst1 (FP.i2f x1)) ∧ wX6_firstFloatMiss (FP.fdiv FP.fconst1 (FP.i2f x1)) x1 200000 (fun r_14 => Q r_14))) QX
set_option maxHeartbeats 4000000 in
set_option maxRecDepth 100000 in
theorem mX8_firstFloatError (l : Launch) (hl0 : l.stackTraces = false) (D : va_G) (ca : Nat → ClassId) (a_t a_t_generator a_t_program a_t_costs a_t_history a_t_machine a_t_tidier a_t_listing : Nat) (sz : Nat) (x1 : Int32) (Q : Int32 → Prop) (QX : String → Prop) (h : wX8_firstFloatError x1 Q QX) : vx_Met l yX8_firstFloatError (Cond.code yX8_firstFloatError cX8_firstFloatError 2 (some .int) :: wsG) ({ frames := 7, cells := 1, slots := 6, locals := 112 } : Room) (va_Pc [.ref a_t, .int x1] (xPre D ca [(a_t, .inr (6, [.ref a_t_generator, .ref a_t_program, .ref a_t_costs, .ref a_t_history, .ref a_t_machine, .ref a_t_tidier, .ref a_t_listing]))] sz)) (qX8_firstFloatError D ca a_t a_t_generator a_t_program a_t_costs a_t_history a_t_machine a_t_tidier a_t_listing Q (va_A [(a_t, .inr (6, [.ref a_t_generator, .ref a_t_program, .ref a_t_costs, .ref a_t_history, .ref a_t_machine, .ref a_t_tidier, .ref a_t_listing]))] sz)) (xEnd D ca [(a_t, .inr (6, [.ref a_t_generator, .ref a_t_program, .ref a_t_costs, .ref a_t_history, .ref a_t_machine, .ref a_t_tidier, .ref a_t_listing]))] QX (va_A [(a_t, .inr (6, [.ref a_t_generator, .ref a_t_program, .ref a_t_costs, .ref a_t_history, .ref a_t_machine, .ref a_t_tidier, .ref a_t_listing]))] sz)) 1 6 (va_A [(a_t, .inr (6, [.ref a_t_generator, .ref a_t_program, .ref a_t_costs, .ref a_t_history, .ref a_t_machine, .ref a_t_tidier, .ref a_t_listing]))] sz) := by
  refine vx_ofW (cc := cX8_firstFloatError) (maxL := 2) (ret := (some .int)) (by decide) rfl ?_
  intro p e s m args below meth c s₁ B hml htab hv
  obtain ⟨rfl, ⟨hsz, hP, hK, hD0⟩, hX⟩ := hv
  have hx := B.exec
  have hb := B.bytes
  have hr := B.returns
  have hts := atoms_spec (ws := (Cond.code yX8_firstFloatError cX8_firstFloatError 2 (some .int) :: wsG)) B.pre
  have hq : ∀ w ∈ wsG, w.before _ s = true := fun w hw => hts w (List.mem_cons_of_mem _ hw)
  have hown : s.vm.findClass RX8 = some m.cls := findClass_of_methodNamed B.named
  have hlocks := B.notSynchronized
  subst hsz
  have hD := hD0.self (sz := s.heap.size)
  generalize hAe : va_A [(a_t, .inr (6, [.ref a_t_generator, .ref a_t_program, .ref a_t_costs, .ref a_t_history, .ref a_t_machine, .ref a_t_tidier, .ref a_t_listing]))] s.heap.size = A at hD hX ⊢
  have hA : ∀ q : Nat, s.heap.size ≤ q → A q := fun q h => by rw [← hAe]; exact Or.inr h
  have hS : va_S A s.heap s.heap [] := va_S.rf
  have hP : va_P D vwCl [(a_t, .inr (6, [.ref a_t_generator, .ref a_t_program, .ref a_t_costs, .ref a_t_history, .ref a_t_machine, .ref a_t_tidier, .ref a_t_listing]))] s.heap := hP
  have hl := lv_entry ([.ref a_t, .int x1]) (n := 2) (Nat.le_of_ble_eq_true rfl)
  rw [lg_entry_eq]
  generalize (lg_sl ([.ref a_t, .int x1]) ++ List.replicate (2 - (lg_sl ([.ref a_t, .int x1])).length) Slot.unset).toArray = ls at hl ⊢
  have hl : lv_has ls 2 [(0, .ref a_t), (1, .int x1)] := hl
  unfold wX8_firstFloatError at h
  refine lv_iload_n hx hb dX8_firstFloatError_0 rfl (lv_at hl 1 rfl) ?_
  refine lv_iconst (v := 1) hx hb dX8_firstFloatError_1 (by decide) ?_
  refine lv_ldc (v := 65535) hx hb hown (hq _ q_819) dX8_firstFloatError_2 ?_
  refine xPv (As := [.int x1, .int 1, .int 65535]) (rest := []) ⟨hx, hb, hml, hown, hts⟩ (mX8_requireFromTo l hl0 x1 1 65535 _ _ h) (va_cwS 3 hts (gS q_392 q_393 q_1 q_394) rfl rfl rfl (by decide +kernel) ⟨Nat.le_of_ble_eq_true rfl, Nat.le_of_ble_eq_true rfl⟩) hX hS rfl hl.1 rfl (Nat.le_of_ble_eq_true rfl) dX8_firstFloatError_4 ⟨Nat.le_of_ble_eq_true rfl, Nat.le_of_ble_eq_true rfl⟩ (fun E ce q9 H1 locs hE hk1 hS h1 h2 h3 => x_out htab hlocks hK (s_back hP hk1) hD hS hE h1 h2 h3 (Nat.le_of_ble_eq_true rfl) (Nat.le_of_ble_eq_true rfl)) (fun H1 locs h hk1 hS => ?_)
  have hP := s_back hP hk1
  try dsimp only at h
  refine lv_fconst1 hx hb dX8_firstFloatError_7 ?_
  refine lv_iload_n hx hb dX8_firstFloatError_8 rfl (lv_at hl 1 rfl) ?_
  refine lv_i2f hx hb dX8_firstFloatError_9 ?_
  obtain ⟨hne9, h⟩ := h
  refine lv_fdiv hx hb dX8_firstFloatError_10 hne9 ?_
  refine lv_iload_n hx hb dX8_firstFloatError_11 rfl (lv_at hl 1 rfl) ?_
  refine lv_ldc (v := 200000) hx hb hown (hq _ q_853) dX8_firstFloatError_12 ?_
  refine cPi (As := [.float (FP.fdiv FP.fconst1 (FP.i2f x1)), .int x1, .int 200000]) (rest := []) ⟨hx, hb, hml, hown, hts⟩ (mX6_firstFloatMiss l (FP.fdiv FP.fconst1 (FP.i2f x1)) x1 200000 _ h) (va_cwS 3 hts (gS q_854 q_855 q_23 q_856) rfl rfl rfl (by decide +kernel) ⟨Nat.le_of_ble_eq_true rfl, Nat.le_of_ble_eq_true rfl⟩) hS rfl hl.1 rfl (Nat.le_of_ble_eq_true rfl) dX8_firstFloatError_14 ⟨Nat.le_of_ble_eq_true rfl, Nat.le_of_ble_eq_true rfl⟩ (fun r_14 H1 locs h hk1 hS => ?_)
  have hP := s_back hP hk1
  try dsimp only at h
  refine W.widen (k := 1) (n := 6) (Nat.le_of_ble_eq_true rfl) (Nat.le_of_ble_eq_true rfl) ?_
  refine vx_ret ?_
  exact W.iret (v := r_14) hx hb hr (fun t ht hW => ⟨⟨r_14, (), rfl, h, by rw [ht]; exact hP, va_K.moved hW.alike hK, hD⟩, hS.F ht⟩) hS.2.2 dX8_firstFloatError_17

abbrev qX8_firstDoubleError (D : va_G) (ca : Nat → ClassId) (a_t a_t_generator a_t_program a_t_costs a_t_history a_t_machine a_t_tidier a_t_listing : Nat) (Q : Int32 → Prop) (A : Nat → Prop) : Array Value → State → Outcome → State → Prop := va_Qi (fun (r : Int32) (_ : Unit) => Q r) (wEnd D ca (fun _ : Unit => [(a_t, .inr (6, [.ref a_t_generator, .ref a_t_program, .ref a_t_costs, .ref a_t_history, .ref a_t_machine, .ref a_t_tidier, .ref a_t_listing]))]) A) A
def wX8_firstDoubleError (x1 : Int32) (Q : Int32 → Prop) (QX : String → Prop) : Prop :=
  wX8_requireFromTo x1 1 65535 ((vf_n64 (FP.ddiv FP.dconst1 (FP.i2d x1)) ∧ wX6_firstDoubleMiss (FP.ddiv FP.dconst1 (FP.i2d x1)) x1 200000 (fun r_14 => Q r_14))) QX
set_option maxHeartbeats 4000000 in
set_option maxRecDepth 100000 in
theorem mX8_firstDoubleError (l : Launch) (hl0 : l.stackTraces = false) (D : va_G) (ca : Nat → ClassId) (a_t a_t_generator a_t_program a_t_costs a_t_history a_t_machine a_t_tidier a_t_listing : Nat) (sz : Nat) (x1 : Int32) (Q : Int32 → Prop) (QX : String → Prop) (h : wX8_firstDoubleError x1 Q QX) : vx_Met l yX8_firstDoubleError (Cond.code yX8_firstDoubleError cX8_firstDoubleError 2 (some .int) :: wsG) ({ frames := 7, cells := 1, slots := 6, locals := 112 } : Room) (va_Pc [.ref a_t, .int x1] (xPre D ca [(a_t, .inr (6, [.ref a_t_generator, .ref a_t_program, .ref a_t_costs, .ref a_t_history, .ref a_t_machine, .ref a_t_tidier, .ref a_t_listing]))] sz)) (qX8_firstDoubleError D ca a_t a_t_generator a_t_program a_t_costs a_t_history a_t_machine a_t_tidier a_t_listing Q (va_A [(a_t, .inr (6, [.ref a_t_generator, .ref a_t_program, .ref a_t_costs, .ref a_t_history, .ref a_t_machine, .ref a_t_tidier, .ref a_t_listing]))] sz)) (xEnd D ca [(a_t, .inr (6, [.ref a_t_generator, .ref a_t_program, .ref a_t_costs, .ref a_t_history, .ref a_t_machine, .ref a_t_tidier, .ref a_t_listing]))] QX (va_A [(a_t, .inr (6, [.ref a_t_generator, .ref a_t_program, .ref a_t_costs, .ref a_t_history, .ref a_t_machine, .ref a_t_tidier, .ref a_t_listing]))] sz)) 1 6 (va_A [(a_t, .inr (6, [.ref a_t_generator, .ref a_t_program, .ref a_t_costs, .ref a_t_history, .ref a_t_machine, .ref a_t_tidier, .ref a_t_listing]))] sz) := by
  refine vx_ofW (cc := cX8_firstDoubleError) (maxL := 2) (ret := (some .int)) (by decide) rfl ?_
  intro p e s m args below meth c s₁ B hml htab hv
  obtain ⟨rfl, ⟨hsz, hP, hK, hD0⟩, hX⟩ := hv
  have hx := B.exec
  have hb := B.bytes
  have hr := B.returns
  have hts := atoms_spec (ws := (Cond.code yX8_firstDoubleError cX8_firstDoubleError 2 (some .int) :: wsG)) B.pre
  have hq : ∀ w ∈ wsG, w.before _ s = true := fun w hw => hts w (List.mem_cons_of_mem _ hw)
  have hown : s.vm.findClass RX8 = some m.cls := findClass_of_methodNamed B.named
  have hlocks := B.notSynchronized
  subst hsz
  have hD := hD0.self (sz := s.heap.size)
  generalize hAe : va_A [(a_t, .inr (6, [.ref a_t_generator, .ref a_t_program, .ref a_t_costs, .ref a_t_history, .ref a_t_machine, .ref a_t_tidier, .ref a_t_listing]))] s.heap.size = A at hD hX ⊢
  have hA : ∀ q : Nat, s.heap.size ≤ q → A q := fun q h => by rw [← hAe]; exact Or.inr h
  have hS : va_S A s.heap s.heap [] := va_S.rf
  have hP : va_P D vwCl [(a_t, .inr (6, [.ref a_t_generator, .ref a_t_program, .ref a_t_costs, .ref a_t_history, .ref a_t_machine, .ref a_t_tidier, .ref a_t_listing]))] s.heap := hP
  have hl := lv_entry ([.ref a_t, .int x1]) (n := 2) (Nat.le_of_ble_eq_true rfl)
  rw [lg_entry_eq]
  generalize (lg_sl ([.ref a_t, .int x1]) ++ List.replicate (2 - (lg_sl ([.ref a_t, .int x1])).length) Slot.unset).toArray = ls at hl ⊢
  have hl : lv_has ls 2 [(0, .ref a_t), (1, .int x1)] := hl
  unfold wX8_firstDoubleError at h
  refine lv_iload_n hx hb dX8_firstDoubleError_0 rfl (lv_at hl 1 rfl) ?_
  refine lv_iconst (v := 1) hx hb dX8_firstDoubleError_1 (by decide) ?_
  refine lv_ldc (v := 65535) hx hb hown (hq _ q_819) dX8_firstDoubleError_2 ?_
  refine xPv (As := [.int x1, .int 1, .int 65535]) (rest := []) ⟨hx, hb, hml, hown, hts⟩ (mX8_requireFromTo l hl0 x1 1 65535 _ _ h) (va_cwS 3 hts (gS q_392 q_393 q_1 q_394) rfl rfl rfl (by decide +kernel) ⟨Nat.le_of_ble_eq_true rfl, Nat.le_of_ble_eq_true rfl⟩) hX hS rfl hl.1 rfl (Nat.le_of_ble_eq_true rfl) dX8_firstDoubleError_4 ⟨Nat.le_of_ble_eq_true rfl, Nat.le_of_ble_eq_true rfl⟩ (fun E ce q9 H1 locs hE hk1 hS h1 h2 h3 => x_out htab hlocks hK (s_back hP hk1) hD hS hE h1 h2 h3 (Nat.le_of_ble_eq_true rfl) (Nat.le_of_ble_eq_true rfl)) (fun H1 locs h hk1 hS => ?_)
  have hP := s_back hP hk1
  try dsimp only at h
  refine lv_dconst1 hx hb dX8_firstDoubleError_7 ?_
  refine lv_iload_n hx hb dX8_firstDoubleError_8 rfl (lv_at hl 1 rfl) ?_
  refine lv_i2d hx hb dX8_firstDoubleError_9 ?_
  obtain ⟨hne9, h⟩ := h
  refine lv_ddiv hx hb dX8_firstDoubleError_10 hne9 ?_
  refine lv_iload_n hx hb dX8_firstDoubleError_11 rfl (lv_at hl 1 rfl) ?_
  refine lv_ldc (v := 200000) hx hb hown (hq _ q_853) dX8_firstDoubleError_12 ?_
  refine cPi (As := [.double (FP.ddiv FP.dconst1 (FP.i2d x1)), .int x1, .int 200000]) (rest := []) ⟨hx, hb, hml, hown, hts⟩ (mX6_firstDoubleMiss l (FP.ddiv FP.dconst1 (FP.i2d x1)) x1 200000 _ h) (va_cwS 3 hts (gS q_864 q_865 q_23 q_866) rfl rfl rfl (by decide +kernel) ⟨Nat.le_of_ble_eq_true rfl, Nat.le_of_ble_eq_true rfl⟩) hS rfl hl.1 rfl (Nat.le_of_ble_eq_true rfl) dX8_firstDoubleError_14 ⟨Nat.le_of_ble_eq_true rfl, Nat.le_of_ble_eq_true rfl⟩ (fun r_14 H1 locs h hk1 hS => ?_)
  have hP := s_back hP hk1
  try dsimp only at h
  refine W.widen (k := 1) (n := 6) (Nat.le_of_ble_eq_true rfl) (Nat.le_of_ble_eq_true rfl) ?_
  refine vx_ret ?_
  exact W.iret (v := r_14) hx hb hr (fun t ht hW => ⟨⟨r_14, (), rfl, h, by rw [ht]; exact hP, va_K.moved hW.alike hK, hD⟩, hS.F ht⟩) hS.2.2 dX8_firstDoubleError_17

abbrev qX8_leastRaise (D : va_G) (ca : Nat → ClassId) (a_t a_t_generator a_t_program a_t_costs a_t_history a_t_machine a_t_tidier a_t_listing a_t_program_operations a_t_program_firsts a_t_program_seconds : Nat) (t_program_width : Int32) (t_program_length : Int32) (t_program_result : Int32) (t_program_taskKind : Int32) (t_program_taskDivisor : Int32) (Q : Int32 → Prop) (A : Nat → Prop) : Array Value → State → Outcome → State → Prop := va_Qi (fun (r : Int32) (_ : Unit) => Q r) (wEnd D ca (fun _ : Unit => [(a_t, .inr (6, [.ref a_t_generator, .ref a_t_program, .ref a_t_costs, .ref a_t_history, .ref a_t_machine, .ref a_t_tidier, .ref a_t_listing])), (a_t_program, .inr (4, [.int t_program_width, .int t_program_length, .int t_program_result, .int t_program_taskKind, .int t_program_taskDivisor, .ref a_t_program_operations, .ref a_t_program_firsts, .ref a_t_program_seconds]))]) A) A
def wX8_leastRaise_9 (t_program_width : Int32) (x1 : Int32) (Q : Int32 → Prop) : Nat → Int32 → Prop
  | 0, _ => False
  | n9 + 1, x2_9 =>
  ((20 < x2_9 → Q ((-1))) ∧ (¬ 20 < x2_9 → (vf_n32 (FP.fdiv FP.fconst1 (FP.i2f x1)) ∧ (vf_n32 (FP.fdiv (FP.i2f x2_9) 1258291200) ∧ (vf_n32 (FP.fadd FP.fconst1 (FP.fdiv (FP.i2f x2_9) 1258291200)) ∧ (vf_n32 (FP.fmul (FP.fdiv FP.fconst1 (FP.i2f x1)) (FP.fadd FP.fconst1 (FP.fdiv (FP.i2f x2_9) 1258291200))) ∧ (∀ x3_27 : UInt32, x3_27 = FP.fmul (FP.fdiv FP.fconst1 (FP.i2f x1)) (FP.fadd FP.fconst1 (FP.fdiv (FP.i2f x2_9) 1258291200)) → wX8_greatestValue t_program_width (fun r_31 => wX6_firstFloatMiss x3_27 x1 r_31 (fun r_34 => ((r_34 = ((-1)) → Q x2_9) ∧ (¬ r_34 = ((-1)) → (∀ x2_43 : Int32, x2_43 = x2_9 + 1 → (wX8_leastRaise_9 t_program_width x1 Q n9) x2_43))))))))))))
def wX8_leastRaise (t_program_width : Int32) (x1 : Int32) (Q : Int32 → Prop) (QX : String → Prop) : Prop :=
  wX8_requireFromTo x1 1 65535 ((∃ k9, wX8_leastRaise_9 t_program_width x1 Q k9 0)) QX
set_option maxHeartbeats 4000000 in
set_option maxRecDepth 100000 in
theorem mX8_leastRaise (l : Launch) (hl0 : l.stackTraces = false) (D : va_G) (ca : Nat → ClassId) (a_t a_t_generator a_t_program a_t_costs a_t_history a_t_machine a_t_tidier a_t_listing a_t_program_operations a_t_program_firsts a_t_program_seconds : Nat) (sz : Nat) (t_program_width : Int32) (t_program_length : Int32) (t_program_result : Int32) (t_program_taskKind : Int32) (t_program_taskDivisor : Int32) (x1 : Int32) (Q : Int32 → Prop) (QX : String → Prop) (h : wX8_leastRaise t_program_width x1 Q QX) : vx_Met l yX8_leastRaise (Cond.code yX8_leastRaise cX8_leastRaise 4 (some .int) :: wsG) ({ frames := 7, cells := 1, slots := 6, locals := 112 } : Room) (va_Pc [.ref a_t, .int x1] (xPre D ca [(a_t, .inr (6, [.ref a_t_generator, .ref a_t_program, .ref a_t_costs, .ref a_t_history, .ref a_t_machine, .ref a_t_tidier, .ref a_t_listing])), (a_t_program, .inr (4, [.int t_program_width, .int t_program_length, .int t_program_result, .int t_program_taskKind, .int t_program_taskDivisor, .ref a_t_program_operations, .ref a_t_program_firsts, .ref a_t_program_seconds]))] sz)) (qX8_leastRaise D ca a_t a_t_generator a_t_program a_t_costs a_t_history a_t_machine a_t_tidier a_t_listing a_t_program_operations a_t_program_firsts a_t_program_seconds t_program_width t_program_length t_program_result t_program_taskKind t_program_taskDivisor Q (va_A [(a_t, .inr (6, [.ref a_t_generator, .ref a_t_program, .ref a_t_costs, .ref a_t_history, .ref a_t_machine, .ref a_t_tidier, .ref a_t_listing])), (a_t_program, .inr (4, [.int t_program_width, .int t_program_length, .int t_program_result, .int t_program_taskKind, .int t_program_taskDivisor, .ref a_t_program_operations, .ref a_t_program_firsts, .ref a_t_program_seconds]))] sz)) (xEnd D ca [(a_t, .inr (6, [.ref a_t_generator, .ref a_t_program, .ref a_t_costs, .ref a_t_history, .ref a_t_machine, .ref a_t_tidier, .ref a_t_listing])), (a_t_program, .inr (4, [.int t_program_width, .int t_program_length, .int t_program_result, .int t_program_taskKind, .int t_program_taskDivisor, .ref a_t_program_operations, .ref a_t_program_firsts, .ref a_t_program_seconds]))] QX (va_A [(a_t, .inr (6, [.ref a_t_generator, .ref a_t_program, .ref a_t_costs, .ref a_t_history, .ref a_t_machine, .ref a_t_tidier, .ref a_t_listing])), (a_t_program, .inr (4, [.int t_program_width, .int t_program_length, .int t_program_result, .int t_program_taskKind, .int t_program_taskDivisor, .ref a_t_program_operations, .ref a_t_program_firsts, .ref a_t_program_seconds]))] sz)) 1 6 (va_A [(a_t, .inr (6, [.ref a_t_generator, .ref a_t_program, .ref a_t_costs, .ref a_t_history, .ref a_t_machine, .ref a_t_tidier, .ref a_t_listing])), (a_t_program, .inr (4, [.int t_program_width, .int t_program_length, .int t_program_result, .int t_program_taskKind, .int t_program_taskDivisor, .ref a_t_program_operations, .ref a_t_program_firsts, .ref a_t_program_seconds]))] sz) := by
  refine vx_ofW (cc := cX8_leastRaise) (maxL := 4) (ret := (some .int)) (by decide) rfl ?_
  intro p e s m args below meth c s₁ B hml htab hv
  obtain ⟨rfl, ⟨hsz, hP, hK, hD0⟩, hX⟩ := hv
  have hx := B.exec
  have hb := B.bytes
  have hr := B.returns
  have hts := atoms_spec (ws := (Cond.code yX8_leastRaise cX8_leastRaise 4 (some .int) :: wsG)) B.pre
  have hq : ∀ w ∈ wsG, w.before _ s = true := fun w hw => hts w (List.mem_cons_of_mem _ hw)
  have hown : s.vm.findClass RX8 = some m.cls := findClass_of_methodNamed B.named
  have hlocks := B.notSynchronized
  subst hsz
  have hD := hD0.self (sz := s.heap.size)
  generalize hAe : va_A [(a_t, .inr (6, [.ref a_t_generator, .ref a_t_program, .ref a_t_costs, .ref a_t_history, .ref a_t_machine, .ref a_t_tidier, .ref a_t_listing])), (a_t_program, .inr (4, [.int t_program_width, .int t_program_length, .int t_program_result, .int t_program_taskKind, .int t_program_taskDivisor, .ref a_t_program_operations, .ref a_t_program_firsts, .ref a_t_program_seconds]))] s.heap.size = A at hD hX ⊢
  have hA : ∀ q : Nat, s.heap.size ≤ q → A q := fun q h => by rw [← hAe]; exact Or.inr h
  have hS : va_S A s.heap s.heap [] := va_S.rf
  have hP : va_P D vwCl [(a_t, .inr (6, [.ref a_t_generator, .ref a_t_program, .ref a_t_costs, .ref a_t_history, .ref a_t_machine, .ref a_t_tidier, .ref a_t_listing])), (a_t_program, .inr (4, [.int t_program_width, .int t_program_length, .int t_program_result, .int t_program_taskKind, .int t_program_taskDivisor, .ref a_t_program_operations, .ref a_t_program_firsts, .ref a_t_program_seconds]))] s.heap := hP
  have hl := lv_entry ([.ref a_t, .int x1]) (n := 4) (Nat.le_of_ble_eq_true rfl)
  rw [lg_entry_eq]
  generalize (lg_sl ([.ref a_t, .int x1]) ++ List.replicate (4 - (lg_sl ([.ref a_t, .int x1])).length) Slot.unset).toArray = ls at hl ⊢
  have hl : lv_has ls 4 [(0, .ref a_t), (1, .int x1)] := hl
  unfold wX8_leastRaise at h
  refine lv_iload_n hx hb dX8_leastRaise_0 rfl (lv_at hl 1 rfl) ?_
  refine lv_iconst (v := 1) hx hb dX8_leastRaise_1 (by decide) ?_
  refine lv_ldc (v := 65535) hx hb hown (hq _ q_819) dX8_leastRaise_2 ?_
  refine xPv (As := [.int x1, .int 1, .int 65535]) (rest := []) ⟨hx, hb, hml, hown, hts⟩ (mX8_requireFromTo l hl0 x1 1 65535 _ _ h) (va_cwS 3 hts (gS q_392 q_393 q_1 q_394) rfl rfl rfl (by decide +kernel) ⟨Nat.le_of_ble_eq_true rfl, Nat.le_of_ble_eq_true rfl⟩) hX hS rfl hl.1 rfl (Nat.le_of_ble_eq_true rfl) dX8_leastRaise_4 ⟨Nat.le_of_ble_eq_true rfl, Nat.le_of_ble_eq_true rfl⟩ (fun E ce q9 H1 locs hE hk1 hS h1 h2 h3 => x_out htab hlocks hK (s_back hP hk1) hD hS hE h1 h2 h3 (Nat.le_of_ble_eq_true rfl) (Nat.le_of_ble_eq_true rfl)) (fun H1 locs h hk1 hS => ?_)
  have hP := s_back hP hk1
  try dsimp only at h
  refine lv_iconst (v := 0) hx hb dX8_leastRaise_7 (by decide) ?_
  refine lv_istore_n (lv' := [(2, .int 0), (0, .ref a_t), (1, .int x1)]) hx hb dX8_leastRaise_8 rfl hl (by decide) rfl (fun ls hl => ?_)
  have hL9 : ∀ (n9_9 : Nat) (x2_9 : Int32) (H : Heap) (locs : List Loc) (ls : Array Slot), va_P D vwCl [(a_t, .inr (6, [.ref a_t_generator, .ref a_t_program, .ref a_t_costs, .ref a_t_history, .ref a_t_machine, .ref a_t_tidier, .ref a_t_listing])), (a_t_program, .inr (4, [.int t_program_width, .int t_program_length, .int t_program_result, .int t_program_taskKind, .int t_program_taskDivisor, .ref a_t_program_operations, .ref a_t_program_firsts, .ref a_t_program_seconds]))] H → va_D A [(a_t, .inr (6, [.ref a_t_generator, .ref a_t_program, .ref a_t_costs, .ref a_t_history, .ref a_t_machine, .ref a_t_tidier, .ref a_t_listing])), (a_t_program, .inr (4, [.int t_program_width, .int t_program_length, .int t_program_result, .int t_program_taskKind, .int t_program_taskDivisor, .ref a_t_program_operations, .ref a_t_program_firsts, .ref a_t_program_seconds]))] → va_S A s.heap H locs → lv_has ls 4 [(0, .ref a_t), (1, .int x1), (2, .int x2_9)] → wX8_leastRaise_9 t_program_width x1 Q n9_9 x2_9 → W p l e (headSpec (Cond.code yX8_leastRaise cX8_leastRaise 4 (some .int) :: wsG) ({ frames := 7, cells := 1, slots := 6, locals := 112 } : Room)).room s m ([.ref a_t, .int x1] : List Value).toArray below meth c H locs 1 6 (vx_MQ below (qX8_leastRaise D ca a_t a_t_generator a_t_program a_t_costs a_t_history a_t_machine a_t_tidier a_t_listing a_t_program_operations a_t_program_firsts a_t_program_seconds t_program_width t_program_length t_program_result t_program_taskKind t_program_taskDivisor Q A) (xEnd D ca [(a_t, .inr (6, [.ref a_t_generator, .ref a_t_program, .ref a_t_costs, .ref a_t_history, .ref a_t_machine, .ref a_t_tidier, .ref a_t_listing])), (a_t_program, .inr (4, [.int t_program_width, .int t_program_length, .int t_program_result, .int t_program_taskKind, .int t_program_taskDivisor, .ref a_t_program_operations, .ref a_t_program_firsts, .ref a_t_program_seconds]))] QX A) ([.ref a_t, .int x1] : List Value).toArray s 1 6 A) (F0 m 9 ls []) := by
    intro n9_9
    induction n9_9 with
    | zero =>
      intro x2_9 H locs ls hP hD hS hl h
      exact False.elim h
    | succ n9_9 ih9 =>
      intro x2_9 H locs ls hP hD hS hl h
      unfold wX8_leastRaise_9 at h
      refine lv_iload_n hx hb dX8_leastRaise_9 rfl (lv_at hl 2 rfl) ?_
      refine lv_bipush (v := 20) hx hb dX8_leastRaise_10 (by decide) ?_
      refine lv_icmp_gt (tgt := 49) hx hb dX8_leastRaise_12 (by decide) (fun c9 => ?_) (fun c9 => ?_)
      · have h := h.1 c9
        refine lv_iconst (v := (-1)) hx hb dX8_leastRaise_49 (by decide) ?_
        refine W.widen (k := 1) (n := 6) (Nat.le_of_ble_eq_true rfl) (Nat.le_of_ble_eq_true rfl) ?_
        refine vx_ret ?_
        exact W.iret (v := (-1)) hx hb hr (fun t ht hW => ⟨⟨(-1), (), rfl, h, by rw [ht]; exact hP, va_K.moved hW.alike hK, hD⟩, hS.F ht⟩) hS.2.2 dX8_leastRaise_50
      · have h := h.2 c9
        refine lv_fconst1 hx hb dX8_leastRaise_15 ?_
        refine lv_iload_n hx hb dX8_leastRaise_16 rfl (lv_at hl 1 rfl) ?_
        refine lv_i2f hx hb dX8_leastRaise_17 ?_
        obtain ⟨hne9, h⟩ := h
        refine lv_fdiv hx hb dX8_leastRaise_18 hne9 ?_
        refine lv_fconst1 hx hb dX8_leastRaise_19 ?_
        refine lv_iload_n hx hb dX8_leastRaise_20 rfl (lv_at hl 2 rfl) ?_
        refine lv_i2f hx hb dX8_leastRaise_21 ?_
        refine lv_ldcf (v := 1258291200) hx hb hown (hq _ q_874) dX8_leastRaise_22 ?_
        obtain ⟨hne9, h⟩ := h
        refine lv_fdiv hx hb dX8_leastRaise_24 hne9 ?_
        obtain ⟨hne9, h⟩ := h
        refine lv_fadd hx hb dX8_leastRaise_25 hne9 ?_
        obtain ⟨hne9, h⟩ := h
        refine lv_fmul hx hb dX8_leastRaise_26 hne9 ?_
        refine lv_topf (fun x3_27 ex3_27 => ?_)
        have h := h x3_27 ex3_27
        refine lv_fstore_n (lv' := [(3, .float x3_27), (0, .ref a_t), (1, .int x1), (2, .int x2_9)]) hx hb dX8_leastRaise_27 rfl hl (by decide) rfl (fun ls hl => ?_)
        refine lv_fload_n hx hb dX8_leastRaise_28 rfl (lv_at hl 0 rfl) ?_
        refine lv_iload_n hx hb dX8_leastRaise_29 rfl (lv_at hl 2 rfl) ?_
        refine lv_aload_n hx hb dX8_leastRaise_30 rfl (lv_at hl 1 rfl) ?_
        refine cVi (As := []) (rest := [.int x1, .float x3_27]) (wc := [(a_t, .inr (6, [.ref a_t_generator, .ref a_t_program, .ref a_t_costs, .ref a_t_history, .ref a_t_machine, .ref a_t_tidier, .ref a_t_listing])), (a_t_program, .inr (4, [.int t_program_width, .int t_program_length, .int t_program_result, .int t_program_taskKind, .int t_program_taskDivisor, .ref a_t_program_operations, .ref a_t_program_firsts, .ref a_t_program_seconds]))]) (wr := []) (w1 := fun _ : Unit => [(a_t, .inr (6, [.ref a_t_generator, .ref a_t_program, .ref a_t_costs, .ref a_t_history, .ref a_t_machine, .ref a_t_tidier, .ref a_t_listing])), (a_t_program, .inr (4, [.int t_program_width, .int t_program_length, .int t_program_result, .int t_program_taskKind, .int t_program_taskDivisor, .ref a_t_program_operations, .ref a_t_program_firsts, .ref a_t_program_seconds]))]) (ws2 := fun _ : Unit => [(a_t, .inr (6, [.ref a_t_generator, .ref a_t_program, .ref a_t_costs, .ref a_t_history, .ref a_t_machine, .ref a_t_tidier, .ref a_t_listing])), (a_t_program, .inr (4, [.int t_program_width, .int t_program_length, .int t_program_result, .int t_program_taskKind, .int t_program_taskDivisor, .ref a_t_program_operations, .ref a_t_program_firsts, .ref a_t_program_seconds]))]) ⟨hx, hb, hml, hown, hts⟩ (mX8_greatestValue l D ca a_t a_t_generator a_t_program a_t_costs a_t_history a_t_machine a_t_tidier a_t_listing a_t_program_operations a_t_program_firsts a_t_program_seconds _ t_program_width t_program_length t_program_result t_program_taskKind t_program_taskDivisor _ h) (cwV 0 hts (gV q_388 q_390 qs_5 q_1 q_391) rfl rfl rfl (by decide +kernel) ⟨Nat.le_of_ble_eq_true rfl, Nat.le_of_ble_eq_true rfl⟩) hK hP hD hS hA [0, 1] [] [0, 1] rfl rfl rfl (by decide) (fun _ => rfl) (ci := 6) (q0 := 0) rfl rfl rfl hl.1 rfl (Nat.le_of_ble_eq_true rfl) dX8_leastRaise_31 ⟨Nat.le_of_ble_eq_true rfl, Nat.le_of_ble_eq_true rfl⟩ (fun r_31 u9 H locs h hP hD hS => ?_)
        try dsimp only at h
        refine cPi (As := [.float x3_27, .int x1, .int r_31]) (rest := []) ⟨hx, hb, hml, hown, hts⟩ (mX6_firstFloatMiss l x3_27 x1 r_31 _ h) (va_cwS 3 hts (gS q_854 q_855 q_23 q_856) rfl rfl rfl (by decide +kernel) ⟨Nat.le_of_ble_eq_true rfl, Nat.le_of_ble_eq_true rfl⟩) hS rfl hl.1 rfl (Nat.le_of_ble_eq_true rfl) dX8_leastRaise_34 ⟨Nat.le_of_ble_eq_true rfl, Nat.le_of_ble_eq_true rfl⟩ (fun r_34 H1 locs h hk1 hS => ?_)
        have hP := s_back hP hk1
        try dsimp only at h
        refine lv_iconst (v := (-1)) hx hb dX8_leastRaise_37 (by decide) ?_
        refine lv_icmp_ne (tgt := 43) hx hb dX8_leastRaise_38 (by decide) (fun c9 => ?_) (fun c9 => ?_)
        · have h := h.2 c9
          obtain ⟨x2_43, ex2_43⟩ : ∃ y : Int32, y = x2_9 + 1 := ⟨_, rfl⟩
          have h := h x2_43 ex2_43
          refine lv_iinc (v := x2_43) (lv' := [(2, .int x2_43), (3, .float x3_27), (0, .ref a_t), (1, .int x1)]) hx hb dX8_leastRaise_43 hl (k := 3) rfl (by rw [ex2_43]; rfl) (by decide) rfl (fun ls hl => ?_)
          refine lv_goto (tgt := 9) hx hb dX8_leastRaise_46 (by decide) ?_
          exact ih9 x2_43 _ _ _ hP hD hS (lv_sub hl [2, 3, 0] rfl) h
        · have h := h.1 c9
          refine lv_iload_n hx hb dX8_leastRaise_41 rfl (lv_at hl 3 rfl) ?_
          refine W.widen (k := 1) (n := 6) (Nat.le_of_ble_eq_true rfl) (Nat.le_of_ble_eq_true rfl) ?_
          refine vx_ret ?_
          exact W.iret (v := x2_9) hx hb hr (fun t ht hW => ⟨⟨x2_9, (), rfl, h, by rw [ht]; exact hP, va_K.moved hW.alike hK, hD⟩, hS.F ht⟩) hS.2.2 dX8_leastRaise_42
  obtain ⟨k9, h⟩ := h
  exact hL9 k9 0 _ _ _ hP hD hS (lv_sub hl [1, 2, 0] rfl) h

abbrev qX8_allowsTask (D : va_G) (ca : Nat → ClassId) (a_t a_t_generator a_t_program a_t_costs a_t_history a_t_machine a_t_tidier a_t_listing a_t_program_operations a_t_program_firsts a_t_program_seconds : Nat) (t_program_width : Int32) (t_program_length : Int32) (t_program_result : Int32) (t_program_taskKind : Int32) (t_program_taskDivisor : Int32) (Q : Int32 → Prop) (A : Nat → Prop) : Array Value → State → Outcome → State → Prop := va_Qi (fun (r : Int32) (_ : Unit) => Q r) (wEnd D ca (fun _ : Unit => [(a_t, .inr (6, [.ref a_t_generator, .ref a_t_program, .ref a_t_costs, .ref a_t_history, .ref a_t_machine, .ref a_t_tidier, .ref a_t_listing])), (a_t_program, .inr (4, [.int t_program_width, .int t_program_length, .int t_program_result, .int t_program_taskKind, .int t_program_taskDivisor, .ref a_t_program_operations, .ref a_t_program_firsts, .ref a_t_program_seconds]))]) A) A
def wX8_allowsTask (t_program_width : Int32) (x1 : Int32) (x2 : Int32) (Q : Int32 → Prop) : Prop :=
  wX8_greatestValue t_program_width (fun r_1 => (∀ x4_8 : Int32, x4_8 = r_1 >>> (1 &&& 31) → ((x1 = 0 ∨ x1 = 1 ∨ x1 = 5 → ((x2 < 1 → Q 0) ∧ (¬ x2 < 1 → ((r_1 < x2 → Q 0) ∧ (¬ r_1 < x2 → Q 1))))) ∧ (¬ (x1 = 0 ∨ x1 = 1 ∨ x1 = 5) → ((x1 = 2 ∨ x1 = 3 → ((x2 = 0 → Q 0) ∧ (¬ x2 = 0 → ((x2 < (((-1)) - x4_8) → Q 0) ∧ (¬ x2 < (((-1)) - x4_8) → ((x4_8 < x2 → Q 0) ∧ (¬ x4_8 < x2 → Q 1))))))) ∧ (¬ (x1 = 2 ∨ x1 = 3) → ((x1 = 4 → ((x2 < 1 → Q 0) ∧ (¬ x2 < 1 → ((x4_8 < x2 → Q 0) ∧ (¬ x4_8 < x2 → Q 1))))) ∧ (¬ (x1 = 4) → ((x1 = 6 → ((x2 < 2 → Q 0) ∧ (¬ x2 < 2 → ((r_1 < x2 → Q 0) ∧ (¬ r_1 < x2 → Q 1))))) ∧ (¬ (x1 = 6) → ((x1 = 7 → ((x2 < 0 → Q 0) ∧ (¬ x2 < 0 → ((r_1 < x2 → Q 0) ∧ (¬ r_1 < x2 → Q 1))))) ∧ (¬ (x1 = 7) → Q 0))))))))))))
set_option maxHeartbeats 4000000 in
set_option maxRecDepth 100000 in
theorem mX8_allowsTask (l : Launch) (D : va_G) (ca : Nat → ClassId) (a_t a_t_generator a_t_program a_t_costs a_t_history a_t_machine a_t_tidier a_t_listing a_t_program_operations a_t_program_firsts a_t_program_seconds : Nat) (sz : Nat) (t_program_width : Int32) (t_program_length : Int32) (t_program_result : Int32) (t_program_taskKind : Int32) (t_program_taskDivisor : Int32) (x1 : Int32) (x2 : Int32) (Q : Int32 → Prop) (h : wX8_allowsTask t_program_width x1 x2 Q) : Met l yX8_allowsTask (Cond.code yX8_allowsTask cX8_allowsTask 5 (some .boolean) :: wsG) ({ frames := 1, cells := 0, slots := 0, locals := 20 } : Room) (va_Pc [.ref a_t, .int x1, .int x2] (wPre D ca [(a_t, .inr (6, [.ref a_t_generator, .ref a_t_program, .ref a_t_costs, .ref a_t_history, .ref a_t_machine, .ref a_t_tidier, .ref a_t_listing])), (a_t_program, .inr (4, [.int t_program_width, .int t_program_length, .int t_program_result, .int t_program_taskKind, .int t_program_taskDivisor, .ref a_t_program_operations, .ref a_t_program_firsts, .ref a_t_program_seconds]))] sz)) (qX8_allowsTask D ca a_t a_t_generator a_t_program a_t_costs a_t_history a_t_machine a_t_tidier a_t_listing a_t_program_operations a_t_program_firsts a_t_program_seconds t_program_width t_program_length t_program_result t_program_taskKind t_program_taskDivisor Q (va_A [(a_t, .inr (6, [.ref a_t_generator, .ref a_t_program, .ref a_t_costs, .ref a_t_history, .ref a_t_machine, .ref a_t_tidier, .ref a_t_listing])), (a_t_program, .inr (4, [.int t_program_width, .int t_program_length, .int t_program_result, .int t_program_taskKind, .int t_program_taskDivisor, .ref a_t_program_operations, .ref a_t_program_firsts, .ref a_t_program_seconds]))] sz)) 0 0 (va_A [(a_t, .inr (6, [.ref a_t_generator, .ref a_t_program, .ref a_t_costs, .ref a_t_history, .ref a_t_machine, .ref a_t_tidier, .ref a_t_listing])), (a_t_program, .inr (4, [.int t_program_width, .int t_program_length, .int t_program_result, .int t_program_taskKind, .int t_program_taskDivisor, .ref a_t_program_operations, .ref a_t_program_firsts, .ref a_t_program_seconds]))] sz) := by
  refine Met.ofW (cc := cX8_allowsTask) (maxL := 5) (ret := (some .boolean)) (by decide) rfl ?_
  intro p e s m args below meth c s₁ B hml hv
  obtain ⟨rfl, hsz, hP, hK, hD0⟩ := hv
  have hx := B.exec
  have hb := B.bytes
  have hr := B.returns
  have hts := atoms_spec (ws := (Cond.code yX8_allowsTask cX8_allowsTask 5 (some .boolean) :: wsG)) B.pre
  have hq : ∀ w ∈ wsG, w.before _ s = true := fun w hw => hts w (List.mem_cons_of_mem _ hw)
  have hown : s.vm.findClass RX8 = some m.cls := findClass_of_methodNamed B.named
  have hlocks := B.notSynchronized
  subst hsz
  have hD := hD0.self (sz := s.heap.size)
  generalize hAe : va_A [(a_t, .inr (6, [.ref a_t_generator, .ref a_t_program, .ref a_t_costs, .ref a_t_history, .ref a_t_machine, .ref a_t_tidier, .ref a_t_listing])), (a_t_program, .inr (4, [.int t_program_width, .int t_program_length, .int t_program_result, .int t_program_taskKind, .int t_program_taskDivisor, .ref a_t_program_operations, .ref a_t_program_firsts, .ref a_t_program_seconds]))] s.heap.size = A at hD ⊢
  have hA : ∀ q : Nat, s.heap.size ≤ q → A q := fun q h => by rw [← hAe]; exact Or.inr h
  have hS : va_S A s.heap s.heap [] := va_S.rf
  have hP : va_P D vwCl [(a_t, .inr (6, [.ref a_t_generator, .ref a_t_program, .ref a_t_costs, .ref a_t_history, .ref a_t_machine, .ref a_t_tidier, .ref a_t_listing])), (a_t_program, .inr (4, [.int t_program_width, .int t_program_length, .int t_program_result, .int t_program_taskKind, .int t_program_taskDivisor, .ref a_t_program_operations, .ref a_t_program_firsts, .ref a_t_program_seconds]))] s.heap := hP
  have hl := lv_entry ([.ref a_t, .int x1, .int x2]) (n := 5) (Nat.le_of_ble_eq_true rfl)
  rw [lg_entry_eq]
  generalize (lg_sl ([.ref a_t, .int x1, .int x2]) ++ List.replicate (5 - (lg_sl ([.ref a_t, .int x1, .int x2])).length) Slot.unset).toArray = ls at hl ⊢
  have hl : lv_has ls 5 [(0, .ref a_t), (1, .int x1), (2, .int x2)] := hl
  unfold wX8_allowsTask at h
  refine lv_aload_n hx hb dX8_allowsTask_0 rfl (lv_at hl 0 rfl) ?_
  refine cVi (As := []) (rest := []) (wc := [(a_t, .inr (6, [.ref a_t_generator, .ref a_t_program, .ref a_t_costs, .ref a_t_history, .ref a_t_machine, .ref a_t_tidier, .ref a_t_listing])), (a_t_program, .inr (4, [.int t_program_width, .int t_program_length, .int t_program_result, .int t_program_taskKind, .int t_program_taskDivisor, .ref a_t_program_operations, .ref a_t_program_firsts, .ref a_t_program_seconds]))]) (wr := []) (w1 := fun _ : Unit => [(a_t, .inr (6, [.ref a_t_generator, .ref a_t_program, .ref a_t_costs, .ref a_t_history, .ref a_t_machine, .ref a_t_tidier, .ref a_t_listing])), (a_t_program, .inr (4, [.int t_program_width, .int t_program_length, .int t_program_result, .int t_program_taskKind, .int t_program_taskDivisor, .ref a_t_program_operations, .ref a_t_program_firsts, .ref a_t_program_seconds]))]) (ws2 := fun _ : Unit => [(a_t, .inr (6, [.ref a_t_generator, .ref a_t_program, .ref a_t_costs, .ref a_t_history, .ref a_t_machine, .ref a_t_tidier, .ref a_t_listing])), (a_t_program, .inr (4, [.int t_program_width, .int t_program_length, .int t_program_result, .int t_program_taskKind, .int t_program_taskDivisor, .ref a_t_program_operations, .ref a_t_program_firsts, .ref a_t_program_seconds]))]) ⟨hx, hb, hml, hown, hts⟩ (mX8_greatestValue l D ca a_t a_t_generator a_t_program a_t_costs a_t_history a_t_machine a_t_tidier a_t_listing a_t_program_operations a_t_program_firsts a_t_program_seconds _ t_program_width t_program_length t_program_result t_program_taskKind t_program_taskDivisor _ h) (cwV 0 hts (gV q_388 q_390 qs_5 q_1 q_391) rfl rfl rfl (by decide +kernel) ⟨Nat.le_of_ble_eq_true rfl, Nat.le_of_ble_eq_true rfl⟩) hK hP hD hS hA [0, 1] [] [0, 1] rfl rfl rfl (by decide) (fun _ => rfl) (ci := 6) (q0 := 0) rfl rfl rfl hl.1 rfl (Nat.le_of_ble_eq_true rfl) dX8_allowsTask_1 ⟨Nat.le_of_ble_eq_true rfl, Nat.le_of_ble_eq_true rfl⟩ (fun r_1 u9 H locs h hP hD hS => ?_)
  try dsimp only at h
  refine lv_istore_n (lv' := [(3, .int r_1), (0, .ref a_t), (1, .int x1), (2, .int x2)]) hx hb dX8_allowsTask_4 rfl hl (by decide) rfl (fun ls hl => ?_)
  refine lv_iload_n hx hb dX8_allowsTask_5 rfl (lv_at hl 0 rfl) ?_
  refine lv_iconst (v := 1) hx hb dX8_allowsTask_6 (by decide) ?_
  refine lv_ishr hx hb dX8_allowsTask_7 ?_
  refine lv_topi (fun x4_8 ex4_8 => ?_)
  have h := h x4_8 ex4_8
  refine lv_istore (lv' := [(4, .int x4_8), (3, .int r_1), (0, .ref a_t), (1, .int x1), (2, .int x2)]) hx hb dX8_allowsTask_8 hl (by decide) rfl (fun ls hl => ?_)
  refine lv_iload_n hx hb dX8_allowsTask_10 rfl (lv_at hl 3 rfl) ?_
  by_cases c9 : x1 = 0 ∨ x1 = 1 ∨ x1 = 5
  · have h := h.1 c9
    rcases c9 with c9 | c9 | c9
    · refine lv_tableIn (tgt := 56) hx hb dX8_allowsTask_11 (by rw [c9]; decide) (by rw [c9]; decide) (off := 45) (by rw [c9]; decide) (by decide) ?_
      refine lv_iload_n hx hb dX8_allowsTask_56 rfl (lv_at hl 4 rfl) ?_
      refine lv_iconst (v := 1) hx hb dX8_allowsTask_57 (by decide) ?_
      refine lv_icmp_lt (tgt := 70) hx hb dX8_allowsTask_58 (by decide) (fun c9 => ?_) (fun c9 => ?_)
      · have h := h.1 c9
        refine lv_iconst (v := 0) hx hb dX8_allowsTask_70 (by decide) ?_
        exact W.zret (v := 0) hx hb hr rfl (fun t ht hW => ⟨⟨0, (), rfl, h, by rw [ht]; exact hP, va_K.moved hW.alike hK, hD⟩, hS.F ht⟩) hS.2.2 dX8_allowsTask_71
      · have h := h.2 c9
        refine lv_iload_n hx hb dX8_allowsTask_61 rfl (lv_at hl 4 rfl) ?_
        refine lv_iload_n hx hb dX8_allowsTask_62 rfl (lv_at hl 1 rfl) ?_
        refine lv_icmp_gt (tgt := 70) hx hb dX8_allowsTask_63 (by decide) (fun c9 => ?_) (fun c9 => ?_)
        · have h := h.1 c9
          refine lv_iconst (v := 0) hx hb dX8_allowsTask_70 (by decide) ?_
          exact W.zret (v := 0) hx hb hr rfl (fun t ht hW => ⟨⟨0, (), rfl, h, by rw [ht]; exact hP, va_K.moved hW.alike hK, hD⟩, hS.F ht⟩) hS.2.2 dX8_allowsTask_71
        · have h := h.2 c9
          refine lv_iconst (v := 1) hx hb dX8_allowsTask_66 (by decide) ?_
          refine lv_goto (tgt := 71) hx hb dX8_allowsTask_67 (by decide) ?_
          exact W.zret (v := 1) hx hb hr rfl (fun t ht hW => ⟨⟨1, (), rfl, h, by rw [ht]; exact hP, va_K.moved hW.alike hK, hD⟩, hS.F ht⟩) hS.2.2 dX8_allowsTask_71
    · refine lv_tableIn (tgt := 56) hx hb dX8_allowsTask_11 (by rw [c9]; decide) (by rw [c9]; decide) (off := 45) (by rw [c9]; decide) (by decide) ?_
      refine lv_iload_n hx hb dX8_allowsTask_56 rfl (lv_at hl 4 rfl) ?_
      refine lv_iconst (v := 1) hx hb dX8_allowsTask_57 (by decide) ?_
      refine lv_icmp_lt (tgt := 70) hx hb dX8_allowsTask_58 (by decide) (fun c9 => ?_) (fun c9 => ?_)
      · have h := h.1 c9
        refine lv_iconst (v := 0) hx hb dX8_allowsTask_70 (by decide) ?_
        exact W.zret (v := 0) hx hb hr rfl (fun t ht hW => ⟨⟨0, (), rfl, h, by rw [ht]; exact hP, va_K.moved hW.alike hK, hD⟩, hS.F ht⟩) hS.2.2 dX8_allowsTask_71
      · have h := h.2 c9
        refine lv_iload_n hx hb dX8_allowsTask_61 rfl (lv_at hl 4 rfl) ?_
        refine lv_iload_n hx hb dX8_allowsTask_62 rfl (lv_at hl 1 rfl) ?_
        refine lv_icmp_gt (tgt := 70) hx hb dX8_allowsTask_63 (by decide) (fun c9 => ?_) (fun c9 => ?_)
        · have h := h.1 c9
          refine lv_iconst (v := 0) hx hb dX8_allowsTask_70 (by decide) ?_
          exact W.zret (v := 0) hx hb hr rfl (fun t ht hW => ⟨⟨0, (), rfl, h, by rw [ht]; exact hP, va_K.moved hW.alike hK, hD⟩, hS.F ht⟩) hS.2.2 dX8_allowsTask_71
        · have h := h.2 c9
          refine lv_iconst (v := 1) hx hb dX8_allowsTask_66 (by decide) ?_
          refine lv_goto (tgt := 71) hx hb dX8_allowsTask_67 (by decide) ?_
          exact W.zret (v := 1) hx hb hr rfl (fun t ht hW => ⟨⟨1, (), rfl, h, by rw [ht]; exact hP, va_K.moved hW.alike hK, hD⟩, hS.F ht⟩) hS.2.2 dX8_allowsTask_71
    · refine lv_tableIn (tgt := 56) hx hb dX8_allowsTask_11 (by rw [c9]; decide) (by rw [c9]; decide) (off := 45) (by rw [c9]; decide) (by decide) ?_
      refine lv_iload_n hx hb dX8_allowsTask_56 rfl (lv_at hl 4 rfl) ?_
      refine lv_iconst (v := 1) hx hb dX8_allowsTask_57 (by decide) ?_
      refine lv_icmp_lt (tgt := 70) hx hb dX8_allowsTask_58 (by decide) (fun c9 => ?_) (fun c9 => ?_)
      · have h := h.1 c9
        refine lv_iconst (v := 0) hx hb dX8_allowsTask_70 (by decide) ?_
        exact W.zret (v := 0) hx hb hr rfl (fun t ht hW => ⟨⟨0, (), rfl, h, by rw [ht]; exact hP, va_K.moved hW.alike hK, hD⟩, hS.F ht⟩) hS.2.2 dX8_allowsTask_71
      · have h := h.2 c9
        refine lv_iload_n hx hb dX8_allowsTask_61 rfl (lv_at hl 4 rfl) ?_
        refine lv_iload_n hx hb dX8_allowsTask_62 rfl (lv_at hl 1 rfl) ?_
        refine lv_icmp_gt (tgt := 70) hx hb dX8_allowsTask_63 (by decide) (fun c9 => ?_) (fun c9 => ?_)
        · have h := h.1 c9
          refine lv_iconst (v := 0) hx hb dX8_allowsTask_70 (by decide) ?_
          exact W.zret (v := 0) hx hb hr rfl (fun t ht hW => ⟨⟨0, (), rfl, h, by rw [ht]; exact hP, va_K.moved hW.alike hK, hD⟩, hS.F ht⟩) hS.2.2 dX8_allowsTask_71
        · have h := h.2 c9
          refine lv_iconst (v := 1) hx hb dX8_allowsTask_66 (by decide) ?_
          refine lv_goto (tgt := 71) hx hb dX8_allowsTask_67 (by decide) ?_
          exact W.zret (v := 1) hx hb hr rfl (fun t ht hW => ⟨⟨1, (), rfl, h, by rw [ht]; exact hP, va_K.moved hW.alike hK, hD⟩, hS.F ht⟩) hS.2.2 dX8_allowsTask_71
  have h := h.2 c9
  have cs_0 := c9
  by_cases c9 : x1 = 2 ∨ x1 = 3
  · have h := h.1 c9
    rcases c9 with c9 | c9
    · refine lv_tableIn (tgt := 72) hx hb dX8_allowsTask_11 (by rw [c9]; decide) (by rw [c9]; decide) (off := 61) (by rw [c9]; decide) (by decide) ?_
      refine lv_iload_n hx hb dX8_allowsTask_72 rfl (lv_at hl 4 rfl) ?_
      refine lv_if_eq (tgt := 94) hx hb dX8_allowsTask_73 (by decide) (fun c9 => ?_) (fun c9 => ?_)
      · have h := h.1 c9
        refine lv_iconst (v := 0) hx hb dX8_allowsTask_94 (by decide) ?_
        exact W.zret (v := 0) hx hb hr rfl (fun t ht hW => ⟨⟨0, (), rfl, h, by rw [ht]; exact hP, va_K.moved hW.alike hK, hD⟩, hS.F ht⟩) hS.2.2 dX8_allowsTask_95
      · have h := h.2 c9
        refine lv_iload_n hx hb dX8_allowsTask_76 rfl (lv_at hl 4 rfl) ?_
        refine lv_iconst (v := (-1)) hx hb dX8_allowsTask_77 (by decide) ?_
        refine lv_iload hx hb dX8_allowsTask_78 (lv_at hl 0 rfl) ?_
        refine lv_isub hx hb dX8_allowsTask_80 ?_
        refine lv_icmp_lt (tgt := 94) hx hb dX8_allowsTask_81 (by decide) (fun c9 => ?_) (fun c9 => ?_)
        · have h := h.1 c9
          refine lv_iconst (v := 0) hx hb dX8_allowsTask_94 (by decide) ?_
          exact W.zret (v := 0) hx hb hr rfl (fun t ht hW => ⟨⟨0, (), rfl, h, by rw [ht]; exact hP, va_K.moved hW.alike hK, hD⟩, hS.F ht⟩) hS.2.2 dX8_allowsTask_95
        · have h := h.2 c9
          refine lv_iload_n hx hb dX8_allowsTask_84 rfl (lv_at hl 4 rfl) ?_
          refine lv_iload hx hb dX8_allowsTask_85 (lv_at hl 0 rfl) ?_
          refine lv_icmp_gt (tgt := 94) hx hb dX8_allowsTask_87 (by decide) (fun c9 => ?_) (fun c9 => ?_)
          · have h := h.1 c9
            refine lv_iconst (v := 0) hx hb dX8_allowsTask_94 (by decide) ?_
            exact W.zret (v := 0) hx hb hr rfl (fun t ht hW => ⟨⟨0, (), rfl, h, by rw [ht]; exact hP, va_K.moved hW.alike hK, hD⟩, hS.F ht⟩) hS.2.2 dX8_allowsTask_95
          · have h := h.2 c9
            refine lv_iconst (v := 1) hx hb dX8_allowsTask_90 (by decide) ?_
            refine lv_goto (tgt := 95) hx hb dX8_allowsTask_91 (by decide) ?_
            exact W.zret (v := 1) hx hb hr rfl (fun t ht hW => ⟨⟨1, (), rfl, h, by rw [ht]; exact hP, va_K.moved hW.alike hK, hD⟩, hS.F ht⟩) hS.2.2 dX8_allowsTask_95
    · refine lv_tableIn (tgt := 72) hx hb dX8_allowsTask_11 (by rw [c9]; decide) (by rw [c9]; decide) (off := 61) (by rw [c9]; decide) (by decide) ?_
      refine lv_iload_n hx hb dX8_allowsTask_72 rfl (lv_at hl 4 rfl) ?_
      refine lv_if_eq (tgt := 94) hx hb dX8_allowsTask_73 (by decide) (fun c9 => ?_) (fun c9 => ?_)
      · have h := h.1 c9
        refine lv_iconst (v := 0) hx hb dX8_allowsTask_94 (by decide) ?_
        exact W.zret (v := 0) hx hb hr rfl (fun t ht hW => ⟨⟨0, (), rfl, h, by rw [ht]; exact hP, va_K.moved hW.alike hK, hD⟩, hS.F ht⟩) hS.2.2 dX8_allowsTask_95
      · have h := h.2 c9
        refine lv_iload_n hx hb dX8_allowsTask_76 rfl (lv_at hl 4 rfl) ?_
        refine lv_iconst (v := (-1)) hx hb dX8_allowsTask_77 (by decide) ?_
        refine lv_iload hx hb dX8_allowsTask_78 (lv_at hl 0 rfl) ?_
        refine lv_isub hx hb dX8_allowsTask_80 ?_
        refine lv_icmp_lt (tgt := 94) hx hb dX8_allowsTask_81 (by decide) (fun c9 => ?_) (fun c9 => ?_)
        · have h := h.1 c9
          refine lv_iconst (v := 0) hx hb dX8_allowsTask_94 (by decide) ?_
          exact W.zret (v := 0) hx hb hr rfl (fun t ht hW => ⟨⟨0, (), rfl, h, by rw [ht]; exact hP, va_K.moved hW.alike hK, hD⟩, hS.F ht⟩) hS.2.2 dX8_allowsTask_95
        · have h := h.2 c9
          refine lv_iload_n hx hb dX8_allowsTask_84 rfl (lv_at hl 4 rfl) ?_
          refine lv_iload hx hb dX8_allowsTask_85 (lv_at hl 0 rfl) ?_
          refine lv_icmp_gt (tgt := 94) hx hb dX8_allowsTask_87 (by decide) (fun c9 => ?_) (fun c9 => ?_)
          · have h := h.1 c9
            refine lv_iconst (v := 0) hx hb dX8_allowsTask_94 (by decide) ?_
            exact W.zret (v := 0) hx hb hr rfl (fun t ht hW => ⟨⟨0, (), rfl, h, by rw [ht]; exact hP, va_K.moved hW.alike hK, hD⟩, hS.F ht⟩) hS.2.2 dX8_allowsTask_95
          · have h := h.2 c9
            refine lv_iconst (v := 1) hx hb dX8_allowsTask_90 (by decide) ?_
            refine lv_goto (tgt := 95) hx hb dX8_allowsTask_91 (by decide) ?_
            exact W.zret (v := 1) hx hb hr rfl (fun t ht hW => ⟨⟨1, (), rfl, h, by rw [ht]; exact hP, va_K.moved hW.alike hK, hD⟩, hS.F ht⟩) hS.2.2 dX8_allowsTask_95
  have h := h.2 c9
  have cs_2 := c9
  by_cases c9 : x1 = 4
  · have h := h.1 c9
    refine lv_tableIn (tgt := 96) hx hb dX8_allowsTask_11 (by rw [c9]; decide) (by rw [c9]; decide) (off := 85) (by rw [c9]; decide) (by decide) ?_
    refine lv_iload_n hx hb dX8_allowsTask_96 rfl (lv_at hl 4 rfl) ?_
    refine lv_iconst (v := 1) hx hb dX8_allowsTask_97 (by decide) ?_
    refine lv_icmp_lt (tgt := 111) hx hb dX8_allowsTask_98 (by decide) (fun c9 => ?_) (fun c9 => ?_)
    · have h := h.1 c9
      refine lv_iconst (v := 0) hx hb dX8_allowsTask_111 (by decide) ?_
      exact W.zret (v := 0) hx hb hr rfl (fun t ht hW => ⟨⟨0, (), rfl, h, by rw [ht]; exact hP, va_K.moved hW.alike hK, hD⟩, hS.F ht⟩) hS.2.2 dX8_allowsTask_112
    · have h := h.2 c9
      refine lv_iload_n hx hb dX8_allowsTask_101 rfl (lv_at hl 4 rfl) ?_
      refine lv_iload hx hb dX8_allowsTask_102 (lv_at hl 0 rfl) ?_
      refine lv_icmp_gt (tgt := 111) hx hb dX8_allowsTask_104 (by decide) (fun c9 => ?_) (fun c9 => ?_)
      · have h := h.1 c9
        refine lv_iconst (v := 0) hx hb dX8_allowsTask_111 (by decide) ?_
        exact W.zret (v := 0) hx hb hr rfl (fun t ht hW => ⟨⟨0, (), rfl, h, by rw [ht]; exact hP, va_K.moved hW.alike hK, hD⟩, hS.F ht⟩) hS.2.2 dX8_allowsTask_112
      · have h := h.2 c9
        refine lv_iconst (v := 1) hx hb dX8_allowsTask_107 (by decide) ?_
        refine lv_goto (tgt := 112) hx hb dX8_allowsTask_108 (by decide) ?_
        exact W.zret (v := 1) hx hb hr rfl (fun t ht hW => ⟨⟨1, (), rfl, h, by rw [ht]; exact hP, va_K.moved hW.alike hK, hD⟩, hS.F ht⟩) hS.2.2 dX8_allowsTask_112
  have h := h.2 c9
  have cs_4 := c9
  by_cases c9 : x1 = 6
  · have h := h.1 c9
    refine lv_tableIn (tgt := 113) hx hb dX8_allowsTask_11 (by rw [c9]; decide) (by rw [c9]; decide) (off := 102) (by rw [c9]; decide) (by decide) ?_
    refine lv_iload_n hx hb dX8_allowsTask_113 rfl (lv_at hl 4 rfl) ?_
    refine lv_iconst (v := 2) hx hb dX8_allowsTask_114 (by decide) ?_
    refine lv_icmp_lt (tgt := 127) hx hb dX8_allowsTask_115 (by decide) (fun c9 => ?_) (fun c9 => ?_)
    · have h := h.1 c9
      refine lv_iconst (v := 0) hx hb dX8_allowsTask_127 (by decide) ?_
      exact W.zret (v := 0) hx hb hr rfl (fun t ht hW => ⟨⟨0, (), rfl, h, by rw [ht]; exact hP, va_K.moved hW.alike hK, hD⟩, hS.F ht⟩) hS.2.2 dX8_allowsTask_128
    · have h := h.2 c9
      refine lv_iload_n hx hb dX8_allowsTask_118 rfl (lv_at hl 4 rfl) ?_
      refine lv_iload_n hx hb dX8_allowsTask_119 rfl (lv_at hl 1 rfl) ?_
      refine lv_icmp_gt (tgt := 127) hx hb dX8_allowsTask_120 (by decide) (fun c9 => ?_) (fun c9 => ?_)
      · have h := h.1 c9
        refine lv_iconst (v := 0) hx hb dX8_allowsTask_127 (by decide) ?_
        exact W.zret (v := 0) hx hb hr rfl (fun t ht hW => ⟨⟨0, (), rfl, h, by rw [ht]; exact hP, va_K.moved hW.alike hK, hD⟩, hS.F ht⟩) hS.2.2 dX8_allowsTask_128
      · have h := h.2 c9
        refine lv_iconst (v := 1) hx hb dX8_allowsTask_123 (by decide) ?_
        refine lv_goto (tgt := 128) hx hb dX8_allowsTask_124 (by decide) ?_
        exact W.zret (v := 1) hx hb hr rfl (fun t ht hW => ⟨⟨1, (), rfl, h, by rw [ht]; exact hP, va_K.moved hW.alike hK, hD⟩, hS.F ht⟩) hS.2.2 dX8_allowsTask_128
  have h := h.2 c9
  have cs_6 := c9
  by_cases c9 : x1 = 7
  · have h := h.1 c9
    refine lv_tableIn (tgt := 129) hx hb dX8_allowsTask_11 (by rw [c9]; decide) (by rw [c9]; decide) (off := 118) (by rw [c9]; decide) (by decide) ?_
    refine lv_iload_n hx hb dX8_allowsTask_129 rfl (lv_at hl 4 rfl) ?_
    refine lv_if_lt (tgt := 142) hx hb dX8_allowsTask_130 (by decide) (fun c9 => ?_) (fun c9 => ?_)
    · have h := h.1 c9
      refine lv_iconst (v := 0) hx hb dX8_allowsTask_142 (by decide) ?_
      exact W.zret (v := 0) hx hb hr rfl (fun t ht hW => ⟨⟨0, (), rfl, h, by rw [ht]; exact hP, va_K.moved hW.alike hK, hD⟩, hS.F ht⟩) hS.2.2 dX8_allowsTask_143
    · have h := h.2 c9
      refine lv_iload_n hx hb dX8_allowsTask_133 rfl (lv_at hl 4 rfl) ?_
      refine lv_iload_n hx hb dX8_allowsTask_134 rfl (lv_at hl 1 rfl) ?_
      refine lv_icmp_gt (tgt := 142) hx hb dX8_allowsTask_135 (by decide) (fun c9 => ?_) (fun c9 => ?_)
      · have h := h.1 c9
        refine lv_iconst (v := 0) hx hb dX8_allowsTask_142 (by decide) ?_
        exact W.zret (v := 0) hx hb hr rfl (fun t ht hW => ⟨⟨0, (), rfl, h, by rw [ht]; exact hP, va_K.moved hW.alike hK, hD⟩, hS.F ht⟩) hS.2.2 dX8_allowsTask_143
      · have h := h.2 c9
        refine lv_iconst (v := 1) hx hb dX8_allowsTask_138 (by decide) ?_
        refine lv_goto (tgt := 143) hx hb dX8_allowsTask_139 (by decide) ?_
        exact W.zret (v := 1) hx hb hr rfl (fun t ht hW => ⟨⟨1, (), rfl, h, by rw [ht]; exact hP, va_K.moved hW.alike hK, hD⟩, hS.F ht⟩) hS.2.2 dX8_allowsTask_143
  have h := h.2 c9
  have cs_7 := c9
  refine lv_tableOut (tgt := 144) hx hb dX8_allowsTask_11 (sw_out (fun j9 h1 h2 hj => ?_)) (by decide) ?_
  · rcases (show j9 = 0 ∨ j9 = 1 ∨ j9 = 2 ∨ j9 = 3 ∨ j9 = 4 ∨ j9 = 5 ∨ j9 = 6 ∨ j9 = 7 by omega) with rfl | rfl | rfl | rfl | rfl | rfl | rfl | rfl
    · exact cs_0 (Or.inl hj)
    · exact cs_0 (Or.inr (Or.inl hj))
    · exact cs_2 (Or.inl hj)
    · exact cs_2 (Or.inr hj)
    · exact cs_4 hj
    · exact cs_0 (Or.inr (Or.inr hj))
    · exact cs_6 hj
    · exact cs_7 hj
  refine lv_iconst (v := 0) hx hb dX8_allowsTask_144 (by decide) ?_
  exact W.zret (v := 0) hx hb hr rfl (fun t ht hW => ⟨⟨0, (), rfl, h, by rw [ht]; exact hP, va_K.moved hW.alike hK, hD⟩, hS.F ht⟩) hS.2.2 dX8_allowsTask_145

abbrev qX8_requireTask (D : va_G) (ca : Nat → ClassId) (a_t a_t_generator a_t_program a_t_costs a_t_history a_t_machine a_t_tidier a_t_listing a_t_program_operations a_t_program_firsts a_t_program_seconds : Nat) (t_program_width : Int32) (t_program_length : Int32) (t_program_result : Int32) (t_program_taskKind : Int32) (t_program_taskDivisor : Int32) (Q : Prop) (A : Nat → Prop) : Array Value → State → Outcome → State → Prop := va_Qv (fun (_ : Unit) => Q) (wEnd D ca (fun _ : Unit => [(a_t, .inr (6, [.ref a_t_generator, .ref a_t_program, .ref a_t_costs, .ref a_t_history, .ref a_t_machine, .ref a_t_tidier, .ref a_t_listing])), (a_t_program, .inr (4, [.int t_program_width, .int t_program_length, .int t_program_result, .int t_program_taskKind, .int t_program_taskDivisor, .ref a_t_program_operations, .ref a_t_program_firsts, .ref a_t_program_seconds]))]) A) A
def wX8_requireTask (t_program_width : Int32) (x1 : Int32) (x2 : Int32) (Q : Prop) (QX : String → Prop) : Prop :=
  wX8_allowsTask t_program_width x1 x2 (fun r_3 => ((r_3 = 0 → QX xIA) ∧ (¬ r_3 = 0 → Q)))
set_option maxHeartbeats 4000000 in
set_option maxRecDepth 100000 in
theorem mX8_requireTask (l : Launch) (hl0 : l.stackTraces = false) (D : va_G) (ca : Nat → ClassId) (a_t a_t_generator a_t_program a_t_costs a_t_history a_t_machine a_t_tidier a_t_listing a_t_program_operations a_t_program_firsts a_t_program_seconds : Nat) (sz : Nat) (t_program_width : Int32) (t_program_length : Int32) (t_program_result : Int32) (t_program_taskKind : Int32) (t_program_taskDivisor : Int32) (x1 : Int32) (x2 : Int32) (Q : Prop) (QX : String → Prop) (h : wX8_requireTask t_program_width x1 x2 Q QX) : vx_Met l yX8_requireTask (Cond.code yX8_requireTask cX8_requireTask 3 none :: wsG) ({ frames := 6, cells := 1, slots := 6, locals := 90 } : Room) (va_Pc [.ref a_t, .int x1, .int x2] (xPre D ca [(a_t, .inr (6, [.ref a_t_generator, .ref a_t_program, .ref a_t_costs, .ref a_t_history, .ref a_t_machine, .ref a_t_tidier, .ref a_t_listing])), (a_t_program, .inr (4, [.int t_program_width, .int t_program_length, .int t_program_result, .int t_program_taskKind, .int t_program_taskDivisor, .ref a_t_program_operations, .ref a_t_program_firsts, .ref a_t_program_seconds]))] sz)) (qX8_requireTask D ca a_t a_t_generator a_t_program a_t_costs a_t_history a_t_machine a_t_tidier a_t_listing a_t_program_operations a_t_program_firsts a_t_program_seconds t_program_width t_program_length t_program_result t_program_taskKind t_program_taskDivisor Q (va_A [(a_t, .inr (6, [.ref a_t_generator, .ref a_t_program, .ref a_t_costs, .ref a_t_history, .ref a_t_machine, .ref a_t_tidier, .ref a_t_listing])), (a_t_program, .inr (4, [.int t_program_width, .int t_program_length, .int t_program_result, .int t_program_taskKind, .int t_program_taskDivisor, .ref a_t_program_operations, .ref a_t_program_firsts, .ref a_t_program_seconds]))] sz)) (xEnd D ca [(a_t, .inr (6, [.ref a_t_generator, .ref a_t_program, .ref a_t_costs, .ref a_t_history, .ref a_t_machine, .ref a_t_tidier, .ref a_t_listing])), (a_t_program, .inr (4, [.int t_program_width, .int t_program_length, .int t_program_result, .int t_program_taskKind, .int t_program_taskDivisor, .ref a_t_program_operations, .ref a_t_program_firsts, .ref a_t_program_seconds]))] QX (va_A [(a_t, .inr (6, [.ref a_t_generator, .ref a_t_program, .ref a_t_costs, .ref a_t_history, .ref a_t_machine, .ref a_t_tidier, .ref a_t_listing])), (a_t_program, .inr (4, [.int t_program_width, .int t_program_length, .int t_program_result, .int t_program_taskKind, .int t_program_taskDivisor, .ref a_t_program_operations, .ref a_t_program_firsts, .ref a_t_program_seconds]))] sz)) 1 6 (va_A [(a_t, .inr (6, [.ref a_t_generator, .ref a_t_program, .ref a_t_costs, .ref a_t_history, .ref a_t_machine, .ref a_t_tidier, .ref a_t_listing])), (a_t_program, .inr (4, [.int t_program_width, .int t_program_length, .int t_program_result, .int t_program_taskKind, .int t_program_taskDivisor, .ref a_t_program_operations, .ref a_t_program_firsts, .ref a_t_program_seconds]))] sz) := by
  refine vx_ofW (cc := cX8_requireTask) (maxL := 3) (ret := none) (by decide) rfl ?_
  intro p e s m args below meth c s₁ B hml htab hv
  obtain ⟨rfl, ⟨hsz, hP, hK, hD0⟩, hX⟩ := hv
  have hx := B.exec
  have hb := B.bytes
  have hr := B.returns
  have hts := atoms_spec (ws := (Cond.code yX8_requireTask cX8_requireTask 3 none :: wsG)) B.pre
  have hq : ∀ w ∈ wsG, w.before _ s = true := fun w hw => hts w (List.mem_cons_of_mem _ hw)
  have hown : s.vm.findClass RX8 = some m.cls := findClass_of_methodNamed B.named
  have hlocks := B.notSynchronized
  subst hsz
  have hD := hD0.self (sz := s.heap.size)
  generalize hAe : va_A [(a_t, .inr (6, [.ref a_t_generator, .ref a_t_program, .ref a_t_costs, .ref a_t_history, .ref a_t_machine, .ref a_t_tidier, .ref a_t_listing])), (a_t_program, .inr (4, [.int t_program_width, .int t_program_length, .int t_program_result, .int t_program_taskKind, .int t_program_taskDivisor, .ref a_t_program_operations, .ref a_t_program_firsts, .ref a_t_program_seconds]))] s.heap.size = A at hD hX ⊢
  have hA : ∀ q : Nat, s.heap.size ≤ q → A q := fun q h => by rw [← hAe]; exact Or.inr h
  have hS : va_S A s.heap s.heap [] := va_S.rf
  have hP : va_P D vwCl [(a_t, .inr (6, [.ref a_t_generator, .ref a_t_program, .ref a_t_costs, .ref a_t_history, .ref a_t_machine, .ref a_t_tidier, .ref a_t_listing])), (a_t_program, .inr (4, [.int t_program_width, .int t_program_length, .int t_program_result, .int t_program_taskKind, .int t_program_taskDivisor, .ref a_t_program_operations, .ref a_t_program_firsts, .ref a_t_program_seconds]))] s.heap := hP
  have hl := lv_entry ([.ref a_t, .int x1, .int x2]) (n := 3) (Nat.le_of_ble_eq_true rfl)
  rw [lg_entry_eq]
  generalize (lg_sl ([.ref a_t, .int x1, .int x2]) ++ List.replicate (3 - (lg_sl ([.ref a_t, .int x1, .int x2])).length) Slot.unset).toArray = ls at hl ⊢
  have hl : lv_has ls 3 [(0, .ref a_t), (1, .int x1), (2, .int x2)] := hl
  unfold wX8_requireTask at h
  refine lv_aload_n hx hb dX8_requireTask_0 rfl (lv_at hl 0 rfl) ?_
  refine lv_iload_n hx hb dX8_requireTask_1 rfl (lv_at hl 1 rfl) ?_
  refine lv_iload_n hx hb dX8_requireTask_2 rfl (lv_at hl 2 rfl) ?_
  refine cVi (As := [.int x1, .int x2]) (rest := []) (wc := [(a_t, .inr (6, [.ref a_t_generator, .ref a_t_program, .ref a_t_costs, .ref a_t_history, .ref a_t_machine, .ref a_t_tidier, .ref a_t_listing])), (a_t_program, .inr (4, [.int t_program_width, .int t_program_length, .int t_program_result, .int t_program_taskKind, .int t_program_taskDivisor, .ref a_t_program_operations, .ref a_t_program_firsts, .ref a_t_program_seconds]))]) (wr := []) (w1 := fun _ : Unit => [(a_t, .inr (6, [.ref a_t_generator, .ref a_t_program, .ref a_t_costs, .ref a_t_history, .ref a_t_machine, .ref a_t_tidier, .ref a_t_listing])), (a_t_program, .inr (4, [.int t_program_width, .int t_program_length, .int t_program_result, .int t_program_taskKind, .int t_program_taskDivisor, .ref a_t_program_operations, .ref a_t_program_firsts, .ref a_t_program_seconds]))]) (ws2 := fun _ : Unit => [(a_t, .inr (6, [.ref a_t_generator, .ref a_t_program, .ref a_t_costs, .ref a_t_history, .ref a_t_machine, .ref a_t_tidier, .ref a_t_listing])), (a_t_program, .inr (4, [.int t_program_width, .int t_program_length, .int t_program_result, .int t_program_taskKind, .int t_program_taskDivisor, .ref a_t_program_operations, .ref a_t_program_firsts, .ref a_t_program_seconds]))]) ⟨hx, hb, hml, hown, hts⟩ (mX8_allowsTask l D ca a_t a_t_generator a_t_program a_t_costs a_t_history a_t_machine a_t_tidier a_t_listing a_t_program_operations a_t_program_firsts a_t_program_seconds _ t_program_width t_program_length t_program_result t_program_taskKind t_program_taskDivisor x1 x2 _ h) (cwV 2 hts (gV q_461 q_463 qs_7 q_1 q_464) rfl rfl rfl (by decide +kernel) ⟨Nat.le_of_ble_eq_true rfl, Nat.le_of_ble_eq_true rfl⟩) hK hP hD hS hA [0, 1] [] [0, 1] rfl rfl rfl (by decide) (fun _ => rfl) (ci := 6) (q0 := 0) rfl rfl rfl hl.1 rfl (Nat.le_of_ble_eq_true rfl) dX8_requireTask_3 ⟨Nat.le_of_ble_eq_true rfl, Nat.le_of_ble_eq_true rfl⟩ (fun r_3 u9 H locs h hP hD hS => ?_)
  try dsimp only at h
  refine lv_if_ne (tgt := 20) hx hb dX8_requireTask_6 (by decide) (fun c9 => ?_) (fun c9 => ?_)
  · have h := h.2 c9
    refine W.widen (k := 1) (n := 6) (Nat.le_of_ble_eq_true rfl) (Nat.le_of_ble_eq_true rfl) ?_
    refine vx_ret ?_
    exact W.vret hx hb hr (fun t ht hW => ⟨⟨(), rfl, h, by rw [ht]; exact hP, va_K.moved hW.alike hK, hD⟩, hS.F ht⟩) hS.2.2 dX8_requireTask_20
  · have h := h.1 c9
    exact x_throwW (nmx := xIA) (text := "there is no such kind, or the divisor does not fit it") hx hb hl0 hown hX (by decide) (by decide) (hq _ q_284) (hq _ q_12) (xh_IA hq hX.2.2.1 hX.2.2.2.2.2.1) xg_IA hS (hl.1.trans hml.symm) dX8_requireTask_9 dX8_requireTask_12 dX8_requireTask_13 dX8_requireTask_16 dX8_requireTask_19 htab (Nat.le_of_ble_eq_true rfl) (Nat.le_of_ble_eq_true rfl) (Nat.le_of_ble_eq_true rfl) (Nat.le_of_ble_eq_true rfl) hlocks (fun t hvm h1 h2 => ⟨(), trivial, ⟨h, fun k q h3 => (hP k q h3).kept (h2 q.1 (hP k q h3).lt), va_K.moved hvm hK, hD⟩, ⟨Nat.le_trans hS.1 h1, fun q h3 h4 => (h2 q (Nat.lt_of_lt_of_le h3 hS.1)).trans (hS.2.1 q h3 h4)⟩⟩) hS.2.2 (Nat.le_of_ble_eq_true rfl) (Nat.le_of_ble_eq_true rfl)
