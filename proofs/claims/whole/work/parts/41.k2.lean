def wX3_shiftsBits (x0 : Int32) (Q : Int32 → Prop) : Prop :=
  ((x0 = 0 → Q 1) ∧ (¬ x0 = 0 → ((x0 = 1 → Q 1) ∧ (¬ x0 = 1 → ((x0 = 2 → Q 1) ∧ (¬ x0 = 2 → ((x0 = 10 → Q 1) ∧ (¬ x0 = 10 → Q 0))))))))
set_option maxHeartbeats 4000000 in
set_option maxRecDepth 100000 in
theorem mX3_shiftsBits (l : Launch) (x0 : Int32) (Q : Int32 → Prop) (h : wX3_shiftsBits x0 Q) : Met l yX3_shiftsBits (Cond.code yX3_shiftsBits cX3_shiftsBits 1 (some .boolean) :: wsG) ({ frames := 0, cells := 0, slots := 0, locals := 0 } : Room) (va_Pc [.int x0] (fun _ => True)) (va_Qi (fun (r : Int32) (_ : Unit) => Q r) (fun _ _ => True) (fun _ => False)) 0 0 (fun _ => False) := by
  refine Met.ofW (cc := cX3_shiftsBits) (maxL := 1) (ret := (some .boolean)) (by decide) rfl ?_
  intro p e s m args below meth c s₁ B hml hv
  obtain ⟨rfl, -⟩ := hv
  have hx := B.exec
  have hb := B.bytes
  have hr := B.returns
  have hts := atoms_spec (ws := (Cond.code yX3_shiftsBits cX3_shiftsBits 1 (some .boolean) :: wsG)) B.pre
  have hq : ∀ w ∈ wsG, w.before _ s = true := fun w hw => hts w (List.mem_cons_of_mem _ hw)
  have hown : s.vm.findClass RX3 = some m.cls := findClass_of_methodNamed B.named
  have hlocks := B.notSynchronized
  have hS : va_S (fun _ : Nat => False) s.heap s.heap [] := va_S.rf
  have hl := lv_entry ([.int x0]) (n := 1) (Nat.le_of_ble_eq_true rfl)
  rw [lg_entry_eq]
  generalize (lg_sl ([.int x0]) ++ List.replicate (1 - (lg_sl ([.int x0])).length) Slot.unset).toArray = ls at hl ⊢
  have hl : lv_has ls 1 [(0, .int x0)] := hl
  unfold wX3_shiftsBits at h
  refine lv_iload_n hx hb dX3_shiftsBits_0 rfl (lv_at hl 0 rfl) ?_
  refine lv_if_eq (tgt := 20) hx hb dX3_shiftsBits_1 (by decide) (fun c9 => ?_) (fun c9 => ?_)
  · have h := h.1 c9
    refine lv_iconst (v := 1) hx hb dX3_shiftsBits_20 (by decide) ?_
    refine lv_goto (tgt := 25) hx hb dX3_shiftsBits_21 (by decide) ?_
    exact W.zret (v := 1) hx hb hr rfl (fun t ht hW => ⟨⟨1, (), rfl, h, trivial⟩, hS.F ht⟩) hS.2.2 dX3_shiftsBits_25
  · have h := h.2 c9
    refine lv_iload_n hx hb dX3_shiftsBits_4 rfl (lv_at hl 0 rfl) ?_
    refine lv_iconst (v := 1) hx hb dX3_shiftsBits_5 (by decide) ?_
    refine lv_icmp_eq (tgt := 20) hx hb dX3_shiftsBits_6 (by decide) (fun c9 => ?_) (fun c9 => ?_)
    · have h := h.1 c9
      refine lv_iconst (v := 1) hx hb dX3_shiftsBits_20 (by decide) ?_
      refine lv_goto (tgt := 25) hx hb dX3_shiftsBits_21 (by decide) ?_
      exact W.zret (v := 1) hx hb hr rfl (fun t ht hW => ⟨⟨1, (), rfl, h, trivial⟩, hS.F ht⟩) hS.2.2 dX3_shiftsBits_25
    · have h := h.2 c9
      refine lv_iload_n hx hb dX3_shiftsBits_9 rfl (lv_at hl 0 rfl) ?_
      refine lv_iconst (v := 2) hx hb dX3_shiftsBits_10 (by decide) ?_
      refine lv_icmp_eq (tgt := 20) hx hb dX3_shiftsBits_11 (by decide) (fun c9 => ?_) (fun c9 => ?_)
      · have h := h.1 c9
        refine lv_iconst (v := 1) hx hb dX3_shiftsBits_20 (by decide) ?_
        refine lv_goto (tgt := 25) hx hb dX3_shiftsBits_21 (by decide) ?_
        exact W.zret (v := 1) hx hb hr rfl (fun t ht hW => ⟨⟨1, (), rfl, h, trivial⟩, hS.F ht⟩) hS.2.2 dX3_shiftsBits_25
      · have h := h.2 c9
        refine lv_iload_n hx hb dX3_shiftsBits_14 rfl (lv_at hl 0 rfl) ?_
        refine lv_bipush (v := 10) hx hb dX3_shiftsBits_15 (by decide) ?_
        refine lv_icmp_ne (tgt := 24) hx hb dX3_shiftsBits_17 (by decide) (fun c9 => ?_) (fun c9 => ?_)
        · have h := h.2 c9
          refine lv_iconst (v := 0) hx hb dX3_shiftsBits_24 (by decide) ?_
          exact W.zret (v := 0) hx hb hr rfl (fun t ht hW => ⟨⟨0, (), rfl, h, trivial⟩, hS.F ht⟩) hS.2.2 dX3_shiftsBits_25
        · have h := h.1 c9
          refine lv_iconst (v := 1) hx hb dX3_shiftsBits_20 (by decide) ?_
          refine lv_goto (tgt := 25) hx hb dX3_shiftsBits_21 (by decide) ?_
          exact W.zret (v := 1) hx hb hr rfl (fun t ht hW => ⟨⟨1, (), rfl, h, trivial⟩, hS.F ht⟩) hS.2.2 dX3_shiftsBits_25

def wX3_costClass (x0 : Int32) (Q : Int32 → Prop) : Prop :=
  ((x0 = 5 → Q 0) ∧ (¬ x0 = 5 → ((x0 = 6 → Q 1) ∧ (¬ x0 = 6 → ((x0 = 7 → Q 1) ∧ (¬ x0 = 7 → Q 2))))))
set_option maxHeartbeats 4000000 in
set_option maxRecDepth 100000 in
theorem mX3_costClass (l : Launch) (x0 : Int32) (Q : Int32 → Prop) (h : wX3_costClass x0 Q) : Met l yX3_costClass (Cond.code yX3_costClass cX3_costClass 1 (some .int) :: wsG) ({ frames := 0, cells := 0, slots := 0, locals := 0 } : Room) (va_Pc [.int x0] (fun _ => True)) (va_Qi (fun (r : Int32) (_ : Unit) => Q r) (fun _ _ => True) (fun _ => False)) 0 0 (fun _ => False) := by
  refine Met.ofW (cc := cX3_costClass) (maxL := 1) (ret := (some .int)) (by decide) rfl ?_
  intro p e s m args below meth c s₁ B hml hv
  obtain ⟨rfl, -⟩ := hv
  have hx := B.exec
  have hb := B.bytes
  have hr := B.returns
  have hts := atoms_spec (ws := (Cond.code yX3_costClass cX3_costClass 1 (some .int) :: wsG)) B.pre
  have hq : ∀ w ∈ wsG, w.before _ s = true := fun w hw => hts w (List.mem_cons_of_mem _ hw)
  have hown : s.vm.findClass RX3 = some m.cls := findClass_of_methodNamed B.named
  have hlocks := B.notSynchronized
  have hS : va_S (fun _ : Nat => False) s.heap s.heap [] := va_S.rf
  have hl := lv_entry ([.int x0]) (n := 1) (Nat.le_of_ble_eq_true rfl)
  rw [lg_entry_eq]
  generalize (lg_sl ([.int x0]) ++ List.replicate (1 - (lg_sl ([.int x0])).length) Slot.unset).toArray = ls at hl ⊢
  have hl : lv_has ls 1 [(0, .int x0)] := hl
  unfold wX3_costClass at h
  refine lv_iload_n hx hb dX3_costClass_0 rfl (lv_at hl 0 rfl) ?_
  refine lv_iconst (v := 5) hx hb dX3_costClass_1 (by decide) ?_
  refine lv_icmp_ne (tgt := 7) hx hb dX3_costClass_2 (by decide) (fun c9 => ?_) (fun c9 => ?_)
  · have h := h.2 c9
    refine lv_iload_n hx hb dX3_costClass_7 rfl (lv_at hl 0 rfl) ?_
    refine lv_bipush (v := 6) hx hb dX3_costClass_8 (by decide) ?_
    refine lv_icmp_eq (tgt := 19) hx hb dX3_costClass_10 (by decide) (fun c9 => ?_) (fun c9 => ?_)
    · have h := h.1 c9
      refine lv_iconst (v := 1) hx hb dX3_costClass_19 (by decide) ?_
      refine lv_goto (tgt := 24) hx hb dX3_costClass_20 (by decide) ?_
      exact W.iret (v := 1) hx hb hr (fun t ht hW => ⟨⟨1, (), rfl, h, trivial⟩, hS.F ht⟩) hS.2.2 dX3_costClass_24
    · have h := h.2 c9
      refine lv_iload_n hx hb dX3_costClass_13 rfl (lv_at hl 0 rfl) ?_
      refine lv_bipush (v := 7) hx hb dX3_costClass_14 (by decide) ?_
      refine lv_icmp_ne (tgt := 23) hx hb dX3_costClass_16 (by decide) (fun c9 => ?_) (fun c9 => ?_)
      · have h := h.2 c9
        refine lv_iconst (v := 2) hx hb dX3_costClass_23 (by decide) ?_
        exact W.iret (v := 2) hx hb hr (fun t ht hW => ⟨⟨2, (), rfl, h, trivial⟩, hS.F ht⟩) hS.2.2 dX3_costClass_24
      · have h := h.1 c9
        refine lv_iconst (v := 1) hx hb dX3_costClass_19 (by decide) ?_
        refine lv_goto (tgt := 24) hx hb dX3_costClass_20 (by decide) ?_
        exact W.iret (v := 1) hx hb hr (fun t ht hW => ⟨⟨1, (), rfl, h, trivial⟩, hS.F ht⟩) hS.2.2 dX3_costClass_24
  · have h := h.1 c9
    refine lv_iconst (v := 0) hx hb dX3_costClass_5 (by decide) ?_
    exact W.iret (v := 0) hx hb hr (fun t ht hW => ⟨⟨0, (), rfl, h, trivial⟩, hS.F ht⟩) hS.2.2 dX3_costClass_6

def wX5_isValue (x0 : Int32) (Q : Int32 → Prop) : Prop :=
  ((0 ≤ x0 → Q 0) ∧ (¬ 0 ≤ x0 → Q 1))
set_option maxHeartbeats 4000000 in
set_option maxRecDepth 100000 in
theorem mX5_isValue (l : Launch) (x0 : Int32) (Q : Int32 → Prop) (h : wX5_isValue x0 Q) : Met l yX5_isValue (Cond.code yX5_isValue cX5_isValue 1 (some .boolean) :: wsG) ({ frames := 0, cells := 0, slots := 0, locals := 0 } : Room) (va_Pc [.int x0] (fun _ => True)) (va_Qi (fun (r : Int32) (_ : Unit) => Q r) (fun _ _ => True) (fun _ => False)) 0 0 (fun _ => False) := by
  refine Met.ofW (cc := cX5_isValue) (maxL := 1) (ret := (some .boolean)) (by decide) rfl ?_
  intro p e s m args below meth c s₁ B hml hv
  obtain ⟨rfl, -⟩ := hv
  have hx := B.exec
  have hb := B.bytes
  have hr := B.returns
  have hts := atoms_spec (ws := (Cond.code yX5_isValue cX5_isValue 1 (some .boolean) :: wsG)) B.pre
  have hq : ∀ w ∈ wsG, w.before _ s = true := fun w hw => hts w (List.mem_cons_of_mem _ hw)
  have hown : s.vm.findClass RX5 = some m.cls := findClass_of_methodNamed B.named
  have hlocks := B.notSynchronized
  have hS : va_S (fun _ : Nat => False) s.heap s.heap [] := va_S.rf
  have hl := lv_entry ([.int x0]) (n := 1) (Nat.le_of_ble_eq_true rfl)
  rw [lg_entry_eq]
  generalize (lg_sl ([.int x0]) ++ List.replicate (1 - (lg_sl ([.int x0])).length) Slot.unset).toArray = ls at hl ⊢
  have hl : lv_has ls 1 [(0, .int x0)] := hl
  unfold wX5_isValue at h
  refine lv_iload_n hx hb dX5_isValue_0 rfl (lv_at hl 0 rfl) ?_
  refine lv_if_ge (tgt := 8) hx hb dX5_isValue_1 (by decide) (fun c9 => ?_) (fun c9 => ?_)
  · have h := h.1 c9
    refine lv_iconst (v := 0) hx hb dX5_isValue_8 (by decide) ?_
    exact W.zret (v := 0) hx hb hr rfl (fun t ht hW => ⟨⟨0, (), rfl, h, trivial⟩, hS.F ht⟩) hS.2.2 dX5_isValue_9
  · have h := h.2 c9
    refine lv_iconst (v := 1) hx hb dX5_isValue_4 (by decide) ?_
    refine lv_goto (tgt := 9) hx hb dX5_isValue_5 (by decide) ?_
    exact W.zret (v := 1) hx hb hr rfl (fun t ht hW => ⟨⟨1, (), rfl, h, trivial⟩, hS.F ht⟩) hS.2.2 dX5_isValue_9

def wX5_numberOf (x0 : Int32) (Q : Int32 → Prop) : Prop :=
  wX5_isValue x0 (fun r_1 => ((r_1 = 0 → Q x0) ∧ (¬ r_1 = 0 → Q (((-1)) - x0))))
set_option maxHeartbeats 4000000 in
set_option maxRecDepth 100000 in
theorem mX5_numberOf (l : Launch) (x0 : Int32) (Q : Int32 → Prop) (h : wX5_numberOf x0 Q) : Met l yX5_numberOf (Cond.code yX5_numberOf cX5_numberOf 1 (some .int) :: wsG) ({ frames := 1, cells := 0, slots := 0, locals := 20 } : Room) (va_Pc [.int x0] (fun _ => True)) (va_Qi (fun (r : Int32) (_ : Unit) => Q r) (fun _ _ => True) (fun _ => False)) 0 0 (fun _ => False) := by
  refine Met.ofW (cc := cX5_numberOf) (maxL := 1) (ret := (some .int)) (by decide) rfl ?_
  intro p e s m args below meth c s₁ B hml hv
  obtain ⟨rfl, -⟩ := hv
  have hx := B.exec
  have hb := B.bytes
  have hr := B.returns
  have hts := atoms_spec (ws := (Cond.code yX5_numberOf cX5_numberOf 1 (some .int) :: wsG)) B.pre
  have hq : ∀ w ∈ wsG, w.before _ s = true := fun w hw => hts w (List.mem_cons_of_mem _ hw)
  have hown : s.vm.findClass RX5 = some m.cls := findClass_of_methodNamed B.named
  have hlocks := B.notSynchronized
  have hS : va_S (fun _ : Nat => False) s.heap s.heap [] := va_S.rf
  have hl := lv_entry ([.int x0]) (n := 1) (Nat.le_of_ble_eq_true rfl)
  rw [lg_entry_eq]
  generalize (lg_sl ([.int x0]) ++ List.replicate (1 - (lg_sl ([.int x0])).length) Slot.unset).toArray = ls at hl ⊢
  have hl : lv_has ls 1 [(0, .int x0)] := hl
  unfold wX5_numberOf at h
  refine lv_iload_n hx hb dX5_numberOf_0 rfl (lv_at hl 0 rfl) ?_
  refine cPi (As := [.int x0]) (rest := []) ⟨hx, hb, hml, hown, hts⟩ (mX5_isValue l x0 _ h) (va_cwS 1 hts (gS q_227 q_222 q_3 q_223) rfl rfl rfl (by decide +kernel) ⟨Nat.le_of_ble_eq_true rfl, Nat.le_of_ble_eq_true rfl⟩) hS rfl hl.1 rfl (Nat.le_of_ble_eq_true rfl) dX5_numberOf_1 ⟨Nat.le_of_ble_eq_true rfl, Nat.le_of_ble_eq_true rfl⟩ (fun r_1 H1 locs h hk1 hS => ?_)
  try dsimp only at h
  refine lv_if_eq (tgt := 13) hx hb dX5_numberOf_4 (by decide) (fun c9 => ?_) (fun c9 => ?_)
  · have h := h.1 c9
    refine lv_iload_n hx hb dX5_numberOf_13 rfl (lv_at hl 0 rfl) ?_
    exact W.iret (v := x0) hx hb hr (fun t ht hW => ⟨⟨x0, (), rfl, h, trivial⟩, hS.F ht⟩) hS.2.2 dX5_numberOf_14
  · have h := h.2 c9
    refine lv_iconst (v := (-1)) hx hb dX5_numberOf_7 (by decide) ?_
    refine lv_iload_n hx hb dX5_numberOf_8 rfl (lv_at hl 0 rfl) ?_
    refine lv_isub hx hb dX5_numberOf_9 ?_
    refine lv_goto (tgt := 14) hx hb dX5_numberOf_10 (by decide) ?_
    exact W.iret (v := ((-1)) - x0) hx hb hr (fun t ht hW => ⟨⟨((-1)) - x0, (), rfl, h, trivial⟩, hS.F ht⟩) hS.2.2 dX5_numberOf_14

abbrev qX3_inputOf (D : va_G) (ca : Nat → ClassId) (a_t a_t_values a_t_depths : Nat) (f_t_values : Nat → Int32) (Q : Int32 → Prop) (A : Nat → Prop) : Array Value → State → Outcome → State → Prop := va_Qi (fun (r : Int32) (_ : Unit) => Q r) (wEnd D ca (fun _ : Unit => [(a_t, .inr (3, [.ref a_t_values, .ref a_t_depths])), (a_t_values, .inl (ca 0, 41, .inl f_t_values))]) A) A
def wX3_inputOf (f_t_values : Nat → Int32) (x1 : Int32) (Q : Int32 → Prop) : Prop :=
  wX5_isValue x1 (fun r_1 => ((r_1 = 0 → Q x1) ∧ (¬ r_1 = 0 → wX5_numberOf x1 (fun r_12 => (vp_in r_12 41 ∧ Q (f_t_values r_12.toNatClampNeg))))))
set_option maxHeartbeats 4000000 in
set_option maxRecDepth 100000 in
theorem mX3_inputOf (l : Launch) (D : va_G) (ca : Nat → ClassId) (a_t a_t_values a_t_depths : Nat) (sz : Nat) (f_t_values : Nat → Int32) (x1 : Int32) (Q : Int32 → Prop) (h : wX3_inputOf f_t_values x1 Q) : Met l yX3_inputOf (Cond.code yX3_inputOf cX3_inputOf 2 (some .int) :: wsG) ({ frames := 2, cells := 0, slots := 0, locals := 40 } : Room) (va_Pc [.ref a_t, .int x1] (wPre D ca [(a_t, .inr (3, [.ref a_t_values, .ref a_t_depths])), (a_t_values, .inl (ca 0, 41, .inl f_t_values))] sz)) (qX3_inputOf D ca a_t a_t_values a_t_depths f_t_values Q (va_A [(a_t, .inr (3, [.ref a_t_values, .ref a_t_depths])), (a_t_values, .inl (ca 0, 41, .inl f_t_values))] sz)) 0 0 (va_A [(a_t, .inr (3, [.ref a_t_values, .ref a_t_depths])), (a_t_values, .inl (ca 0, 41, .inl f_t_values))] sz) := by
  refine Met.ofW (cc := cX3_inputOf) (maxL := 2) (ret := (some .int)) (by decide) rfl ?_
  intro p e s m args below meth c s₁ B hml hv
  obtain ⟨rfl, hsz, hP, hK, hD0⟩ := hv
  have hx := B.exec
  have hb := B.bytes
  have hr := B.returns
  have hts := atoms_spec (ws := (Cond.code yX3_inputOf cX3_inputOf 2 (some .int) :: wsG)) B.pre
  have hq : ∀ w ∈ wsG, w.before _ s = true := fun w hw => hts w (List.mem_cons_of_mem _ hw)
  have hown : s.vm.findClass RX3 = some m.cls := findClass_of_methodNamed B.named
  have hlocks := B.notSynchronized
  subst hsz
  have hD := hD0.self (sz := s.heap.size)
  generalize hAe : va_A [(a_t, .inr (3, [.ref a_t_values, .ref a_t_depths])), (a_t_values, .inl (ca 0, 41, .inl f_t_values))] s.heap.size = A at hD ⊢
  have hA : ∀ q : Nat, s.heap.size ≤ q → A q := fun q h => by rw [← hAe]; exact Or.inr h
  have hS : va_S A s.heap s.heap [] := va_S.rf
  have hP : va_P D vwCl [(a_t, .inr (3, [.ref a_t_values, .ref a_t_depths])), (a_t_values, .inl (ca 0, 41, .inl f_t_values))] s.heap := hP
  have hl := lv_entry ([.ref a_t, .int x1]) (n := 2) (Nat.le_of_ble_eq_true rfl)
  rw [lg_entry_eq]
  generalize (lg_sl ([.ref a_t, .int x1]) ++ List.replicate (2 - (lg_sl ([.ref a_t, .int x1])).length) Slot.unset).toArray = ls at hl ⊢
  have hl : lv_has ls 2 [(0, .ref a_t), (1, .int x1)] := hl
  unfold wX3_inputOf at h
  refine lv_iload_n hx hb dX3_inputOf_0 rfl (lv_at hl 1 rfl) ?_
  refine cPi (As := [.int x1]) (rest := []) ⟨hx, hb, hml, hown, hts⟩ (mX5_isValue l x1 _ h) (va_cwS 1 hts (gS q_271 q_222 q_3 q_223) rfl rfl rfl (by decide +kernel) ⟨Nat.le_of_ble_eq_true rfl, Nat.le_of_ble_eq_true rfl⟩) hS rfl hl.1 rfl (Nat.le_of_ble_eq_true rfl) dX3_inputOf_1 ⟨Nat.le_of_ble_eq_true rfl, Nat.le_of_ble_eq_true rfl⟩ (fun r_1 H1 locs h hk1 hS => ?_)
  have hP := s_back hP hk1
  try dsimp only at h
  refine lv_if_eq (tgt := 19) hx hb dX3_inputOf_4 (by decide) (fun c9 => ?_) (fun c9 => ?_)
  · have h := h.1 c9
    refine lv_iload_n hx hb dX3_inputOf_19 rfl (lv_at hl 1 rfl) ?_
    exact W.iret (v := x1) hx hb hr (fun t ht hW => ⟨⟨x1, (), rfl, h, by rw [ht]; exact hP, va_K.moved hW.alike hK, hD⟩, hS.F ht⟩) hS.2.2 dX3_inputOf_20
  · have h := h.2 c9
    refine lv_aload_n hx hb dX3_inputOf_7 rfl (lv_at hl 0 rfl) ?_
    refine va_get (D := D) (ci := 3) (v := .ref a_t_values) (C := RX3) (T := TX3) (N := 2) hx hb hq inX3g hown hK hP 0 rfl rfl 0 (by decide) (hq _ q_135) (fun _ h9 => h9) rfl dX3_inputOf_8 ?_
    refine lv_iload_n hx hb dX3_inputOf_11 rfl (lv_at hl 1 rfl) ?_
    refine cPi (As := [.int x1]) (rest := [.ref a_t_values]) ⟨hx, hb, hml, hown, hts⟩ (mX5_numberOf l x1 _ h) (va_cwS 1 hts (gS q_272 q_225 q_3 q_226) rfl rfl rfl (by decide +kernel) ⟨Nat.le_of_ble_eq_true rfl, Nat.le_of_ble_eq_true rfl⟩) hS rfl hl.1 rfl (Nat.le_of_ble_eq_true rfl) dX3_inputOf_12 ⟨Nat.le_of_ble_eq_true rfl, Nat.le_of_ble_eq_true rfl⟩ (fun r_12 H1 locs h hk1 hS => ?_)
    have hP := s_back hP hk1
    try dsimp only at h
    obtain ⟨hi9, h⟩ := h
    refine va_iald hx hb hK hP 1 0 rfl rfl hi9 dX3_inputOf_15 ?_
    refine lv_goto (tgt := 20) hx hb dX3_inputOf_16 (by decide) ?_
    exact W.iret (v := f_t_values r_12.toNatClampNeg) hx hb hr (fun t ht hW => ⟨⟨f_t_values r_12.toNatClampNeg, (), rfl, h, by rw [ht]; exact hP, va_K.moved hW.alike hK, hD⟩, hS.F ht⟩) hS.2.2 dX3_inputOf_20

def wX4_signedMeaning (x0 : Int32) (x1 : Int32) (Q : Int32 → Prop) : Prop :=
  ((((1 : Int32) <<< ((x1 - 1) &&& 31)) ≤ x0 → Q (x0 - ((1 : Int32) <<< (x1 &&& 31)))) ∧ (¬ ((1 : Int32) <<< ((x1 - 1) &&& 31)) ≤ x0 → Q x0))
set_option maxHeartbeats 4000000 in
set_option maxRecDepth 100000 in
theorem mX4_signedMeaning (l : Launch) (x0 : Int32) (x1 : Int32) (Q : Int32 → Prop) (h : wX4_signedMeaning x0 x1 Q) : Met l yX4_signedMeaning (Cond.code yX4_signedMeaning cX4_signedMeaning 2 (some .int) :: wsG) ({ frames := 0, cells := 0, slots := 0, locals := 0 } : Room) (va_Pc [.int x0, .int x1] (fun _ => True)) (va_Qi (fun (r : Int32) (_ : Unit) => Q r) (fun _ _ => True) (fun _ => False)) 0 0 (fun _ => False) := by
  refine Met.ofW (cc := cX4_signedMeaning) (maxL := 2) (ret := (some .int)) (by decide) rfl ?_
  intro p e s m args below meth c s₁ B hml hv
  obtain ⟨rfl, -⟩ := hv
  have hx := B.exec
  have hb := B.bytes
  have hr := B.returns
  have hts := atoms_spec (ws := (Cond.code yX4_signedMeaning cX4_signedMeaning 2 (some .int) :: wsG)) B.pre
  have hq : ∀ w ∈ wsG, w.before _ s = true := fun w hw => hts w (List.mem_cons_of_mem _ hw)
  have hown : s.vm.findClass RX4 = some m.cls := findClass_of_methodNamed B.named
  have hlocks := B.notSynchronized
  have hS : va_S (fun _ : Nat => False) s.heap s.heap [] := va_S.rf
  have hl := lv_entry ([.int x0, .int x1]) (n := 2) (Nat.le_of_ble_eq_true rfl)
  rw [lg_entry_eq]
  generalize (lg_sl ([.int x0, .int x1]) ++ List.replicate (2 - (lg_sl ([.int x0, .int x1])).length) Slot.unset).toArray = ls at hl ⊢
  have hl : lv_has ls 2 [(0, .int x0), (1, .int x1)] := hl
  unfold wX4_signedMeaning at h
  refine lv_iload_n hx hb dX4_signedMeaning_0 rfl (lv_at hl 0 rfl) ?_
  refine lv_iconst (v := 1) hx hb dX4_signedMeaning_1 (by decide) ?_
  refine lv_iload_n hx hb dX4_signedMeaning_2 rfl (lv_at hl 1 rfl) ?_
  refine lv_iconst (v := 1) hx hb dX4_signedMeaning_3 (by decide) ?_
  refine lv_isub hx hb dX4_signedMeaning_4 ?_
  refine lv_ishl hx hb dX4_signedMeaning_5 ?_
  refine lv_icmp_ge (tgt := 13) hx hb dX4_signedMeaning_6 (by decide) (fun c9 => ?_) (fun c9 => ?_)
  · have h := h.1 c9
    refine lv_iload_n hx hb dX4_signedMeaning_13 rfl (lv_at hl 0 rfl) ?_
    refine lv_iconst (v := 1) hx hb dX4_signedMeaning_14 (by decide) ?_
    refine lv_iload_n hx hb dX4_signedMeaning_15 rfl (lv_at hl 1 rfl) ?_
    refine lv_ishl hx hb dX4_signedMeaning_16 ?_
    refine lv_isub hx hb dX4_signedMeaning_17 ?_
    exact W.iret (v := x0 - ((1 : Int32) <<< (x1 &&& 31))) hx hb hr (fun t ht hW => ⟨⟨x0 - ((1 : Int32) <<< (x1 &&& 31)), (), rfl, h, trivial⟩, hS.F ht⟩) hS.2.2 dX4_signedMeaning_18
  · have h := h.2 c9
    refine lv_iload_n hx hb dX4_signedMeaning_9 rfl (lv_at hl 0 rfl) ?_
    refine lv_goto (tgt := 18) hx hb dX4_signedMeaning_10 (by decide) ?_
    exact W.iret (v := x0) hx hb hr (fun t ht hW => ⟨⟨x0, (), rfl, h, trivial⟩, hS.F ht⟩) hS.2.2 dX4_signedMeaning_18

def wX3_apply (x0 : Int32) (x1 : Int32) (x2 : Int32) (x3 : Int32) (Q : Int32 → Prop) : Prop :=
  (∀ x4_5 : Int32, x4_5 = ((1 : Int32) <<< (x3 &&& 31)) - 1 → ((x0 = 0 → Q ((x1 <<< (x2 &&& 31)) &&& x4_5)) ∧ (¬ (x0 = 0) → ((x0 = 1 → Q (x1 >>> (x2 &&& 31))) ∧ (¬ (x0 = 1) → ((x0 = 2 → wX4_signedMeaning x1 x3 (fun r_81 => Q ((r_81 >>> (x2 &&& 31)) &&& x4_5))) ∧ (¬ (x0 = 2) → ((x0 = 3 → Q ((x1 + x2) &&& x4_5)) ∧ (¬ (x0 = 3) → ((x0 = 4 → Q ((x1 - x2) &&& x4_5)) ∧ (¬ (x0 = 4) → ((x0 = 5 → Q ((x1 * x2) &&& x4_5)) ∧ (¬ (x0 = 5) → ((x0 = 6 → Q (((x1.toInt64 * x2.toInt64) >>> (x3.toInt64 &&& 63)).toInt32)) ∧ (¬ (x0 = 6) → ((x0 = 7 → wX4_signedMeaning x1 x3 (fun r_122 => wX4_signedMeaning x2 x3 (fun r_127 => Q (((r_122 * r_127) >>> (x3 &&& 31)) &&& x4_5)))) ∧ (¬ (x0 = 7) → ((x0 = 8 → Q (x1 &&& x2)) ∧ (¬ (x0 = 8) → ((x0 = 9 → Q (x1 ^^^ x2)) ∧ (¬ (x0 = 9) → ((x0 = 10 → Q ((x1 >>> (x2 &&& 31)) ||| ((x1 <<< ((x3 - x2) &&& 31)) &&& x4_5))) ∧ (¬ (x0 = 10) → ((x2 < x1 → Q 0) ∧ (¬ x2 < x1 → Q 1)))))))))))))))))))))))))
set_option maxHeartbeats 4000000 in
set_option maxRecDepth 100000 in
theorem mX3_apply (l : Launch) (x0 : Int32) (x1 : Int32) (x2 : Int32) (x3 : Int32) (Q : Int32 → Prop) (h : wX3_apply x0 x1 x2 x3 Q) : Met l yX3_apply (Cond.code yX3_apply cX3_apply 5 (some .int) :: wsG) ({ frames := 1, cells := 0, slots := 0, locals := 21 } : Room) (va_Pc [.int x0, .int x1, .int x2, .int x3] (fun _ => True)) (va_Qi (fun (r : Int32) (_ : Unit) => Q r) (fun _ _ => True) (fun _ => False)) 0 0 (fun _ => False) := by
  refine Met.ofW (cc := cX3_apply) (maxL := 5) (ret := (some .int)) (by decide) rfl ?_
  intro p e s m args below meth c s₁ B hml hv
  obtain ⟨rfl, -⟩ := hv
  have hx := B.exec
  have hb := B.bytes
  have hr := B.returns
  have hts := atoms_spec (ws := (Cond.code yX3_apply cX3_apply 5 (some .int) :: wsG)) B.pre
  have hq : ∀ w ∈ wsG, w.before _ s = true := fun w hw => hts w (List.mem_cons_of_mem _ hw)
  have hown : s.vm.findClass RX3 = some m.cls := findClass_of_methodNamed B.named
  have hlocks := B.notSynchronized
  have hS : va_S (fun _ : Nat => False) s.heap s.heap [] := va_S.rf
  have hl := lv_entry ([.int x0, .int x1, .int x2, .int x3]) (n := 5) (Nat.le_of_ble_eq_true rfl)
  rw [lg_entry_eq]
  generalize (lg_sl ([.int x0, .int x1, .int x2, .int x3]) ++ List.replicate (5 - (lg_sl ([.int x0, .int x1, .int x2, .int x3])).length) Slot.unset).toArray = ls at hl ⊢
  have hl : lv_has ls 5 [(0, .int x0), (1, .int x1), (2, .int x2), (3, .int x3)] := hl
  unfold wX3_apply at h
  refine lv_iconst (v := 1) hx hb dX3_apply_0 (by decide) ?_
  refine lv_iload_n hx hb dX3_apply_1 rfl (lv_at hl 3 rfl) ?_
  refine lv_ishl hx hb dX3_apply_2 ?_
  refine lv_iconst (v := 1) hx hb dX3_apply_3 (by decide) ?_
  refine lv_isub hx hb dX3_apply_4 ?_
  refine lv_topi (fun x4_5 ex4_5 => ?_)
  have h := h x4_5 ex4_5
  refine lv_istore (lv' := [(4, .int x4_5), (0, .int x0), (1, .int x1), (2, .int x2), (3, .int x3)]) hx hb dX3_apply_5 hl (by decide) rfl (fun ls hl => ?_)
  refine lv_iload_n hx hb dX3_apply_7 rfl (lv_at hl 1 rfl) ?_
  by_cases c9 : x0 = 0
  · have h := h.1 c9
    refine lv_tableIn (tgt := 68) hx hb dX3_apply_8 (by rw [c9]; decide) (by rw [c9]; decide) (off := 60) (by rw [c9]; decide) (by decide) ?_
    refine lv_iload_n hx hb dX3_apply_68 rfl (lv_at hl 2 rfl) ?_
    refine lv_iload_n hx hb dX3_apply_69 rfl (lv_at hl 3 rfl) ?_
    refine lv_ishl hx hb dX3_apply_70 ?_
    refine lv_iload hx hb dX3_apply_71 (lv_at hl 0 rfl) ?_
    refine lv_iand hx hb dX3_apply_73 ?_
    exact W.iret (v := (x1 <<< (x2 &&& 31)) &&& x4_5) hx hb hr (fun t ht hW => ⟨⟨(x1 <<< (x2 &&& 31)) &&& x4_5, (), rfl, h, trivial⟩, hS.F ht⟩) hS.2.2 dX3_apply_74
  have h := h.2 c9
  have cs_0 := c9
  by_cases c9 : x0 = 1
  · have h := h.1 c9
    refine lv_tableIn (tgt := 75) hx hb dX3_apply_8 (by rw [c9]; decide) (by rw [c9]; decide) (off := 67) (by rw [c9]; decide) (by decide) ?_
    refine lv_iload_n hx hb dX3_apply_75 rfl (lv_at hl 2 rfl) ?_
    refine lv_iload_n hx hb dX3_apply_76 rfl (lv_at hl 3 rfl) ?_
    refine lv_ishr hx hb dX3_apply_77 ?_
    exact W.iret (v := x1 >>> (x2 &&& 31)) hx hb hr (fun t ht hW => ⟨⟨x1 >>> (x2 &&& 31), (), rfl, h, trivial⟩, hS.F ht⟩) hS.2.2 dX3_apply_78
  have h := h.2 c9
  have cs_1 := c9
  by_cases c9 : x0 = 2
  · have h := h.1 c9
    refine lv_tableIn (tgt := 79) hx hb dX3_apply_8 (by rw [c9]; decide) (by rw [c9]; decide) (off := 71) (by rw [c9]; decide) (by decide) ?_
    refine lv_iload_n hx hb dX3_apply_79 rfl (lv_at hl 2 rfl) ?_
    refine lv_iload_n hx hb dX3_apply_80 rfl (lv_at hl 4 rfl) ?_
    refine cPi (As := [.int x1, .int x3]) (rest := []) ⟨hx, hb, hml, hown, hts⟩ (mX4_signedMeaning l x1 x3 _ h) (va_cwS 2 hts (gS q_763 q_764 q_16 q_765) rfl rfl rfl (by decide +kernel) ⟨Nat.le_of_ble_eq_true rfl, Nat.le_of_ble_eq_true rfl⟩) hS rfl hl.1 rfl (Nat.le_of_ble_eq_true rfl) dX3_apply_81 ⟨Nat.le_of_ble_eq_true rfl, Nat.le_of_ble_eq_true rfl⟩ (fun r_81 H1 locs h hk1 hS => ?_)
    try dsimp only at h
    refine lv_iload_n hx hb dX3_apply_84 rfl (lv_at hl 3 rfl) ?_
    refine lv_ishr hx hb dX3_apply_85 ?_
    refine lv_iload hx hb dX3_apply_86 (lv_at hl 0 rfl) ?_
    refine lv_iand hx hb dX3_apply_88 ?_
    exact W.iret (v := (r_81 >>> (x2 &&& 31)) &&& x4_5) hx hb hr (fun t ht hW => ⟨⟨(r_81 >>> (x2 &&& 31)) &&& x4_5, (), rfl, h, trivial⟩, hS.F ht⟩) hS.2.2 dX3_apply_89
  have h := h.2 c9
  have cs_2 := c9
  by_cases c9 : x0 = 3
  · have h := h.1 c9
    refine lv_tableIn (tgt := 90) hx hb dX3_apply_8 (by rw [c9]; decide) (by rw [c9]; decide) (off := 82) (by rw [c9]; decide) (by decide) ?_
    refine lv_iload_n hx hb dX3_apply_90 rfl (lv_at hl 2 rfl) ?_
    refine lv_iload_n hx hb dX3_apply_91 rfl (lv_at hl 3 rfl) ?_
    refine lv_iadd hx hb dX3_apply_92 ?_
    refine lv_iload hx hb dX3_apply_93 (lv_at hl 0 rfl) ?_
    refine lv_iand hx hb dX3_apply_95 ?_
    exact W.iret (v := (x1 + x2) &&& x4_5) hx hb hr (fun t ht hW => ⟨⟨(x1 + x2) &&& x4_5, (), rfl, h, trivial⟩, hS.F ht⟩) hS.2.2 dX3_apply_96
  have h := h.2 c9
  have cs_3 := c9
  by_cases c9 : x0 = 4
  · have h := h.1 c9
    refine lv_tableIn (tgt := 97) hx hb dX3_apply_8 (by rw [c9]; decide) (by rw [c9]; decide) (off := 89) (by rw [c9]; decide) (by decide) ?_
    refine lv_iload_n hx hb dX3_apply_97 rfl (lv_at hl 2 rfl) ?_
    refine lv_iload_n hx hb dX3_apply_98 rfl (lv_at hl 3 rfl) ?_
    refine lv_isub hx hb dX3_apply_99 ?_
    refine lv_iload hx hb dX3_apply_100 (lv_at hl 0 rfl) ?_
    refine lv_iand hx hb dX3_apply_102 ?_
    exact W.iret (v := (x1 - x2) &&& x4_5) hx hb hr (fun t ht hW => ⟨⟨(x1 - x2) &&& x4_5, (), rfl, h, trivial⟩, hS.F ht⟩) hS.2.2 dX3_apply_103
  have h := h.2 c9
  have cs_4 := c9
  by_cases c9 : x0 = 5
  · have h := h.1 c9
    refine lv_tableIn (tgt := 104) hx hb dX3_apply_8 (by rw [c9]; decide) (by rw [c9]; decide) (off := 96) (by rw [c9]; decide) (by decide) ?_
    refine lv_iload_n hx hb dX3_apply_104 rfl (lv_at hl 2 rfl) ?_
    refine lv_iload_n hx hb dX3_apply_105 rfl (lv_at hl 3 rfl) ?_
    refine lv_imul hx hb dX3_apply_106 ?_
    refine lv_iload hx hb dX3_apply_107 (lv_at hl 0 rfl) ?_
    refine lv_iand hx hb dX3_apply_109 ?_
    exact W.iret (v := (x1 * x2) &&& x4_5) hx hb hr (fun t ht hW => ⟨⟨(x1 * x2) &&& x4_5, (), rfl, h, trivial⟩, hS.F ht⟩) hS.2.2 dX3_apply_110
  have h := h.2 c9
  have cs_5 := c9
  by_cases c9 : x0 = 6
  · have h := h.1 c9
    refine lv_tableIn (tgt := 111) hx hb dX3_apply_8 (by rw [c9]; decide) (by rw [c9]; decide) (off := 103) (by rw [c9]; decide) (by decide) ?_
    refine lv_iload_n hx hb dX3_apply_111 rfl (lv_at hl 2 rfl) ?_
    refine lv_i2l hx hb dX3_apply_112 rfl ?_
    refine lv_iload_n hx hb dX3_apply_113 rfl (lv_at hl 3 rfl) ?_
    refine lv_i2l hx hb dX3_apply_114 rfl ?_
    refine lv_lmul hx hb dX3_apply_115 ?_
    refine lv_iload_n hx hb dX3_apply_116 rfl (lv_at hl 4 rfl) ?_
    refine lv_lshr hx hb dX3_apply_117 rfl ?_
    refine lv_l2i hx hb dX3_apply_118 rfl ?_
    exact W.iret (v := ((x1.toInt64 * x2.toInt64) >>> (x3.toInt64 &&& 63)).toInt32) hx hb hr (fun t ht hW => ⟨⟨((x1.toInt64 * x2.toInt64) >>> (x3.toInt64 &&& 63)).toInt32, (), rfl, h, trivial⟩, hS.F ht⟩) hS.2.2 dX3_apply_119
  have h := h.2 c9
  have cs_6 := c9
  by_cases c9 : x0 = 7
  · have h := h.1 c9
    refine lv_tableIn (tgt := 120) hx hb dX3_apply_8 (by rw [c9]; decide) (by rw [c9]; decide) (off := 112) (by rw [c9]; decide) (by decide) ?_
    refine lv_iload_n hx hb dX3_apply_120 rfl (lv_at hl 2 rfl) ?_
    refine lv_iload_n hx hb dX3_apply_121 rfl (lv_at hl 4 rfl) ?_
    refine cPi (As := [.int x1, .int x3]) (rest := []) ⟨hx, hb, hml, hown, hts⟩ (mX4_signedMeaning l x1 x3 _ h) (va_cwS 2 hts (gS q_763 q_764 q_16 q_765) rfl rfl rfl (by decide +kernel) ⟨Nat.le_of_ble_eq_true rfl, Nat.le_of_ble_eq_true rfl⟩) hS rfl hl.1 rfl (Nat.le_of_ble_eq_true rfl) dX3_apply_122 ⟨Nat.le_of_ble_eq_true rfl, Nat.le_of_ble_eq_true rfl⟩ (fun r_122 H1 locs h hk1 hS => ?_)
    try dsimp only at h
    refine lv_iload_n hx hb dX3_apply_125 rfl (lv_at hl 3 rfl) ?_
    refine lv_iload_n hx hb dX3_apply_126 rfl (lv_at hl 4 rfl) ?_
    refine cPi (As := [.int x2, .int x3]) (rest := [.int r_122]) ⟨hx, hb, hml, hown, hts⟩ (mX4_signedMeaning l x2 x3 _ h) (va_cwS 2 hts (gS q_763 q_764 q_16 q_765) rfl rfl rfl (by decide +kernel) ⟨Nat.le_of_ble_eq_true rfl, Nat.le_of_ble_eq_true rfl⟩) hS rfl hl.1 rfl (Nat.le_of_ble_eq_true rfl) dX3_apply_127 ⟨Nat.le_of_ble_eq_true rfl, Nat.le_of_ble_eq_true rfl⟩ (fun r_127 H1 locs h hk1 hS => ?_)
    try dsimp only at h
    refine lv_imul hx hb dX3_apply_130 ?_
    refine lv_iload_n hx hb dX3_apply_131 rfl (lv_at hl 4 rfl) ?_
    refine lv_ishr hx hb dX3_apply_132 ?_
    refine lv_iload hx hb dX3_apply_133 (lv_at hl 0 rfl) ?_
    refine lv_iand hx hb dX3_apply_135 ?_
    exact W.iret (v := ((r_122 * r_127) >>> (x3 &&& 31)) &&& x4_5) hx hb hr (fun t ht hW => ⟨⟨((r_122 * r_127) >>> (x3 &&& 31)) &&& x4_5, (), rfl, h, trivial⟩, hS.F ht⟩) hS.2.2 dX3_apply_136
  have h := h.2 c9
  have cs_7 := c9
  by_cases c9 : x0 = 8
  · have h := h.1 c9
    refine lv_tableIn (tgt := 137) hx hb dX3_apply_8 (by rw [c9]; decide) (by rw [c9]; decide) (off := 129) (by rw [c9]; decide) (by decide) ?_
    refine lv_iload_n hx hb dX3_apply_137 rfl (lv_at hl 2 rfl) ?_
    refine lv_iload_n hx hb dX3_apply_138 rfl (lv_at hl 3 rfl) ?_
    refine lv_iand hx hb dX3_apply_139 ?_
    exact W.iret (v := x1 &&& x2) hx hb hr (fun t ht hW => ⟨⟨x1 &&& x2, (), rfl, h, trivial⟩, hS.F ht⟩) hS.2.2 dX3_apply_140
  have h := h.2 c9
  have cs_8 := c9
  by_cases c9 : x0 = 9
  · have h := h.1 c9
    refine lv_tableIn (tgt := 141) hx hb dX3_apply_8 (by rw [c9]; decide) (by rw [c9]; decide) (off := 133) (by rw [c9]; decide) (by decide) ?_
    refine lv_iload_n hx hb dX3_apply_141 rfl (lv_at hl 2 rfl) ?_
    refine lv_iload_n hx hb dX3_apply_142 rfl (lv_at hl 3 rfl) ?_
    refine lv_ixor hx hb dX3_apply_143 ?_
    exact W.iret (v := x1 ^^^ x2) hx hb hr (fun t ht hW => ⟨⟨x1 ^^^ x2, (), rfl, h, trivial⟩, hS.F ht⟩) hS.2.2 dX3_apply_144
  have h := h.2 c9
  have cs_9 := c9
  by_cases c9 : x0 = 10
  · have h := h.1 c9
    refine lv_tableIn (tgt := 145) hx hb dX3_apply_8 (by rw [c9]; decide) (by rw [c9]; decide) (off := 137) (by rw [c9]; decide) (by decide) ?_
    refine lv_iload_n hx hb dX3_apply_145 rfl (lv_at hl 2 rfl) ?_
    refine lv_iload_n hx hb dX3_apply_146 rfl (lv_at hl 3 rfl) ?_
    refine lv_ishr hx hb dX3_apply_147 ?_
    refine lv_iload_n hx hb dX3_apply_148 rfl (lv_at hl 2 rfl) ?_
    refine lv_iload_n hx hb dX3_apply_149 rfl (lv_at hl 4 rfl) ?_
    refine lv_iload_n hx hb dX3_apply_150 rfl (lv_at hl 3 rfl) ?_
    refine lv_isub hx hb dX3_apply_151 ?_
    refine lv_ishl hx hb dX3_apply_152 ?_
    refine lv_iload hx hb dX3_apply_153 (lv_at hl 0 rfl) ?_
    refine lv_iand hx hb dX3_apply_155 ?_
    refine lv_ior hx hb dX3_apply_156 ?_
    exact W.iret (v := (x1 >>> (x2 &&& 31)) ||| ((x1 <<< ((x3 - x2) &&& 31)) &&& x4_5)) hx hb hr (fun t ht hW => ⟨⟨(x1 >>> (x2 &&& 31)) ||| ((x1 <<< ((x3 - x2) &&& 31)) &&& x4_5), (), rfl, h, trivial⟩, hS.F ht⟩) hS.2.2 dX3_apply_157
  have h := h.2 c9
  have cs_10 := c9
  refine lv_tableOut (tgt := 158) hx hb dX3_apply_8 (sw_out (fun j9 h1 h2 hj => ?_)) (by decide) ?_
  · rcases (show j9 = 0 ∨ j9 = 1 ∨ j9 = 2 ∨ j9 = 3 ∨ j9 = 4 ∨ j9 = 5 ∨ j9 = 6 ∨ j9 = 7 ∨ j9 = 8 ∨ j9 = 9 ∨ j9 = 10 by omega) with rfl | rfl | rfl | rfl | rfl | rfl | rfl | rfl | rfl | rfl | rfl
    · exact cs_0 hj
    · exact cs_1 hj
    · exact cs_2 hj
    · exact cs_3 hj
    · exact cs_4 hj
    · exact cs_5 hj
    · exact cs_6 hj
    · exact cs_7 hj
    · exact cs_8 hj
    · exact cs_9 hj
    · exact cs_10 hj
  refine lv_iload_n hx hb dX3_apply_158 rfl (lv_at hl 2 rfl) ?_
  refine lv_iload_n hx hb dX3_apply_159 rfl (lv_at hl 3 rfl) ?_
  refine lv_icmp_gt (tgt := 167) hx hb dX3_apply_160 (by decide) (fun c9 => ?_) (fun c9 => ?_)
  · have h := h.1 c9
    refine lv_iconst (v := 0) hx hb dX3_apply_167 (by decide) ?_
    exact W.iret (v := 0) hx hb hr (fun t ht hW => ⟨⟨0, (), rfl, h, trivial⟩, hS.F ht⟩) hS.2.2 dX3_apply_168
  · have h := h.2 c9
    refine lv_iconst (v := 1) hx hb dX3_apply_163 (by decide) ?_
    refine lv_goto (tgt := 168) hx hb dX3_apply_164 (by decide) ?_
    exact W.iret (v := 1) hx hb hr (fun t ht hW => ⟨⟨1, (), rfl, h, trivial⟩, hS.F ht⟩) hS.2.2 dX3_apply_168

abbrev qX3_compute (D : va_G) (ca : Nat → ClassId) (a_t a_t_values a_t_depths a_p a_p_operations a_p_firsts a_p_seconds : Nat) (p_width : Int32) (p_length : Int32) (p_result : Int32) (p_taskKind : Int32) (p_taskDivisor : Int32) (f_p_operations : Nat → Int32) (f_p_firsts : Nat → Int32) (f_p_seconds : Nat → Int32) (Q : Int32 → (Nat → Int32) → Prop) (A : Nat → Prop) : Array Value → State → Outcome → State → Prop := va_Qi (fun (r : Int32) (u : (Nat → Int32)) => Q r u) (wEnd D ca (fun u : (Nat → Int32) => [(a_t, .inr (3, [.ref a_t_values, .ref a_t_depths])), (a_t_values, .inl (ca 0, 41, .inl u)), (a_p, .inr (4, [.int p_width, .int p_length, .int p_result, .int p_taskKind, .int p_taskDivisor, .ref a_p_operations, .ref a_p_firsts, .ref a_p_seconds])), (a_p_operations, .inl (ca 0, 40, .inl f_p_operations)), (a_p_firsts, .inl (ca 0, 40, .inl f_p_firsts)), (a_p_seconds, .inl (ca 0, 40, .inl f_p_seconds))]) A) A
def wX3_compute_10 (p_width : Int32) (f_p_operations : Nat → Int32) (f_p_firsts : Nat → Int32) (f_p_seconds : Nat → Int32) (x3 : Int32) (Q : Int32 → (Nat → Int32) → Prop) : Nat → Int32 → (Nat → Int32) → Prop
  | 0, _, _ => False
  | n9 + 1, x4_10, f_t_values_10 =>
  ((x3 ≤ x4_10 → (vp_in x3 41 ∧ Q (f_t_values_10 x3.toNatClampNeg) f_t_values_10)) ∧ (¬ x3 ≤ x4_10 → (vp_in x4_10 40 ∧ wX3_inputOf f_t_values_10 (f_p_firsts x4_10.toNatClampNeg) (fun r_24 => (vp_in x4_10 40 ∧ wX3_inputOf f_t_values_10 (f_p_seconds x4_10.toNatClampNeg) (fun r_37 => (vp_in x4_10 40 ∧ wX3_apply (f_p_operations x4_10.toNatClampNeg) r_24 r_37 p_width (fun r_65 => (vp_in (x4_10 + 1) 41 ∧ (∀ x4_69 : Int32, x4_69 = x4_10 + 1 → (wX3_compute_10 p_width f_p_operations f_p_firsts f_p_seconds x3 Q n9) x4_69 (upd f_t_values_10 (x4_10 + 1).toNatClampNeg r_65)))))))))))
def wX3_compute (f_t_values : Nat → Int32) (p_width : Int32) (f_p_operations : Nat → Int32) (f_p_firsts : Nat → Int32) (f_p_seconds : Nat → Int32) (x2 : Int32) (x3 : Int32) (Q : Int32 → (Nat → Int32) → Prop) : Prop :=
  (vp_in 0 41 ∧ (∃ k9, wX3_compute_10 p_width f_p_operations f_p_firsts f_p_seconds x3 Q k9 0 (upd f_t_values (0 : Int32).toNatClampNeg x2)))
set_option maxHeartbeats 4000000 in
set_option maxRecDepth 100000 in
theorem mX3_compute (l : Launch) (D : va_G) (ca : Nat → ClassId) (a_t a_t_values a_t_depths a_p a_p_operations a_p_firsts a_p_seconds : Nat) (sz : Nat) (f_t_values : Nat → Int32) (p_width : Int32) (p_length : Int32) (p_result : Int32) (p_taskKind : Int32) (p_taskDivisor : Int32) (f_p_operations : Nat → Int32) (f_p_firsts : Nat → Int32) (f_p_seconds : Nat → Int32) (x2 : Int32) (x3 : Int32) (Q : Int32 → (Nat → Int32) → Prop) (h : wX3_compute f_t_values p_width f_p_operations f_p_firsts f_p_seconds x2 x3 Q) : Met l yX3_compute (Cond.code yX3_compute cX3_compute 7 (some .int) :: wsG) ({ frames := 3, cells := 0, slots := 0, locals := 61 } : Room) (va_Pc [.ref a_t, .ref a_p, .int x2, .int x3] (wPre D ca [(a_t, .inr (3, [.ref a_t_values, .ref a_t_depths])), (a_t_values, .inl (ca 0, 41, .inl f_t_values)), (a_p, .inr (4, [.int p_width, .int p_length, .int p_result, .int p_taskKind, .int p_taskDivisor, .ref a_p_operations, .ref a_p_firsts, .ref a_p_seconds])), (a_p_operations, .inl (ca 0, 40, .inl f_p_operations)), (a_p_firsts, .inl (ca 0, 40, .inl f_p_firsts)), (a_p_seconds, .inl (ca 0, 40, .inl f_p_seconds))] sz)) (qX3_compute D ca a_t a_t_values a_t_depths a_p a_p_operations a_p_firsts a_p_seconds p_width p_length p_result p_taskKind p_taskDivisor f_p_operations f_p_firsts f_p_seconds Q (va_A [(a_t, .inr (3, [.ref a_t_values, .ref a_t_depths])), (a_t_values, .inl (ca 0, 41, .inl f_t_values)), (a_p, .inr (4, [.int p_width, .int p_length, .int p_result, .int p_taskKind, .int p_taskDivisor, .ref a_p_operations, .ref a_p_firsts, .ref a_p_seconds])), (a_p_operations, .inl (ca 0, 40, .inl f_p_operations)), (a_p_firsts, .inl (ca 0, 40, .inl f_p_firsts)), (a_p_seconds, .inl (ca 0, 40, .inl f_p_seconds))] sz)) 0 0 (va_A [(a_t, .inr (3, [.ref a_t_values, .ref a_t_depths])), (a_t_values, .inl (ca 0, 41, .inl f_t_values)), (a_p, .inr (4, [.int p_width, .int p_length, .int p_result, .int p_taskKind, .int p_taskDivisor, .ref a_p_operations, .ref a_p_firsts, .ref a_p_seconds])), (a_p_operations, .inl (ca 0, 40, .inl f_p_operations)), (a_p_firsts, .inl (ca 0, 40, .inl f_p_firsts)), (a_p_seconds, .inl (ca 0, 40, .inl f_p_seconds))] sz) := by
  refine Met.ofW (cc := cX3_compute) (maxL := 7) (ret := (some .int)) (by decide) rfl ?_
  intro p e s m args below meth c s₁ B hml hv
  obtain ⟨rfl, hsz, hP, hK, hD0⟩ := hv
  have hx := B.exec
  have hb := B.bytes
  have hr := B.returns
  have hts := atoms_spec (ws := (Cond.code yX3_compute cX3_compute 7 (some .int) :: wsG)) B.pre
  have hq : ∀ w ∈ wsG, w.before _ s = true := fun w hw => hts w (List.mem_cons_of_mem _ hw)
  have hown : s.vm.findClass RX3 = some m.cls := findClass_of_methodNamed B.named
  have hlocks := B.notSynchronized
  subst hsz
  have hD := hD0.self (sz := s.heap.size)
  generalize hAe : va_A [(a_t, .inr (3, [.ref a_t_values, .ref a_t_depths])), (a_t_values, .inl (ca 0, 41, .inl f_t_values)), (a_p, .inr (4, [.int p_width, .int p_length, .int p_result, .int p_taskKind, .int p_taskDivisor, .ref a_p_operations, .ref a_p_firsts, .ref a_p_seconds])), (a_p_operations, .inl (ca 0, 40, .inl f_p_operations)), (a_p_firsts, .inl (ca 0, 40, .inl f_p_firsts)), (a_p_seconds, .inl (ca 0, 40, .inl f_p_seconds))] s.heap.size = A at hD ⊢
  have hA : ∀ q : Nat, s.heap.size ≤ q → A q := fun q h => by rw [← hAe]; exact Or.inr h
  have hS : va_S A s.heap s.heap [] := va_S.rf
  have hP : va_P D vwCl [(a_t, .inr (3, [.ref a_t_values, .ref a_t_depths])), (a_t_values, .inl (ca 0, 41, .inl f_t_values)), (a_p, .inr (4, [.int p_width, .int p_length, .int p_result, .int p_taskKind, .int p_taskDivisor, .ref a_p_operations, .ref a_p_firsts, .ref a_p_seconds])), (a_p_operations, .inl (ca 0, 40, .inl f_p_operations)), (a_p_firsts, .inl (ca 0, 40, .inl f_p_firsts)), (a_p_seconds, .inl (ca 0, 40, .inl f_p_seconds))] s.heap := hP
  have hl := lv_entry ([.ref a_t, .ref a_p, .int x2, .int x3]) (n := 7) (Nat.le_of_ble_eq_true rfl)
  rw [lg_entry_eq]
  generalize (lg_sl ([.ref a_t, .ref a_p, .int x2, .int x3]) ++ List.replicate (7 - (lg_sl ([.ref a_t, .ref a_p, .int x2, .int x3])).length) Slot.unset).toArray = ls at hl ⊢
  have hl : lv_has ls 7 [(0, .ref a_t), (1, .ref a_p), (2, .int x2), (3, .int x3)] := hl
  unfold wX3_compute at h
  refine lv_aload_n hx hb dX3_compute_0 rfl (lv_at hl 0 rfl) ?_
  refine va_get (D := D) (ci := 3) (v := .ref a_t_values) (C := RX3) (T := TX3) (N := 2) hx hb hq inX3g hown hK hP 0 rfl rfl 0 (by decide) (hq _ q_135) (fun _ h9 => h9) rfl dX3_compute_1 ?_
  refine lv_iconst (v := 0) hx hb dX3_compute_4 (by decide) ?_
  refine lv_iload_n hx hb dX3_compute_5 rfl (lv_at hl 2 rfl) ?_
  obtain ⟨hi9, h⟩ := h
  refine va_iast hx hb hK hP hD hS 1 0 rfl rfl hi9 dX3_compute_6 (fun H locs hP hD hS => ?_)
  have hP : va_P D vwCl [(a_t, .inr (3, [.ref a_t_values, .ref a_t_depths])), (a_t_values, .inl (ca 0, 41, .inl (upd f_t_values (0 : Int32).toNatClampNeg x2))), (a_p, .inr (4, [.int p_width, .int p_length, .int p_result, .int p_taskKind, .int p_taskDivisor, .ref a_p_operations, .ref a_p_firsts, .ref a_p_seconds])), (a_p_operations, .inl (ca 0, 40, .inl f_p_operations)), (a_p_firsts, .inl (ca 0, 40, .inl f_p_firsts)), (a_p_seconds, .inl (ca 0, 40, .inl f_p_seconds))] H := hP
  have hD : va_D A [(a_t, .inr (3, [.ref a_t_values, .ref a_t_depths])), (a_t_values, .inl (ca 0, 41, .inl (upd f_t_values (0 : Int32).toNatClampNeg x2))), (a_p, .inr (4, [.int p_width, .int p_length, .int p_result, .int p_taskKind, .int p_taskDivisor, .ref a_p_operations, .ref a_p_firsts, .ref a_p_seconds])), (a_p_operations, .inl (ca 0, 40, .inl f_p_operations)), (a_p_firsts, .inl (ca 0, 40, .inl f_p_firsts)), (a_p_seconds, .inl (ca 0, 40, .inl f_p_seconds))] := hD
  refine lv_iconst (v := 0) hx hb dX3_compute_7 (by decide) ?_
  refine lv_istore (lv' := [(4, .int 0), (0, .ref a_t), (1, .ref a_p), (2, .int x2), (3, .int x3)]) hx hb dX3_compute_8 hl (by decide) rfl (fun ls hl => ?_)
  have hL10 : ∀ (n9_10 : Nat) (x4_10 : Int32) (f_t_values_10 : Nat → Int32) (H : Heap) (locs : List Loc) (ls : Array Slot), va_P D vwCl [(a_t, .inr (3, [.ref a_t_values, .ref a_t_depths])), (a_t_values, .inl (ca 0, 41, .inl f_t_values_10)), (a_p, .inr (4, [.int p_width, .int p_length, .int p_result, .int p_taskKind, .int p_taskDivisor, .ref a_p_operations, .ref a_p_firsts, .ref a_p_seconds])), (a_p_operations, .inl (ca 0, 40, .inl f_p_operations)), (a_p_firsts, .inl (ca 0, 40, .inl f_p_firsts)), (a_p_seconds, .inl (ca 0, 40, .inl f_p_seconds))] H → va_D A [(a_t, .inr (3, [.ref a_t_values, .ref a_t_depths])), (a_t_values, .inl (ca 0, 41, .inl f_t_values_10)), (a_p, .inr (4, [.int p_width, .int p_length, .int p_result, .int p_taskKind, .int p_taskDivisor, .ref a_p_operations, .ref a_p_firsts, .ref a_p_seconds])), (a_p_operations, .inl (ca 0, 40, .inl f_p_operations)), (a_p_firsts, .inl (ca 0, 40, .inl f_p_firsts)), (a_p_seconds, .inl (ca 0, 40, .inl f_p_seconds))] → va_S A s.heap H locs → lv_has ls 7 [(0, .ref a_t), (1, .ref a_p), (3, .int x3), (4, .int x4_10)] → wX3_compute_10 p_width f_p_operations f_p_firsts f_p_seconds x3 Q n9_10 x4_10 f_t_values_10 → W p l e (headSpec (Cond.code yX3_compute cX3_compute 7 (some .int) :: wsG) ({ frames := 3, cells := 0, slots := 0, locals := 61 } : Room)).room s m ([.ref a_t, .ref a_p, .int x2, .int x3] : List Value).toArray below meth c H locs 0 0 (MQ below (qX3_compute D ca a_t a_t_values a_t_depths a_p a_p_operations a_p_firsts a_p_seconds p_width p_length p_result p_taskKind p_taskDivisor f_p_operations f_p_firsts f_p_seconds Q A) ([.ref a_t, .ref a_p, .int x2, .int x3] : List Value).toArray s 0 0 A) (F0 m 10 ls []) := by
    intro n9_10
    induction n9_10 with
    | zero =>
      intro x4_10 f_t_values_10 H locs ls hP hD hS hl h
      exact False.elim h
    | succ n9_10 ih10 =>
      intro x4_10 f_t_values_10 H locs ls hP hD hS hl h
      unfold wX3_compute_10 at h
      refine lv_iload hx hb dX3_compute_10 (lv_at hl 3 rfl) ?_
      refine lv_iload_n hx hb dX3_compute_12 rfl (lv_at hl 2 rfl) ?_
      refine lv_icmp_ge (tgt := 75) hx hb dX3_compute_13 (by decide) (fun c9 => ?_) (fun c9 => ?_)
      · have h := h.1 c9
        refine lv_aload_n hx hb dX3_compute_75 rfl (lv_at hl 0 rfl) ?_
        refine va_get (D := D) (ci := 3) (v := .ref a_t_values) (C := RX3) (T := TX3) (N := 2) hx hb hq inX3g hown hK hP 0 rfl rfl 0 (by decide) (hq _ q_135) (fun _ h9 => h9) rfl dX3_compute_76 ?_
        refine lv_iload_n hx hb dX3_compute_79 rfl (lv_at hl 2 rfl) ?_
        obtain ⟨hi9, h⟩ := h
        refine va_iald hx hb hK hP 1 0 rfl rfl hi9 dX3_compute_80 ?_
        exact W.iret (v := f_t_values_10 x3.toNatClampNeg) hx hb hr (fun t ht hW => ⟨⟨f_t_values_10 x3.toNatClampNeg, f_t_values_10, rfl, h, by rw [ht]; exact hP, va_K.moved hW.alike hK, hD⟩, hS.F ht⟩) hS.2.2 dX3_compute_81
      · have h := h.2 c9
        refine lv_aload_n hx hb dX3_compute_16 rfl (lv_at hl 0 rfl) ?_
        refine lv_aload_n hx hb dX3_compute_17 rfl (lv_at hl 1 rfl) ?_
        refine va_get (D := D) (ci := 4) (v := .ref a_p_firsts) (C := RX5) (T := TX5) (N := 8) hx hb hq inX5g hown hK hP 2 rfl rfl 6 (by decide) (hq _ q_69) (fun _ h9 => h9) rfl dX3_compute_18 ?_
        refine lv_iload hx hb dX3_compute_21 (lv_at hl 3 rfl) ?_
        obtain ⟨hi9, h⟩ := h
        refine va_iald hx hb hK hP 4 0 rfl rfl hi9 dX3_compute_23 ?_
        refine cVi (As := [.int (f_p_firsts x4_10.toNatClampNeg)]) (rest := []) (wc := [(a_t, .inr (3, [.ref a_t_values, .ref a_t_depths])), (a_t_values, .inl (ca 0, 41, .inl f_t_values_10))]) (wr := [(a_p, .inr (4, [.int p_width, .int p_length, .int p_result, .int p_taskKind, .int p_taskDivisor, .ref a_p_operations, .ref a_p_firsts, .ref a_p_seconds])), (a_p_operations, .inl (ca 0, 40, .inl f_p_operations)), (a_p_firsts, .inl (ca 0, 40, .inl f_p_firsts)), (a_p_seconds, .inl (ca 0, 40, .inl f_p_seconds))]) (w1 := fun _ : Unit => [(a_t, .inr (3, [.ref a_t_values, .ref a_t_depths])), (a_t_values, .inl (ca 0, 41, .inl f_t_values_10))]) (ws2 := fun _ : Unit => [(a_t, .inr (3, [.ref a_t_values, .ref a_t_depths])), (a_t_values, .inl (ca 0, 41, .inl f_t_values_10)), (a_p, .inr (4, [.int p_width, .int p_length, .int p_result, .int p_taskKind, .int p_taskDivisor, .ref a_p_operations, .ref a_p_firsts, .ref a_p_seconds])), (a_p_operations, .inl (ca 0, 40, .inl f_p_operations)), (a_p_firsts, .inl (ca 0, 40, .inl f_p_firsts)), (a_p_seconds, .inl (ca 0, 40, .inl f_p_seconds))]) ⟨hx, hb, hml, hown, hts⟩ (mX3_inputOf l D ca a_t a_t_values a_t_depths _ f_t_values_10 (f_p_firsts x4_10.toNatClampNeg) _ h) (cwV 1 hts (gV q_756 q_758 qs_29 q_5 q_759) rfl rfl rfl (by decide +kernel) ⟨Nat.le_of_ble_eq_true rfl, Nat.le_of_ble_eq_true rfl⟩) hK hP hD hS hA [0, 1] [2, 3, 4, 5] [4, 5, 0, 1, 2, 3] rfl rfl rfl (by decide) (fun _ => rfl) (ci := 3) (q0 := 0) rfl rfl rfl hl.1 rfl (Nat.le_of_ble_eq_true rfl) dX3_compute_24 ⟨Nat.le_of_ble_eq_true rfl, Nat.le_of_ble_eq_true rfl⟩ (fun r_24 u9 H locs h hP hD hS => ?_)
        try dsimp only at h
        refine lv_istore (lv' := [(5, .int r_24), (0, .ref a_t), (1, .ref a_p), (3, .int x3), (4, .int x4_10)]) hx hb dX3_compute_27 hl (by decide) rfl (fun ls hl => ?_)
        refine lv_aload_n hx hb dX3_compute_29 rfl (lv_at hl 1 rfl) ?_
        refine lv_aload_n hx hb dX3_compute_30 rfl (lv_at hl 2 rfl) ?_
        refine va_get (D := D) (ci := 4) (v := .ref a_p_seconds) (C := RX5) (T := TX5) (N := 8) hx hb hq inX5g hown hK hP 2 rfl rfl 7 (by decide) (hq _ q_74) (fun _ h9 => h9) rfl dX3_compute_31 ?_
        refine lv_iload hx hb dX3_compute_34 (lv_at hl 4 rfl) ?_
        obtain ⟨hi9, h⟩ := h
        refine va_iald hx hb hK hP 5 0 rfl rfl hi9 dX3_compute_36 ?_
        refine cVi (As := [.int (f_p_seconds x4_10.toNatClampNeg)]) (rest := []) (wc := [(a_t, .inr (3, [.ref a_t_values, .ref a_t_depths])), (a_t_values, .inl (ca 0, 41, .inl f_t_values_10))]) (wr := [(a_p, .inr (4, [.int p_width, .int p_length, .int p_result, .int p_taskKind, .int p_taskDivisor, .ref a_p_operations, .ref a_p_firsts, .ref a_p_seconds])), (a_p_operations, .inl (ca 0, 40, .inl f_p_operations)), (a_p_firsts, .inl (ca 0, 40, .inl f_p_firsts)), (a_p_seconds, .inl (ca 0, 40, .inl f_p_seconds))]) (w1 := fun _ : Unit => [(a_t, .inr (3, [.ref a_t_values, .ref a_t_depths])), (a_t_values, .inl (ca 0, 41, .inl f_t_values_10))]) (ws2 := fun _ : Unit => [(a_t, .inr (3, [.ref a_t_values, .ref a_t_depths])), (a_t_values, .inl (ca 0, 41, .inl f_t_values_10)), (a_p, .inr (4, [.int p_width, .int p_length, .int p_result, .int p_taskKind, .int p_taskDivisor, .ref a_p_operations, .ref a_p_firsts, .ref a_p_seconds])), (a_p_operations, .inl (ca 0, 40, .inl f_p_operations)), (a_p_firsts, .inl (ca 0, 40, .inl f_p_firsts)), (a_p_seconds, .inl (ca 0, 40, .inl f_p_seconds))]) ⟨hx, hb, hml, hown, hts⟩ (mX3_inputOf l D ca a_t a_t_values a_t_depths _ f_t_values_10 (f_p_seconds x4_10.toNatClampNeg) _ h) (cwV 1 hts (gV q_756 q_758 qs_29 q_5 q_759) rfl rfl rfl (by decide +kernel) ⟨Nat.le_of_ble_eq_true rfl, Nat.le_of_ble_eq_true rfl⟩) hK hP hD hS hA [0, 1] [2, 3, 4, 5] [4, 5, 0, 1, 2, 3] rfl rfl rfl (by decide) (fun _ => rfl) (ci := 3) (q0 := 0) rfl rfl rfl hl.1 rfl (Nat.le_of_ble_eq_true rfl) dX3_compute_37 ⟨Nat.le_of_ble_eq_true rfl, Nat.le_of_ble_eq_true rfl⟩ (fun r_37 u9 H locs h hP hD hS => ?_)
        try dsimp only at h
        refine lv_istore (lv' := [(6, .int r_37), (5, .int r_24), (0, .ref a_t), (1, .ref a_p), (3, .int x3), (4, .int x4_10)]) hx hb dX3_compute_40 hl (by decide) rfl (fun ls hl => ?_)
        refine lv_aload_n hx hb dX3_compute_42 rfl (lv_at hl 2 rfl) ?_
        refine va_get (D := D) (ci := 3) (v := .ref a_t_values) (C := RX3) (T := TX3) (N := 2) hx hb hq inX3g hown hK hP 0 rfl rfl 0 (by decide) (hq _ q_135) (fun _ h9 => h9) rfl dX3_compute_43 ?_
        refine lv_iload hx hb dX3_compute_46 (lv_at hl 5 rfl) ?_
        refine lv_iconst (v := 1) hx hb dX3_compute_48 (by decide) ?_
        refine lv_iadd hx hb dX3_compute_49 ?_
        refine lv_aload_n hx hb dX3_compute_50 rfl (lv_at hl 3 rfl) ?_
        refine va_get (D := D) (ci := 4) (v := .ref a_p_operations) (C := RX5) (T := TX5) (N := 8) hx hb hq inX5g hown hK hP 2 rfl rfl 5 (by decide) (hq _ q_64) (fun _ h9 => h9) rfl dX3_compute_51 ?_
        refine lv_iload hx hb dX3_compute_54 (lv_at hl 5 rfl) ?_
        obtain ⟨hi9, h⟩ := h
        refine va_iald hx hb hK hP 3 0 rfl rfl hi9 dX3_compute_56 ?_
        refine lv_iload hx hb dX3_compute_57 (lv_at hl 1 rfl) ?_
        refine lv_iload hx hb dX3_compute_59 (lv_at hl 0 rfl) ?_
        refine lv_aload_n hx hb dX3_compute_61 rfl (lv_at hl 3 rfl) ?_
        refine va_get (D := D) (ci := 4) (v := .int p_width) (C := RX5) (T := TX5) (N := 8) hx hb hq inX5g hown hK hP 2 rfl rfl 0 (by decide) (hq _ q_47) (fun _ h9 => h9) rfl dX3_compute_62 ?_
        refine cPi (As := [.int (f_p_operations x4_10.toNatClampNeg), .int r_24, .int r_37, .int p_width]) (rest := [.int (x4_10 + 1), .ref a_t_values]) ⟨hx, hb, hml, hown, hts⟩ (mX3_apply l (f_p_operations x4_10.toNatClampNeg) r_24 r_37 p_width _ h) (va_cwS 4 hts (gS q_760 q_761 q_5 q_762) rfl rfl rfl (by decide +kernel) ⟨Nat.le_of_ble_eq_true rfl, Nat.le_of_ble_eq_true rfl⟩) hS rfl hl.1 rfl (Nat.le_of_ble_eq_true rfl) dX3_compute_65 ⟨Nat.le_of_ble_eq_true rfl, Nat.le_of_ble_eq_true rfl⟩ (fun r_65 H1 locs h hk1 hS => ?_)
        have hP := s_back hP hk1
        try dsimp only at h
        obtain ⟨hi9, h⟩ := h
        refine va_iast hx hb hK hP hD hS 1 0 rfl rfl hi9 dX3_compute_68 (fun H locs hP hD hS => ?_)
        have hP : va_P D vwCl [(a_t, .inr (3, [.ref a_t_values, .ref a_t_depths])), (a_t_values, .inl (ca 0, 41, .inl (upd f_t_values_10 (x4_10 + 1).toNatClampNeg r_65))), (a_p, .inr (4, [.int p_width, .int p_length, .int p_result, .int p_taskKind, .int p_taskDivisor, .ref a_p_operations, .ref a_p_firsts, .ref a_p_seconds])), (a_p_operations, .inl (ca 0, 40, .inl f_p_operations)), (a_p_firsts, .inl (ca 0, 40, .inl f_p_firsts)), (a_p_seconds, .inl (ca 0, 40, .inl f_p_seconds))] H := hP
        have hD : va_D A [(a_t, .inr (3, [.ref a_t_values, .ref a_t_depths])), (a_t_values, .inl (ca 0, 41, .inl (upd f_t_values_10 (x4_10 + 1).toNatClampNeg r_65))), (a_p, .inr (4, [.int p_width, .int p_length, .int p_result, .int p_taskKind, .int p_taskDivisor, .ref a_p_operations, .ref a_p_firsts, .ref a_p_seconds])), (a_p_operations, .inl (ca 0, 40, .inl f_p_operations)), (a_p_firsts, .inl (ca 0, 40, .inl f_p_firsts)), (a_p_seconds, .inl (ca 0, 40, .inl f_p_seconds))] := hD
        obtain ⟨x4_69, ex4_69⟩ : ∃ y : Int32, y = x4_10 + 1 := ⟨_, rfl⟩
        have h := h x4_69 ex4_69
        refine lv_iinc (v := x4_69) (lv' := [(4, .int x4_69), (6, .int r_37), (5, .int r_24), (0, .ref a_t), (1, .ref a_p), (3, .int x3)]) hx hb dX3_compute_69 hl (k := 5) rfl (by rw [ex4_69]; rfl) (by decide) rfl (fun ls hl => ?_)
        refine lv_goto (tgt := 10) hx hb dX3_compute_72 (by decide) ?_
        exact ih10 x4_69 (upd f_t_values_10 (x4_10 + 1).toNatClampNeg r_65) _ _ _ hP hD hS (lv_sub hl [3, 4, 5, 0] rfl) h
  obtain ⟨k9, h⟩ := h
  exact hL10 k9 0 (upd f_t_values (0 : Int32).toNatClampNeg x2) _ _ _ hP hD hS (lv_sub hl [1, 2, 4, 0] rfl) h

abbrev qX3_depthOfOperand (D : va_G) (ca : Nat → ClassId) (a_t a_t_values a_t_depths : Nat) (f_t_depths : Nat → Int32) (Q : Int32 → Prop) (A : Nat → Prop) : Array Value → State → Outcome → State → Prop := va_Qi (fun (r : Int32) (_ : Unit) => Q r) (wEnd D ca (fun _ : Unit => [(a_t, .inr (3, [.ref a_t_values, .ref a_t_depths])), (a_t_depths, .inl (ca 0, 41, .inl f_t_depths))]) A) A
def wX3_depthOfOperand (f_t_depths : Nat → Int32) (x1 : Int32) (Q : Int32 → Prop) : Prop :=
  wX5_isValue x1 (fun r_1 => ((r_1 = 0 → Q 0) ∧ (¬ r_1 = 0 → wX5_numberOf x1 (fun r_12 => (vp_in r_12 41 ∧ Q (f_t_depths r_12.toNatClampNeg))))))
set_option maxHeartbeats 4000000 in
set_option maxRecDepth 100000 in
theorem mX3_depthOfOperand (l : Launch) (D : va_G) (ca : Nat → ClassId) (a_t a_t_values a_t_depths : Nat) (sz : Nat) (f_t_depths : Nat → Int32) (x1 : Int32) (Q : Int32 → Prop) (h : wX3_depthOfOperand f_t_depths x1 Q) : Met l yX3_depthOfOperand (Cond.code yX3_depthOfOperand cX3_depthOfOperand 2 (some .int) :: wsG) ({ frames := 2, cells := 0, slots := 0, locals := 40 } : Room) (va_Pc [.ref a_t, .int x1] (wPre D ca [(a_t, .inr (3, [.ref a_t_values, .ref a_t_depths])), (a_t_depths, .inl (ca 0, 41, .inl f_t_depths))] sz)) (qX3_depthOfOperand D ca a_t a_t_values a_t_depths f_t_depths Q (va_A [(a_t, .inr (3, [.ref a_t_values, .ref a_t_depths])), (a_t_depths, .inl (ca 0, 41, .inl f_t_depths))] sz)) 0 0 (va_A [(a_t, .inr (3, [.ref a_t_values, .ref a_t_depths])), (a_t_depths, .inl (ca 0, 41, .inl f_t_depths))] sz) := by
  refine Met.ofW (cc := cX3_depthOfOperand) (maxL := 2) (ret := (some .int)) (by decide) rfl ?_
  intro p e s m args below meth c s₁ B hml hv
  obtain ⟨rfl, hsz, hP, hK, hD0⟩ := hv
  have hx := B.exec
  have hb := B.bytes
  have hr := B.returns
  have hts := atoms_spec (ws := (Cond.code yX3_depthOfOperand cX3_depthOfOperand 2 (some .int) :: wsG)) B.pre
  have hq : ∀ w ∈ wsG, w.before _ s = true := fun w hw => hts w (List.mem_cons_of_mem _ hw)
  have hown : s.vm.findClass RX3 = some m.cls := findClass_of_methodNamed B.named
  have hlocks := B.notSynchronized
  subst hsz
  have hD := hD0.self (sz := s.heap.size)
  generalize hAe : va_A [(a_t, .inr (3, [.ref a_t_values, .ref a_t_depths])), (a_t_depths, .inl (ca 0, 41, .inl f_t_depths))] s.heap.size = A at hD ⊢
  have hA : ∀ q : Nat, s.heap.size ≤ q → A q := fun q h => by rw [← hAe]; exact Or.inr h
  have hS : va_S A s.heap s.heap [] := va_S.rf
  have hP : va_P D vwCl [(a_t, .inr (3, [.ref a_t_values, .ref a_t_depths])), (a_t_depths, .inl (ca 0, 41, .inl f_t_depths))] s.heap := hP
  have hl := lv_entry ([.ref a_t, .int x1]) (n := 2) (Nat.le_of_ble_eq_true rfl)
  rw [lg_entry_eq]
  generalize (lg_sl ([.ref a_t, .int x1]) ++ List.replicate (2 - (lg_sl ([.ref a_t, .int x1])).length) Slot.unset).toArray = ls at hl ⊢
  have hl : lv_has ls 2 [(0, .ref a_t), (1, .int x1)] := hl
  unfold wX3_depthOfOperand at h
  refine lv_iload_n hx hb dX3_depthOfOperand_0 rfl (lv_at hl 1 rfl) ?_
  refine cPi (As := [.int x1]) (rest := []) ⟨hx, hb, hml, hown, hts⟩ (mX5_isValue l x1 _ h) (va_cwS 1 hts (gS q_271 q_222 q_3 q_223) rfl rfl rfl (by decide +kernel) ⟨Nat.le_of_ble_eq_true rfl, Nat.le_of_ble_eq_true rfl⟩) hS rfl hl.1 rfl (Nat.le_of_ble_eq_true rfl) dX3_depthOfOperand_1 ⟨Nat.le_of_ble_eq_true rfl, Nat.le_of_ble_eq_true rfl⟩ (fun r_1 H1 locs h hk1 hS => ?_)
  have hP := s_back hP hk1
  try dsimp only at h
  refine lv_if_eq (tgt := 19) hx hb dX3_depthOfOperand_4 (by decide) (fun c9 => ?_) (fun c9 => ?_)
  · have h := h.1 c9
    refine lv_iconst (v := 0) hx hb dX3_depthOfOperand_19 (by decide) ?_
    exact W.iret (v := 0) hx hb hr (fun t ht hW => ⟨⟨0, (), rfl, h, by rw [ht]; exact hP, va_K.moved hW.alike hK, hD⟩, hS.F ht⟩) hS.2.2 dX3_depthOfOperand_20
  · have h := h.2 c9
    refine lv_aload_n hx hb dX3_depthOfOperand_7 rfl (lv_at hl 0 rfl) ?_
    refine va_get (D := D) (ci := 3) (v := .ref a_t_depths) (C := RX3) (T := TX3) (N := 2) hx hb hq inX3g hown hK hP 0 rfl rfl 1 (by decide) (hq _ q_136) (fun _ h9 => h9) rfl dX3_depthOfOperand_8 ?_
    refine lv_iload_n hx hb dX3_depthOfOperand_11 rfl (lv_at hl 1 rfl) ?_
    refine cPi (As := [.int x1]) (rest := [.ref a_t_depths]) ⟨hx, hb, hml, hown, hts⟩ (mX5_numberOf l x1 _ h) (va_cwS 1 hts (gS q_272 q_225 q_3 q_226) rfl rfl rfl (by decide +kernel) ⟨Nat.le_of_ble_eq_true rfl, Nat.le_of_ble_eq_true rfl⟩) hS rfl hl.1 rfl (Nat.le_of_ble_eq_true rfl) dX3_depthOfOperand_12 ⟨Nat.le_of_ble_eq_true rfl, Nat.le_of_ble_eq_true rfl⟩ (fun r_12 H1 locs h hk1 hS => ?_)
    have hP := s_back hP hk1
    try dsimp only at h
    obtain ⟨hi9, h⟩ := h
    refine va_iald hx hb hK hP 1 0 rfl rfl hi9 dX3_depthOfOperand_15 ?_
    refine lv_goto (tgt := 20) hx hb dX3_depthOfOperand_16 (by decide) ?_
    exact W.iret (v := f_t_depths r_12.toNatClampNeg) hx hb hr (fun t ht hW => ⟨⟨f_t_depths r_12.toNatClampNeg, (), rfl, h, by rw [ht]; exact hP, va_K.moved hW.alike hK, hD⟩, hS.F ht⟩) hS.2.2 dX3_depthOfOperand_20

abbrev qX3_depthOf (D : va_G) (ca : Nat → ClassId) (a_t a_t_values a_t_depths a_p a_p_operations a_p_firsts a_p_seconds : Nat) (p_width : Int32) (p_length : Int32) (p_result : Int32) (p_taskKind : Int32) (p_taskDivisor : Int32) (f_p_firsts : Nat → Int32) (f_p_seconds : Nat → Int32) (Q : Int32 → (Nat → Int32) → Prop) (A : Nat → Prop) : Array Value → State → Outcome → State → Prop := va_Qi (fun (r : Int32) (u : (Nat → Int32)) => Q r u) (wEnd D ca (fun u : (Nat → Int32) => [(a_t, .inr (3, [.ref a_t_values, .ref a_t_depths])), (a_t_depths, .inl (ca 0, 41, .inl u)), (a_p, .inr (4, [.int p_width, .int p_length, .int p_result, .int p_taskKind, .int p_taskDivisor, .ref a_p_operations, .ref a_p_firsts, .ref a_p_seconds])), (a_p_firsts, .inl (ca 0, 40, .inl f_p_firsts)), (a_p_seconds, .inl (ca 0, 40, .inl f_p_seconds))]) A) A
def wX3_depthOf_9 (p_result : Int32) (f_p_firsts : Nat → Int32) (f_p_seconds : Nat → Int32) (Q : Int32 → (Nat → Int32) → Prop) : Nat → Int32 → (Nat → Int32) → Prop
  | 0, _, _ => False
  | n9 + 1, x2_9, f_t_depths_9 =>
  ((p_result ≤ x2_9 → (vp_in p_result 41 ∧ Q (f_t_depths_9 p_result.toNatClampNeg) f_t_depths_9)) ∧ (¬ p_result ≤ x2_9 → (vp_in x2_9 40 ∧ wX3_depthOfOperand f_t_depths_9 (f_p_firsts x2_9.toNatClampNeg) (fun r_32 => (vp_in x2_9 40 ∧ wX3_depthOfOperand f_t_depths_9 (f_p_seconds x2_9.toNatClampNeg) (fun r_42 => (vp_in (x2_9 + 1) 41 ∧ (∀ x2_50 : Int32, x2_50 = x2_9 + 1 → (wX3_depthOf_9 p_result f_p_firsts f_p_seconds Q n9) x2_50 (upd f_t_depths_9 (x2_9 + 1).toNatClampNeg (1 + (if r_32 < r_42 then r_42 else r_32)))))))))))
def wX3_depthOf (f_t_depths : Nat → Int32) (p_result : Int32) (f_p_firsts : Nat → Int32) (f_p_seconds : Nat → Int32) (Q : Int32 → (Nat → Int32) → Prop) : Prop :=
  (vp_in 0 41 ∧ (∃ k9, wX3_depthOf_9 p_result f_p_firsts f_p_seconds Q k9 0 (upd f_t_depths (0 : Int32).toNatClampNeg 0)))
set_option maxHeartbeats 4000000 in
set_option maxRecDepth 100000 in
theorem mX3_depthOf (l : Launch) (D : va_G) (ca : Nat → ClassId) (a_t a_t_values a_t_depths a_p a_p_operations a_p_firsts a_p_seconds : Nat) (sz : Nat) (f_t_depths : Nat → Int32) (p_width : Int32) (p_length : Int32) (p_result : Int32) (p_taskKind : Int32) (p_taskDivisor : Int32) (f_p_firsts : Nat → Int32) (f_p_seconds : Nat → Int32) (Q : Int32 → (Nat → Int32) → Prop) (h : wX3_depthOf f_t_depths p_result f_p_firsts f_p_seconds Q) : Met l yX3_depthOf (Cond.code yX3_depthOf cX3_depthOf 3 (some .int) :: wsG) ({ frames := 3, cells := 0, slots := 0, locals := 61 } : Room) (va_Pc [.ref a_t, .ref a_p] (wPre D ca [(a_t, .inr (3, [.ref a_t_values, .ref a_t_depths])), (a_t_depths, .inl (ca 0, 41, .inl f_t_depths)), (a_p, .inr (4, [.int p_width, .int p_length, .int p_result, .int p_taskKind, .int p_taskDivisor, .ref a_p_operations, .ref a_p_firsts, .ref a_p_seconds])), (a_p_firsts, .inl (ca 0, 40, .inl f_p_firsts)), (a_p_seconds, .inl (ca 0, 40, .inl f_p_seconds))] sz)) (qX3_depthOf D ca a_t a_t_values a_t_depths a_p a_p_operations a_p_firsts a_p_seconds p_width p_length p_result p_taskKind p_taskDivisor f_p_firsts f_p_seconds Q (va_A [(a_t, .inr (3, [.ref a_t_values, .ref a_t_depths])), (a_t_depths, .inl (ca 0, 41, .inl f_t_depths)), (a_p, .inr (4, [.int p_width, .int p_length, .int p_result, .int p_taskKind, .int p_taskDivisor, .ref a_p_operations, .ref a_p_firsts, .ref a_p_seconds])), (a_p_firsts, .inl (ca 0, 40, .inl f_p_firsts)), (a_p_seconds, .inl (ca 0, 40, .inl f_p_seconds))] sz)) 0 0 (va_A [(a_t, .inr (3, [.ref a_t_values, .ref a_t_depths])), (a_t_depths, .inl (ca 0, 41, .inl f_t_depths)), (a_p, .inr (4, [.int p_width, .int p_length, .int p_result, .int p_taskKind, .int p_taskDivisor, .ref a_p_operations, .ref a_p_firsts, .ref a_p_seconds])), (a_p_firsts, .inl (ca 0, 40, .inl f_p_firsts)), (a_p_seconds, .inl (ca 0, 40, .inl f_p_seconds))] sz) := by
  refine Met.ofW (cc := cX3_depthOf) (maxL := 3) (ret := (some .int)) (by decide) rfl ?_
  intro p e s m args below meth c s₁ B hml hv
  obtain ⟨rfl, hsz, hP, hK, hD0⟩ := hv
  have hx := B.exec
  have hb := B.bytes
  have hr := B.returns
  have hts := atoms_spec (ws := (Cond.code yX3_depthOf cX3_depthOf 3 (some .int) :: wsG)) B.pre
  have hq : ∀ w ∈ wsG, w.before _ s = true := fun w hw => hts w (List.mem_cons_of_mem _ hw)
  have hown : s.vm.findClass RX3 = some m.cls := findClass_of_methodNamed B.named
  have hlocks := B.notSynchronized
  subst hsz
  have hD := hD0.self (sz := s.heap.size)
  generalize hAe : va_A [(a_t, .inr (3, [.ref a_t_values, .ref a_t_depths])), (a_t_depths, .inl (ca 0, 41, .inl f_t_depths)), (a_p, .inr (4, [.int p_width, .int p_length, .int p_result, .int p_taskKind, .int p_taskDivisor, .ref a_p_operations, .ref a_p_firsts, .ref a_p_seconds])), (a_p_firsts, .inl (ca 0, 40, .inl f_p_firsts)), (a_p_seconds, .inl (ca 0, 40, .inl f_p_seconds))] s.heap.size = A at hD ⊢
  have hA : ∀ q : Nat, s.heap.size ≤ q → A q := fun q h => by rw [← hAe]; exact Or.inr h
  have hS : va_S A s.heap s.heap [] := va_S.rf
  have hP : va_P D vwCl [(a_t, .inr (3, [.ref a_t_values, .ref a_t_depths])), (a_t_depths, .inl (ca 0, 41, .inl f_t_depths)), (a_p, .inr (4, [.int p_width, .int p_length, .int p_result, .int p_taskKind, .int p_taskDivisor, .ref a_p_operations, .ref a_p_firsts, .ref a_p_seconds])), (a_p_firsts, .inl (ca 0, 40, .inl f_p_firsts)), (a_p_seconds, .inl (ca 0, 40, .inl f_p_seconds))] s.heap := hP
  have hl := lv_entry ([.ref a_t, .ref a_p]) (n := 3) (Nat.le_of_ble_eq_true rfl)
  rw [lg_entry_eq]
  generalize (lg_sl ([.ref a_t, .ref a_p]) ++ List.replicate (3 - (lg_sl ([.ref a_t, .ref a_p])).length) Slot.unset).toArray = ls at hl ⊢
  have hl : lv_has ls 3 [(0, .ref a_t), (1, .ref a_p)] := hl
  unfold wX3_depthOf at h
  refine lv_aload_n hx hb dX3_depthOf_0 rfl (lv_at hl 0 rfl) ?_
  refine va_get (D := D) (ci := 3) (v := .ref a_t_depths) (C := RX3) (T := TX3) (N := 2) hx hb hq inX3g hown hK hP 0 rfl rfl 1 (by decide) (hq _ q_136) (fun _ h9 => h9) rfl dX3_depthOf_1 ?_
  refine lv_iconst (v := 0) hx hb dX3_depthOf_4 (by decide) ?_
  refine lv_iconst (v := 0) hx hb dX3_depthOf_5 (by decide) ?_
  obtain ⟨hi9, h⟩ := h
  refine va_iast hx hb hK hP hD hS 1 0 rfl rfl hi9 dX3_depthOf_6 (fun H locs hP hD hS => ?_)
  have hP : va_P D vwCl [(a_t, .inr (3, [.ref a_t_values, .ref a_t_depths])), (a_t_depths, .inl (ca 0, 41, .inl (upd f_t_depths (0 : Int32).toNatClampNeg 0))), (a_p, .inr (4, [.int p_width, .int p_length, .int p_result, .int p_taskKind, .int p_taskDivisor, .ref a_p_operations, .ref a_p_firsts, .ref a_p_seconds])), (a_p_firsts, .inl (ca 0, 40, .inl f_p_firsts)), (a_p_seconds, .inl (ca 0, 40, .inl f_p_seconds))] H := hP
  have hD : va_D A [(a_t, .inr (3, [.ref a_t_values, .ref a_t_depths])), (a_t_depths, .inl (ca 0, 41, .inl (upd f_t_depths (0 : Int32).toNatClampNeg 0))), (a_p, .inr (4, [.int p_width, .int p_length, .int p_result, .int p_taskKind, .int p_taskDivisor, .ref a_p_operations, .ref a_p_firsts, .ref a_p_seconds])), (a_p_firsts, .inl (ca 0, 40, .inl f_p_firsts)), (a_p_seconds, .inl (ca 0, 40, .inl f_p_seconds))] := hD
  refine lv_iconst (v := 0) hx hb dX3_depthOf_7 (by decide) ?_
  refine lv_istore_n (lv' := [(2, .int 0), (0, .ref a_t), (1, .ref a_p)]) hx hb dX3_depthOf_8 rfl hl (by decide) rfl (fun ls hl => ?_)
  have hL9 : ∀ (n9_9 : Nat) (x2_9 : Int32) (f_t_depths_9 : Nat → Int32) (H : Heap) (locs : List Loc) (ls : Array Slot), va_P D vwCl [(a_t, .inr (3, [.ref a_t_values, .ref a_t_depths])), (a_t_depths, .inl (ca 0, 41, .inl f_t_depths_9)), (a_p, .inr (4, [.int p_width, .int p_length, .int p_result, .int p_taskKind, .int p_taskDivisor, .ref a_p_operations, .ref a_p_firsts, .ref a_p_seconds])), (a_p_firsts, .inl (ca 0, 40, .inl f_p_firsts)), (a_p_seconds, .inl (ca 0, 40, .inl f_p_seconds))] H → va_D A [(a_t, .inr (3, [.ref a_t_values, .ref a_t_depths])), (a_t_depths, .inl (ca 0, 41, .inl f_t_depths_9)), (a_p, .inr (4, [.int p_width, .int p_length, .int p_result, .int p_taskKind, .int p_taskDivisor, .ref a_p_operations, .ref a_p_firsts, .ref a_p_seconds])), (a_p_firsts, .inl (ca 0, 40, .inl f_p_firsts)), (a_p_seconds, .inl (ca 0, 40, .inl f_p_seconds))] → va_S A s.heap H locs → lv_has ls 3 [(0, .ref a_t), (1, .ref a_p), (2, .int x2_9)] → wX3_depthOf_9 p_result f_p_firsts f_p_seconds Q n9_9 x2_9 f_t_depths_9 → W p l e (headSpec (Cond.code yX3_depthOf cX3_depthOf 3 (some .int) :: wsG) ({ frames := 3, cells := 0, slots := 0, locals := 61 } : Room)).room s m ([.ref a_t, .ref a_p] : List Value).toArray below meth c H locs 0 0 (MQ below (qX3_depthOf D ca a_t a_t_values a_t_depths a_p a_p_operations a_p_firsts a_p_seconds p_width p_length p_result p_taskKind p_taskDivisor f_p_firsts f_p_seconds Q A) ([.ref a_t, .ref a_p] : List Value).toArray s 0 0 A) (F0 m 9 ls []) := by
    intro n9_9
    induction n9_9 with
    | zero =>
      intro x2_9 f_t_depths_9 H locs ls hP hD hS hl h
      exact False.elim h
    | succ n9_9 ih9 =>
      intro x2_9 f_t_depths_9 H locs ls hP hD hS hl h
      unfold wX3_depthOf_9 at h
      refine lv_iload_n hx hb dX3_depthOf_9 rfl (lv_at hl 2 rfl) ?_
      refine lv_aload_n hx hb dX3_depthOf_10 rfl (lv_at hl 1 rfl) ?_
      refine va_get (D := D) (ci := 4) (v := .int p_result) (C := RX5) (T := TX5) (N := 8) hx hb hq inX5g hown hK hP 2 rfl rfl 2 (by decide) (hq _ q_55) (fun _ h9 => h9) rfl dX3_depthOf_11 ?_
      refine lv_icmp_ge (tgt := 56) hx hb dX3_depthOf_14 (by decide) (fun c9 => ?_) (fun c9 => ?_)
      · have h := h.1 c9
        refine lv_aload_n hx hb dX3_depthOf_56 rfl (lv_at hl 0 rfl) ?_
        refine va_get (D := D) (ci := 3) (v := .ref a_t_depths) (C := RX3) (T := TX3) (N := 2) hx hb hq inX3g hown hK hP 0 rfl rfl 1 (by decide) (hq _ q_136) (fun _ h9 => h9) rfl dX3_depthOf_57 ?_
        refine lv_aload_n hx hb dX3_depthOf_60 rfl (lv_at hl 1 rfl) ?_
        refine va_get (D := D) (ci := 4) (v := .int p_result) (C := RX5) (T := TX5) (N := 8) hx hb hq inX5g hown hK hP 2 rfl rfl 2 (by decide) (hq _ q_55) (fun _ h9 => h9) rfl dX3_depthOf_61 ?_
        obtain ⟨hi9, h⟩ := h
        refine va_iald hx hb hK hP 1 0 rfl rfl hi9 dX3_depthOf_64 ?_
        exact W.iret (v := f_t_depths_9 p_result.toNatClampNeg) hx hb hr (fun t ht hW => ⟨⟨f_t_depths_9 p_result.toNatClampNeg, f_t_depths_9, rfl, h, by rw [ht]; exact hP, va_K.moved hW.alike hK, hD⟩, hS.F ht⟩) hS.2.2 dX3_depthOf_65
      · have h := h.2 c9
        refine lv_aload_n hx hb dX3_depthOf_17 rfl (lv_at hl 0 rfl) ?_
        refine va_get (D := D) (ci := 3) (v := .ref a_t_depths) (C := RX3) (T := TX3) (N := 2) hx hb hq inX3g hown hK hP 0 rfl rfl 1 (by decide) (hq _ q_136) (fun _ h9 => h9) rfl dX3_depthOf_18 ?_
        refine lv_iload_n hx hb dX3_depthOf_21 rfl (lv_at hl 2 rfl) ?_
        refine lv_iconst (v := 1) hx hb dX3_depthOf_22 (by decide) ?_
        refine lv_iadd hx hb dX3_depthOf_23 ?_
        refine lv_iconst (v := 1) hx hb dX3_depthOf_24 (by decide) ?_
        refine lv_aload_n hx hb dX3_depthOf_25 rfl (lv_at hl 0 rfl) ?_
        refine lv_aload_n hx hb dX3_depthOf_26 rfl (lv_at hl 1 rfl) ?_
        refine va_get (D := D) (ci := 4) (v := .ref a_p_firsts) (C := RX5) (T := TX5) (N := 8) hx hb hq inX5g hown hK hP 2 rfl rfl 6 (by decide) (hq _ q_69) (fun _ h9 => h9) rfl dX3_depthOf_27 ?_
        refine lv_iload_n hx hb dX3_depthOf_30 rfl (lv_at hl 2 rfl) ?_
        obtain ⟨hi9, h⟩ := h
        refine va_iald hx hb hK hP 3 0 rfl rfl hi9 dX3_depthOf_31 ?_
        refine cVi (As := [.int (f_p_firsts x2_9.toNatClampNeg)]) (rest := [.int 1, .int (x2_9 + 1), .ref a_t_depths]) (wc := [(a_t, .inr (3, [.ref a_t_values, .ref a_t_depths])), (a_t_depths, .inl (ca 0, 41, .inl f_t_depths_9))]) (wr := [(a_p, .inr (4, [.int p_width, .int p_length, .int p_result, .int p_taskKind, .int p_taskDivisor, .ref a_p_operations, .ref a_p_firsts, .ref a_p_seconds])), (a_p_firsts, .inl (ca 0, 40, .inl f_p_firsts)), (a_p_seconds, .inl (ca 0, 40, .inl f_p_seconds))]) (w1 := fun _ : Unit => [(a_t, .inr (3, [.ref a_t_values, .ref a_t_depths])), (a_t_depths, .inl (ca 0, 41, .inl f_t_depths_9))]) (ws2 := fun _ : Unit => [(a_t, .inr (3, [.ref a_t_values, .ref a_t_depths])), (a_t_depths, .inl (ca 0, 41, .inl f_t_depths_9)), (a_p, .inr (4, [.int p_width, .int p_length, .int p_result, .int p_taskKind, .int p_taskDivisor, .ref a_p_operations, .ref a_p_firsts, .ref a_p_seconds])), (a_p_firsts, .inl (ca 0, 40, .inl f_p_firsts)), (a_p_seconds, .inl (ca 0, 40, .inl f_p_seconds))]) ⟨hx, hb, hml, hown, hts⟩ (mX3_depthOfOperand l D ca a_t a_t_values a_t_depths _ f_t_depths_9 (f_p_firsts x2_9.toNatClampNeg) _ h) (cwV 1 hts (gV q_267 q_269 qs_3 q_5 q_270) rfl rfl rfl (by decide +kernel) ⟨Nat.le_of_ble_eq_true rfl, Nat.le_of_ble_eq_true rfl⟩) hK hP hD hS hA [0, 1] [2, 3, 4] [3, 4, 0, 1, 2] rfl rfl rfl (by decide) (fun _ => rfl) (ci := 3) (q0 := 0) rfl rfl rfl hl.1 rfl (Nat.le_of_ble_eq_true rfl) dX3_depthOf_32 ⟨Nat.le_of_ble_eq_true rfl, Nat.le_of_ble_eq_true rfl⟩ (fun r_32 u9 H locs h hP hD hS => ?_)
        try dsimp only at h
        refine lv_aload_n hx hb dX3_depthOf_35 rfl (lv_at hl 0 rfl) ?_
        refine lv_aload_n hx hb dX3_depthOf_36 rfl (lv_at hl 1 rfl) ?_
        refine va_get (D := D) (ci := 4) (v := .ref a_p_seconds) (C := RX5) (T := TX5) (N := 8) hx hb hq inX5g hown hK hP 2 rfl rfl 7 (by decide) (hq _ q_74) (fun _ h9 => h9) rfl dX3_depthOf_37 ?_
        refine lv_iload_n hx hb dX3_depthOf_40 rfl (lv_at hl 2 rfl) ?_
        obtain ⟨hi9, h⟩ := h
        refine va_iald hx hb hK hP 4 0 rfl rfl hi9 dX3_depthOf_41 ?_
        refine cVi (As := [.int (f_p_seconds x2_9.toNatClampNeg)]) (rest := [.int r_32, .int 1, .int (x2_9 + 1), .ref a_t_depths]) (wc := [(a_t, .inr (3, [.ref a_t_values, .ref a_t_depths])), (a_t_depths, .inl (ca 0, 41, .inl f_t_depths_9))]) (wr := [(a_p, .inr (4, [.int p_width, .int p_length, .int p_result, .int p_taskKind, .int p_taskDivisor, .ref a_p_operations, .ref a_p_firsts, .ref a_p_seconds])), (a_p_firsts, .inl (ca 0, 40, .inl f_p_firsts)), (a_p_seconds, .inl (ca 0, 40, .inl f_p_seconds))]) (w1 := fun _ : Unit => [(a_t, .inr (3, [.ref a_t_values, .ref a_t_depths])), (a_t_depths, .inl (ca 0, 41, .inl f_t_depths_9))]) (ws2 := fun _ : Unit => [(a_t, .inr (3, [.ref a_t_values, .ref a_t_depths])), (a_t_depths, .inl (ca 0, 41, .inl f_t_depths_9)), (a_p, .inr (4, [.int p_width, .int p_length, .int p_result, .int p_taskKind, .int p_taskDivisor, .ref a_p_operations, .ref a_p_firsts, .ref a_p_seconds])), (a_p_firsts, .inl (ca 0, 40, .inl f_p_firsts)), (a_p_seconds, .inl (ca 0, 40, .inl f_p_seconds))]) ⟨hx, hb, hml, hown, hts⟩ (mX3_depthOfOperand l D ca a_t a_t_values a_t_depths _ f_t_depths_9 (f_p_seconds x2_9.toNatClampNeg) _ h) (cwV 1 hts (gV q_267 q_269 qs_3 q_5 q_270) rfl rfl rfl (by decide +kernel) ⟨Nat.le_of_ble_eq_true rfl, Nat.le_of_ble_eq_true rfl⟩) hK hP hD hS hA [0, 1] [2, 3, 4] [3, 4, 0, 1, 2] rfl rfl rfl (by decide) (fun _ => rfl) (ci := 3) (q0 := 0) rfl rfl rfl hl.1 rfl (Nat.le_of_ble_eq_true rfl) dX3_depthOf_42 ⟨Nat.le_of_ble_eq_true rfl, Nat.le_of_ble_eq_true rfl⟩ (fun r_42 u9 H locs h hP hD hS => ?_)
        try dsimp only at h
        refine va_mmax hx hb (hml.trans hl.1.symm) hown (hq _ q_273) (hq _ q_274) (hq _ q_14) (hq _ q_275) (Nat.le_of_ble_eq_true rfl) (Nat.le_of_ble_eq_true rfl) (Nat.le_of_ble_eq_true rfl) (Nat.le_of_ble_eq_true rfl) dX3_depthOf_45 ?_
        refine lv_iadd hx hb dX3_depthOf_48 ?_
        obtain ⟨hi9, h⟩ := h
        refine va_iast hx hb hK hP hD hS 1 0 rfl rfl hi9 dX3_depthOf_49 (fun H locs hP hD hS => ?_)
        have hP : va_P D vwCl [(a_t, .inr (3, [.ref a_t_values, .ref a_t_depths])), (a_t_depths, .inl (ca 0, 41, .inl (upd f_t_depths_9 (x2_9 + 1).toNatClampNeg (1 + (if r_32 < r_42 then r_42 else r_32))))), (a_p, .inr (4, [.int p_width, .int p_length, .int p_result, .int p_taskKind, .int p_taskDivisor, .ref a_p_operations, .ref a_p_firsts, .ref a_p_seconds])), (a_p_firsts, .inl (ca 0, 40, .inl f_p_firsts)), (a_p_seconds, .inl (ca 0, 40, .inl f_p_seconds))] H := hP
        have hD : va_D A [(a_t, .inr (3, [.ref a_t_values, .ref a_t_depths])), (a_t_depths, .inl (ca 0, 41, .inl (upd f_t_depths_9 (x2_9 + 1).toNatClampNeg (1 + (if r_32 < r_42 then r_42 else r_32))))), (a_p, .inr (4, [.int p_width, .int p_length, .int p_result, .int p_taskKind, .int p_taskDivisor, .ref a_p_operations, .ref a_p_firsts, .ref a_p_seconds])), (a_p_firsts, .inl (ca 0, 40, .inl f_p_firsts)), (a_p_seconds, .inl (ca 0, 40, .inl f_p_seconds))] := hD
        obtain ⟨x2_50, ex2_50⟩ : ∃ y : Int32, y = x2_9 + 1 := ⟨_, rfl⟩
        have h := h x2_50 ex2_50
        refine lv_iinc (v := x2_50) (lv' := [(2, .int x2_50), (0, .ref a_t), (1, .ref a_p)]) hx hb dX3_depthOf_50 hl (k := 2) rfl (by rw [ex2_50]; rfl) (by decide) rfl (fun ls hl => ?_)
        refine lv_goto (tgt := 9) hx hb dX3_depthOf_53 (by decide) ?_
        exact ih9 x2_50 (upd f_t_depths_9 (x2_9 + 1).toNatClampNeg (1 + (if r_32 < r_42 then r_42 else r_32))) _ _ _ hP hD hS (lv_sub hl [1, 2, 0] rfl) h
  obtain ⟨k9, h⟩ := h
  exact hL9 k9 0 (upd f_t_depths (0 : Int32).toNatClampNeg 0) _ _ _ hP hD hS (lv_sub hl [1, 2, 0] rfl) h

def wX4_ceilOf (x0 : Int64) (x2 : Int64) (Q : Int64 → Prop) : Prop :=
  ((x0 ≤ 0 → Q 0) ∧ (¬ x0 ≤ 0 → ((1 ≤ x2 → (¬ x2 = 0 ∧ Q (((x0 - 1) / x2) + 1))) ∧ (¬ 1 ≤ x2 → Q 0))))
set_option maxHeartbeats 4000000 in
set_option maxRecDepth 100000 in
theorem mX4_ceilOf (l : Launch) (x0 : Int64) (x2 : Int64) (Q : Int64 → Prop) (h : wX4_ceilOf x0 x2 Q) : Met l yX4_ceilOf (Cond.code yX4_ceilOf cX4_ceilOf 4 (some .long) :: wsG) ({ frames := 0, cells := 0, slots := 0, locals := 0 } : Room) (va_Pc [.long x0, .long x2] (fun _ => True)) (va_Ql (fun (r : Int64) (_ : Unit) => Q r) (fun _ _ => True) (fun _ => False)) 0 0 (fun _ => False) := by
  refine Met.ofW (cc := cX4_ceilOf) (maxL := 4) (ret := (some .long)) (by decide) rfl ?_
  intro p e s m args below meth c s₁ B hml hv
  obtain ⟨rfl, -⟩ := hv
  have hx := B.exec
  have hb := B.bytes
  have hr := B.returns
  have hts := atoms_spec (ws := (Cond.code yX4_ceilOf cX4_ceilOf 4 (some .long) :: wsG)) B.pre
  have hq : ∀ w ∈ wsG, w.before _ s = true := fun w hw => hts w (List.mem_cons_of_mem _ hw)
  have hown : s.vm.findClass RX4 = some m.cls := findClass_of_methodNamed B.named
  have hlocks := B.notSynchronized
  have hS : va_S (fun _ : Nat => False) s.heap s.heap [] := va_S.rf
  have hl := lv_entry ([.long x0, .long x2]) (n := 4) (Nat.le_of_ble_eq_true rfl)
  rw [lg_entry_eq]
  generalize (lg_sl ([.long x0, .long x2]) ++ List.replicate (4 - (lg_sl ([.long x0, .long x2])).length) Slot.unset).toArray = ls at hl ⊢
  have hl : lv_has ls 4 [(0, .long x0), (2, .long x2)] := hl
  unfold wX4_ceilOf at h
  refine lv_lload_n hx hb dX4_ceilOf_0 rfl (lv_at hl 0 rfl) ?_
  refine lv_lconst (v := 0) hx hb dX4_ceilOf_1 (by decide) ?_
  refine jl_le (tgt := 12) hx hb dX4_ceilOf_2 dX4_ceilOf_3 (by decide) (fun c9 => ?_) (fun c9 => ?_)
  · have h := h.1 c9
    refine lv_lconst (v := 0) hx hb dX4_ceilOf_12 (by decide) ?_
    refine lv_goto (tgt := 23) hx hb dX4_ceilOf_13 (by decide) ?_
    exact W.lret (v := 0) hx hb hr (fun t ht hW => ⟨⟨0, (), rfl, h, trivial⟩, hS.F ht⟩) hS.2.2 dX4_ceilOf_23
  · have h := h.2 c9
    refine lv_lload_n hx hb dX4_ceilOf_6 rfl (lv_at hl 1 rfl) ?_
    refine lv_lconst (v := 1) hx hb dX4_ceilOf_7 (by decide) ?_
    refine jl_ge (tgt := 16) hx hb dX4_ceilOf_8 dX4_ceilOf_9 (by decide) (fun c9 => ?_) (fun c9 => ?_)
    · have h := h.1 c9
      refine lv_lload_n hx hb dX4_ceilOf_16 rfl (lv_at hl 0 rfl) ?_
      refine lv_lconst (v := 1) hx hb dX4_ceilOf_17 (by decide) ?_
      refine lv_lsub hx hb dX4_ceilOf_18 ?_
      refine lv_lload_n hx hb dX4_ceilOf_19 rfl (lv_at hl 1 rfl) ?_
      obtain ⟨hne9, h⟩ := h
      refine lv_ldiv hx hb dX4_ceilOf_20 hne9 ?_
      refine lv_lconst (v := 1) hx hb dX4_ceilOf_21 (by decide) ?_
      refine lv_ladd hx hb dX4_ceilOf_22 ?_
      exact W.lret (v := ((x0 - 1) / x2) + 1) hx hb hr (fun t ht hW => ⟨⟨((x0 - 1) / x2) + 1, (), rfl, h, trivial⟩, hS.F ht⟩) hS.2.2 dX4_ceilOf_23
    · have h := h.2 c9
      refine lv_lconst (v := 0) hx hb dX4_ceilOf_12 (by decide) ?_
      refine lv_goto (tgt := 23) hx hb dX4_ceilOf_13 (by decide) ?_
      exact W.lret (v := 0) hx hb hr (fun t ht hW => ⟨⟨0, (), rfl, h, trivial⟩, hS.F ht⟩) hS.2.2 dX4_ceilOf_23

def wX4_firstUnreached (x0 : Int64) (x2 : Int64) (x4 : Int64) (Q : Int64 → Prop) : Prop :=
  (∀ x6_6 : Int64, x6_6 = (x4 * x0) - x2 → ((x6_6 = 0 → Q 1000001) ∧ (¬ x6_6 = 0 → ((0 ≤ x6_6 → wX4_ceilOf (x2 - ((x4 - 1) * x0)) x6_6 (fun r_39 => wX4_ceilOf (x2 - (r_39 * x6_6)) x0 (fun r_57 => Q ((r_39 * x4) + r_57)))) ∧ (¬ 0 ≤ x6_6 → Q x4)))))
set_option maxHeartbeats 4000000 in
set_option maxRecDepth 100000 in
theorem mX4_firstUnreached (l : Launch) (x0 : Int64) (x2 : Int64) (x4 : Int64) (Q : Int64 → Prop) (h : wX4_firstUnreached x0 x2 x4 Q) : Met l yX4_firstUnreached (Cond.code yX4_firstUnreached cX4_firstUnreached 10 (some .long) :: wsG) ({ frames := 1, cells := 0, slots := 0, locals := 23 } : Room) (va_Pc [.long x0, .long x2, .long x4] (fun _ => True)) (va_Ql (fun (r : Int64) (_ : Unit) => Q r) (fun _ _ => True) (fun _ => False)) 0 0 (fun _ => False) := by
  refine Met.ofW (cc := cX4_firstUnreached) (maxL := 10) (ret := (some .long)) (by decide) rfl ?_
  intro p e s m args below meth c s₁ B hml hv
  obtain ⟨rfl, -⟩ := hv
  have hx := B.exec
  have hb := B.bytes
  have hr := B.returns
  have hts := atoms_spec (ws := (Cond.code yX4_firstUnreached cX4_firstUnreached 10 (some .long) :: wsG)) B.pre
  have hq : ∀ w ∈ wsG, w.before _ s = true := fun w hw => hts w (List.mem_cons_of_mem _ hw)
  have hown : s.vm.findClass RX4 = some m.cls := findClass_of_methodNamed B.named
  have hlocks := B.notSynchronized
  have hS : va_S (fun _ : Nat => False) s.heap s.heap [] := va_S.rf
  have hl := lv_entry ([.long x0, .long x2, .long x4]) (n := 10) (Nat.le_of_ble_eq_true rfl)
  rw [lg_entry_eq]
  generalize (lg_sl ([.long x0, .long x2, .long x4]) ++ List.replicate (10 - (lg_sl ([.long x0, .long x2, .long x4])).length) Slot.unset).toArray = ls at hl ⊢
  have hl : lv_has ls 10 [(0, .long x0), (2, .long x2), (4, .long x4)] := hl
  unfold wX4_firstUnreached at h
  refine lv_lload hx hb dX4_firstUnreached_0 (lv_at hl 2 rfl) ?_
  refine lv_lload_n hx hb dX4_firstUnreached_2 rfl (lv_at hl 0 rfl) ?_
  refine lv_lmul hx hb dX4_firstUnreached_3 ?_
  refine lv_lload_n hx hb dX4_firstUnreached_4 rfl (lv_at hl 1 rfl) ?_
  refine lv_lsub hx hb dX4_firstUnreached_5 ?_
  refine lv_topl (fun x6_6 ex6_6 => ?_)
  have h := h x6_6 ex6_6
  refine lv_lstore (lv' := [(6, .long x6_6), (0, .long x0), (2, .long x2), (4, .long x4)]) hx hb dX4_firstUnreached_6 hl (by decide) rfl (fun ls hl => ?_)
  refine lv_lload hx hb dX4_firstUnreached_8 (lv_at hl 0 rfl) ?_
  refine lv_lconst (v := 0) hx hb dX4_firstUnreached_10 (by decide) ?_
  refine jl_ne (tgt := 19) hx hb dX4_firstUnreached_11 dX4_firstUnreached_12 (by decide) (fun c9 => ?_) (fun c9 => ?_)
  · have h := h.2 c9
    refine lv_lload hx hb dX4_firstUnreached_19 (lv_at hl 0 rfl) ?_
    refine lv_lconst (v := 0) hx hb dX4_firstUnreached_21 (by decide) ?_
    refine jl_ge (tgt := 29) hx hb dX4_firstUnreached_22 dX4_firstUnreached_23 (by decide) (fun c9 => ?_) (fun c9 => ?_)
    · have h := h.1 c9
      refine lv_lload_n hx hb dX4_firstUnreached_29 rfl (lv_at hl 2 rfl) ?_
      refine lv_lload hx hb dX4_firstUnreached_30 (lv_at hl 3 rfl) ?_
      refine lv_lconst (v := 1) hx hb dX4_firstUnreached_32 (by decide) ?_
      refine lv_lsub hx hb dX4_firstUnreached_33 ?_
      refine lv_lload_n hx hb dX4_firstUnreached_34 rfl (lv_at hl 1 rfl) ?_
      refine lv_lmul hx hb dX4_firstUnreached_35 ?_
      refine lv_lsub hx hb dX4_firstUnreached_36 ?_
      refine lv_lload hx hb dX4_firstUnreached_37 (lv_at hl 0 rfl) ?_
      refine cPl (As := [.long (x2 - ((x4 - 1) * x0)), .long x6_6]) (rest := []) ⟨hx, hb, hml, hown, hts⟩ (mX4_ceilOf l (x2 - ((x4 - 1) * x0)) x6_6 _ h) (va_cwS 2 hts (gS q_824 q_825 q_16 q_826) rfl rfl rfl (by decide +kernel) ⟨Nat.le_of_ble_eq_true rfl, Nat.le_of_ble_eq_true rfl⟩) hS rfl hl.1 rfl (Nat.le_of_ble_eq_true rfl) dX4_firstUnreached_39 ⟨Nat.le_of_ble_eq_true rfl, Nat.le_of_ble_eq_true rfl⟩ (fun r_39 H1 locs h hk1 hS => ?_)
      try dsimp only at h
      refine lv_lstore (lv' := [(8, .long r_39), (6, .long x6_6), (0, .long x0), (2, .long x2), (4, .long x4)]) hx hb dX4_firstUnreached_42 hl (by decide) rfl (fun ls hl => ?_)
      refine lv_lload hx hb dX4_firstUnreached_44 (lv_at hl 0 rfl) ?_
      refine lv_lload hx hb dX4_firstUnreached_46 (lv_at hl 4 rfl) ?_
      refine lv_lmul hx hb dX4_firstUnreached_48 ?_
      refine lv_lload_n hx hb dX4_firstUnreached_49 rfl (lv_at hl 3 rfl) ?_
      refine lv_lload hx hb dX4_firstUnreached_50 (lv_at hl 0 rfl) ?_
      refine lv_lload hx hb dX4_firstUnreached_52 (lv_at hl 1 rfl) ?_
      refine lv_lmul hx hb dX4_firstUnreached_54 ?_
      refine lv_lsub hx hb dX4_firstUnreached_55 ?_
      refine lv_lload_n hx hb dX4_firstUnreached_56 rfl (lv_at hl 2 rfl) ?_
      refine cPl (As := [.long (x2 - (r_39 * x6_6)), .long x0]) (rest := [.long (r_39 * x4)]) ⟨hx, hb, hml, hown, hts⟩ (mX4_ceilOf l (x2 - (r_39 * x6_6)) x0 _ h) (va_cwS 2 hts (gS q_824 q_825 q_16 q_826) rfl rfl rfl (by decide +kernel) ⟨Nat.le_of_ble_eq_true rfl, Nat.le_of_ble_eq_true rfl⟩) hS rfl hl.1 rfl (Nat.le_of_ble_eq_true rfl) dX4_firstUnreached_57 ⟨Nat.le_of_ble_eq_true rfl, Nat.le_of_ble_eq_true rfl⟩ (fun r_57 H1 locs h hk1 hS => ?_)
      try dsimp only at h
      refine lv_ladd hx hb dX4_firstUnreached_60 ?_
      exact W.lret (v := (r_39 * x4) + r_57) hx hb hr (fun t ht hW => ⟨⟨(r_39 * x4) + r_57, (), rfl, h, trivial⟩, hS.F ht⟩) hS.2.2 dX4_firstUnreached_61
    · have h := h.2 c9
      refine lv_lload hx hb dX4_firstUnreached_26 (lv_at hl 3 rfl) ?_
      exact W.lret (v := x4) hx hb hr (fun t ht hW => ⟨⟨x4, (), rfl, h, trivial⟩, hS.F ht⟩) hS.2.2 dX4_firstUnreached_28
  · have h := h.1 c9
    refine lv_ldc2 (v := 1000001) hx hb hown (hq _ q_823) dX4_firstUnreached_15 ?_
    exact W.lret (v := 1000001) hx hb hr (fun t ht hW => ⟨⟨1000001, (), rfl, h, trivial⟩, hS.F ht⟩) hS.2.2 dX4_firstUnreached_18

def wX5_operandOf (x0 : Int32) (Q : Int32 → Prop) : Prop :=
  Q (((-1)) - x0)
set_option maxHeartbeats 4000000 in
set_option maxRecDepth 100000 in
theorem mX5_operandOf (l : Launch) (x0 : Int32) (Q : Int32 → Prop) (h : wX5_operandOf x0 Q) : Met l yX5_operandOf (Cond.code yX5_operandOf cX5_operandOf 1 (some .int) :: wsG) ({ frames := 0, cells := 0, slots := 0, locals := 0 } : Room) (va_Pc [.int x0] (fun _ => True)) (va_Qi (fun (r : Int32) (_ : Unit) => Q r) (fun _ _ => True) (fun _ => False)) 0 0 (fun _ => False) := by
  refine Met.ofW (cc := cX5_operandOf) (maxL := 1) (ret := (some .int)) (by decide) rfl ?_
  intro p e s m args below meth c s₁ B hml hv
  obtain ⟨rfl, -⟩ := hv
  have hx := B.exec
  have hb := B.bytes
  have hr := B.returns
  have hts := atoms_spec (ws := (Cond.code yX5_operandOf cX5_operandOf 1 (some .int) :: wsG)) B.pre
  have hq : ∀ w ∈ wsG, w.before _ s = true := fun w hw => hts w (List.mem_cons_of_mem _ hw)
  have hown : s.vm.findClass RX5 = some m.cls := findClass_of_methodNamed B.named
  have hlocks := B.notSynchronized
  have hS : va_S (fun _ : Nat => False) s.heap s.heap [] := va_S.rf
  have hl := lv_entry ([.int x0]) (n := 1) (Nat.le_of_ble_eq_true rfl)
  rw [lg_entry_eq]
  generalize (lg_sl ([.int x0]) ++ List.replicate (1 - (lg_sl ([.int x0])).length) Slot.unset).toArray = ls at hl ⊢
  have hl : lv_has ls 1 [(0, .int x0)] := hl
  unfold wX5_operandOf at h
  refine lv_iconst (v := (-1)) hx hb dX5_operandOf_0 (by decide) ?_
  refine lv_iload_n hx hb dX5_operandOf_1 rfl (lv_at hl 0 rfl) ?_
  refine lv_isub hx hb dX5_operandOf_2 ?_
  exact W.iret (v := ((-1)) - x0) hx hb hr (fun t ht hW => ⟨⟨((-1)) - x0, (), rfl, h, trivial⟩, hS.F ht⟩) hS.2.2 dX5_operandOf_3

abbrev qX5_allowsOperand (D : va_G) (ca : Nat → ClassId) (a_t a_t_operations a_t_firsts a_t_seconds : Nat) (t_width : Int32) (t_length : Int32) (t_result : Int32) (t_taskKind : Int32) (t_taskDivisor : Int32) (Q : Int32 → Prop) (A : Nat → Prop) : Array Value → State → Outcome → State → Prop := va_Qi (fun (r : Int32) (_ : Unit) => Q r) (wEnd D ca (fun _ : Unit => [(a_t, .inr (4, [.int t_width, .int t_length, .int t_result, .int t_taskKind, .int t_taskDivisor, .ref a_t_operations, .ref a_t_firsts, .ref a_t_seconds]))]) A) A
def wX5_allowsOperand (t_width : Int32) (t_length : Int32) (x1 : Int32) (x2 : Int32) (Q : Int32 → Prop) : Prop :=
  ((x2 < 0 → Q 0) ∧ (¬ x2 < 0 → ((x1 = 0 → ((t_length < x2 → Q 0) ∧ (¬ t_length < x2 → Q 1))) ∧ (¬ x1 = 0 → ((((1 : Int32) <<< (t_width &&& 31)) ≤ x2 → Q 0) ∧ (¬ ((1 : Int32) <<< (t_width &&& 31)) ≤ x2 → Q 1))))))
set_option maxHeartbeats 4000000 in
set_option maxRecDepth 100000 in
theorem mX5_allowsOperand (l : Launch) (D : va_G) (ca : Nat → ClassId) (a_t a_t_operations a_t_firsts a_t_seconds : Nat) (sz : Nat) (t_width : Int32) (t_length : Int32) (t_result : Int32) (t_taskKind : Int32) (t_taskDivisor : Int32) (x1 : Int32) (x2 : Int32) (Q : Int32 → Prop) (h : wX5_allowsOperand t_width t_length x1 x2 Q) : Met l yX5_allowsOperand (Cond.code yX5_allowsOperand cX5_allowsOperand 3 (some .boolean) :: wsG) ({ frames := 0, cells := 0, slots := 0, locals := 0 } : Room) (va_Pc [.ref a_t, .int x1, .int x2] (wPre D ca [(a_t, .inr (4, [.int t_width, .int t_length, .int t_result, .int t_taskKind, .int t_taskDivisor, .ref a_t_operations, .ref a_t_firsts, .ref a_t_seconds]))] sz)) (qX5_allowsOperand D ca a_t a_t_operations a_t_firsts a_t_seconds t_width t_length t_result t_taskKind t_taskDivisor Q (va_A [(a_t, .inr (4, [.int t_width, .int t_length, .int t_result, .int t_taskKind, .int t_taskDivisor, .ref a_t_operations, .ref a_t_firsts, .ref a_t_seconds]))] sz)) 0 0 (va_A [(a_t, .inr (4, [.int t_width, .int t_length, .int t_result, .int t_taskKind, .int t_taskDivisor, .ref a_t_operations, .ref a_t_firsts, .ref a_t_seconds]))] sz) := by
  refine Met.ofW (cc := cX5_allowsOperand) (maxL := 3) (ret := (some .boolean)) (by decide) rfl ?_
  intro p e s m args below meth c s₁ B hml hv
  obtain ⟨rfl, hsz, hP, hK, hD0⟩ := hv
  have hx := B.exec
  have hb := B.bytes
  have hr := B.returns
  have hts := atoms_spec (ws := (Cond.code yX5_allowsOperand cX5_allowsOperand 3 (some .boolean) :: wsG)) B.pre
  have hq : ∀ w ∈ wsG, w.before _ s = true := fun w hw => hts w (List.mem_cons_of_mem _ hw)
  have hown : s.vm.findClass RX5 = some m.cls := findClass_of_methodNamed B.named
  have hlocks := B.notSynchronized
  subst hsz
  have hD := hD0.self (sz := s.heap.size)
  generalize hAe : va_A [(a_t, .inr (4, [.int t_width, .int t_length, .int t_result, .int t_taskKind, .int t_taskDivisor, .ref a_t_operations, .ref a_t_firsts, .ref a_t_seconds]))] s.heap.size = A at hD ⊢
  have hA : ∀ q : Nat, s.heap.size ≤ q → A q := fun q h => by rw [← hAe]; exact Or.inr h
  have hS : va_S A s.heap s.heap [] := va_S.rf
  have hP : va_P D vwCl [(a_t, .inr (4, [.int t_width, .int t_length, .int t_result, .int t_taskKind, .int t_taskDivisor, .ref a_t_operations, .ref a_t_firsts, .ref a_t_seconds]))] s.heap := hP
  have hl := lv_entry ([.ref a_t, .int x1, .int x2]) (n := 3) (Nat.le_of_ble_eq_true rfl)
  rw [lg_entry_eq]
  generalize (lg_sl ([.ref a_t, .int x1, .int x2]) ++ List.replicate (3 - (lg_sl ([.ref a_t, .int x1, .int x2])).length) Slot.unset).toArray = ls at hl ⊢
  have hl : lv_has ls 3 [(0, .ref a_t), (1, .int x1), (2, .int x2)] := hl
  unfold wX5_allowsOperand at h
  refine lv_iload_n hx hb dX5_allowsOperand_0 rfl (lv_at hl 2 rfl) ?_
  refine lv_if_lt (tgt := 33) hx hb dX5_allowsOperand_1 (by decide) (fun c9 => ?_) (fun c9 => ?_)
  · have h := h.1 c9
    refine lv_iconst (v := 0) hx hb dX5_allowsOperand_33 (by decide) ?_
    exact W.zret (v := 0) hx hb hr rfl (fun t ht hW => ⟨⟨0, (), rfl, h, by rw [ht]; exact hP, va_K.moved hW.alike hK, hD⟩, hS.F ht⟩) hS.2.2 dX5_allowsOperand_34
  · have h := h.2 c9
    refine lv_iload_n hx hb dX5_allowsOperand_4 rfl (lv_at hl 1 rfl) ?_
    refine lv_if_eq (tgt := 21) hx hb dX5_allowsOperand_5 (by decide) (fun c9 => ?_) (fun c9 => ?_)
    · have h := h.1 c9
      refine lv_iload_n hx hb dX5_allowsOperand_21 rfl (lv_at hl 2 rfl) ?_
      refine lv_aload_n hx hb dX5_allowsOperand_22 rfl (lv_at hl 0 rfl) ?_
      refine va_get (D := D) (ci := 4) (v := .int t_length) (C := RX5) (T := TX5) (N := 8) hx hb hq inX5g hown hK hP 0 rfl rfl 1 (by decide) (hq _ q_50) (fun _ h9 => h9) rfl dX5_allowsOperand_23 ?_
      refine lv_icmp_gt (tgt := 33) hx hb dX5_allowsOperand_26 (by decide) (fun c9 => ?_) (fun c9 => ?_)
      · have h := h.1 c9
        refine lv_iconst (v := 0) hx hb dX5_allowsOperand_33 (by decide) ?_
        exact W.zret (v := 0) hx hb hr rfl (fun t ht hW => ⟨⟨0, (), rfl, h, by rw [ht]; exact hP, va_K.moved hW.alike hK, hD⟩, hS.F ht⟩) hS.2.2 dX5_allowsOperand_34
      · have h := h.2 c9
        refine lv_iconst (v := 1) hx hb dX5_allowsOperand_29 (by decide) ?_
        refine lv_goto (tgt := 34) hx hb dX5_allowsOperand_30 (by decide) ?_
        exact W.zret (v := 1) hx hb hr rfl (fun t ht hW => ⟨⟨1, (), rfl, h, by rw [ht]; exact hP, va_K.moved hW.alike hK, hD⟩, hS.F ht⟩) hS.2.2 dX5_allowsOperand_34
    · have h := h.2 c9
      refine lv_iload_n hx hb dX5_allowsOperand_8 rfl (lv_at hl 2 rfl) ?_
      refine lv_iconst (v := 1) hx hb dX5_allowsOperand_9 (by decide) ?_
      refine lv_aload_n hx hb dX5_allowsOperand_10 rfl (lv_at hl 0 rfl) ?_
      refine va_get (D := D) (ci := 4) (v := .int t_width) (C := RX5) (T := TX5) (N := 8) hx hb hq inX5g hown hK hP 0 rfl rfl 0 (by decide) (hq _ q_44) (fun _ h9 => h9) rfl dX5_allowsOperand_11 ?_
      refine lv_ishl hx hb dX5_allowsOperand_14 ?_
      refine lv_icmp_ge (tgt := 33) hx hb dX5_allowsOperand_15 (by decide) (fun c9 => ?_) (fun c9 => ?_)
      · have h := h.1 c9
        refine lv_iconst (v := 0) hx hb dX5_allowsOperand_33 (by decide) ?_
        exact W.zret (v := 0) hx hb hr rfl (fun t ht hW => ⟨⟨0, (), rfl, h, by rw [ht]; exact hP, va_K.moved hW.alike hK, hD⟩, hS.F ht⟩) hS.2.2 dX5_allowsOperand_34
      · have h := h.2 c9
        refine lv_goto (tgt := 29) hx hb dX5_allowsOperand_18 (by decide) ?_
        refine lv_iconst (v := 1) hx hb dX5_allowsOperand_29 (by decide) ?_
        refine lv_goto (tgt := 34) hx hb dX5_allowsOperand_30 (by decide) ?_
        exact W.zret (v := 1) hx hb hr rfl (fun t ht hW => ⟨⟨1, (), rfl, h, by rw [ht]; exact hP, va_K.moved hW.alike hK, hD⟩, hS.F ht⟩) hS.2.2 dX5_allowsOperand_34

abbrev qX5_clear (D : va_G) (ca : Nat → ClassId) (a_t a_t_operations a_t_firsts a_t_seconds : Nat) (t_width : Int32) (t_taskKind : Int32) (t_taskDivisor : Int32) (Q : Int32 → Int32 → Prop) (A : Nat → Prop) : Array Value → State → Outcome → State → Prop := va_Qv (fun (u : Int32 × Int32) => Q u.1 u.2) (wEnd D ca (fun u : Int32 × Int32 => [(a_t, .inr (4, [.int t_width, .int u.1, .int u.2, .int t_taskKind, .int t_taskDivisor, .ref a_t_operations, .ref a_t_firsts, .ref a_t_seconds]))]) A) A
def wX5_clear (t_length : Int32) (t_result : Int32) (Q : Int32 → Int32 → Prop) : Prop :=
  Q 0 0
set_option maxHeartbeats 4000000 in
set_option maxRecDepth 100000 in
theorem mX5_clear (l : Launch) (D : va_G) (ca : Nat → ClassId) (a_t a_t_operations a_t_firsts a_t_seconds : Nat) (sz : Nat) (t_width : Int32) (t_length : Int32) (t_result : Int32) (t_taskKind : Int32) (t_taskDivisor : Int32) (Q : Int32 → Int32 → Prop) (h : wX5_clear t_length t_result Q) : Met l yX5_clear (Cond.code yX5_clear cX5_clear 1 none :: wsG) ({ frames := 0, cells := 0, slots := 0, locals := 0 } : Room) (va_Pc [.ref a_t] (wPre D ca [(a_t, .inr (4, [.int t_width, .int t_length, .int t_result, .int t_taskKind, .int t_taskDivisor, .ref a_t_operations, .ref a_t_firsts, .ref a_t_seconds]))] sz)) (qX5_clear D ca a_t a_t_operations a_t_firsts a_t_seconds t_width t_taskKind t_taskDivisor Q (va_A [(a_t, .inr (4, [.int t_width, .int t_length, .int t_result, .int t_taskKind, .int t_taskDivisor, .ref a_t_operations, .ref a_t_firsts, .ref a_t_seconds]))] sz)) 0 0 (va_A [(a_t, .inr (4, [.int t_width, .int t_length, .int t_result, .int t_taskKind, .int t_taskDivisor, .ref a_t_operations, .ref a_t_firsts, .ref a_t_seconds]))] sz) := by
  refine Met.ofW (cc := cX5_clear) (maxL := 1) (ret := none) (by decide) rfl ?_
  intro p e s m args below meth c s₁ B hml hv
  obtain ⟨rfl, hsz, hP, hK, hD0⟩ := hv
  have hx := B.exec
  have hb := B.bytes
  have hr := B.returns
  have hts := atoms_spec (ws := (Cond.code yX5_clear cX5_clear 1 none :: wsG)) B.pre
  have hq : ∀ w ∈ wsG, w.before _ s = true := fun w hw => hts w (List.mem_cons_of_mem _ hw)
  have hown : s.vm.findClass RX5 = some m.cls := findClass_of_methodNamed B.named
  have hlocks := B.notSynchronized
  subst hsz
  have hD := hD0.self (sz := s.heap.size)
  generalize hAe : va_A [(a_t, .inr (4, [.int t_width, .int t_length, .int t_result, .int t_taskKind, .int t_taskDivisor, .ref a_t_operations, .ref a_t_firsts, .ref a_t_seconds]))] s.heap.size = A at hD ⊢
  have hA : ∀ q : Nat, s.heap.size ≤ q → A q := fun q h => by rw [← hAe]; exact Or.inr h
  have hS : va_S A s.heap s.heap [] := va_S.rf
  have hP : va_P D vwCl [(a_t, .inr (4, [.int t_width, .int t_length, .int t_result, .int t_taskKind, .int t_taskDivisor, .ref a_t_operations, .ref a_t_firsts, .ref a_t_seconds]))] s.heap := hP
  have hl := lv_entry ([.ref a_t]) (n := 1) (Nat.le_of_ble_eq_true rfl)
  rw [lg_entry_eq]
  generalize (lg_sl ([.ref a_t]) ++ List.replicate (1 - (lg_sl ([.ref a_t])).length) Slot.unset).toArray = ls at hl ⊢
  have hl : lv_has ls 1 [(0, .ref a_t)] := hl
  unfold wX5_clear at h
  refine lv_aload_n hx hb dX5_clear_0 rfl (lv_at hl 0 rfl) ?_
  refine lv_iconst (v := 0) hx hb dX5_clear_1 (by decide) ?_
  refine va_put (D := D) (ci := 4) (v := .int 0) (ty := .int) (C := RX5) (T := TX5) (N := 8) hx hb hq inX5g tyX5 tyX5_ok nmX5 hown hK hP hD hS 0 rfl rfl 1 (by decide) (hq _ q_50) (fun _ h9 => h9) rfl (by decide +kernel) rfl rfl (Nat.le_of_ble_eq_true rfl) dX5_clear_2 (fun H locs hP hD hS => ?_)
  have hP : va_P D vwCl [(a_t, .inr (4, [.int t_width, .int 0, .int t_result, .int t_taskKind, .int t_taskDivisor, .ref a_t_operations, .ref a_t_firsts, .ref a_t_seconds]))] H := hP
  have hD : va_D A [(a_t, .inr (4, [.int t_width, .int 0, .int t_result, .int t_taskKind, .int t_taskDivisor, .ref a_t_operations, .ref a_t_firsts, .ref a_t_seconds]))] := hD
  refine lv_aload_n hx hb dX5_clear_5 rfl (lv_at hl 0 rfl) ?_
  refine lv_iconst (v := 0) hx hb dX5_clear_6 (by decide) ?_
  refine va_put (D := D) (ci := 4) (v := .int 0) (ty := .int) (C := RX5) (T := TX5) (N := 8) hx hb hq inX5g tyX5 tyX5_ok nmX5 hown hK hP hD hS 0 rfl rfl 2 (by decide) (hq _ q_54) (fun _ h9 => h9) rfl (by decide +kernel) rfl rfl (Nat.le_of_ble_eq_true rfl) dX5_clear_7 (fun H locs hP hD hS => ?_)
  have hP : va_P D vwCl [(a_t, .inr (4, [.int t_width, .int 0, .int 0, .int t_taskKind, .int t_taskDivisor, .ref a_t_operations, .ref a_t_firsts, .ref a_t_seconds]))] H := hP
  have hD : va_D A [(a_t, .inr (4, [.int t_width, .int 0, .int 0, .int t_taskKind, .int t_taskDivisor, .ref a_t_operations, .ref a_t_firsts, .ref a_t_seconds]))] := hD
  exact W.vret hx hb hr (fun t ht hW => ⟨⟨(0, 0), rfl, h, by rw [ht]; exact hP, va_K.moved hW.alike hK, hD⟩, hS.F ht⟩) hS.2.2 dX5_clear_10

abbrev qX5_copyFrom (D : va_G) (ca : Nat → ClassId) (a_t a_t_operations a_t_firsts a_t_seconds a_o a_o_operations a_o_firsts a_o_seconds : Nat) (o_width : Int32) (o_length : Int32) (o_result : Int32) (o_taskKind : Int32) (o_taskDivisor : Int32) (f_o_operations : Nat → Int32) (f_o_firsts : Nat → Int32) (f_o_seconds : Nat → Int32) (Q : Int32 → Int32 → Int32 → Int32 → Int32 → (Nat → Int32) → (Nat → Int32) → (Nat → Int32) → Prop) (A : Nat → Prop) : Array Value → State → Outcome → State → Prop := va_Qv (fun (u : Int32 × Int32 × Int32 × Int32 × Int32 × (Nat → Int32) × (Nat → Int32) × (Nat → Int32)) => Q u.1 u.2.1 u.2.2.1 u.2.2.2.1 u.2.2.2.2.1 u.2.2.2.2.2.1 u.2.2.2.2.2.2.1 u.2.2.2.2.2.2.2) (wEnd D ca (fun u : Int32 × Int32 × Int32 × Int32 × Int32 × (Nat → Int32) × (Nat → Int32) × (Nat → Int32) => [(a_t, .inr (4, [.int u.1, .int u.2.1, .int u.2.2.1, .int u.2.2.2.1, .int u.2.2.2.2.1, .ref a_t_operations, .ref a_t_firsts, .ref a_t_seconds])), (a_t_operations, .inl (ca 0, 40, .inl u.2.2.2.2.2.1)), (a_t_firsts, .inl (ca 0, 40, .inl u.2.2.2.2.2.2.1)), (a_t_seconds, .inl (ca 0, 40, .inl u.2.2.2.2.2.2.2)), (a_o, .inr (4, [.int o_width, .int o_length, .int o_result, .int o_taskKind, .int o_taskDivisor, .ref a_o_operations, .ref a_o_firsts, .ref a_o_seconds])), (a_o_operations, .inl (ca 0, 40, .inl f_o_operations)), (a_o_firsts, .inl (ca 0, 40, .inl f_o_firsts)), (a_o_seconds, .inl (ca 0, 40, .inl f_o_seconds))]) A) A
def wX5_copyFrom (t_width : Int32) (t_length : Int32) (t_result : Int32) (t_taskKind : Int32) (t_taskDivisor : Int32) (f_t_operations : Nat → Int32) (f_t_firsts : Nat → Int32) (f_t_seconds : Nat → Int32) (o_width : Int32) (o_length : Int32) (o_result : Int32) (o_taskKind : Int32) (o_taskDivisor : Int32) (f_o_operations : Nat → Int32) (f_o_firsts : Nat → Int32) (f_o_seconds : Nat → Int32) (Q : Int32 → Int32 → Int32 → Int32 → Int32 → (Nat → Int32) → (Nat → Int32) → (Nat → Int32) → Prop) : Prop :=
  ((¬ (0 : Int32) < 0 ∧ ¬ (0 : Int32) < 0 ∧ ¬ o_length < 0 ∧ (0 : Int32).toNatClampNeg + o_length.toNatClampNeg ≤ 40 ∧ (0 : Int32).toNatClampNeg + o_length.toNatClampNeg ≤ 40) ∧ ((¬ (0 : Int32) < 0 ∧ ¬ (0 : Int32) < 0 ∧ ¬ o_length < 0 ∧ (0 : Int32).toNatClampNeg + o_length.toNatClampNeg ≤ 40 ∧ (0 : Int32).toNatClampNeg + o_length.toNatClampNeg ≤ 40) ∧ ((¬ (0 : Int32) < 0 ∧ ¬ (0 : Int32) < 0 ∧ ¬ o_length < 0 ∧ (0 : Int32).toNatClampNeg + o_length.toNatClampNeg ≤ 40 ∧ (0 : Int32).toNatClampNeg + o_length.toNatClampNeg ≤ 40) ∧ Q o_width o_length o_result o_taskKind o_taskDivisor (va_cpy f_o_operations f_t_operations (0 : Int32).toNatClampNeg (0 : Int32).toNatClampNeg o_length.toNatClampNeg) (va_cpy f_o_firsts f_t_firsts (0 : Int32).toNatClampNeg (0 : Int32).toNatClampNeg o_length.toNatClampNeg) (va_cpy f_o_seconds f_t_seconds (0 : Int32).toNatClampNeg (0 : Int32).toNatClampNeg o_length.toNatClampNeg))))
set_option maxHeartbeats 4000000 in
set_option maxRecDepth 100000 in
theorem mX5_copyFrom (l : Launch) (D : va_G) (ca : Nat → ClassId) (a_t a_t_operations a_t_firsts a_t_seconds a_o a_o_operations a_o_firsts a_o_seconds : Nat) (sz : Nat) (t_width : Int32) (t_length : Int32) (t_result : Int32) (t_taskKind : Int32) (t_taskDivisor : Int32) (f_t_operations : Nat → Int32) (f_t_firsts : Nat → Int32) (f_t_seconds : Nat → Int32) (o_width : Int32) (o_length : Int32) (o_result : Int32) (o_taskKind : Int32) (o_taskDivisor : Int32) (f_o_operations : Nat → Int32) (f_o_firsts : Nat → Int32) (f_o_seconds : Nat → Int32) (Q : Int32 → Int32 → Int32 → Int32 → Int32 → (Nat → Int32) → (Nat → Int32) → (Nat → Int32) → Prop) (h : wX5_copyFrom t_width t_length t_result t_taskKind t_taskDivisor f_t_operations f_t_firsts f_t_seconds o_width o_length o_result o_taskKind o_taskDivisor f_o_operations f_o_firsts f_o_seconds Q) : Met l yX5_copyFrom (Cond.code yX5_copyFrom cX5_copyFrom 2 none :: wsG) ({ frames := 1, cells := 0, slots := 0, locals := 24 } : Room) (va_Pc [.ref a_t, .ref a_o] (wPre D ca [(a_t, .inr (4, [.int t_width, .int t_length, .int t_result, .int t_taskKind, .int t_taskDivisor, .ref a_t_operations, .ref a_t_firsts, .ref a_t_seconds])), (a_t_operations, .inl (ca 0, 40, .inl f_t_operations)), (a_t_firsts, .inl (ca 0, 40, .inl f_t_firsts)), (a_t_seconds, .inl (ca 0, 40, .inl f_t_seconds)), (a_o, .inr (4, [.int o_width, .int o_length, .int o_result, .int o_taskKind, .int o_taskDivisor, .ref a_o_operations, .ref a_o_firsts, .ref a_o_seconds])), (a_o_operations, .inl (ca 0, 40, .inl f_o_operations)), (a_o_firsts, .inl (ca 0, 40, .inl f_o_firsts)), (a_o_seconds, .inl (ca 0, 40, .inl f_o_seconds))] sz)) (qX5_copyFrom D ca a_t a_t_operations a_t_firsts a_t_seconds a_o a_o_operations a_o_firsts a_o_seconds o_width o_length o_result o_taskKind o_taskDivisor f_o_operations f_o_firsts f_o_seconds Q (va_A [(a_t, .inr (4, [.int t_width, .int t_length, .int t_result, .int t_taskKind, .int t_taskDivisor, .ref a_t_operations, .ref a_t_firsts, .ref a_t_seconds])), (a_t_operations, .inl (ca 0, 40, .inl f_t_operations)), (a_t_firsts, .inl (ca 0, 40, .inl f_t_firsts)), (a_t_seconds, .inl (ca 0, 40, .inl f_t_seconds)), (a_o, .inr (4, [.int o_width, .int o_length, .int o_result, .int o_taskKind, .int o_taskDivisor, .ref a_o_operations, .ref a_o_firsts, .ref a_o_seconds])), (a_o_operations, .inl (ca 0, 40, .inl f_o_operations)), (a_o_firsts, .inl (ca 0, 40, .inl f_o_firsts)), (a_o_seconds, .inl (ca 0, 40, .inl f_o_seconds))] sz)) 0 0 (va_A [(a_t, .inr (4, [.int t_width, .int t_length, .int t_result, .int t_taskKind, .int t_taskDivisor, .ref a_t_operations, .ref a_t_firsts, .ref a_t_seconds])), (a_t_operations, .inl (ca 0, 40, .inl f_t_operations)), (a_t_firsts, .inl (ca 0, 40, .inl f_t_firsts)), (a_t_seconds, .inl (ca 0, 40, .inl f_t_seconds)), (a_o, .inr (4, [.int o_width, .int o_length, .int o_result, .int o_taskKind, .int o_taskDivisor, .ref a_o_operations, .ref a_o_firsts, .ref a_o_seconds])), (a_o_operations, .inl (ca 0, 40, .inl f_o_operations)), (a_o_firsts, .inl (ca 0, 40, .inl f_o_firsts)), (a_o_seconds, .inl (ca 0, 40, .inl f_o_seconds))] sz) := by
  refine Met.ofW (cc := cX5_copyFrom) (maxL := 2) (ret := none) (by decide) rfl ?_
  intro p e s m args below meth c s₁ B hml hv
  obtain ⟨rfl, hsz, hP, hK, hD0⟩ := hv
  have hx := B.exec
  have hb := B.bytes
  have hr := B.returns
  have hts := atoms_spec (ws := (Cond.code yX5_copyFrom cX5_copyFrom 2 none :: wsG)) B.pre
  have hq : ∀ w ∈ wsG, w.before _ s = true := fun w hw => hts w (List.mem_cons_of_mem _ hw)
  have hown : s.vm.findClass RX5 = some m.cls := findClass_of_methodNamed B.named
  have hlocks := B.notSynchronized
  subst hsz
  have hD := hD0.self (sz := s.heap.size)
  generalize hAe : va_A [(a_t, .inr (4, [.int t_width, .int t_length, .int t_result, .int t_taskKind, .int t_taskDivisor, .ref a_t_operations, .ref a_t_firsts, .ref a_t_seconds])), (a_t_operations, .inl (ca 0, 40, .inl f_t_operations)), (a_t_firsts, .inl (ca 0, 40, .inl f_t_firsts)), (a_t_seconds, .inl (ca 0, 40, .inl f_t_seconds)), (a_o, .inr (4, [.int o_width, .int o_length, .int o_result, .int o_taskKind, .int o_taskDivisor, .ref a_o_operations, .ref a_o_firsts, .ref a_o_seconds])), (a_o_operations, .inl (ca 0, 40, .inl f_o_operations)), (a_o_firsts, .inl (ca 0, 40, .inl f_o_firsts)), (a_o_seconds, .inl (ca 0, 40, .inl f_o_seconds))] s.heap.size = A at hD ⊢
  have hA : ∀ q : Nat, s.heap.size ≤ q → A q := fun q h => by rw [← hAe]; exact Or.inr h
  have hS : va_S A s.heap s.heap [] := va_S.rf
  have hP : va_P D vwCl [(a_t, .inr (4, [.int t_width, .int t_length, .int t_result, .int t_taskKind, .int t_taskDivisor, .ref a_t_operations, .ref a_t_firsts, .ref a_t_seconds])), (a_t_operations, .inl (ca 0, 40, .inl f_t_operations)), (a_t_firsts, .inl (ca 0, 40, .inl f_t_firsts)), (a_t_seconds, .inl (ca 0, 40, .inl f_t_seconds)), (a_o, .inr (4, [.int o_width, .int o_length, .int o_result, .int o_taskKind, .int o_taskDivisor, .ref a_o_operations, .ref a_o_firsts, .ref a_o_seconds])), (a_o_operations, .inl (ca 0, 40, .inl f_o_operations)), (a_o_firsts, .inl (ca 0, 40, .inl f_o_firsts)), (a_o_seconds, .inl (ca 0, 40, .inl f_o_seconds))] s.heap := hP
  have hl := lv_entry ([.ref a_t, .ref a_o]) (n := 2) (Nat.le_of_ble_eq_true rfl)
  rw [lg_entry_eq]
  generalize (lg_sl ([.ref a_t, .ref a_o]) ++ List.replicate (2 - (lg_sl ([.ref a_t, .ref a_o])).length) Slot.unset).toArray = ls at hl ⊢
  have hl : lv_has ls 2 [(0, .ref a_t), (1, .ref a_o)] := hl
  unfold wX5_copyFrom at h
  refine lv_aload_n hx hb dX5_copyFrom_0 rfl (lv_at hl 0 rfl) ?_
  refine lv_aload_n hx hb dX5_copyFrom_1 rfl (lv_at hl 1 rfl) ?_
  refine va_get (D := D) (ci := 4) (v := .int o_width) (C := RX5) (T := TX5) (N := 8) hx hb hq inX5g hown hK hP 4 rfl rfl 0 (by decide) (hq _ q_44) (fun _ h9 => h9) rfl dX5_copyFrom_2 ?_
  refine va_put (D := D) (ci := 4) (v := .int o_width) (ty := .int) (C := RX5) (T := TX5) (N := 8) hx hb hq inX5g tyX5 tyX5_ok nmX5 hown hK hP hD hS 0 rfl rfl 0 (by decide) (hq _ q_44) (fun _ h9 => h9) rfl (by decide +kernel) rfl rfl (Nat.le_of_ble_eq_true rfl) dX5_copyFrom_5 (fun H locs hP hD hS => ?_)
  have hP : va_P D vwCl [(a_t, .inr (4, [.int o_width, .int t_length, .int t_result, .int t_taskKind, .int t_taskDivisor, .ref a_t_operations, .ref a_t_firsts, .ref a_t_seconds])), (a_t_operations, .inl (ca 0, 40, .inl f_t_operations)), (a_t_firsts, .inl (ca 0, 40, .inl f_t_firsts)), (a_t_seconds, .inl (ca 0, 40, .inl f_t_seconds)), (a_o, .inr (4, [.int o_width, .int o_length, .int o_result, .int o_taskKind, .int o_taskDivisor, .ref a_o_operations, .ref a_o_firsts, .ref a_o_seconds])), (a_o_operations, .inl (ca 0, 40, .inl f_o_operations)), (a_o_firsts, .inl (ca 0, 40, .inl f_o_firsts)), (a_o_seconds, .inl (ca 0, 40, .inl f_o_seconds))] H := hP
  have hD : va_D A [(a_t, .inr (4, [.int o_width, .int t_length, .int t_result, .int t_taskKind, .int t_taskDivisor, .ref a_t_operations, .ref a_t_firsts, .ref a_t_seconds])), (a_t_operations, .inl (ca 0, 40, .inl f_t_operations)), (a_t_firsts, .inl (ca 0, 40, .inl f_t_firsts)), (a_t_seconds, .inl (ca 0, 40, .inl f_t_seconds)), (a_o, .inr (4, [.int o_width, .int o_length, .int o_result, .int o_taskKind, .int o_taskDivisor, .ref a_o_operations, .ref a_o_firsts, .ref a_o_seconds])), (a_o_operations, .inl (ca 0, 40, .inl f_o_operations)), (a_o_firsts, .inl (ca 0, 40, .inl f_o_firsts)), (a_o_seconds, .inl (ca 0, 40, .inl f_o_seconds))] := hD
  refine lv_aload_n hx hb dX5_copyFrom_8 rfl (lv_at hl 0 rfl) ?_
  refine lv_aload_n hx hb dX5_copyFrom_9 rfl (lv_at hl 1 rfl) ?_
  refine va_get (D := D) (ci := 4) (v := .int o_length) (C := RX5) (T := TX5) (N := 8) hx hb hq inX5g hown hK hP 4 rfl rfl 1 (by decide) (hq _ q_50) (fun _ h9 => h9) rfl dX5_copyFrom_10 ?_
  refine va_put (D := D) (ci := 4) (v := .int o_length) (ty := .int) (C := RX5) (T := TX5) (N := 8) hx hb hq inX5g tyX5 tyX5_ok nmX5 hown hK hP hD hS 0 rfl rfl 1 (by decide) (hq _ q_50) (fun _ h9 => h9) rfl (by decide +kernel) rfl rfl (Nat.le_of_ble_eq_true rfl) dX5_copyFrom_13 (fun H locs hP hD hS => ?_)
  have hP : va_P D vwCl [(a_t, .inr (4, [.int o_width, .int o_length, .int t_result, .int t_taskKind, .int t_taskDivisor, .ref a_t_operations, .ref a_t_firsts, .ref a_t_seconds])), (a_t_operations, .inl (ca 0, 40, .inl f_t_operations)), (a_t_firsts, .inl (ca 0, 40, .inl f_t_firsts)), (a_t_seconds, .inl (ca 0, 40, .inl f_t_seconds)), (a_o, .inr (4, [.int o_width, .int o_length, .int o_result, .int o_taskKind, .int o_taskDivisor, .ref a_o_operations, .ref a_o_firsts, .ref a_o_seconds])), (a_o_operations, .inl (ca 0, 40, .inl f_o_operations)), (a_o_firsts, .inl (ca 0, 40, .inl f_o_firsts)), (a_o_seconds, .inl (ca 0, 40, .inl f_o_seconds))] H := hP
  have hD : va_D A [(a_t, .inr (4, [.int o_width, .int o_length, .int t_result, .int t_taskKind, .int t_taskDivisor, .ref a_t_operations, .ref a_t_firsts, .ref a_t_seconds])), (a_t_operations, .inl (ca 0, 40, .inl f_t_operations)), (a_t_firsts, .inl (ca 0, 40, .inl f_t_firsts)), (a_t_seconds, .inl (ca 0, 40, .inl f_t_seconds)), (a_o, .inr (4, [.int o_width, .int o_length, .int o_result, .int o_taskKind, .int o_taskDivisor, .ref a_o_operations, .ref a_o_firsts, .ref a_o_seconds])), (a_o_operations, .inl (ca 0, 40, .inl f_o_operations)), (a_o_firsts, .inl (ca 0, 40, .inl f_o_firsts)), (a_o_seconds, .inl (ca 0, 40, .inl f_o_seconds))] := hD
  refine lv_aload_n hx hb dX5_copyFrom_16 rfl (lv_at hl 0 rfl) ?_
  refine lv_aload_n hx hb dX5_copyFrom_17 rfl (lv_at hl 1 rfl) ?_
  refine va_get (D := D) (ci := 4) (v := .int o_result) (C := RX5) (T := TX5) (N := 8) hx hb hq inX5g hown hK hP 4 rfl rfl 2 (by decide) (hq _ q_54) (fun _ h9 => h9) rfl dX5_copyFrom_18 ?_
  refine va_put (D := D) (ci := 4) (v := .int o_result) (ty := .int) (C := RX5) (T := TX5) (N := 8) hx hb hq inX5g tyX5 tyX5_ok nmX5 hown hK hP hD hS 0 rfl rfl 2 (by decide) (hq _ q_54) (fun _ h9 => h9) rfl (by decide +kernel) rfl rfl (Nat.le_of_ble_eq_true rfl) dX5_copyFrom_21 (fun H locs hP hD hS => ?_)
  have hP : va_P D vwCl [(a_t, .inr (4, [.int o_width, .int o_length, .int o_result, .int t_taskKind, .int t_taskDivisor, .ref a_t_operations, .ref a_t_firsts, .ref a_t_seconds])), (a_t_operations, .inl (ca 0, 40, .inl f_t_operations)), (a_t_firsts, .inl (ca 0, 40, .inl f_t_firsts)), (a_t_seconds, .inl (ca 0, 40, .inl f_t_seconds)), (a_o, .inr (4, [.int o_width, .int o_length, .int o_result, .int o_taskKind, .int o_taskDivisor, .ref a_o_operations, .ref a_o_firsts, .ref a_o_seconds])), (a_o_operations, .inl (ca 0, 40, .inl f_o_operations)), (a_o_firsts, .inl (ca 0, 40, .inl f_o_firsts)), (a_o_seconds, .inl (ca 0, 40, .inl f_o_seconds))] H := hP
  have hD : va_D A [(a_t, .inr (4, [.int o_width, .int o_length, .int o_result, .int t_taskKind, .int t_taskDivisor, .ref a_t_operations, .ref a_t_firsts, .ref a_t_seconds])), (a_t_operations, .inl (ca 0, 40, .inl f_t_operations)), (a_t_firsts, .inl (ca 0, 40, .inl f_t_firsts)), (a_t_seconds, .inl (ca 0, 40, .inl f_t_seconds)), (a_o, .inr (4, [.int o_width, .int o_length, .int o_result, .int o_taskKind, .int o_taskDivisor, .ref a_o_operations, .ref a_o_firsts, .ref a_o_seconds])), (a_o_operations, .inl (ca 0, 40, .inl f_o_operations)), (a_o_firsts, .inl (ca 0, 40, .inl f_o_firsts)), (a_o_seconds, .inl (ca 0, 40, .inl f_o_seconds))] := hD
  refine lv_aload_n hx hb dX5_copyFrom_24 rfl (lv_at hl 0 rfl) ?_
  refine lv_aload_n hx hb dX5_copyFrom_25 rfl (lv_at hl 1 rfl) ?_
  refine va_get (D := D) (ci := 4) (v := .int o_taskKind) (C := RX5) (T := TX5) (N := 8) hx hb hq inX5g hown hK hP 4 rfl rfl 3 (by decide) (hq _ q_57) (fun _ h9 => h9) rfl dX5_copyFrom_26 ?_
  refine va_put (D := D) (ci := 4) (v := .int o_taskKind) (ty := .int) (C := RX5) (T := TX5) (N := 8) hx hb hq inX5g tyX5 tyX5_ok nmX5 hown hK hP hD hS 0 rfl rfl 3 (by decide) (hq _ q_57) (fun _ h9 => h9) rfl (by decide +kernel) rfl rfl (Nat.le_of_ble_eq_true rfl) dX5_copyFrom_29 (fun H locs hP hD hS => ?_)
  have hP : va_P D vwCl [(a_t, .inr (4, [.int o_width, .int o_length, .int o_result, .int o_taskKind, .int t_taskDivisor, .ref a_t_operations, .ref a_t_firsts, .ref a_t_seconds])), (a_t_operations, .inl (ca 0, 40, .inl f_t_operations)), (a_t_firsts, .inl (ca 0, 40, .inl f_t_firsts)), (a_t_seconds, .inl (ca 0, 40, .inl f_t_seconds)), (a_o, .inr (4, [.int o_width, .int o_length, .int o_result, .int o_taskKind, .int o_taskDivisor, .ref a_o_operations, .ref a_o_firsts, .ref a_o_seconds])), (a_o_operations, .inl (ca 0, 40, .inl f_o_operations)), (a_o_firsts, .inl (ca 0, 40, .inl f_o_firsts)), (a_o_seconds, .inl (ca 0, 40, .inl f_o_seconds))] H := hP
  have hD : va_D A [(a_t, .inr (4, [.int o_width, .int o_length, .int o_result, .int o_taskKind, .int t_taskDivisor, .ref a_t_operations, .ref a_t_firsts, .ref a_t_seconds])), (a_t_operations, .inl (ca 0, 40, .inl f_t_operations)), (a_t_firsts, .inl (ca 0, 40, .inl f_t_firsts)), (a_t_seconds, .inl (ca 0, 40, .inl f_t_seconds)), (a_o, .inr (4, [.int o_width, .int o_length, .int o_result, .int o_taskKind, .int o_taskDivisor, .ref a_o_operations, .ref a_o_firsts, .ref a_o_seconds])), (a_o_operations, .inl (ca 0, 40, .inl f_o_operations)), (a_o_firsts, .inl (ca 0, 40, .inl f_o_firsts)), (a_o_seconds, .inl (ca 0, 40, .inl f_o_seconds))] := hD
  refine lv_aload_n hx hb dX5_copyFrom_32 rfl (lv_at hl 0 rfl) ?_
  refine lv_aload_n hx hb dX5_copyFrom_33 rfl (lv_at hl 1 rfl) ?_
  refine va_get (D := D) (ci := 4) (v := .int o_taskDivisor) (C := RX5) (T := TX5) (N := 8) hx hb hq inX5g hown hK hP 4 rfl rfl 4 (by decide) (hq _ q_60) (fun _ h9 => h9) rfl dX5_copyFrom_34 ?_
  refine va_put (D := D) (ci := 4) (v := .int o_taskDivisor) (ty := .int) (C := RX5) (T := TX5) (N := 8) hx hb hq inX5g tyX5 tyX5_ok nmX5 hown hK hP hD hS 0 rfl rfl 4 (by decide) (hq _ q_60) (fun _ h9 => h9) rfl (by decide +kernel) rfl rfl (Nat.le_of_ble_eq_true rfl) dX5_copyFrom_37 (fun H locs hP hD hS => ?_)
  have hP : va_P D vwCl [(a_t, .inr (4, [.int o_width, .int o_length, .int o_result, .int o_taskKind, .int o_taskDivisor, .ref a_t_operations, .ref a_t_firsts, .ref a_t_seconds])), (a_t_operations, .inl (ca 0, 40, .inl f_t_operations)), (a_t_firsts, .inl (ca 0, 40, .inl f_t_firsts)), (a_t_seconds, .inl (ca 0, 40, .inl f_t_seconds)), (a_o, .inr (4, [.int o_width, .int o_length, .int o_result, .int o_taskKind, .int o_taskDivisor, .ref a_o_operations, .ref a_o_firsts, .ref a_o_seconds])), (a_o_operations, .inl (ca 0, 40, .inl f_o_operations)), (a_o_firsts, .inl (ca 0, 40, .inl f_o_firsts)), (a_o_seconds, .inl (ca 0, 40, .inl f_o_seconds))] H := hP
  have hD : va_D A [(a_t, .inr (4, [.int o_width, .int o_length, .int o_result, .int o_taskKind, .int o_taskDivisor, .ref a_t_operations, .ref a_t_firsts, .ref a_t_seconds])), (a_t_operations, .inl (ca 0, 40, .inl f_t_operations)), (a_t_firsts, .inl (ca 0, 40, .inl f_t_firsts)), (a_t_seconds, .inl (ca 0, 40, .inl f_t_seconds)), (a_o, .inr (4, [.int o_width, .int o_length, .int o_result, .int o_taskKind, .int o_taskDivisor, .ref a_o_operations, .ref a_o_firsts, .ref a_o_seconds])), (a_o_operations, .inl (ca 0, 40, .inl f_o_operations)), (a_o_firsts, .inl (ca 0, 40, .inl f_o_firsts)), (a_o_seconds, .inl (ca 0, 40, .inl f_o_seconds))] := hD
  refine lv_aload_n hx hb dX5_copyFrom_40 rfl (lv_at hl 1 rfl) ?_
  refine va_get (D := D) (ci := 4) (v := .ref a_o_operations) (C := RX5) (T := TX5) (N := 8) hx hb hq inX5g hown hK hP 4 rfl rfl 5 (by decide) (hq _ q_61) (fun _ h9 => h9) rfl dX5_copyFrom_41 ?_
  refine lv_iconst (v := 0) hx hb dX5_copyFrom_44 (by decide) ?_
  refine lv_aload_n hx hb dX5_copyFrom_45 rfl (lv_at hl 0 rfl) ?_
  refine va_get (D := D) (ci := 4) (v := .ref a_t_operations) (C := RX5) (T := TX5) (N := 8) hx hb hq inX5g hown hK hP 0 rfl rfl 5 (by decide) (hq _ q_61) (fun _ h9 => h9) rfl dX5_copyFrom_46 ?_
  refine lv_iconst (v := 0) hx hb dX5_copyFrom_49 (by decide) ?_
  refine lv_aload_n hx hb dX5_copyFrom_50 rfl (lv_at hl 0 rfl) ?_
  refine va_get (D := D) (ci := 4) (v := .int o_length) (C := RX5) (T := TX5) (N := 8) hx hb hq inX5g hown hK hP 0 rfl rfl 1 (by decide) (hq _ q_50) (fun _ h9 => h9) rfl dX5_copyFrom_51 ?_
  obtain ⟨⟨hc1, hc2, hc3, hc4, hc5⟩, h⟩ := h
  refine va_copyi hx hb (hml.trans hl.1.symm) hown (hq _ q_207) (hq _ q_209) (hq _ q_208) (hq _ q_13) hK hP hD hS 5 1 0 0 (ty := .int) rfl rfl rfl rfl rfl hc1 hc2 hc3 hc4 hc5 (fun _ _ => rfl) (Nat.le_of_ble_eq_true rfl) (Nat.le_of_ble_eq_true rfl) dX5_copyFrom_54 (fun H locs hP hD hS => ?_)
  have hP : va_P D vwCl [(a_t, .inr (4, [.int o_width, .int o_length, .int o_result, .int o_taskKind, .int o_taskDivisor, .ref a_t_operations, .ref a_t_firsts, .ref a_t_seconds])), (a_t_operations, .inl (ca 0, 40, .inl (va_cpy f_o_operations f_t_operations (0 : Int32).toNatClampNeg (0 : Int32).toNatClampNeg o_length.toNatClampNeg))), (a_t_firsts, .inl (ca 0, 40, .inl f_t_firsts)), (a_t_seconds, .inl (ca 0, 40, .inl f_t_seconds)), (a_o, .inr (4, [.int o_width, .int o_length, .int o_result, .int o_taskKind, .int o_taskDivisor, .ref a_o_operations, .ref a_o_firsts, .ref a_o_seconds])), (a_o_operations, .inl (ca 0, 40, .inl f_o_operations)), (a_o_firsts, .inl (ca 0, 40, .inl f_o_firsts)), (a_o_seconds, .inl (ca 0, 40, .inl f_o_seconds))] H := hP
  have hD : va_D A [(a_t, .inr (4, [.int o_width, .int o_length, .int o_result, .int o_taskKind, .int o_taskDivisor, .ref a_t_operations, .ref a_t_firsts, .ref a_t_seconds])), (a_t_operations, .inl (ca 0, 40, .inl (va_cpy f_o_operations f_t_operations (0 : Int32).toNatClampNeg (0 : Int32).toNatClampNeg o_length.toNatClampNeg))), (a_t_firsts, .inl (ca 0, 40, .inl f_t_firsts)), (a_t_seconds, .inl (ca 0, 40, .inl f_t_seconds)), (a_o, .inr (4, [.int o_width, .int o_length, .int o_result, .int o_taskKind, .int o_taskDivisor, .ref a_o_operations, .ref a_o_firsts, .ref a_o_seconds])), (a_o_operations, .inl (ca 0, 40, .inl f_o_operations)), (a_o_firsts, .inl (ca 0, 40, .inl f_o_firsts)), (a_o_seconds, .inl (ca 0, 40, .inl f_o_seconds))] := hD
  refine lv_aload_n hx hb dX5_copyFrom_57 rfl (lv_at hl 1 rfl) ?_
  refine va_get (D := D) (ci := 4) (v := .ref a_o_firsts) (C := RX5) (T := TX5) (N := 8) hx hb hq inX5g hown hK hP 4 rfl rfl 6 (by decide) (hq _ q_66) (fun _ h9 => h9) rfl dX5_copyFrom_58 ?_
  refine lv_iconst (v := 0) hx hb dX5_copyFrom_61 (by decide) ?_
  refine lv_aload_n hx hb dX5_copyFrom_62 rfl (lv_at hl 0 rfl) ?_
  refine va_get (D := D) (ci := 4) (v := .ref a_t_firsts) (C := RX5) (T := TX5) (N := 8) hx hb hq inX5g hown hK hP 0 rfl rfl 6 (by decide) (hq _ q_66) (fun _ h9 => h9) rfl dX5_copyFrom_63 ?_
  refine lv_iconst (v := 0) hx hb dX5_copyFrom_66 (by decide) ?_
  refine lv_aload_n hx hb dX5_copyFrom_67 rfl (lv_at hl 0 rfl) ?_
  refine va_get (D := D) (ci := 4) (v := .int o_length) (C := RX5) (T := TX5) (N := 8) hx hb hq inX5g hown hK hP 0 rfl rfl 1 (by decide) (hq _ q_50) (fun _ h9 => h9) rfl dX5_copyFrom_68 ?_
  obtain ⟨⟨hc1, hc2, hc3, hc4, hc5⟩, h⟩ := h
  refine va_copyi hx hb (hml.trans hl.1.symm) hown (hq _ q_207) (hq _ q_209) (hq _ q_208) (hq _ q_13) hK hP hD hS 6 2 0 0 (ty := .int) rfl rfl rfl rfl rfl hc1 hc2 hc3 hc4 hc5 (fun _ _ => rfl) (Nat.le_of_ble_eq_true rfl) (Nat.le_of_ble_eq_true rfl) dX5_copyFrom_71 (fun H locs hP hD hS => ?_)
  have hP : va_P D vwCl [(a_t, .inr (4, [.int o_width, .int o_length, .int o_result, .int o_taskKind, .int o_taskDivisor, .ref a_t_operations, .ref a_t_firsts, .ref a_t_seconds])), (a_t_operations, .inl (ca 0, 40, .inl (va_cpy f_o_operations f_t_operations (0 : Int32).toNatClampNeg (0 : Int32).toNatClampNeg o_length.toNatClampNeg))), (a_t_firsts, .inl (ca 0, 40, .inl (va_cpy f_o_firsts f_t_firsts (0 : Int32).toNatClampNeg (0 : Int32).toNatClampNeg o_length.toNatClampNeg))), (a_t_seconds, .inl (ca 0, 40, .inl f_t_seconds)), (a_o, .inr (4, [.int o_width, .int o_length, .int o_result, .int o_taskKind, .int o_taskDivisor, .ref a_o_operations, .ref a_o_firsts, .ref a_o_seconds])), (a_o_operations, .inl (ca 0, 40, .inl f_o_operations)), (a_o_firsts, .inl (ca 0, 40, .inl f_o_firsts)), (a_o_seconds, .inl (ca 0, 40, .inl f_o_seconds))] H := hP
  have hD : va_D A [(a_t, .inr (4, [.int o_width, .int o_length, .int o_result, .int o_taskKind, .int o_taskDivisor, .ref a_t_operations, .ref a_t_firsts, .ref a_t_seconds])), (a_t_operations, .inl (ca 0, 40, .inl (va_cpy f_o_operations f_t_operations (0 : Int32).toNatClampNeg (0 : Int32).toNatClampNeg o_length.toNatClampNeg))), (a_t_firsts, .inl (ca 0, 40, .inl (va_cpy f_o_firsts f_t_firsts (0 : Int32).toNatClampNeg (0 : Int32).toNatClampNeg o_length.toNatClampNeg))), (a_t_seconds, .inl (ca 0, 40, .inl f_t_seconds)), (a_o, .inr (4, [.int o_width, .int o_length, .int o_result, .int o_taskKind, .int o_taskDivisor, .ref a_o_operations, .ref a_o_firsts, .ref a_o_seconds])), (a_o_operations, .inl (ca 0, 40, .inl f_o_operations)), (a_o_firsts, .inl (ca 0, 40, .inl f_o_firsts)), (a_o_seconds, .inl (ca 0, 40, .inl f_o_seconds))] := hD
  refine lv_aload_n hx hb dX5_copyFrom_74 rfl (lv_at hl 1 rfl) ?_
  refine va_get (D := D) (ci := 4) (v := .ref a_o_seconds) (C := RX5) (T := TX5) (N := 8) hx hb hq inX5g hown hK hP 4 rfl rfl 7 (by decide) (hq _ q_71) (fun _ h9 => h9) rfl dX5_copyFrom_75 ?_
  refine lv_iconst (v := 0) hx hb dX5_copyFrom_78 (by decide) ?_
  refine lv_aload_n hx hb dX5_copyFrom_79 rfl (lv_at hl 0 rfl) ?_
  refine va_get (D := D) (ci := 4) (v := .ref a_t_seconds) (C := RX5) (T := TX5) (N := 8) hx hb hq inX5g hown hK hP 0 rfl rfl 7 (by decide) (hq _ q_71) (fun _ h9 => h9) rfl dX5_copyFrom_80 ?_
  refine lv_iconst (v := 0) hx hb dX5_copyFrom_83 (by decide) ?_
  refine lv_aload_n hx hb dX5_copyFrom_84 rfl (lv_at hl 0 rfl) ?_
  refine va_get (D := D) (ci := 4) (v := .int o_length) (C := RX5) (T := TX5) (N := 8) hx hb hq inX5g hown hK hP 0 rfl rfl 1 (by decide) (hq _ q_50) (fun _ h9 => h9) rfl dX5_copyFrom_85 ?_
  obtain ⟨⟨hc1, hc2, hc3, hc4, hc5⟩, h⟩ := h
  refine va_copyi hx hb (hml.trans hl.1.symm) hown (hq _ q_207) (hq _ q_209) (hq _ q_208) (hq _ q_13) hK hP hD hS 7 3 0 0 (ty := .int) rfl rfl rfl rfl rfl hc1 hc2 hc3 hc4 hc5 (fun _ _ => rfl) (Nat.le_of_ble_eq_true rfl) (Nat.le_of_ble_eq_true rfl) dX5_copyFrom_88 (fun H locs hP hD hS => ?_)
  have hP : va_P D vwCl [(a_t, .inr (4, [.int o_width, .int o_length, .int o_result, .int o_taskKind, .int o_taskDivisor, .ref a_t_operations, .ref a_t_firsts, .ref a_t_seconds])), (a_t_operations, .inl (ca 0, 40, .inl (va_cpy f_o_operations f_t_operations (0 : Int32).toNatClampNeg (0 : Int32).toNatClampNeg o_length.toNatClampNeg))), (a_t_firsts, .inl (ca 0, 40, .inl (va_cpy f_o_firsts f_t_firsts (0 : Int32).toNatClampNeg (0 : Int32).toNatClampNeg o_length.toNatClampNeg))), (a_t_seconds, .inl (ca 0, 40, .inl (va_cpy f_o_seconds f_t_seconds (0 : Int32).toNatClampNeg (0 : Int32).toNatClampNeg o_length.toNatClampNeg))), (a_o, .inr (4, [.int o_width, .int o_length, .int o_result, .int o_taskKind, .int o_taskDivisor, .ref a_o_operations, .ref a_o_firsts, .ref a_o_seconds])), (a_o_operations, .inl (ca 0, 40, .inl f_o_operations)), (a_o_firsts, .inl (ca 0, 40, .inl f_o_firsts)), (a_o_seconds, .inl (ca 0, 40, .inl f_o_seconds))] H := hP
  have hD : va_D A [(a_t, .inr (4, [.int o_width, .int o_length, .int o_result, .int o_taskKind, .int o_taskDivisor, .ref a_t_operations, .ref a_t_firsts, .ref a_t_seconds])), (a_t_operations, .inl (ca 0, 40, .inl (va_cpy f_o_operations f_t_operations (0 : Int32).toNatClampNeg (0 : Int32).toNatClampNeg o_length.toNatClampNeg))), (a_t_firsts, .inl (ca 0, 40, .inl (va_cpy f_o_firsts f_t_firsts (0 : Int32).toNatClampNeg (0 : Int32).toNatClampNeg o_length.toNatClampNeg))), (a_t_seconds, .inl (ca 0, 40, .inl (va_cpy f_o_seconds f_t_seconds (0 : Int32).toNatClampNeg (0 : Int32).toNatClampNeg o_length.toNatClampNeg))), (a_o, .inr (4, [.int o_width, .int o_length, .int o_result, .int o_taskKind, .int o_taskDivisor, .ref a_o_operations, .ref a_o_firsts, .ref a_o_seconds])), (a_o_operations, .inl (ca 0, 40, .inl f_o_operations)), (a_o_firsts, .inl (ca 0, 40, .inl f_o_firsts)), (a_o_seconds, .inl (ca 0, 40, .inl f_o_seconds))] := hD
  exact W.vret hx hb hr (fun t ht hW => ⟨⟨(o_width, o_length, o_result, o_taskKind, o_taskDivisor, va_cpy f_o_operations f_t_operations (0 : Int32).toNatClampNeg (0 : Int32).toNatClampNeg o_length.toNatClampNeg, va_cpy f_o_firsts f_t_firsts (0 : Int32).toNatClampNeg (0 : Int32).toNatClampNeg o_length.toNatClampNeg, va_cpy f_o_seconds f_t_seconds (0 : Int32).toNatClampNeg (0 : Int32).toNatClampNeg o_length.toNatClampNeg), rfl, h, by rw [ht]; exact hP, va_K.moved hW.alike hK, hD⟩, hS.F ht⟩) hS.2.2 dX5_copyFrom_91

def wX6_bitsOf_40 (x3 : Int32) (Q : Int64 → Prop) (x4_9 : UInt64) (x6_9 : Int32) : Prop :=
  (∀ x7_43 : Int64, x7_43 = (1 : Int64) <<< (x3.toInt64 &&& 63) → (vf_n64 (FP.dmul x4_9 (FP.l2d x7_43)) ∧ Q (((x6_9.toInt64 <<< (x3.toInt64 &&& 63)) + (FP.d2l (FP.dmul x4_9 (FP.l2d x7_43)))) - x7_43)))
def wX6_bitsOf_9 (x3 : Int32) (Q : Int64 → Prop) : Nat → UInt64 → Int32 → Int32 → Prop
  | 0, _, _, _ => False
  | n9 + 1, x4_9, x6_9, x7_9 =>
  ((17 ≤ x7_9 → wX6_bitsOf_40 x3 Q x4_9 x6_9) ∧ (¬ 17 ≤ x7_9 → ((0 ≤ (Op.cmpValue (FP.dcmp x4_9 FP.dconst1) CmpOp.g) → wX6_bitsOf_40 x3 Q x4_9 x6_9) ∧ (¬ 0 ≤ (Op.cmpValue (FP.dcmp x4_9 FP.dconst1) CmpOp.g) → (vf_n64 (FP.dmul x4_9 4611686018427387904) ∧ (∀ x4_29 : UInt64, x4_29 = FP.dmul x4_9 4611686018427387904 → (∀ x6_31 : Int32, x6_31 = x6_9 + (-1) → (∀ x7_34 : Int32, x7_34 = x7_9 + 1 → (wX6_bitsOf_9 x3 Q n9) x4_29 x6_31 x7_34))))))))
def wX6_bitsOf (x0 : UInt64) (x2 : Int32) (x3 : Int32) (Q : Int64 → Prop) : Prop :=
  (∃ k9, wX6_bitsOf_9 x3 Q k9 x0 x2 0)
set_option maxHeartbeats 4000000 in
set_option maxRecDepth 100000 in
theorem mX6_bitsOf (l : Launch) (x0 : UInt64) (x2 : Int32) (x3 : Int32) (Q : Int64 → Prop) (h : wX6_bitsOf x0 x2 x3 Q) : Met l yX6_bitsOf (Cond.code yX6_bitsOf cX6_bitsOf 9 (some .long) :: wsG) ({ frames := 0, cells := 0, slots := 0, locals := 0 } : Room) (va_Pc [.double x0, .int x2, .int x3] (fun _ => True)) (va_Ql (fun (r : Int64) (_ : Unit) => Q r) (fun _ _ => True) (fun _ => False)) 0 0 (fun _ => False) := by
  refine Met.ofW (cc := cX6_bitsOf) (maxL := 9) (ret := (some .long)) (by decide) rfl ?_
  intro p e s m args below meth c s₁ B hml hv
  obtain ⟨rfl, -⟩ := hv
  have hx := B.exec
  have hb := B.bytes
  have hr := B.returns
  have hts := atoms_spec (ws := (Cond.code yX6_bitsOf cX6_bitsOf 9 (some .long) :: wsG)) B.pre
  have hq : ∀ w ∈ wsG, w.before _ s = true := fun w hw => hts w (List.mem_cons_of_mem _ hw)
  have hown : s.vm.findClass RX6 = some m.cls := findClass_of_methodNamed B.named
  have hlocks := B.notSynchronized
  have hS : va_S (fun _ : Nat => False) s.heap s.heap [] := va_S.rf
  have hl := lv_entry ([.double x0, .int x2, .int x3]) (n := 9) (Nat.le_of_ble_eq_true rfl)
  rw [lg_entry_eq]
  generalize (lg_sl ([.double x0, .int x2, .int x3]) ++ List.replicate (9 - (lg_sl ([.double x0, .int x2, .int x3])).length) Slot.unset).toArray = ls at hl ⊢
  have hl : lv_has ls 9 [(0, .double x0), (2, .int x2), (3, .int x3)] := hl
  unfold wX6_bitsOf at h
  refine lv_dload_n hx hb dX6_bitsOf_0 rfl (lv_at hl 0 rfl) ?_
  refine lv_dstore (lv' := [(4, .double x0), (0, .double x0), (2, .int x2), (3, .int x3)]) hx hb dX6_bitsOf_1 hl (by decide) rfl (fun ls hl => ?_)
  refine lv_iload_n hx hb dX6_bitsOf_3 rfl (lv_at hl 2 rfl) ?_
  refine lv_istore (lv' := [(6, .int x2), (4, .double x0), (0, .double x0), (2, .int x2), (3, .int x3)]) hx hb dX6_bitsOf_4 hl (by decide) rfl (fun ls hl => ?_)
  refine lv_iconst (v := 0) hx hb dX6_bitsOf_6 (by decide) ?_
  refine lv_istore (lv' := [(7, .int 0), (6, .int x2), (4, .double x0), (0, .double x0), (2, .int x2), (3, .int x3)]) hx hb dX6_bitsOf_7 hl (by decide) rfl (fun ls hl => ?_)
  have hL9 : ∀ (n9_9 : Nat) (x4_9 : UInt64) (x6_9 : Int32) (x7_9 : Int32) (H : Heap) (locs : List Loc) (ls : Array Slot), va_S (fun _ => False) s.heap H locs → lv_has ls 9 [(3, .int x3), (4, .double x4_9), (6, .int x6_9), (7, .int x7_9)] → wX6_bitsOf_9 x3 Q n9_9 x4_9 x6_9 x7_9 → W p l e (headSpec (Cond.code yX6_bitsOf cX6_bitsOf 9 (some .long) :: wsG) ({ frames := 0, cells := 0, slots := 0, locals := 0 } : Room)).room s m ([.double x0, .int x2, .int x3] : List Value).toArray below meth c H locs 0 0 (MQ below (va_Ql (fun (r : Int64) (_ : Unit) => Q r) (fun _ _ => True) (fun _ => False)) ([.double x0, .int x2, .int x3] : List Value).toArray s 0 0 (fun _ => False)) (F0 m 9 ls []) := by
    intro n9_9
    induction n9_9 with
    | zero =>
      intro x4_9 x6_9 x7_9 H locs ls hS hl h
      exact False.elim h
    | succ n9_9 ih9 =>
      intro x4_9 x6_9 x7_9 H locs ls hS hl h
      unfold wX6_bitsOf_9 at h
      refine lv_iload hx hb dX6_bitsOf_9 (lv_at hl 3 rfl) ?_
      refine lv_bipush (v := 17) hx hb dX6_bitsOf_11 (by decide) ?_
      have hJ40 : ∀ (H : Heap) (locs : List Loc) (ls : Array Slot), va_S (fun _ => False) s.heap H locs → lv_has ls 9 [(3, .int x3), (4, .double x4_9), (6, .int x6_9)] → wX6_bitsOf_40 x3 Q x4_9 x6_9 → W p l e (headSpec (Cond.code yX6_bitsOf cX6_bitsOf 9 (some .long) :: wsG) ({ frames := 0, cells := 0, slots := 0, locals := 0 } : Room)).room s m ([.double x0, .int x2, .int x3] : List Value).toArray below meth c H locs 0 0 (MQ below (va_Ql (fun (r : Int64) (_ : Unit) => Q r) (fun _ _ => True) (fun _ => False)) ([.double x0, .int x2, .int x3] : List Value).toArray s 0 0 (fun _ => False)) (F0 m 40 ls []) := by
        intro  H locs ls hS hl h
        unfold wX6_bitsOf_40 at h
        refine lv_lconst (v := 1) hx hb dX6_bitsOf_40 (by decide) ?_
        refine lv_iload_n hx hb dX6_bitsOf_41 rfl (lv_at hl 0 rfl) ?_
        refine lv_lshl hx hb dX6_bitsOf_42 rfl ?_
        refine lv_topl (fun x7_43 ex7_43 => ?_)
        have h := h x7_43 ex7_43
        refine lv_lstore (lv' := [(7, .long x7_43), (3, .int x3), (4, .double x4_9), (6, .int x6_9)]) hx hb dX6_bitsOf_43 hl (by decide) rfl (fun ls hl => ?_)
        refine lv_iload hx hb dX6_bitsOf_45 (lv_at hl 3 rfl) ?_
        refine lv_i2l hx hb dX6_bitsOf_47 rfl ?_
        refine lv_iload_n hx hb dX6_bitsOf_48 rfl (lv_at hl 1 rfl) ?_
        refine lv_lshl hx hb dX6_bitsOf_49 rfl ?_
        refine lv_dload hx hb dX6_bitsOf_50 (lv_at hl 2 rfl) ?_
        refine lv_lload hx hb dX6_bitsOf_52 (lv_at hl 0 rfl) ?_
        refine lv_l2d hx hb dX6_bitsOf_54 ?_
        obtain ⟨hne9, h⟩ := h
        refine lv_dmul hx hb dX6_bitsOf_55 hne9 ?_
        refine lv_d2l hx hb dX6_bitsOf_56 ?_
        refine lv_ladd hx hb dX6_bitsOf_57 ?_
        refine lv_lload hx hb dX6_bitsOf_58 (lv_at hl 0 rfl) ?_
        refine lv_lsub hx hb dX6_bitsOf_60 ?_
        exact W.lret (v := ((x6_9.toInt64 <<< (x3.toInt64 &&& 63)) + (FP.d2l (FP.dmul x4_9 (FP.l2d x7_43)))) - x7_43) hx hb hr (fun t ht hW => ⟨⟨((x6_9.toInt64 <<< (x3.toInt64 &&& 63)) + (FP.d2l (FP.dmul x4_9 (FP.l2d x7_43)))) - x7_43, (), rfl, h, trivial⟩, hS.F ht⟩) hS.2.2 dX6_bitsOf_61
      refine lv_icmp_ge (tgt := 40) hx hb dX6_bitsOf_13 (by decide) (fun c9 => ?_) (fun c9 => ?_)
      · have h := h.1 c9
        exact hJ40 _ _ _ hS (lv_sub hl [0, 1, 2] rfl) h
      · have h := h.2 c9
        refine lv_dload hx hb dX6_bitsOf_16 (lv_at hl 1 rfl) ?_
        refine lv_dconst1 hx hb dX6_bitsOf_18 ?_
        refine lv_dcmp hx hb dX6_bitsOf_19 ?_
        refine lv_if_ge (tgt := 40) hx hb dX6_bitsOf_20 (by decide) (fun c9 => ?_) (fun c9 => ?_)
        · have h := h.1 c9
          exact hJ40 _ _ _ hS (lv_sub hl [0, 1, 2] rfl) h
        · have h := h.2 c9
          refine lv_dload hx hb dX6_bitsOf_23 (lv_at hl 1 rfl) ?_
          refine lv_ldc2d (v := 4611686018427387904) hx hb hown (hq _ q_838) dX6_bitsOf_25 ?_
          obtain ⟨hne9, h⟩ := h
          refine lv_dmul hx hb dX6_bitsOf_28 hne9 ?_
          refine lv_topd (fun x4_29 ex4_29 => ?_)
          have h := h x4_29 ex4_29
          refine lv_dstore (lv' := [(4, .double x4_29), (3, .int x3), (6, .int x6_9), (7, .int x7_9)]) hx hb dX6_bitsOf_29 hl (by decide) rfl (fun ls hl => ?_)
          obtain ⟨x6_31, ex6_31⟩ : ∃ y : Int32, y = x6_9 + (-1) := ⟨_, rfl⟩
          have h := h x6_31 ex6_31
          refine lv_iinc (v := x6_31) (lv' := [(6, .int x6_31), (4, .double x4_29), (3, .int x3), (7, .int x7_9)]) hx hb dX6_bitsOf_31 hl (k := 2) rfl (by rw [ex6_31]; rfl) (by decide) rfl (fun ls hl => ?_)
          obtain ⟨x7_34, ex7_34⟩ : ∃ y : Int32, y = x7_9 + 1 := ⟨_, rfl⟩
          have h := h x7_34 ex7_34
          refine lv_iinc (v := x7_34) (lv' := [(7, .int x7_34), (6, .int x6_31), (4, .double x4_29), (3, .int x3)]) hx hb dX6_bitsOf_34 hl (k := 3) rfl (by rw [ex7_34]; rfl) (by decide) rfl (fun ls hl => ?_)
          refine lv_goto (tgt := 9) hx hb dX6_bitsOf_37 (by decide) ?_
          exact ih9 x4_29 x6_31 x7_34 _ _ _ hS (lv_sub hl [3, 2, 1, 0] rfl) h
  obtain ⟨k9, h⟩ := h
  exact hL9 k9 x0 x2 0 _ _ _ hS (lv_sub hl [5, 2, 1, 0] rfl) h

def wX6_firstFloatMiss_2 (x0 : UInt32) (x1 : Int32) (x2 : Int32) (Q : Int32 → Prop) : Nat → Int32 → Prop
  | 0, _ => False
  | n9 + 1, x3_2 =>
  ((x2 < x3_2 → Q ((-1))) ∧ (¬ x2 < x3_2 → (∀ x4_10 : Int32, x4_10 = x3_2 * x1 → ((x4_10 ≤ x2 → (vf_n32 (FP.fmul (FP.i2f x4_10) x0) ∧ (((FP.f2i (FP.fmul (FP.i2f x4_10) x0)) = x3_2 → (∀ x3_34 : Int32, x3_34 = x3_2 + 1 → (wX6_firstFloatMiss_2 x0 x1 x2 Q n9) x3_34)) ∧ (¬ (FP.f2i (FP.fmul (FP.i2f x4_10) x0)) = x3_2 → Q x4_10)))) ∧ (¬ x4_10 ≤ x2 → Q ((-1)))))))
def wX6_firstFloatMiss (x0 : UInt32) (x1 : Int32) (x2 : Int32) (Q : Int32 → Prop) : Prop :=
  (∃ k9, wX6_firstFloatMiss_2 x0 x1 x2 Q k9 0)
set_option maxHeartbeats 4000000 in
set_option maxRecDepth 100000 in
theorem mX6_firstFloatMiss (l : Launch) (x0 : UInt32) (x1 : Int32) (x2 : Int32) (Q : Int32 → Prop) (h : wX6_firstFloatMiss x0 x1 x2 Q) : Met l yX6_firstFloatMiss (Cond.code yX6_firstFloatMiss cX6_firstFloatMiss 5 (some .int) :: wsG) ({ frames := 0, cells := 0, slots := 0, locals := 0 } : Room) (va_Pc [.float x0, .int x1, .int x2] (fun _ => True)) (va_Qi (fun (r : Int32) (_ : Unit) => Q r) (fun _ _ => True) (fun _ => False)) 0 0 (fun _ => False) := by
  refine Met.ofW (cc := cX6_firstFloatMiss) (maxL := 5) (ret := (some .int)) (by decide) rfl ?_
  intro p e s m args below meth c s₁ B hml hv
  obtain ⟨rfl, -⟩ := hv
  have hx := B.exec
  have hb := B.bytes
  have hr := B.returns
  have hts := atoms_spec (ws := (Cond.code yX6_firstFloatMiss cX6_firstFloatMiss 5 (some .int) :: wsG)) B.pre
  have hq : ∀ w ∈ wsG, w.before _ s = true := fun w hw => hts w (List.mem_cons_of_mem _ hw)
  have hown : s.vm.findClass RX6 = some m.cls := findClass_of_methodNamed B.named
  have hlocks := B.notSynchronized
  have hS : va_S (fun _ : Nat => False) s.heap s.heap [] := va_S.rf
  have hl := lv_entry ([.float x0, .int x1, .int x2]) (n := 5) (Nat.le_of_ble_eq_true rfl)
  rw [lg_entry_eq]
  generalize (lg_sl ([.float x0, .int x1, .int x2]) ++ List.replicate (5 - (lg_sl ([.float x0, .int x1, .int x2])).length) Slot.unset).toArray = ls at hl ⊢
  have hl : lv_has ls 5 [(0, .float x0), (1, .int x1), (2, .int x2)] := hl
  unfold wX6_firstFloatMiss at h
  refine lv_iconst (v := 0) hx hb dX6_firstFloatMiss_0 (by decide) ?_
  refine lv_istore_n (lv' := [(3, .int 0), (0, .float x0), (1, .int x1), (2, .int x2)]) hx hb dX6_firstFloatMiss_1 rfl hl (by decide) rfl (fun ls hl => ?_)
  have hL2 : ∀ (n9_2 : Nat) (x3_2 : Int32) (H : Heap) (locs : List Loc) (ls : Array Slot), va_S (fun _ => False) s.heap H locs → lv_has ls 5 [(0, .float x0), (1, .int x1), (2, .int x2), (3, .int x3_2)] → wX6_firstFloatMiss_2 x0 x1 x2 Q n9_2 x3_2 → W p l e (headSpec (Cond.code yX6_firstFloatMiss cX6_firstFloatMiss 5 (some .int) :: wsG) ({ frames := 0, cells := 0, slots := 0, locals := 0 } : Room)).room s m ([.float x0, .int x1, .int x2] : List Value).toArray below meth c H locs 0 0 (MQ below (va_Qi (fun (r : Int32) (_ : Unit) => Q r) (fun _ _ => True) (fun _ => False)) ([.float x0, .int x1, .int x2] : List Value).toArray s 0 0 (fun _ => False)) (F0 m 2 ls []) := by
    intro n9_2
    induction n9_2 with
    | zero =>
      intro x3_2 H locs ls hS hl h
      exact False.elim h
    | succ n9_2 ih2 =>
      intro x3_2 H locs ls hS hl h
      unfold wX6_firstFloatMiss_2 at h
      refine lv_iload_n hx hb dX6_firstFloatMiss_2 rfl (lv_at hl 3 rfl) ?_
      refine lv_iload_n hx hb dX6_firstFloatMiss_3 rfl (lv_at hl 2 rfl) ?_
      refine lv_icmp_gt (tgt := 40) hx hb dX6_firstFloatMiss_4 (by decide) (fun c9 => ?_) (fun c9 => ?_)
      · have h := h.1 c9
        refine lv_iconst (v := (-1)) hx hb dX6_firstFloatMiss_40 (by decide) ?_
        exact W.iret (v := (-1)) hx hb hr (fun t ht hW => ⟨⟨(-1), (), rfl, h, trivial⟩, hS.F ht⟩) hS.2.2 dX6_firstFloatMiss_41
      · have h := h.2 c9
        refine lv_iload_n hx hb dX6_firstFloatMiss_7 rfl (lv_at hl 3 rfl) ?_
        refine lv_iload_n hx hb dX6_firstFloatMiss_8 rfl (lv_at hl 1 rfl) ?_
        refine lv_imul hx hb dX6_firstFloatMiss_9 ?_
        refine lv_topi (fun x4_10 ex4_10 => ?_)
        have h := h x4_10 ex4_10
        refine lv_istore (lv' := [(4, .int x4_10), (0, .float x0), (1, .int x1), (2, .int x2), (3, .int x3_2)]) hx hb dX6_firstFloatMiss_10 hl (by decide) rfl (fun ls hl => ?_)
        refine lv_iload hx hb dX6_firstFloatMiss_12 (lv_at hl 0 rfl) ?_
        refine lv_iload_n hx hb dX6_firstFloatMiss_14 rfl (lv_at hl 3 rfl) ?_
        refine lv_icmp_le (tgt := 21) hx hb dX6_firstFloatMiss_15 (by decide) (fun c9 => ?_) (fun c9 => ?_)
        · have h := h.1 c9
          refine lv_iload hx hb dX6_firstFloatMiss_21 (lv_at hl 0 rfl) ?_
          refine lv_i2f hx hb dX6_firstFloatMiss_23 ?_
          refine lv_fload_n hx hb dX6_firstFloatMiss_24 rfl (lv_at hl 1 rfl) ?_
          obtain ⟨hne9, h⟩ := h
          refine lv_fmul hx hb dX6_firstFloatMiss_25 hne9 ?_
          refine lv_f2i hx hb dX6_firstFloatMiss_26 ?_
          refine lv_iload_n hx hb dX6_firstFloatMiss_27 rfl (lv_at hl 4 rfl) ?_
          refine lv_icmp_eq (tgt := 34) hx hb dX6_firstFloatMiss_28 (by decide) (fun c9 => ?_) (fun c9 => ?_)
          · have h := h.1 c9
            obtain ⟨x3_34, ex3_34⟩ : ∃ y : Int32, y = x3_2 + 1 := ⟨_, rfl⟩
            have h := h x3_34 ex3_34
            refine lv_iinc (v := x3_34) (lv' := [(3, .int x3_34), (4, .int x4_10), (0, .float x0), (1, .int x1), (2, .int x2)]) hx hb dX6_firstFloatMiss_34 hl (k := 4) rfl (by rw [ex3_34]; rfl) (by decide) rfl (fun ls hl => ?_)
            refine lv_goto (tgt := 2) hx hb dX6_firstFloatMiss_37 (by decide) ?_
            exact ih2 x3_34 _ _ _ hS (lv_sub hl [2, 3, 4, 0] rfl) h
          · have h := h.2 c9
            refine lv_iload hx hb dX6_firstFloatMiss_31 (lv_at hl 0 rfl) ?_
            exact W.iret (v := x4_10) hx hb hr (fun t ht hW => ⟨⟨x4_10, (), rfl, h, trivial⟩, hS.F ht⟩) hS.2.2 dX6_firstFloatMiss_33
        · have h := h.2 c9
          refine lv_goto (tgt := 40) hx hb dX6_firstFloatMiss_18 (by decide) ?_
          refine lv_iconst (v := (-1)) hx hb dX6_firstFloatMiss_40 (by decide) ?_
          exact W.iret (v := (-1)) hx hb hr (fun t ht hW => ⟨⟨(-1), (), rfl, h, trivial⟩, hS.F ht⟩) hS.2.2 dX6_firstFloatMiss_41
  obtain ⟨k9, h⟩ := h
  exact hL2 k9 0 _ _ _ hS (lv_sub hl [1, 2, 3, 0] rfl) h

def wX6_firstDoubleMiss_3 (x0 : UInt64) (x2 : Int32) (x3 : Int32) (Q : Int32 → Prop) : Nat → Int32 → Prop
  | 0, _ => False
  | n9 + 1, x4_3 =>
  ((x3 < x4_3 → Q ((-1))) ∧ (¬ x3 < x4_3 → (∀ x5_13 : Int32, x5_13 = x4_3 * x2 → ((x5_13 ≤ x3 → (vf_n64 (FP.dmul (FP.i2d x5_13) x0) ∧ (((FP.d2i (FP.dmul (FP.i2d x5_13) x0)) = x4_3 → (∀ x4_38 : Int32, x4_38 = x4_3 + 1 → (wX6_firstDoubleMiss_3 x0 x2 x3 Q n9) x4_38)) ∧ (¬ (FP.d2i (FP.dmul (FP.i2d x5_13) x0)) = x4_3 → Q x5_13)))) ∧ (¬ x5_13 ≤ x3 → Q ((-1)))))))
def wX6_firstDoubleMiss (x0 : UInt64) (x2 : Int32) (x3 : Int32) (Q : Int32 → Prop) : Prop :=
  (∃ k9, wX6_firstDoubleMiss_3 x0 x2 x3 Q k9 0)
set_option maxHeartbeats 4000000 in
set_option maxRecDepth 100000 in
theorem mX6_firstDoubleMiss (l : Launch) (x0 : UInt64) (x2 : Int32) (x3 : Int32) (Q : Int32 → Prop) (h : wX6_firstDoubleMiss x0 x2 x3 Q) : Met l yX6_firstDoubleMiss (Cond.code yX6_firstDoubleMiss cX6_firstDoubleMiss 6 (some .int) :: wsG) ({ frames := 0, cells := 0, slots := 0, locals := 0 } : Room) (va_Pc [.double x0, .int x2, .int x3] (fun _ => True)) (va_Qi (fun (r : Int32) (_ : Unit) => Q r) (fun _ _ => True) (fun _ => False)) 0 0 (fun _ => False) := by
  refine Met.ofW (cc := cX6_firstDoubleMiss) (maxL := 6) (ret := (some .int)) (by decide) rfl ?_
  intro p e s m args below meth c s₁ B hml hv
  obtain ⟨rfl, -⟩ := hv
  have hx := B.exec
  have hb := B.bytes
  have hr := B.returns
  have hts := atoms_spec (ws := (Cond.code yX6_firstDoubleMiss cX6_firstDoubleMiss 6 (some .int) :: wsG)) B.pre
  have hq : ∀ w ∈ wsG, w.before _ s = true := fun w hw => hts w (List.mem_cons_of_mem _ hw)
  have hown : s.vm.findClass RX6 = some m.cls := findClass_of_methodNamed B.named
  have hlocks := B.notSynchronized
  have hS : va_S (fun _ : Nat => False) s.heap s.heap [] := va_S.rf
  have hl := lv_entry ([.double x0, .int x2, .int x3]) (n := 6) (Nat.le_of_ble_eq_true rfl)
  rw [lg_entry_eq]
  generalize (lg_sl ([.double x0, .int x2, .int x3]) ++ List.replicate (6 - (lg_sl ([.double x0, .int x2, .int x3])).length) Slot.unset).toArray = ls at hl ⊢
  have hl : lv_has ls 6 [(0, .double x0), (2, .int x2), (3, .int x3)] := hl
  unfold wX6_firstDoubleMiss at h
  refine lv_iconst (v := 0) hx hb dX6_firstDoubleMiss_0 (by decide) ?_
  refine lv_istore (lv' := [(4, .int 0), (0, .double x0), (2, .int x2), (3, .int x3)]) hx hb dX6_firstDoubleMiss_1 hl (by decide) rfl (fun ls hl => ?_)
  have hL3 : ∀ (n9_3 : Nat) (x4_3 : Int32) (H : Heap) (locs : List Loc) (ls : Array Slot), va_S (fun _ => False) s.heap H locs → lv_has ls 6 [(0, .double x0), (2, .int x2), (3, .int x3), (4, .int x4_3)] → wX6_firstDoubleMiss_3 x0 x2 x3 Q n9_3 x4_3 → W p l e (headSpec (Cond.code yX6_firstDoubleMiss cX6_firstDoubleMiss 6 (some .int) :: wsG) ({ frames := 0, cells := 0, slots := 0, locals := 0 } : Room)).room s m ([.double x0, .int x2, .int x3] : List Value).toArray below meth c H locs 0 0 (MQ below (va_Qi (fun (r : Int32) (_ : Unit) => Q r) (fun _ _ => True) (fun _ => False)) ([.double x0, .int x2, .int x3] : List Value).toArray s 0 0 (fun _ => False)) (F0 m 3 ls []) := by
    intro n9_3
    induction n9_3 with
    | zero =>
      intro x4_3 H locs ls hS hl h
      exact False.elim h
    | succ n9_3 ih3 =>
      intro x4_3 H locs ls hS hl h
      unfold wX6_firstDoubleMiss_3 at h
      refine lv_iload hx hb dX6_firstDoubleMiss_3 (lv_at hl 3 rfl) ?_
      refine lv_iload_n hx hb dX6_firstDoubleMiss_5 rfl (lv_at hl 2 rfl) ?_
      refine lv_icmp_gt (tgt := 44) hx hb dX6_firstDoubleMiss_6 (by decide) (fun c9 => ?_) (fun c9 => ?_)
      · have h := h.1 c9
        refine lv_iconst (v := (-1)) hx hb dX6_firstDoubleMiss_44 (by decide) ?_
        exact W.iret (v := (-1)) hx hb hr (fun t ht hW => ⟨⟨(-1), (), rfl, h, trivial⟩, hS.F ht⟩) hS.2.2 dX6_firstDoubleMiss_45
      · have h := h.2 c9
        refine lv_iload hx hb dX6_firstDoubleMiss_9 (lv_at hl 3 rfl) ?_
        refine lv_iload_n hx hb dX6_firstDoubleMiss_11 rfl (lv_at hl 1 rfl) ?_
        refine lv_imul hx hb dX6_firstDoubleMiss_12 ?_
        refine lv_topi (fun x5_13 ex5_13 => ?_)
        have h := h x5_13 ex5_13
        refine lv_istore (lv' := [(5, .int x5_13), (0, .double x0), (2, .int x2), (3, .int x3), (4, .int x4_3)]) hx hb dX6_firstDoubleMiss_13 hl (by decide) rfl (fun ls hl => ?_)
        refine lv_iload hx hb dX6_firstDoubleMiss_15 (lv_at hl 0 rfl) ?_
        refine lv_iload_n hx hb dX6_firstDoubleMiss_17 rfl (lv_at hl 3 rfl) ?_
        refine lv_icmp_le (tgt := 24) hx hb dX6_firstDoubleMiss_18 (by decide) (fun c9 => ?_) (fun c9 => ?_)
        · have h := h.1 c9
          refine lv_iload hx hb dX6_firstDoubleMiss_24 (lv_at hl 0 rfl) ?_
          refine lv_i2d hx hb dX6_firstDoubleMiss_26 ?_
          refine lv_dload_n hx hb dX6_firstDoubleMiss_27 rfl (lv_at hl 1 rfl) ?_
          obtain ⟨hne9, h⟩ := h
          refine lv_dmul hx hb dX6_firstDoubleMiss_28 hne9 ?_
          refine lv_d2i hx hb dX6_firstDoubleMiss_29 ?_
          refine lv_iload hx hb dX6_firstDoubleMiss_30 (lv_at hl 4 rfl) ?_
          refine lv_icmp_eq (tgt := 38) hx hb dX6_firstDoubleMiss_32 (by decide) (fun c9 => ?_) (fun c9 => ?_)
          · have h := h.1 c9
            obtain ⟨x4_38, ex4_38⟩ : ∃ y : Int32, y = x4_3 + 1 := ⟨_, rfl⟩
            have h := h x4_38 ex4_38
            refine lv_iinc (v := x4_38) (lv' := [(4, .int x4_38), (5, .int x5_13), (0, .double x0), (2, .int x2), (3, .int x3)]) hx hb dX6_firstDoubleMiss_38 hl (k := 4) rfl (by rw [ex4_38]; rfl) (by decide) rfl (fun ls hl => ?_)
            refine lv_goto (tgt := 3) hx hb dX6_firstDoubleMiss_41 (by decide) ?_
            exact ih3 x4_38 _ _ _ hS (lv_sub hl [2, 3, 4, 0] rfl) h
          · have h := h.2 c9
            refine lv_iload hx hb dX6_firstDoubleMiss_35 (lv_at hl 0 rfl) ?_
            exact W.iret (v := x5_13) hx hb hr (fun t ht hW => ⟨⟨x5_13, (), rfl, h, trivial⟩, hS.F ht⟩) hS.2.2 dX6_firstDoubleMiss_37
        · have h := h.2 c9
          refine lv_goto (tgt := 44) hx hb dX6_firstDoubleMiss_21 (by decide) ?_
          refine lv_iconst (v := (-1)) hx hb dX6_firstDoubleMiss_44 (by decide) ?_
          exact W.iret (v := (-1)) hx hb hr (fun t ht hW => ⟨⟨(-1), (), rfl, h, trivial⟩, hS.F ht⟩) hS.2.2 dX6_firstDoubleMiss_45
  obtain ⟨k9, h⟩ := h
  exact hL3 k9 0 _ _ _ hS (lv_sub hl [1, 2, 3, 0] rfl) h

abbrev qX7_renumbered (D : va_G) (ca : Nat → ClassId) (a_t a_t_newNumbers a_t_needed : Nat) (f_t_newNumbers : Nat → Int32) (Q : Int32 → Prop) (A : Nat → Prop) : Array Value → State → Outcome → State → Prop := va_Qi (fun (r : Int32) (_ : Unit) => Q r) (wEnd D ca (fun _ : Unit => [(a_t, .inr (5, [.ref a_t_newNumbers, .ref a_t_needed])), (a_t_newNumbers, .inl (ca 0, 41, .inl f_t_newNumbers))]) A) A
def wX7_renumbered (f_t_newNumbers : Nat → Int32) (x1 : Int32) (Q : Int32 → Prop) : Prop :=
  wX5_isValue x1 (fun r_1 => ((r_1 = 0 → Q x1) ∧ (¬ r_1 = 0 → wX5_numberOf x1 (fun r_12 => (vp_in r_12 41 ∧ wX5_operandOf (f_t_newNumbers r_12.toNatClampNeg) (fun r_16 => Q r_16))))))
set_option maxHeartbeats 4000000 in
set_option maxRecDepth 100000 in
theorem mX7_renumbered (l : Launch) (D : va_G) (ca : Nat → ClassId) (a_t a_t_newNumbers a_t_needed : Nat) (sz : Nat) (f_t_newNumbers : Nat → Int32) (x1 : Int32) (Q : Int32 → Prop) (h : wX7_renumbered f_t_newNumbers x1 Q) : Met l yX7_renumbered (Cond.code yX7_renumbered cX7_renumbered 2 (some .int) :: wsG) ({ frames := 2, cells := 0, slots := 0, locals := 40 } : Room) (va_Pc [.ref a_t, .int x1] (wPre D ca [(a_t, .inr (5, [.ref a_t_newNumbers, .ref a_t_needed])), (a_t_newNumbers, .inl (ca 0, 41, .inl f_t_newNumbers))] sz)) (qX7_renumbered D ca a_t a_t_newNumbers a_t_needed f_t_newNumbers Q (va_A [(a_t, .inr (5, [.ref a_t_newNumbers, .ref a_t_needed])), (a_t_newNumbers, .inl (ca 0, 41, .inl f_t_newNumbers))] sz)) 0 0 (va_A [(a_t, .inr (5, [.ref a_t_newNumbers, .ref a_t_needed])), (a_t_newNumbers, .inl (ca 0, 41, .inl f_t_newNumbers))] sz) := by
  refine Met.ofW (cc := cX7_renumbered) (maxL := 2) (ret := (some .int)) (by decide) rfl ?_
  intro p e s m args below meth c s₁ B hml hv
  obtain ⟨rfl, hsz, hP, hK, hD0⟩ := hv
  have hx := B.exec
  have hb := B.bytes
  have hr := B.returns
  have hts := atoms_spec (ws := (Cond.code yX7_renumbered cX7_renumbered 2 (some .int) :: wsG)) B.pre
  have hq : ∀ w ∈ wsG, w.before _ s = true := fun w hw => hts w (List.mem_cons_of_mem _ hw)
  have hown : s.vm.findClass RX7 = some m.cls := findClass_of_methodNamed B.named
  have hlocks := B.notSynchronized
  subst hsz
  have hD := hD0.self (sz := s.heap.size)
  generalize hAe : va_A [(a_t, .inr (5, [.ref a_t_newNumbers, .ref a_t_needed])), (a_t_newNumbers, .inl (ca 0, 41, .inl f_t_newNumbers))] s.heap.size = A at hD ⊢
  have hA : ∀ q : Nat, s.heap.size ≤ q → A q := fun q h => by rw [← hAe]; exact Or.inr h
  have hS : va_S A s.heap s.heap [] := va_S.rf
  have hP : va_P D vwCl [(a_t, .inr (5, [.ref a_t_newNumbers, .ref a_t_needed])), (a_t_newNumbers, .inl (ca 0, 41, .inl f_t_newNumbers))] s.heap := hP
  have hl := lv_entry ([.ref a_t, .int x1]) (n := 2) (Nat.le_of_ble_eq_true rfl)
  rw [lg_entry_eq]
  generalize (lg_sl ([.ref a_t, .int x1]) ++ List.replicate (2 - (lg_sl ([.ref a_t, .int x1])).length) Slot.unset).toArray = ls at hl ⊢
  have hl : lv_has ls 2 [(0, .ref a_t), (1, .int x1)] := hl
  unfold wX7_renumbered at h
  refine lv_iload_n hx hb dX7_renumbered_0 rfl (lv_at hl 1 rfl) ?_
  refine cPi (As := [.int x1]) (rest := []) ⟨hx, hb, hml, hown, hts⟩ (mX5_isValue l x1 _ h) (va_cwS 1 hts (gS q_221 q_222 q_3 q_223) rfl rfl rfl (by decide +kernel) ⟨Nat.le_of_ble_eq_true rfl, Nat.le_of_ble_eq_true rfl⟩) hS rfl hl.1 rfl (Nat.le_of_ble_eq_true rfl) dX7_renumbered_1 ⟨Nat.le_of_ble_eq_true rfl, Nat.le_of_ble_eq_true rfl⟩ (fun r_1 H1 locs h hk1 hS => ?_)
  have hP := s_back hP hk1
  try dsimp only at h
  refine lv_if_eq (tgt := 22) hx hb dX7_renumbered_4 (by decide) (fun c9 => ?_) (fun c9 => ?_)
  · have h := h.1 c9
    refine lv_iload_n hx hb dX7_renumbered_22 rfl (lv_at hl 1 rfl) ?_
    exact W.iret (v := x1) hx hb hr (fun t ht hW => ⟨⟨x1, (), rfl, h, by rw [ht]; exact hP, va_K.moved hW.alike hK, hD⟩, hS.F ht⟩) hS.2.2 dX7_renumbered_23
  · have h := h.2 c9
    refine lv_aload_n hx hb dX7_renumbered_7 rfl (lv_at hl 0 rfl) ?_
    refine va_get (D := D) (ci := 5) (v := .ref a_t_newNumbers) (C := RX7) (T := TX7) (N := 2) hx hb hq inX7g hown hK hP 0 rfl rfl 0 (by decide) (hq _ q_148) (fun _ h9 => h9) rfl dX7_renumbered_8 ?_
    refine lv_iload_n hx hb dX7_renumbered_11 rfl (lv_at hl 1 rfl) ?_
    refine cPi (As := [.int x1]) (rest := [.ref a_t_newNumbers]) ⟨hx, hb, hml, hown, hts⟩ (mX5_numberOf l x1 _ h) (va_cwS 1 hts (gS q_224 q_225 q_3 q_226) rfl rfl rfl (by decide +kernel) ⟨Nat.le_of_ble_eq_true rfl, Nat.le_of_ble_eq_true rfl⟩) hS rfl hl.1 rfl (Nat.le_of_ble_eq_true rfl) dX7_renumbered_12 ⟨Nat.le_of_ble_eq_true rfl, Nat.le_of_ble_eq_true rfl⟩ (fun r_12 H1 locs h hk1 hS => ?_)
    have hP := s_back hP hk1
    try dsimp only at h
    obtain ⟨hi9, h⟩ := h
    refine va_iald hx hb hK hP 1 0 rfl rfl hi9 dX7_renumbered_15 ?_
    refine cPi (As := [.int (f_t_newNumbers r_12.toNatClampNeg)]) (rest := []) ⟨hx, hb, hml, hown, hts⟩ (mX5_operandOf l (f_t_newNumbers r_12.toNatClampNeg) _ h) (va_cwS 1 hts (gS q_228 q_95 q_3 q_96) rfl rfl rfl (by decide +kernel) ⟨Nat.le_of_ble_eq_true rfl, Nat.le_of_ble_eq_true rfl⟩) hS rfl hl.1 rfl (Nat.le_of_ble_eq_true rfl) dX7_renumbered_16 ⟨Nat.le_of_ble_eq_true rfl, Nat.le_of_ble_eq_true rfl⟩ (fun r_16 H1 locs h hk1 hS => ?_)
    have hP := s_back hP hk1
    try dsimp only at h
    refine lv_goto (tgt := 23) hx hb dX7_renumbered_19 (by decide) ?_
    exact W.iret (v := r_16) hx hb hr (fun t ht hW => ⟨⟨r_16, (), rfl, h, by rw [ht]; exact hP, va_K.moved hW.alike hK, hD⟩, hS.F ht⟩) hS.2.2 dX7_renumbered_23

abbrev qX7_findAmong (D : va_G) (ca : Nat → ClassId) (a_p a_p_operations a_p_firsts a_p_seconds : Nat) (p_width : Int32) (p_length : Int32) (p_result : Int32) (p_taskKind : Int32) (p_taskDivisor : Int32) (f_p_operations : Nat → Int32) (f_p_firsts : Nat → Int32) (f_p_seconds : Nat → Int32) (Q : Int32 → Prop) (A : Nat → Prop) : Array Value → State → Outcome → State → Prop := va_Qi (fun (r : Int32) (_ : Unit) => Q r) (wEnd D ca (fun _ : Unit => [(a_p, .inr (4, [.int p_width, .int p_length, .int p_result, .int p_taskKind, .int p_taskDivisor, .ref a_p_operations, .ref a_p_firsts, .ref a_p_seconds])), (a_p_operations, .inl (ca 0, 40, .inl f_p_operations)), (a_p_firsts, .inl (ca 0, 40, .inl f_p_firsts)), (a_p_seconds, .inl (ca 0, 40, .inl f_p_seconds))]) A) A
def wX7_findAmong_46 (x5_3 : Int32) (K3 : Int32 → Prop) : Prop :=
  (∀ x5_46 : Int32, x5_46 = x5_3 + 1 → K3 x5_46)
def wX7_findAmong_3 (f_p_operations : Nat → Int32) (f_p_firsts : Nat → Int32) (f_p_seconds : Nat → Int32) (x1 : Int32) (x2 : Int32) (x3 : Int32) (x4 : Int32) (Q : Int32 → Prop) : Nat → Int32 → Prop
  | 0, _ => False
  | n9 + 1, x5_3 =>
  ((x1 ≤ x5_3 → Q x1) ∧ (¬ x1 ≤ x5_3 → (vp_in x5_3 40 ∧ (((f_p_operations x5_3.toNatClampNeg) = x2 → (vp_in x5_3 40 ∧ (((f_p_firsts x5_3.toNatClampNeg) = x3 → (vp_in x5_3 40 ∧ (((f_p_seconds x5_3.toNatClampNeg) = x4 → Q x5_3) ∧ (¬ (f_p_seconds x5_3.toNatClampNeg) = x4 → wX7_findAmong_46 x5_3 (wX7_findAmong_3 f_p_operations f_p_firsts f_p_seconds x1 x2 x3 x4 Q n9))))) ∧ (¬ (f_p_firsts x5_3.toNatClampNeg) = x3 → wX7_findAmong_46 x5_3 (wX7_findAmong_3 f_p_operations f_p_firsts f_p_seconds x1 x2 x3 x4 Q n9))))) ∧ (¬ (f_p_operations x5_3.toNatClampNeg) = x2 → wX7_findAmong_46 x5_3 (wX7_findAmong_3 f_p_operations f_p_firsts f_p_seconds x1 x2 x3 x4 Q n9))))))
def wX7_findAmong (f_p_operations : Nat → Int32) (f_p_firsts : Nat → Int32) (f_p_seconds : Nat → Int32) (x1 : Int32) (x2 : Int32) (x3 : Int32) (x4 : Int32) (Q : Int32 → Prop) : Prop :=
  (∃ k9, wX7_findAmong_3 f_p_operations f_p_firsts f_p_seconds x1 x2 x3 x4 Q k9 0)
set_option maxHeartbeats 4000000 in
set_option maxRecDepth 100000 in
theorem mX7_findAmong (l : Launch) (D : va_G) (ca : Nat → ClassId) (a_p a_p_operations a_p_firsts a_p_seconds : Nat) (sz : Nat) (p_width : Int32) (p_length : Int32) (p_result : Int32) (p_taskKind : Int32) (p_taskDivisor : Int32) (f_p_operations : Nat → Int32) (f_p_firsts : Nat → Int32) (f_p_seconds : Nat → Int32) (x1 : Int32) (x2 : Int32) (x3 : Int32) (x4 : Int32) (Q : Int32 → Prop) (h : wX7_findAmong f_p_operations f_p_firsts f_p_seconds x1 x2 x3 x4 Q) : Met l yX7_findAmong (Cond.code yX7_findAmong cX7_findAmong 6 (some .int) :: wsG) ({ frames := 0, cells := 0, slots := 0, locals := 0 } : Room) (va_Pc [.ref a_p, .int x1, .int x2, .int x3, .int x4] (wPre D ca [(a_p, .inr (4, [.int p_width, .int p_length, .int p_result, .int p_taskKind, .int p_taskDivisor, .ref a_p_operations, .ref a_p_firsts, .ref a_p_seconds])), (a_p_operations, .inl (ca 0, 40, .inl f_p_operations)), (a_p_firsts, .inl (ca 0, 40, .inl f_p_firsts)), (a_p_seconds, .inl (ca 0, 40, .inl f_p_seconds))] sz)) (qX7_findAmong D ca a_p a_p_operations a_p_firsts a_p_seconds p_width p_length p_result p_taskKind p_taskDivisor f_p_operations f_p_firsts f_p_seconds Q (va_A [(a_p, .inr (4, [.int p_width, .int p_length, .int p_result, .int p_taskKind, .int p_taskDivisor, .ref a_p_operations, .ref a_p_firsts, .ref a_p_seconds])), (a_p_operations, .inl (ca 0, 40, .inl f_p_operations)), (a_p_firsts, .inl (ca 0, 40, .inl f_p_firsts)), (a_p_seconds, .inl (ca 0, 40, .inl f_p_seconds))] sz)) 0 0 (va_A [(a_p, .inr (4, [.int p_width, .int p_length, .int p_result, .int p_taskKind, .int p_taskDivisor, .ref a_p_operations, .ref a_p_firsts, .ref a_p_seconds])), (a_p_operations, .inl (ca 0, 40, .inl f_p_operations)), (a_p_firsts, .inl (ca 0, 40, .inl f_p_firsts)), (a_p_seconds, .inl (ca 0, 40, .inl f_p_seconds))] sz) := by
  refine Met.ofW (cc := cX7_findAmong) (maxL := 6) (ret := (some .int)) (by decide) rfl ?_
  intro p e s m args below meth c s₁ B hml hv
  obtain ⟨rfl, hsz, hP, hK, hD0⟩ := hv
  have hx := B.exec
  have hb := B.bytes
  have hr := B.returns
  have hts := atoms_spec (ws := (Cond.code yX7_findAmong cX7_findAmong 6 (some .int) :: wsG)) B.pre
  have hq : ∀ w ∈ wsG, w.before _ s = true := fun w hw => hts w (List.mem_cons_of_mem _ hw)
  have hown : s.vm.findClass RX7 = some m.cls := findClass_of_methodNamed B.named
  have hlocks := B.notSynchronized
  subst hsz
  have hD := hD0.self (sz := s.heap.size)
  generalize hAe : va_A [(a_p, .inr (4, [.int p_width, .int p_length, .int p_result, .int p_taskKind, .int p_taskDivisor, .ref a_p_operations, .ref a_p_firsts, .ref a_p_seconds])), (a_p_operations, .inl (ca 0, 40, .inl f_p_operations)), (a_p_firsts, .inl (ca 0, 40, .inl f_p_firsts)), (a_p_seconds, .inl (ca 0, 40, .inl f_p_seconds))] s.heap.size = A at hD ⊢
  have hA : ∀ q : Nat, s.heap.size ≤ q → A q := fun q h => by rw [← hAe]; exact Or.inr h
  have hS : va_S A s.heap s.heap [] := va_S.rf
  have hP : va_P D vwCl [(a_p, .inr (4, [.int p_width, .int p_length, .int p_result, .int p_taskKind, .int p_taskDivisor, .ref a_p_operations, .ref a_p_firsts, .ref a_p_seconds])), (a_p_operations, .inl (ca 0, 40, .inl f_p_operations)), (a_p_firsts, .inl (ca 0, 40, .inl f_p_firsts)), (a_p_seconds, .inl (ca 0, 40, .inl f_p_seconds))] s.heap := hP
  have hl := lv_entry ([.ref a_p, .int x1, .int x2, .int x3, .int x4]) (n := 6) (Nat.le_of_ble_eq_true rfl)
  rw [lg_entry_eq]
  generalize (lg_sl ([.ref a_p, .int x1, .int x2, .int x3, .int x4]) ++ List.replicate (6 - (lg_sl ([.ref a_p, .int x1, .int x2, .int x3, .int x4])).length) Slot.unset).toArray = ls at hl ⊢
  have hl : lv_has ls 6 [(0, .ref a_p), (1, .int x1), (2, .int x2), (3, .int x3), (4, .int x4)] := hl
  unfold wX7_findAmong at h
  refine lv_iconst (v := 0) hx hb dX7_findAmong_0 (by decide) ?_
  refine lv_istore (lv' := [(5, .int 0), (0, .ref a_p), (1, .int x1), (2, .int x2), (3, .int x3), (4, .int x4)]) hx hb dX7_findAmong_1 hl (by decide) rfl (fun ls hl => ?_)
  have hL3 : ∀ (n9_3 : Nat) (x5_3 : Int32) (H : Heap) (locs : List Loc) (ls : Array Slot), va_P D vwCl [(a_p, .inr (4, [.int p_width, .int p_length, .int p_result, .int p_taskKind, .int p_taskDivisor, .ref a_p_operations, .ref a_p_firsts, .ref a_p_seconds])), (a_p_operations, .inl (ca 0, 40, .inl f_p_operations)), (a_p_firsts, .inl (ca 0, 40, .inl f_p_firsts)), (a_p_seconds, .inl (ca 0, 40, .inl f_p_seconds))] H → va_D A [(a_p, .inr (4, [.int p_width, .int p_length, .int p_result, .int p_taskKind, .int p_taskDivisor, .ref a_p_operations, .ref a_p_firsts, .ref a_p_seconds])), (a_p_operations, .inl (ca 0, 40, .inl f_p_operations)), (a_p_firsts, .inl (ca 0, 40, .inl f_p_firsts)), (a_p_seconds, .inl (ca 0, 40, .inl f_p_seconds))] → va_S A s.heap H locs → lv_has ls 6 [(0, .ref a_p), (1, .int x1), (2, .int x2), (3, .int x3), (4, .int x4), (5, .int x5_3)] → wX7_findAmong_3 f_p_operations f_p_firsts f_p_seconds x1 x2 x3 x4 Q n9_3 x5_3 → W p l e (headSpec (Cond.code yX7_findAmong cX7_findAmong 6 (some .int) :: wsG) ({ frames := 0, cells := 0, slots := 0, locals := 0 } : Room)).room s m ([.ref a_p, .int x1, .int x2, .int x3, .int x4] : List Value).toArray below meth c H locs 0 0 (MQ below (qX7_findAmong D ca a_p a_p_operations a_p_firsts a_p_seconds p_width p_length p_result p_taskKind p_taskDivisor f_p_operations f_p_firsts f_p_seconds Q A) ([.ref a_p, .int x1, .int x2, .int x3, .int x4] : List Value).toArray s 0 0 A) (F0 m 3 ls []) := by
    intro n9_3
    induction n9_3 with
    | zero =>
      intro x5_3 H locs ls hP hD hS hl h
      exact False.elim h
    | succ n9_3 ih3 =>
      intro x5_3 H locs ls hP hD hS hl h
      unfold wX7_findAmong_3 at h
      refine lv_iload hx hb dX7_findAmong_3 (lv_at hl 5 rfl) ?_
      refine lv_iload_n hx hb dX7_findAmong_5 rfl (lv_at hl 1 rfl) ?_
      refine lv_icmp_ge (tgt := 52) hx hb dX7_findAmong_6 (by decide) (fun c9 => ?_) (fun c9 => ?_)
      · have h := h.1 c9
        refine lv_iload_n hx hb dX7_findAmong_52 rfl (lv_at hl 1 rfl) ?_
        exact W.iret (v := x1) hx hb hr (fun t ht hW => ⟨⟨x1, (), rfl, h, by rw [ht]; exact hP, va_K.moved hW.alike hK, hD⟩, hS.F ht⟩) hS.2.2 dX7_findAmong_53
      · have h := h.2 c9
        refine lv_aload_n hx hb dX7_findAmong_9 rfl (lv_at hl 0 rfl) ?_
        refine va_get (D := D) (ci := 4) (v := .ref a_p_operations) (C := RX5) (T := TX5) (N := 8) hx hb hq inX5g hown hK hP 0 rfl rfl 5 (by decide) (hq _ q_62) (fun _ h9 => h9) rfl dX7_findAmong_10 ?_
        refine lv_iload hx hb dX7_findAmong_13 (lv_at hl 5 rfl) ?_
        obtain ⟨hi9, h⟩ := h
        refine va_iald hx hb hK hP 1 0 rfl rfl hi9 dX7_findAmong_15 ?_
        refine lv_iload_n hx hb dX7_findAmong_16 rfl (lv_at hl 2 rfl) ?_
        have hJ46 : ∀ (H : Heap) (locs : List Loc) (ls : Array Slot), va_P D vwCl [(a_p, .inr (4, [.int p_width, .int p_length, .int p_result, .int p_taskKind, .int p_taskDivisor, .ref a_p_operations, .ref a_p_firsts, .ref a_p_seconds])), (a_p_operations, .inl (ca 0, 40, .inl f_p_operations)), (a_p_firsts, .inl (ca 0, 40, .inl f_p_firsts)), (a_p_seconds, .inl (ca 0, 40, .inl f_p_seconds))] H → va_D A [(a_p, .inr (4, [.int p_width, .int p_length, .int p_result, .int p_taskKind, .int p_taskDivisor, .ref a_p_operations, .ref a_p_firsts, .ref a_p_seconds])), (a_p_operations, .inl (ca 0, 40, .inl f_p_operations)), (a_p_firsts, .inl (ca 0, 40, .inl f_p_firsts)), (a_p_seconds, .inl (ca 0, 40, .inl f_p_seconds))] → va_S A s.heap H locs → lv_has ls 6 [(0, .ref a_p), (1, .int x1), (2, .int x2), (3, .int x3), (4, .int x4), (5, .int x5_3)] → wX7_findAmong_46 x5_3 (wX7_findAmong_3 f_p_operations f_p_firsts f_p_seconds x1 x2 x3 x4 Q n9_3) → W p l e (headSpec (Cond.code yX7_findAmong cX7_findAmong 6 (some .int) :: wsG) ({ frames := 0, cells := 0, slots := 0, locals := 0 } : Room)).room s m ([.ref a_p, .int x1, .int x2, .int x3, .int x4] : List Value).toArray below meth c H locs 0 0 (MQ below (qX7_findAmong D ca a_p a_p_operations a_p_firsts a_p_seconds p_width p_length p_result p_taskKind p_taskDivisor f_p_operations f_p_firsts f_p_seconds Q A) ([.ref a_p, .int x1, .int x2, .int x3, .int x4] : List Value).toArray s 0 0 A) (F0 m 46 ls []) := by
          intro  H locs ls hP hD hS hl h
          unfold wX7_findAmong_46 at h
          obtain ⟨x5_46, ex5_46⟩ : ∃ y : Int32, y = x5_3 + 1 := ⟨_, rfl⟩
          have h := h x5_46 ex5_46
          refine lv_iinc (v := x5_46) (lv' := [(5, .int x5_46), (0, .ref a_p), (1, .int x1), (2, .int x2), (3, .int x3), (4, .int x4)]) hx hb dX7_findAmong_46 hl (k := 5) rfl (by rw [ex5_46]; rfl) (by decide) rfl (fun ls hl => ?_)
          refine lv_goto (tgt := 3) hx hb dX7_findAmong_49 (by decide) ?_
          exact ih3 x5_46 _ _ _ hP hD hS (lv_sub hl [1, 2, 3, 4, 5, 0] rfl) h
        refine lv_icmp_ne (tgt := 46) hx hb dX7_findAmong_17 (by decide) (fun c9 => ?_) (fun c9 => ?_)
        · have h := h.2 c9
          exact hJ46 _ _ _ hP hD hS (lv_sub hl [0, 1, 2, 3, 4, 5] rfl) h
        · have h := h.1 c9
          refine lv_aload_n hx hb dX7_findAmong_20 rfl (lv_at hl 0 rfl) ?_
          refine va_get (D := D) (ci := 4) (v := .ref a_p_firsts) (C := RX5) (T := TX5) (N := 8) hx hb hq inX5g hown hK hP 0 rfl rfl 6 (by decide) (hq _ q_67) (fun _ h9 => h9) rfl dX7_findAmong_21 ?_
          refine lv_iload hx hb dX7_findAmong_24 (lv_at hl 5 rfl) ?_
          obtain ⟨hi9, h⟩ := h
          refine va_iald hx hb hK hP 2 0 rfl rfl hi9 dX7_findAmong_26 ?_
          refine lv_iload_n hx hb dX7_findAmong_27 rfl (lv_at hl 3 rfl) ?_
          refine lv_icmp_ne (tgt := 46) hx hb dX7_findAmong_28 (by decide) (fun c9 => ?_) (fun c9 => ?_)
          · have h := h.2 c9
            exact hJ46 _ _ _ hP hD hS (lv_sub hl [0, 1, 2, 3, 4, 5] rfl) h
          · have h := h.1 c9
            refine lv_aload_n hx hb dX7_findAmong_31 rfl (lv_at hl 0 rfl) ?_
            refine va_get (D := D) (ci := 4) (v := .ref a_p_seconds) (C := RX5) (T := TX5) (N := 8) hx hb hq inX5g hown hK hP 0 rfl rfl 7 (by decide) (hq _ q_72) (fun _ h9 => h9) rfl dX7_findAmong_32 ?_
            refine lv_iload hx hb dX7_findAmong_35 (lv_at hl 5 rfl) ?_
            obtain ⟨hi9, h⟩ := h
            refine va_iald hx hb hK hP 3 0 rfl rfl hi9 dX7_findAmong_37 ?_
            refine lv_iload hx hb dX7_findAmong_38 (lv_at hl 4 rfl) ?_
            refine lv_icmp_ne (tgt := 46) hx hb dX7_findAmong_40 (by decide) (fun c9 => ?_) (fun c9 => ?_)
            · have h := h.2 c9
              exact hJ46 _ _ _ hP hD hS (lv_sub hl [0, 1, 2, 3, 4, 5] rfl) h
            · have h := h.1 c9
              refine lv_iload hx hb dX7_findAmong_43 (lv_at hl 5 rfl) ?_
              exact W.iret (v := x5_3) hx hb hr (fun t ht hW => ⟨⟨x5_3, (), rfl, h, by rw [ht]; exact hP, va_K.moved hW.alike hK, hD⟩, hS.F ht⟩) hS.2.2 dX7_findAmong_45
  obtain ⟨k9, h⟩ := h
  exact hL3 k9 0 _ _ _ hP hD hS (lv_sub hl [1, 2, 3, 4, 5, 0] rfl) h

abbrev qX7_mergeEqual (D : va_G) (ca : Nat → ClassId) (a_t a_t_newNumbers a_t_needed a_p a_p_operations a_p_firsts a_p_seconds : Nat) (p_width : Int32) (p_taskKind : Int32) (p_taskDivisor : Int32) (Q : (Nat → Int32) → Int32 → Int32 → (Nat → Int32) → (Nat → Int32) → (Nat → Int32) → Prop) (A : Nat → Prop) : Array Value → State → Outcome → State → Prop := va_Qv (fun (u : (Nat → Int32) × Int32 × Int32 × (Nat → Int32) × (Nat → Int32) × (Nat → Int32)) => Q u.1 u.2.1 u.2.2.1 u.2.2.2.1 u.2.2.2.2.1 u.2.2.2.2.2) (wEnd D ca (fun u : (Nat → Int32) × Int32 × Int32 × (Nat → Int32) × (Nat → Int32) × (Nat → Int32) => [(a_t, .inr (5, [.ref a_t_newNumbers, .ref a_t_needed])), (a_t_newNumbers, .inl (ca 0, 41, .inl u.1)), (a_p, .inr (4, [.int p_width, .int u.2.1, .int u.2.2.1, .int p_taskKind, .int p_taskDivisor, .ref a_p_operations, .ref a_p_firsts, .ref a_p_seconds])), (a_p_operations, .inl (ca 0, 40, .inl u.2.2.2.1)), (a_p_firsts, .inl (ca 0, 40, .inl u.2.2.2.2.1)), (a_p_seconds, .inl (ca 0, 40, .inl u.2.2.2.2.2))]) A) A
def wX7_mergeEqual_90 (x3_4 : Int32) (f_t_newNumbers_4 : Nat → Int32) (K4 : Int32 → Int32 → (Nat → Int32) → (Nat → Int32) → (Nat → Int32) → (Nat → Int32) → Prop) (r_52 : Int32) (x2_90 : Int32) (f_p_operations_90 : Nat → Int32) (f_p_firsts_90 : Nat → Int32) (f_p_seconds_90 : Nat → Int32) : Prop :=
  (vp_in (x3_4 + 1) 41 ∧ (∀ x3_102 : Int32, x3_102 = x3_4 + 1 → K4 x2_90 x3_102 (upd f_t_newNumbers_4 (x3_4 + 1).toNatClampNeg (r_52 + 1)) f_p_operations_90 f_p_firsts_90 f_p_seconds_90))
def wX7_mergeEqual_4 (p_length : Int32) (p_result : Int32) (Q : (Nat → Int32) → Int32 → Int32 → (Nat → Int32) → (Nat → Int32) → (Nat → Int32) → Prop) : Nat → Int32 → Int32 → (Nat → Int32) → (Nat → Int32) → (Nat → Int32) → (Nat → Int32) → Prop
  | 0, _, _, _, _, _, _ => False
  | n9 + 1, x2_4, x3_4, f_t_newNumbers_4, f_p_operations_4, f_p_firsts_4, f_p_seconds_4 =>
  ((p_length ≤ x3_4 → (vp_in p_result 41 ∧ Q f_t_newNumbers_4 x2_4 (f_t_newNumbers_4 p_result.toNatClampNeg) f_p_operations_4 f_p_firsts_4 f_p_seconds_4)) ∧ (¬ p_length ≤ x3_4 → (vp_in x3_4 40 ∧ (∀ x4_18 : Int32, x4_18 = f_p_operations_4 x3_4.toNatClampNeg → (vp_in x3_4 40 ∧ wX7_renumbered f_t_newNumbers_4 (f_p_firsts_4 x3_4.toNatClampNeg) (fun r_27 => (vp_in x3_4 40 ∧ wX7_renumbered f_t_newNumbers_4 (f_p_seconds_4 x3_4.toNatClampNeg) (fun r_39 => wX7_findAmong f_p_operations_4 f_p_firsts_4 f_p_seconds_4 x2_4 x4_18 r_27 r_39 (fun r_52 => ((r_52 = x2_4 → (vp_in x2_4 40 ∧ (vp_in x2_4 40 ∧ (vp_in x2_4 40 ∧ (∀ x2_87 : Int32, x2_87 = x2_4 + 1 → wX7_mergeEqual_90 x3_4 f_t_newNumbers_4 (wX7_mergeEqual_4 p_length p_result Q n9) r_52 x2_87 (upd f_p_operations_4 x2_4.toNatClampNeg x4_18) (upd f_p_firsts_4 x2_4.toNatClampNeg r_27) (upd f_p_seconds_4 x2_4.toNatClampNeg r_39)))))) ∧ (¬ r_52 = x2_4 → wX7_mergeEqual_90 x3_4 f_t_newNumbers_4 (wX7_mergeEqual_4 p_length p_result Q n9) r_52 x2_4 f_p_operations_4 f_p_firsts_4 f_p_seconds_4)))))))))))
def wX7_mergeEqual (f_t_newNumbers : Nat → Int32) (p_length : Int32) (p_result : Int32) (f_p_operations : Nat → Int32) (f_p_firsts : Nat → Int32) (f_p_seconds : Nat → Int32) (Q : (Nat → Int32) → Int32 → Int32 → (Nat → Int32) → (Nat → Int32) → (Nat → Int32) → Prop) : Prop :=
  (∃ k9, wX7_mergeEqual_4 p_length p_result Q k9 0 0 f_t_newNumbers f_p_operations f_p_firsts f_p_seconds)
set_option maxHeartbeats 4000000 in
set_option maxRecDepth 100000 in
theorem mX7_mergeEqual (l : Launch) (D : va_G) (ca : Nat → ClassId) (a_t a_t_newNumbers a_t_needed a_p a_p_operations a_p_firsts a_p_seconds : Nat) (sz : Nat) (f_t_newNumbers : Nat → Int32) (p_width : Int32) (p_length : Int32) (p_result : Int32) (p_taskKind : Int32) (p_taskDivisor : Int32) (f_p_operations : Nat → Int32) (f_p_firsts : Nat → Int32) (f_p_seconds : Nat → Int32) (Q : (Nat → Int32) → Int32 → Int32 → (Nat → Int32) → (Nat → Int32) → (Nat → Int32) → Prop) (h : wX7_mergeEqual f_t_newNumbers p_length p_result f_p_operations f_p_firsts f_p_seconds Q) : Met l yX7_mergeEqual (Cond.code yX7_mergeEqual cX7_mergeEqual 8 none :: wsG) ({ frames := 3, cells := 0, slots := 0, locals := 61 } : Room) (va_Pc [.ref a_t, .ref a_p] (wPre D ca [(a_t, .inr (5, [.ref a_t_newNumbers, .ref a_t_needed])), (a_t_newNumbers, .inl (ca 0, 41, .inl f_t_newNumbers)), (a_p, .inr (4, [.int p_width, .int p_length, .int p_result, .int p_taskKind, .int p_taskDivisor, .ref a_p_operations, .ref a_p_firsts, .ref a_p_seconds])), (a_p_operations, .inl (ca 0, 40, .inl f_p_operations)), (a_p_firsts, .inl (ca 0, 40, .inl f_p_firsts)), (a_p_seconds, .inl (ca 0, 40, .inl f_p_seconds))] sz)) (qX7_mergeEqual D ca a_t a_t_newNumbers a_t_needed a_p a_p_operations a_p_firsts a_p_seconds p_width p_taskKind p_taskDivisor Q (va_A [(a_t, .inr (5, [.ref a_t_newNumbers, .ref a_t_needed])), (a_t_newNumbers, .inl (ca 0, 41, .inl f_t_newNumbers)), (a_p, .inr (4, [.int p_width, .int p_length, .int p_result, .int p_taskKind, .int p_taskDivisor, .ref a_p_operations, .ref a_p_firsts, .ref a_p_seconds])), (a_p_operations, .inl (ca 0, 40, .inl f_p_operations)), (a_p_firsts, .inl (ca 0, 40, .inl f_p_firsts)), (a_p_seconds, .inl (ca 0, 40, .inl f_p_seconds))] sz)) 0 0 (va_A [(a_t, .inr (5, [.ref a_t_newNumbers, .ref a_t_needed])), (a_t_newNumbers, .inl (ca 0, 41, .inl f_t_newNumbers)), (a_p, .inr (4, [.int p_width, .int p_length, .int p_result, .int p_taskKind, .int p_taskDivisor, .ref a_p_operations, .ref a_p_firsts, .ref a_p_seconds])), (a_p_operations, .inl (ca 0, 40, .inl f_p_operations)), (a_p_firsts, .inl (ca 0, 40, .inl f_p_firsts)), (a_p_seconds, .inl (ca 0, 40, .inl f_p_seconds))] sz) := by
  refine Met.ofW (cc := cX7_mergeEqual) (maxL := 8) (ret := none) (by decide) rfl ?_
  intro p e s m args below meth c s₁ B hml hv
  obtain ⟨rfl, hsz, hP, hK, hD0⟩ := hv
  have hx := B.exec
  have hb := B.bytes
  have hr := B.returns
  have hts := atoms_spec (ws := (Cond.code yX7_mergeEqual cX7_mergeEqual 8 none :: wsG)) B.pre
  have hq : ∀ w ∈ wsG, w.before _ s = true := fun w hw => hts w (List.mem_cons_of_mem _ hw)
  have hown : s.vm.findClass RX7 = some m.cls := findClass_of_methodNamed B.named
  have hlocks := B.notSynchronized
  subst hsz
  have hD := hD0.self (sz := s.heap.size)
  generalize hAe : va_A [(a_t, .inr (5, [.ref a_t_newNumbers, .ref a_t_needed])), (a_t_newNumbers, .inl (ca 0, 41, .inl f_t_newNumbers)), (a_p, .inr (4, [.int p_width, .int p_length, .int p_result, .int p_taskKind, .int p_taskDivisor, .ref a_p_operations, .ref a_p_firsts, .ref a_p_seconds])), (a_p_operations, .inl (ca 0, 40, .inl f_p_operations)), (a_p_firsts, .inl (ca 0, 40, .inl f_p_firsts)), (a_p_seconds, .inl (ca 0, 40, .inl f_p_seconds))] s.heap.size = A at hD ⊢
  have hA : ∀ q : Nat, s.heap.size ≤ q → A q := fun q h => by rw [← hAe]; exact Or.inr h
  have hS : va_S A s.heap s.heap [] := va_S.rf
  have hP : va_P D vwCl [(a_t, .inr (5, [.ref a_t_newNumbers, .ref a_t_needed])), (a_t_newNumbers, .inl (ca 0, 41, .inl f_t_newNumbers)), (a_p, .inr (4, [.int p_width, .int p_length, .int p_result, .int p_taskKind, .int p_taskDivisor, .ref a_p_operations, .ref a_p_firsts, .ref a_p_seconds])), (a_p_operations, .inl (ca 0, 40, .inl f_p_operations)), (a_p_firsts, .inl (ca 0, 40, .inl f_p_firsts)), (a_p_seconds, .inl (ca 0, 40, .inl f_p_seconds))] s.heap := hP
  have hl := lv_entry ([.ref a_t, .ref a_p]) (n := 8) (Nat.le_of_ble_eq_true rfl)
  rw [lg_entry_eq]
  generalize (lg_sl ([.ref a_t, .ref a_p]) ++ List.replicate (8 - (lg_sl ([.ref a_t, .ref a_p])).length) Slot.unset).toArray = ls at hl ⊢
  have hl : lv_has ls 8 [(0, .ref a_t), (1, .ref a_p)] := hl
  unfold wX7_mergeEqual at h
  refine lv_iconst (v := 0) hx hb dX7_mergeEqual_0 (by decide) ?_
  refine lv_istore_n (lv' := [(2, .int 0), (0, .ref a_t), (1, .ref a_p)]) hx hb dX7_mergeEqual_1 rfl hl (by decide) rfl (fun ls hl => ?_)
  refine lv_iconst (v := 0) hx hb dX7_mergeEqual_2 (by decide) ?_
  refine lv_istore_n (lv' := [(3, .int 0), (2, .int 0), (0, .ref a_t), (1, .ref a_p)]) hx hb dX7_mergeEqual_3 rfl hl (by decide) rfl (fun ls hl => ?_)
  have hL4 : ∀ (n9_4 : Nat) (x2_4 : Int32) (x3_4 : Int32) (f_t_newNumbers_4 : Nat → Int32) (f_p_operations_4 : Nat → Int32) (f_p_firsts_4 : Nat → Int32) (f_p_seconds_4 : Nat → Int32) (H : Heap) (locs : List Loc) (ls : Array Slot), va_P D vwCl [(a_t, .inr (5, [.ref a_t_newNumbers, .ref a_t_needed])), (a_t_newNumbers, .inl (ca 0, 41, .inl f_t_newNumbers_4)), (a_p, .inr (4, [.int p_width, .int p_length, .int p_result, .int p_taskKind, .int p_taskDivisor, .ref a_p_operations, .ref a_p_firsts, .ref a_p_seconds])), (a_p_operations, .inl (ca 0, 40, .inl f_p_operations_4)), (a_p_firsts, .inl (ca 0, 40, .inl f_p_firsts_4)), (a_p_seconds, .inl (ca 0, 40, .inl f_p_seconds_4))] H → va_D A [(a_t, .inr (5, [.ref a_t_newNumbers, .ref a_t_needed])), (a_t_newNumbers, .inl (ca 0, 41, .inl f_t_newNumbers_4)), (a_p, .inr (4, [.int p_width, .int p_length, .int p_result, .int p_taskKind, .int p_taskDivisor, .ref a_p_operations, .ref a_p_firsts, .ref a_p_seconds])), (a_p_operations, .inl (ca 0, 40, .inl f_p_operations_4)), (a_p_firsts, .inl (ca 0, 40, .inl f_p_firsts_4)), (a_p_seconds, .inl (ca 0, 40, .inl f_p_seconds_4))] → va_S A s.heap H locs → lv_has ls 8 [(0, .ref a_t), (1, .ref a_p), (2, .int x2_4), (3, .int x3_4)] → wX7_mergeEqual_4 p_length p_result Q n9_4 x2_4 x3_4 f_t_newNumbers_4 f_p_operations_4 f_p_firsts_4 f_p_seconds_4 → W p l e (headSpec (Cond.code yX7_mergeEqual cX7_mergeEqual 8 none :: wsG) ({ frames := 3, cells := 0, slots := 0, locals := 61 } : Room)).room s m ([.ref a_t, .ref a_p] : List Value).toArray below meth c H locs 0 0 (MQ below (qX7_mergeEqual D ca a_t a_t_newNumbers a_t_needed a_p a_p_operations a_p_firsts a_p_seconds p_width p_taskKind p_taskDivisor Q A) ([.ref a_t, .ref a_p] : List Value).toArray s 0 0 A) (F0 m 4 ls []) := by
    intro n9_4
    induction n9_4 with
    | zero =>
      intro x2_4 x3_4 f_t_newNumbers_4 f_p_operations_4 f_p_firsts_4 f_p_seconds_4 H locs ls hP hD hS hl h
      exact False.elim h
    | succ n9_4 ih4 =>
      intro x2_4 x3_4 f_t_newNumbers_4 f_p_operations_4 f_p_firsts_4 f_p_seconds_4 H locs ls hP hD hS hl h
      unfold wX7_mergeEqual_4 at h
      refine lv_iload_n hx hb dX7_mergeEqual_4 rfl (lv_at hl 3 rfl) ?_
      refine lv_aload_n hx hb dX7_mergeEqual_5 rfl (lv_at hl 1 rfl) ?_
      refine va_get (D := D) (ci := 4) (v := .int p_length) (C := RX5) (T := TX5) (N := 8) hx hb hq inX5g hown hK hP 2 rfl rfl 1 (by decide) (hq _ q_48) (fun _ h9 => h9) rfl dX7_mergeEqual_6 ?_
      refine lv_icmp_ge (tgt := 108) hx hb dX7_mergeEqual_9 (by decide) (fun c9 => ?_) (fun c9 => ?_)
      · have h := h.1 c9
        refine lv_aload_n hx hb dX7_mergeEqual_108 rfl (lv_at hl 1 rfl) ?_
        refine lv_iload_n hx hb dX7_mergeEqual_109 rfl (lv_at hl 2 rfl) ?_
        refine va_put (D := D) (ci := 4) (v := .int x2_4) (ty := .int) (C := RX5) (T := TX5) (N := 8) hx hb hq inX5g tyX5 tyX5_ok nmX5 hown hK hP hD hS 2 rfl rfl 1 (by decide) (hq _ q_48) (fun _ h9 => h9) rfl (by decide +kernel) rfl rfl (Nat.le_of_ble_eq_true rfl) dX7_mergeEqual_110 (fun H locs hP hD hS => ?_)
        have hP : va_P D vwCl [(a_t, .inr (5, [.ref a_t_newNumbers, .ref a_t_needed])), (a_t_newNumbers, .inl (ca 0, 41, .inl f_t_newNumbers_4)), (a_p, .inr (4, [.int p_width, .int x2_4, .int p_result, .int p_taskKind, .int p_taskDivisor, .ref a_p_operations, .ref a_p_firsts, .ref a_p_seconds])), (a_p_operations, .inl (ca 0, 40, .inl f_p_operations_4)), (a_p_firsts, .inl (ca 0, 40, .inl f_p_firsts_4)), (a_p_seconds, .inl (ca 0, 40, .inl f_p_seconds_4))] H := hP
        have hD : va_D A [(a_t, .inr (5, [.ref a_t_newNumbers, .ref a_t_needed])), (a_t_newNumbers, .inl (ca 0, 41, .inl f_t_newNumbers_4)), (a_p, .inr (4, [.int p_width, .int x2_4, .int p_result, .int p_taskKind, .int p_taskDivisor, .ref a_p_operations, .ref a_p_firsts, .ref a_p_seconds])), (a_p_operations, .inl (ca 0, 40, .inl f_p_operations_4)), (a_p_firsts, .inl (ca 0, 40, .inl f_p_firsts_4)), (a_p_seconds, .inl (ca 0, 40, .inl f_p_seconds_4))] := hD
        refine lv_aload_n hx hb dX7_mergeEqual_113 rfl (lv_at hl 1 rfl) ?_
        refine lv_aload_n hx hb dX7_mergeEqual_114 rfl (lv_at hl 0 rfl) ?_
        refine va_get (D := D) (ci := 5) (v := .ref a_t_newNumbers) (C := RX7) (T := TX7) (N := 2) hx hb hq inX7g hown hK hP 0 rfl rfl 0 (by decide) (hq _ q_148) (fun _ h9 => h9) rfl dX7_mergeEqual_115 ?_
        refine lv_aload_n hx hb dX7_mergeEqual_118 rfl (lv_at hl 1 rfl) ?_
        refine va_get (D := D) (ci := 4) (v := .int p_result) (C := RX5) (T := TX5) (N := 8) hx hb hq inX5g hown hK hP 2 rfl rfl 2 (by decide) (hq _ q_53) (fun _ h9 => h9) rfl dX7_mergeEqual_119 ?_
        obtain ⟨hi9, h⟩ := h
        refine va_iald hx hb hK hP 1 0 rfl rfl hi9 dX7_mergeEqual_122 ?_
        refine va_put (D := D) (ci := 4) (v := .int (f_t_newNumbers_4 p_result.toNatClampNeg)) (ty := .int) (C := RX5) (T := TX5) (N := 8) hx hb hq inX5g tyX5 tyX5_ok nmX5 hown hK hP hD hS 2 rfl rfl 2 (by decide) (hq _ q_53) (fun _ h9 => h9) rfl (by decide +kernel) rfl rfl (Nat.le_of_ble_eq_true rfl) dX7_mergeEqual_123 (fun H locs hP hD hS => ?_)
        have hP : va_P D vwCl [(a_t, .inr (5, [.ref a_t_newNumbers, .ref a_t_needed])), (a_t_newNumbers, .inl (ca 0, 41, .inl f_t_newNumbers_4)), (a_p, .inr (4, [.int p_width, .int x2_4, .int (f_t_newNumbers_4 p_result.toNatClampNeg), .int p_taskKind, .int p_taskDivisor, .ref a_p_operations, .ref a_p_firsts, .ref a_p_seconds])), (a_p_operations, .inl (ca 0, 40, .inl f_p_operations_4)), (a_p_firsts, .inl (ca 0, 40, .inl f_p_firsts_4)), (a_p_seconds, .inl (ca 0, 40, .inl f_p_seconds_4))] H := hP
        have hD : va_D A [(a_t, .inr (5, [.ref a_t_newNumbers, .ref a_t_needed])), (a_t_newNumbers, .inl (ca 0, 41, .inl f_t_newNumbers_4)), (a_p, .inr (4, [.int p_width, .int x2_4, .int (f_t_newNumbers_4 p_result.toNatClampNeg), .int p_taskKind, .int p_taskDivisor, .ref a_p_operations, .ref a_p_firsts, .ref a_p_seconds])), (a_p_operations, .inl (ca 0, 40, .inl f_p_operations_4)), (a_p_firsts, .inl (ca 0, 40, .inl f_p_firsts_4)), (a_p_seconds, .inl (ca 0, 40, .inl f_p_seconds_4))] := hD
        exact W.vret hx hb hr (fun t ht hW => ⟨⟨(f_t_newNumbers_4, x2_4, f_t_newNumbers_4 p_result.toNatClampNeg, f_p_operations_4, f_p_firsts_4, f_p_seconds_4), rfl, h, by rw [ht]; exact hP, va_K.moved hW.alike hK, hD⟩, hS.F ht⟩) hS.2.2 dX7_mergeEqual_126
      · have h := h.2 c9
        refine lv_aload_n hx hb dX7_mergeEqual_12 rfl (lv_at hl 1 rfl) ?_
        refine va_get (D := D) (ci := 4) (v := .ref a_p_operations) (C := RX5) (T := TX5) (N := 8) hx hb hq inX5g hown hK hP 2 rfl rfl 5 (by decide) (hq _ q_62) (fun _ h9 => h9) rfl dX7_mergeEqual_13 ?_
        refine lv_iload_n hx hb dX7_mergeEqual_16 rfl (lv_at hl 3 rfl) ?_
        obtain ⟨hi9, h⟩ := h
        refine va_iald hx hb hK hP 3 0 rfl rfl hi9 dX7_mergeEqual_17 ?_
        refine lv_topi (fun x4_18 ex4_18 => ?_)
        have h := h x4_18 ex4_18
        refine lv_istore (lv' := [(4, .int x4_18), (0, .ref a_t), (1, .ref a_p), (2, .int x2_4), (3, .int x3_4)]) hx hb dX7_mergeEqual_18 hl (by decide) rfl (fun ls hl => ?_)
        refine lv_aload_n hx hb dX7_mergeEqual_20 rfl (lv_at hl 1 rfl) ?_
        refine lv_aload_n hx hb dX7_mergeEqual_21 rfl (lv_at hl 2 rfl) ?_
        refine va_get (D := D) (ci := 4) (v := .ref a_p_firsts) (C := RX5) (T := TX5) (N := 8) hx hb hq inX5g hown hK hP 2 rfl rfl 6 (by decide) (hq _ q_67) (fun _ h9 => h9) rfl dX7_mergeEqual_22 ?_
        refine lv_iload_n hx hb dX7_mergeEqual_25 rfl (lv_at hl 4 rfl) ?_
        obtain ⟨hi9, h⟩ := h
        refine va_iald hx hb hK hP 4 0 rfl rfl hi9 dX7_mergeEqual_26 ?_
        refine cVi (As := [.int (f_p_firsts_4 x3_4.toNatClampNeg)]) (rest := []) (wc := [(a_t, .inr (5, [.ref a_t_newNumbers, .ref a_t_needed])), (a_t_newNumbers, .inl (ca 0, 41, .inl f_t_newNumbers_4))]) (wr := [(a_p, .inr (4, [.int p_width, .int p_length, .int p_result, .int p_taskKind, .int p_taskDivisor, .ref a_p_operations, .ref a_p_firsts, .ref a_p_seconds])), (a_p_operations, .inl (ca 0, 40, .inl f_p_operations_4)), (a_p_firsts, .inl (ca 0, 40, .inl f_p_firsts_4)), (a_p_seconds, .inl (ca 0, 40, .inl f_p_seconds_4))]) (w1 := fun _ : Unit => [(a_t, .inr (5, [.ref a_t_newNumbers, .ref a_t_needed])), (a_t_newNumbers, .inl (ca 0, 41, .inl f_t_newNumbers_4))]) (ws2 := fun _ : Unit => [(a_t, .inr (5, [.ref a_t_newNumbers, .ref a_t_needed])), (a_t_newNumbers, .inl (ca 0, 41, .inl f_t_newNumbers_4)), (a_p, .inr (4, [.int p_width, .int p_length, .int p_result, .int p_taskKind, .int p_taskDivisor, .ref a_p_operations, .ref a_p_firsts, .ref a_p_seconds])), (a_p_operations, .inl (ca 0, 40, .inl f_p_operations_4)), (a_p_firsts, .inl (ca 0, 40, .inl f_p_firsts_4)), (a_p_seconds, .inl (ca 0, 40, .inl f_p_seconds_4))]) ⟨hx, hb, hml, hown, hts⟩ (mX7_renumbered l D ca a_t a_t_newNumbers a_t_needed _ f_t_newNumbers_4 (f_p_firsts_4 x3_4.toNatClampNeg) _ h) (cwV 1 hts (gV q_217 q_219 qs_0 q_6 q_220) rfl rfl rfl (by decide +kernel) ⟨Nat.le_of_ble_eq_true rfl, Nat.le_of_ble_eq_true rfl⟩) hK hP hD hS hA [0, 1] [2, 3, 4, 5] [4, 5, 0, 1, 2, 3] rfl rfl rfl (by decide) (fun _ => rfl) (ci := 5) (q0 := 0) rfl rfl rfl hl.1 rfl (Nat.le_of_ble_eq_true rfl) dX7_mergeEqual_27 ⟨Nat.le_of_ble_eq_true rfl, Nat.le_of_ble_eq_true rfl⟩ (fun r_27 u9 H locs h hP hD hS => ?_)
        try dsimp only at h
        refine lv_istore (lv' := [(5, .int r_27), (4, .int x4_18), (0, .ref a_t), (1, .ref a_p), (2, .int x2_4), (3, .int x3_4)]) hx hb dX7_mergeEqual_30 hl (by decide) rfl (fun ls hl => ?_)
        refine lv_aload_n hx hb dX7_mergeEqual_32 rfl (lv_at hl 2 rfl) ?_
        refine lv_aload_n hx hb dX7_mergeEqual_33 rfl (lv_at hl 3 rfl) ?_
        refine va_get (D := D) (ci := 4) (v := .ref a_p_seconds) (C := RX5) (T := TX5) (N := 8) hx hb hq inX5g hown hK hP 2 rfl rfl 7 (by decide) (hq _ q_72) (fun _ h9 => h9) rfl dX7_mergeEqual_34 ?_
        refine lv_iload_n hx hb dX7_mergeEqual_37 rfl (lv_at hl 5 rfl) ?_
        obtain ⟨hi9, h⟩ := h
        refine va_iald hx hb hK hP 5 0 rfl rfl hi9 dX7_mergeEqual_38 ?_
        refine cVi (As := [.int (f_p_seconds_4 x3_4.toNatClampNeg)]) (rest := []) (wc := [(a_t, .inr (5, [.ref a_t_newNumbers, .ref a_t_needed])), (a_t_newNumbers, .inl (ca 0, 41, .inl f_t_newNumbers_4))]) (wr := [(a_p, .inr (4, [.int p_width, .int p_length, .int p_result, .int p_taskKind, .int p_taskDivisor, .ref a_p_operations, .ref a_p_firsts, .ref a_p_seconds])), (a_p_operations, .inl (ca 0, 40, .inl f_p_operations_4)), (a_p_firsts, .inl (ca 0, 40, .inl f_p_firsts_4)), (a_p_seconds, .inl (ca 0, 40, .inl f_p_seconds_4))]) (w1 := fun _ : Unit => [(a_t, .inr (5, [.ref a_t_newNumbers, .ref a_t_needed])), (a_t_newNumbers, .inl (ca 0, 41, .inl f_t_newNumbers_4))]) (ws2 := fun _ : Unit => [(a_t, .inr (5, [.ref a_t_newNumbers, .ref a_t_needed])), (a_t_newNumbers, .inl (ca 0, 41, .inl f_t_newNumbers_4)), (a_p, .inr (4, [.int p_width, .int p_length, .int p_result, .int p_taskKind, .int p_taskDivisor, .ref a_p_operations, .ref a_p_firsts, .ref a_p_seconds])), (a_p_operations, .inl (ca 0, 40, .inl f_p_operations_4)), (a_p_firsts, .inl (ca 0, 40, .inl f_p_firsts_4)), (a_p_seconds, .inl (ca 0, 40, .inl f_p_seconds_4))]) ⟨hx, hb, hml, hown, hts⟩ (mX7_renumbered l D ca a_t a_t_newNumbers a_t_needed _ f_t_newNumbers_4 (f_p_seconds_4 x3_4.toNatClampNeg) _ h) (cwV 1 hts (gV q_217 q_219 qs_0 q_6 q_220) rfl rfl rfl (by decide +kernel) ⟨Nat.le_of_ble_eq_true rfl, Nat.le_of_ble_eq_true rfl⟩) hK hP hD hS hA [0, 1] [2, 3, 4, 5] [4, 5, 0, 1, 2, 3] rfl rfl rfl (by decide) (fun _ => rfl) (ci := 5) (q0 := 0) rfl rfl rfl hl.1 rfl (Nat.le_of_ble_eq_true rfl) dX7_mergeEqual_39 ⟨Nat.le_of_ble_eq_true rfl, Nat.le_of_ble_eq_true rfl⟩ (fun r_39 u9 H locs h hP hD hS => ?_)
        try dsimp only at h
        refine lv_istore (lv' := [(6, .int r_39), (5, .int r_27), (4, .int x4_18), (0, .ref a_t), (1, .ref a_p), (2, .int x2_4), (3, .int x3_4)]) hx hb dX7_mergeEqual_42 hl (by decide) rfl (fun ls hl => ?_)
        refine lv_aload_n hx hb dX7_mergeEqual_44 rfl (lv_at hl 4 rfl) ?_
        refine lv_iload_n hx hb dX7_mergeEqual_45 rfl (lv_at hl 5 rfl) ?_
        refine lv_iload hx hb dX7_mergeEqual_46 (lv_at hl 2 rfl) ?_
        refine lv_iload hx hb dX7_mergeEqual_48 (lv_at hl 1 rfl) ?_
        refine lv_iload hx hb dX7_mergeEqual_50 (lv_at hl 0 rfl) ?_
        refine cSi (As := [.ref a_p, .int x2_4, .int x4_18, .int r_27, .int r_39]) (rest := []) (wc := [(a_p, .inr (4, [.int p_width, .int p_length, .int p_result, .int p_taskKind, .int p_taskDivisor, .ref a_p_operations, .ref a_p_firsts, .ref a_p_seconds])), (a_p_operations, .inl (ca 0, 40, .inl f_p_operations_4)), (a_p_firsts, .inl (ca 0, 40, .inl f_p_firsts_4)), (a_p_seconds, .inl (ca 0, 40, .inl f_p_seconds_4))]) (wr := [(a_t, .inr (5, [.ref a_t_newNumbers, .ref a_t_needed])), (a_t_newNumbers, .inl (ca 0, 41, .inl f_t_newNumbers_4))]) (w1 := fun _ : Unit => [(a_p, .inr (4, [.int p_width, .int p_length, .int p_result, .int p_taskKind, .int p_taskDivisor, .ref a_p_operations, .ref a_p_firsts, .ref a_p_seconds])), (a_p_operations, .inl (ca 0, 40, .inl f_p_operations_4)), (a_p_firsts, .inl (ca 0, 40, .inl f_p_firsts_4)), (a_p_seconds, .inl (ca 0, 40, .inl f_p_seconds_4))]) (ws2 := fun _ : Unit => [(a_t, .inr (5, [.ref a_t_newNumbers, .ref a_t_needed])), (a_t_newNumbers, .inl (ca 0, 41, .inl f_t_newNumbers_4)), (a_p, .inr (4, [.int p_width, .int p_length, .int p_result, .int p_taskKind, .int p_taskDivisor, .ref a_p_operations, .ref a_p_firsts, .ref a_p_seconds])), (a_p_operations, .inl (ca 0, 40, .inl f_p_operations_4)), (a_p_firsts, .inl (ca 0, 40, .inl f_p_firsts_4)), (a_p_seconds, .inl (ca 0, 40, .inl f_p_seconds_4))]) ⟨hx, hb, hml, hown, hts⟩ (mX7_findAmong l D ca a_p a_p_operations a_p_firsts a_p_seconds _ p_width p_length p_result p_taskKind p_taskDivisor f_p_operations_4 f_p_firsts_4 f_p_seconds_4 x2_4 x4_18 r_27 r_39 _ h) (va_cwS 5 hts (gS q_229 q_230 q_6 q_231) rfl rfl rfl (by decide +kernel) ⟨Nat.le_of_ble_eq_true rfl, Nat.le_of_ble_eq_true rfl⟩) hK hP hD hS hA [2, 3, 4, 5] [0, 1] [0, 1, 2, 3, 4, 5] rfl rfl rfl (by decide) (fun _ => rfl) rfl hl.1 rfl (Nat.le_of_ble_eq_true rfl) dX7_mergeEqual_52 ⟨Nat.le_of_ble_eq_true rfl, Nat.le_of_ble_eq_true rfl⟩ (fun r_52 u9 H locs h hP hD hS => ?_)
        try dsimp only at h
        refine lv_istore (lv' := [(7, .int r_52), (6, .int r_39), (5, .int r_27), (4, .int x4_18), (0, .ref a_t), (1, .ref a_p), (2, .int x2_4), (3, .int x3_4)]) hx hb dX7_mergeEqual_55 hl (by decide) rfl (fun ls hl => ?_)
        refine lv_iload hx hb dX7_mergeEqual_57 (lv_at hl 0 rfl) ?_
        refine lv_iload_n hx hb dX7_mergeEqual_59 rfl (lv_at hl 6 rfl) ?_
        have hJ90 : ∀ (x2_90 : Int32) (f_p_operations_90 : Nat → Int32) (f_p_firsts_90 : Nat → Int32) (f_p_seconds_90 : Nat → Int32) (H : Heap) (locs : List Loc) (ls : Array Slot), va_P D vwCl [(a_t, .inr (5, [.ref a_t_newNumbers, .ref a_t_needed])), (a_t_newNumbers, .inl (ca 0, 41, .inl f_t_newNumbers_4)), (a_p, .inr (4, [.int p_width, .int p_length, .int p_result, .int p_taskKind, .int p_taskDivisor, .ref a_p_operations, .ref a_p_firsts, .ref a_p_seconds])), (a_p_operations, .inl (ca 0, 40, .inl f_p_operations_90)), (a_p_firsts, .inl (ca 0, 40, .inl f_p_firsts_90)), (a_p_seconds, .inl (ca 0, 40, .inl f_p_seconds_90))] H → va_D A [(a_t, .inr (5, [.ref a_t_newNumbers, .ref a_t_needed])), (a_t_newNumbers, .inl (ca 0, 41, .inl f_t_newNumbers_4)), (a_p, .inr (4, [.int p_width, .int p_length, .int p_result, .int p_taskKind, .int p_taskDivisor, .ref a_p_operations, .ref a_p_firsts, .ref a_p_seconds])), (a_p_operations, .inl (ca 0, 40, .inl f_p_operations_90)), (a_p_firsts, .inl (ca 0, 40, .inl f_p_firsts_90)), (a_p_seconds, .inl (ca 0, 40, .inl f_p_seconds_90))] → va_S A s.heap H locs → lv_has ls 8 [(0, .ref a_t), (1, .ref a_p), (2, .int x2_90), (3, .int x3_4), (7, .int r_52)] → wX7_mergeEqual_90 x3_4 f_t_newNumbers_4 (wX7_mergeEqual_4 p_length p_result Q n9_4) r_52 x2_90 f_p_operations_90 f_p_firsts_90 f_p_seconds_90 → W p l e (headSpec (Cond.code yX7_mergeEqual cX7_mergeEqual 8 none :: wsG) ({ frames := 3, cells := 0, slots := 0, locals := 61 } : Room)).room s m ([.ref a_t, .ref a_p] : List Value).toArray below meth c H locs 0 0 (MQ below (qX7_mergeEqual D ca a_t a_t_newNumbers a_t_needed a_p a_p_operations a_p_firsts a_p_seconds p_width p_taskKind p_taskDivisor Q A) ([.ref a_t, .ref a_p] : List Value).toArray s 0 0 A) (F0 m 90 ls []) := by
          intro x2_90 f_p_operations_90 f_p_firsts_90 f_p_seconds_90 H locs ls hP hD hS hl h
          unfold wX7_mergeEqual_90 at h
          refine lv_aload_n hx hb dX7_mergeEqual_90 rfl (lv_at hl 0 rfl) ?_
          refine va_get (D := D) (ci := 5) (v := .ref a_t_newNumbers) (C := RX7) (T := TX7) (N := 2) hx hb hq inX7g hown hK hP 0 rfl rfl 0 (by decide) (hq _ q_148) (fun _ h9 => h9) rfl dX7_mergeEqual_91 ?_
          refine lv_iload_n hx hb dX7_mergeEqual_94 rfl (lv_at hl 3 rfl) ?_
          refine lv_iconst (v := 1) hx hb dX7_mergeEqual_95 (by decide) ?_
          refine lv_iadd hx hb dX7_mergeEqual_96 ?_
          refine lv_iload hx hb dX7_mergeEqual_97 (lv_at hl 4 rfl) ?_
          refine lv_iconst (v := 1) hx hb dX7_mergeEqual_99 (by decide) ?_
          refine lv_iadd hx hb dX7_mergeEqual_100 ?_
          obtain ⟨hi9, h⟩ := h
          refine va_iast hx hb hK hP hD hS 1 0 rfl rfl hi9 dX7_mergeEqual_101 (fun H locs hP hD hS => ?_)
          have hP : va_P D vwCl [(a_t, .inr (5, [.ref a_t_newNumbers, .ref a_t_needed])), (a_t_newNumbers, .inl (ca 0, 41, .inl (upd f_t_newNumbers_4 (x3_4 + 1).toNatClampNeg (r_52 + 1)))), (a_p, .inr (4, [.int p_width, .int p_length, .int p_result, .int p_taskKind, .int p_taskDivisor, .ref a_p_operations, .ref a_p_firsts, .ref a_p_seconds])), (a_p_operations, .inl (ca 0, 40, .inl f_p_operations_90)), (a_p_firsts, .inl (ca 0, 40, .inl f_p_firsts_90)), (a_p_seconds, .inl (ca 0, 40, .inl f_p_seconds_90))] H := hP
          have hD : va_D A [(a_t, .inr (5, [.ref a_t_newNumbers, .ref a_t_needed])), (a_t_newNumbers, .inl (ca 0, 41, .inl (upd f_t_newNumbers_4 (x3_4 + 1).toNatClampNeg (r_52 + 1)))), (a_p, .inr (4, [.int p_width, .int p_length, .int p_result, .int p_taskKind, .int p_taskDivisor, .ref a_p_operations, .ref a_p_firsts, .ref a_p_seconds])), (a_p_operations, .inl (ca 0, 40, .inl f_p_operations_90)), (a_p_firsts, .inl (ca 0, 40, .inl f_p_firsts_90)), (a_p_seconds, .inl (ca 0, 40, .inl f_p_seconds_90))] := hD
          obtain ⟨x3_102, ex3_102⟩ : ∃ y : Int32, y = x3_4 + 1 := ⟨_, rfl⟩
          have h := h x3_102 ex3_102
          refine lv_iinc (v := x3_102) (lv' := [(3, .int x3_102), (0, .ref a_t), (1, .ref a_p), (2, .int x2_90), (7, .int r_52)]) hx hb dX7_mergeEqual_102 hl (k := 3) rfl (by rw [ex3_102]; rfl) (by decide) rfl (fun ls hl => ?_)
          refine lv_goto (tgt := 4) hx hb dX7_mergeEqual_105 (by decide) ?_
          exact ih4 x2_90 x3_102 (upd f_t_newNumbers_4 (x3_4 + 1).toNatClampNeg (r_52 + 1)) f_p_operations_90 f_p_firsts_90 f_p_seconds_90 _ _ _ hP hD hS (lv_sub hl [1, 2, 3, 0] rfl) h
        refine lv_icmp_ne (tgt := 90) hx hb dX7_mergeEqual_60 (by decide) (fun c9 => ?_) (fun c9 => ?_)
        · have h := h.2 c9
          exact hJ90 x2_4 f_p_operations_4 f_p_firsts_4 f_p_seconds_4 _ _ _ hP hD hS (lv_sub hl [4, 5, 6, 7, 0] rfl) h
        · have h := h.1 c9
          refine lv_aload_n hx hb dX7_mergeEqual_63 rfl (lv_at hl 5 rfl) ?_
          refine va_get (D := D) (ci := 4) (v := .ref a_p_operations) (C := RX5) (T := TX5) (N := 8) hx hb hq inX5g hown hK hP 2 rfl rfl 5 (by decide) (hq _ q_62) (fun _ h9 => h9) rfl dX7_mergeEqual_64 ?_
          refine lv_iload_n hx hb dX7_mergeEqual_67 rfl (lv_at hl 6 rfl) ?_
          refine lv_iload hx hb dX7_mergeEqual_68 (lv_at hl 3 rfl) ?_
          obtain ⟨hi9, h⟩ := h
          refine va_iast hx hb hK hP hD hS 3 0 rfl rfl hi9 dX7_mergeEqual_70 (fun H locs hP hD hS => ?_)
          have hP : va_P D vwCl [(a_t, .inr (5, [.ref a_t_newNumbers, .ref a_t_needed])), (a_t_newNumbers, .inl (ca 0, 41, .inl f_t_newNumbers_4)), (a_p, .inr (4, [.int p_width, .int p_length, .int p_result, .int p_taskKind, .int p_taskDivisor, .ref a_p_operations, .ref a_p_firsts, .ref a_p_seconds])), (a_p_operations, .inl (ca 0, 40, .inl (upd f_p_operations_4 x2_4.toNatClampNeg x4_18))), (a_p_firsts, .inl (ca 0, 40, .inl f_p_firsts_4)), (a_p_seconds, .inl (ca 0, 40, .inl f_p_seconds_4))] H := hP
          have hD : va_D A [(a_t, .inr (5, [.ref a_t_newNumbers, .ref a_t_needed])), (a_t_newNumbers, .inl (ca 0, 41, .inl f_t_newNumbers_4)), (a_p, .inr (4, [.int p_width, .int p_length, .int p_result, .int p_taskKind, .int p_taskDivisor, .ref a_p_operations, .ref a_p_firsts, .ref a_p_seconds])), (a_p_operations, .inl (ca 0, 40, .inl (upd f_p_operations_4 x2_4.toNatClampNeg x4_18))), (a_p_firsts, .inl (ca 0, 40, .inl f_p_firsts_4)), (a_p_seconds, .inl (ca 0, 40, .inl f_p_seconds_4))] := hD
          refine lv_aload_n hx hb dX7_mergeEqual_71 rfl (lv_at hl 5 rfl) ?_
          refine va_get (D := D) (ci := 4) (v := .ref a_p_firsts) (C := RX5) (T := TX5) (N := 8) hx hb hq inX5g hown hK hP 2 rfl rfl 6 (by decide) (hq _ q_67) (fun _ h9 => h9) rfl dX7_mergeEqual_72 ?_
          refine lv_iload_n hx hb dX7_mergeEqual_75 rfl (lv_at hl 6 rfl) ?_
          refine lv_iload hx hb dX7_mergeEqual_76 (lv_at hl 2 rfl) ?_
          obtain ⟨hi9, h⟩ := h
          refine va_iast hx hb hK hP hD hS 4 0 rfl rfl hi9 dX7_mergeEqual_78 (fun H locs hP hD hS => ?_)
          have hP : va_P D vwCl [(a_t, .inr (5, [.ref a_t_newNumbers, .ref a_t_needed])), (a_t_newNumbers, .inl (ca 0, 41, .inl f_t_newNumbers_4)), (a_p, .inr (4, [.int p_width, .int p_length, .int p_result, .int p_taskKind, .int p_taskDivisor, .ref a_p_operations, .ref a_p_firsts, .ref a_p_seconds])), (a_p_operations, .inl (ca 0, 40, .inl (upd f_p_operations_4 x2_4.toNatClampNeg x4_18))), (a_p_firsts, .inl (ca 0, 40, .inl (upd f_p_firsts_4 x2_4.toNatClampNeg r_27))), (a_p_seconds, .inl (ca 0, 40, .inl f_p_seconds_4))] H := hP
          have hD : va_D A [(a_t, .inr (5, [.ref a_t_newNumbers, .ref a_t_needed])), (a_t_newNumbers, .inl (ca 0, 41, .inl f_t_newNumbers_4)), (a_p, .inr (4, [.int p_width, .int p_length, .int p_result, .int p_taskKind, .int p_taskDivisor, .ref a_p_operations, .ref a_p_firsts, .ref a_p_seconds])), (a_p_operations, .inl (ca 0, 40, .inl (upd f_p_operations_4 x2_4.toNatClampNeg x4_18))), (a_p_firsts, .inl (ca 0, 40, .inl (upd f_p_firsts_4 x2_4.toNatClampNeg r_27))), (a_p_seconds, .inl (ca 0, 40, .inl f_p_seconds_4))] := hD
          refine lv_aload_n hx hb dX7_mergeEqual_79 rfl (lv_at hl 5 rfl) ?_
          refine va_get (D := D) (ci := 4) (v := .ref a_p_seconds) (C := RX5) (T := TX5) (N := 8) hx hb hq inX5g hown hK hP 2 rfl rfl 7 (by decide) (hq _ q_72) (fun _ h9 => h9) rfl dX7_mergeEqual_80 ?_
          refine lv_iload_n hx hb dX7_mergeEqual_83 rfl (lv_at hl 6 rfl) ?_
          refine lv_iload hx hb dX7_mergeEqual_84 (lv_at hl 1 rfl) ?_
          obtain ⟨hi9, h⟩ := h
          refine va_iast hx hb hK hP hD hS 5 0 rfl rfl hi9 dX7_mergeEqual_86 (fun H locs hP hD hS => ?_)
          have hP : va_P D vwCl [(a_t, .inr (5, [.ref a_t_newNumbers, .ref a_t_needed])), (a_t_newNumbers, .inl (ca 0, 41, .inl f_t_newNumbers_4)), (a_p, .inr (4, [.int p_width, .int p_length, .int p_result, .int p_taskKind, .int p_taskDivisor, .ref a_p_operations, .ref a_p_firsts, .ref a_p_seconds])), (a_p_operations, .inl (ca 0, 40, .inl (upd f_p_operations_4 x2_4.toNatClampNeg x4_18))), (a_p_firsts, .inl (ca 0, 40, .inl (upd f_p_firsts_4 x2_4.toNatClampNeg r_27))), (a_p_seconds, .inl (ca 0, 40, .inl (upd f_p_seconds_4 x2_4.toNatClampNeg r_39)))] H := hP
          have hD : va_D A [(a_t, .inr (5, [.ref a_t_newNumbers, .ref a_t_needed])), (a_t_newNumbers, .inl (ca 0, 41, .inl f_t_newNumbers_4)), (a_p, .inr (4, [.int p_width, .int p_length, .int p_result, .int p_taskKind, .int p_taskDivisor, .ref a_p_operations, .ref a_p_firsts, .ref a_p_seconds])), (a_p_operations, .inl (ca 0, 40, .inl (upd f_p_operations_4 x2_4.toNatClampNeg x4_18))), (a_p_firsts, .inl (ca 0, 40, .inl (upd f_p_firsts_4 x2_4.toNatClampNeg r_27))), (a_p_seconds, .inl (ca 0, 40, .inl (upd f_p_seconds_4 x2_4.toNatClampNeg r_39)))] := hD
          obtain ⟨x2_87, ex2_87⟩ : ∃ y : Int32, y = x2_4 + 1 := ⟨_, rfl⟩
          have h := h x2_87 ex2_87
          refine lv_iinc (v := x2_87) (lv' := [(2, .int x2_87), (7, .int r_52), (6, .int r_39), (5, .int r_27), (4, .int x4_18), (0, .ref a_t), (1, .ref a_p), (3, .int x3_4)]) hx hb dX7_mergeEqual_87 hl (k := 6) rfl (by rw [ex2_87]; rfl) (by decide) rfl (fun ls hl => ?_)
          exact hJ90 x2_87 (upd f_p_operations_4 x2_4.toNatClampNeg x4_18) (upd f_p_firsts_4 x2_4.toNatClampNeg r_27) (upd f_p_seconds_4 x2_4.toNatClampNeg r_39) _ _ _ hP hD hS (lv_sub hl [5, 6, 0, 7, 1] rfl) h
  obtain ⟨k9, h⟩ := h
  exact hL4 k9 0 0 f_t_newNumbers f_p_operations f_p_firsts f_p_seconds _ _ _ hP hD hS (lv_sub hl [2, 3, 1, 0] rfl) h

abbrev qX7_markOperand (D : va_G) (ca : Nat → ClassId) (a_t a_t_newNumbers a_t_needed : Nat) (Q : (Nat → Int32) → Prop) (A : Nat → Prop) : Array Value → State → Outcome → State → Prop := va_Qv (fun (u : (Nat → Int32)) => Q u) (wEnd D ca (fun u : (Nat → Int32) => [(a_t, .inr (5, [.ref a_t_newNumbers, .ref a_t_needed])), (a_t_needed, .inl (ca 3, 41, .inl u))]) A) A
def wX7_markOperand (f_t_needed : Nat → Int32) (x1 : Int32) (Q : (Nat → Int32) → Prop) : Prop :=
  wX5_isValue x1 (fun r_1 => ((r_1 = 0 → Q f_t_needed) ∧ (¬ r_1 = 0 → wX5_numberOf x1 (fun r_12 => (vp_in r_12 41 ∧ Q (upd f_t_needed r_12.toNatClampNeg (vp_nar .boolean 1)))))))
set_option maxHeartbeats 4000000 in
set_option maxRecDepth 100000 in
theorem mX7_markOperand (l : Launch) (D : va_G) (ca : Nat → ClassId) (a_t a_t_newNumbers a_t_needed : Nat) (sz : Nat) (f_t_needed : Nat → Int32) (x1 : Int32) (Q : (Nat → Int32) → Prop) (h : wX7_markOperand f_t_needed x1 Q) : Met l yX7_markOperand (Cond.code yX7_markOperand cX7_markOperand 2 none :: wsG) ({ frames := 2, cells := 0, slots := 0, locals := 40 } : Room) (va_Pc [.ref a_t, .int x1] (wPre D ca [(a_t, .inr (5, [.ref a_t_newNumbers, .ref a_t_needed])), (a_t_needed, .inl (ca 3, 41, .inl f_t_needed))] sz)) (qX7_markOperand D ca a_t a_t_newNumbers a_t_needed Q (va_A [(a_t, .inr (5, [.ref a_t_newNumbers, .ref a_t_needed])), (a_t_needed, .inl (ca 3, 41, .inl f_t_needed))] sz)) 0 0 (va_A [(a_t, .inr (5, [.ref a_t_newNumbers, .ref a_t_needed])), (a_t_needed, .inl (ca 3, 41, .inl f_t_needed))] sz) := by
  refine Met.ofW (cc := cX7_markOperand) (maxL := 2) (ret := none) (by decide) rfl ?_
  intro p e s m args below meth c s₁ B hml hv
  obtain ⟨rfl, hsz, hP, hK, hD0⟩ := hv
  have hx := B.exec
  have hb := B.bytes
  have hr := B.returns
  have hts := atoms_spec (ws := (Cond.code yX7_markOperand cX7_markOperand 2 none :: wsG)) B.pre
  have hq : ∀ w ∈ wsG, w.before _ s = true := fun w hw => hts w (List.mem_cons_of_mem _ hw)
  have hown : s.vm.findClass RX7 = some m.cls := findClass_of_methodNamed B.named
  have hlocks := B.notSynchronized
  subst hsz
  have hD := hD0.self (sz := s.heap.size)
  generalize hAe : va_A [(a_t, .inr (5, [.ref a_t_newNumbers, .ref a_t_needed])), (a_t_needed, .inl (ca 3, 41, .inl f_t_needed))] s.heap.size = A at hD ⊢
  have hA : ∀ q : Nat, s.heap.size ≤ q → A q := fun q h => by rw [← hAe]; exact Or.inr h
  have hS : va_S A s.heap s.heap [] := va_S.rf
  have hP : va_P D vwCl [(a_t, .inr (5, [.ref a_t_newNumbers, .ref a_t_needed])), (a_t_needed, .inl (ca 3, 41, .inl f_t_needed))] s.heap := hP
  have hl := lv_entry ([.ref a_t, .int x1]) (n := 2) (Nat.le_of_ble_eq_true rfl)
  rw [lg_entry_eq]
  generalize (lg_sl ([.ref a_t, .int x1]) ++ List.replicate (2 - (lg_sl ([.ref a_t, .int x1])).length) Slot.unset).toArray = ls at hl ⊢
  have hl : lv_has ls 2 [(0, .ref a_t), (1, .int x1)] := hl
  unfold wX7_markOperand at h
  refine lv_iload_n hx hb dX7_markOperand_0 rfl (lv_at hl 1 rfl) ?_
  refine cPi (As := [.int x1]) (rest := []) ⟨hx, hb, hml, hown, hts⟩ (mX5_isValue l x1 _ h) (va_cwS 1 hts (gS q_221 q_222 q_3 q_223) rfl rfl rfl (by decide +kernel) ⟨Nat.le_of_ble_eq_true rfl, Nat.le_of_ble_eq_true rfl⟩) hS rfl hl.1 rfl (Nat.le_of_ble_eq_true rfl) dX7_markOperand_1 ⟨Nat.le_of_ble_eq_true rfl, Nat.le_of_ble_eq_true rfl⟩ (fun r_1 H1 locs h hk1 hS => ?_)
  have hP := s_back hP hk1
  try dsimp only at h
  refine lv_if_eq (tgt := 17) hx hb dX7_markOperand_4 (by decide) (fun c9 => ?_) (fun c9 => ?_)
  · have h := h.1 c9
    exact W.vret hx hb hr (fun t ht hW => ⟨⟨f_t_needed, rfl, h, by rw [ht]; exact hP, va_K.moved hW.alike hK, hD⟩, hS.F ht⟩) hS.2.2 dX7_markOperand_17
  · have h := h.2 c9
    refine lv_aload_n hx hb dX7_markOperand_7 rfl (lv_at hl 0 rfl) ?_
    refine va_get (D := D) (ci := 5) (v := .ref a_t_needed) (C := RX7) (T := TX7) (N := 2) hx hb hq inX7g hown hK hP 0 rfl rfl 1 (by decide) (hq _ q_149) (fun _ h9 => h9) rfl dX7_markOperand_8 ?_
    refine lv_iload_n hx hb dX7_markOperand_11 rfl (lv_at hl 1 rfl) ?_
    refine cPi (As := [.int x1]) (rest := [.ref a_t_needed]) ⟨hx, hb, hml, hown, hts⟩ (mX5_numberOf l x1 _ h) (va_cwS 1 hts (gS q_224 q_225 q_3 q_226) rfl rfl rfl (by decide +kernel) ⟨Nat.le_of_ble_eq_true rfl, Nat.le_of_ble_eq_true rfl⟩) hS rfl hl.1 rfl (Nat.le_of_ble_eq_true rfl) dX7_markOperand_12 ⟨Nat.le_of_ble_eq_true rfl, Nat.le_of_ble_eq_true rfl⟩ (fun r_12 H1 locs h hk1 hS => ?_)
    have hP := s_back hP hk1
    try dsimp only at h
    refine lv_iconst (v := 1) hx hb dX7_markOperand_15 (by decide) ?_
    obtain ⟨hi9, h⟩ := h
    refine va_zast hx hb hK hP hD hS 1 3 rfl rfl hi9 dX7_markOperand_16 (fun H locs hP hD hS => ?_)
    have hP : va_P D vwCl [(a_t, .inr (5, [.ref a_t_newNumbers, .ref a_t_needed])), (a_t_needed, .inl (ca 3, 41, .inl (upd f_t_needed r_12.toNatClampNeg (vp_nar .boolean 1))))] H := hP
    have hD : va_D A [(a_t, .inr (5, [.ref a_t_newNumbers, .ref a_t_needed])), (a_t_needed, .inl (ca 3, 41, .inl (upd f_t_needed r_12.toNatClampNeg (vp_nar .boolean 1))))] := hD
    exact W.vret hx hb hr (fun t ht hW => ⟨⟨upd f_t_needed r_12.toNatClampNeg (vp_nar .boolean 1), rfl, h, by rw [ht]; exact hP, va_K.moved hW.alike hK, hD⟩, hS.F ht⟩) hS.2.2 dX7_markOperand_17

abbrev qX7_markNeeded (D : va_G) (ca : Nat → ClassId) (a_t a_t_newNumbers a_t_needed a_p a_p_operations a_p_firsts a_p_seconds : Nat) (p_width : Int32) (p_length : Int32) (p_result : Int32) (p_taskKind : Int32) (p_taskDivisor : Int32) (f_p_firsts : Nat → Int32) (f_p_seconds : Nat → Int32) (Q : (Nat → Int32) → Prop) (A : Nat → Prop) : Array Value → State → Outcome → State → Prop := va_Qv (fun (u : (Nat → Int32)) => Q u) (wEnd D ca (fun u : (Nat → Int32) => [(a_t, .inr (5, [.ref a_t_newNumbers, .ref a_t_needed])), (a_t_needed, .inl (ca 3, 41, .inl u)), (a_p, .inr (4, [.int p_width, .int p_length, .int p_result, .int p_taskKind, .int p_taskDivisor, .ref a_p_operations, .ref a_p_firsts, .ref a_p_seconds])), (a_p_firsts, .inl (ca 0, 40, .inl f_p_firsts)), (a_p_seconds, .inl (ca 0, 40, .inl f_p_seconds))]) A) A
def wX7_markNeeded_77 (x2_42 : Int32) (K42 : Int32 → (Nat → Int32) → Prop) (f_t_needed_77 : Nat → Int32) : Prop :=
  (∀ x2_77 : Int32, x2_77 = x2_42 + (-1) → K42 x2_77 f_t_needed_77)
def wX7_markNeeded_42 (f_p_firsts : Nat → Int32) (f_p_seconds : Nat → Int32) (Q : (Nat → Int32) → Prop) : Nat → Int32 → (Nat → Int32) → Prop
  | 0, _, _ => False
  | n9 + 1, x2_42, f_t_needed_42 =>
  ((x2_42 < 0 → Q f_t_needed_42) ∧ (¬ x2_42 < 0 → (vp_in (x2_42 + 1) 41 ∧ (((f_t_needed_42 (x2_42 + 1).toNatClampNeg) = 0 → wX7_markNeeded_77 x2_42 (wX7_markNeeded_42 f_p_firsts f_p_seconds Q n9) f_t_needed_42) ∧ (¬ (f_t_needed_42 (x2_42 + 1).toNatClampNeg) = 0 → (vp_in x2_42 40 ∧ wX7_markOperand f_t_needed_42 (f_p_firsts x2_42.toNatClampNeg) (fun f_t_needed_64 => (vp_in x2_42 40 ∧ wX7_markOperand f_t_needed_64 (f_p_seconds x2_42.toNatClampNeg) (fun f_t_needed_74 => wX7_markNeeded_77 x2_42 (wX7_markNeeded_42 f_p_firsts f_p_seconds Q n9) f_t_needed_74)))))))))
def wX7_markNeeded_28 (x2_2 : Int32) (f_t_needed_2 : Nat → Int32) (K2 : Int32 → (Nat → Int32) → Prop) (y2_28 : Int32) : Prop :=
  (vp_in x2_2 41 ∧ (∀ x2_29 : Int32, x2_29 = x2_2 + 1 → K2 x2_29 (upd f_t_needed_2 x2_2.toNatClampNeg (vp_nar .boolean y2_28))))
def wX7_markNeeded_2 (p_length : Int32) (p_result : Int32) (f_p_firsts : Nat → Int32) (f_p_seconds : Nat → Int32) (Q : (Nat → Int32) → Prop) : Nat → Int32 → (Nat → Int32) → Prop
  | 0, _, _ => False
  | n9 + 1, x2_2, f_t_needed_2 =>
  ((p_length < x2_2 → (∀ x2_41 : Int32, x2_41 = p_length - 1 → (∃ k9, wX7_markNeeded_42 f_p_firsts f_p_seconds Q k9 x2_41 f_t_needed_2))) ∧ (¬ p_length < x2_2 → ((x2_2 = p_result → wX7_markNeeded_28 x2_2 f_t_needed_2 (wX7_markNeeded_2 p_length p_result f_p_firsts f_p_seconds Q n9) 1) ∧ (¬ x2_2 = p_result → wX7_markNeeded_28 x2_2 f_t_needed_2 (wX7_markNeeded_2 p_length p_result f_p_firsts f_p_seconds Q n9) 0))))
def wX7_markNeeded (f_t_needed : Nat → Int32) (p_length : Int32) (p_result : Int32) (f_p_firsts : Nat → Int32) (f_p_seconds : Nat → Int32) (Q : (Nat → Int32) → Prop) : Prop :=
  (∃ k9, wX7_markNeeded_2 p_length p_result f_p_firsts f_p_seconds Q k9 0 f_t_needed)
set_option maxHeartbeats 4000000 in
set_option maxRecDepth 100000 in
theorem mX7_markNeeded (l : Launch) (D : va_G) (ca : Nat → ClassId) (a_t a_t_newNumbers a_t_needed a_p a_p_operations a_p_firsts a_p_seconds : Nat) (sz : Nat) (f_t_needed : Nat → Int32) (p_width : Int32) (p_length : Int32) (p_result : Int32) (p_taskKind : Int32) (p_taskDivisor : Int32) (f_p_firsts : Nat → Int32) (f_p_seconds : Nat → Int32) (Q : (Nat → Int32) → Prop) (h : wX7_markNeeded f_t_needed p_length p_result f_p_firsts f_p_seconds Q) : Met l yX7_markNeeded (Cond.code yX7_markNeeded cX7_markNeeded 3 none :: wsG) ({ frames := 3, cells := 0, slots := 0, locals := 61 } : Room) (va_Pc [.ref a_t, .ref a_p] (wPre D ca [(a_t, .inr (5, [.ref a_t_newNumbers, .ref a_t_needed])), (a_t_needed, .inl (ca 3, 41, .inl f_t_needed)), (a_p, .inr (4, [.int p_width, .int p_length, .int p_result, .int p_taskKind, .int p_taskDivisor, .ref a_p_operations, .ref a_p_firsts, .ref a_p_seconds])), (a_p_firsts, .inl (ca 0, 40, .inl f_p_firsts)), (a_p_seconds, .inl (ca 0, 40, .inl f_p_seconds))] sz)) (qX7_markNeeded D ca a_t a_t_newNumbers a_t_needed a_p a_p_operations a_p_firsts a_p_seconds p_width p_length p_result p_taskKind p_taskDivisor f_p_firsts f_p_seconds Q (va_A [(a_t, .inr (5, [.ref a_t_newNumbers, .ref a_t_needed])), (a_t_needed, .inl (ca 3, 41, .inl f_t_needed)), (a_p, .inr (4, [.int p_width, .int p_length, .int p_result, .int p_taskKind, .int p_taskDivisor, .ref a_p_operations, .ref a_p_firsts, .ref a_p_seconds])), (a_p_firsts, .inl (ca 0, 40, .inl f_p_firsts)), (a_p_seconds, .inl (ca 0, 40, .inl f_p_seconds))] sz)) 0 0 (va_A [(a_t, .inr (5, [.ref a_t_newNumbers, .ref a_t_needed])), (a_t_needed, .inl (ca 3, 41, .inl f_t_needed)), (a_p, .inr (4, [.int p_width, .int p_length, .int p_result, .int p_taskKind, .int p_taskDivisor, .ref a_p_operations, .ref a_p_firsts, .ref a_p_seconds])), (a_p_firsts, .inl (ca 0, 40, .inl f_p_firsts)), (a_p_seconds, .inl (ca 0, 40, .inl f_p_seconds))] sz) := by
  refine Met.ofW (cc := cX7_markNeeded) (maxL := 3) (ret := none) (by decide) rfl ?_
  intro p e s m args below meth c s₁ B hml hv
  obtain ⟨rfl, hsz, hP, hK, hD0⟩ := hv
  have hx := B.exec
  have hb := B.bytes
  have hr := B.returns
  have hts := atoms_spec (ws := (Cond.code yX7_markNeeded cX7_markNeeded 3 none :: wsG)) B.pre
  have hq : ∀ w ∈ wsG, w.before _ s = true := fun w hw => hts w (List.mem_cons_of_mem _ hw)
  have hown : s.vm.findClass RX7 = some m.cls := findClass_of_methodNamed B.named
  have hlocks := B.notSynchronized
  subst hsz
  have hD := hD0.self (sz := s.heap.size)
  generalize hAe : va_A [(a_t, .inr (5, [.ref a_t_newNumbers, .ref a_t_needed])), (a_t_needed, .inl (ca 3, 41, .inl f_t_needed)), (a_p, .inr (4, [.int p_width, .int p_length, .int p_result, .int p_taskKind, .int p_taskDivisor, .ref a_p_operations, .ref a_p_firsts, .ref a_p_seconds])), (a_p_firsts, .inl (ca 0, 40, .inl f_p_firsts)), (a_p_seconds, .inl (ca 0, 40, .inl f_p_seconds))] s.heap.size = A at hD ⊢
  have hA : ∀ q : Nat, s.heap.size ≤ q → A q := fun q h => by rw [← hAe]; exact Or.inr h
  have hS : va_S A s.heap s.heap [] := va_S.rf
  have hP : va_P D vwCl [(a_t, .inr (5, [.ref a_t_newNumbers, .ref a_t_needed])), (a_t_needed, .inl (ca 3, 41, .inl f_t_needed)), (a_p, .inr (4, [.int p_width, .int p_length, .int p_result, .int p_taskKind, .int p_taskDivisor, .ref a_p_operations, .ref a_p_firsts, .ref a_p_seconds])), (a_p_firsts, .inl (ca 0, 40, .inl f_p_firsts)), (a_p_seconds, .inl (ca 0, 40, .inl f_p_seconds))] s.heap := hP
  have hl := lv_entry ([.ref a_t, .ref a_p]) (n := 3) (Nat.le_of_ble_eq_true rfl)
  rw [lg_entry_eq]
  generalize (lg_sl ([.ref a_t, .ref a_p]) ++ List.replicate (3 - (lg_sl ([.ref a_t, .ref a_p])).length) Slot.unset).toArray = ls at hl ⊢
  have hl : lv_has ls 3 [(0, .ref a_t), (1, .ref a_p)] := hl
  unfold wX7_markNeeded at h
  refine lv_iconst (v := 0) hx hb dX7_markNeeded_0 (by decide) ?_
  refine lv_istore_n (lv' := [(2, .int 0), (0, .ref a_t), (1, .ref a_p)]) hx hb dX7_markNeeded_1 rfl hl (by decide) rfl (fun ls hl => ?_)
  have hL2 : ∀ (n9_2 : Nat) (x2_2 : Int32) (f_t_needed_2 : Nat → Int32) (H : Heap) (locs : List Loc) (ls : Array Slot), va_P D vwCl [(a_t, .inr (5, [.ref a_t_newNumbers, .ref a_t_needed])), (a_t_needed, .inl (ca 3, 41, .inl f_t_needed_2)), (a_p, .inr (4, [.int p_width, .int p_length, .int p_result, .int p_taskKind, .int p_taskDivisor, .ref a_p_operations, .ref a_p_firsts, .ref a_p_seconds])), (a_p_firsts, .inl (ca 0, 40, .inl f_p_firsts)), (a_p_seconds, .inl (ca 0, 40, .inl f_p_seconds))] H → va_D A [(a_t, .inr (5, [.ref a_t_newNumbers, .ref a_t_needed])), (a_t_needed, .inl (ca 3, 41, .inl f_t_needed_2)), (a_p, .inr (4, [.int p_width, .int p_length, .int p_result, .int p_taskKind, .int p_taskDivisor, .ref a_p_operations, .ref a_p_firsts, .ref a_p_seconds])), (a_p_firsts, .inl (ca 0, 40, .inl f_p_firsts)), (a_p_seconds, .inl (ca 0, 40, .inl f_p_seconds))] → va_S A s.heap H locs → lv_has ls 3 [(0, .ref a_t), (1, .ref a_p), (2, .int x2_2)] → wX7_markNeeded_2 p_length p_result f_p_firsts f_p_seconds Q n9_2 x2_2 f_t_needed_2 → W p l e (headSpec (Cond.code yX7_markNeeded cX7_markNeeded 3 none :: wsG) ({ frames := 3, cells := 0, slots := 0, locals := 61 } : Room)).room s m ([.ref a_t, .ref a_p] : List Value).toArray below meth c H locs 0 0 (MQ below (qX7_markNeeded D ca a_t a_t_newNumbers a_t_needed a_p a_p_operations a_p_firsts a_p_seconds p_width p_length p_result p_taskKind p_taskDivisor f_p_firsts f_p_seconds Q A) ([.ref a_t, .ref a_p] : List Value).toArray s 0 0 A) (F0 m 2 ls []) := by
    intro n9_2
    induction n9_2 with
    | zero =>
      intro x2_2 f_t_needed_2 H locs ls hP hD hS hl h
      exact False.elim h
    | succ n9_2 ih2 =>
      intro x2_2 f_t_needed_2 H locs ls hP hD hS hl h
      unfold wX7_markNeeded_2 at h
      refine lv_iload_n hx hb dX7_markNeeded_2 rfl (lv_at hl 2 rfl) ?_
      refine lv_aload_n hx hb dX7_markNeeded_3 rfl (lv_at hl 1 rfl) ?_
      refine va_get (D := D) (ci := 4) (v := .int p_length) (C := RX5) (T := TX5) (N := 8) hx hb hq inX5g hown hK hP 2 rfl rfl 1 (by decide) (hq _ q_48) (fun _ h9 => h9) rfl dX7_markNeeded_4 ?_
      refine lv_icmp_gt (tgt := 35) hx hb dX7_markNeeded_7 (by decide) (fun c9 => ?_) (fun c9 => ?_)
      · have h := h.1 c9
        refine lv_aload_n hx hb dX7_markNeeded_35 rfl (lv_at hl 1 rfl) ?_
        refine va_get (D := D) (ci := 4) (v := .int p_length) (C := RX5) (T := TX5) (N := 8) hx hb hq inX5g hown hK hP 2 rfl rfl 1 (by decide) (hq _ q_48) (fun _ h9 => h9) rfl dX7_markNeeded_36 ?_
        refine lv_iconst (v := 1) hx hb dX7_markNeeded_39 (by decide) ?_
        refine lv_isub hx hb dX7_markNeeded_40 ?_
        refine lv_topi (fun x2_41 ex2_41 => ?_)
        have h := h x2_41 ex2_41
        refine lv_istore_n (lv' := [(2, .int x2_41), (0, .ref a_t), (1, .ref a_p)]) hx hb dX7_markNeeded_41 rfl hl (by decide) rfl (fun ls hl => ?_)
        have hL42 : ∀ (n9_42 : Nat) (x2_42 : Int32) (f_t_needed_42 : Nat → Int32) (H : Heap) (locs : List Loc) (ls : Array Slot), va_P D vwCl [(a_t, .inr (5, [.ref a_t_newNumbers, .ref a_t_needed])), (a_t_needed, .inl (ca 3, 41, .inl f_t_needed_42)), (a_p, .inr (4, [.int p_width, .int p_length, .int p_result, .int p_taskKind, .int p_taskDivisor, .ref a_p_operations, .ref a_p_firsts, .ref a_p_seconds])), (a_p_firsts, .inl (ca 0, 40, .inl f_p_firsts)), (a_p_seconds, .inl (ca 0, 40, .inl f_p_seconds))] H → va_D A [(a_t, .inr (5, [.ref a_t_newNumbers, .ref a_t_needed])), (a_t_needed, .inl (ca 3, 41, .inl f_t_needed_42)), (a_p, .inr (4, [.int p_width, .int p_length, .int p_result, .int p_taskKind, .int p_taskDivisor, .ref a_p_operations, .ref a_p_firsts, .ref a_p_seconds])), (a_p_firsts, .inl (ca 0, 40, .inl f_p_firsts)), (a_p_seconds, .inl (ca 0, 40, .inl f_p_seconds))] → va_S A s.heap H locs → lv_has ls 3 [(0, .ref a_t), (1, .ref a_p), (2, .int x2_42)] → wX7_markNeeded_42 f_p_firsts f_p_seconds Q n9_42 x2_42 f_t_needed_42 → W p l e (headSpec (Cond.code yX7_markNeeded cX7_markNeeded 3 none :: wsG) ({ frames := 3, cells := 0, slots := 0, locals := 61 } : Room)).room s m ([.ref a_t, .ref a_p] : List Value).toArray below meth c H locs 0 0 (MQ below (qX7_markNeeded D ca a_t a_t_newNumbers a_t_needed a_p a_p_operations a_p_firsts a_p_seconds p_width p_length p_result p_taskKind p_taskDivisor f_p_firsts f_p_seconds Q A) ([.ref a_t, .ref a_p] : List Value).toArray s 0 0 A) (F0 m 42 ls []) := by
          intro n9_42
          induction n9_42 with
          | zero =>
            intro x2_42 f_t_needed_42 H locs ls hP hD hS hl h
            exact False.elim h
          | succ n9_42 ih42 =>
            intro x2_42 f_t_needed_42 H locs ls hP hD hS hl h
            unfold wX7_markNeeded_42 at h
            refine lv_iload_n hx hb dX7_markNeeded_42 rfl (lv_at hl 2 rfl) ?_
            refine lv_if_lt (tgt := 83) hx hb dX7_markNeeded_43 (by decide) (fun c9 => ?_) (fun c9 => ?_)
            · have h := h.1 c9
              exact W.vret hx hb hr (fun t ht hW => ⟨⟨f_t_needed_42, rfl, h, by rw [ht]; exact hP, va_K.moved hW.alike hK, hD⟩, hS.F ht⟩) hS.2.2 dX7_markNeeded_83
            · have h := h.2 c9
              refine lv_aload_n hx hb dX7_markNeeded_46 rfl (lv_at hl 0 rfl) ?_
              refine va_get (D := D) (ci := 5) (v := .ref a_t_needed) (C := RX7) (T := TX7) (N := 2) hx hb hq inX7g hown hK hP 0 rfl rfl 1 (by decide) (hq _ q_149) (fun _ h9 => h9) rfl dX7_markNeeded_47 ?_
              refine lv_iload_n hx hb dX7_markNeeded_50 rfl (lv_at hl 2 rfl) ?_
              refine lv_iconst (v := 1) hx hb dX7_markNeeded_51 (by decide) ?_
              refine lv_iadd hx hb dX7_markNeeded_52 ?_
              obtain ⟨hi9, h⟩ := h
              refine va_zald hx hb hK hP 1 3 rfl rfl hi9 dX7_markNeeded_53 ?_
              have hJ77 : ∀ (f_t_needed_77 : Nat → Int32) (H : Heap) (locs : List Loc) (ls : Array Slot), va_P D vwCl [(a_t, .inr (5, [.ref a_t_newNumbers, .ref a_t_needed])), (a_t_needed, .inl (ca 3, 41, .inl f_t_needed_77)), (a_p, .inr (4, [.int p_width, .int p_length, .int p_result, .int p_taskKind, .int p_taskDivisor, .ref a_p_operations, .ref a_p_firsts, .ref a_p_seconds])), (a_p_firsts, .inl (ca 0, 40, .inl f_p_firsts)), (a_p_seconds, .inl (ca 0, 40, .inl f_p_seconds))] H → va_D A [(a_t, .inr (5, [.ref a_t_newNumbers, .ref a_t_needed])), (a_t_needed, .inl (ca 3, 41, .inl f_t_needed_77)), (a_p, .inr (4, [.int p_width, .int p_length, .int p_result, .int p_taskKind, .int p_taskDivisor, .ref a_p_operations, .ref a_p_firsts, .ref a_p_seconds])), (a_p_firsts, .inl (ca 0, 40, .inl f_p_firsts)), (a_p_seconds, .inl (ca 0, 40, .inl f_p_seconds))] → va_S A s.heap H locs → lv_has ls 3 [(0, .ref a_t), (1, .ref a_p), (2, .int x2_42)] → wX7_markNeeded_77 x2_42 (wX7_markNeeded_42 f_p_firsts f_p_seconds Q n9_42) f_t_needed_77 → W p l e (headSpec (Cond.code yX7_markNeeded cX7_markNeeded 3 none :: wsG) ({ frames := 3, cells := 0, slots := 0, locals := 61 } : Room)).room s m ([.ref a_t, .ref a_p] : List Value).toArray below meth c H locs 0 0 (MQ below (qX7_markNeeded D ca a_t a_t_newNumbers a_t_needed a_p a_p_operations a_p_firsts a_p_seconds p_width p_length p_result p_taskKind p_taskDivisor f_p_firsts f_p_seconds Q A) ([.ref a_t, .ref a_p] : List Value).toArray s 0 0 A) (F0 m 77 ls []) := by
                intro f_t_needed_77 H locs ls hP hD hS hl h
                unfold wX7_markNeeded_77 at h
                obtain ⟨x2_77, ex2_77⟩ : ∃ y : Int32, y = x2_42 + (-1) := ⟨_, rfl⟩
                have h := h x2_77 ex2_77
                refine lv_iinc (v := x2_77) (lv' := [(2, .int x2_77), (0, .ref a_t), (1, .ref a_p)]) hx hb dX7_markNeeded_77 hl (k := 2) rfl (by rw [ex2_77]; rfl) (by decide) rfl (fun ls hl => ?_)
                refine lv_goto (tgt := 42) hx hb dX7_markNeeded_80 (by decide) ?_
                exact ih42 x2_77 f_t_needed_77 _ _ _ hP hD hS (lv_sub hl [1, 2, 0] rfl) h
              refine lv_if_eq (tgt := 77) hx hb dX7_markNeeded_54 (by decide) (fun c9 => ?_) (fun c9 => ?_)
              · have h := h.1 c9
                exact hJ77 f_t_needed_42 _ _ _ hP hD hS (lv_sub hl [0, 1, 2] rfl) h
              · have h := h.2 c9
                refine lv_aload_n hx hb dX7_markNeeded_57 rfl (lv_at hl 0 rfl) ?_
                refine lv_aload_n hx hb dX7_markNeeded_58 rfl (lv_at hl 1 rfl) ?_
                refine va_get (D := D) (ci := 4) (v := .ref a_p_firsts) (C := RX5) (T := TX5) (N := 8) hx hb hq inX5g hown hK hP 2 rfl rfl 6 (by decide) (hq _ q_67) (fun _ h9 => h9) rfl dX7_markNeeded_59 ?_
                refine lv_iload_n hx hb dX7_markNeeded_62 rfl (lv_at hl 2 rfl) ?_
                obtain ⟨hi9, h⟩ := h
                refine va_iald hx hb hK hP 3 0 rfl rfl hi9 dX7_markNeeded_63 ?_
                refine cVv (As := [.int (f_p_firsts x2_42.toNatClampNeg)]) (rest := []) (wc := [(a_t, .inr (5, [.ref a_t_newNumbers, .ref a_t_needed])), (a_t_needed, .inl (ca 3, 41, .inl f_t_needed_42))]) (wr := [(a_p, .inr (4, [.int p_width, .int p_length, .int p_result, .int p_taskKind, .int p_taskDivisor, .ref a_p_operations, .ref a_p_firsts, .ref a_p_seconds])), (a_p_firsts, .inl (ca 0, 40, .inl f_p_firsts)), (a_p_seconds, .inl (ca 0, 40, .inl f_p_seconds))]) (w1 := fun u : (Nat → Int32) => [(a_t, .inr (5, [.ref a_t_newNumbers, .ref a_t_needed])), (a_t_needed, .inl (ca 3, 41, .inl u))]) (ws2 := fun u : (Nat → Int32) => [(a_t, .inr (5, [.ref a_t_newNumbers, .ref a_t_needed])), (a_t_needed, .inl (ca 3, 41, .inl u)), (a_p, .inr (4, [.int p_width, .int p_length, .int p_result, .int p_taskKind, .int p_taskDivisor, .ref a_p_operations, .ref a_p_firsts, .ref a_p_seconds])), (a_p_firsts, .inl (ca 0, 40, .inl f_p_firsts)), (a_p_seconds, .inl (ca 0, 40, .inl f_p_seconds))]) ⟨hx, hb, hml, hown, hts⟩ (mX7_markOperand l D ca a_t a_t_newNumbers a_t_needed _ f_t_needed_42 (f_p_firsts x2_42.toNatClampNeg) _ h) (cwV 1 hts (gV q_240 q_242 qs_2 q_6 q_243) rfl rfl rfl (by decide +kernel) ⟨Nat.le_of_ble_eq_true rfl, Nat.le_of_ble_eq_true rfl⟩) hK hP hD hS hA [0, 1] [2, 3, 4] [3, 4, 0, 1, 2] rfl rfl rfl (by decide) (fun _ => rfl) (ci := 5) (q0 := 0) rfl rfl rfl hl.1 rfl (Nat.le_of_ble_eq_true rfl) dX7_markNeeded_64 ⟨Nat.le_of_ble_eq_true rfl, Nat.le_of_ble_eq_true rfl⟩ (fun u9 H locs h hP hD hS => ?_)
                obtain ⟨f_t_needed_64, rfl⟩ : ∃ z, z = u9 := ⟨_, rfl⟩
                have hP : va_P D vwCl [(a_t, .inr (5, [.ref a_t_newNumbers, .ref a_t_needed])), (a_t_needed, .inl (ca 3, 41, .inl f_t_needed_64)), (a_p, .inr (4, [.int p_width, .int p_length, .int p_result, .int p_taskKind, .int p_taskDivisor, .ref a_p_operations, .ref a_p_firsts, .ref a_p_seconds])), (a_p_firsts, .inl (ca 0, 40, .inl f_p_firsts)), (a_p_seconds, .inl (ca 0, 40, .inl f_p_seconds))] H := hP
                have hD : va_D A [(a_t, .inr (5, [.ref a_t_newNumbers, .ref a_t_needed])), (a_t_needed, .inl (ca 3, 41, .inl f_t_needed_64)), (a_p, .inr (4, [.int p_width, .int p_length, .int p_result, .int p_taskKind, .int p_taskDivisor, .ref a_p_operations, .ref a_p_firsts, .ref a_p_seconds])), (a_p_firsts, .inl (ca 0, 40, .inl f_p_firsts)), (a_p_seconds, .inl (ca 0, 40, .inl f_p_seconds))] := hD
                try dsimp only at h
                refine lv_aload_n hx hb dX7_markNeeded_67 rfl (lv_at hl 0 rfl) ?_
                refine lv_aload_n hx hb dX7_markNeeded_68 rfl (lv_at hl 1 rfl) ?_
                refine va_get (D := D) (ci := 4) (v := .ref a_p_seconds) (C := RX5) (T := TX5) (N := 8) hx hb hq inX5g hown hK hP 2 rfl rfl 7 (by decide) (hq _ q_72) (fun _ h9 => h9) rfl dX7_markNeeded_69 ?_
                refine lv_iload_n hx hb dX7_markNeeded_72 rfl (lv_at hl 2 rfl) ?_
                obtain ⟨hi9, h⟩ := h
                refine va_iald hx hb hK hP 4 0 rfl rfl hi9 dX7_markNeeded_73 ?_
                refine cVv (As := [.int (f_p_seconds x2_42.toNatClampNeg)]) (rest := []) (wc := [(a_t, .inr (5, [.ref a_t_newNumbers, .ref a_t_needed])), (a_t_needed, .inl (ca 3, 41, .inl f_t_needed_64))]) (wr := [(a_p, .inr (4, [.int p_width, .int p_length, .int p_result, .int p_taskKind, .int p_taskDivisor, .ref a_p_operations, .ref a_p_firsts, .ref a_p_seconds])), (a_p_firsts, .inl (ca 0, 40, .inl f_p_firsts)), (a_p_seconds, .inl (ca 0, 40, .inl f_p_seconds))]) (w1 := fun u : (Nat → Int32) => [(a_t, .inr (5, [.ref a_t_newNumbers, .ref a_t_needed])), (a_t_needed, .inl (ca 3, 41, .inl u))]) (ws2 := fun u : (Nat → Int32) => [(a_t, .inr (5, [.ref a_t_newNumbers, .ref a_t_needed])), (a_t_needed, .inl (ca 3, 41, .inl u)), (a_p, .inr (4, [.int p_width, .int p_length, .int p_result, .int p_taskKind, .int p_taskDivisor, .ref a_p_operations, .ref a_p_firsts, .ref a_p_seconds])), (a_p_firsts, .inl (ca 0, 40, .inl f_p_firsts)), (a_p_seconds, .inl (ca 0, 40, .inl f_p_seconds))]) ⟨hx, hb, hml, hown, hts⟩ (mX7_markOperand l D ca a_t a_t_newNumbers a_t_needed _ f_t_needed_64 (f_p_seconds x2_42.toNatClampNeg) _ h) (cwV 1 hts (gV q_240 q_242 qs_2 q_6 q_243) rfl rfl rfl (by decide +kernel) ⟨Nat.le_of_ble_eq_true rfl, Nat.le_of_ble_eq_true rfl⟩) hK hP hD hS hA [0, 1] [2, 3, 4] [3, 4, 0, 1, 2] rfl rfl rfl (by decide) (fun _ => rfl) (ci := 5) (q0 := 0) rfl rfl rfl hl.1 rfl (Nat.le_of_ble_eq_true rfl) dX7_markNeeded_74 ⟨Nat.le_of_ble_eq_true rfl, Nat.le_of_ble_eq_true rfl⟩ (fun u9 H locs h hP hD hS => ?_)
                obtain ⟨f_t_needed_74, rfl⟩ : ∃ z, z = u9 := ⟨_, rfl⟩
                have hP : va_P D vwCl [(a_t, .inr (5, [.ref a_t_newNumbers, .ref a_t_needed])), (a_t_needed, .inl (ca 3, 41, .inl f_t_needed_74)), (a_p, .inr (4, [.int p_width, .int p_length, .int p_result, .int p_taskKind, .int p_taskDivisor, .ref a_p_operations, .ref a_p_firsts, .ref a_p_seconds])), (a_p_firsts, .inl (ca 0, 40, .inl f_p_firsts)), (a_p_seconds, .inl (ca 0, 40, .inl f_p_seconds))] H := hP
                have hD : va_D A [(a_t, .inr (5, [.ref a_t_newNumbers, .ref a_t_needed])), (a_t_needed, .inl (ca 3, 41, .inl f_t_needed_74)), (a_p, .inr (4, [.int p_width, .int p_length, .int p_result, .int p_taskKind, .int p_taskDivisor, .ref a_p_operations, .ref a_p_firsts, .ref a_p_seconds])), (a_p_firsts, .inl (ca 0, 40, .inl f_p_firsts)), (a_p_seconds, .inl (ca 0, 40, .inl f_p_seconds))] := hD
                try dsimp only at h
                exact hJ77 f_t_needed_74 _ _ _ hP hD hS (lv_sub hl [0, 1, 2] rfl) h
        obtain ⟨k9, h⟩ := h
        exact hL42 k9 x2_41 f_t_needed_2 _ _ _ hP hD hS (lv_sub hl [1, 2, 0] rfl) h
      · have h := h.2 c9
        refine lv_aload_n hx hb dX7_markNeeded_10 rfl (lv_at hl 0 rfl) ?_
        refine va_get (D := D) (ci := 5) (v := .ref a_t_needed) (C := RX7) (T := TX7) (N := 2) hx hb hq inX7g hown hK hP 0 rfl rfl 1 (by decide) (hq _ q_149) (fun _ h9 => h9) rfl dX7_markNeeded_11 ?_
        refine lv_iload_n hx hb dX7_markNeeded_14 rfl (lv_at hl 2 rfl) ?_
        refine lv_iload_n hx hb dX7_markNeeded_15 rfl (lv_at hl 2 rfl) ?_
        refine lv_aload_n hx hb dX7_markNeeded_16 rfl (lv_at hl 1 rfl) ?_
        refine va_get (D := D) (ci := 4) (v := .int p_result) (C := RX5) (T := TX5) (N := 8) hx hb hq inX5g hown hK hP 2 rfl rfl 2 (by decide) (hq _ q_53) (fun _ h9 => h9) rfl dX7_markNeeded_17 ?_
        have hJ28 : ∀ (y2_28 : Int32) (H : Heap) (locs : List Loc) (ls : Array Slot), va_P D vwCl [(a_t, .inr (5, [.ref a_t_newNumbers, .ref a_t_needed])), (a_t_needed, .inl (ca 3, 41, .inl f_t_needed_2)), (a_p, .inr (4, [.int p_width, .int p_length, .int p_result, .int p_taskKind, .int p_taskDivisor, .ref a_p_operations, .ref a_p_firsts, .ref a_p_seconds])), (a_p_firsts, .inl (ca 0, 40, .inl f_p_firsts)), (a_p_seconds, .inl (ca 0, 40, .inl f_p_seconds))] H → va_D A [(a_t, .inr (5, [.ref a_t_newNumbers, .ref a_t_needed])), (a_t_needed, .inl (ca 3, 41, .inl f_t_needed_2)), (a_p, .inr (4, [.int p_width, .int p_length, .int p_result, .int p_taskKind, .int p_taskDivisor, .ref a_p_operations, .ref a_p_firsts, .ref a_p_seconds])), (a_p_firsts, .inl (ca 0, 40, .inl f_p_firsts)), (a_p_seconds, .inl (ca 0, 40, .inl f_p_seconds))] → va_S A s.heap H locs → lv_has ls 3 [(0, .ref a_t), (1, .ref a_p), (2, .int x2_2)] → wX7_markNeeded_28 x2_2 f_t_needed_2 (wX7_markNeeded_2 p_length p_result f_p_firsts f_p_seconds Q n9_2) y2_28 → W p l e (headSpec (Cond.code yX7_markNeeded cX7_markNeeded 3 none :: wsG) ({ frames := 3, cells := 0, slots := 0, locals := 61 } : Room)).room s m ([.ref a_t, .ref a_p] : List Value).toArray below meth c H locs 0 0 (MQ below (qX7_markNeeded D ca a_t a_t_newNumbers a_t_needed a_p a_p_operations a_p_firsts a_p_seconds p_width p_length p_result p_taskKind p_taskDivisor f_p_firsts f_p_seconds Q A) ([.ref a_t, .ref a_p] : List Value).toArray s 0 0 A) (F0 m 28 ls [.int y2_28, .int x2_2, .ref a_t_needed]) := by
          intro y2_28 H locs ls hP hD hS hl h
          unfold wX7_markNeeded_28 at h
          obtain ⟨hi9, h⟩ := h
          refine va_zast hx hb hK hP hD hS 1 3 rfl rfl hi9 dX7_markNeeded_28 (fun H locs hP hD hS => ?_)
          have hP : va_P D vwCl [(a_t, .inr (5, [.ref a_t_newNumbers, .ref a_t_needed])), (a_t_needed, .inl (ca 3, 41, .inl (upd f_t_needed_2 x2_2.toNatClampNeg (vp_nar .boolean y2_28)))), (a_p, .inr (4, [.int p_width, .int p_length, .int p_result, .int p_taskKind, .int p_taskDivisor, .ref a_p_operations, .ref a_p_firsts, .ref a_p_seconds])), (a_p_firsts, .inl (ca 0, 40, .inl f_p_firsts)), (a_p_seconds, .inl (ca 0, 40, .inl f_p_seconds))] H := hP
          have hD : va_D A [(a_t, .inr (5, [.ref a_t_newNumbers, .ref a_t_needed])), (a_t_needed, .inl (ca 3, 41, .inl (upd f_t_needed_2 x2_2.toNatClampNeg (vp_nar .boolean y2_28)))), (a_p, .inr (4, [.int p_width, .int p_length, .int p_result, .int p_taskKind, .int p_taskDivisor, .ref a_p_operations, .ref a_p_firsts, .ref a_p_seconds])), (a_p_firsts, .inl (ca 0, 40, .inl f_p_firsts)), (a_p_seconds, .inl (ca 0, 40, .inl f_p_seconds))] := hD
          obtain ⟨x2_29, ex2_29⟩ : ∃ y : Int32, y = x2_2 + 1 := ⟨_, rfl⟩
          have h := h x2_29 ex2_29
          refine lv_iinc (v := x2_29) (lv' := [(2, .int x2_29), (0, .ref a_t), (1, .ref a_p)]) hx hb dX7_markNeeded_29 hl (k := 2) rfl (by rw [ex2_29]; rfl) (by decide) rfl (fun ls hl => ?_)
          refine lv_goto (tgt := 2) hx hb dX7_markNeeded_32 (by decide) ?_
          exact ih2 x2_29 (upd f_t_needed_2 x2_2.toNatClampNeg (vp_nar .boolean y2_28)) _ _ _ hP hD hS (lv_sub hl [1, 2, 0] rfl) h
        refine lv_icmp_ne (tgt := 27) hx hb dX7_markNeeded_20 (by decide) (fun c9 => ?_) (fun c9 => ?_)
        · have h := h.2 c9
          refine lv_iconst (v := 0) hx hb dX7_markNeeded_27 (by decide) ?_
          exact hJ28 0 _ _ _ hP hD hS (lv_sub hl [0, 1, 2] rfl) h
        · have h := h.1 c9
          refine lv_iconst (v := 1) hx hb dX7_markNeeded_23 (by decide) ?_
          refine lv_goto (tgt := 28) hx hb dX7_markNeeded_24 (by decide) ?_
          exact hJ28 1 _ _ _ hP hD hS (lv_sub hl [0, 1, 2] rfl) h
  obtain ⟨k9, h⟩ := h
  exact hL2 k9 0 f_t_needed _ _ _ hP hD hS (lv_sub hl [1, 2, 0] rfl) h

abbrev qX7_removeUnneeded (D : va_G) (ca : Nat → ClassId) (a_t a_t_newNumbers a_t_needed a_p a_p_operations a_p_firsts a_p_seconds : Nat) (p_width : Int32) (p_taskKind : Int32) (p_taskDivisor : Int32) (Q : (Nat → Int32) → (Nat → Int32) → Int32 → Int32 → (Nat → Int32) → (Nat → Int32) → (Nat → Int32) → Prop) (A : Nat → Prop) : Array Value → State → Outcome → State → Prop := va_Qv (fun (u : (Nat → Int32) × (Nat → Int32) × Int32 × Int32 × (Nat → Int32) × (Nat → Int32) × (Nat → Int32)) => Q u.1 u.2.1 u.2.2.1 u.2.2.2.1 u.2.2.2.2.1 u.2.2.2.2.2.1 u.2.2.2.2.2.2) (wEnd D ca (fun u : (Nat → Int32) × (Nat → Int32) × Int32 × Int32 × (Nat → Int32) × (Nat → Int32) × (Nat → Int32) => [(a_t, .inr (5, [.ref a_t_newNumbers, .ref a_t_needed])), (a_t_newNumbers, .inl (ca 0, 41, .inl u.1)), (a_t_needed, .inl (ca 3, 41, .inl u.2.1)), (a_p, .inr (4, [.int p_width, .int u.2.2.1, .int u.2.2.2.1, .int p_taskKind, .int p_taskDivisor, .ref a_p_operations, .ref a_p_firsts, .ref a_p_seconds])), (a_p_operations, .inl (ca 0, 40, .inl u.2.2.2.2.1)), (a_p_firsts, .inl (ca 0, 40, .inl u.2.2.2.2.2.1)), (a_p_seconds, .inl (ca 0, 40, .inl u.2.2.2.2.2.2))]) A) A
def wX7_removeUnneeded_84 (x3_9 : Int32) (K9 : Int32 → Int32 → (Nat → Int32) → (Nat → Int32) → (Nat → Int32) → (Nat → Int32) → Prop) (x2_84 : Int32) (f_t_newNumbers_84 : Nat → Int32) (f_p_operations_84 : Nat → Int32) (f_p_firsts_84 : Nat → Int32) (f_p_seconds_84 : Nat → Int32) : Prop :=
  (∀ x3_84 : Int32, x3_84 = x3_9 + 1 → K9 x2_84 x3_84 f_t_newNumbers_84 f_p_operations_84 f_p_firsts_84 f_p_seconds_84)
def wX7_removeUnneeded_9 (p_length : Int32) (p_result : Int32) (Q : (Nat → Int32) → (Nat → Int32) → Int32 → Int32 → (Nat → Int32) → (Nat → Int32) → (Nat → Int32) → Prop) (f_t_needed_2 : Nat → Int32) : Nat → Int32 → Int32 → (Nat → Int32) → (Nat → Int32) → (Nat → Int32) → (Nat → Int32) → Prop
  | 0, _, _, _, _, _, _ => False
  | n9 + 1, x2_9, x3_9, f_t_newNumbers_9, f_p_operations_9, f_p_firsts_9, f_p_seconds_9 =>
  ((p_length ≤ x3_9 → (vp_in p_result 41 ∧ Q f_t_newNumbers_9 f_t_needed_2 x2_9 (f_t_newNumbers_9 p_result.toNatClampNeg) f_p_operations_9 f_p_firsts_9 f_p_seconds_9)) ∧ (¬ p_length ≤ x3_9 → (vp_in (x3_9 + 1) 41 ∧ (((f_t_needed_2 (x3_9 + 1).toNatClampNeg) = 0 → wX7_removeUnneeded_84 x3_9 (wX7_removeUnneeded_9 p_length p_result Q f_t_needed_2 n9) x2_9 f_t_newNumbers_9 f_p_operations_9 f_p_firsts_9 f_p_seconds_9) ∧ (¬ (f_t_needed_2 (x3_9 + 1).toNatClampNeg) = 0 → (vp_in x3_9 40 ∧ (vp_in x2_9 40 ∧ (vp_in x3_9 40 ∧ wX7_renumbered f_t_newNumbers_9 (f_p_firsts_9 x3_9.toNatClampNeg) (fun r_52 => (vp_in x2_9 40 ∧ (vp_in x3_9 40 ∧ wX7_renumbered f_t_newNumbers_9 (f_p_seconds_9 x3_9.toNatClampNeg) (fun r_68 => (vp_in x2_9 40 ∧ (∀ x2_72 : Int32, x2_72 = x2_9 + 1 → (vp_in (x3_9 + 1) 41 ∧ wX7_removeUnneeded_84 x3_9 (wX7_removeUnneeded_9 p_length p_result Q f_t_needed_2 n9) x2_72 (upd f_t_newNumbers_9 (x3_9 + 1).toNatClampNeg x2_72) (upd f_p_operations_9 x2_9.toNatClampNeg (f_p_operations_9 x3_9.toNatClampNeg)) (upd f_p_firsts_9 x2_9.toNatClampNeg r_52) (upd f_p_seconds_9 x2_9.toNatClampNeg r_68))))))))))))))))
def wX7_removeUnneeded (f_t_newNumbers : Nat → Int32) (f_t_needed : Nat → Int32) (p_length : Int32) (p_result : Int32) (f_p_operations : Nat → Int32) (f_p_firsts : Nat → Int32) (f_p_seconds : Nat → Int32) (Q : (Nat → Int32) → (Nat → Int32) → Int32 → Int32 → (Nat → Int32) → (Nat → Int32) → (Nat → Int32) → Prop) : Prop :=
  wX7_markNeeded f_t_needed p_length p_result f_p_firsts f_p_seconds (fun f_t_needed_2 => (∃ k9, wX7_removeUnneeded_9 p_length p_result Q f_t_needed_2 k9 0 0 f_t_newNumbers f_p_operations f_p_firsts f_p_seconds))
set_option maxHeartbeats 4000000 in
set_option maxRecDepth 100000 in
theorem mX7_removeUnneeded (l : Launch) (D : va_G) (ca : Nat → ClassId) (a_t a_t_newNumbers a_t_needed a_p a_p_operations a_p_firsts a_p_seconds : Nat) (sz : Nat) (f_t_newNumbers : Nat → Int32) (f_t_needed : Nat → Int32) (p_width : Int32) (p_length : Int32) (p_result : Int32) (p_taskKind : Int32) (p_taskDivisor : Int32) (f_p_operations : Nat → Int32) (f_p_firsts : Nat → Int32) (f_p_seconds : Nat → Int32) (Q : (Nat → Int32) → (Nat → Int32) → Int32 → Int32 → (Nat → Int32) → (Nat → Int32) → (Nat → Int32) → Prop) (h : wX7_removeUnneeded f_t_newNumbers f_t_needed p_length p_result f_p_operations f_p_firsts f_p_seconds Q) : Met l yX7_removeUnneeded (Cond.code yX7_removeUnneeded cX7_removeUnneeded 4 none :: wsG) ({ frames := 4, cells := 0, slots := 0, locals := 83 } : Room) (va_Pc [.ref a_t, .ref a_p] (wPre D ca [(a_t, .inr (5, [.ref a_t_newNumbers, .ref a_t_needed])), (a_t_newNumbers, .inl (ca 0, 41, .inl f_t_newNumbers)), (a_t_needed, .inl (ca 3, 41, .inl f_t_needed)), (a_p, .inr (4, [.int p_width, .int p_length, .int p_result, .int p_taskKind, .int p_taskDivisor, .ref a_p_operations, .ref a_p_firsts, .ref a_p_seconds])), (a_p_operations, .inl (ca 0, 40, .inl f_p_operations)), (a_p_firsts, .inl (ca 0, 40, .inl f_p_firsts)), (a_p_seconds, .inl (ca 0, 40, .inl f_p_seconds))] sz)) (qX7_removeUnneeded D ca a_t a_t_newNumbers a_t_needed a_p a_p_operations a_p_firsts a_p_seconds p_width p_taskKind p_taskDivisor Q (va_A [(a_t, .inr (5, [.ref a_t_newNumbers, .ref a_t_needed])), (a_t_newNumbers, .inl (ca 0, 41, .inl f_t_newNumbers)), (a_t_needed, .inl (ca 3, 41, .inl f_t_needed)), (a_p, .inr (4, [.int p_width, .int p_length, .int p_result, .int p_taskKind, .int p_taskDivisor, .ref a_p_operations, .ref a_p_firsts, .ref a_p_seconds])), (a_p_operations, .inl (ca 0, 40, .inl f_p_operations)), (a_p_firsts, .inl (ca 0, 40, .inl f_p_firsts)), (a_p_seconds, .inl (ca 0, 40, .inl f_p_seconds))] sz)) 0 0 (va_A [(a_t, .inr (5, [.ref a_t_newNumbers, .ref a_t_needed])), (a_t_newNumbers, .inl (ca 0, 41, .inl f_t_newNumbers)), (a_t_needed, .inl (ca 3, 41, .inl f_t_needed)), (a_p, .inr (4, [.int p_width, .int p_length, .int p_result, .int p_taskKind, .int p_taskDivisor, .ref a_p_operations, .ref a_p_firsts, .ref a_p_seconds])), (a_p_operations, .inl (ca 0, 40, .inl f_p_operations)), (a_p_firsts, .inl (ca 0, 40, .inl f_p_firsts)), (a_p_seconds, .inl (ca 0, 40, .inl f_p_seconds))] sz) := by
  refine Met.ofW (cc := cX7_removeUnneeded) (maxL := 4) (ret := none) (by decide) rfl ?_
  intro p e s m args below meth c s₁ B hml hv
  obtain ⟨rfl, hsz, hP, hK, hD0⟩ := hv
  have hx := B.exec
  have hb := B.bytes
  have hr := B.returns
  have hts := atoms_spec (ws := (Cond.code yX7_removeUnneeded cX7_removeUnneeded 4 none :: wsG)) B.pre
  have hq : ∀ w ∈ wsG, w.before _ s = true := fun w hw => hts w (List.mem_cons_of_mem _ hw)
  have hown : s.vm.findClass RX7 = some m.cls := findClass_of_methodNamed B.named
  have hlocks := B.notSynchronized
  subst hsz
  have hD := hD0.self (sz := s.heap.size)
  generalize hAe : va_A [(a_t, .inr (5, [.ref a_t_newNumbers, .ref a_t_needed])), (a_t_newNumbers, .inl (ca 0, 41, .inl f_t_newNumbers)), (a_t_needed, .inl (ca 3, 41, .inl f_t_needed)), (a_p, .inr (4, [.int p_width, .int p_length, .int p_result, .int p_taskKind, .int p_taskDivisor, .ref a_p_operations, .ref a_p_firsts, .ref a_p_seconds])), (a_p_operations, .inl (ca 0, 40, .inl f_p_operations)), (a_p_firsts, .inl (ca 0, 40, .inl f_p_firsts)), (a_p_seconds, .inl (ca 0, 40, .inl f_p_seconds))] s.heap.size = A at hD ⊢
  have hA : ∀ q : Nat, s.heap.size ≤ q → A q := fun q h => by rw [← hAe]; exact Or.inr h
  have hS : va_S A s.heap s.heap [] := va_S.rf
  have hP : va_P D vwCl [(a_t, .inr (5, [.ref a_t_newNumbers, .ref a_t_needed])), (a_t_newNumbers, .inl (ca 0, 41, .inl f_t_newNumbers)), (a_t_needed, .inl (ca 3, 41, .inl f_t_needed)), (a_p, .inr (4, [.int p_width, .int p_length, .int p_result, .int p_taskKind, .int p_taskDivisor, .ref a_p_operations, .ref a_p_firsts, .ref a_p_seconds])), (a_p_operations, .inl (ca 0, 40, .inl f_p_operations)), (a_p_firsts, .inl (ca 0, 40, .inl f_p_firsts)), (a_p_seconds, .inl (ca 0, 40, .inl f_p_seconds))] s.heap := hP
  have hl := lv_entry ([.ref a_t, .ref a_p]) (n := 4) (Nat.le_of_ble_eq_true rfl)
  rw [lg_entry_eq]
  generalize (lg_sl ([.ref a_t, .ref a_p]) ++ List.replicate (4 - (lg_sl ([.ref a_t, .ref a_p])).length) Slot.unset).toArray = ls at hl ⊢
  have hl : lv_has ls 4 [(0, .ref a_t), (1, .ref a_p)] := hl
  unfold wX7_removeUnneeded at h
  refine lv_aload_n hx hb dX7_removeUnneeded_0 rfl (lv_at hl 0 rfl) ?_
  refine lv_aload_n hx hb dX7_removeUnneeded_1 rfl (lv_at hl 1 rfl) ?_
  refine cVv (As := [.ref a_p]) (rest := []) (wc := [(a_t, .inr (5, [.ref a_t_newNumbers, .ref a_t_needed])), (a_t_needed, .inl (ca 3, 41, .inl f_t_needed)), (a_p, .inr (4, [.int p_width, .int p_length, .int p_result, .int p_taskKind, .int p_taskDivisor, .ref a_p_operations, .ref a_p_firsts, .ref a_p_seconds])), (a_p_firsts, .inl (ca 0, 40, .inl f_p_firsts)), (a_p_seconds, .inl (ca 0, 40, .inl f_p_seconds))]) (wr := [(a_t_newNumbers, .inl (ca 0, 41, .inl f_t_newNumbers)), (a_p_operations, .inl (ca 0, 40, .inl f_p_operations))]) (w1 := fun u : (Nat → Int32) => [(a_t, .inr (5, [.ref a_t_newNumbers, .ref a_t_needed])), (a_t_needed, .inl (ca 3, 41, .inl u)), (a_p, .inr (4, [.int p_width, .int p_length, .int p_result, .int p_taskKind, .int p_taskDivisor, .ref a_p_operations, .ref a_p_firsts, .ref a_p_seconds])), (a_p_firsts, .inl (ca 0, 40, .inl f_p_firsts)), (a_p_seconds, .inl (ca 0, 40, .inl f_p_seconds))]) (ws2 := fun u : (Nat → Int32) => [(a_t, .inr (5, [.ref a_t_newNumbers, .ref a_t_needed])), (a_t_newNumbers, .inl (ca 0, 41, .inl f_t_newNumbers)), (a_t_needed, .inl (ca 3, 41, .inl u)), (a_p, .inr (4, [.int p_width, .int p_length, .int p_result, .int p_taskKind, .int p_taskDivisor, .ref a_p_operations, .ref a_p_firsts, .ref a_p_seconds])), (a_p_operations, .inl (ca 0, 40, .inl f_p_operations)), (a_p_firsts, .inl (ca 0, 40, .inl f_p_firsts)), (a_p_seconds, .inl (ca 0, 40, .inl f_p_seconds))]) ⟨hx, hb, hml, hown, hts⟩ (mX7_markNeeded l D ca a_t a_t_newNumbers a_t_needed a_p a_p_operations a_p_firsts a_p_seconds _ f_t_needed p_width p_length p_result p_taskKind p_taskDivisor f_p_firsts f_p_seconds _ h) (cwV 1 hts (gV q_236 q_238 qs_1 q_6 q_239) rfl rfl rfl (by decide +kernel) ⟨Nat.le_of_ble_eq_true rfl, Nat.le_of_ble_eq_true rfl⟩) hK hP hD hS hA [0, 2, 3, 5, 6] [1, 4] [2, 0, 3, 4, 1, 5, 6] rfl rfl rfl (by decide) (fun _ => rfl) (ci := 5) (q0 := 0) rfl rfl rfl hl.1 rfl (Nat.le_of_ble_eq_true rfl) dX7_removeUnneeded_2 ⟨Nat.le_of_ble_eq_true rfl, Nat.le_of_ble_eq_true rfl⟩ (fun u9 H locs h hP hD hS => ?_)
  obtain ⟨f_t_needed_2, rfl⟩ : ∃ z, z = u9 := ⟨_, rfl⟩
  have hP : va_P D vwCl [(a_t, .inr (5, [.ref a_t_newNumbers, .ref a_t_needed])), (a_t_newNumbers, .inl (ca 0, 41, .inl f_t_newNumbers)), (a_t_needed, .inl (ca 3, 41, .inl f_t_needed_2)), (a_p, .inr (4, [.int p_width, .int p_length, .int p_result, .int p_taskKind, .int p_taskDivisor, .ref a_p_operations, .ref a_p_firsts, .ref a_p_seconds])), (a_p_operations, .inl (ca 0, 40, .inl f_p_operations)), (a_p_firsts, .inl (ca 0, 40, .inl f_p_firsts)), (a_p_seconds, .inl (ca 0, 40, .inl f_p_seconds))] H := hP
  have hD : va_D A [(a_t, .inr (5, [.ref a_t_newNumbers, .ref a_t_needed])), (a_t_newNumbers, .inl (ca 0, 41, .inl f_t_newNumbers)), (a_t_needed, .inl (ca 3, 41, .inl f_t_needed_2)), (a_p, .inr (4, [.int p_width, .int p_length, .int p_result, .int p_taskKind, .int p_taskDivisor, .ref a_p_operations, .ref a_p_firsts, .ref a_p_seconds])), (a_p_operations, .inl (ca 0, 40, .inl f_p_operations)), (a_p_firsts, .inl (ca 0, 40, .inl f_p_firsts)), (a_p_seconds, .inl (ca 0, 40, .inl f_p_seconds))] := hD
  try dsimp only at h
  refine lv_iconst (v := 0) hx hb dX7_removeUnneeded_5 (by decide) ?_
  refine lv_istore_n (lv' := [(2, .int 0), (0, .ref a_t), (1, .ref a_p)]) hx hb dX7_removeUnneeded_6 rfl hl (by decide) rfl (fun ls hl => ?_)
  refine lv_iconst (v := 0) hx hb dX7_removeUnneeded_7 (by decide) ?_
  refine lv_istore_n (lv' := [(3, .int 0), (2, .int 0), (0, .ref a_t), (1, .ref a_p)]) hx hb dX7_removeUnneeded_8 rfl hl (by decide) rfl (fun ls hl => ?_)
  have hL9 : ∀ (n9_9 : Nat) (x2_9 : Int32) (x3_9 : Int32) (f_t_newNumbers_9 : Nat → Int32) (f_p_operations_9 : Nat → Int32) (f_p_firsts_9 : Nat → Int32) (f_p_seconds_9 : Nat → Int32) (H : Heap) (locs : List Loc) (ls : Array Slot), va_P D vwCl [(a_t, .inr (5, [.ref a_t_newNumbers, .ref a_t_needed])), (a_t_newNumbers, .inl (ca 0, 41, .inl f_t_newNumbers_9)), (a_t_needed, .inl (ca 3, 41, .inl f_t_needed_2)), (a_p, .inr (4, [.int p_width, .int p_length, .int p_result, .int p_taskKind, .int p_taskDivisor, .ref a_p_operations, .ref a_p_firsts, .ref a_p_seconds])), (a_p_operations, .inl (ca 0, 40, .inl f_p_operations_9)), (a_p_firsts, .inl (ca 0, 40, .inl f_p_firsts_9)), (a_p_seconds, .inl (ca 0, 40, .inl f_p_seconds_9))] H → va_D A [(a_t, .inr (5, [.ref a_t_newNumbers, .ref a_t_needed])), (a_t_newNumbers, .inl (ca 0, 41, .inl f_t_newNumbers_9)), (a_t_needed, .inl (ca 3, 41, .inl f_t_needed_2)), (a_p, .inr (4, [.int p_width, .int p_length, .int p_result, .int p_taskKind, .int p_taskDivisor, .ref a_p_operations, .ref a_p_firsts, .ref a_p_seconds])), (a_p_operations, .inl (ca 0, 40, .inl f_p_operations_9)), (a_p_firsts, .inl (ca 0, 40, .inl f_p_firsts_9)), (a_p_seconds, .inl (ca 0, 40, .inl f_p_seconds_9))] → va_S A s.heap H locs → lv_has ls 4 [(0, .ref a_t), (1, .ref a_p), (2, .int x2_9), (3, .int x3_9)] → wX7_removeUnneeded_9 p_length p_result Q f_t_needed_2 n9_9 x2_9 x3_9 f_t_newNumbers_9 f_p_operations_9 f_p_firsts_9 f_p_seconds_9 → W p l e (headSpec (Cond.code yX7_removeUnneeded cX7_removeUnneeded 4 none :: wsG) ({ frames := 4, cells := 0, slots := 0, locals := 83 } : Room)).room s m ([.ref a_t, .ref a_p] : List Value).toArray below meth c H locs 0 0 (MQ below (qX7_removeUnneeded D ca a_t a_t_newNumbers a_t_needed a_p a_p_operations a_p_firsts a_p_seconds p_width p_taskKind p_taskDivisor Q A) ([.ref a_t, .ref a_p] : List Value).toArray s 0 0 A) (F0 m 9 ls []) := by
    intro n9_9
    induction n9_9 with
    | zero =>
      intro x2_9 x3_9 f_t_newNumbers_9 f_p_operations_9 f_p_firsts_9 f_p_seconds_9 H locs ls hP hD hS hl h
      exact False.elim h
    | succ n9_9 ih9 =>
      intro x2_9 x3_9 f_t_newNumbers_9 f_p_operations_9 f_p_firsts_9 f_p_seconds_9 H locs ls hP hD hS hl h
      unfold wX7_removeUnneeded_9 at h
      refine lv_iload_n hx hb dX7_removeUnneeded_9 rfl (lv_at hl 3 rfl) ?_
      refine lv_aload_n hx hb dX7_removeUnneeded_10 rfl (lv_at hl 1 rfl) ?_
      refine va_get (D := D) (ci := 4) (v := .int p_length) (C := RX5) (T := TX5) (N := 8) hx hb hq inX5g hown hK hP 3 rfl rfl 1 (by decide) (hq _ q_48) (fun _ h9 => h9) rfl dX7_removeUnneeded_11 ?_
      refine lv_icmp_ge (tgt := 90) hx hb dX7_removeUnneeded_14 (by decide) (fun c9 => ?_) (fun c9 => ?_)
      · have h := h.1 c9
        refine lv_aload_n hx hb dX7_removeUnneeded_90 rfl (lv_at hl 1 rfl) ?_
        refine lv_iload_n hx hb dX7_removeUnneeded_91 rfl (lv_at hl 2 rfl) ?_
        refine va_put (D := D) (ci := 4) (v := .int x2_9) (ty := .int) (C := RX5) (T := TX5) (N := 8) hx hb hq inX5g tyX5 tyX5_ok nmX5 hown hK hP hD hS 3 rfl rfl 1 (by decide) (hq _ q_48) (fun _ h9 => h9) rfl (by decide +kernel) rfl rfl (Nat.le_of_ble_eq_true rfl) dX7_removeUnneeded_92 (fun H locs hP hD hS => ?_)
        have hP : va_P D vwCl [(a_t, .inr (5, [.ref a_t_newNumbers, .ref a_t_needed])), (a_t_newNumbers, .inl (ca 0, 41, .inl f_t_newNumbers_9)), (a_t_needed, .inl (ca 3, 41, .inl f_t_needed_2)), (a_p, .inr (4, [.int p_width, .int x2_9, .int p_result, .int p_taskKind, .int p_taskDivisor, .ref a_p_operations, .ref a_p_firsts, .ref a_p_seconds])), (a_p_operations, .inl (ca 0, 40, .inl f_p_operations_9)), (a_p_firsts, .inl (ca 0, 40, .inl f_p_firsts_9)), (a_p_seconds, .inl (ca 0, 40, .inl f_p_seconds_9))] H := hP
        have hD : va_D A [(a_t, .inr (5, [.ref a_t_newNumbers, .ref a_t_needed])), (a_t_newNumbers, .inl (ca 0, 41, .inl f_t_newNumbers_9)), (a_t_needed, .inl (ca 3, 41, .inl f_t_needed_2)), (a_p, .inr (4, [.int p_width, .int x2_9, .int p_result, .int p_taskKind, .int p_taskDivisor, .ref a_p_operations, .ref a_p_firsts, .ref a_p_seconds])), (a_p_operations, .inl (ca 0, 40, .inl f_p_operations_9)), (a_p_firsts, .inl (ca 0, 40, .inl f_p_firsts_9)), (a_p_seconds, .inl (ca 0, 40, .inl f_p_seconds_9))] := hD
        refine lv_aload_n hx hb dX7_removeUnneeded_95 rfl (lv_at hl 1 rfl) ?_
        refine lv_aload_n hx hb dX7_removeUnneeded_96 rfl (lv_at hl 0 rfl) ?_
        refine va_get (D := D) (ci := 5) (v := .ref a_t_newNumbers) (C := RX7) (T := TX7) (N := 2) hx hb hq inX7g hown hK hP 0 rfl rfl 0 (by decide) (hq _ q_148) (fun _ h9 => h9) rfl dX7_removeUnneeded_97 ?_
        refine lv_aload_n hx hb dX7_removeUnneeded_100 rfl (lv_at hl 1 rfl) ?_
        refine va_get (D := D) (ci := 4) (v := .int p_result) (C := RX5) (T := TX5) (N := 8) hx hb hq inX5g hown hK hP 3 rfl rfl 2 (by decide) (hq _ q_53) (fun _ h9 => h9) rfl dX7_removeUnneeded_101 ?_
        obtain ⟨hi9, h⟩ := h
        refine va_iald hx hb hK hP 1 0 rfl rfl hi9 dX7_removeUnneeded_104 ?_
        refine va_put (D := D) (ci := 4) (v := .int (f_t_newNumbers_9 p_result.toNatClampNeg)) (ty := .int) (C := RX5) (T := TX5) (N := 8) hx hb hq inX5g tyX5 tyX5_ok nmX5 hown hK hP hD hS 3 rfl rfl 2 (by decide) (hq _ q_53) (fun _ h9 => h9) rfl (by decide +kernel) rfl rfl (Nat.le_of_ble_eq_true rfl) dX7_removeUnneeded_105 (fun H locs hP hD hS => ?_)
        have hP : va_P D vwCl [(a_t, .inr (5, [.ref a_t_newNumbers, .ref a_t_needed])), (a_t_newNumbers, .inl (ca 0, 41, .inl f_t_newNumbers_9)), (a_t_needed, .inl (ca 3, 41, .inl f_t_needed_2)), (a_p, .inr (4, [.int p_width, .int x2_9, .int (f_t_newNumbers_9 p_result.toNatClampNeg), .int p_taskKind, .int p_taskDivisor, .ref a_p_operations, .ref a_p_firsts, .ref a_p_seconds])), (a_p_operations, .inl (ca 0, 40, .inl f_p_operations_9)), (a_p_firsts, .inl (ca 0, 40, .inl f_p_firsts_9)), (a_p_seconds, .inl (ca 0, 40, .inl f_p_seconds_9))] H := hP
        have hD : va_D A [(a_t, .inr (5, [.ref a_t_newNumbers, .ref a_t_needed])), (a_t_newNumbers, .inl (ca 0, 41, .inl f_t_newNumbers_9)), (a_t_needed, .inl (ca 3, 41, .inl f_t_needed_2)), (a_p, .inr (4, [.int p_width, .int x2_9, .int (f_t_newNumbers_9 p_result.toNatClampNeg), .int p_taskKind, .int p_taskDivisor, .ref a_p_operations, .ref a_p_firsts, .ref a_p_seconds])), (a_p_operations, .inl (ca 0, 40, .inl f_p_operations_9)), (a_p_firsts, .inl (ca 0, 40, .inl f_p_firsts_9)), (a_p_seconds, .inl (ca 0, 40, .inl f_p_seconds_9))] := hD
        exact W.vret hx hb hr (fun t ht hW => ⟨⟨(f_t_newNumbers_9, f_t_needed_2, x2_9, f_t_newNumbers_9 p_result.toNatClampNeg, f_p_operations_9, f_p_firsts_9, f_p_seconds_9), rfl, h, by rw [ht]; exact hP, va_K.moved hW.alike hK, hD⟩, hS.F ht⟩) hS.2.2 dX7_removeUnneeded_108
      · have h := h.2 c9
        refine lv_aload_n hx hb dX7_removeUnneeded_17 rfl (lv_at hl 0 rfl) ?_
        refine va_get (D := D) (ci := 5) (v := .ref a_t_needed) (C := RX7) (T := TX7) (N := 2) hx hb hq inX7g hown hK hP 0 rfl rfl 1 (by decide) (hq _ q_149) (fun _ h9 => h9) rfl dX7_removeUnneeded_18 ?_
        refine lv_iload_n hx hb dX7_removeUnneeded_21 rfl (lv_at hl 3 rfl) ?_
        refine lv_iconst (v := 1) hx hb dX7_removeUnneeded_22 (by decide) ?_
        refine lv_iadd hx hb dX7_removeUnneeded_23 ?_
        obtain ⟨hi9, h⟩ := h
        refine va_zald hx hb hK hP 2 3 rfl rfl hi9 dX7_removeUnneeded_24 ?_
        have hJ84 : ∀ (x2_84 : Int32) (f_t_newNumbers_84 : Nat → Int32) (f_p_operations_84 : Nat → Int32) (f_p_firsts_84 : Nat → Int32) (f_p_seconds_84 : Nat → Int32) (H : Heap) (locs : List Loc) (ls : Array Slot), va_P D vwCl [(a_t, .inr (5, [.ref a_t_newNumbers, .ref a_t_needed])), (a_t_newNumbers, .inl (ca 0, 41, .inl f_t_newNumbers_84)), (a_t_needed, .inl (ca 3, 41, .inl f_t_needed_2)), (a_p, .inr (4, [.int p_width, .int p_length, .int p_result, .int p_taskKind, .int p_taskDivisor, .ref a_p_operations, .ref a_p_firsts, .ref a_p_seconds])), (a_p_operations, .inl (ca 0, 40, .inl f_p_operations_84)), (a_p_firsts, .inl (ca 0, 40, .inl f_p_firsts_84)), (a_p_seconds, .inl (ca 0, 40, .inl f_p_seconds_84))] H → va_D A [(a_t, .inr (5, [.ref a_t_newNumbers, .ref a_t_needed])), (a_t_newNumbers, .inl (ca 0, 41, .inl f_t_newNumbers_84)), (a_t_needed, .inl (ca 3, 41, .inl f_t_needed_2)), (a_p, .inr (4, [.int p_width, .int p_length, .int p_result, .int p_taskKind, .int p_taskDivisor, .ref a_p_operations, .ref a_p_firsts, .ref a_p_seconds])), (a_p_operations, .inl (ca 0, 40, .inl f_p_operations_84)), (a_p_firsts, .inl (ca 0, 40, .inl f_p_firsts_84)), (a_p_seconds, .inl (ca 0, 40, .inl f_p_seconds_84))] → va_S A s.heap H locs → lv_has ls 4 [(0, .ref a_t), (1, .ref a_p), (2, .int x2_84), (3, .int x3_9)] → wX7_removeUnneeded_84 x3_9 (wX7_removeUnneeded_9 p_length p_result Q f_t_needed_2 n9_9) x2_84 f_t_newNumbers_84 f_p_operations_84 f_p_firsts_84 f_p_seconds_84 → W p l e (headSpec (Cond.code yX7_removeUnneeded cX7_removeUnneeded 4 none :: wsG) ({ frames := 4, cells := 0, slots := 0, locals := 83 } : Room)).room s m ([.ref a_t, .ref a_p] : List Value).toArray below meth c H locs 0 0 (MQ below (qX7_removeUnneeded D ca a_t a_t_newNumbers a_t_needed a_p a_p_operations a_p_firsts a_p_seconds p_width p_taskKind p_taskDivisor Q A) ([.ref a_t, .ref a_p] : List Value).toArray s 0 0 A) (F0 m 84 ls []) := by
          intro x2_84 f_t_newNumbers_84 f_p_operations_84 f_p_firsts_84 f_p_seconds_84 H locs ls hP hD hS hl h
          unfold wX7_removeUnneeded_84 at h
          obtain ⟨x3_84, ex3_84⟩ : ∃ y : Int32, y = x3_9 + 1 := ⟨_, rfl⟩
          have h := h x3_84 ex3_84
          refine lv_iinc (v := x3_84) (lv' := [(3, .int x3_84), (0, .ref a_t), (1, .ref a_p), (2, .int x2_84)]) hx hb dX7_removeUnneeded_84 hl (k := 3) rfl (by rw [ex3_84]; rfl) (by decide) rfl (fun ls hl => ?_)
          refine lv_goto (tgt := 9) hx hb dX7_removeUnneeded_87 (by decide) ?_
          exact ih9 x2_84 x3_84 f_t_newNumbers_84 f_p_operations_84 f_p_firsts_84 f_p_seconds_84 _ _ _ hP hD hS (lv_sub hl [1, 2, 3, 0] rfl) h
        refine lv_if_eq (tgt := 84) hx hb dX7_removeUnneeded_25 (by decide) (fun c9 => ?_) (fun c9 => ?_)
        · have h := h.1 c9
          exact hJ84 x2_9 f_t_newNumbers_9 f_p_operations_9 f_p_firsts_9 f_p_seconds_9 _ _ _ hP hD hS (lv_sub hl [0, 1, 2, 3] rfl) h
        · have h := h.2 c9
          refine lv_aload_n hx hb dX7_removeUnneeded_28 rfl (lv_at hl 1 rfl) ?_
          refine va_get (D := D) (ci := 4) (v := .ref a_p_operations) (C := RX5) (T := TX5) (N := 8) hx hb hq inX5g hown hK hP 3 rfl rfl 5 (by decide) (hq _ q_62) (fun _ h9 => h9) rfl dX7_removeUnneeded_29 ?_
          refine lv_iload_n hx hb dX7_removeUnneeded_32 rfl (lv_at hl 2 rfl) ?_
          refine lv_aload_n hx hb dX7_removeUnneeded_33 rfl (lv_at hl 1 rfl) ?_
          refine va_get (D := D) (ci := 4) (v := .ref a_p_operations) (C := RX5) (T := TX5) (N := 8) hx hb hq inX5g hown hK hP 3 rfl rfl 5 (by decide) (hq _ q_62) (fun _ h9 => h9) rfl dX7_removeUnneeded_34 ?_
          refine lv_iload_n hx hb dX7_removeUnneeded_37 rfl (lv_at hl 3 rfl) ?_
          obtain ⟨hi9, h⟩ := h
          refine va_iald hx hb hK hP 4 0 rfl rfl hi9 dX7_removeUnneeded_38 ?_
          obtain ⟨hi9, h⟩ := h
          refine va_iast hx hb hK hP hD hS 4 0 rfl rfl hi9 dX7_removeUnneeded_39 (fun H locs hP hD hS => ?_)
          have hP : va_P D vwCl [(a_t, .inr (5, [.ref a_t_newNumbers, .ref a_t_needed])), (a_t_newNumbers, .inl (ca 0, 41, .inl f_t_newNumbers_9)), (a_t_needed, .inl (ca 3, 41, .inl f_t_needed_2)), (a_p, .inr (4, [.int p_width, .int p_length, .int p_result, .int p_taskKind, .int p_taskDivisor, .ref a_p_operations, .ref a_p_firsts, .ref a_p_seconds])), (a_p_operations, .inl (ca 0, 40, .inl (upd f_p_operations_9 x2_9.toNatClampNeg (f_p_operations_9 x3_9.toNatClampNeg)))), (a_p_firsts, .inl (ca 0, 40, .inl f_p_firsts_9)), (a_p_seconds, .inl (ca 0, 40, .inl f_p_seconds_9))] H := hP
          have hD : va_D A [(a_t, .inr (5, [.ref a_t_newNumbers, .ref a_t_needed])), (a_t_newNumbers, .inl (ca 0, 41, .inl f_t_newNumbers_9)), (a_t_needed, .inl (ca 3, 41, .inl f_t_needed_2)), (a_p, .inr (4, [.int p_width, .int p_length, .int p_result, .int p_taskKind, .int p_taskDivisor, .ref a_p_operations, .ref a_p_firsts, .ref a_p_seconds])), (a_p_operations, .inl (ca 0, 40, .inl (upd f_p_operations_9 x2_9.toNatClampNeg (f_p_operations_9 x3_9.toNatClampNeg)))), (a_p_firsts, .inl (ca 0, 40, .inl f_p_firsts_9)), (a_p_seconds, .inl (ca 0, 40, .inl f_p_seconds_9))] := hD
          refine lv_aload_n hx hb dX7_removeUnneeded_40 rfl (lv_at hl 1 rfl) ?_
          refine va_get (D := D) (ci := 4) (v := .ref a_p_firsts) (C := RX5) (T := TX5) (N := 8) hx hb hq inX5g hown hK hP 3 rfl rfl 6 (by decide) (hq _ q_67) (fun _ h9 => h9) rfl dX7_removeUnneeded_41 ?_
          refine lv_iload_n hx hb dX7_removeUnneeded_44 rfl (lv_at hl 2 rfl) ?_
          refine lv_aload_n hx hb dX7_removeUnneeded_45 rfl (lv_at hl 0 rfl) ?_
          refine lv_aload_n hx hb dX7_removeUnneeded_46 rfl (lv_at hl 1 rfl) ?_
          refine va_get (D := D) (ci := 4) (v := .ref a_p_firsts) (C := RX5) (T := TX5) (N := 8) hx hb hq inX5g hown hK hP 3 rfl rfl 6 (by decide) (hq _ q_67) (fun _ h9 => h9) rfl dX7_removeUnneeded_47 ?_
          refine lv_iload_n hx hb dX7_removeUnneeded_50 rfl (lv_at hl 3 rfl) ?_
          obtain ⟨hi9, h⟩ := h
          refine va_iald hx hb hK hP 5 0 rfl rfl hi9 dX7_removeUnneeded_51 ?_
          refine cVi (As := [.int (f_p_firsts_9 x3_9.toNatClampNeg)]) (rest := [.int x2_9, .ref a_p_firsts]) (wc := [(a_t, .inr (5, [.ref a_t_newNumbers, .ref a_t_needed])), (a_t_newNumbers, .inl (ca 0, 41, .inl f_t_newNumbers_9))]) (wr := [(a_t_needed, .inl (ca 3, 41, .inl f_t_needed_2)), (a_p, .inr (4, [.int p_width, .int p_length, .int p_result, .int p_taskKind, .int p_taskDivisor, .ref a_p_operations, .ref a_p_firsts, .ref a_p_seconds])), (a_p_operations, .inl (ca 0, 40, .inl (upd f_p_operations_9 x2_9.toNatClampNeg (f_p_operations_9 x3_9.toNatClampNeg)))), (a_p_firsts, .inl (ca 0, 40, .inl f_p_firsts_9)), (a_p_seconds, .inl (ca 0, 40, .inl f_p_seconds_9))]) (w1 := fun _ : Unit => [(a_t, .inr (5, [.ref a_t_newNumbers, .ref a_t_needed])), (a_t_newNumbers, .inl (ca 0, 41, .inl f_t_newNumbers_9))]) (ws2 := fun _ : Unit => [(a_t, .inr (5, [.ref a_t_newNumbers, .ref a_t_needed])), (a_t_newNumbers, .inl (ca 0, 41, .inl f_t_newNumbers_9)), (a_t_needed, .inl (ca 3, 41, .inl f_t_needed_2)), (a_p, .inr (4, [.int p_width, .int p_length, .int p_result, .int p_taskKind, .int p_taskDivisor, .ref a_p_operations, .ref a_p_firsts, .ref a_p_seconds])), (a_p_operations, .inl (ca 0, 40, .inl (upd f_p_operations_9 x2_9.toNatClampNeg (f_p_operations_9 x3_9.toNatClampNeg)))), (a_p_firsts, .inl (ca 0, 40, .inl f_p_firsts_9)), (a_p_seconds, .inl (ca 0, 40, .inl f_p_seconds_9))]) ⟨hx, hb, hml, hown, hts⟩ (mX7_renumbered l D ca a_t a_t_newNumbers a_t_needed _ f_t_newNumbers_9 (f_p_firsts_9 x3_9.toNatClampNeg) _ h) (cwV 1 hts (gV q_217 q_219 qs_0 q_6 q_220) rfl rfl rfl (by decide +kernel) ⟨Nat.le_of_ble_eq_true rfl, Nat.le_of_ble_eq_true rfl⟩) hK hP hD hS hA [0, 1] [2, 3, 4, 5, 6] [5, 6, 0, 1, 2, 3, 4] rfl rfl rfl (by decide) (fun _ => rfl) (ci := 5) (q0 := 0) rfl rfl rfl hl.1 rfl (Nat.le_of_ble_eq_true rfl) dX7_removeUnneeded_52 ⟨Nat.le_of_ble_eq_true rfl, Nat.le_of_ble_eq_true rfl⟩ (fun r_52 u9 H locs h hP hD hS => ?_)
          try dsimp only at h
          obtain ⟨hi9, h⟩ := h
          refine va_iast hx hb hK hP hD hS 5 0 rfl rfl hi9 dX7_removeUnneeded_55 (fun H locs hP hD hS => ?_)
          have hP : va_P D vwCl [(a_t, .inr (5, [.ref a_t_newNumbers, .ref a_t_needed])), (a_t_newNumbers, .inl (ca 0, 41, .inl f_t_newNumbers_9)), (a_t_needed, .inl (ca 3, 41, .inl f_t_needed_2)), (a_p, .inr (4, [.int p_width, .int p_length, .int p_result, .int p_taskKind, .int p_taskDivisor, .ref a_p_operations, .ref a_p_firsts, .ref a_p_seconds])), (a_p_operations, .inl (ca 0, 40, .inl (upd f_p_operations_9 x2_9.toNatClampNeg (f_p_operations_9 x3_9.toNatClampNeg)))), (a_p_firsts, .inl (ca 0, 40, .inl (upd f_p_firsts_9 x2_9.toNatClampNeg r_52))), (a_p_seconds, .inl (ca 0, 40, .inl f_p_seconds_9))] H := hP
          have hD : va_D A [(a_t, .inr (5, [.ref a_t_newNumbers, .ref a_t_needed])), (a_t_newNumbers, .inl (ca 0, 41, .inl f_t_newNumbers_9)), (a_t_needed, .inl (ca 3, 41, .inl f_t_needed_2)), (a_p, .inr (4, [.int p_width, .int p_length, .int p_result, .int p_taskKind, .int p_taskDivisor, .ref a_p_operations, .ref a_p_firsts, .ref a_p_seconds])), (a_p_operations, .inl (ca 0, 40, .inl (upd f_p_operations_9 x2_9.toNatClampNeg (f_p_operations_9 x3_9.toNatClampNeg)))), (a_p_firsts, .inl (ca 0, 40, .inl (upd f_p_firsts_9 x2_9.toNatClampNeg r_52))), (a_p_seconds, .inl (ca 0, 40, .inl f_p_seconds_9))] := hD
          refine lv_aload_n hx hb dX7_removeUnneeded_56 rfl (lv_at hl 1 rfl) ?_
          refine va_get (D := D) (ci := 4) (v := .ref a_p_seconds) (C := RX5) (T := TX5) (N := 8) hx hb hq inX5g hown hK hP 3 rfl rfl 7 (by decide) (hq _ q_72) (fun _ h9 => h9) rfl dX7_removeUnneeded_57 ?_
          refine lv_iload_n hx hb dX7_removeUnneeded_60 rfl (lv_at hl 2 rfl) ?_
          refine lv_aload_n hx hb dX7_removeUnneeded_61 rfl (lv_at hl 0 rfl) ?_
          refine lv_aload_n hx hb dX7_removeUnneeded_62 rfl (lv_at hl 1 rfl) ?_
          refine va_get (D := D) (ci := 4) (v := .ref a_p_seconds) (C := RX5) (T := TX5) (N := 8) hx hb hq inX5g hown hK hP 3 rfl rfl 7 (by decide) (hq _ q_72) (fun _ h9 => h9) rfl dX7_removeUnneeded_63 ?_
          refine lv_iload_n hx hb dX7_removeUnneeded_66 rfl (lv_at hl 3 rfl) ?_
          obtain ⟨hi9, h⟩ := h
          refine va_iald hx hb hK hP 6 0 rfl rfl hi9 dX7_removeUnneeded_67 ?_
          refine cVi (As := [.int (f_p_seconds_9 x3_9.toNatClampNeg)]) (rest := [.int x2_9, .ref a_p_seconds]) (wc := [(a_t, .inr (5, [.ref a_t_newNumbers, .ref a_t_needed])), (a_t_newNumbers, .inl (ca 0, 41, .inl f_t_newNumbers_9))]) (wr := [(a_t_needed, .inl (ca 3, 41, .inl f_t_needed_2)), (a_p, .inr (4, [.int p_width, .int p_length, .int p_result, .int p_taskKind, .int p_taskDivisor, .ref a_p_operations, .ref a_p_firsts, .ref a_p_seconds])), (a_p_operations, .inl (ca 0, 40, .inl (upd f_p_operations_9 x2_9.toNatClampNeg (f_p_operations_9 x3_9.toNatClampNeg)))), (a_p_firsts, .inl (ca 0, 40, .inl (upd f_p_firsts_9 x2_9.toNatClampNeg r_52))), (a_p_seconds, .inl (ca 0, 40, .inl f_p_seconds_9))]) (w1 := fun _ : Unit => [(a_t, .inr (5, [.ref a_t_newNumbers, .ref a_t_needed])), (a_t_newNumbers, .inl (ca 0, 41, .inl f_t_newNumbers_9))]) (ws2 := fun _ : Unit => [(a_t, .inr (5, [.ref a_t_newNumbers, .ref a_t_needed])), (a_t_newNumbers, .inl (ca 0, 41, .inl f_t_newNumbers_9)), (a_t_needed, .inl (ca 3, 41, .inl f_t_needed_2)), (a_p, .inr (4, [.int p_width, .int p_length, .int p_result, .int p_taskKind, .int p_taskDivisor, .ref a_p_operations, .ref a_p_firsts, .ref a_p_seconds])), (a_p_operations, .inl (ca 0, 40, .inl (upd f_p_operations_9 x2_9.toNatClampNeg (f_p_operations_9 x3_9.toNatClampNeg)))), (a_p_firsts, .inl (ca 0, 40, .inl (upd f_p_firsts_9 x2_9.toNatClampNeg r_52))), (a_p_seconds, .inl (ca 0, 40, .inl f_p_seconds_9))]) ⟨hx, hb, hml, hown, hts⟩ (mX7_renumbered l D ca a_t a_t_newNumbers a_t_needed _ f_t_newNumbers_9 (f_p_seconds_9 x3_9.toNatClampNeg) _ h) (cwV 1 hts (gV q_217 q_219 qs_0 q_6 q_220) rfl rfl rfl (by decide +kernel) ⟨Nat.le_of_ble_eq_true rfl, Nat.le_of_ble_eq_true rfl⟩) hK hP hD hS hA [0, 1] [2, 3, 4, 5, 6] [5, 6, 0, 1, 2, 3, 4] rfl rfl rfl (by decide) (fun _ => rfl) (ci := 5) (q0 := 0) rfl rfl rfl hl.1 rfl (Nat.le_of_ble_eq_true rfl) dX7_removeUnneeded_68 ⟨Nat.le_of_ble_eq_true rfl, Nat.le_of_ble_eq_true rfl⟩ (fun r_68 u9 H locs h hP hD hS => ?_)
          try dsimp only at h
          obtain ⟨hi9, h⟩ := h
          refine va_iast hx hb hK hP hD hS 6 0 rfl rfl hi9 dX7_removeUnneeded_71 (fun H locs hP hD hS => ?_)
          have hP : va_P D vwCl [(a_t, .inr (5, [.ref a_t_newNumbers, .ref a_t_needed])), (a_t_newNumbers, .inl (ca 0, 41, .inl f_t_newNumbers_9)), (a_t_needed, .inl (ca 3, 41, .inl f_t_needed_2)), (a_p, .inr (4, [.int p_width, .int p_length, .int p_result, .int p_taskKind, .int p_taskDivisor, .ref a_p_operations, .ref a_p_firsts, .ref a_p_seconds])), (a_p_operations, .inl (ca 0, 40, .inl (upd f_p_operations_9 x2_9.toNatClampNeg (f_p_operations_9 x3_9.toNatClampNeg)))), (a_p_firsts, .inl (ca 0, 40, .inl (upd f_p_firsts_9 x2_9.toNatClampNeg r_52))), (a_p_seconds, .inl (ca 0, 40, .inl (upd f_p_seconds_9 x2_9.toNatClampNeg r_68)))] H := hP
          have hD : va_D A [(a_t, .inr (5, [.ref a_t_newNumbers, .ref a_t_needed])), (a_t_newNumbers, .inl (ca 0, 41, .inl f_t_newNumbers_9)), (a_t_needed, .inl (ca 3, 41, .inl f_t_needed_2)), (a_p, .inr (4, [.int p_width, .int p_length, .int p_result, .int p_taskKind, .int p_taskDivisor, .ref a_p_operations, .ref a_p_firsts, .ref a_p_seconds])), (a_p_operations, .inl (ca 0, 40, .inl (upd f_p_operations_9 x2_9.toNatClampNeg (f_p_operations_9 x3_9.toNatClampNeg)))), (a_p_firsts, .inl (ca 0, 40, .inl (upd f_p_firsts_9 x2_9.toNatClampNeg r_52))), (a_p_seconds, .inl (ca 0, 40, .inl (upd f_p_seconds_9 x2_9.toNatClampNeg r_68)))] := hD
          obtain ⟨x2_72, ex2_72⟩ : ∃ y : Int32, y = x2_9 + 1 := ⟨_, rfl⟩
          have h := h x2_72 ex2_72
          refine lv_iinc (v := x2_72) (lv' := [(2, .int x2_72), (0, .ref a_t), (1, .ref a_p), (3, .int x3_9)]) hx hb dX7_removeUnneeded_72 hl (k := 2) rfl (by rw [ex2_72]; rfl) (by decide) rfl (fun ls hl => ?_)
          refine lv_aload_n hx hb dX7_removeUnneeded_75 rfl (lv_at hl 1 rfl) ?_
          refine va_get (D := D) (ci := 5) (v := .ref a_t_newNumbers) (C := RX7) (T := TX7) (N := 2) hx hb hq inX7g hown hK hP 0 rfl rfl 0 (by decide) (hq _ q_148) (fun _ h9 => h9) rfl dX7_removeUnneeded_76 ?_
          refine lv_iload_n hx hb dX7_removeUnneeded_79 rfl (lv_at hl 3 rfl) ?_
          refine lv_iconst (v := 1) hx hb dX7_removeUnneeded_80 (by decide) ?_
          refine lv_iadd hx hb dX7_removeUnneeded_81 ?_
          refine lv_iload_n hx hb dX7_removeUnneeded_82 rfl (lv_at hl 0 rfl) ?_
          obtain ⟨hi9, h⟩ := h
          refine va_iast hx hb hK hP hD hS 1 0 rfl rfl hi9 dX7_removeUnneeded_83 (fun H locs hP hD hS => ?_)
          have hP : va_P D vwCl [(a_t, .inr (5, [.ref a_t_newNumbers, .ref a_t_needed])), (a_t_newNumbers, .inl (ca 0, 41, .inl (upd f_t_newNumbers_9 (x3_9 + 1).toNatClampNeg x2_72))), (a_t_needed, .inl (ca 3, 41, .inl f_t_needed_2)), (a_p, .inr (4, [.int p_width, .int p_length, .int p_result, .int p_taskKind, .int p_taskDivisor, .ref a_p_operations, .ref a_p_firsts, .ref a_p_seconds])), (a_p_operations, .inl (ca 0, 40, .inl (upd f_p_operations_9 x2_9.toNatClampNeg (f_p_operations_9 x3_9.toNatClampNeg)))), (a_p_firsts, .inl (ca 0, 40, .inl (upd f_p_firsts_9 x2_9.toNatClampNeg r_52))), (a_p_seconds, .inl (ca 0, 40, .inl (upd f_p_seconds_9 x2_9.toNatClampNeg r_68)))] H := hP
          have hD : va_D A [(a_t, .inr (5, [.ref a_t_newNumbers, .ref a_t_needed])), (a_t_newNumbers, .inl (ca 0, 41, .inl (upd f_t_newNumbers_9 (x3_9 + 1).toNatClampNeg x2_72))), (a_t_needed, .inl (ca 3, 41, .inl f_t_needed_2)), (a_p, .inr (4, [.int p_width, .int p_length, .int p_result, .int p_taskKind, .int p_taskDivisor, .ref a_p_operations, .ref a_p_firsts, .ref a_p_seconds])), (a_p_operations, .inl (ca 0, 40, .inl (upd f_p_operations_9 x2_9.toNatClampNeg (f_p_operations_9 x3_9.toNatClampNeg)))), (a_p_firsts, .inl (ca 0, 40, .inl (upd f_p_firsts_9 x2_9.toNatClampNeg r_52))), (a_p_seconds, .inl (ca 0, 40, .inl (upd f_p_seconds_9 x2_9.toNatClampNeg r_68)))] := hD
          exact hJ84 x2_72 (upd f_t_newNumbers_9 (x3_9 + 1).toNatClampNeg x2_72) (upd f_p_operations_9 x2_9.toNatClampNeg (f_p_operations_9 x3_9.toNatClampNeg)) (upd f_p_firsts_9 x2_9.toNatClampNeg r_52) (upd f_p_seconds_9 x2_9.toNatClampNeg r_68) _ _ _ hP hD hS (lv_sub hl [1, 2, 0, 3] rfl) h
  obtain ⟨k9, h⟩ := h
  exact hL9 k9 0 0 f_t_newNumbers f_p_operations f_p_firsts f_p_seconds _ _ _ hP hD hS (lv_sub hl [2, 3, 1, 0] rfl) h

def wJ9_floorDiv_7cf53 (x0 : Int32) (x1 : Int32) (Q : Int32 → Prop) : Prop :=
  (¬ x1 = 0 ∧ (∀ x2_3 : Int32, x2_3 = x0 / x1 → ((0 ≤ (x0 ^^^ x1) → Q x2_3) ∧ (¬ 0 ≤ (x0 ^^^ x1) → (((x2_3 * x1) = x0 → Q x2_3) ∧ (¬ (x2_3 * x1) = x0 → Q (x2_3 - 1)))))))
set_option maxHeartbeats 4000000 in
set_option maxRecDepth 100000 in
theorem mJ9_floorDiv_7cf53 (l : Launch) (x0 : Int32) (x1 : Int32) (Q : Int32 → Prop) (h : wJ9_floorDiv_7cf53 x0 x1 Q) : Met l yJ9_floorDiv_7cf53 (Cond.code yJ9_floorDiv_7cf53 cJ9_floorDiv_7cf53 3 (some .int) :: wsG) ({ frames := 0, cells := 0, slots := 0, locals := 0 } : Room) (va_Pc [.int x0, .int x1] (fun _ => True)) (va_Qi (fun (r : Int32) (_ : Unit) => Q r) (fun _ _ => True) (fun _ => False)) 0 0 (fun _ => False) := by
  refine Met_ofWF (cc := cJ9_floorDiv_7cf53) (maxL := 3) (ret := (some .int)) (by decide +kernel) rfl ?_
  intro p e s m args below meth c s₁ B hml hv
  obtain ⟨rfl, -⟩ := hv
  have hx := B.exec
  have hb := B.bytes
  have hr := B.returns
  have hts := atoms_spec (ws := (Cond.code yJ9_floorDiv_7cf53 cJ9_floorDiv_7cf53 3 (some .int) :: wsG)) B.pre
  have hq : ∀ w ∈ wsG, w.before _ s = true := fun w hw => hts w (List.mem_cons_of_mem _ hw)
  have hown : s.vm.findClass RJ9 = some m.cls := findClass_of_methodNamed B.named
  have hlocks := B.notSynchronized
  have hS : va_S (fun _ : Nat => False) s.heap s.heap [] := va_S.rf
  have hl := lv_entry ([.int x0, .int x1]) (n := 3) (Nat.le_of_ble_eq_true rfl)
  rw [lg_entry_eq]
  generalize (lg_sl ([.int x0, .int x1]) ++ List.replicate (3 - (lg_sl ([.int x0, .int x1])).length) Slot.unset).toArray = ls at hl ⊢
  have hl : lv_has ls 3 [(0, .int x0), (1, .int x1)] := hl
  unfold wJ9_floorDiv_7cf53 at h
  refine lv_iload_n hx hb dJ9_floorDiv_7cf53_0 rfl (lv_at hl 0 rfl) ?_
  refine lv_iload_n hx hb dJ9_floorDiv_7cf53_1 rfl (lv_at hl 1 rfl) ?_
  obtain ⟨hne9, h⟩ := h
  refine lv_idiv hx hb dJ9_floorDiv_7cf53_2 hne9 ?_
  refine lv_topi (fun x2_3 ex2_3 => ?_)
  have h := h x2_3 ex2_3
  refine lv_istore_n (lv' := [(2, .int x2_3), (0, .int x0), (1, .int x1)]) hx hb dJ9_floorDiv_7cf53_3 rfl hl (by decide) rfl (fun ls hl => ?_)
  refine lv_iload_n hx hb dJ9_floorDiv_7cf53_4 rfl (lv_at hl 1 rfl) ?_
  refine lv_iload_n hx hb dJ9_floorDiv_7cf53_5 rfl (lv_at hl 2 rfl) ?_
  refine lv_ixor hx hb dJ9_floorDiv_7cf53_6 ?_
  refine lv_if_ge (tgt := 21) hx hb dJ9_floorDiv_7cf53_7 (by decide) (fun c9 => ?_) (fun c9 => ?_)
  · have h := h.1 c9
    refine lv_iload_n hx hb dJ9_floorDiv_7cf53_21 rfl (lv_at hl 0 rfl) ?_
    exact W.iret (v := x2_3) hx hb hr (fun t ht hW => ⟨⟨x2_3, (), rfl, h, trivial⟩, hS.F ht⟩) hS.2.2 dJ9_floorDiv_7cf53_22
  · have h := h.2 c9
    refine lv_iload_n hx hb dJ9_floorDiv_7cf53_10 rfl (lv_at hl 0 rfl) ?_
    refine lv_iload_n hx hb dJ9_floorDiv_7cf53_11 rfl (lv_at hl 2 rfl) ?_
    refine lv_imul hx hb dJ9_floorDiv_7cf53_12 ?_
    refine lv_iload_n hx hb dJ9_floorDiv_7cf53_13 rfl (lv_at hl 1 rfl) ?_
    refine lv_icmp_eq (tgt := 21) hx hb dJ9_floorDiv_7cf53_14 (by decide) (fun c9 => ?_) (fun c9 => ?_)
    · have h := h.1 c9
      refine lv_iload_n hx hb dJ9_floorDiv_7cf53_21 rfl (lv_at hl 0 rfl) ?_
      exact W.iret (v := x2_3) hx hb hr (fun t ht hW => ⟨⟨x2_3, (), rfl, h, trivial⟩, hS.F ht⟩) hS.2.2 dJ9_floorDiv_7cf53_22
    · have h := h.2 c9
      refine lv_iload_n hx hb dJ9_floorDiv_7cf53_17 rfl (lv_at hl 0 rfl) ?_
      refine lv_iconst (v := 1) hx hb dJ9_floorDiv_7cf53_18 (by decide) ?_
      refine lv_isub hx hb dJ9_floorDiv_7cf53_19 ?_
      exact W.iret (v := x2_3 - 1) hx hb hr (fun t ht hW => ⟨⟨x2_3 - 1, (), rfl, h, trivial⟩, hS.F ht⟩) hS.2.2 dJ9_floorDiv_7cf53_20
