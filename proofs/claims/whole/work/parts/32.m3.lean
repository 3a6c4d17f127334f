abbrev qX9_isTask (D : va_G) (ca : Nat → ClassId) (a_t a_t_v a_t_past a_t_costs a_t_into a_t_isNeeded a_t_depths a_t_names a_t_out a_t_has : Nat) (t_edits : Int32) (t_thrown : Int32) (t_outs : Int32) (f_t_v : Nat → Int32) (Q : Int32 → Prop) (A : Nat → Prop) : Array Value → State → Outcome → State → Prop := va_Qi (fun (r : Int32) (_ : Unit) => Q r) (wEnd D ca (fun _ : Unit => [(a_t, .inr (7, [.ref a_t_v, .ref a_t_past, .ref a_t_costs, .int t_edits, .int t_thrown, .ref a_t_into, .ref a_t_isNeeded, .ref a_t_depths, .ref a_t_names, .ref a_t_out, .int t_outs, .ref a_t_has])), (a_t_v, .inl (ca 0, 206, .inl f_t_v))]) A) A
def wX9_isTask (f_t_v : Nat → Int32) (x1 : Int32) (x2 : Int64) (Q : Int32 → Prop) : Prop :=
  ((x1 = 0 ∨ x1 = 1 ∨ x1 = 5 → wX9_all f_t_v (fun r_51 => wX9_in x2 1 (r_51 - 1) (fun r_56 => (narrow .boolean (.int r_56) = .int r_56 ∧ Q r_56)))) ∧ (¬ (x1 = 0 ∨ x1 = 1 ∨ x1 = 5) → ((x1 = 2 ∨ x1 = 3 → wX9_half f_t_v (fun r_63 => wX9_half f_t_v (fun r_68 => wX9_in x2 (0 - r_63) (r_68 - 1) (fun r_73 => ((r_73 = 0 → Q 0) ∧ (¬ r_73 = 0 → ((x2 = 0 → Q 0) ∧ (¬ x2 = 0 → Q 1)))))))) ∧ (¬ (x1 = 2 ∨ x1 = 3) → ((x1 = 4 → wX9_half f_t_v (fun r_94 => wX9_in x2 1 (r_94 - 1) (fun r_99 => (narrow .boolean (.int r_99) = .int r_99 ∧ Q r_99)))) ∧ (¬ (x1 = 4) → ((x1 = 6 → wX9_all f_t_v (fun r_108 => wX9_in x2 2 (r_108 - 1) (fun r_113 => (narrow .boolean (.int r_113) = .int r_113 ∧ Q r_113)))) ∧ (¬ (x1 = 6) → ((x1 = 7 → wX9_all f_t_v (fun r_120 => wX9_in x2 0 (r_120 - 1) (fun r_125 => (narrow .boolean (.int r_125) = .int r_125 ∧ Q r_125)))) ∧ (¬ (x1 = 7) → Q 0))))))))))
set_option maxHeartbeats 4000000 in
set_option maxRecDepth 100000 in
theorem mX9_isTask (l : Launch) (D : va_G) (ca : Nat → ClassId) (a_t a_t_v a_t_past a_t_costs a_t_into a_t_isNeeded a_t_depths a_t_names a_t_out a_t_has : Nat) (sz : Nat) (t_edits : Int32) (t_thrown : Int32) (t_outs : Int32) (f_t_v : Nat → Int32) (x1 : Int32) (x2 : Int64) (Q : Int32 → Prop) (h : wX9_isTask f_t_v x1 x2 Q) : Met l yX9_isTask (Cond.code yX9_isTask cX9_isTask 4 (some .boolean) :: wsG) ({ frames := 2, cells := 0, slots := 0, locals := 40 } : Room) (va_Pc [.ref a_t, .int x1, .long x2] (wPre D ca [(a_t, .inr (7, [.ref a_t_v, .ref a_t_past, .ref a_t_costs, .int t_edits, .int t_thrown, .ref a_t_into, .ref a_t_isNeeded, .ref a_t_depths, .ref a_t_names, .ref a_t_out, .int t_outs, .ref a_t_has])), (a_t_v, .inl (ca 0, 206, .inl f_t_v))] sz)) (qX9_isTask D ca a_t a_t_v a_t_past a_t_costs a_t_into a_t_isNeeded a_t_depths a_t_names a_t_out a_t_has t_edits t_thrown t_outs f_t_v Q (va_A [(a_t, .inr (7, [.ref a_t_v, .ref a_t_past, .ref a_t_costs, .int t_edits, .int t_thrown, .ref a_t_into, .ref a_t_isNeeded, .ref a_t_depths, .ref a_t_names, .ref a_t_out, .int t_outs, .ref a_t_has])), (a_t_v, .inl (ca 0, 206, .inl f_t_v))] sz)) 0 0 (va_A [(a_t, .inr (7, [.ref a_t_v, .ref a_t_past, .ref a_t_costs, .int t_edits, .int t_thrown, .ref a_t_into, .ref a_t_isNeeded, .ref a_t_depths, .ref a_t_names, .ref a_t_out, .int t_outs, .ref a_t_has])), (a_t_v, .inl (ca 0, 206, .inl f_t_v))] sz) := by
  refine Met.ofW (cc := cX9_isTask) (maxL := 4) (ret := (some .boolean)) (by decide) rfl ?_
  intro p e s m args below meth c s₁ B hml hv
  obtain ⟨rfl, hsz, hP, hK, hD0⟩ := hv
  have hx := B.exec
  have hb := B.bytes
  have hr := B.returns
  have hts := atoms_spec (ws := (Cond.code yX9_isTask cX9_isTask 4 (some .boolean) :: wsG)) B.pre
  have hq : ∀ w ∈ wsG, w.before _ s = true := fun w hw => hts w (List.mem_cons_of_mem _ hw)
  have hown : s.vm.findClass RX9 = some m.cls := findClass_of_methodNamed B.named
  have hlocks := B.notSynchronized
  subst hsz
  have hD := hD0.self (sz := s.heap.size)
  generalize hAe : va_A [(a_t, .inr (7, [.ref a_t_v, .ref a_t_past, .ref a_t_costs, .int t_edits, .int t_thrown, .ref a_t_into, .ref a_t_isNeeded, .ref a_t_depths, .ref a_t_names, .ref a_t_out, .int t_outs, .ref a_t_has])), (a_t_v, .inl (ca 0, 206, .inl f_t_v))] s.heap.size = A at hD ⊢
  have hA : ∀ q : Nat, s.heap.size ≤ q → A q := fun q h => by rw [← hAe]; exact Or.inr h
  have hS : va_S A s.heap s.heap [] := va_S.rf
  have hP : va_P D vwCl [(a_t, .inr (7, [.ref a_t_v, .ref a_t_past, .ref a_t_costs, .int t_edits, .int t_thrown, .ref a_t_into, .ref a_t_isNeeded, .ref a_t_depths, .ref a_t_names, .ref a_t_out, .int t_outs, .ref a_t_has])), (a_t_v, .inl (ca 0, 206, .inl f_t_v))] s.heap := hP
  have hl := lv_entry ([.ref a_t, .int x1, .long x2]) (n := 4) (Nat.le_of_ble_eq_true rfl)
  rw [lg_entry_eq]
  generalize (lg_sl ([.ref a_t, .int x1, .long x2]) ++ List.replicate (4 - (lg_sl ([.ref a_t, .int x1, .long x2])).length) Slot.unset).toArray = ls at hl ⊢
  have hl : lv_has ls 4 [(0, .ref a_t), (1, .int x1), (2, .long x2)] := hl
  unfold wX9_isTask at h
  refine lv_iload_n hx hb dX9_isTask_0 rfl (lv_at hl 1 rfl) ?_
  by_cases c9 : x1 = 0 ∨ x1 = 1 ∨ x1 = 5
  · have h := h.1 c9
    rcases c9 with c9 | c9 | c9
    · refine lv_tableIn (tgt := 48) hx hb dX9_isTask_1 (by rw [c9]; decide) (by rw [c9]; decide) (off := 47) (by rw [c9]; decide) (by decide) ?_
      refine lv_lload_n hx hb dX9_isTask_48 rfl (lv_at hl 2 rfl) ?_
      refine lv_lconst (v := 1) hx hb dX9_isTask_49 (by decide) ?_
      refine lv_aload_n hx hb dX9_isTask_50 rfl (lv_at hl 0 rfl) ?_
      refine cVl (As := []) (rest := [.long 1, .long x2]) (wc := [(a_t, .inr (7, [.ref a_t_v, .ref a_t_past, .ref a_t_costs, .int t_edits, .int t_thrown, .ref a_t_into, .ref a_t_isNeeded, .ref a_t_depths, .ref a_t_names, .ref a_t_out, .int t_outs, .ref a_t_has])), (a_t_v, .inl (ca 0, 206, .inl f_t_v))]) (wr := []) (w1 := fun _ : Unit => [(a_t, .inr (7, [.ref a_t_v, .ref a_t_past, .ref a_t_costs, .int t_edits, .int t_thrown, .ref a_t_into, .ref a_t_isNeeded, .ref a_t_depths, .ref a_t_names, .ref a_t_out, .int t_outs, .ref a_t_has])), (a_t_v, .inl (ca 0, 206, .inl f_t_v))]) (ws2 := fun _ : Unit => [(a_t, .inr (7, [.ref a_t_v, .ref a_t_past, .ref a_t_costs, .int t_edits, .int t_thrown, .ref a_t_into, .ref a_t_isNeeded, .ref a_t_depths, .ref a_t_names, .ref a_t_out, .int t_outs, .ref a_t_has])), (a_t_v, .inl (ca 0, 206, .inl f_t_v))]) ⟨hx, hb, hml, hown, hts⟩ (mX9_all l D ca a_t a_t_v a_t_past a_t_costs a_t_into a_t_isNeeded a_t_depths a_t_names a_t_out a_t_has _ t_edits t_thrown t_outs f_t_v _ h) (cwV 0 hts (gV q_955 q_957 qs_35 q_8 q_958) rfl rfl rfl (by decide +kernel) ⟨Nat.le_of_ble_eq_true rfl, Nat.le_of_ble_eq_true rfl⟩) hK hP hD hS hA [0, 1] [] [0, 1] rfl rfl rfl (by decide) (fun _ => rfl) (ci := 7) (q0 := 0) rfl rfl rfl hl.1 rfl (Nat.le_of_ble_eq_true rfl) dX9_isTask_51 ⟨Nat.le_of_ble_eq_true rfl, Nat.le_of_ble_eq_true rfl⟩ (fun r_51 u9 H locs h hP hD hS => ?_)
      try dsimp only at h
      refine lv_lconst (v := 1) hx hb dX9_isTask_54 (by decide) ?_
      refine lv_lsub hx hb dX9_isTask_55 ?_
      refine cPi (As := [.long x2, .long 1, .long (r_51 - 1)]) (rest := []) ⟨hx, hb, hml, hown, hts⟩ (mX9_in l x2 1 (r_51 - 1) _ h) (va_cwS 3 hts (gS q_930 q_931 q_8 q_932) rfl rfl rfl (by decide +kernel) ⟨Nat.le_of_ble_eq_true rfl, Nat.le_of_ble_eq_true rfl⟩) hS rfl hl.1 rfl (Nat.le_of_ble_eq_true rfl) dX9_isTask_56 ⟨Nat.le_of_ble_eq_true rfl, Nat.le_of_ble_eq_true rfl⟩ (fun r_56 H1 locs h hk1 hS => ?_)
      have hP := s_back hP hk1
      try dsimp only at h
      obtain ⟨hn9, h⟩ := h
      exact W.zret (v := r_56) hx hb hr hn9 (fun t ht hW => ⟨⟨r_56, (), rfl, h, by rw [ht]; exact hP, va_K.moved hW.alike hK, hD⟩, hS.F ht⟩) hS.2.2 dX9_isTask_59
    · refine lv_tableIn (tgt := 48) hx hb dX9_isTask_1 (by rw [c9]; decide) (by rw [c9]; decide) (off := 47) (by rw [c9]; decide) (by decide) ?_
      refine lv_lload_n hx hb dX9_isTask_48 rfl (lv_at hl 2 rfl) ?_
      refine lv_lconst (v := 1) hx hb dX9_isTask_49 (by decide) ?_
      refine lv_aload_n hx hb dX9_isTask_50 rfl (lv_at hl 0 rfl) ?_
      refine cVl (As := []) (rest := [.long 1, .long x2]) (wc := [(a_t, .inr (7, [.ref a_t_v, .ref a_t_past, .ref a_t_costs, .int t_edits, .int t_thrown, .ref a_t_into, .ref a_t_isNeeded, .ref a_t_depths, .ref a_t_names, .ref a_t_out, .int t_outs, .ref a_t_has])), (a_t_v, .inl (ca 0, 206, .inl f_t_v))]) (wr := []) (w1 := fun _ : Unit => [(a_t, .inr (7, [.ref a_t_v, .ref a_t_past, .ref a_t_costs, .int t_edits, .int t_thrown, .ref a_t_into, .ref a_t_isNeeded, .ref a_t_depths, .ref a_t_names, .ref a_t_out, .int t_outs, .ref a_t_has])), (a_t_v, .inl (ca 0, 206, .inl f_t_v))]) (ws2 := fun _ : Unit => [(a_t, .inr (7, [.ref a_t_v, .ref a_t_past, .ref a_t_costs, .int t_edits, .int t_thrown, .ref a_t_into, .ref a_t_isNeeded, .ref a_t_depths, .ref a_t_names, .ref a_t_out, .int t_outs, .ref a_t_has])), (a_t_v, .inl (ca 0, 206, .inl f_t_v))]) ⟨hx, hb, hml, hown, hts⟩ (mX9_all l D ca a_t a_t_v a_t_past a_t_costs a_t_into a_t_isNeeded a_t_depths a_t_names a_t_out a_t_has _ t_edits t_thrown t_outs f_t_v _ h) (cwV 0 hts (gV q_955 q_957 qs_35 q_8 q_958) rfl rfl rfl (by decide +kernel) ⟨Nat.le_of_ble_eq_true rfl, Nat.le_of_ble_eq_true rfl⟩) hK hP hD hS hA [0, 1] [] [0, 1] rfl rfl rfl (by decide) (fun _ => rfl) (ci := 7) (q0 := 0) rfl rfl rfl hl.1 rfl (Nat.le_of_ble_eq_true rfl) dX9_isTask_51 ⟨Nat.le_of_ble_eq_true rfl, Nat.le_of_ble_eq_true rfl⟩ (fun r_51 u9 H locs h hP hD hS => ?_)
      try dsimp only at h
      refine lv_lconst (v := 1) hx hb dX9_isTask_54 (by decide) ?_
      refine lv_lsub hx hb dX9_isTask_55 ?_
      refine cPi (As := [.long x2, .long 1, .long (r_51 - 1)]) (rest := []) ⟨hx, hb, hml, hown, hts⟩ (mX9_in l x2 1 (r_51 - 1) _ h) (va_cwS 3 hts (gS q_930 q_931 q_8 q_932) rfl rfl rfl (by decide +kernel) ⟨Nat.le_of_ble_eq_true rfl, Nat.le_of_ble_eq_true rfl⟩) hS rfl hl.1 rfl (Nat.le_of_ble_eq_true rfl) dX9_isTask_56 ⟨Nat.le_of_ble_eq_true rfl, Nat.le_of_ble_eq_true rfl⟩ (fun r_56 H1 locs h hk1 hS => ?_)
      have hP := s_back hP hk1
      try dsimp only at h
      obtain ⟨hn9, h⟩ := h
      exact W.zret (v := r_56) hx hb hr hn9 (fun t ht hW => ⟨⟨r_56, (), rfl, h, by rw [ht]; exact hP, va_K.moved hW.alike hK, hD⟩, hS.F ht⟩) hS.2.2 dX9_isTask_59
    · refine lv_tableIn (tgt := 48) hx hb dX9_isTask_1 (by rw [c9]; decide) (by rw [c9]; decide) (off := 47) (by rw [c9]; decide) (by decide) ?_
      refine lv_lload_n hx hb dX9_isTask_48 rfl (lv_at hl 2 rfl) ?_
      refine lv_lconst (v := 1) hx hb dX9_isTask_49 (by decide) ?_
      refine lv_aload_n hx hb dX9_isTask_50 rfl (lv_at hl 0 rfl) ?_
      refine cVl (As := []) (rest := [.long 1, .long x2]) (wc := [(a_t, .inr (7, [.ref a_t_v, .ref a_t_past, .ref a_t_costs, .int t_edits, .int t_thrown, .ref a_t_into, .ref a_t_isNeeded, .ref a_t_depths, .ref a_t_names, .ref a_t_out, .int t_outs, .ref a_t_has])), (a_t_v, .inl (ca 0, 206, .inl f_t_v))]) (wr := []) (w1 := fun _ : Unit => [(a_t, .inr (7, [.ref a_t_v, .ref a_t_past, .ref a_t_costs, .int t_edits, .int t_thrown, .ref a_t_into, .ref a_t_isNeeded, .ref a_t_depths, .ref a_t_names, .ref a_t_out, .int t_outs, .ref a_t_has])), (a_t_v, .inl (ca 0, 206, .inl f_t_v))]) (ws2 := fun _ : Unit => [(a_t, .inr (7, [.ref a_t_v, .ref a_t_past, .ref a_t_costs, .int t_edits, .int t_thrown, .ref a_t_into, .ref a_t_isNeeded, .ref a_t_depths, .ref a_t_names, .ref a_t_out, .int t_outs, .ref a_t_has])), (a_t_v, .inl (ca 0, 206, .inl f_t_v))]) ⟨hx, hb, hml, hown, hts⟩ (mX9_all l D ca a_t a_t_v a_t_past a_t_costs a_t_into a_t_isNeeded a_t_depths a_t_names a_t_out a_t_has _ t_edits t_thrown t_outs f_t_v _ h) (cwV 0 hts (gV q_955 q_957 qs_35 q_8 q_958) rfl rfl rfl (by decide +kernel) ⟨Nat.le_of_ble_eq_true rfl, Nat.le_of_ble_eq_true rfl⟩) hK hP hD hS hA [0, 1] [] [0, 1] rfl rfl rfl (by decide) (fun _ => rfl) (ci := 7) (q0 := 0) rfl rfl rfl hl.1 rfl (Nat.le_of_ble_eq_true rfl) dX9_isTask_51 ⟨Nat.le_of_ble_eq_true rfl, Nat.le_of_ble_eq_true rfl⟩ (fun r_51 u9 H locs h hP hD hS => ?_)
      try dsimp only at h
      refine lv_lconst (v := 1) hx hb dX9_isTask_54 (by decide) ?_
      refine lv_lsub hx hb dX9_isTask_55 ?_
      refine cPi (As := [.long x2, .long 1, .long (r_51 - 1)]) (rest := []) ⟨hx, hb, hml, hown, hts⟩ (mX9_in l x2 1 (r_51 - 1) _ h) (va_cwS 3 hts (gS q_930 q_931 q_8 q_932) rfl rfl rfl (by decide +kernel) ⟨Nat.le_of_ble_eq_true rfl, Nat.le_of_ble_eq_true rfl⟩) hS rfl hl.1 rfl (Nat.le_of_ble_eq_true rfl) dX9_isTask_56 ⟨Nat.le_of_ble_eq_true rfl, Nat.le_of_ble_eq_true rfl⟩ (fun r_56 H1 locs h hk1 hS => ?_)
      have hP := s_back hP hk1
      try dsimp only at h
      obtain ⟨hn9, h⟩ := h
      exact W.zret (v := r_56) hx hb hr hn9 (fun t ht hW => ⟨⟨r_56, (), rfl, h, by rw [ht]; exact hP, va_K.moved hW.alike hK, hD⟩, hS.F ht⟩) hS.2.2 dX9_isTask_59
  have h := h.2 c9
  have cs_0 := c9
  by_cases c9 : x1 = 2 ∨ x1 = 3
  · have h := h.1 c9
    rcases c9 with c9 | c9
    · refine lv_tableIn (tgt := 60) hx hb dX9_isTask_1 (by rw [c9]; decide) (by rw [c9]; decide) (off := 59) (by rw [c9]; decide) (by decide) ?_
      refine lv_lload_n hx hb dX9_isTask_60 rfl (lv_at hl 2 rfl) ?_
      refine lv_lconst (v := 0) hx hb dX9_isTask_61 (by decide) ?_
      refine lv_aload_n hx hb dX9_isTask_62 rfl (lv_at hl 0 rfl) ?_
      refine cVl (As := []) (rest := [.long 0, .long x2]) (wc := [(a_t, .inr (7, [.ref a_t_v, .ref a_t_past, .ref a_t_costs, .int t_edits, .int t_thrown, .ref a_t_into, .ref a_t_isNeeded, .ref a_t_depths, .ref a_t_names, .ref a_t_out, .int t_outs, .ref a_t_has])), (a_t_v, .inl (ca 0, 206, .inl f_t_v))]) (wr := []) (w1 := fun _ : Unit => [(a_t, .inr (7, [.ref a_t_v, .ref a_t_past, .ref a_t_costs, .int t_edits, .int t_thrown, .ref a_t_into, .ref a_t_isNeeded, .ref a_t_depths, .ref a_t_names, .ref a_t_out, .int t_outs, .ref a_t_has])), (a_t_v, .inl (ca 0, 206, .inl f_t_v))]) (ws2 := fun _ : Unit => [(a_t, .inr (7, [.ref a_t_v, .ref a_t_past, .ref a_t_costs, .int t_edits, .int t_thrown, .ref a_t_into, .ref a_t_isNeeded, .ref a_t_depths, .ref a_t_names, .ref a_t_out, .int t_outs, .ref a_t_has])), (a_t_v, .inl (ca 0, 206, .inl f_t_v))]) ⟨hx, hb, hml, hown, hts⟩ (mX9_half l D ca a_t a_t_v a_t_past a_t_costs a_t_into a_t_isNeeded a_t_depths a_t_names a_t_out a_t_has _ t_edits t_thrown t_outs f_t_v _ h) (cwV 0 hts (gV q_987 q_989 qs_38 q_8 q_990) rfl rfl rfl (by decide +kernel) ⟨Nat.le_of_ble_eq_true rfl, Nat.le_of_ble_eq_true rfl⟩) hK hP hD hS hA [0, 1] [] [0, 1] rfl rfl rfl (by decide) (fun _ => rfl) (ci := 7) (q0 := 0) rfl rfl rfl hl.1 rfl (Nat.le_of_ble_eq_true rfl) dX9_isTask_63 ⟨Nat.le_of_ble_eq_true rfl, Nat.le_of_ble_eq_true rfl⟩ (fun r_63 u9 H locs h hP hD hS => ?_)
      try dsimp only at h
      refine lv_lsub hx hb dX9_isTask_66 ?_
      refine lv_aload_n hx hb dX9_isTask_67 rfl (lv_at hl 0 rfl) ?_
      refine cVl (As := []) (rest := [.long (0 - r_63), .long x2]) (wc := [(a_t, .inr (7, [.ref a_t_v, .ref a_t_past, .ref a_t_costs, .int t_edits, .int t_thrown, .ref a_t_into, .ref a_t_isNeeded, .ref a_t_depths, .ref a_t_names, .ref a_t_out, .int t_outs, .ref a_t_has])), (a_t_v, .inl (ca 0, 206, .inl f_t_v))]) (wr := []) (w1 := fun _ : Unit => [(a_t, .inr (7, [.ref a_t_v, .ref a_t_past, .ref a_t_costs, .int t_edits, .int t_thrown, .ref a_t_into, .ref a_t_isNeeded, .ref a_t_depths, .ref a_t_names, .ref a_t_out, .int t_outs, .ref a_t_has])), (a_t_v, .inl (ca 0, 206, .inl f_t_v))]) (ws2 := fun _ : Unit => [(a_t, .inr (7, [.ref a_t_v, .ref a_t_past, .ref a_t_costs, .int t_edits, .int t_thrown, .ref a_t_into, .ref a_t_isNeeded, .ref a_t_depths, .ref a_t_names, .ref a_t_out, .int t_outs, .ref a_t_has])), (a_t_v, .inl (ca 0, 206, .inl f_t_v))]) ⟨hx, hb, hml, hown, hts⟩ (mX9_half l D ca a_t a_t_v a_t_past a_t_costs a_t_into a_t_isNeeded a_t_depths a_t_names a_t_out a_t_has _ t_edits t_thrown t_outs f_t_v _ h) (cwV 0 hts (gV q_987 q_989 qs_38 q_8 q_990) rfl rfl rfl (by decide +kernel) ⟨Nat.le_of_ble_eq_true rfl, Nat.le_of_ble_eq_true rfl⟩) hK hP hD hS hA [0, 1] [] [0, 1] rfl rfl rfl (by decide) (fun _ => rfl) (ci := 7) (q0 := 0) rfl rfl rfl hl.1 rfl (Nat.le_of_ble_eq_true rfl) dX9_isTask_68 ⟨Nat.le_of_ble_eq_true rfl, Nat.le_of_ble_eq_true rfl⟩ (fun r_68 u9 H locs h hP hD hS => ?_)
      try dsimp only at h
      refine lv_lconst (v := 1) hx hb dX9_isTask_71 (by decide) ?_
      refine lv_lsub hx hb dX9_isTask_72 ?_
      refine cPi (As := [.long x2, .long (0 - r_63), .long (r_68 - 1)]) (rest := []) ⟨hx, hb, hml, hown, hts⟩ (mX9_in l x2 (0 - r_63) (r_68 - 1) _ h) (va_cwS 3 hts (gS q_930 q_931 q_8 q_932) rfl rfl rfl (by decide +kernel) ⟨Nat.le_of_ble_eq_true rfl, Nat.le_of_ble_eq_true rfl⟩) hS rfl hl.1 rfl (Nat.le_of_ble_eq_true rfl) dX9_isTask_73 ⟨Nat.le_of_ble_eq_true rfl, Nat.le_of_ble_eq_true rfl⟩ (fun r_73 H1 locs h hk1 hS => ?_)
      have hP := s_back hP hk1
      try dsimp only at h
      refine lv_if_eq (tgt := 89) hx hb dX9_isTask_76 (by decide) (fun c9 => ?_) (fun c9 => ?_)
      · have h := h.1 c9
        refine lv_iconst (v := 0) hx hb dX9_isTask_89 (by decide) ?_
        exact W.zret (v := 0) hx hb hr rfl (fun t ht hW => ⟨⟨0, (), rfl, h, by rw [ht]; exact hP, va_K.moved hW.alike hK, hD⟩, hS.F ht⟩) hS.2.2 dX9_isTask_90
      · have h := h.2 c9
        refine lv_lload_n hx hb dX9_isTask_79 rfl (lv_at hl 2 rfl) ?_
        refine lv_lconst (v := 0) hx hb dX9_isTask_80 (by decide) ?_
        refine jl_eq (tgt := 89) hx hb dX9_isTask_81 dX9_isTask_82 (by decide) (fun c9 => ?_) (fun c9 => ?_)
        · have h := h.1 c9
          refine lv_iconst (v := 0) hx hb dX9_isTask_89 (by decide) ?_
          exact W.zret (v := 0) hx hb hr rfl (fun t ht hW => ⟨⟨0, (), rfl, h, by rw [ht]; exact hP, va_K.moved hW.alike hK, hD⟩, hS.F ht⟩) hS.2.2 dX9_isTask_90
        · have h := h.2 c9
          refine lv_iconst (v := 1) hx hb dX9_isTask_85 (by decide) ?_
          refine lv_goto (tgt := 90) hx hb dX9_isTask_86 (by decide) ?_
          exact W.zret (v := 1) hx hb hr rfl (fun t ht hW => ⟨⟨1, (), rfl, h, by rw [ht]; exact hP, va_K.moved hW.alike hK, hD⟩, hS.F ht⟩) hS.2.2 dX9_isTask_90
    · refine lv_tableIn (tgt := 60) hx hb dX9_isTask_1 (by rw [c9]; decide) (by rw [c9]; decide) (off := 59) (by rw [c9]; decide) (by decide) ?_
      refine lv_lload_n hx hb dX9_isTask_60 rfl (lv_at hl 2 rfl) ?_
      refine lv_lconst (v := 0) hx hb dX9_isTask_61 (by decide) ?_
      refine lv_aload_n hx hb dX9_isTask_62 rfl (lv_at hl 0 rfl) ?_
      refine cVl (As := []) (rest := [.long 0, .long x2]) (wc := [(a_t, .inr (7, [.ref a_t_v, .ref a_t_past, .ref a_t_costs, .int t_edits, .int t_thrown, .ref a_t_into, .ref a_t_isNeeded, .ref a_t_depths, .ref a_t_names, .ref a_t_out, .int t_outs, .ref a_t_has])), (a_t_v, .inl (ca 0, 206, .inl f_t_v))]) (wr := []) (w1 := fun _ : Unit => [(a_t, .inr (7, [.ref a_t_v, .ref a_t_past, .ref a_t_costs, .int t_edits, .int t_thrown, .ref a_t_into, .ref a_t_isNeeded, .ref a_t_depths, .ref a_t_names, .ref a_t_out, .int t_outs, .ref a_t_has])), (a_t_v, .inl (ca 0, 206, .inl f_t_v))]) (ws2 := fun _ : Unit => [(a_t, .inr (7, [.ref a_t_v, .ref a_t_past, .ref a_t_costs, .int t_edits, .int t_thrown, .ref a_t_into, .ref a_t_isNeeded, .ref a_t_depths, .ref a_t_names, .ref a_t_out, .int t_outs, .ref a_t_has])), (a_t_v, .inl (ca 0, 206, .inl f_t_v))]) ⟨hx, hb, hml, hown, hts⟩ (mX9_half l D ca a_t a_t_v a_t_past a_t_costs a_t_into a_t_isNeeded a_t_depths a_t_names a_t_out a_t_has _ t_edits t_thrown t_outs f_t_v _ h) (cwV 0 hts (gV q_987 q_989 qs_38 q_8 q_990) rfl rfl rfl (by decide +kernel) ⟨Nat.le_of_ble_eq_true rfl, Nat.le_of_ble_eq_true rfl⟩) hK hP hD hS hA [0, 1] [] [0, 1] rfl rfl rfl (by decide) (fun _ => rfl) (ci := 7) (q0 := 0) rfl rfl rfl hl.1 rfl (Nat.le_of_ble_eq_true rfl) dX9_isTask_63 ⟨Nat.le_of_ble_eq_true rfl, Nat.le_of_ble_eq_true rfl⟩ (fun r_63 u9 H locs h hP hD hS => ?_)
      try dsimp only at h
      refine lv_lsub hx hb dX9_isTask_66 ?_
      refine lv_aload_n hx hb dX9_isTask_67 rfl (lv_at hl 0 rfl) ?_
      refine cVl (As := []) (rest := [.long (0 - r_63), .long x2]) (wc := [(a_t, .inr (7, [.ref a_t_v, .ref a_t_past, .ref a_t_costs, .int t_edits, .int t_thrown, .ref a_t_into, .ref a_t_isNeeded, .ref a_t_depths, .ref a_t_names, .ref a_t_out, .int t_outs, .ref a_t_has])), (a_t_v, .inl (ca 0, 206, .inl f_t_v))]) (wr := []) (w1 := fun _ : Unit => [(a_t, .inr (7, [.ref a_t_v, .ref a_t_past, .ref a_t_costs, .int t_edits, .int t_thrown, .ref a_t_into, .ref a_t_isNeeded, .ref a_t_depths, .ref a_t_names, .ref a_t_out, .int t_outs, .ref a_t_has])), (a_t_v, .inl (ca 0, 206, .inl f_t_v))]) (ws2 := fun _ : Unit => [(a_t, .inr (7, [.ref a_t_v, .ref a_t_past, .ref a_t_costs, .int t_edits, .int t_thrown, .ref a_t_into, .ref a_t_isNeeded, .ref a_t_depths, .ref a_t_names, .ref a_t_out, .int t_outs, .ref a_t_has])), (a_t_v, .inl (ca 0, 206, .inl f_t_v))]) ⟨hx, hb, hml, hown, hts⟩ (mX9_half l D ca a_t a_t_v a_t_past a_t_costs a_t_into a_t_isNeeded a_t_depths a_t_names a_t_out a_t_has _ t_edits t_thrown t_outs f_t_v _ h) (cwV 0 hts (gV q_987 q_989 qs_38 q_8 q_990) rfl rfl rfl (by decide +kernel) ⟨Nat.le_of_ble_eq_true rfl, Nat.le_of_ble_eq_true rfl⟩) hK hP hD hS hA [0, 1] [] [0, 1] rfl rfl rfl (by decide) (fun _ => rfl) (ci := 7) (q0 := 0) rfl rfl rfl hl.1 rfl (Nat.le_of_ble_eq_true rfl) dX9_isTask_68 ⟨Nat.le_of_ble_eq_true rfl, Nat.le_of_ble_eq_true rfl⟩ (fun r_68 u9 H locs h hP hD hS => ?_)
      try dsimp only at h
      refine lv_lconst (v := 1) hx hb dX9_isTask_71 (by decide) ?_
      refine lv_lsub hx hb dX9_isTask_72 ?_
      refine cPi (As := [.long x2, .long (0 - r_63), .long (r_68 - 1)]) (rest := []) ⟨hx, hb, hml, hown, hts⟩ (mX9_in l x2 (0 - r_63) (r_68 - 1) _ h) (va_cwS 3 hts (gS q_930 q_931 q_8 q_932) rfl rfl rfl (by decide +kernel) ⟨Nat.le_of_ble_eq_true rfl, Nat.le_of_ble_eq_true rfl⟩) hS rfl hl.1 rfl (Nat.le_of_ble_eq_true rfl) dX9_isTask_73 ⟨Nat.le_of_ble_eq_true rfl, Nat.le_of_ble_eq_true rfl⟩ (fun r_73 H1 locs h hk1 hS => ?_)
      have hP := s_back hP hk1
      try dsimp only at h
      refine lv_if_eq (tgt := 89) hx hb dX9_isTask_76 (by decide) (fun c9 => ?_) (fun c9 => ?_)
      · have h := h.1 c9
        refine lv_iconst (v := 0) hx hb dX9_isTask_89 (by decide) ?_
        exact W.zret (v := 0) hx hb hr rfl (fun t ht hW => ⟨⟨0, (), rfl, h, by rw [ht]; exact hP, va_K.moved hW.alike hK, hD⟩, hS.F ht⟩) hS.2.2 dX9_isTask_90
      · have h := h.2 c9
        refine lv_lload_n hx hb dX9_isTask_79 rfl (lv_at hl 2 rfl) ?_
        refine lv_lconst (v := 0) hx hb dX9_isTask_80 (by decide) ?_
        refine jl_eq (tgt := 89) hx hb dX9_isTask_81 dX9_isTask_82 (by decide) (fun c9 => ?_) (fun c9 => ?_)
        · have h := h.1 c9
          refine lv_iconst (v := 0) hx hb dX9_isTask_89 (by decide) ?_
          exact W.zret (v := 0) hx hb hr rfl (fun t ht hW => ⟨⟨0, (), rfl, h, by rw [ht]; exact hP, va_K.moved hW.alike hK, hD⟩, hS.F ht⟩) hS.2.2 dX9_isTask_90
        · have h := h.2 c9
          refine lv_iconst (v := 1) hx hb dX9_isTask_85 (by decide) ?_
          refine lv_goto (tgt := 90) hx hb dX9_isTask_86 (by decide) ?_
          exact W.zret (v := 1) hx hb hr rfl (fun t ht hW => ⟨⟨1, (), rfl, h, by rw [ht]; exact hP, va_K.moved hW.alike hK, hD⟩, hS.F ht⟩) hS.2.2 dX9_isTask_90
  have h := h.2 c9
  have cs_2 := c9
  by_cases c9 : x1 = 4
  · have h := h.1 c9
    refine lv_tableIn (tgt := 91) hx hb dX9_isTask_1 (by rw [c9]; decide) (by rw [c9]; decide) (off := 90) (by rw [c9]; decide) (by decide) ?_
    refine lv_lload_n hx hb dX9_isTask_91 rfl (lv_at hl 2 rfl) ?_
    refine lv_lconst (v := 1) hx hb dX9_isTask_92 (by decide) ?_
    refine lv_aload_n hx hb dX9_isTask_93 rfl (lv_at hl 0 rfl) ?_
    refine cVl (As := []) (rest := [.long 1, .long x2]) (wc := [(a_t, .inr (7, [.ref a_t_v, .ref a_t_past, .ref a_t_costs, .int t_edits, .int t_thrown, .ref a_t_into, .ref a_t_isNeeded, .ref a_t_depths, .ref a_t_names, .ref a_t_out, .int t_outs, .ref a_t_has])), (a_t_v, .inl (ca 0, 206, .inl f_t_v))]) (wr := []) (w1 := fun _ : Unit => [(a_t, .inr (7, [.ref a_t_v, .ref a_t_past, .ref a_t_costs, .int t_edits, .int t_thrown, .ref a_t_into, .ref a_t_isNeeded, .ref a_t_depths, .ref a_t_names, .ref a_t_out, .int t_outs, .ref a_t_has])), (a_t_v, .inl (ca 0, 206, .inl f_t_v))]) (ws2 := fun _ : Unit => [(a_t, .inr (7, [.ref a_t_v, .ref a_t_past, .ref a_t_costs, .int t_edits, .int t_thrown, .ref a_t_into, .ref a_t_isNeeded, .ref a_t_depths, .ref a_t_names, .ref a_t_out, .int t_outs, .ref a_t_has])), (a_t_v, .inl (ca 0, 206, .inl f_t_v))]) ⟨hx, hb, hml, hown, hts⟩ (mX9_half l D ca a_t a_t_v a_t_past a_t_costs a_t_into a_t_isNeeded a_t_depths a_t_names a_t_out a_t_has _ t_edits t_thrown t_outs f_t_v _ h) (cwV 0 hts (gV q_987 q_989 qs_38 q_8 q_990) rfl rfl rfl (by decide +kernel) ⟨Nat.le_of_ble_eq_true rfl, Nat.le_of_ble_eq_true rfl⟩) hK hP hD hS hA [0, 1] [] [0, 1] rfl rfl rfl (by decide) (fun _ => rfl) (ci := 7) (q0 := 0) rfl rfl rfl hl.1 rfl (Nat.le_of_ble_eq_true rfl) dX9_isTask_94 ⟨Nat.le_of_ble_eq_true rfl, Nat.le_of_ble_eq_true rfl⟩ (fun r_94 u9 H locs h hP hD hS => ?_)
    try dsimp only at h
    refine lv_lconst (v := 1) hx hb dX9_isTask_97 (by decide) ?_
    refine lv_lsub hx hb dX9_isTask_98 ?_
    refine cPi (As := [.long x2, .long 1, .long (r_94 - 1)]) (rest := []) ⟨hx, hb, hml, hown, hts⟩ (mX9_in l x2 1 (r_94 - 1) _ h) (va_cwS 3 hts (gS q_930 q_931 q_8 q_932) rfl rfl rfl (by decide +kernel) ⟨Nat.le_of_ble_eq_true rfl, Nat.le_of_ble_eq_true rfl⟩) hS rfl hl.1 rfl (Nat.le_of_ble_eq_true rfl) dX9_isTask_99 ⟨Nat.le_of_ble_eq_true rfl, Nat.le_of_ble_eq_true rfl⟩ (fun r_99 H1 locs h hk1 hS => ?_)
    have hP := s_back hP hk1
    try dsimp only at h
    obtain ⟨hn9, h⟩ := h
    exact W.zret (v := r_99) hx hb hr hn9 (fun t ht hW => ⟨⟨r_99, (), rfl, h, by rw [ht]; exact hP, va_K.moved hW.alike hK, hD⟩, hS.F ht⟩) hS.2.2 dX9_isTask_102
  have h := h.2 c9
  have cs_4 := c9
  by_cases c9 : x1 = 6
  · have h := h.1 c9
    refine lv_tableIn (tgt := 103) hx hb dX9_isTask_1 (by rw [c9]; decide) (by rw [c9]; decide) (off := 102) (by rw [c9]; decide) (by decide) ?_
    refine lv_lload_n hx hb dX9_isTask_103 rfl (lv_at hl 2 rfl) ?_
    refine lv_ldc2 (v := 2) hx hb hown (hq _ q_949) dX9_isTask_104 ?_
    refine lv_aload_n hx hb dX9_isTask_107 rfl (lv_at hl 0 rfl) ?_
    refine cVl (As := []) (rest := [.long 2, .long x2]) (wc := [(a_t, .inr (7, [.ref a_t_v, .ref a_t_past, .ref a_t_costs, .int t_edits, .int t_thrown, .ref a_t_into, .ref a_t_isNeeded, .ref a_t_depths, .ref a_t_names, .ref a_t_out, .int t_outs, .ref a_t_has])), (a_t_v, .inl (ca 0, 206, .inl f_t_v))]) (wr := []) (w1 := fun _ : Unit => [(a_t, .inr (7, [.ref a_t_v, .ref a_t_past, .ref a_t_costs, .int t_edits, .int t_thrown, .ref a_t_into, .ref a_t_isNeeded, .ref a_t_depths, .ref a_t_names, .ref a_t_out, .int t_outs, .ref a_t_has])), (a_t_v, .inl (ca 0, 206, .inl f_t_v))]) (ws2 := fun _ : Unit => [(a_t, .inr (7, [.ref a_t_v, .ref a_t_past, .ref a_t_costs, .int t_edits, .int t_thrown, .ref a_t_into, .ref a_t_isNeeded, .ref a_t_depths, .ref a_t_names, .ref a_t_out, .int t_outs, .ref a_t_has])), (a_t_v, .inl (ca 0, 206, .inl f_t_v))]) ⟨hx, hb, hml, hown, hts⟩ (mX9_all l D ca a_t a_t_v a_t_past a_t_costs a_t_into a_t_isNeeded a_t_depths a_t_names a_t_out a_t_has _ t_edits t_thrown t_outs f_t_v _ h) (cwV 0 hts (gV q_955 q_957 qs_35 q_8 q_958) rfl rfl rfl (by decide +kernel) ⟨Nat.le_of_ble_eq_true rfl, Nat.le_of_ble_eq_true rfl⟩) hK hP hD hS hA [0, 1] [] [0, 1] rfl rfl rfl (by decide) (fun _ => rfl) (ci := 7) (q0 := 0) rfl rfl rfl hl.1 rfl (Nat.le_of_ble_eq_true rfl) dX9_isTask_108 ⟨Nat.le_of_ble_eq_true rfl, Nat.le_of_ble_eq_true rfl⟩ (fun r_108 u9 H locs h hP hD hS => ?_)
    try dsimp only at h
    refine lv_lconst (v := 1) hx hb dX9_isTask_111 (by decide) ?_
    refine lv_lsub hx hb dX9_isTask_112 ?_
    refine cPi (As := [.long x2, .long 2, .long (r_108 - 1)]) (rest := []) ⟨hx, hb, hml, hown, hts⟩ (mX9_in l x2 2 (r_108 - 1) _ h) (va_cwS 3 hts (gS q_930 q_931 q_8 q_932) rfl rfl rfl (by decide +kernel) ⟨Nat.le_of_ble_eq_true rfl, Nat.le_of_ble_eq_true rfl⟩) hS rfl hl.1 rfl (Nat.le_of_ble_eq_true rfl) dX9_isTask_113 ⟨Nat.le_of_ble_eq_true rfl, Nat.le_of_ble_eq_true rfl⟩ (fun r_113 H1 locs h hk1 hS => ?_)
    have hP := s_back hP hk1
    try dsimp only at h
    obtain ⟨hn9, h⟩ := h
    exact W.zret (v := r_113) hx hb hr hn9 (fun t ht hW => ⟨⟨r_113, (), rfl, h, by rw [ht]; exact hP, va_K.moved hW.alike hK, hD⟩, hS.F ht⟩) hS.2.2 dX9_isTask_116
  have h := h.2 c9
  have cs_6 := c9
  by_cases c9 : x1 = 7
  · have h := h.1 c9
    refine lv_tableIn (tgt := 117) hx hb dX9_isTask_1 (by rw [c9]; decide) (by rw [c9]; decide) (off := 116) (by rw [c9]; decide) (by decide) ?_
    refine lv_lload_n hx hb dX9_isTask_117 rfl (lv_at hl 2 rfl) ?_
    refine lv_lconst (v := 0) hx hb dX9_isTask_118 (by decide) ?_
    refine lv_aload_n hx hb dX9_isTask_119 rfl (lv_at hl 0 rfl) ?_
    refine cVl (As := []) (rest := [.long 0, .long x2]) (wc := [(a_t, .inr (7, [.ref a_t_v, .ref a_t_past, .ref a_t_costs, .int t_edits, .int t_thrown, .ref a_t_into, .ref a_t_isNeeded, .ref a_t_depths, .ref a_t_names, .ref a_t_out, .int t_outs, .ref a_t_has])), (a_t_v, .inl (ca 0, 206, .inl f_t_v))]) (wr := []) (w1 := fun _ : Unit => [(a_t, .inr (7, [.ref a_t_v, .ref a_t_past, .ref a_t_costs, .int t_edits, .int t_thrown, .ref a_t_into, .ref a_t_isNeeded, .ref a_t_depths, .ref a_t_names, .ref a_t_out, .int t_outs, .ref a_t_has])), (a_t_v, .inl (ca 0, 206, .inl f_t_v))]) (ws2 := fun _ : Unit => [(a_t, .inr (7, [.ref a_t_v, .ref a_t_past, .ref a_t_costs, .int t_edits, .int t_thrown, .ref a_t_into, .ref a_t_isNeeded, .ref a_t_depths, .ref a_t_names, .ref a_t_out, .int t_outs, .ref a_t_has])), (a_t_v, .inl (ca 0, 206, .inl f_t_v))]) ⟨hx, hb, hml, hown, hts⟩ (mX9_all l D ca a_t a_t_v a_t_past a_t_costs a_t_into a_t_isNeeded a_t_depths a_t_names a_t_out a_t_has _ t_edits t_thrown t_outs f_t_v _ h) (cwV 0 hts (gV q_955 q_957 qs_35 q_8 q_958) rfl rfl rfl (by decide +kernel) ⟨Nat.le_of_ble_eq_true rfl, Nat.le_of_ble_eq_true rfl⟩) hK hP hD hS hA [0, 1] [] [0, 1] rfl rfl rfl (by decide) (fun _ => rfl) (ci := 7) (q0 := 0) rfl rfl rfl hl.1 rfl (Nat.le_of_ble_eq_true rfl) dX9_isTask_120 ⟨Nat.le_of_ble_eq_true rfl, Nat.le_of_ble_eq_true rfl⟩ (fun r_120 u9 H locs h hP hD hS => ?_)
    try dsimp only at h
    refine lv_lconst (v := 1) hx hb dX9_isTask_123 (by decide) ?_
    refine lv_lsub hx hb dX9_isTask_124 ?_
    refine cPi (As := [.long x2, .long 0, .long (r_120 - 1)]) (rest := []) ⟨hx, hb, hml, hown, hts⟩ (mX9_in l x2 0 (r_120 - 1) _ h) (va_cwS 3 hts (gS q_930 q_931 q_8 q_932) rfl rfl rfl (by decide +kernel) ⟨Nat.le_of_ble_eq_true rfl, Nat.le_of_ble_eq_true rfl⟩) hS rfl hl.1 rfl (Nat.le_of_ble_eq_true rfl) dX9_isTask_125 ⟨Nat.le_of_ble_eq_true rfl, Nat.le_of_ble_eq_true rfl⟩ (fun r_125 H1 locs h hk1 hS => ?_)
    have hP := s_back hP hk1
    try dsimp only at h
    obtain ⟨hn9, h⟩ := h
    exact W.zret (v := r_125) hx hb hr hn9 (fun t ht hW => ⟨⟨r_125, (), rfl, h, by rw [ht]; exact hP, va_K.moved hW.alike hK, hD⟩, hS.F ht⟩) hS.2.2 dX9_isTask_128
  have h := h.2 c9
  have cs_7 := c9
  refine lv_tableOut (tgt := 129) hx hb dX9_isTask_1 (sw_out (fun j9 h1 h2 hj => ?_)) (by decide) ?_
  · rcases (show j9 = 0 ∨ j9 = 1 ∨ j9 = 2 ∨ j9 = 3 ∨ j9 = 4 ∨ j9 = 5 ∨ j9 = 6 ∨ j9 = 7 by omega) with rfl | rfl | rfl | rfl | rfl | rfl | rfl | rfl
    · exact cs_0 (Or.inl hj)
    · exact cs_0 (Or.inr (Or.inl hj))
    · exact cs_2 (Or.inl hj)
    · exact cs_2 (Or.inr hj)
    · exact cs_4 hj
    · exact cs_0 (Or.inr (Or.inr hj))
    · exact cs_6 hj
    · exact cs_7 hj
  refine lv_iconst (v := 0) hx hb dX9_isTask_129 (by decide) ?_
  exact W.zret (v := 0) hx hb hr rfl (fun t ht hW => ⟨⟨0, (), rfl, h, by rw [ht]; exact hP, va_K.moved hW.alike hK, hD⟩, hS.F ht⟩) hS.2.2 dX9_isTask_130

abbrev qX9_setWidth (D : va_G) (ca : Nat → ClassId) (a_t a_t_v a_t_past a_t_costs a_t_into a_t_isNeeded a_t_depths a_t_names a_t_out a_t_has : Nat) (t_outs : Int32) (Q : Int32 → Int32 → Int32 → (Nat → Int32) → (Nat → Int32) → Prop) (A : Nat → Prop) : Array Value → State → Outcome → State → Prop := va_Qi (fun (r : Int32) (u : Int32 × Int32 × (Nat → Int32) × (Nat → Int32)) => Q r u.1 u.2.1 u.2.2.1 u.2.2.2) (wEnd D ca (fun u : Int32 × Int32 × (Nat → Int32) × (Nat → Int32) => [(a_t, .inr (7, [.ref a_t_v, .ref a_t_past, .ref a_t_costs, .int u.1, .int u.2.1, .ref a_t_into, .ref a_t_isNeeded, .ref a_t_depths, .ref a_t_names, .ref a_t_out, .int t_outs, .ref a_t_has])), (a_t_v, .inl (ca 0, 206, .inl u.2.2.1)), (a_t_past, .inl (ca 0, 1648, .inl u.2.2.2))]) A) A
def wX9_setWidth (t_edits : Int32) (t_thrown : Int32) (f_t_v : Nat → Int32) (f_t_past : Nat → Int32) (x1 : Int32) (Q : Int32 → Int32 → Int32 → (Nat → Int32) → (Nat → Int32) → Prop) : Prop :=
  wX9_in x1.toInt64 4 16 (fun r_13 => ((r_13 = 0 → wX9_fails 0 1 (fun r_21 t_thrown_21 => Q r_21 t_edits t_thrown_21 f_t_v f_t_past)) ∧ (¬ r_13 = 0 → wX9_edits t_edits f_t_v f_t_past (fun t_edits_26 f_t_past_26 => (vp_in 0 206 ∧ (∀ x2_35 : Int32, x2_35 = f_t_v (0 : Int32).toNatClampNeg → (vp_in 0 206 ∧ (vp_in 1 206 ∧ (vp_in 3 206 ∧ (vp_in 4 206 ∧ Q x2_35 t_edits_26 0 (upd (upd (upd (upd f_t_v (0 : Int32).toNatClampNeg x1) (1 : Int32).toNatClampNeg ((-1))) (3 : Int32).toNatClampNeg 0) (4 : Int32).toNatClampNeg 0) f_t_past_26))))))))))
set_option maxHeartbeats 4000000 in
set_option maxRecDepth 100000 in
theorem mX9_setWidth (l : Launch) (D : va_G) (ca : Nat → ClassId) (a_t a_t_v a_t_past a_t_costs a_t_into a_t_isNeeded a_t_depths a_t_names a_t_out a_t_has : Nat) (sz : Nat) (t_edits : Int32) (t_thrown : Int32) (t_outs : Int32) (f_t_v : Nat → Int32) (f_t_past : Nat → Int32) (x1 : Int32) (Q : Int32 → Int32 → Int32 → (Nat → Int32) → (Nat → Int32) → Prop) (h : wX9_setWidth t_edits t_thrown f_t_v f_t_past x1 Q) : Met l yX9_setWidth (Cond.code yX9_setWidth cX9_setWidth 3 (some .int) :: wsG) ({ frames := 1, cells := 0, slots := 0, locals := 25 } : Room) (va_Pc [.ref a_t, .int x1] (wPre D ca [(a_t, .inr (7, [.ref a_t_v, .ref a_t_past, .ref a_t_costs, .int t_edits, .int t_thrown, .ref a_t_into, .ref a_t_isNeeded, .ref a_t_depths, .ref a_t_names, .ref a_t_out, .int t_outs, .ref a_t_has])), (a_t_v, .inl (ca 0, 206, .inl f_t_v)), (a_t_past, .inl (ca 0, 1648, .inl f_t_past))] sz)) (qX9_setWidth D ca a_t a_t_v a_t_past a_t_costs a_t_into a_t_isNeeded a_t_depths a_t_names a_t_out a_t_has t_outs Q (va_A [(a_t, .inr (7, [.ref a_t_v, .ref a_t_past, .ref a_t_costs, .int t_edits, .int t_thrown, .ref a_t_into, .ref a_t_isNeeded, .ref a_t_depths, .ref a_t_names, .ref a_t_out, .int t_outs, .ref a_t_has])), (a_t_v, .inl (ca 0, 206, .inl f_t_v)), (a_t_past, .inl (ca 0, 1648, .inl f_t_past))] sz)) 0 0 (va_A [(a_t, .inr (7, [.ref a_t_v, .ref a_t_past, .ref a_t_costs, .int t_edits, .int t_thrown, .ref a_t_into, .ref a_t_isNeeded, .ref a_t_depths, .ref a_t_names, .ref a_t_out, .int t_outs, .ref a_t_has])), (a_t_v, .inl (ca 0, 206, .inl f_t_v)), (a_t_past, .inl (ca 0, 1648, .inl f_t_past))] sz) := by
  refine Met.ofW (cc := cX9_setWidth) (maxL := 3) (ret := (some .int)) (by decide) rfl ?_
  intro p e s m args below meth c s₁ B hml hv
  obtain ⟨rfl, hsz, hP, hK, hD0⟩ := hv
  have hx := B.exec
  have hb := B.bytes
  have hr := B.returns
  have hts := atoms_spec (ws := (Cond.code yX9_setWidth cX9_setWidth 3 (some .int) :: wsG)) B.pre
  have hq : ∀ w ∈ wsG, w.before _ s = true := fun w hw => hts w (List.mem_cons_of_mem _ hw)
  have hown : s.vm.findClass RX9 = some m.cls := findClass_of_methodNamed B.named
  have hlocks := B.notSynchronized
  subst hsz
  have hD := hD0.self (sz := s.heap.size)
  generalize hAe : va_A [(a_t, .inr (7, [.ref a_t_v, .ref a_t_past, .ref a_t_costs, .int t_edits, .int t_thrown, .ref a_t_into, .ref a_t_isNeeded, .ref a_t_depths, .ref a_t_names, .ref a_t_out, .int t_outs, .ref a_t_has])), (a_t_v, .inl (ca 0, 206, .inl f_t_v)), (a_t_past, .inl (ca 0, 1648, .inl f_t_past))] s.heap.size = A at hD ⊢
  have hA : ∀ q : Nat, s.heap.size ≤ q → A q := fun q h => by rw [← hAe]; exact Or.inr h
  have hS : va_S A s.heap s.heap [] := va_S.rf
  have hP : va_P D vwCl [(a_t, .inr (7, [.ref a_t_v, .ref a_t_past, .ref a_t_costs, .int t_edits, .int t_thrown, .ref a_t_into, .ref a_t_isNeeded, .ref a_t_depths, .ref a_t_names, .ref a_t_out, .int t_outs, .ref a_t_has])), (a_t_v, .inl (ca 0, 206, .inl f_t_v)), (a_t_past, .inl (ca 0, 1648, .inl f_t_past))] s.heap := hP
  have hl := lv_entry ([.ref a_t, .int x1]) (n := 3) (Nat.le_of_ble_eq_true rfl)
  rw [lg_entry_eq]
  generalize (lg_sl ([.ref a_t, .int x1]) ++ List.replicate (3 - (lg_sl ([.ref a_t, .int x1])).length) Slot.unset).toArray = ls at hl ⊢
  have hl : lv_has ls 3 [(0, .ref a_t), (1, .int x1)] := hl
  unfold wX9_setWidth at h
  refine lv_aload_n hx hb dX9_setWidth_0 rfl (lv_at hl 0 rfl) ?_
  refine lv_iconst (v := 0) hx hb dX9_setWidth_1 (by decide) ?_
  refine va_put (D := D) (ci := 7) (v := .int 0) (ty := .int) (C := RX9) (T := TX9) (N := 12) hx hb hq inX9g tyX9 tyX9_ok nmX9 hown hK hP hD hS 0 rfl rfl 4 (by decide) (hq _ q_885) (fun _ h9 => h9) rfl (by decide +kernel) rfl rfl (Nat.le_of_ble_eq_true rfl) dX9_setWidth_2 (fun H locs hP hD hS => ?_)
  have hP : va_P D vwCl [(a_t, .inr (7, [.ref a_t_v, .ref a_t_past, .ref a_t_costs, .int t_edits, .int 0, .ref a_t_into, .ref a_t_isNeeded, .ref a_t_depths, .ref a_t_names, .ref a_t_out, .int t_outs, .ref a_t_has])), (a_t_v, .inl (ca 0, 206, .inl f_t_v)), (a_t_past, .inl (ca 0, 1648, .inl f_t_past))] H := hP
  have hD : va_D A [(a_t, .inr (7, [.ref a_t_v, .ref a_t_past, .ref a_t_costs, .int t_edits, .int 0, .ref a_t_into, .ref a_t_isNeeded, .ref a_t_depths, .ref a_t_names, .ref a_t_out, .int t_outs, .ref a_t_has])), (a_t_v, .inl (ca 0, 206, .inl f_t_v)), (a_t_past, .inl (ca 0, 1648, .inl f_t_past))] := hD
  refine lv_iload_n hx hb dX9_setWidth_5 rfl (lv_at hl 1 rfl) ?_
  refine lv_i2l hx hb dX9_setWidth_6 rfl ?_
  refine lv_ldc2 (v := 4) hx hb hown (hq _ q_928) dX9_setWidth_7 ?_
  refine lv_ldc2 (v := 16) hx hb hown (hq _ q_929) dX9_setWidth_10 ?_
  refine cPi (As := [.long x1.toInt64, .long 4, .long 16]) (rest := []) ⟨hx, hb, hml, hown, hts⟩ (mX9_in l x1.toInt64 4 16 _ h) (va_cwS 3 hts (gS q_930 q_931 q_8 q_932) rfl rfl rfl (by decide +kernel) ⟨Nat.le_of_ble_eq_true rfl, Nat.le_of_ble_eq_true rfl⟩) hS rfl hl.1 rfl (Nat.le_of_ble_eq_true rfl) dX9_setWidth_13 ⟨Nat.le_of_ble_eq_true rfl, Nat.le_of_ble_eq_true rfl⟩ (fun r_13 H1 locs h hk1 hS => ?_)
  have hP := s_back hP hk1
  try dsimp only at h
  refine lv_if_ne (tgt := 25) hx hb dX9_setWidth_16 (by decide) (fun c9 => ?_) (fun c9 => ?_)
  · have h := h.2 c9
    refine lv_aload_n hx hb dX9_setWidth_25 rfl (lv_at hl 0 rfl) ?_
    refine cVv (As := []) (rest := []) (wc := [(a_t, .inr (7, [.ref a_t_v, .ref a_t_past, .ref a_t_costs, .int t_edits, .int 0, .ref a_t_into, .ref a_t_isNeeded, .ref a_t_depths, .ref a_t_names, .ref a_t_out, .int t_outs, .ref a_t_has])), (a_t_v, .inl (ca 0, 206, .inl f_t_v)), (a_t_past, .inl (ca 0, 1648, .inl f_t_past))]) (wr := []) (w1 := fun u : Int32 × (Nat → Int32) => [(a_t, .inr (7, [.ref a_t_v, .ref a_t_past, .ref a_t_costs, .int u.1, .int 0, .ref a_t_into, .ref a_t_isNeeded, .ref a_t_depths, .ref a_t_names, .ref a_t_out, .int t_outs, .ref a_t_has])), (a_t_v, .inl (ca 0, 206, .inl f_t_v)), (a_t_past, .inl (ca 0, 1648, .inl u.2))]) (ws2 := fun u : Int32 × (Nat → Int32) => [(a_t, .inr (7, [.ref a_t_v, .ref a_t_past, .ref a_t_costs, .int u.1, .int 0, .ref a_t_into, .ref a_t_isNeeded, .ref a_t_depths, .ref a_t_names, .ref a_t_out, .int t_outs, .ref a_t_has])), (a_t_v, .inl (ca 0, 206, .inl f_t_v)), (a_t_past, .inl (ca 0, 1648, .inl u.2))]) ⟨hx, hb, hml, hown, hts⟩ (mX9_edits l D ca a_t a_t_v a_t_past a_t_costs a_t_into a_t_isNeeded a_t_depths a_t_names a_t_out a_t_has _ t_edits 0 t_outs f_t_v f_t_past _ h) (cwV 0 hts (gV q_937 q_939 qs_34 q_8 q_940) rfl rfl rfl (by decide +kernel) ⟨Nat.le_of_ble_eq_true rfl, Nat.le_of_ble_eq_true rfl⟩) hK hP hD hS hA [0, 1, 2] [] [0, 1, 2] rfl rfl rfl (by decide) (fun _ => rfl) (ci := 7) (q0 := 0) rfl rfl rfl hl.1 rfl (Nat.le_of_ble_eq_true rfl) dX9_setWidth_26 ⟨Nat.le_of_ble_eq_true rfl, Nat.le_of_ble_eq_true rfl⟩ (fun u9 H locs h hP hD hS => ?_)
    obtain ⟨t_edits_26, f_t_past_26⟩ := u9
    have hP : va_P D vwCl [(a_t, .inr (7, [.ref a_t_v, .ref a_t_past, .ref a_t_costs, .int t_edits_26, .int 0, .ref a_t_into, .ref a_t_isNeeded, .ref a_t_depths, .ref a_t_names, .ref a_t_out, .int t_outs, .ref a_t_has])), (a_t_v, .inl (ca 0, 206, .inl f_t_v)), (a_t_past, .inl (ca 0, 1648, .inl f_t_past_26))] H := hP
    have hD : va_D A [(a_t, .inr (7, [.ref a_t_v, .ref a_t_past, .ref a_t_costs, .int t_edits_26, .int 0, .ref a_t_into, .ref a_t_isNeeded, .ref a_t_depths, .ref a_t_names, .ref a_t_out, .int t_outs, .ref a_t_has])), (a_t_v, .inl (ca 0, 206, .inl f_t_v)), (a_t_past, .inl (ca 0, 1648, .inl f_t_past_26))] := hD
    try dsimp only at h
    refine lv_aload_n hx hb dX9_setWidth_29 rfl (lv_at hl 0 rfl) ?_
    refine va_get (D := D) (ci := 7) (v := .ref a_t_v) (C := RX9) (T := TX9) (N := 12) hx hb hq inX9g hown hK hP 0 rfl rfl 0 (by decide) (hq _ q_881) (fun _ h9 => h9) rfl dX9_setWidth_30 ?_
    refine lv_iconst (v := 0) hx hb dX9_setWidth_33 (by decide) ?_
    obtain ⟨hi9, h⟩ := h
    refine va_iald hx hb hK hP 1 0 rfl rfl hi9 dX9_setWidth_34 ?_
    refine lv_topi (fun x2_35 ex2_35 => ?_)
    have h := h x2_35 ex2_35
    refine lv_istore_n (lv' := [(2, .int x2_35), (0, .ref a_t), (1, .int x1)]) hx hb dX9_setWidth_35 rfl hl (by decide) rfl (fun ls hl => ?_)
    refine lv_aload_n hx hb dX9_setWidth_36 rfl (lv_at hl 1 rfl) ?_
    refine va_get (D := D) (ci := 7) (v := .ref a_t_v) (C := RX9) (T := TX9) (N := 12) hx hb hq inX9g hown hK hP 0 rfl rfl 0 (by decide) (hq _ q_881) (fun _ h9 => h9) rfl dX9_setWidth_37 ?_
    refine lv_iconst (v := 0) hx hb dX9_setWidth_40 (by decide) ?_
    refine lv_iload_n hx hb dX9_setWidth_41 rfl (lv_at hl 2 rfl) ?_
    obtain ⟨hi9, h⟩ := h
    refine va_iast hx hb hK hP hD hS 1 0 rfl rfl hi9 dX9_setWidth_42 (fun H locs hP hD hS => ?_)
    have hP : va_P D vwCl [(a_t, .inr (7, [.ref a_t_v, .ref a_t_past, .ref a_t_costs, .int t_edits_26, .int 0, .ref a_t_into, .ref a_t_isNeeded, .ref a_t_depths, .ref a_t_names, .ref a_t_out, .int t_outs, .ref a_t_has])), (a_t_v, .inl (ca 0, 206, .inl (upd f_t_v (0 : Int32).toNatClampNeg x1))), (a_t_past, .inl (ca 0, 1648, .inl f_t_past_26))] H := hP
    have hD : va_D A [(a_t, .inr (7, [.ref a_t_v, .ref a_t_past, .ref a_t_costs, .int t_edits_26, .int 0, .ref a_t_into, .ref a_t_isNeeded, .ref a_t_depths, .ref a_t_names, .ref a_t_out, .int t_outs, .ref a_t_has])), (a_t_v, .inl (ca 0, 206, .inl (upd f_t_v (0 : Int32).toNatClampNeg x1))), (a_t_past, .inl (ca 0, 1648, .inl f_t_past_26))] := hD
    refine lv_aload_n hx hb dX9_setWidth_43 rfl (lv_at hl 1 rfl) ?_
    refine va_get (D := D) (ci := 7) (v := .ref a_t_v) (C := RX9) (T := TX9) (N := 12) hx hb hq inX9g hown hK hP 0 rfl rfl 0 (by decide) (hq _ q_881) (fun _ h9 => h9) rfl dX9_setWidth_44 ?_
    refine lv_iconst (v := 1) hx hb dX9_setWidth_47 (by decide) ?_
    refine lv_iconst (v := (-1)) hx hb dX9_setWidth_48 (by decide) ?_
    obtain ⟨hi9, h⟩ := h
    refine va_iast hx hb hK hP hD hS 1 0 rfl rfl hi9 dX9_setWidth_49 (fun H locs hP hD hS => ?_)
    have hP : va_P D vwCl [(a_t, .inr (7, [.ref a_t_v, .ref a_t_past, .ref a_t_costs, .int t_edits_26, .int 0, .ref a_t_into, .ref a_t_isNeeded, .ref a_t_depths, .ref a_t_names, .ref a_t_out, .int t_outs, .ref a_t_has])), (a_t_v, .inl (ca 0, 206, .inl (upd (upd f_t_v (0 : Int32).toNatClampNeg x1) (1 : Int32).toNatClampNeg ((-1))))), (a_t_past, .inl (ca 0, 1648, .inl f_t_past_26))] H := hP
    have hD : va_D A [(a_t, .inr (7, [.ref a_t_v, .ref a_t_past, .ref a_t_costs, .int t_edits_26, .int 0, .ref a_t_into, .ref a_t_isNeeded, .ref a_t_depths, .ref a_t_names, .ref a_t_out, .int t_outs, .ref a_t_has])), (a_t_v, .inl (ca 0, 206, .inl (upd (upd f_t_v (0 : Int32).toNatClampNeg x1) (1 : Int32).toNatClampNeg ((-1))))), (a_t_past, .inl (ca 0, 1648, .inl f_t_past_26))] := hD
    refine lv_aload_n hx hb dX9_setWidth_50 rfl (lv_at hl 1 rfl) ?_
    refine va_get (D := D) (ci := 7) (v := .ref a_t_v) (C := RX9) (T := TX9) (N := 12) hx hb hq inX9g hown hK hP 0 rfl rfl 0 (by decide) (hq _ q_881) (fun _ h9 => h9) rfl dX9_setWidth_51 ?_
    refine lv_iconst (v := 3) hx hb dX9_setWidth_54 (by decide) ?_
    refine lv_iconst (v := 0) hx hb dX9_setWidth_55 (by decide) ?_
    obtain ⟨hi9, h⟩ := h
    refine va_iast hx hb hK hP hD hS 1 0 rfl rfl hi9 dX9_setWidth_56 (fun H locs hP hD hS => ?_)
    have hP : va_P D vwCl [(a_t, .inr (7, [.ref a_t_v, .ref a_t_past, .ref a_t_costs, .int t_edits_26, .int 0, .ref a_t_into, .ref a_t_isNeeded, .ref a_t_depths, .ref a_t_names, .ref a_t_out, .int t_outs, .ref a_t_has])), (a_t_v, .inl (ca 0, 206, .inl (upd (upd (upd f_t_v (0 : Int32).toNatClampNeg x1) (1 : Int32).toNatClampNeg ((-1))) (3 : Int32).toNatClampNeg 0))), (a_t_past, .inl (ca 0, 1648, .inl f_t_past_26))] H := hP
    have hD : va_D A [(a_t, .inr (7, [.ref a_t_v, .ref a_t_past, .ref a_t_costs, .int t_edits_26, .int 0, .ref a_t_into, .ref a_t_isNeeded, .ref a_t_depths, .ref a_t_names, .ref a_t_out, .int t_outs, .ref a_t_has])), (a_t_v, .inl (ca 0, 206, .inl (upd (upd (upd f_t_v (0 : Int32).toNatClampNeg x1) (1 : Int32).toNatClampNeg ((-1))) (3 : Int32).toNatClampNeg 0))), (a_t_past, .inl (ca 0, 1648, .inl f_t_past_26))] := hD
    refine lv_aload_n hx hb dX9_setWidth_57 rfl (lv_at hl 1 rfl) ?_
    refine va_get (D := D) (ci := 7) (v := .ref a_t_v) (C := RX9) (T := TX9) (N := 12) hx hb hq inX9g hown hK hP 0 rfl rfl 0 (by decide) (hq _ q_881) (fun _ h9 => h9) rfl dX9_setWidth_58 ?_
    refine lv_iconst (v := 4) hx hb dX9_setWidth_61 (by decide) ?_
    refine lv_iconst (v := 0) hx hb dX9_setWidth_62 (by decide) ?_
    obtain ⟨hi9, h⟩ := h
    refine va_iast hx hb hK hP hD hS 1 0 rfl rfl hi9 dX9_setWidth_63 (fun H locs hP hD hS => ?_)
    have hP : va_P D vwCl [(a_t, .inr (7, [.ref a_t_v, .ref a_t_past, .ref a_t_costs, .int t_edits_26, .int 0, .ref a_t_into, .ref a_t_isNeeded, .ref a_t_depths, .ref a_t_names, .ref a_t_out, .int t_outs, .ref a_t_has])), (a_t_v, .inl (ca 0, 206, .inl (upd (upd (upd (upd f_t_v (0 : Int32).toNatClampNeg x1) (1 : Int32).toNatClampNeg ((-1))) (3 : Int32).toNatClampNeg 0) (4 : Int32).toNatClampNeg 0))), (a_t_past, .inl (ca 0, 1648, .inl f_t_past_26))] H := hP
    have hD : va_D A [(a_t, .inr (7, [.ref a_t_v, .ref a_t_past, .ref a_t_costs, .int t_edits_26, .int 0, .ref a_t_into, .ref a_t_isNeeded, .ref a_t_depths, .ref a_t_names, .ref a_t_out, .int t_outs, .ref a_t_has])), (a_t_v, .inl (ca 0, 206, .inl (upd (upd (upd (upd f_t_v (0 : Int32).toNatClampNeg x1) (1 : Int32).toNatClampNeg ((-1))) (3 : Int32).toNatClampNeg 0) (4 : Int32).toNatClampNeg 0))), (a_t_past, .inl (ca 0, 1648, .inl f_t_past_26))] := hD
    refine lv_iload_n hx hb dX9_setWidth_64 rfl (lv_at hl 0 rfl) ?_
    exact W.iret (v := x2_35) hx hb hr (fun t ht hW => ⟨⟨x2_35, (t_edits_26, 0, upd (upd (upd (upd f_t_v (0 : Int32).toNatClampNeg x1) (1 : Int32).toNatClampNeg ((-1))) (3 : Int32).toNatClampNeg 0) (4 : Int32).toNatClampNeg 0, f_t_past_26), rfl, h, by rw [ht]; exact hP, va_K.moved hW.alike hK, hD⟩, hS.F ht⟩) hS.2.2 dX9_setWidth_65
  · have h := h.1 c9
    refine lv_aload_n hx hb dX9_setWidth_19 rfl (lv_at hl 0 rfl) ?_
    refine lv_iconst (v := 1) hx hb dX9_setWidth_20 (by decide) ?_
    refine cVi (As := [.int 1]) (rest := []) (wc := [(a_t, .inr (7, [.ref a_t_v, .ref a_t_past, .ref a_t_costs, .int t_edits, .int 0, .ref a_t_into, .ref a_t_isNeeded, .ref a_t_depths, .ref a_t_names, .ref a_t_out, .int t_outs, .ref a_t_has]))]) (wr := [(a_t_v, .inl (ca 0, 206, .inl f_t_v)), (a_t_past, .inl (ca 0, 1648, .inl f_t_past))]) (w1 := fun u : Int32 => [(a_t, .inr (7, [.ref a_t_v, .ref a_t_past, .ref a_t_costs, .int t_edits, .int u, .ref a_t_into, .ref a_t_isNeeded, .ref a_t_depths, .ref a_t_names, .ref a_t_out, .int t_outs, .ref a_t_has]))]) (ws2 := fun u : Int32 => [(a_t, .inr (7, [.ref a_t_v, .ref a_t_past, .ref a_t_costs, .int t_edits, .int u, .ref a_t_into, .ref a_t_isNeeded, .ref a_t_depths, .ref a_t_names, .ref a_t_out, .int t_outs, .ref a_t_has])), (a_t_v, .inl (ca 0, 206, .inl f_t_v)), (a_t_past, .inl (ca 0, 1648, .inl f_t_past))]) ⟨hx, hb, hml, hown, hts⟩ (mX9_fails l D ca a_t a_t_v a_t_past a_t_costs a_t_into a_t_isNeeded a_t_depths a_t_names a_t_out a_t_has _ t_edits 0 t_outs 1 _ h) (cwV 1 hts (gV q_933 q_935 qs_33 q_8 q_936) rfl rfl rfl (by decide +kernel) ⟨Nat.le_of_ble_eq_true rfl, Nat.le_of_ble_eq_true rfl⟩) hK hP hD hS hA [0] [1, 2] [2, 0, 1] rfl rfl rfl (by decide) (fun _ => rfl) (ci := 7) (q0 := 0) rfl rfl rfl hl.1 rfl (Nat.le_of_ble_eq_true rfl) dX9_setWidth_21 ⟨Nat.le_of_ble_eq_true rfl, Nat.le_of_ble_eq_true rfl⟩ (fun r_21 u9 H locs h hP hD hS => ?_)
    obtain ⟨t_thrown_21, rfl⟩ : ∃ z, z = u9 := ⟨_, rfl⟩
    have hP : va_P D vwCl [(a_t, .inr (7, [.ref a_t_v, .ref a_t_past, .ref a_t_costs, .int t_edits, .int t_thrown_21, .ref a_t_into, .ref a_t_isNeeded, .ref a_t_depths, .ref a_t_names, .ref a_t_out, .int t_outs, .ref a_t_has])), (a_t_v, .inl (ca 0, 206, .inl f_t_v)), (a_t_past, .inl (ca 0, 1648, .inl f_t_past))] H := hP
    have hD : va_D A [(a_t, .inr (7, [.ref a_t_v, .ref a_t_past, .ref a_t_costs, .int t_edits, .int t_thrown_21, .ref a_t_into, .ref a_t_isNeeded, .ref a_t_depths, .ref a_t_names, .ref a_t_out, .int t_outs, .ref a_t_has])), (a_t_v, .inl (ca 0, 206, .inl f_t_v)), (a_t_past, .inl (ca 0, 1648, .inl f_t_past))] := hD
    try dsimp only at h
    exact W.iret (v := r_21) hx hb hr (fun t ht hW => ⟨⟨r_21, (t_edits, t_thrown_21, f_t_v, f_t_past), rfl, h, by rw [ht]; exact hP, va_K.moved hW.alike hK, hD⟩, hS.F ht⟩) hS.2.2 dX9_setWidth_24

abbrev qX9_width (D : va_G) (ca : Nat → ClassId) (a_t a_t_v a_t_past a_t_costs a_t_into a_t_isNeeded a_t_depths a_t_names a_t_out a_t_has : Nat) (t_edits : Int32) (t_outs : Int32) (f_t_v : Nat → Int32) (Q : Int32 → Int32 → Prop) (A : Nat → Prop) : Array Value → State → Outcome → State → Prop := va_Qi (fun (r : Int32) (u : Int32) => Q r u) (wEnd D ca (fun u : Int32 => [(a_t, .inr (7, [.ref a_t_v, .ref a_t_past, .ref a_t_costs, .int t_edits, .int u, .ref a_t_into, .ref a_t_isNeeded, .ref a_t_depths, .ref a_t_names, .ref a_t_out, .int t_outs, .ref a_t_has])), (a_t_v, .inl (ca 0, 206, .inl f_t_v))]) A) A
def wX9_width (t_thrown : Int32) (f_t_v : Nat → Int32) (Q : Int32 → Int32 → Prop) : Prop :=
  (vp_in 0 206 ∧ Q (f_t_v (0 : Int32).toNatClampNeg) 0)
set_option maxHeartbeats 4000000 in
set_option maxRecDepth 100000 in
theorem mX9_width (l : Launch) (D : va_G) (ca : Nat → ClassId) (a_t a_t_v a_t_past a_t_costs a_t_into a_t_isNeeded a_t_depths a_t_names a_t_out a_t_has : Nat) (sz : Nat) (t_edits : Int32) (t_thrown : Int32) (t_outs : Int32) (f_t_v : Nat → Int32) (Q : Int32 → Int32 → Prop) (h : wX9_width t_thrown f_t_v Q) : Met l yX9_width (Cond.code yX9_width cX9_width 1 (some .int) :: wsG) ({ frames := 0, cells := 0, slots := 0, locals := 0 } : Room) (va_Pc [.ref a_t] (wPre D ca [(a_t, .inr (7, [.ref a_t_v, .ref a_t_past, .ref a_t_costs, .int t_edits, .int t_thrown, .ref a_t_into, .ref a_t_isNeeded, .ref a_t_depths, .ref a_t_names, .ref a_t_out, .int t_outs, .ref a_t_has])), (a_t_v, .inl (ca 0, 206, .inl f_t_v))] sz)) (qX9_width D ca a_t a_t_v a_t_past a_t_costs a_t_into a_t_isNeeded a_t_depths a_t_names a_t_out a_t_has t_edits t_outs f_t_v Q (va_A [(a_t, .inr (7, [.ref a_t_v, .ref a_t_past, .ref a_t_costs, .int t_edits, .int t_thrown, .ref a_t_into, .ref a_t_isNeeded, .ref a_t_depths, .ref a_t_names, .ref a_t_out, .int t_outs, .ref a_t_has])), (a_t_v, .inl (ca 0, 206, .inl f_t_v))] sz)) 0 0 (va_A [(a_t, .inr (7, [.ref a_t_v, .ref a_t_past, .ref a_t_costs, .int t_edits, .int t_thrown, .ref a_t_into, .ref a_t_isNeeded, .ref a_t_depths, .ref a_t_names, .ref a_t_out, .int t_outs, .ref a_t_has])), (a_t_v, .inl (ca 0, 206, .inl f_t_v))] sz) := by
  refine Met.ofW (cc := cX9_width) (maxL := 1) (ret := (some .int)) (by decide) rfl ?_
  intro p e s m args below meth c s₁ B hml hv
  obtain ⟨rfl, hsz, hP, hK, hD0⟩ := hv
  have hx := B.exec
  have hb := B.bytes
  have hr := B.returns
  have hts := atoms_spec (ws := (Cond.code yX9_width cX9_width 1 (some .int) :: wsG)) B.pre
  have hq : ∀ w ∈ wsG, w.before _ s = true := fun w hw => hts w (List.mem_cons_of_mem _ hw)
  have hown : s.vm.findClass RX9 = some m.cls := findClass_of_methodNamed B.named
  have hlocks := B.notSynchronized
  subst hsz
  have hD := hD0.self (sz := s.heap.size)
  generalize hAe : va_A [(a_t, .inr (7, [.ref a_t_v, .ref a_t_past, .ref a_t_costs, .int t_edits, .int t_thrown, .ref a_t_into, .ref a_t_isNeeded, .ref a_t_depths, .ref a_t_names, .ref a_t_out, .int t_outs, .ref a_t_has])), (a_t_v, .inl (ca 0, 206, .inl f_t_v))] s.heap.size = A at hD ⊢
  have hA : ∀ q : Nat, s.heap.size ≤ q → A q := fun q h => by rw [← hAe]; exact Or.inr h
  have hS : va_S A s.heap s.heap [] := va_S.rf
  have hP : va_P D vwCl [(a_t, .inr (7, [.ref a_t_v, .ref a_t_past, .ref a_t_costs, .int t_edits, .int t_thrown, .ref a_t_into, .ref a_t_isNeeded, .ref a_t_depths, .ref a_t_names, .ref a_t_out, .int t_outs, .ref a_t_has])), (a_t_v, .inl (ca 0, 206, .inl f_t_v))] s.heap := hP
  have hl := lv_entry ([.ref a_t]) (n := 1) (Nat.le_of_ble_eq_true rfl)
  rw [lg_entry_eq]
  generalize (lg_sl ([.ref a_t]) ++ List.replicate (1 - (lg_sl ([.ref a_t])).length) Slot.unset).toArray = ls at hl ⊢
  have hl : lv_has ls 1 [(0, .ref a_t)] := hl
  unfold wX9_width at h
  refine lv_aload_n hx hb dX9_width_0 rfl (lv_at hl 0 rfl) ?_
  refine lv_iconst (v := 0) hx hb dX9_width_1 (by decide) ?_
  refine va_put (D := D) (ci := 7) (v := .int 0) (ty := .int) (C := RX9) (T := TX9) (N := 12) hx hb hq inX9g tyX9 tyX9_ok nmX9 hown hK hP hD hS 0 rfl rfl 4 (by decide) (hq _ q_885) (fun _ h9 => h9) rfl (by decide +kernel) rfl rfl (Nat.le_of_ble_eq_true rfl) dX9_width_2 (fun H locs hP hD hS => ?_)
  have hP : va_P D vwCl [(a_t, .inr (7, [.ref a_t_v, .ref a_t_past, .ref a_t_costs, .int t_edits, .int 0, .ref a_t_into, .ref a_t_isNeeded, .ref a_t_depths, .ref a_t_names, .ref a_t_out, .int t_outs, .ref a_t_has])), (a_t_v, .inl (ca 0, 206, .inl f_t_v))] H := hP
  have hD : va_D A [(a_t, .inr (7, [.ref a_t_v, .ref a_t_past, .ref a_t_costs, .int t_edits, .int 0, .ref a_t_into, .ref a_t_isNeeded, .ref a_t_depths, .ref a_t_names, .ref a_t_out, .int t_outs, .ref a_t_has])), (a_t_v, .inl (ca 0, 206, .inl f_t_v))] := hD
  refine lv_aload_n hx hb dX9_width_5 rfl (lv_at hl 0 rfl) ?_
  refine va_get (D := D) (ci := 7) (v := .ref a_t_v) (C := RX9) (T := TX9) (N := 12) hx hb hq inX9g hown hK hP 0 rfl rfl 0 (by decide) (hq _ q_881) (fun _ h9 => h9) rfl dX9_width_6 ?_
  refine lv_iconst (v := 0) hx hb dX9_width_9 (by decide) ?_
  obtain ⟨hi9, h⟩ := h
  refine va_iald hx hb hK hP 1 0 rfl rfl hi9 dX9_width_10 ?_
  exact W.iret (v := f_t_v (0 : Int32).toNatClampNeg) hx hb hr (fun t ht hW => ⟨⟨f_t_v (0 : Int32).toNatClampNeg, 0, rfl, h, by rw [ht]; exact hP, va_K.moved hW.alike hK, hD⟩, hS.F ht⟩) hS.2.2 dX9_width_11

abbrev qX9_setCost (D : va_G) (ca : Nat → ClassId) (a_t a_t_v a_t_past a_t_costs a_t_into a_t_isNeeded a_t_depths a_t_names a_t_out a_t_has : Nat) (t_edits : Int32) (t_outs : Int32) (Q : Int32 → Int32 → (Nat → Int32) → Prop) (A : Nat → Prop) : Array Value → State → Outcome → State → Prop := va_Qi (fun (r : Int32) (u : Int32 × (Nat → Int32)) => Q r u.1 u.2) (wEnd D ca (fun u : Int32 × (Nat → Int32) => [(a_t, .inr (7, [.ref a_t_v, .ref a_t_past, .ref a_t_costs, .int t_edits, .int u.1, .ref a_t_into, .ref a_t_isNeeded, .ref a_t_depths, .ref a_t_names, .ref a_t_out, .int t_outs, .ref a_t_has])), (a_t_costs, .inl (ca 0, 3, .inl u.2))]) A) A
def wX9_setCost (t_thrown : Int32) (f_t_costs : Nat → Int32) (x1 : Int32) (x2 : Int32) (Q : Int32 → Int32 → (Nat → Int32) → Prop) : Prop :=
  wX9_in x1.toInt64 0 2 (fun r_11 => ((r_11 = 0 → wX9_fails 0 1 (fun r_19 t_thrown_19 => Q r_19 t_thrown_19 f_t_costs)) ∧ (¬ r_11 = 0 → wX9_in x2.toInt64 1 20 (fun r_29 => ((r_29 = 0 → wX9_fails 0 2 (fun r_37 t_thrown_37 => Q r_37 t_thrown_37 f_t_costs)) ∧ (¬ r_29 = 0 → (vp_in x1 3 ∧ (∀ x3_47 : Int32, x3_47 = f_t_costs x1.toNatClampNeg → (vp_in x1 3 ∧ Q x3_47 0 (upd f_t_costs x1.toNatClampNeg x2))))))))))
set_option maxHeartbeats 4000000 in
set_option maxRecDepth 100000 in
theorem mX9_setCost (l : Launch) (D : va_G) (ca : Nat → ClassId) (a_t a_t_v a_t_past a_t_costs a_t_into a_t_isNeeded a_t_depths a_t_names a_t_out a_t_has : Nat) (sz : Nat) (t_edits : Int32) (t_thrown : Int32) (t_outs : Int32) (f_t_costs : Nat → Int32) (x1 : Int32) (x2 : Int32) (Q : Int32 → Int32 → (Nat → Int32) → Prop) (h : wX9_setCost t_thrown f_t_costs x1 x2 Q) : Met l yX9_setCost (Cond.code yX9_setCost cX9_setCost 4 (some .int) :: wsG) ({ frames := 1, cells := 0, slots := 0, locals := 25 } : Room) (va_Pc [.ref a_t, .int x1, .int x2] (wPre D ca [(a_t, .inr (7, [.ref a_t_v, .ref a_t_past, .ref a_t_costs, .int t_edits, .int t_thrown, .ref a_t_into, .ref a_t_isNeeded, .ref a_t_depths, .ref a_t_names, .ref a_t_out, .int t_outs, .ref a_t_has])), (a_t_costs, .inl (ca 0, 3, .inl f_t_costs))] sz)) (qX9_setCost D ca a_t a_t_v a_t_past a_t_costs a_t_into a_t_isNeeded a_t_depths a_t_names a_t_out a_t_has t_edits t_outs Q (va_A [(a_t, .inr (7, [.ref a_t_v, .ref a_t_past, .ref a_t_costs, .int t_edits, .int t_thrown, .ref a_t_into, .ref a_t_isNeeded, .ref a_t_depths, .ref a_t_names, .ref a_t_out, .int t_outs, .ref a_t_has])), (a_t_costs, .inl (ca 0, 3, .inl f_t_costs))] sz)) 0 0 (va_A [(a_t, .inr (7, [.ref a_t_v, .ref a_t_past, .ref a_t_costs, .int t_edits, .int t_thrown, .ref a_t_into, .ref a_t_isNeeded, .ref a_t_depths, .ref a_t_names, .ref a_t_out, .int t_outs, .ref a_t_has])), (a_t_costs, .inl (ca 0, 3, .inl f_t_costs))] sz) := by
  refine Met.ofW (cc := cX9_setCost) (maxL := 4) (ret := (some .int)) (by decide) rfl ?_
  intro p e s m args below meth c s₁ B hml hv
  obtain ⟨rfl, hsz, hP, hK, hD0⟩ := hv
  have hx := B.exec
  have hb := B.bytes
  have hr := B.returns
  have hts := atoms_spec (ws := (Cond.code yX9_setCost cX9_setCost 4 (some .int) :: wsG)) B.pre
  have hq : ∀ w ∈ wsG, w.before _ s = true := fun w hw => hts w (List.mem_cons_of_mem _ hw)
  have hown : s.vm.findClass RX9 = some m.cls := findClass_of_methodNamed B.named
  have hlocks := B.notSynchronized
  subst hsz
  have hD := hD0.self (sz := s.heap.size)
  generalize hAe : va_A [(a_t, .inr (7, [.ref a_t_v, .ref a_t_past, .ref a_t_costs, .int t_edits, .int t_thrown, .ref a_t_into, .ref a_t_isNeeded, .ref a_t_depths, .ref a_t_names, .ref a_t_out, .int t_outs, .ref a_t_has])), (a_t_costs, .inl (ca 0, 3, .inl f_t_costs))] s.heap.size = A at hD ⊢
  have hA : ∀ q : Nat, s.heap.size ≤ q → A q := fun q h => by rw [← hAe]; exact Or.inr h
  have hS : va_S A s.heap s.heap [] := va_S.rf
  have hP : va_P D vwCl [(a_t, .inr (7, [.ref a_t_v, .ref a_t_past, .ref a_t_costs, .int t_edits, .int t_thrown, .ref a_t_into, .ref a_t_isNeeded, .ref a_t_depths, .ref a_t_names, .ref a_t_out, .int t_outs, .ref a_t_has])), (a_t_costs, .inl (ca 0, 3, .inl f_t_costs))] s.heap := hP
  have hl := lv_entry ([.ref a_t, .int x1, .int x2]) (n := 4) (Nat.le_of_ble_eq_true rfl)
  rw [lg_entry_eq]
  generalize (lg_sl ([.ref a_t, .int x1, .int x2]) ++ List.replicate (4 - (lg_sl ([.ref a_t, .int x1, .int x2])).length) Slot.unset).toArray = ls at hl ⊢
  have hl : lv_has ls 4 [(0, .ref a_t), (1, .int x1), (2, .int x2)] := hl
  unfold wX9_setCost at h
  refine lv_aload_n hx hb dX9_setCost_0 rfl (lv_at hl 0 rfl) ?_
  refine lv_iconst (v := 0) hx hb dX9_setCost_1 (by decide) ?_
  refine va_put (D := D) (ci := 7) (v := .int 0) (ty := .int) (C := RX9) (T := TX9) (N := 12) hx hb hq inX9g tyX9 tyX9_ok nmX9 hown hK hP hD hS 0 rfl rfl 4 (by decide) (hq _ q_885) (fun _ h9 => h9) rfl (by decide +kernel) rfl rfl (Nat.le_of_ble_eq_true rfl) dX9_setCost_2 (fun H locs hP hD hS => ?_)
  have hP : va_P D vwCl [(a_t, .inr (7, [.ref a_t_v, .ref a_t_past, .ref a_t_costs, .int t_edits, .int 0, .ref a_t_into, .ref a_t_isNeeded, .ref a_t_depths, .ref a_t_names, .ref a_t_out, .int t_outs, .ref a_t_has])), (a_t_costs, .inl (ca 0, 3, .inl f_t_costs))] H := hP
  have hD : va_D A [(a_t, .inr (7, [.ref a_t_v, .ref a_t_past, .ref a_t_costs, .int t_edits, .int 0, .ref a_t_into, .ref a_t_isNeeded, .ref a_t_depths, .ref a_t_names, .ref a_t_out, .int t_outs, .ref a_t_has])), (a_t_costs, .inl (ca 0, 3, .inl f_t_costs))] := hD
  refine lv_iload_n hx hb dX9_setCost_5 rfl (lv_at hl 1 rfl) ?_
  refine lv_i2l hx hb dX9_setCost_6 rfl ?_
  refine lv_lconst (v := 0) hx hb dX9_setCost_7 (by decide) ?_
  refine lv_ldc2 (v := 2) hx hb hown (hq _ q_949) dX9_setCost_8 ?_
  refine cPi (As := [.long x1.toInt64, .long 0, .long 2]) (rest := []) ⟨hx, hb, hml, hown, hts⟩ (mX9_in l x1.toInt64 0 2 _ h) (va_cwS 3 hts (gS q_930 q_931 q_8 q_932) rfl rfl rfl (by decide +kernel) ⟨Nat.le_of_ble_eq_true rfl, Nat.le_of_ble_eq_true rfl⟩) hS rfl hl.1 rfl (Nat.le_of_ble_eq_true rfl) dX9_setCost_11 ⟨Nat.le_of_ble_eq_true rfl, Nat.le_of_ble_eq_true rfl⟩ (fun r_11 H1 locs h hk1 hS => ?_)
  have hP := s_back hP hk1
  try dsimp only at h
  refine lv_if_ne (tgt := 23) hx hb dX9_setCost_14 (by decide) (fun c9 => ?_) (fun c9 => ?_)
  · have h := h.2 c9
    refine lv_iload_n hx hb dX9_setCost_23 rfl (lv_at hl 2 rfl) ?_
    refine lv_i2l hx hb dX9_setCost_24 rfl ?_
    refine lv_lconst (v := 1) hx hb dX9_setCost_25 (by decide) ?_
    refine lv_ldc2 (v := 20) hx hb hown (hq _ q_950) dX9_setCost_26 ?_
    refine cPi (As := [.long x2.toInt64, .long 1, .long 20]) (rest := []) ⟨hx, hb, hml, hown, hts⟩ (mX9_in l x2.toInt64 1 20 _ h) (va_cwS 3 hts (gS q_930 q_931 q_8 q_932) rfl rfl rfl (by decide +kernel) ⟨Nat.le_of_ble_eq_true rfl, Nat.le_of_ble_eq_true rfl⟩) hS rfl hl.1 rfl (Nat.le_of_ble_eq_true rfl) dX9_setCost_29 ⟨Nat.le_of_ble_eq_true rfl, Nat.le_of_ble_eq_true rfl⟩ (fun r_29 H1 locs h hk1 hS => ?_)
    have hP := s_back hP hk1
    try dsimp only at h
    refine lv_if_ne (tgt := 41) hx hb dX9_setCost_32 (by decide) (fun c9 => ?_) (fun c9 => ?_)
    · have h := h.2 c9
      refine lv_aload_n hx hb dX9_setCost_41 rfl (lv_at hl 0 rfl) ?_
      refine va_get (D := D) (ci := 7) (v := .ref a_t_costs) (C := RX9) (T := TX9) (N := 12) hx hb hq inX9g hown hK hP 0 rfl rfl 2 (by decide) (hq _ q_883) (fun _ h9 => h9) rfl dX9_setCost_42 ?_
      refine lv_iload_n hx hb dX9_setCost_45 rfl (lv_at hl 1 rfl) ?_
      obtain ⟨hi9, h⟩ := h
      refine va_iald hx hb hK hP 1 0 rfl rfl hi9 dX9_setCost_46 ?_
      refine lv_topi (fun x3_47 ex3_47 => ?_)
      have h := h x3_47 ex3_47
      refine lv_istore_n (lv' := [(3, .int x3_47), (0, .ref a_t), (1, .int x1), (2, .int x2)]) hx hb dX9_setCost_47 rfl hl (by decide) rfl (fun ls hl => ?_)
      refine lv_aload_n hx hb dX9_setCost_48 rfl (lv_at hl 1 rfl) ?_
      refine va_get (D := D) (ci := 7) (v := .ref a_t_costs) (C := RX9) (T := TX9) (N := 12) hx hb hq inX9g hown hK hP 0 rfl rfl 2 (by decide) (hq _ q_883) (fun _ h9 => h9) rfl dX9_setCost_49 ?_
      refine lv_iload_n hx hb dX9_setCost_52 rfl (lv_at hl 2 rfl) ?_
      refine lv_iload_n hx hb dX9_setCost_53 rfl (lv_at hl 3 rfl) ?_
      obtain ⟨hi9, h⟩ := h
      refine va_iast hx hb hK hP hD hS 1 0 rfl rfl hi9 dX9_setCost_54 (fun H locs hP hD hS => ?_)
      have hP : va_P D vwCl [(a_t, .inr (7, [.ref a_t_v, .ref a_t_past, .ref a_t_costs, .int t_edits, .int 0, .ref a_t_into, .ref a_t_isNeeded, .ref a_t_depths, .ref a_t_names, .ref a_t_out, .int t_outs, .ref a_t_has])), (a_t_costs, .inl (ca 0, 3, .inl (upd f_t_costs x1.toNatClampNeg x2)))] H := hP
      have hD : va_D A [(a_t, .inr (7, [.ref a_t_v, .ref a_t_past, .ref a_t_costs, .int t_edits, .int 0, .ref a_t_into, .ref a_t_isNeeded, .ref a_t_depths, .ref a_t_names, .ref a_t_out, .int t_outs, .ref a_t_has])), (a_t_costs, .inl (ca 0, 3, .inl (upd f_t_costs x1.toNatClampNeg x2)))] := hD
      refine lv_iload_n hx hb dX9_setCost_55 rfl (lv_at hl 0 rfl) ?_
      exact W.iret (v := x3_47) hx hb hr (fun t ht hW => ⟨⟨x3_47, (0, upd f_t_costs x1.toNatClampNeg x2), rfl, h, by rw [ht]; exact hP, va_K.moved hW.alike hK, hD⟩, hS.F ht⟩) hS.2.2 dX9_setCost_56
    · have h := h.1 c9
      refine lv_aload_n hx hb dX9_setCost_35 rfl (lv_at hl 0 rfl) ?_
      refine lv_iconst (v := 2) hx hb dX9_setCost_36 (by decide) ?_
      refine cVi (As := [.int 2]) (rest := []) (wc := [(a_t, .inr (7, [.ref a_t_v, .ref a_t_past, .ref a_t_costs, .int t_edits, .int 0, .ref a_t_into, .ref a_t_isNeeded, .ref a_t_depths, .ref a_t_names, .ref a_t_out, .int t_outs, .ref a_t_has]))]) (wr := [(a_t_costs, .inl (ca 0, 3, .inl f_t_costs))]) (w1 := fun u : Int32 => [(a_t, .inr (7, [.ref a_t_v, .ref a_t_past, .ref a_t_costs, .int t_edits, .int u, .ref a_t_into, .ref a_t_isNeeded, .ref a_t_depths, .ref a_t_names, .ref a_t_out, .int t_outs, .ref a_t_has]))]) (ws2 := fun u : Int32 => [(a_t, .inr (7, [.ref a_t_v, .ref a_t_past, .ref a_t_costs, .int t_edits, .int u, .ref a_t_into, .ref a_t_isNeeded, .ref a_t_depths, .ref a_t_names, .ref a_t_out, .int t_outs, .ref a_t_has])), (a_t_costs, .inl (ca 0, 3, .inl f_t_costs))]) ⟨hx, hb, hml, hown, hts⟩ (mX9_fails l D ca a_t a_t_v a_t_past a_t_costs a_t_into a_t_isNeeded a_t_depths a_t_names a_t_out a_t_has _ t_edits 0 t_outs 2 _ h) (cwV 1 hts (gV q_933 q_935 qs_33 q_8 q_936) rfl rfl rfl (by decide +kernel) ⟨Nat.le_of_ble_eq_true rfl, Nat.le_of_ble_eq_true rfl⟩) hK hP hD hS hA [0] [1] [1, 0] rfl rfl rfl (by decide) (fun _ => rfl) (ci := 7) (q0 := 0) rfl rfl rfl hl.1 rfl (Nat.le_of_ble_eq_true rfl) dX9_setCost_37 ⟨Nat.le_of_ble_eq_true rfl, Nat.le_of_ble_eq_true rfl⟩ (fun r_37 u9 H locs h hP hD hS => ?_)
      obtain ⟨t_thrown_37, rfl⟩ : ∃ z, z = u9 := ⟨_, rfl⟩
      have hP : va_P D vwCl [(a_t, .inr (7, [.ref a_t_v, .ref a_t_past, .ref a_t_costs, .int t_edits, .int t_thrown_37, .ref a_t_into, .ref a_t_isNeeded, .ref a_t_depths, .ref a_t_names, .ref a_t_out, .int t_outs, .ref a_t_has])), (a_t_costs, .inl (ca 0, 3, .inl f_t_costs))] H := hP
      have hD : va_D A [(a_t, .inr (7, [.ref a_t_v, .ref a_t_past, .ref a_t_costs, .int t_edits, .int t_thrown_37, .ref a_t_into, .ref a_t_isNeeded, .ref a_t_depths, .ref a_t_names, .ref a_t_out, .int t_outs, .ref a_t_has])), (a_t_costs, .inl (ca 0, 3, .inl f_t_costs))] := hD
      try dsimp only at h
      exact W.iret (v := r_37) hx hb hr (fun t ht hW => ⟨⟨r_37, (t_thrown_37, f_t_costs), rfl, h, by rw [ht]; exact hP, va_K.moved hW.alike hK, hD⟩, hS.F ht⟩) hS.2.2 dX9_setCost_40
  · have h := h.1 c9
    refine lv_aload_n hx hb dX9_setCost_17 rfl (lv_at hl 0 rfl) ?_
    refine lv_iconst (v := 1) hx hb dX9_setCost_18 (by decide) ?_
    refine cVi (As := [.int 1]) (rest := []) (wc := [(a_t, .inr (7, [.ref a_t_v, .ref a_t_past, .ref a_t_costs, .int t_edits, .int 0, .ref a_t_into, .ref a_t_isNeeded, .ref a_t_depths, .ref a_t_names, .ref a_t_out, .int t_outs, .ref a_t_has]))]) (wr := [(a_t_costs, .inl (ca 0, 3, .inl f_t_costs))]) (w1 := fun u : Int32 => [(a_t, .inr (7, [.ref a_t_v, .ref a_t_past, .ref a_t_costs, .int t_edits, .int u, .ref a_t_into, .ref a_t_isNeeded, .ref a_t_depths, .ref a_t_names, .ref a_t_out, .int t_outs, .ref a_t_has]))]) (ws2 := fun u : Int32 => [(a_t, .inr (7, [.ref a_t_v, .ref a_t_past, .ref a_t_costs, .int t_edits, .int u, .ref a_t_into, .ref a_t_isNeeded, .ref a_t_depths, .ref a_t_names, .ref a_t_out, .int t_outs, .ref a_t_has])), (a_t_costs, .inl (ca 0, 3, .inl f_t_costs))]) ⟨hx, hb, hml, hown, hts⟩ (mX9_fails l D ca a_t a_t_v a_t_past a_t_costs a_t_into a_t_isNeeded a_t_depths a_t_names a_t_out a_t_has _ t_edits 0 t_outs 1 _ h) (cwV 1 hts (gV q_933 q_935 qs_33 q_8 q_936) rfl rfl rfl (by decide +kernel) ⟨Nat.le_of_ble_eq_true rfl, Nat.le_of_ble_eq_true rfl⟩) hK hP hD hS hA [0] [1] [1, 0] rfl rfl rfl (by decide) (fun _ => rfl) (ci := 7) (q0 := 0) rfl rfl rfl hl.1 rfl (Nat.le_of_ble_eq_true rfl) dX9_setCost_19 ⟨Nat.le_of_ble_eq_true rfl, Nat.le_of_ble_eq_true rfl⟩ (fun r_19 u9 H locs h hP hD hS => ?_)
    obtain ⟨t_thrown_19, rfl⟩ : ∃ z, z = u9 := ⟨_, rfl⟩
    have hP : va_P D vwCl [(a_t, .inr (7, [.ref a_t_v, .ref a_t_past, .ref a_t_costs, .int t_edits, .int t_thrown_19, .ref a_t_into, .ref a_t_isNeeded, .ref a_t_depths, .ref a_t_names, .ref a_t_out, .int t_outs, .ref a_t_has])), (a_t_costs, .inl (ca 0, 3, .inl f_t_costs))] H := hP
    have hD : va_D A [(a_t, .inr (7, [.ref a_t_v, .ref a_t_past, .ref a_t_costs, .int t_edits, .int t_thrown_19, .ref a_t_into, .ref a_t_isNeeded, .ref a_t_depths, .ref a_t_names, .ref a_t_out, .int t_outs, .ref a_t_has])), (a_t_costs, .inl (ca 0, 3, .inl f_t_costs))] := hD
    try dsimp only at h
    exact W.iret (v := r_19) hx hb hr (fun t ht hW => ⟨⟨r_19, (t_thrown_19, f_t_costs), rfl, h, by rw [ht]; exact hP, va_K.moved hW.alike hK, hD⟩, hS.F ht⟩) hS.2.2 dX9_setCost_22

abbrev qX9_multiplier (D : va_G) (ca : Nat → ClassId) (a_t a_t_v a_t_past a_t_costs a_t_into a_t_isNeeded a_t_depths a_t_names a_t_out a_t_has : Nat) (t_edits : Int32) (t_outs : Int32) (f_t_v : Nat → Int32) (Q : Int32 → Int32 → Prop) (A : Nat → Prop) : Array Value → State → Outcome → State → Prop := va_Qi (fun (r : Int32) (u : Int32) => Q r u) (wEnd D ca (fun u : Int32 => [(a_t, .inr (7, [.ref a_t_v, .ref a_t_past, .ref a_t_costs, .int t_edits, .int u, .ref a_t_into, .ref a_t_isNeeded, .ref a_t_depths, .ref a_t_names, .ref a_t_out, .int t_outs, .ref a_t_has])), (a_t_v, .inl (ca 0, 206, .inl f_t_v))]) A) A
def wX9_multiplier (t_thrown : Int32) (f_t_v : Nat → Int32) (x1 : Int32) (Q : Int32 → Int32 → Prop) : Prop :=
  wX9_all f_t_v (fun r_9 => wX9_in x1.toInt64 1 (r_9 - 1) (fun r_14 => ((r_14 = 0 → wX9_fails 0 1 (fun r_22 t_thrown_22 => Q r_22 t_thrown_22)) ∧ (¬ r_14 = 0 → wX9_isPower x1.toInt64 (fun r_28 => ((r_28 = 0 → wX9_shiftFor f_t_v x1.toInt64 0 (fun r_45 => wX9_multiplierFor f_t_v x1.toInt64 r_45 (fun r_48 => Q r_48.toInt32 0))) ∧ (¬ r_28 = 0 → Q 0 0)))))))
set_option maxHeartbeats 4000000 in
set_option maxRecDepth 100000 in
theorem mX9_multiplier (l : Launch) (D : va_G) (ca : Nat → ClassId) (a_t a_t_v a_t_past a_t_costs a_t_into a_t_isNeeded a_t_depths a_t_names a_t_out a_t_has : Nat) (sz : Nat) (t_edits : Int32) (t_thrown : Int32) (t_outs : Int32) (f_t_v : Nat → Int32) (x1 : Int32) (Q : Int32 → Int32 → Prop) (h : wX9_multiplier t_thrown f_t_v x1 Q) : Met l yX9_multiplier (Cond.code yX9_multiplier cX9_multiplier 2 (some .int) :: wsG) ({ frames := 2, cells := 0, slots := 0, locals := 47 } : Room) (va_Pc [.ref a_t, .int x1] (wPre D ca [(a_t, .inr (7, [.ref a_t_v, .ref a_t_past, .ref a_t_costs, .int t_edits, .int t_thrown, .ref a_t_into, .ref a_t_isNeeded, .ref a_t_depths, .ref a_t_names, .ref a_t_out, .int t_outs, .ref a_t_has])), (a_t_v, .inl (ca 0, 206, .inl f_t_v))] sz)) (qX9_multiplier D ca a_t a_t_v a_t_past a_t_costs a_t_into a_t_isNeeded a_t_depths a_t_names a_t_out a_t_has t_edits t_outs f_t_v Q (va_A [(a_t, .inr (7, [.ref a_t_v, .ref a_t_past, .ref a_t_costs, .int t_edits, .int t_thrown, .ref a_t_into, .ref a_t_isNeeded, .ref a_t_depths, .ref a_t_names, .ref a_t_out, .int t_outs, .ref a_t_has])), (a_t_v, .inl (ca 0, 206, .inl f_t_v))] sz)) 0 0 (va_A [(a_t, .inr (7, [.ref a_t_v, .ref a_t_past, .ref a_t_costs, .int t_edits, .int t_thrown, .ref a_t_into, .ref a_t_isNeeded, .ref a_t_depths, .ref a_t_names, .ref a_t_out, .int t_outs, .ref a_t_has])), (a_t_v, .inl (ca 0, 206, .inl f_t_v))] sz) := by
  refine Met.ofW (cc := cX9_multiplier) (maxL := 2) (ret := (some .int)) (by decide) rfl ?_
  intro p e s m args below meth c s₁ B hml hv
  obtain ⟨rfl, hsz, hP, hK, hD0⟩ := hv
  have hx := B.exec
  have hb := B.bytes
  have hr := B.returns
  have hts := atoms_spec (ws := (Cond.code yX9_multiplier cX9_multiplier 2 (some .int) :: wsG)) B.pre
  have hq : ∀ w ∈ wsG, w.before _ s = true := fun w hw => hts w (List.mem_cons_of_mem _ hw)
  have hown : s.vm.findClass RX9 = some m.cls := findClass_of_methodNamed B.named
  have hlocks := B.notSynchronized
  subst hsz
  have hD := hD0.self (sz := s.heap.size)
  generalize hAe : va_A [(a_t, .inr (7, [.ref a_t_v, .ref a_t_past, .ref a_t_costs, .int t_edits, .int t_thrown, .ref a_t_into, .ref a_t_isNeeded, .ref a_t_depths, .ref a_t_names, .ref a_t_out, .int t_outs, .ref a_t_has])), (a_t_v, .inl (ca 0, 206, .inl f_t_v))] s.heap.size = A at hD ⊢
  have hA : ∀ q : Nat, s.heap.size ≤ q → A q := fun q h => by rw [← hAe]; exact Or.inr h
  have hS : va_S A s.heap s.heap [] := va_S.rf
  have hP : va_P D vwCl [(a_t, .inr (7, [.ref a_t_v, .ref a_t_past, .ref a_t_costs, .int t_edits, .int t_thrown, .ref a_t_into, .ref a_t_isNeeded, .ref a_t_depths, .ref a_t_names, .ref a_t_out, .int t_outs, .ref a_t_has])), (a_t_v, .inl (ca 0, 206, .inl f_t_v))] s.heap := hP
  have hl := lv_entry ([.ref a_t, .int x1]) (n := 2) (Nat.le_of_ble_eq_true rfl)
  rw [lg_entry_eq]
  generalize (lg_sl ([.ref a_t, .int x1]) ++ List.replicate (2 - (lg_sl ([.ref a_t, .int x1])).length) Slot.unset).toArray = ls at hl ⊢
  have hl : lv_has ls 2 [(0, .ref a_t), (1, .int x1)] := hl
  unfold wX9_multiplier at h
  refine lv_aload_n hx hb dX9_multiplier_0 rfl (lv_at hl 0 rfl) ?_
  refine lv_iconst (v := 0) hx hb dX9_multiplier_1 (by decide) ?_
  refine va_put (D := D) (ci := 7) (v := .int 0) (ty := .int) (C := RX9) (T := TX9) (N := 12) hx hb hq inX9g tyX9 tyX9_ok nmX9 hown hK hP hD hS 0 rfl rfl 4 (by decide) (hq _ q_885) (fun _ h9 => h9) rfl (by decide +kernel) rfl rfl (Nat.le_of_ble_eq_true rfl) dX9_multiplier_2 (fun H locs hP hD hS => ?_)
  have hP : va_P D vwCl [(a_t, .inr (7, [.ref a_t_v, .ref a_t_past, .ref a_t_costs, .int t_edits, .int 0, .ref a_t_into, .ref a_t_isNeeded, .ref a_t_depths, .ref a_t_names, .ref a_t_out, .int t_outs, .ref a_t_has])), (a_t_v, .inl (ca 0, 206, .inl f_t_v))] H := hP
  have hD : va_D A [(a_t, .inr (7, [.ref a_t_v, .ref a_t_past, .ref a_t_costs, .int t_edits, .int 0, .ref a_t_into, .ref a_t_isNeeded, .ref a_t_depths, .ref a_t_names, .ref a_t_out, .int t_outs, .ref a_t_has])), (a_t_v, .inl (ca 0, 206, .inl f_t_v))] := hD
  refine lv_iload_n hx hb dX9_multiplier_5 rfl (lv_at hl 1 rfl) ?_
  refine lv_i2l hx hb dX9_multiplier_6 rfl ?_
  refine lv_lconst (v := 1) hx hb dX9_multiplier_7 (by decide) ?_
  refine lv_aload_n hx hb dX9_multiplier_8 rfl (lv_at hl 0 rfl) ?_
  refine cVl (As := []) (rest := [.long 1, .long x1.toInt64]) (wc := [(a_t, .inr (7, [.ref a_t_v, .ref a_t_past, .ref a_t_costs, .int t_edits, .int 0, .ref a_t_into, .ref a_t_isNeeded, .ref a_t_depths, .ref a_t_names, .ref a_t_out, .int t_outs, .ref a_t_has])), (a_t_v, .inl (ca 0, 206, .inl f_t_v))]) (wr := []) (w1 := fun _ : Unit => [(a_t, .inr (7, [.ref a_t_v, .ref a_t_past, .ref a_t_costs, .int t_edits, .int 0, .ref a_t_into, .ref a_t_isNeeded, .ref a_t_depths, .ref a_t_names, .ref a_t_out, .int t_outs, .ref a_t_has])), (a_t_v, .inl (ca 0, 206, .inl f_t_v))]) (ws2 := fun _ : Unit => [(a_t, .inr (7, [.ref a_t_v, .ref a_t_past, .ref a_t_costs, .int t_edits, .int 0, .ref a_t_into, .ref a_t_isNeeded, .ref a_t_depths, .ref a_t_names, .ref a_t_out, .int t_outs, .ref a_t_has])), (a_t_v, .inl (ca 0, 206, .inl f_t_v))]) ⟨hx, hb, hml, hown, hts⟩ (mX9_all l D ca a_t a_t_v a_t_past a_t_costs a_t_into a_t_isNeeded a_t_depths a_t_names a_t_out a_t_has _ t_edits 0 t_outs f_t_v _ h) (cwV 0 hts (gV q_955 q_957 qs_35 q_8 q_958) rfl rfl rfl (by decide +kernel) ⟨Nat.le_of_ble_eq_true rfl, Nat.le_of_ble_eq_true rfl⟩) hK hP hD hS hA [0, 1] [] [0, 1] rfl rfl rfl (by decide) (fun _ => rfl) (ci := 7) (q0 := 0) rfl rfl rfl hl.1 rfl (Nat.le_of_ble_eq_true rfl) dX9_multiplier_9 ⟨Nat.le_of_ble_eq_true rfl, Nat.le_of_ble_eq_true rfl⟩ (fun r_9 u9 H locs h hP hD hS => ?_)
  try dsimp only at h
  refine lv_lconst (v := 1) hx hb dX9_multiplier_12 (by decide) ?_
  refine lv_lsub hx hb dX9_multiplier_13 ?_
  refine cPi (As := [.long x1.toInt64, .long 1, .long (r_9 - 1)]) (rest := []) ⟨hx, hb, hml, hown, hts⟩ (mX9_in l x1.toInt64 1 (r_9 - 1) _ h) (va_cwS 3 hts (gS q_930 q_931 q_8 q_932) rfl rfl rfl (by decide +kernel) ⟨Nat.le_of_ble_eq_true rfl, Nat.le_of_ble_eq_true rfl⟩) hS rfl hl.1 rfl (Nat.le_of_ble_eq_true rfl) dX9_multiplier_14 ⟨Nat.le_of_ble_eq_true rfl, Nat.le_of_ble_eq_true rfl⟩ (fun r_14 H1 locs h hk1 hS => ?_)
  have hP := s_back hP hk1
  try dsimp only at h
  refine lv_if_ne (tgt := 26) hx hb dX9_multiplier_17 (by decide) (fun c9 => ?_) (fun c9 => ?_)
  · have h := h.2 c9
    refine lv_iload_n hx hb dX9_multiplier_26 rfl (lv_at hl 1 rfl) ?_
    refine lv_i2l hx hb dX9_multiplier_27 rfl ?_
    refine cPi (As := [.long x1.toInt64]) (rest := []) ⟨hx, hb, hml, hown, hts⟩ (mX9_isPower l x1.toInt64 _ h) (va_cwS 1 hts (gS q_962 q_963 q_8 q_964) rfl rfl rfl (by decide +kernel) ⟨Nat.le_of_ble_eq_true rfl, Nat.le_of_ble_eq_true rfl⟩) hS rfl hl.1 rfl (Nat.le_of_ble_eq_true rfl) dX9_multiplier_28 ⟨Nat.le_of_ble_eq_true rfl, Nat.le_of_ble_eq_true rfl⟩ (fun r_28 H1 locs h hk1 hS => ?_)
    have hP := s_back hP hk1
    try dsimp only at h
    refine lv_if_eq (tgt := 38) hx hb dX9_multiplier_31 (by decide) (fun c9 => ?_) (fun c9 => ?_)
    · have h := h.1 c9
      refine lv_aload_n hx hb dX9_multiplier_38 rfl (lv_at hl 0 rfl) ?_
      refine lv_iload_n hx hb dX9_multiplier_39 rfl (lv_at hl 1 rfl) ?_
      refine lv_i2l hx hb dX9_multiplier_40 rfl ?_
      refine lv_aload_n hx hb dX9_multiplier_41 rfl (lv_at hl 0 rfl) ?_
      refine lv_iload_n hx hb dX9_multiplier_42 rfl (lv_at hl 1 rfl) ?_
      refine lv_i2l hx hb dX9_multiplier_43 rfl ?_
      refine lv_iconst (v := 0) hx hb dX9_multiplier_44 (by decide) ?_
      refine cVi (As := [.long x1.toInt64, .int 0]) (rest := [.long x1.toInt64, .ref a_t]) (wc := [(a_t, .inr (7, [.ref a_t_v, .ref a_t_past, .ref a_t_costs, .int t_edits, .int 0, .ref a_t_into, .ref a_t_isNeeded, .ref a_t_depths, .ref a_t_names, .ref a_t_out, .int t_outs, .ref a_t_has])), (a_t_v, .inl (ca 0, 206, .inl f_t_v))]) (wr := []) (w1 := fun _ : Unit => [(a_t, .inr (7, [.ref a_t_v, .ref a_t_past, .ref a_t_costs, .int t_edits, .int 0, .ref a_t_into, .ref a_t_isNeeded, .ref a_t_depths, .ref a_t_names, .ref a_t_out, .int t_outs, .ref a_t_has])), (a_t_v, .inl (ca 0, 206, .inl f_t_v))]) (ws2 := fun _ : Unit => [(a_t, .inr (7, [.ref a_t_v, .ref a_t_past, .ref a_t_costs, .int t_edits, .int 0, .ref a_t_into, .ref a_t_isNeeded, .ref a_t_depths, .ref a_t_names, .ref a_t_out, .int t_outs, .ref a_t_has])), (a_t_v, .inl (ca 0, 206, .inl f_t_v))]) ⟨hx, hb, hml, hown, hts⟩ (mX9_shiftFor l D ca a_t a_t_v a_t_past a_t_costs a_t_into a_t_isNeeded a_t_depths a_t_names a_t_out a_t_has _ t_edits 0 t_outs f_t_v x1.toInt64 0 _ h) (cwV 2 hts (gV q_965 q_967 qs_36 q_8 q_968) rfl rfl rfl (by decide +kernel) ⟨Nat.le_of_ble_eq_true rfl, Nat.le_of_ble_eq_true rfl⟩) hK hP hD hS hA [0, 1] [] [0, 1] rfl rfl rfl (by decide) (fun _ => rfl) (ci := 7) (q0 := 0) rfl rfl rfl hl.1 rfl (Nat.le_of_ble_eq_true rfl) dX9_multiplier_45 ⟨Nat.le_of_ble_eq_true rfl, Nat.le_of_ble_eq_true rfl⟩ (fun r_45 u9 H locs h hP hD hS => ?_)
      try dsimp only at h
      refine cVl (As := [.long x1.toInt64, .int r_45]) (rest := []) (wc := [(a_t, .inr (7, [.ref a_t_v, .ref a_t_past, .ref a_t_costs, .int t_edits, .int 0, .ref a_t_into, .ref a_t_isNeeded, .ref a_t_depths, .ref a_t_names, .ref a_t_out, .int t_outs, .ref a_t_has])), (a_t_v, .inl (ca 0, 206, .inl f_t_v))]) (wr := []) (w1 := fun _ : Unit => [(a_t, .inr (7, [.ref a_t_v, .ref a_t_past, .ref a_t_costs, .int t_edits, .int 0, .ref a_t_into, .ref a_t_isNeeded, .ref a_t_depths, .ref a_t_names, .ref a_t_out, .int t_outs, .ref a_t_has])), (a_t_v, .inl (ca 0, 206, .inl f_t_v))]) (ws2 := fun _ : Unit => [(a_t, .inr (7, [.ref a_t_v, .ref a_t_past, .ref a_t_costs, .int t_edits, .int 0, .ref a_t_into, .ref a_t_isNeeded, .ref a_t_depths, .ref a_t_names, .ref a_t_out, .int t_outs, .ref a_t_has])), (a_t_v, .inl (ca 0, 206, .inl f_t_v))]) ⟨hx, hb, hml, hown, hts⟩ (mX9_multiplierFor l D ca a_t a_t_v a_t_past a_t_costs a_t_into a_t_isNeeded a_t_depths a_t_names a_t_out a_t_has _ t_edits 0 t_outs f_t_v x1.toInt64 r_45 _ h) (cwV 2 hts (gV q_972 q_974 qs_37 q_8 q_975) rfl rfl rfl (by decide +kernel) ⟨Nat.le_of_ble_eq_true rfl, Nat.le_of_ble_eq_true rfl⟩) hK hP hD hS hA [0, 1] [] [0, 1] rfl rfl rfl (by decide) (fun _ => rfl) (ci := 7) (q0 := 0) rfl rfl rfl hl.1 rfl (Nat.le_of_ble_eq_true rfl) dX9_multiplier_48 ⟨Nat.le_of_ble_eq_true rfl, Nat.le_of_ble_eq_true rfl⟩ (fun r_48 u9 H locs h hP hD hS => ?_)
      try dsimp only at h
      refine lv_l2i hx hb dX9_multiplier_51 rfl ?_
      exact W.iret (v := r_48.toInt32) hx hb hr (fun t ht hW => ⟨⟨r_48.toInt32, 0, rfl, h, by rw [ht]; exact hP, va_K.moved hW.alike hK, hD⟩, hS.F ht⟩) hS.2.2 dX9_multiplier_52
    · have h := h.2 c9
      refine lv_iconst (v := 0) hx hb dX9_multiplier_34 (by decide) ?_
      refine lv_goto (tgt := 52) hx hb dX9_multiplier_35 (by decide) ?_
      exact W.iret (v := 0) hx hb hr (fun t ht hW => ⟨⟨0, 0, rfl, h, by rw [ht]; exact hP, va_K.moved hW.alike hK, hD⟩, hS.F ht⟩) hS.2.2 dX9_multiplier_52
  · have h := h.1 c9
    refine lv_aload_n hx hb dX9_multiplier_20 rfl (lv_at hl 0 rfl) ?_
    refine lv_iconst (v := 1) hx hb dX9_multiplier_21 (by decide) ?_
    refine cVi (As := [.int 1]) (rest := []) (wc := [(a_t, .inr (7, [.ref a_t_v, .ref a_t_past, .ref a_t_costs, .int t_edits, .int 0, .ref a_t_into, .ref a_t_isNeeded, .ref a_t_depths, .ref a_t_names, .ref a_t_out, .int t_outs, .ref a_t_has]))]) (wr := [(a_t_v, .inl (ca 0, 206, .inl f_t_v))]) (w1 := fun u : Int32 => [(a_t, .inr (7, [.ref a_t_v, .ref a_t_past, .ref a_t_costs, .int t_edits, .int u, .ref a_t_into, .ref a_t_isNeeded, .ref a_t_depths, .ref a_t_names, .ref a_t_out, .int t_outs, .ref a_t_has]))]) (ws2 := fun u : Int32 => [(a_t, .inr (7, [.ref a_t_v, .ref a_t_past, .ref a_t_costs, .int t_edits, .int u, .ref a_t_into, .ref a_t_isNeeded, .ref a_t_depths, .ref a_t_names, .ref a_t_out, .int t_outs, .ref a_t_has])), (a_t_v, .inl (ca 0, 206, .inl f_t_v))]) ⟨hx, hb, hml, hown, hts⟩ (mX9_fails l D ca a_t a_t_v a_t_past a_t_costs a_t_into a_t_isNeeded a_t_depths a_t_names a_t_out a_t_has _ t_edits 0 t_outs 1 _ h) (cwV 1 hts (gV q_933 q_935 qs_33 q_8 q_936) rfl rfl rfl (by decide +kernel) ⟨Nat.le_of_ble_eq_true rfl, Nat.le_of_ble_eq_true rfl⟩) hK hP hD hS hA [0] [1] [1, 0] rfl rfl rfl (by decide) (fun _ => rfl) (ci := 7) (q0 := 0) rfl rfl rfl hl.1 rfl (Nat.le_of_ble_eq_true rfl) dX9_multiplier_22 ⟨Nat.le_of_ble_eq_true rfl, Nat.le_of_ble_eq_true rfl⟩ (fun r_22 u9 H locs h hP hD hS => ?_)
    obtain ⟨t_thrown_22, rfl⟩ : ∃ z, z = u9 := ⟨_, rfl⟩
    have hP : va_P D vwCl [(a_t, .inr (7, [.ref a_t_v, .ref a_t_past, .ref a_t_costs, .int t_edits, .int t_thrown_22, .ref a_t_into, .ref a_t_isNeeded, .ref a_t_depths, .ref a_t_names, .ref a_t_out, .int t_outs, .ref a_t_has])), (a_t_v, .inl (ca 0, 206, .inl f_t_v))] H := hP
    have hD : va_D A [(a_t, .inr (7, [.ref a_t_v, .ref a_t_past, .ref a_t_costs, .int t_edits, .int t_thrown_22, .ref a_t_into, .ref a_t_isNeeded, .ref a_t_depths, .ref a_t_names, .ref a_t_out, .int t_outs, .ref a_t_has])), (a_t_v, .inl (ca 0, 206, .inl f_t_v))] := hD
    try dsimp only at h
    exact W.iret (v := r_22) hx hb hr (fun t ht hW => ⟨⟨r_22, t_thrown_22, rfl, h, by rw [ht]; exact hP, va_K.moved hW.alike hK, hD⟩, hS.F ht⟩) hS.2.2 dX9_multiplier_25

abbrev qX9_shift (D : va_G) (ca : Nat → ClassId) (a_t a_t_v a_t_past a_t_costs a_t_into a_t_isNeeded a_t_depths a_t_names a_t_out a_t_has : Nat) (t_edits : Int32) (t_outs : Int32) (f_t_v : Nat → Int32) (Q : Int32 → Int32 → Prop) (A : Nat → Prop) : Array Value → State → Outcome → State → Prop := va_Qi (fun (r : Int32) (u : Int32) => Q r u) (wEnd D ca (fun u : Int32 => [(a_t, .inr (7, [.ref a_t_v, .ref a_t_past, .ref a_t_costs, .int t_edits, .int u, .ref a_t_into, .ref a_t_isNeeded, .ref a_t_depths, .ref a_t_names, .ref a_t_out, .int t_outs, .ref a_t_has])), (a_t_v, .inl (ca 0, 206, .inl f_t_v))]) A) A
def wX9_shift (t_thrown : Int32) (f_t_v : Nat → Int32) (x1 : Int32) (Q : Int32 → Int32 → Prop) : Prop :=
  wX9_all f_t_v (fun r_9 => wX9_in x1.toInt64 1 (r_9 - 1) (fun r_14 => ((r_14 = 0 → wX9_fails 0 1 (fun r_22 t_thrown_22 => Q r_22 t_thrown_22)) ∧ (¬ r_14 = 0 → wX9_isPower x1.toInt64 (fun r_28 => ((r_28 = 0 → wX9_shiftFor f_t_v x1.toInt64 0 (fun r_46 => Q r_46 0)) ∧ (¬ r_28 = 0 → wX9_twos x1.toInt64 (fun r_36 => Q r_36 0))))))))
set_option maxHeartbeats 4000000 in
set_option maxRecDepth 100000 in
theorem mX9_shift (l : Launch) (D : va_G) (ca : Nat → ClassId) (a_t a_t_v a_t_past a_t_costs a_t_into a_t_isNeeded a_t_depths a_t_names a_t_out a_t_has : Nat) (sz : Nat) (t_edits : Int32) (t_thrown : Int32) (t_outs : Int32) (f_t_v : Nat → Int32) (x1 : Int32) (Q : Int32 → Int32 → Prop) (h : wX9_shift t_thrown f_t_v x1 Q) : Met l yX9_shift (Cond.code yX9_shift cX9_shift 2 (some .int) :: wsG) ({ frames := 2, cells := 0, slots := 0, locals := 47 } : Room) (va_Pc [.ref a_t, .int x1] (wPre D ca [(a_t, .inr (7, [.ref a_t_v, .ref a_t_past, .ref a_t_costs, .int t_edits, .int t_thrown, .ref a_t_into, .ref a_t_isNeeded, .ref a_t_depths, .ref a_t_names, .ref a_t_out, .int t_outs, .ref a_t_has])), (a_t_v, .inl (ca 0, 206, .inl f_t_v))] sz)) (qX9_shift D ca a_t a_t_v a_t_past a_t_costs a_t_into a_t_isNeeded a_t_depths a_t_names a_t_out a_t_has t_edits t_outs f_t_v Q (va_A [(a_t, .inr (7, [.ref a_t_v, .ref a_t_past, .ref a_t_costs, .int t_edits, .int t_thrown, .ref a_t_into, .ref a_t_isNeeded, .ref a_t_depths, .ref a_t_names, .ref a_t_out, .int t_outs, .ref a_t_has])), (a_t_v, .inl (ca 0, 206, .inl f_t_v))] sz)) 0 0 (va_A [(a_t, .inr (7, [.ref a_t_v, .ref a_t_past, .ref a_t_costs, .int t_edits, .int t_thrown, .ref a_t_into, .ref a_t_isNeeded, .ref a_t_depths, .ref a_t_names, .ref a_t_out, .int t_outs, .ref a_t_has])), (a_t_v, .inl (ca 0, 206, .inl f_t_v))] sz) := by
  refine Met.ofW (cc := cX9_shift) (maxL := 2) (ret := (some .int)) (by decide) rfl ?_
  intro p e s m args below meth c s₁ B hml hv
  obtain ⟨rfl, hsz, hP, hK, hD0⟩ := hv
  have hx := B.exec
  have hb := B.bytes
  have hr := B.returns
  have hts := atoms_spec (ws := (Cond.code yX9_shift cX9_shift 2 (some .int) :: wsG)) B.pre
  have hq : ∀ w ∈ wsG, w.before _ s = true := fun w hw => hts w (List.mem_cons_of_mem _ hw)
  have hown : s.vm.findClass RX9 = some m.cls := findClass_of_methodNamed B.named
  have hlocks := B.notSynchronized
  subst hsz
  have hD := hD0.self (sz := s.heap.size)
  generalize hAe : va_A [(a_t, .inr (7, [.ref a_t_v, .ref a_t_past, .ref a_t_costs, .int t_edits, .int t_thrown, .ref a_t_into, .ref a_t_isNeeded, .ref a_t_depths, .ref a_t_names, .ref a_t_out, .int t_outs, .ref a_t_has])), (a_t_v, .inl (ca 0, 206, .inl f_t_v))] s.heap.size = A at hD ⊢
  have hA : ∀ q : Nat, s.heap.size ≤ q → A q := fun q h => by rw [← hAe]; exact Or.inr h
  have hS : va_S A s.heap s.heap [] := va_S.rf
  have hP : va_P D vwCl [(a_t, .inr (7, [.ref a_t_v, .ref a_t_past, .ref a_t_costs, .int t_edits, .int t_thrown, .ref a_t_into, .ref a_t_isNeeded, .ref a_t_depths, .ref a_t_names, .ref a_t_out, .int t_outs, .ref a_t_has])), (a_t_v, .inl (ca 0, 206, .inl f_t_v))] s.heap := hP
  have hl := lv_entry ([.ref a_t, .int x1]) (n := 2) (Nat.le_of_ble_eq_true rfl)
  rw [lg_entry_eq]
  generalize (lg_sl ([.ref a_t, .int x1]) ++ List.replicate (2 - (lg_sl ([.ref a_t, .int x1])).length) Slot.unset).toArray = ls at hl ⊢
  have hl : lv_has ls 2 [(0, .ref a_t), (1, .int x1)] := hl
  unfold wX9_shift at h
  refine lv_aload_n hx hb dX9_shift_0 rfl (lv_at hl 0 rfl) ?_
  refine lv_iconst (v := 0) hx hb dX9_shift_1 (by decide) ?_
  refine va_put (D := D) (ci := 7) (v := .int 0) (ty := .int) (C := RX9) (T := TX9) (N := 12) hx hb hq inX9g tyX9 tyX9_ok nmX9 hown hK hP hD hS 0 rfl rfl 4 (by decide) (hq _ q_885) (fun _ h9 => h9) rfl (by decide +kernel) rfl rfl (Nat.le_of_ble_eq_true rfl) dX9_shift_2 (fun H locs hP hD hS => ?_)
  have hP : va_P D vwCl [(a_t, .inr (7, [.ref a_t_v, .ref a_t_past, .ref a_t_costs, .int t_edits, .int 0, .ref a_t_into, .ref a_t_isNeeded, .ref a_t_depths, .ref a_t_names, .ref a_t_out, .int t_outs, .ref a_t_has])), (a_t_v, .inl (ca 0, 206, .inl f_t_v))] H := hP
  have hD : va_D A [(a_t, .inr (7, [.ref a_t_v, .ref a_t_past, .ref a_t_costs, .int t_edits, .int 0, .ref a_t_into, .ref a_t_isNeeded, .ref a_t_depths, .ref a_t_names, .ref a_t_out, .int t_outs, .ref a_t_has])), (a_t_v, .inl (ca 0, 206, .inl f_t_v))] := hD
  refine lv_iload_n hx hb dX9_shift_5 rfl (lv_at hl 1 rfl) ?_
  refine lv_i2l hx hb dX9_shift_6 rfl ?_
  refine lv_lconst (v := 1) hx hb dX9_shift_7 (by decide) ?_
  refine lv_aload_n hx hb dX9_shift_8 rfl (lv_at hl 0 rfl) ?_
  refine cVl (As := []) (rest := [.long 1, .long x1.toInt64]) (wc := [(a_t, .inr (7, [.ref a_t_v, .ref a_t_past, .ref a_t_costs, .int t_edits, .int 0, .ref a_t_into, .ref a_t_isNeeded, .ref a_t_depths, .ref a_t_names, .ref a_t_out, .int t_outs, .ref a_t_has])), (a_t_v, .inl (ca 0, 206, .inl f_t_v))]) (wr := []) (w1 := fun _ : Unit => [(a_t, .inr (7, [.ref a_t_v, .ref a_t_past, .ref a_t_costs, .int t_edits, .int 0, .ref a_t_into, .ref a_t_isNeeded, .ref a_t_depths, .ref a_t_names, .ref a_t_out, .int t_outs, .ref a_t_has])), (a_t_v, .inl (ca 0, 206, .inl f_t_v))]) (ws2 := fun _ : Unit => [(a_t, .inr (7, [.ref a_t_v, .ref a_t_past, .ref a_t_costs, .int t_edits, .int 0, .ref a_t_into, .ref a_t_isNeeded, .ref a_t_depths, .ref a_t_names, .ref a_t_out, .int t_outs, .ref a_t_has])), (a_t_v, .inl (ca 0, 206, .inl f_t_v))]) ⟨hx, hb, hml, hown, hts⟩ (mX9_all l D ca a_t a_t_v a_t_past a_t_costs a_t_into a_t_isNeeded a_t_depths a_t_names a_t_out a_t_has _ t_edits 0 t_outs f_t_v _ h) (cwV 0 hts (gV q_955 q_957 qs_35 q_8 q_958) rfl rfl rfl (by decide +kernel) ⟨Nat.le_of_ble_eq_true rfl, Nat.le_of_ble_eq_true rfl⟩) hK hP hD hS hA [0, 1] [] [0, 1] rfl rfl rfl (by decide) (fun _ => rfl) (ci := 7) (q0 := 0) rfl rfl rfl hl.1 rfl (Nat.le_of_ble_eq_true rfl) dX9_shift_9 ⟨Nat.le_of_ble_eq_true rfl, Nat.le_of_ble_eq_true rfl⟩ (fun r_9 u9 H locs h hP hD hS => ?_)
  try dsimp only at h
  refine lv_lconst (v := 1) hx hb dX9_shift_12 (by decide) ?_
  refine lv_lsub hx hb dX9_shift_13 ?_
  refine cPi (As := [.long x1.toInt64, .long 1, .long (r_9 - 1)]) (rest := []) ⟨hx, hb, hml, hown, hts⟩ (mX9_in l x1.toInt64 1 (r_9 - 1) _ h) (va_cwS 3 hts (gS q_930 q_931 q_8 q_932) rfl rfl rfl (by decide +kernel) ⟨Nat.le_of_ble_eq_true rfl, Nat.le_of_ble_eq_true rfl⟩) hS rfl hl.1 rfl (Nat.le_of_ble_eq_true rfl) dX9_shift_14 ⟨Nat.le_of_ble_eq_true rfl, Nat.le_of_ble_eq_true rfl⟩ (fun r_14 H1 locs h hk1 hS => ?_)
  have hP := s_back hP hk1
  try dsimp only at h
  refine lv_if_ne (tgt := 26) hx hb dX9_shift_17 (by decide) (fun c9 => ?_) (fun c9 => ?_)
  · have h := h.2 c9
    refine lv_iload_n hx hb dX9_shift_26 rfl (lv_at hl 1 rfl) ?_
    refine lv_i2l hx hb dX9_shift_27 rfl ?_
    refine cPi (As := [.long x1.toInt64]) (rest := []) ⟨hx, hb, hml, hown, hts⟩ (mX9_isPower l x1.toInt64 _ h) (va_cwS 1 hts (gS q_962 q_963 q_8 q_964) rfl rfl rfl (by decide +kernel) ⟨Nat.le_of_ble_eq_true rfl, Nat.le_of_ble_eq_true rfl⟩) hS rfl hl.1 rfl (Nat.le_of_ble_eq_true rfl) dX9_shift_28 ⟨Nat.le_of_ble_eq_true rfl, Nat.le_of_ble_eq_true rfl⟩ (fun r_28 H1 locs h hk1 hS => ?_)
    have hP := s_back hP hk1
    try dsimp only at h
    refine lv_if_eq (tgt := 42) hx hb dX9_shift_31 (by decide) (fun c9 => ?_) (fun c9 => ?_)
    · have h := h.1 c9
      refine lv_aload_n hx hb dX9_shift_42 rfl (lv_at hl 0 rfl) ?_
      refine lv_iload_n hx hb dX9_shift_43 rfl (lv_at hl 1 rfl) ?_
      refine lv_i2l hx hb dX9_shift_44 rfl ?_
      refine lv_iconst (v := 0) hx hb dX9_shift_45 (by decide) ?_
      refine cVi (As := [.long x1.toInt64, .int 0]) (rest := []) (wc := [(a_t, .inr (7, [.ref a_t_v, .ref a_t_past, .ref a_t_costs, .int t_edits, .int 0, .ref a_t_into, .ref a_t_isNeeded, .ref a_t_depths, .ref a_t_names, .ref a_t_out, .int t_outs, .ref a_t_has])), (a_t_v, .inl (ca 0, 206, .inl f_t_v))]) (wr := []) (w1 := fun _ : Unit => [(a_t, .inr (7, [.ref a_t_v, .ref a_t_past, .ref a_t_costs, .int t_edits, .int 0, .ref a_t_into, .ref a_t_isNeeded, .ref a_t_depths, .ref a_t_names, .ref a_t_out, .int t_outs, .ref a_t_has])), (a_t_v, .inl (ca 0, 206, .inl f_t_v))]) (ws2 := fun _ : Unit => [(a_t, .inr (7, [.ref a_t_v, .ref a_t_past, .ref a_t_costs, .int t_edits, .int 0, .ref a_t_into, .ref a_t_isNeeded, .ref a_t_depths, .ref a_t_names, .ref a_t_out, .int t_outs, .ref a_t_has])), (a_t_v, .inl (ca 0, 206, .inl f_t_v))]) ⟨hx, hb, hml, hown, hts⟩ (mX9_shiftFor l D ca a_t a_t_v a_t_past a_t_costs a_t_into a_t_isNeeded a_t_depths a_t_names a_t_out a_t_has _ t_edits 0 t_outs f_t_v x1.toInt64 0 _ h) (cwV 2 hts (gV q_965 q_967 qs_36 q_8 q_968) rfl rfl rfl (by decide +kernel) ⟨Nat.le_of_ble_eq_true rfl, Nat.le_of_ble_eq_true rfl⟩) hK hP hD hS hA [0, 1] [] [0, 1] rfl rfl rfl (by decide) (fun _ => rfl) (ci := 7) (q0 := 0) rfl rfl rfl hl.1 rfl (Nat.le_of_ble_eq_true rfl) dX9_shift_46 ⟨Nat.le_of_ble_eq_true rfl, Nat.le_of_ble_eq_true rfl⟩ (fun r_46 u9 H locs h hP hD hS => ?_)
      try dsimp only at h
      exact W.iret (v := r_46) hx hb hr (fun t ht hW => ⟨⟨r_46, 0, rfl, h, by rw [ht]; exact hP, va_K.moved hW.alike hK, hD⟩, hS.F ht⟩) hS.2.2 dX9_shift_49
    · have h := h.2 c9
      refine lv_iload_n hx hb dX9_shift_34 rfl (lv_at hl 1 rfl) ?_
      refine lv_i2l hx hb dX9_shift_35 rfl ?_
      refine cPi (As := [.long x1.toInt64]) (rest := []) ⟨hx, hb, hml, hown, hts⟩ (mX9_twos l x1.toInt64 _ h) (va_cwS 1 hts (gS q_980 q_981 q_8 q_982) rfl rfl rfl (by decide +kernel) ⟨Nat.le_of_ble_eq_true rfl, Nat.le_of_ble_eq_true rfl⟩) hS rfl hl.1 rfl (Nat.le_of_ble_eq_true rfl) dX9_shift_36 ⟨Nat.le_of_ble_eq_true rfl, Nat.le_of_ble_eq_true rfl⟩ (fun r_36 H1 locs h hk1 hS => ?_)
      have hP := s_back hP hk1
      try dsimp only at h
      refine lv_goto (tgt := 49) hx hb dX9_shift_39 (by decide) ?_
      exact W.iret (v := r_36) hx hb hr (fun t ht hW => ⟨⟨r_36, 0, rfl, h, by rw [ht]; exact hP, va_K.moved hW.alike hK, hD⟩, hS.F ht⟩) hS.2.2 dX9_shift_49
  · have h := h.1 c9
    refine lv_aload_n hx hb dX9_shift_20 rfl (lv_at hl 0 rfl) ?_
    refine lv_iconst (v := 1) hx hb dX9_shift_21 (by decide) ?_
    refine cVi (As := [.int 1]) (rest := []) (wc := [(a_t, .inr (7, [.ref a_t_v, .ref a_t_past, .ref a_t_costs, .int t_edits, .int 0, .ref a_t_into, .ref a_t_isNeeded, .ref a_t_depths, .ref a_t_names, .ref a_t_out, .int t_outs, .ref a_t_has]))]) (wr := [(a_t_v, .inl (ca 0, 206, .inl f_t_v))]) (w1 := fun u : Int32 => [(a_t, .inr (7, [.ref a_t_v, .ref a_t_past, .ref a_t_costs, .int t_edits, .int u, .ref a_t_into, .ref a_t_isNeeded, .ref a_t_depths, .ref a_t_names, .ref a_t_out, .int t_outs, .ref a_t_has]))]) (ws2 := fun u : Int32 => [(a_t, .inr (7, [.ref a_t_v, .ref a_t_past, .ref a_t_costs, .int t_edits, .int u, .ref a_t_into, .ref a_t_isNeeded, .ref a_t_depths, .ref a_t_names, .ref a_t_out, .int t_outs, .ref a_t_has])), (a_t_v, .inl (ca 0, 206, .inl f_t_v))]) ⟨hx, hb, hml, hown, hts⟩ (mX9_fails l D ca a_t a_t_v a_t_past a_t_costs a_t_into a_t_isNeeded a_t_depths a_t_names a_t_out a_t_has _ t_edits 0 t_outs 1 _ h) (cwV 1 hts (gV q_933 q_935 qs_33 q_8 q_936) rfl rfl rfl (by decide +kernel) ⟨Nat.le_of_ble_eq_true rfl, Nat.le_of_ble_eq_true rfl⟩) hK hP hD hS hA [0] [1] [1, 0] rfl rfl rfl (by decide) (fun _ => rfl) (ci := 7) (q0 := 0) rfl rfl rfl hl.1 rfl (Nat.le_of_ble_eq_true rfl) dX9_shift_22 ⟨Nat.le_of_ble_eq_true rfl, Nat.le_of_ble_eq_true rfl⟩ (fun r_22 u9 H locs h hP hD hS => ?_)
    obtain ⟨t_thrown_22, rfl⟩ : ∃ z, z = u9 := ⟨_, rfl⟩
    have hP : va_P D vwCl [(a_t, .inr (7, [.ref a_t_v, .ref a_t_past, .ref a_t_costs, .int t_edits, .int t_thrown_22, .ref a_t_into, .ref a_t_isNeeded, .ref a_t_depths, .ref a_t_names, .ref a_t_out, .int t_outs, .ref a_t_has])), (a_t_v, .inl (ca 0, 206, .inl f_t_v))] H := hP
    have hD : va_D A [(a_t, .inr (7, [.ref a_t_v, .ref a_t_past, .ref a_t_costs, .int t_edits, .int t_thrown_22, .ref a_t_into, .ref a_t_isNeeded, .ref a_t_depths, .ref a_t_names, .ref a_t_out, .int t_outs, .ref a_t_has])), (a_t_v, .inl (ca 0, 206, .inl f_t_v))] := hD
    try dsimp only at h
    exact W.iret (v := r_22) hx hb hr (fun t ht hW => ⟨⟨r_22, t_thrown_22, rfl, h, by rw [ht]; exact hP, va_K.moved hW.alike hK, hD⟩, hS.F ht⟩) hS.2.2 dX9_shift_25

abbrev qX9_signedMultiplier (D : va_G) (ca : Nat → ClassId) (a_t a_t_v a_t_past a_t_costs a_t_into a_t_isNeeded a_t_depths a_t_names a_t_out a_t_has : Nat) (t_edits : Int32) (t_outs : Int32) (f_t_v : Nat → Int32) (Q : Int32 → Int32 → Prop) (A : Nat → Prop) : Array Value → State → Outcome → State → Prop := va_Qi (fun (r : Int32) (u : Int32) => Q r u) (wEnd D ca (fun u : Int32 => [(a_t, .inr (7, [.ref a_t_v, .ref a_t_past, .ref a_t_costs, .int t_edits, .int u, .ref a_t_into, .ref a_t_isNeeded, .ref a_t_depths, .ref a_t_names, .ref a_t_out, .int t_outs, .ref a_t_has])), (a_t_v, .inl (ca 0, 206, .inl f_t_v))]) A) A
def wX9_signedMultiplier (t_thrown : Int32) (f_t_v : Nat → Int32) (x1 : Int32) (Q : Int32 → Int32 → Prop) : Prop :=
  wX9_half f_t_v (fun r_9 => wX9_in x1.toInt64 1 (r_9 - 1) (fun r_14 => ((r_14 = 0 → wX9_fails 0 1 (fun r_22 t_thrown_22 => Q r_22 t_thrown_22)) ∧ (¬ r_14 = 0 → wX9_isPower x1.toInt64 (fun r_28 => ((r_28 = 0 → wX9_shiftFor f_t_v x1.toInt64 1 (fun r_45 => wX9_multiplierFor f_t_v x1.toInt64 r_45 (fun r_48 => Q r_48.toInt32 0))) ∧ (¬ r_28 = 0 → Q 0 0)))))))
set_option maxHeartbeats 4000000 in
set_option maxRecDepth 100000 in
theorem mX9_signedMultiplier (l : Launch) (D : va_G) (ca : Nat → ClassId) (a_t a_t_v a_t_past a_t_costs a_t_into a_t_isNeeded a_t_depths a_t_names a_t_out a_t_has : Nat) (sz : Nat) (t_edits : Int32) (t_thrown : Int32) (t_outs : Int32) (f_t_v : Nat → Int32) (x1 : Int32) (Q : Int32 → Int32 → Prop) (h : wX9_signedMultiplier t_thrown f_t_v x1 Q) : Met l yX9_signedMultiplier (Cond.code yX9_signedMultiplier cX9_signedMultiplier 2 (some .int) :: wsG) ({ frames := 2, cells := 0, slots := 0, locals := 47 } : Room) (va_Pc [.ref a_t, .int x1] (wPre D ca [(a_t, .inr (7, [.ref a_t_v, .ref a_t_past, .ref a_t_costs, .int t_edits, .int t_thrown, .ref a_t_into, .ref a_t_isNeeded, .ref a_t_depths, .ref a_t_names, .ref a_t_out, .int t_outs, .ref a_t_has])), (a_t_v, .inl (ca 0, 206, .inl f_t_v))] sz)) (qX9_signedMultiplier D ca a_t a_t_v a_t_past a_t_costs a_t_into a_t_isNeeded a_t_depths a_t_names a_t_out a_t_has t_edits t_outs f_t_v Q (va_A [(a_t, .inr (7, [.ref a_t_v, .ref a_t_past, .ref a_t_costs, .int t_edits, .int t_thrown, .ref a_t_into, .ref a_t_isNeeded, .ref a_t_depths, .ref a_t_names, .ref a_t_out, .int t_outs, .ref a_t_has])), (a_t_v, .inl (ca 0, 206, .inl f_t_v))] sz)) 0 0 (va_A [(a_t, .inr (7, [.ref a_t_v, .ref a_t_past, .ref a_t_costs, .int t_edits, .int t_thrown, .ref a_t_into, .ref a_t_isNeeded, .ref a_t_depths, .ref a_t_names, .ref a_t_out, .int t_outs, .ref a_t_has])), (a_t_v, .inl (ca 0, 206, .inl f_t_v))] sz) := by
  refine Met.ofW (cc := cX9_signedMultiplier) (maxL := 2) (ret := (some .int)) (by decide) rfl ?_
  intro p e s m args below meth c s₁ B hml hv
  obtain ⟨rfl, hsz, hP, hK, hD0⟩ := hv
  have hx := B.exec
  have hb := B.bytes
  have hr := B.returns
  have hts := atoms_spec (ws := (Cond.code yX9_signedMultiplier cX9_signedMultiplier 2 (some .int) :: wsG)) B.pre
  have hq : ∀ w ∈ wsG, w.before _ s = true := fun w hw => hts w (List.mem_cons_of_mem _ hw)
  have hown : s.vm.findClass RX9 = some m.cls := findClass_of_methodNamed B.named
  have hlocks := B.notSynchronized
  subst hsz
  have hD := hD0.self (sz := s.heap.size)
  generalize hAe : va_A [(a_t, .inr (7, [.ref a_t_v, .ref a_t_past, .ref a_t_costs, .int t_edits, .int t_thrown, .ref a_t_into, .ref a_t_isNeeded, .ref a_t_depths, .ref a_t_names, .ref a_t_out, .int t_outs, .ref a_t_has])), (a_t_v, .inl (ca 0, 206, .inl f_t_v))] s.heap.size = A at hD ⊢
  have hA : ∀ q : Nat, s.heap.size ≤ q → A q := fun q h => by rw [← hAe]; exact Or.inr h
  have hS : va_S A s.heap s.heap [] := va_S.rf
  have hP : va_P D vwCl [(a_t, .inr (7, [.ref a_t_v, .ref a_t_past, .ref a_t_costs, .int t_edits, .int t_thrown, .ref a_t_into, .ref a_t_isNeeded, .ref a_t_depths, .ref a_t_names, .ref a_t_out, .int t_outs, .ref a_t_has])), (a_t_v, .inl (ca 0, 206, .inl f_t_v))] s.heap := hP
  have hl := lv_entry ([.ref a_t, .int x1]) (n := 2) (Nat.le_of_ble_eq_true rfl)
  rw [lg_entry_eq]
  generalize (lg_sl ([.ref a_t, .int x1]) ++ List.replicate (2 - (lg_sl ([.ref a_t, .int x1])).length) Slot.unset).toArray = ls at hl ⊢
  have hl : lv_has ls 2 [(0, .ref a_t), (1, .int x1)] := hl
  unfold wX9_signedMultiplier at h
  refine lv_aload_n hx hb dX9_signedMultiplier_0 rfl (lv_at hl 0 rfl) ?_
  refine lv_iconst (v := 0) hx hb dX9_signedMultiplier_1 (by decide) ?_
  refine va_put (D := D) (ci := 7) (v := .int 0) (ty := .int) (C := RX9) (T := TX9) (N := 12) hx hb hq inX9g tyX9 tyX9_ok nmX9 hown hK hP hD hS 0 rfl rfl 4 (by decide) (hq _ q_885) (fun _ h9 => h9) rfl (by decide +kernel) rfl rfl (Nat.le_of_ble_eq_true rfl) dX9_signedMultiplier_2 (fun H locs hP hD hS => ?_)
  have hP : va_P D vwCl [(a_t, .inr (7, [.ref a_t_v, .ref a_t_past, .ref a_t_costs, .int t_edits, .int 0, .ref a_t_into, .ref a_t_isNeeded, .ref a_t_depths, .ref a_t_names, .ref a_t_out, .int t_outs, .ref a_t_has])), (a_t_v, .inl (ca 0, 206, .inl f_t_v))] H := hP
  have hD : va_D A [(a_t, .inr (7, [.ref a_t_v, .ref a_t_past, .ref a_t_costs, .int t_edits, .int 0, .ref a_t_into, .ref a_t_isNeeded, .ref a_t_depths, .ref a_t_names, .ref a_t_out, .int t_outs, .ref a_t_has])), (a_t_v, .inl (ca 0, 206, .inl f_t_v))] := hD
  refine lv_iload_n hx hb dX9_signedMultiplier_5 rfl (lv_at hl 1 rfl) ?_
  refine lv_i2l hx hb dX9_signedMultiplier_6 rfl ?_
  refine lv_lconst (v := 1) hx hb dX9_signedMultiplier_7 (by decide) ?_
  refine lv_aload_n hx hb dX9_signedMultiplier_8 rfl (lv_at hl 0 rfl) ?_
  refine cVl (As := []) (rest := [.long 1, .long x1.toInt64]) (wc := [(a_t, .inr (7, [.ref a_t_v, .ref a_t_past, .ref a_t_costs, .int t_edits, .int 0, .ref a_t_into, .ref a_t_isNeeded, .ref a_t_depths, .ref a_t_names, .ref a_t_out, .int t_outs, .ref a_t_has])), (a_t_v, .inl (ca 0, 206, .inl f_t_v))]) (wr := []) (w1 := fun _ : Unit => [(a_t, .inr (7, [.ref a_t_v, .ref a_t_past, .ref a_t_costs, .int t_edits, .int 0, .ref a_t_into, .ref a_t_isNeeded, .ref a_t_depths, .ref a_t_names, .ref a_t_out, .int t_outs, .ref a_t_has])), (a_t_v, .inl (ca 0, 206, .inl f_t_v))]) (ws2 := fun _ : Unit => [(a_t, .inr (7, [.ref a_t_v, .ref a_t_past, .ref a_t_costs, .int t_edits, .int 0, .ref a_t_into, .ref a_t_isNeeded, .ref a_t_depths, .ref a_t_names, .ref a_t_out, .int t_outs, .ref a_t_has])), (a_t_v, .inl (ca 0, 206, .inl f_t_v))]) ⟨hx, hb, hml, hown, hts⟩ (mX9_half l D ca a_t a_t_v a_t_past a_t_costs a_t_into a_t_isNeeded a_t_depths a_t_names a_t_out a_t_has _ t_edits 0 t_outs f_t_v _ h) (cwV 0 hts (gV q_987 q_989 qs_38 q_8 q_990) rfl rfl rfl (by decide +kernel) ⟨Nat.le_of_ble_eq_true rfl, Nat.le_of_ble_eq_true rfl⟩) hK hP hD hS hA [0, 1] [] [0, 1] rfl rfl rfl (by decide) (fun _ => rfl) (ci := 7) (q0 := 0) rfl rfl rfl hl.1 rfl (Nat.le_of_ble_eq_true rfl) dX9_signedMultiplier_9 ⟨Nat.le_of_ble_eq_true rfl, Nat.le_of_ble_eq_true rfl⟩ (fun r_9 u9 H locs h hP hD hS => ?_)
  try dsimp only at h
  refine lv_lconst (v := 1) hx hb dX9_signedMultiplier_12 (by decide) ?_
  refine lv_lsub hx hb dX9_signedMultiplier_13 ?_
  refine cPi (As := [.long x1.toInt64, .long 1, .long (r_9 - 1)]) (rest := []) ⟨hx, hb, hml, hown, hts⟩ (mX9_in l x1.toInt64 1 (r_9 - 1) _ h) (va_cwS 3 hts (gS q_930 q_931 q_8 q_932) rfl rfl rfl (by decide +kernel) ⟨Nat.le_of_ble_eq_true rfl, Nat.le_of_ble_eq_true rfl⟩) hS rfl hl.1 rfl (Nat.le_of_ble_eq_true rfl) dX9_signedMultiplier_14 ⟨Nat.le_of_ble_eq_true rfl, Nat.le_of_ble_eq_true rfl⟩ (fun r_14 H1 locs h hk1 hS => ?_)
  have hP := s_back hP hk1
  try dsimp only at h
  refine lv_if_ne (tgt := 26) hx hb dX9_signedMultiplier_17 (by decide) (fun c9 => ?_) (fun c9 => ?_)
  · have h := h.2 c9
    refine lv_iload_n hx hb dX9_signedMultiplier_26 rfl (lv_at hl 1 rfl) ?_
    refine lv_i2l hx hb dX9_signedMultiplier_27 rfl ?_
    refine cPi (As := [.long x1.toInt64]) (rest := []) ⟨hx, hb, hml, hown, hts⟩ (mX9_isPower l x1.toInt64 _ h) (va_cwS 1 hts (gS q_962 q_963 q_8 q_964) rfl rfl rfl (by decide +kernel) ⟨Nat.le_of_ble_eq_true rfl, Nat.le_of_ble_eq_true rfl⟩) hS rfl hl.1 rfl (Nat.le_of_ble_eq_true rfl) dX9_signedMultiplier_28 ⟨Nat.le_of_ble_eq_true rfl, Nat.le_of_ble_eq_true rfl⟩ (fun r_28 H1 locs h hk1 hS => ?_)
    have hP := s_back hP hk1
    try dsimp only at h
    refine lv_if_eq (tgt := 38) hx hb dX9_signedMultiplier_31 (by decide) (fun c9 => ?_) (fun c9 => ?_)
    · have h := h.1 c9
      refine lv_aload_n hx hb dX9_signedMultiplier_38 rfl (lv_at hl 0 rfl) ?_
      refine lv_iload_n hx hb dX9_signedMultiplier_39 rfl (lv_at hl 1 rfl) ?_
      refine lv_i2l hx hb dX9_signedMultiplier_40 rfl ?_
      refine lv_aload_n hx hb dX9_signedMultiplier_41 rfl (lv_at hl 0 rfl) ?_
      refine lv_iload_n hx hb dX9_signedMultiplier_42 rfl (lv_at hl 1 rfl) ?_
      refine lv_i2l hx hb dX9_signedMultiplier_43 rfl ?_
      refine lv_iconst (v := 1) hx hb dX9_signedMultiplier_44 (by decide) ?_
      refine cVi (As := [.long x1.toInt64, .int 1]) (rest := [.long x1.toInt64, .ref a_t]) (wc := [(a_t, .inr (7, [.ref a_t_v, .ref a_t_past, .ref a_t_costs, .int t_edits, .int 0, .ref a_t_into, .ref a_t_isNeeded, .ref a_t_depths, .ref a_t_names, .ref a_t_out, .int t_outs, .ref a_t_has])), (a_t_v, .inl (ca 0, 206, .inl f_t_v))]) (wr := []) (w1 := fun _ : Unit => [(a_t, .inr (7, [.ref a_t_v, .ref a_t_past, .ref a_t_costs, .int t_edits, .int 0, .ref a_t_into, .ref a_t_isNeeded, .ref a_t_depths, .ref a_t_names, .ref a_t_out, .int t_outs, .ref a_t_has])), (a_t_v, .inl (ca 0, 206, .inl f_t_v))]) (ws2 := fun _ : Unit => [(a_t, .inr (7, [.ref a_t_v, .ref a_t_past, .ref a_t_costs, .int t_edits, .int 0, .ref a_t_into, .ref a_t_isNeeded, .ref a_t_depths, .ref a_t_names, .ref a_t_out, .int t_outs, .ref a_t_has])), (a_t_v, .inl (ca 0, 206, .inl f_t_v))]) ⟨hx, hb, hml, hown, hts⟩ (mX9_shiftFor l D ca a_t a_t_v a_t_past a_t_costs a_t_into a_t_isNeeded a_t_depths a_t_names a_t_out a_t_has _ t_edits 0 t_outs f_t_v x1.toInt64 1 _ h) (cwV 2 hts (gV q_965 q_967 qs_36 q_8 q_968) rfl rfl rfl (by decide +kernel) ⟨Nat.le_of_ble_eq_true rfl, Nat.le_of_ble_eq_true rfl⟩) hK hP hD hS hA [0, 1] [] [0, 1] rfl rfl rfl (by decide) (fun _ => rfl) (ci := 7) (q0 := 0) rfl rfl rfl hl.1 rfl (Nat.le_of_ble_eq_true rfl) dX9_signedMultiplier_45 ⟨Nat.le_of_ble_eq_true rfl, Nat.le_of_ble_eq_true rfl⟩ (fun r_45 u9 H locs h hP hD hS => ?_)
      try dsimp only at h
      refine cVl (As := [.long x1.toInt64, .int r_45]) (rest := []) (wc := [(a_t, .inr (7, [.ref a_t_v, .ref a_t_past, .ref a_t_costs, .int t_edits, .int 0, .ref a_t_into, .ref a_t_isNeeded, .ref a_t_depths, .ref a_t_names, .ref a_t_out, .int t_outs, .ref a_t_has])), (a_t_v, .inl (ca 0, 206, .inl f_t_v))]) (wr := []) (w1 := fun _ : Unit => [(a_t, .inr (7, [.ref a_t_v, .ref a_t_past, .ref a_t_costs, .int t_edits, .int 0, .ref a_t_into, .ref a_t_isNeeded, .ref a_t_depths, .ref a_t_names, .ref a_t_out, .int t_outs, .ref a_t_has])), (a_t_v, .inl (ca 0, 206, .inl f_t_v))]) (ws2 := fun _ : Unit => [(a_t, .inr (7, [.ref a_t_v, .ref a_t_past, .ref a_t_costs, .int t_edits, .int 0, .ref a_t_into, .ref a_t_isNeeded, .ref a_t_depths, .ref a_t_names, .ref a_t_out, .int t_outs, .ref a_t_has])), (a_t_v, .inl (ca 0, 206, .inl f_t_v))]) ⟨hx, hb, hml, hown, hts⟩ (mX9_multiplierFor l D ca a_t a_t_v a_t_past a_t_costs a_t_into a_t_isNeeded a_t_depths a_t_names a_t_out a_t_has _ t_edits 0 t_outs f_t_v x1.toInt64 r_45 _ h) (cwV 2 hts (gV q_972 q_974 qs_37 q_8 q_975) rfl rfl rfl (by decide +kernel) ⟨Nat.le_of_ble_eq_true rfl, Nat.le_of_ble_eq_true rfl⟩) hK hP hD hS hA [0, 1] [] [0, 1] rfl rfl rfl (by decide) (fun _ => rfl) (ci := 7) (q0 := 0) rfl rfl rfl hl.1 rfl (Nat.le_of_ble_eq_true rfl) dX9_signedMultiplier_48 ⟨Nat.le_of_ble_eq_true rfl, Nat.le_of_ble_eq_true rfl⟩ (fun r_48 u9 H locs h hP hD hS => ?_)
      try dsimp only at h
      refine lv_l2i hx hb dX9_signedMultiplier_51 rfl ?_
      exact W.iret (v := r_48.toInt32) hx hb hr (fun t ht hW => ⟨⟨r_48.toInt32, 0, rfl, h, by rw [ht]; exact hP, va_K.moved hW.alike hK, hD⟩, hS.F ht⟩) hS.2.2 dX9_signedMultiplier_52
    · have h := h.2 c9
      refine lv_iconst (v := 0) hx hb dX9_signedMultiplier_34 (by decide) ?_
      refine lv_goto (tgt := 52) hx hb dX9_signedMultiplier_35 (by decide) ?_
      exact W.iret (v := 0) hx hb hr (fun t ht hW => ⟨⟨0, 0, rfl, h, by rw [ht]; exact hP, va_K.moved hW.alike hK, hD⟩, hS.F ht⟩) hS.2.2 dX9_signedMultiplier_52
  · have h := h.1 c9
    refine lv_aload_n hx hb dX9_signedMultiplier_20 rfl (lv_at hl 0 rfl) ?_
    refine lv_iconst (v := 1) hx hb dX9_signedMultiplier_21 (by decide) ?_
    refine cVi (As := [.int 1]) (rest := []) (wc := [(a_t, .inr (7, [.ref a_t_v, .ref a_t_past, .ref a_t_costs, .int t_edits, .int 0, .ref a_t_into, .ref a_t_isNeeded, .ref a_t_depths, .ref a_t_names, .ref a_t_out, .int t_outs, .ref a_t_has]))]) (wr := [(a_t_v, .inl (ca 0, 206, .inl f_t_v))]) (w1 := fun u : Int32 => [(a_t, .inr (7, [.ref a_t_v, .ref a_t_past, .ref a_t_costs, .int t_edits, .int u, .ref a_t_into, .ref a_t_isNeeded, .ref a_t_depths, .ref a_t_names, .ref a_t_out, .int t_outs, .ref a_t_has]))]) (ws2 := fun u : Int32 => [(a_t, .inr (7, [.ref a_t_v, .ref a_t_past, .ref a_t_costs, .int t_edits, .int u, .ref a_t_into, .ref a_t_isNeeded, .ref a_t_depths, .ref a_t_names, .ref a_t_out, .int t_outs, .ref a_t_has])), (a_t_v, .inl (ca 0, 206, .inl f_t_v))]) ⟨hx, hb, hml, hown, hts⟩ (mX9_fails l D ca a_t a_t_v a_t_past a_t_costs a_t_into a_t_isNeeded a_t_depths a_t_names a_t_out a_t_has _ t_edits 0 t_outs 1 _ h) (cwV 1 hts (gV q_933 q_935 qs_33 q_8 q_936) rfl rfl rfl (by decide +kernel) ⟨Nat.le_of_ble_eq_true rfl, Nat.le_of_ble_eq_true rfl⟩) hK hP hD hS hA [0] [1] [1, 0] rfl rfl rfl (by decide) (fun _ => rfl) (ci := 7) (q0 := 0) rfl rfl rfl hl.1 rfl (Nat.le_of_ble_eq_true rfl) dX9_signedMultiplier_22 ⟨Nat.le_of_ble_eq_true rfl, Nat.le_of_ble_eq_true rfl⟩ (fun r_22 u9 H locs h hP hD hS => ?_)
    obtain ⟨t_thrown_22, rfl⟩ : ∃ z, z = u9 := ⟨_, rfl⟩
    have hP : va_P D vwCl [(a_t, .inr (7, [.ref a_t_v, .ref a_t_past, .ref a_t_costs, .int t_edits, .int t_thrown_22, .ref a_t_into, .ref a_t_isNeeded, .ref a_t_depths, .ref a_t_names, .ref a_t_out, .int t_outs, .ref a_t_has])), (a_t_v, .inl (ca 0, 206, .inl f_t_v))] H := hP
    have hD : va_D A [(a_t, .inr (7, [.ref a_t_v, .ref a_t_past, .ref a_t_costs, .int t_edits, .int t_thrown_22, .ref a_t_into, .ref a_t_isNeeded, .ref a_t_depths, .ref a_t_names, .ref a_t_out, .int t_outs, .ref a_t_has])), (a_t_v, .inl (ca 0, 206, .inl f_t_v))] := hD
    try dsimp only at h
    exact W.iret (v := r_22) hx hb hr (fun t ht hW => ⟨⟨r_22, t_thrown_22, rfl, h, by rw [ht]; exact hP, va_K.moved hW.alike hK, hD⟩, hS.F ht⟩) hS.2.2 dX9_signedMultiplier_25

abbrev qX9_inverse (D : va_G) (ca : Nat → ClassId) (a_t a_t_v a_t_past a_t_costs a_t_into a_t_isNeeded a_t_depths a_t_names a_t_out a_t_has : Nat) (t_edits : Int32) (t_outs : Int32) (f_t_v : Nat → Int32) (Q : Int32 → Int32 → Prop) (A : Nat → Prop) : Array Value → State → Outcome → State → Prop := va_Qi (fun (r : Int32) (u : Int32) => Q r u) (wEnd D ca (fun u : Int32 => [(a_t, .inr (7, [.ref a_t_v, .ref a_t_past, .ref a_t_costs, .int t_edits, .int u, .ref a_t_into, .ref a_t_isNeeded, .ref a_t_depths, .ref a_t_names, .ref a_t_out, .int t_outs, .ref a_t_has])), (a_t_v, .inl (ca 0, 206, .inl f_t_v))]) A) A
def wX9_inverse_37 (Q : Int32 → Int32 → Prop) : Prop :=
  wX9_fails 0 1 (fun r_39 t_thrown_39 => Q r_39 t_thrown_39)
def wX9_inverse (t_thrown : Int32) (f_t_v : Nat → Int32) (x1 : Int32) (Q : Int32 → Int32 → Prop) : Prop :=
  wX9_all f_t_v (fun r_9 => wX9_in x1.toInt64 1 (r_9 - 1) (fun r_14 => ((r_14 = 0 → wX9_inverse_37 Q) ∧ (¬ r_14 = 0 → (((x1 - x1 / 2 * 2) = 1 → wX9_inverseOf f_t_v x1.toInt64 (fun r_30 => Q r_30.toInt32 0)) ∧ (¬ (x1 - x1 / 2 * 2) = 1 → wX9_inverse_37 Q))))))
set_option maxHeartbeats 4000000 in
set_option maxRecDepth 100000 in
theorem mX9_inverse (l : Launch) (D : va_G) (ca : Nat → ClassId) (a_t a_t_v a_t_past a_t_costs a_t_into a_t_isNeeded a_t_depths a_t_names a_t_out a_t_has : Nat) (sz : Nat) (t_edits : Int32) (t_thrown : Int32) (t_outs : Int32) (f_t_v : Nat → Int32) (x1 : Int32) (Q : Int32 → Int32 → Prop) (h : wX9_inverse t_thrown f_t_v x1 Q) : Met l yX9_inverse (Cond.code yX9_inverse cX9_inverse 2 (some .int) :: wsG) ({ frames := 4, cells := 0, slots := 0, locals := 86 } : Room) (va_Pc [.ref a_t, .int x1] (wPre D ca [(a_t, .inr (7, [.ref a_t_v, .ref a_t_past, .ref a_t_costs, .int t_edits, .int t_thrown, .ref a_t_into, .ref a_t_isNeeded, .ref a_t_depths, .ref a_t_names, .ref a_t_out, .int t_outs, .ref a_t_has])), (a_t_v, .inl (ca 0, 206, .inl f_t_v))] sz)) (qX9_inverse D ca a_t a_t_v a_t_past a_t_costs a_t_into a_t_isNeeded a_t_depths a_t_names a_t_out a_t_has t_edits t_outs f_t_v Q (va_A [(a_t, .inr (7, [.ref a_t_v, .ref a_t_past, .ref a_t_costs, .int t_edits, .int t_thrown, .ref a_t_into, .ref a_t_isNeeded, .ref a_t_depths, .ref a_t_names, .ref a_t_out, .int t_outs, .ref a_t_has])), (a_t_v, .inl (ca 0, 206, .inl f_t_v))] sz)) 0 0 (va_A [(a_t, .inr (7, [.ref a_t_v, .ref a_t_past, .ref a_t_costs, .int t_edits, .int t_thrown, .ref a_t_into, .ref a_t_isNeeded, .ref a_t_depths, .ref a_t_names, .ref a_t_out, .int t_outs, .ref a_t_has])), (a_t_v, .inl (ca 0, 206, .inl f_t_v))] sz) := by
  refine Met.ofW (cc := cX9_inverse) (maxL := 2) (ret := (some .int)) (by decide) rfl ?_
  intro p e s m args below meth c s₁ B hml hv
  obtain ⟨rfl, hsz, hP, hK, hD0⟩ := hv
  have hx := B.exec
  have hb := B.bytes
  have hr := B.returns
  have hts := atoms_spec (ws := (Cond.code yX9_inverse cX9_inverse 2 (some .int) :: wsG)) B.pre
  have hq : ∀ w ∈ wsG, w.before _ s = true := fun w hw => hts w (List.mem_cons_of_mem _ hw)
  have hown : s.vm.findClass RX9 = some m.cls := findClass_of_methodNamed B.named
  have hlocks := B.notSynchronized
  subst hsz
  have hD := hD0.self (sz := s.heap.size)
  generalize hAe : va_A [(a_t, .inr (7, [.ref a_t_v, .ref a_t_past, .ref a_t_costs, .int t_edits, .int t_thrown, .ref a_t_into, .ref a_t_isNeeded, .ref a_t_depths, .ref a_t_names, .ref a_t_out, .int t_outs, .ref a_t_has])), (a_t_v, .inl (ca 0, 206, .inl f_t_v))] s.heap.size = A at hD ⊢
  have hA : ∀ q : Nat, s.heap.size ≤ q → A q := fun q h => by rw [← hAe]; exact Or.inr h
  have hS : va_S A s.heap s.heap [] := va_S.rf
  have hP : va_P D vwCl [(a_t, .inr (7, [.ref a_t_v, .ref a_t_past, .ref a_t_costs, .int t_edits, .int t_thrown, .ref a_t_into, .ref a_t_isNeeded, .ref a_t_depths, .ref a_t_names, .ref a_t_out, .int t_outs, .ref a_t_has])), (a_t_v, .inl (ca 0, 206, .inl f_t_v))] s.heap := hP
  have hl := lv_entry ([.ref a_t, .int x1]) (n := 2) (Nat.le_of_ble_eq_true rfl)
  rw [lg_entry_eq]
  generalize (lg_sl ([.ref a_t, .int x1]) ++ List.replicate (2 - (lg_sl ([.ref a_t, .int x1])).length) Slot.unset).toArray = ls at hl ⊢
  have hl : lv_has ls 2 [(0, .ref a_t), (1, .int x1)] := hl
  unfold wX9_inverse at h
  refine lv_aload_n hx hb dX9_inverse_0 rfl (lv_at hl 0 rfl) ?_
  refine lv_iconst (v := 0) hx hb dX9_inverse_1 (by decide) ?_
  refine va_put (D := D) (ci := 7) (v := .int 0) (ty := .int) (C := RX9) (T := TX9) (N := 12) hx hb hq inX9g tyX9 tyX9_ok nmX9 hown hK hP hD hS 0 rfl rfl 4 (by decide) (hq _ q_885) (fun _ h9 => h9) rfl (by decide +kernel) rfl rfl (Nat.le_of_ble_eq_true rfl) dX9_inverse_2 (fun H locs hP hD hS => ?_)
  have hP : va_P D vwCl [(a_t, .inr (7, [.ref a_t_v, .ref a_t_past, .ref a_t_costs, .int t_edits, .int 0, .ref a_t_into, .ref a_t_isNeeded, .ref a_t_depths, .ref a_t_names, .ref a_t_out, .int t_outs, .ref a_t_has])), (a_t_v, .inl (ca 0, 206, .inl f_t_v))] H := hP
  have hD : va_D A [(a_t, .inr (7, [.ref a_t_v, .ref a_t_past, .ref a_t_costs, .int t_edits, .int 0, .ref a_t_into, .ref a_t_isNeeded, .ref a_t_depths, .ref a_t_names, .ref a_t_out, .int t_outs, .ref a_t_has])), (a_t_v, .inl (ca 0, 206, .inl f_t_v))] := hD
  refine lv_iload_n hx hb dX9_inverse_5 rfl (lv_at hl 1 rfl) ?_
  refine lv_i2l hx hb dX9_inverse_6 rfl ?_
  refine lv_lconst (v := 1) hx hb dX9_inverse_7 (by decide) ?_
  refine lv_aload_n hx hb dX9_inverse_8 rfl (lv_at hl 0 rfl) ?_
  refine cVl (As := []) (rest := [.long 1, .long x1.toInt64]) (wc := [(a_t, .inr (7, [.ref a_t_v, .ref a_t_past, .ref a_t_costs, .int t_edits, .int 0, .ref a_t_into, .ref a_t_isNeeded, .ref a_t_depths, .ref a_t_names, .ref a_t_out, .int t_outs, .ref a_t_has])), (a_t_v, .inl (ca 0, 206, .inl f_t_v))]) (wr := []) (w1 := fun _ : Unit => [(a_t, .inr (7, [.ref a_t_v, .ref a_t_past, .ref a_t_costs, .int t_edits, .int 0, .ref a_t_into, .ref a_t_isNeeded, .ref a_t_depths, .ref a_t_names, .ref a_t_out, .int t_outs, .ref a_t_has])), (a_t_v, .inl (ca 0, 206, .inl f_t_v))]) (ws2 := fun _ : Unit => [(a_t, .inr (7, [.ref a_t_v, .ref a_t_past, .ref a_t_costs, .int t_edits, .int 0, .ref a_t_into, .ref a_t_isNeeded, .ref a_t_depths, .ref a_t_names, .ref a_t_out, .int t_outs, .ref a_t_has])), (a_t_v, .inl (ca 0, 206, .inl f_t_v))]) ⟨hx, hb, hml, hown, hts⟩ (mX9_all l D ca a_t a_t_v a_t_past a_t_costs a_t_into a_t_isNeeded a_t_depths a_t_names a_t_out a_t_has _ t_edits 0 t_outs f_t_v _ h) (cwV 0 hts (gV q_955 q_957 qs_35 q_8 q_958) rfl rfl rfl (by decide +kernel) ⟨Nat.le_of_ble_eq_true rfl, Nat.le_of_ble_eq_true rfl⟩) hK hP hD hS hA [0, 1] [] [0, 1] rfl rfl rfl (by decide) (fun _ => rfl) (ci := 7) (q0 := 0) rfl rfl rfl hl.1 rfl (Nat.le_of_ble_eq_true rfl) dX9_inverse_9 ⟨Nat.le_of_ble_eq_true rfl, Nat.le_of_ble_eq_true rfl⟩ (fun r_9 u9 H locs h hP hD hS => ?_)
  try dsimp only at h
  refine lv_lconst (v := 1) hx hb dX9_inverse_12 (by decide) ?_
  refine lv_lsub hx hb dX9_inverse_13 ?_
  refine cPi (As := [.long x1.toInt64, .long 1, .long (r_9 - 1)]) (rest := []) ⟨hx, hb, hml, hown, hts⟩ (mX9_in l x1.toInt64 1 (r_9 - 1) _ h) (va_cwS 3 hts (gS q_930 q_931 q_8 q_932) rfl rfl rfl (by decide +kernel) ⟨Nat.le_of_ble_eq_true rfl, Nat.le_of_ble_eq_true rfl⟩) hS rfl hl.1 rfl (Nat.le_of_ble_eq_true rfl) dX9_inverse_14 ⟨Nat.le_of_ble_eq_true rfl, Nat.le_of_ble_eq_true rfl⟩ (fun r_14 H1 locs h hk1 hS => ?_)
  have hP := s_back hP hk1
  try dsimp only at h
  have hJ37 : ∀ (H : Heap) (locs : List Loc) (ls : Array Slot), va_P D vwCl [(a_t, .inr (7, [.ref a_t_v, .ref a_t_past, .ref a_t_costs, .int t_edits, .int 0, .ref a_t_into, .ref a_t_isNeeded, .ref a_t_depths, .ref a_t_names, .ref a_t_out, .int t_outs, .ref a_t_has])), (a_t_v, .inl (ca 0, 206, .inl f_t_v))] H → va_D A [(a_t, .inr (7, [.ref a_t_v, .ref a_t_past, .ref a_t_costs, .int t_edits, .int 0, .ref a_t_into, .ref a_t_isNeeded, .ref a_t_depths, .ref a_t_names, .ref a_t_out, .int t_outs, .ref a_t_has])), (a_t_v, .inl (ca 0, 206, .inl f_t_v))] → va_S A s.heap H locs → lv_has ls 2 [(0, .ref a_t)] → wX9_inverse_37 Q → W p l e (headSpec (Cond.code yX9_inverse cX9_inverse 2 (some .int) :: wsG) ({ frames := 4, cells := 0, slots := 0, locals := 86 } : Room)).room s m ([.ref a_t, .int x1] : List Value).toArray below meth c H locs 0 0 (MQ below (qX9_inverse D ca a_t a_t_v a_t_past a_t_costs a_t_into a_t_isNeeded a_t_depths a_t_names a_t_out a_t_has t_edits t_outs f_t_v Q A) ([.ref a_t, .int x1] : List Value).toArray s 0 0 A) (F0 m 37 ls []) := by
    intro  H locs ls hP hD hS hl h
    unfold wX9_inverse_37 at h
    refine lv_aload_n hx hb dX9_inverse_37 rfl (lv_at hl 0 rfl) ?_
    refine lv_iconst (v := 1) hx hb dX9_inverse_38 (by decide) ?_
    refine cVi (As := [.int 1]) (rest := []) (wc := [(a_t, .inr (7, [.ref a_t_v, .ref a_t_past, .ref a_t_costs, .int t_edits, .int 0, .ref a_t_into, .ref a_t_isNeeded, .ref a_t_depths, .ref a_t_names, .ref a_t_out, .int t_outs, .ref a_t_has]))]) (wr := [(a_t_v, .inl (ca 0, 206, .inl f_t_v))]) (w1 := fun u : Int32 => [(a_t, .inr (7, [.ref a_t_v, .ref a_t_past, .ref a_t_costs, .int t_edits, .int u, .ref a_t_into, .ref a_t_isNeeded, .ref a_t_depths, .ref a_t_names, .ref a_t_out, .int t_outs, .ref a_t_has]))]) (ws2 := fun u : Int32 => [(a_t, .inr (7, [.ref a_t_v, .ref a_t_past, .ref a_t_costs, .int t_edits, .int u, .ref a_t_into, .ref a_t_isNeeded, .ref a_t_depths, .ref a_t_names, .ref a_t_out, .int t_outs, .ref a_t_has])), (a_t_v, .inl (ca 0, 206, .inl f_t_v))]) ⟨hx, hb, hml, hown, hts⟩ (mX9_fails l D ca a_t a_t_v a_t_past a_t_costs a_t_into a_t_isNeeded a_t_depths a_t_names a_t_out a_t_has _ t_edits 0 t_outs 1 _ h) (cwV 1 hts (gV q_933 q_935 qs_33 q_8 q_936) rfl rfl rfl (by decide +kernel) ⟨Nat.le_of_ble_eq_true rfl, Nat.le_of_ble_eq_true rfl⟩) hK hP hD hS hA [0] [1] [1, 0] rfl rfl rfl (by decide) (fun _ => rfl) (ci := 7) (q0 := 0) rfl rfl rfl hl.1 rfl (Nat.le_of_ble_eq_true rfl) dX9_inverse_39 ⟨Nat.le_of_ble_eq_true rfl, Nat.le_of_ble_eq_true rfl⟩ (fun r_39 u9 H locs h hP hD hS => ?_)
    obtain ⟨t_thrown_39, rfl⟩ : ∃ z, z = u9 := ⟨_, rfl⟩
    have hP : va_P D vwCl [(a_t, .inr (7, [.ref a_t_v, .ref a_t_past, .ref a_t_costs, .int t_edits, .int t_thrown_39, .ref a_t_into, .ref a_t_isNeeded, .ref a_t_depths, .ref a_t_names, .ref a_t_out, .int t_outs, .ref a_t_has])), (a_t_v, .inl (ca 0, 206, .inl f_t_v))] H := hP
    have hD : va_D A [(a_t, .inr (7, [.ref a_t_v, .ref a_t_past, .ref a_t_costs, .int t_edits, .int t_thrown_39, .ref a_t_into, .ref a_t_isNeeded, .ref a_t_depths, .ref a_t_names, .ref a_t_out, .int t_outs, .ref a_t_has])), (a_t_v, .inl (ca 0, 206, .inl f_t_v))] := hD
    try dsimp only at h
    exact W.iret (v := r_39) hx hb hr (fun t ht hW => ⟨⟨r_39, t_thrown_39, rfl, h, by rw [ht]; exact hP, va_K.moved hW.alike hK, hD⟩, hS.F ht⟩) hS.2.2 dX9_inverse_42
  refine lv_if_eq (tgt := 37) hx hb dX9_inverse_17 (by decide) (fun c9 => ?_) (fun c9 => ?_)
  · have h := h.1 c9
    exact hJ37 _ _ _ hP hD hS (lv_sub hl [0] rfl) h
  · have h := h.2 c9
    refine lv_iload_n hx hb dX9_inverse_20 rfl (lv_at hl 1 rfl) ?_
    refine lv_iconst (v := 2) hx hb dX9_inverse_21 (by decide) ?_
    refine lv_irem hx hb dX9_inverse_22 (by decide) ?_
    refine lv_iconst (v := 1) hx hb dX9_inverse_23 (by decide) ?_
    refine lv_icmp_ne (tgt := 37) hx hb dX9_inverse_24 (by decide) (fun c9 => ?_) (fun c9 => ?_)
    · have h := h.2 c9
      exact hJ37 _ _ _ hP hD hS (lv_sub hl [0] rfl) h
    · have h := h.1 c9
      refine lv_aload_n hx hb dX9_inverse_27 rfl (lv_at hl 0 rfl) ?_
      refine lv_iload_n hx hb dX9_inverse_28 rfl (lv_at hl 1 rfl) ?_
      refine lv_i2l hx hb dX9_inverse_29 rfl ?_
      refine cVl (As := [.long x1.toInt64]) (rest := []) (wc := [(a_t, .inr (7, [.ref a_t_v, .ref a_t_past, .ref a_t_costs, .int t_edits, .int 0, .ref a_t_into, .ref a_t_isNeeded, .ref a_t_depths, .ref a_t_names, .ref a_t_out, .int t_outs, .ref a_t_has])), (a_t_v, .inl (ca 0, 206, .inl f_t_v))]) (wr := []) (w1 := fun _ : Unit => [(a_t, .inr (7, [.ref a_t_v, .ref a_t_past, .ref a_t_costs, .int t_edits, .int 0, .ref a_t_into, .ref a_t_isNeeded, .ref a_t_depths, .ref a_t_names, .ref a_t_out, .int t_outs, .ref a_t_has])), (a_t_v, .inl (ca 0, 206, .inl f_t_v))]) (ws2 := fun _ : Unit => [(a_t, .inr (7, [.ref a_t_v, .ref a_t_past, .ref a_t_costs, .int t_edits, .int 0, .ref a_t_into, .ref a_t_isNeeded, .ref a_t_depths, .ref a_t_names, .ref a_t_out, .int t_outs, .ref a_t_has])), (a_t_v, .inl (ca 0, 206, .inl f_t_v))]) ⟨hx, hb, hml, hown, hts⟩ (mX9_inverseOf l D ca a_t a_t_v a_t_past a_t_costs a_t_into a_t_isNeeded a_t_depths a_t_names a_t_out a_t_has _ t_edits 0 t_outs f_t_v x1.toInt64 _ h) (cwV 1 hts (gV q_995 q_997 qs_39 q_8 q_998) rfl rfl rfl (by decide +kernel) ⟨Nat.le_of_ble_eq_true rfl, Nat.le_of_ble_eq_true rfl⟩) hK hP hD hS hA [0, 1] [] [0, 1] rfl rfl rfl (by decide) (fun _ => rfl) (ci := 7) (q0 := 0) rfl rfl rfl hl.1 rfl (Nat.le_of_ble_eq_true rfl) dX9_inverse_30 ⟨Nat.le_of_ble_eq_true rfl, Nat.le_of_ble_eq_true rfl⟩ (fun r_30 u9 H locs h hP hD hS => ?_)
      try dsimp only at h
      refine lv_l2i hx hb dX9_inverse_33 rfl ?_
      refine lv_goto (tgt := 42) hx hb dX9_inverse_34 (by decide) ?_
      exact W.iret (v := r_30.toInt32) hx hb hr (fun t ht hW => ⟨⟨r_30.toInt32, 0, rfl, h, by rw [ht]; exact hP, va_K.moved hW.alike hK, hD⟩, hS.F ht⟩) hS.2.2 dX9_inverse_42

abbrev qX9_digits (D : va_G) (ca : Nat → ClassId) (a_t a_t_v a_t_past a_t_costs a_t_into a_t_isNeeded a_t_depths a_t_names a_t_out a_t_has : Nat) (t_edits : Int32) (t_outs : Int32) (f_t_v : Nat → Int32) (Q : Int32 → Int32 → Prop) (A : Nat → Prop) : Array Value → State → Outcome → State → Prop := va_Qi (fun (r : Int32) (u : Int32) => Q r u) (wEnd D ca (fun u : Int32 => [(a_t, .inr (7, [.ref a_t_v, .ref a_t_past, .ref a_t_costs, .int t_edits, .int u, .ref a_t_into, .ref a_t_isNeeded, .ref a_t_depths, .ref a_t_names, .ref a_t_out, .int t_outs, .ref a_t_has])), (a_t_v, .inl (ca 0, 206, .inl f_t_v))]) A) A
def wX9_digits (t_thrown : Int32) (f_t_v : Nat → Int32) (x1 : Int32) (Q : Int32 → Int32 → Prop) : Prop :=
  wX9_all f_t_v (fun r_9 => wX9_in x1.toInt64 0 (r_9 - 1) (fun r_14 => ((r_14 = 0 → wX9_fails 0 1 (fun r_31 t_thrown_31 => Q r_31 t_thrown_31)) ∧ (¬ r_14 = 0 → wX9_digitsOf f_t_v x1.toInt64 (fun r_23 => Q r_23 0)))))
set_option maxHeartbeats 4000000 in
set_option maxRecDepth 100000 in
theorem mX9_digits (l : Launch) (D : va_G) (ca : Nat → ClassId) (a_t a_t_v a_t_past a_t_costs a_t_into a_t_isNeeded a_t_depths a_t_names a_t_out a_t_has : Nat) (sz : Nat) (t_edits : Int32) (t_thrown : Int32) (t_outs : Int32) (f_t_v : Nat → Int32) (x1 : Int32) (Q : Int32 → Int32 → Prop) (h : wX9_digits t_thrown f_t_v x1 Q) : Met l yX9_digits (Cond.code yX9_digits cX9_digits 2 (some .int) :: wsG) ({ frames := 2, cells := 0, slots := 0, locals := 48 } : Room) (va_Pc [.ref a_t, .int x1] (wPre D ca [(a_t, .inr (7, [.ref a_t_v, .ref a_t_past, .ref a_t_costs, .int t_edits, .int t_thrown, .ref a_t_into, .ref a_t_isNeeded, .ref a_t_depths, .ref a_t_names, .ref a_t_out, .int t_outs, .ref a_t_has])), (a_t_v, .inl (ca 0, 206, .inl f_t_v))] sz)) (qX9_digits D ca a_t a_t_v a_t_past a_t_costs a_t_into a_t_isNeeded a_t_depths a_t_names a_t_out a_t_has t_edits t_outs f_t_v Q (va_A [(a_t, .inr (7, [.ref a_t_v, .ref a_t_past, .ref a_t_costs, .int t_edits, .int t_thrown, .ref a_t_into, .ref a_t_isNeeded, .ref a_t_depths, .ref a_t_names, .ref a_t_out, .int t_outs, .ref a_t_has])), (a_t_v, .inl (ca 0, 206, .inl f_t_v))] sz)) 0 0 (va_A [(a_t, .inr (7, [.ref a_t_v, .ref a_t_past, .ref a_t_costs, .int t_edits, .int t_thrown, .ref a_t_into, .ref a_t_isNeeded, .ref a_t_depths, .ref a_t_names, .ref a_t_out, .int t_outs, .ref a_t_has])), (a_t_v, .inl (ca 0, 206, .inl f_t_v))] sz) := by
  refine Met.ofW (cc := cX9_digits) (maxL := 2) (ret := (some .int)) (by decide) rfl ?_
  intro p e s m args below meth c s₁ B hml hv
  obtain ⟨rfl, hsz, hP, hK, hD0⟩ := hv
  have hx := B.exec
  have hb := B.bytes
  have hr := B.returns
  have hts := atoms_spec (ws := (Cond.code yX9_digits cX9_digits 2 (some .int) :: wsG)) B.pre
  have hq : ∀ w ∈ wsG, w.before _ s = true := fun w hw => hts w (List.mem_cons_of_mem _ hw)
  have hown : s.vm.findClass RX9 = some m.cls := findClass_of_methodNamed B.named
  have hlocks := B.notSynchronized
  subst hsz
  have hD := hD0.self (sz := s.heap.size)
  generalize hAe : va_A [(a_t, .inr (7, [.ref a_t_v, .ref a_t_past, .ref a_t_costs, .int t_edits, .int t_thrown, .ref a_t_into, .ref a_t_isNeeded, .ref a_t_depths, .ref a_t_names, .ref a_t_out, .int t_outs, .ref a_t_has])), (a_t_v, .inl (ca 0, 206, .inl f_t_v))] s.heap.size = A at hD ⊢
  have hA : ∀ q : Nat, s.heap.size ≤ q → A q := fun q h => by rw [← hAe]; exact Or.inr h
  have hS : va_S A s.heap s.heap [] := va_S.rf
  have hP : va_P D vwCl [(a_t, .inr (7, [.ref a_t_v, .ref a_t_past, .ref a_t_costs, .int t_edits, .int t_thrown, .ref a_t_into, .ref a_t_isNeeded, .ref a_t_depths, .ref a_t_names, .ref a_t_out, .int t_outs, .ref a_t_has])), (a_t_v, .inl (ca 0, 206, .inl f_t_v))] s.heap := hP
  have hl := lv_entry ([.ref a_t, .int x1]) (n := 2) (Nat.le_of_ble_eq_true rfl)
  rw [lg_entry_eq]
  generalize (lg_sl ([.ref a_t, .int x1]) ++ List.replicate (2 - (lg_sl ([.ref a_t, .int x1])).length) Slot.unset).toArray = ls at hl ⊢
  have hl : lv_has ls 2 [(0, .ref a_t), (1, .int x1)] := hl
  unfold wX9_digits at h
  refine lv_aload_n hx hb dX9_digits_0 rfl (lv_at hl 0 rfl) ?_
  refine lv_iconst (v := 0) hx hb dX9_digits_1 (by decide) ?_
  refine va_put (D := D) (ci := 7) (v := .int 0) (ty := .int) (C := RX9) (T := TX9) (N := 12) hx hb hq inX9g tyX9 tyX9_ok nmX9 hown hK hP hD hS 0 rfl rfl 4 (by decide) (hq _ q_885) (fun _ h9 => h9) rfl (by decide +kernel) rfl rfl (Nat.le_of_ble_eq_true rfl) dX9_digits_2 (fun H locs hP hD hS => ?_)
  have hP : va_P D vwCl [(a_t, .inr (7, [.ref a_t_v, .ref a_t_past, .ref a_t_costs, .int t_edits, .int 0, .ref a_t_into, .ref a_t_isNeeded, .ref a_t_depths, .ref a_t_names, .ref a_t_out, .int t_outs, .ref a_t_has])), (a_t_v, .inl (ca 0, 206, .inl f_t_v))] H := hP
  have hD : va_D A [(a_t, .inr (7, [.ref a_t_v, .ref a_t_past, .ref a_t_costs, .int t_edits, .int 0, .ref a_t_into, .ref a_t_isNeeded, .ref a_t_depths, .ref a_t_names, .ref a_t_out, .int t_outs, .ref a_t_has])), (a_t_v, .inl (ca 0, 206, .inl f_t_v))] := hD
  refine lv_iload_n hx hb dX9_digits_5 rfl (lv_at hl 1 rfl) ?_
  refine lv_i2l hx hb dX9_digits_6 rfl ?_
  refine lv_lconst (v := 0) hx hb dX9_digits_7 (by decide) ?_
  refine lv_aload_n hx hb dX9_digits_8 rfl (lv_at hl 0 rfl) ?_
  refine cVl (As := []) (rest := [.long 0, .long x1.toInt64]) (wc := [(a_t, .inr (7, [.ref a_t_v, .ref a_t_past, .ref a_t_costs, .int t_edits, .int 0, .ref a_t_into, .ref a_t_isNeeded, .ref a_t_depths, .ref a_t_names, .ref a_t_out, .int t_outs, .ref a_t_has])), (a_t_v, .inl (ca 0, 206, .inl f_t_v))]) (wr := []) (w1 := fun _ : Unit => [(a_t, .inr (7, [.ref a_t_v, .ref a_t_past, .ref a_t_costs, .int t_edits, .int 0, .ref a_t_into, .ref a_t_isNeeded, .ref a_t_depths, .ref a_t_names, .ref a_t_out, .int t_outs, .ref a_t_has])), (a_t_v, .inl (ca 0, 206, .inl f_t_v))]) (ws2 := fun _ : Unit => [(a_t, .inr (7, [.ref a_t_v, .ref a_t_past, .ref a_t_costs, .int t_edits, .int 0, .ref a_t_into, .ref a_t_isNeeded, .ref a_t_depths, .ref a_t_names, .ref a_t_out, .int t_outs, .ref a_t_has])), (a_t_v, .inl (ca 0, 206, .inl f_t_v))]) ⟨hx, hb, hml, hown, hts⟩ (mX9_all l D ca a_t a_t_v a_t_past a_t_costs a_t_into a_t_isNeeded a_t_depths a_t_names a_t_out a_t_has _ t_edits 0 t_outs f_t_v _ h) (cwV 0 hts (gV q_955 q_957 qs_35 q_8 q_958) rfl rfl rfl (by decide +kernel) ⟨Nat.le_of_ble_eq_true rfl, Nat.le_of_ble_eq_true rfl⟩) hK hP hD hS hA [0, 1] [] [0, 1] rfl rfl rfl (by decide) (fun _ => rfl) (ci := 7) (q0 := 0) rfl rfl rfl hl.1 rfl (Nat.le_of_ble_eq_true rfl) dX9_digits_9 ⟨Nat.le_of_ble_eq_true rfl, Nat.le_of_ble_eq_true rfl⟩ (fun r_9 u9 H locs h hP hD hS => ?_)
  try dsimp only at h
  refine lv_lconst (v := 1) hx hb dX9_digits_12 (by decide) ?_
  refine lv_lsub hx hb dX9_digits_13 ?_
  refine cPi (As := [.long x1.toInt64, .long 0, .long (r_9 - 1)]) (rest := []) ⟨hx, hb, hml, hown, hts⟩ (mX9_in l x1.toInt64 0 (r_9 - 1) _ h) (va_cwS 3 hts (gS q_930 q_931 q_8 q_932) rfl rfl rfl (by decide +kernel) ⟨Nat.le_of_ble_eq_true rfl, Nat.le_of_ble_eq_true rfl⟩) hS rfl hl.1 rfl (Nat.le_of_ble_eq_true rfl) dX9_digits_14 ⟨Nat.le_of_ble_eq_true rfl, Nat.le_of_ble_eq_true rfl⟩ (fun r_14 H1 locs h hk1 hS => ?_)
  have hP := s_back hP hk1
  try dsimp only at h
  refine lv_if_eq (tgt := 29) hx hb dX9_digits_17 (by decide) (fun c9 => ?_) (fun c9 => ?_)
  · have h := h.1 c9
    refine lv_aload_n hx hb dX9_digits_29 rfl (lv_at hl 0 rfl) ?_
    refine lv_iconst (v := 1) hx hb dX9_digits_30 (by decide) ?_
    refine cVi (As := [.int 1]) (rest := []) (wc := [(a_t, .inr (7, [.ref a_t_v, .ref a_t_past, .ref a_t_costs, .int t_edits, .int 0, .ref a_t_into, .ref a_t_isNeeded, .ref a_t_depths, .ref a_t_names, .ref a_t_out, .int t_outs, .ref a_t_has]))]) (wr := [(a_t_v, .inl (ca 0, 206, .inl f_t_v))]) (w1 := fun u : Int32 => [(a_t, .inr (7, [.ref a_t_v, .ref a_t_past, .ref a_t_costs, .int t_edits, .int u, .ref a_t_into, .ref a_t_isNeeded, .ref a_t_depths, .ref a_t_names, .ref a_t_out, .int t_outs, .ref a_t_has]))]) (ws2 := fun u : Int32 => [(a_t, .inr (7, [.ref a_t_v, .ref a_t_past, .ref a_t_costs, .int t_edits, .int u, .ref a_t_into, .ref a_t_isNeeded, .ref a_t_depths, .ref a_t_names, .ref a_t_out, .int t_outs, .ref a_t_has])), (a_t_v, .inl (ca 0, 206, .inl f_t_v))]) ⟨hx, hb, hml, hown, hts⟩ (mX9_fails l D ca a_t a_t_v a_t_past a_t_costs a_t_into a_t_isNeeded a_t_depths a_t_names a_t_out a_t_has _ t_edits 0 t_outs 1 _ h) (cwV 1 hts (gV q_933 q_935 qs_33 q_8 q_936) rfl rfl rfl (by decide +kernel) ⟨Nat.le_of_ble_eq_true rfl, Nat.le_of_ble_eq_true rfl⟩) hK hP hD hS hA [0] [1] [1, 0] rfl rfl rfl (by decide) (fun _ => rfl) (ci := 7) (q0 := 0) rfl rfl rfl hl.1 rfl (Nat.le_of_ble_eq_true rfl) dX9_digits_31 ⟨Nat.le_of_ble_eq_true rfl, Nat.le_of_ble_eq_true rfl⟩ (fun r_31 u9 H locs h hP hD hS => ?_)
    obtain ⟨t_thrown_31, rfl⟩ : ∃ z, z = u9 := ⟨_, rfl⟩
    have hP : va_P D vwCl [(a_t, .inr (7, [.ref a_t_v, .ref a_t_past, .ref a_t_costs, .int t_edits, .int t_thrown_31, .ref a_t_into, .ref a_t_isNeeded, .ref a_t_depths, .ref a_t_names, .ref a_t_out, .int t_outs, .ref a_t_has])), (a_t_v, .inl (ca 0, 206, .inl f_t_v))] H := hP
    have hD : va_D A [(a_t, .inr (7, [.ref a_t_v, .ref a_t_past, .ref a_t_costs, .int t_edits, .int t_thrown_31, .ref a_t_into, .ref a_t_isNeeded, .ref a_t_depths, .ref a_t_names, .ref a_t_out, .int t_outs, .ref a_t_has])), (a_t_v, .inl (ca 0, 206, .inl f_t_v))] := hD
    try dsimp only at h
    exact W.iret (v := r_31) hx hb hr (fun t ht hW => ⟨⟨r_31, t_thrown_31, rfl, h, by rw [ht]; exact hP, va_K.moved hW.alike hK, hD⟩, hS.F ht⟩) hS.2.2 dX9_digits_34
  · have h := h.2 c9
    refine lv_aload_n hx hb dX9_digits_20 rfl (lv_at hl 0 rfl) ?_
    refine lv_iload_n hx hb dX9_digits_21 rfl (lv_at hl 1 rfl) ?_
    refine lv_i2l hx hb dX9_digits_22 rfl ?_
    refine cVi (As := [.long x1.toInt64]) (rest := []) (wc := [(a_t, .inr (7, [.ref a_t_v, .ref a_t_past, .ref a_t_costs, .int t_edits, .int 0, .ref a_t_into, .ref a_t_isNeeded, .ref a_t_depths, .ref a_t_names, .ref a_t_out, .int t_outs, .ref a_t_has])), (a_t_v, .inl (ca 0, 206, .inl f_t_v))]) (wr := []) (w1 := fun _ : Unit => [(a_t, .inr (7, [.ref a_t_v, .ref a_t_past, .ref a_t_costs, .int t_edits, .int 0, .ref a_t_into, .ref a_t_isNeeded, .ref a_t_depths, .ref a_t_names, .ref a_t_out, .int t_outs, .ref a_t_has])), (a_t_v, .inl (ca 0, 206, .inl f_t_v))]) (ws2 := fun _ : Unit => [(a_t, .inr (7, [.ref a_t_v, .ref a_t_past, .ref a_t_costs, .int t_edits, .int 0, .ref a_t_into, .ref a_t_isNeeded, .ref a_t_depths, .ref a_t_names, .ref a_t_out, .int t_outs, .ref a_t_has])), (a_t_v, .inl (ca 0, 206, .inl f_t_v))]) ⟨hx, hb, hml, hown, hts⟩ (mX9_digitsOf l D ca a_t a_t_v a_t_past a_t_costs a_t_into a_t_isNeeded a_t_depths a_t_names a_t_out a_t_has _ t_edits 0 t_outs f_t_v x1.toInt64 _ h) (cwV 1 hts (gV q_1010 q_1012 qs_41 q_8 q_1013) rfl rfl rfl (by decide +kernel) ⟨Nat.le_of_ble_eq_true rfl, Nat.le_of_ble_eq_true rfl⟩) hK hP hD hS hA [0, 1] [] [0, 1] rfl rfl rfl (by decide) (fun _ => rfl) (ci := 7) (q0 := 0) rfl rfl rfl hl.1 rfl (Nat.le_of_ble_eq_true rfl) dX9_digits_23 ⟨Nat.le_of_ble_eq_true rfl, Nat.le_of_ble_eq_true rfl⟩ (fun r_23 u9 H locs h hP hD hS => ?_)
    try dsimp only at h
    refine lv_goto (tgt := 34) hx hb dX9_digits_26 (by decide) ?_
    exact W.iret (v := r_23) hx hb hr (fun t ht hW => ⟨⟨r_23, 0, rfl, h, by rw [ht]; exact hP, va_K.moved hW.alike hK, hD⟩, hS.F ht⟩) hS.2.2 dX9_digits_34

abbrev qX9_build (D : va_G) (ca : Nat → ClassId) (a_t a_t_v a_t_past a_t_costs a_t_into a_t_isNeeded a_t_depths a_t_names a_t_out a_t_has : Nat) (t_outs : Int32) (f_t_costs : Nat → Int32) (Q : Int32 → Int32 → Int32 → (Nat → Int32) → (Nat → Int32) → Prop) (A : Nat → Prop) : Array Value → State → Outcome → State → Prop := va_Qi (fun (r : Int32) (u : Int32 × Int32 × (Nat → Int32) × (Nat → Int32)) => Q r u.1 u.2.1 u.2.2.1 u.2.2.2) (wEnd D ca (fun u : Int32 × Int32 × (Nat → Int32) × (Nat → Int32) => [(a_t, .inr (7, [.ref a_t_v, .ref a_t_past, .ref a_t_costs, .int u.1, .int u.2.1, .ref a_t_into, .ref a_t_isNeeded, .ref a_t_depths, .ref a_t_names, .ref a_t_out, .int t_outs, .ref a_t_has])), (a_t_v, .inl (ca 0, 206, .inl u.2.2.1)), (a_t_past, .inl (ca 0, 1648, .inl u.2.2.2)), (a_t_costs, .inl (ca 0, 3, .inl f_t_costs))]) A) A
def wX9_build (t_edits : Int32) (t_thrown : Int32) (f_t_v : Nat → Int32) (f_t_past : Nat → Int32) (f_t_costs : Nat → Int32) (x1 : Int32) (x2 : Int32) (Q : Int32 → Int32 → Int32 → (Nat → Int32) → (Nat → Int32) → Prop) : Prop :=
  wX9_isTask f_t_v x1 x2.toInt64 (fun r_9 => ((r_9 = 0 → wX9_fails 0 1 (fun r_17 t_thrown_17 => Q r_17 t_edits t_thrown_17 f_t_v f_t_past)) ∧ (¬ r_9 = 0 → wX9_edits t_edits f_t_v f_t_past (fun t_edits_22 f_t_past_22 => (vp_in 1 206 ∧ (vp_in 2 206 ∧ (vp_in 3 206 ∧ wX9_writesKind (upd (upd (upd f_t_v (1 : Int32).toNatClampNeg x1) (2 : Int32).toNatClampNeg x2) (3 : Int32).toNatClampNeg 0) f_t_costs x1 x2.toInt64 (fun r_55 f_t_v_55 => (vp_in 4 206 ∧ (vp_in 3 206 ∧ Q ((upd f_t_v_55 (4 : Int32).toNatClampNeg r_55) (3 : Int32).toNatClampNeg) t_edits_22 0 (upd f_t_v_55 (4 : Int32).toNatClampNeg r_55) f_t_past_22))))))))))
set_option maxHeartbeats 4000000 in
set_option maxRecDepth 100000 in
theorem mX9_build (l : Launch) (D : va_G) (ca : Nat → ClassId) (a_t a_t_v a_t_past a_t_costs a_t_into a_t_isNeeded a_t_depths a_t_names a_t_out a_t_has : Nat) (sz : Nat) (t_edits : Int32) (t_thrown : Int32) (t_outs : Int32) (f_t_v : Nat → Int32) (f_t_past : Nat → Int32) (f_t_costs : Nat → Int32) (x1 : Int32) (x2 : Int32) (Q : Int32 → Int32 → Int32 → (Nat → Int32) → (Nat → Int32) → Prop) (h : wX9_build t_edits t_thrown f_t_v f_t_past f_t_costs x1 x2 Q) : Met l yX9_build (Cond.code yX9_build cX9_build 3 (some .int) :: wsG) ({ frames := 5, cells := 0, slots := 0, locals := 139 } : Room) (va_Pc [.ref a_t, .int x1, .int x2] (wPre D ca [(a_t, .inr (7, [.ref a_t_v, .ref a_t_past, .ref a_t_costs, .int t_edits, .int t_thrown, .ref a_t_into, .ref a_t_isNeeded, .ref a_t_depths, .ref a_t_names, .ref a_t_out, .int t_outs, .ref a_t_has])), (a_t_v, .inl (ca 0, 206, .inl f_t_v)), (a_t_past, .inl (ca 0, 1648, .inl f_t_past)), (a_t_costs, .inl (ca 0, 3, .inl f_t_costs))] sz)) (qX9_build D ca a_t a_t_v a_t_past a_t_costs a_t_into a_t_isNeeded a_t_depths a_t_names a_t_out a_t_has t_outs f_t_costs Q (va_A [(a_t, .inr (7, [.ref a_t_v, .ref a_t_past, .ref a_t_costs, .int t_edits, .int t_thrown, .ref a_t_into, .ref a_t_isNeeded, .ref a_t_depths, .ref a_t_names, .ref a_t_out, .int t_outs, .ref a_t_has])), (a_t_v, .inl (ca 0, 206, .inl f_t_v)), (a_t_past, .inl (ca 0, 1648, .inl f_t_past)), (a_t_costs, .inl (ca 0, 3, .inl f_t_costs))] sz)) 0 0 (va_A [(a_t, .inr (7, [.ref a_t_v, .ref a_t_past, .ref a_t_costs, .int t_edits, .int t_thrown, .ref a_t_into, .ref a_t_isNeeded, .ref a_t_depths, .ref a_t_names, .ref a_t_out, .int t_outs, .ref a_t_has])), (a_t_v, .inl (ca 0, 206, .inl f_t_v)), (a_t_past, .inl (ca 0, 1648, .inl f_t_past)), (a_t_costs, .inl (ca 0, 3, .inl f_t_costs))] sz) := by
  refine Met.ofW (cc := cX9_build) (maxL := 3) (ret := (some .int)) (by decide) rfl ?_
  intro p e s m args below meth c s₁ B hml hv
  obtain ⟨rfl, hsz, hP, hK, hD0⟩ := hv
  have hx := B.exec
  have hb := B.bytes
  have hr := B.returns
  have hts := atoms_spec (ws := (Cond.code yX9_build cX9_build 3 (some .int) :: wsG)) B.pre
  have hq : ∀ w ∈ wsG, w.before _ s = true := fun w hw => hts w (List.mem_cons_of_mem _ hw)
  have hown : s.vm.findClass RX9 = some m.cls := findClass_of_methodNamed B.named
  have hlocks := B.notSynchronized
  subst hsz
  have hD := hD0.self (sz := s.heap.size)
  generalize hAe : va_A [(a_t, .inr (7, [.ref a_t_v, .ref a_t_past, .ref a_t_costs, .int t_edits, .int t_thrown, .ref a_t_into, .ref a_t_isNeeded, .ref a_t_depths, .ref a_t_names, .ref a_t_out, .int t_outs, .ref a_t_has])), (a_t_v, .inl (ca 0, 206, .inl f_t_v)), (a_t_past, .inl (ca 0, 1648, .inl f_t_past)), (a_t_costs, .inl (ca 0, 3, .inl f_t_costs))] s.heap.size = A at hD ⊢
  have hA : ∀ q : Nat, s.heap.size ≤ q → A q := fun q h => by rw [← hAe]; exact Or.inr h
  have hS : va_S A s.heap s.heap [] := va_S.rf
  have hP : va_P D vwCl [(a_t, .inr (7, [.ref a_t_v, .ref a_t_past, .ref a_t_costs, .int t_edits, .int t_thrown, .ref a_t_into, .ref a_t_isNeeded, .ref a_t_depths, .ref a_t_names, .ref a_t_out, .int t_outs, .ref a_t_has])), (a_t_v, .inl (ca 0, 206, .inl f_t_v)), (a_t_past, .inl (ca 0, 1648, .inl f_t_past)), (a_t_costs, .inl (ca 0, 3, .inl f_t_costs))] s.heap := hP
  have hl := lv_entry ([.ref a_t, .int x1, .int x2]) (n := 3) (Nat.le_of_ble_eq_true rfl)
  rw [lg_entry_eq]
  generalize (lg_sl ([.ref a_t, .int x1, .int x2]) ++ List.replicate (3 - (lg_sl ([.ref a_t, .int x1, .int x2])).length) Slot.unset).toArray = ls at hl ⊢
  have hl : lv_has ls 3 [(0, .ref a_t), (1, .int x1), (2, .int x2)] := hl
  unfold wX9_build at h
  refine lv_aload_n hx hb dX9_build_0 rfl (lv_at hl 0 rfl) ?_
  refine lv_iconst (v := 0) hx hb dX9_build_1 (by decide) ?_
  refine va_put (D := D) (ci := 7) (v := .int 0) (ty := .int) (C := RX9) (T := TX9) (N := 12) hx hb hq inX9g tyX9 tyX9_ok nmX9 hown hK hP hD hS 0 rfl rfl 4 (by decide) (hq _ q_885) (fun _ h9 => h9) rfl (by decide +kernel) rfl rfl (Nat.le_of_ble_eq_true rfl) dX9_build_2 (fun H locs hP hD hS => ?_)
  have hP : va_P D vwCl [(a_t, .inr (7, [.ref a_t_v, .ref a_t_past, .ref a_t_costs, .int t_edits, .int 0, .ref a_t_into, .ref a_t_isNeeded, .ref a_t_depths, .ref a_t_names, .ref a_t_out, .int t_outs, .ref a_t_has])), (a_t_v, .inl (ca 0, 206, .inl f_t_v)), (a_t_past, .inl (ca 0, 1648, .inl f_t_past)), (a_t_costs, .inl (ca 0, 3, .inl f_t_costs))] H := hP
  have hD : va_D A [(a_t, .inr (7, [.ref a_t_v, .ref a_t_past, .ref a_t_costs, .int t_edits, .int 0, .ref a_t_into, .ref a_t_isNeeded, .ref a_t_depths, .ref a_t_names, .ref a_t_out, .int t_outs, .ref a_t_has])), (a_t_v, .inl (ca 0, 206, .inl f_t_v)), (a_t_past, .inl (ca 0, 1648, .inl f_t_past)), (a_t_costs, .inl (ca 0, 3, .inl f_t_costs))] := hD
  refine lv_aload_n hx hb dX9_build_5 rfl (lv_at hl 0 rfl) ?_
  refine lv_iload_n hx hb dX9_build_6 rfl (lv_at hl 1 rfl) ?_
  refine lv_iload_n hx hb dX9_build_7 rfl (lv_at hl 2 rfl) ?_
  refine lv_i2l hx hb dX9_build_8 rfl ?_
  refine cVi (As := [.int x1, .long x2.toInt64]) (rest := []) (wc := [(a_t, .inr (7, [.ref a_t_v, .ref a_t_past, .ref a_t_costs, .int t_edits, .int 0, .ref a_t_into, .ref a_t_isNeeded, .ref a_t_depths, .ref a_t_names, .ref a_t_out, .int t_outs, .ref a_t_has])), (a_t_v, .inl (ca 0, 206, .inl f_t_v))]) (wr := [(a_t_past, .inl (ca 0, 1648, .inl f_t_past)), (a_t_costs, .inl (ca 0, 3, .inl f_t_costs))]) (w1 := fun _ : Unit => [(a_t, .inr (7, [.ref a_t_v, .ref a_t_past, .ref a_t_costs, .int t_edits, .int 0, .ref a_t_into, .ref a_t_isNeeded, .ref a_t_depths, .ref a_t_names, .ref a_t_out, .int t_outs, .ref a_t_has])), (a_t_v, .inl (ca 0, 206, .inl f_t_v))]) (ws2 := fun _ : Unit => [(a_t, .inr (7, [.ref a_t_v, .ref a_t_past, .ref a_t_costs, .int t_edits, .int 0, .ref a_t_into, .ref a_t_isNeeded, .ref a_t_depths, .ref a_t_names, .ref a_t_out, .int t_outs, .ref a_t_has])), (a_t_v, .inl (ca 0, 206, .inl f_t_v)), (a_t_past, .inl (ca 0, 1648, .inl f_t_past)), (a_t_costs, .inl (ca 0, 3, .inl f_t_costs))]) ⟨hx, hb, hml, hown, hts⟩ (mX9_isTask l D ca a_t a_t_v a_t_past a_t_costs a_t_into a_t_isNeeded a_t_depths a_t_names a_t_out a_t_has _ t_edits 0 t_outs f_t_v x1 x2.toInt64 _ h) (cwV 2 hts (gV q_1022 q_1024 qs_42 q_8 q_1025) rfl rfl rfl (by decide +kernel) ⟨Nat.le_of_ble_eq_true rfl, Nat.le_of_ble_eq_true rfl⟩) hK hP hD hS hA [0, 1] [2, 3] [2, 3, 0, 1] rfl rfl rfl (by decide) (fun _ => rfl) (ci := 7) (q0 := 0) rfl rfl rfl hl.1 rfl (Nat.le_of_ble_eq_true rfl) dX9_build_9 ⟨Nat.le_of_ble_eq_true rfl, Nat.le_of_ble_eq_true rfl⟩ (fun r_9 u9 H locs h hP hD hS => ?_)
  try dsimp only at h
  refine lv_if_ne (tgt := 21) hx hb dX9_build_12 (by decide) (fun c9 => ?_) (fun c9 => ?_)
  · have h := h.2 c9
    refine lv_aload_n hx hb dX9_build_21 rfl (lv_at hl 0 rfl) ?_
    refine cVv (As := []) (rest := []) (wc := [(a_t, .inr (7, [.ref a_t_v, .ref a_t_past, .ref a_t_costs, .int t_edits, .int 0, .ref a_t_into, .ref a_t_isNeeded, .ref a_t_depths, .ref a_t_names, .ref a_t_out, .int t_outs, .ref a_t_has])), (a_t_v, .inl (ca 0, 206, .inl f_t_v)), (a_t_past, .inl (ca 0, 1648, .inl f_t_past))]) (wr := [(a_t_costs, .inl (ca 0, 3, .inl f_t_costs))]) (w1 := fun u : Int32 × (Nat → Int32) => [(a_t, .inr (7, [.ref a_t_v, .ref a_t_past, .ref a_t_costs, .int u.1, .int 0, .ref a_t_into, .ref a_t_isNeeded, .ref a_t_depths, .ref a_t_names, .ref a_t_out, .int t_outs, .ref a_t_has])), (a_t_v, .inl (ca 0, 206, .inl f_t_v)), (a_t_past, .inl (ca 0, 1648, .inl u.2))]) (ws2 := fun u : Int32 × (Nat → Int32) => [(a_t, .inr (7, [.ref a_t_v, .ref a_t_past, .ref a_t_costs, .int u.1, .int 0, .ref a_t_into, .ref a_t_isNeeded, .ref a_t_depths, .ref a_t_names, .ref a_t_out, .int t_outs, .ref a_t_has])), (a_t_v, .inl (ca 0, 206, .inl f_t_v)), (a_t_past, .inl (ca 0, 1648, .inl u.2)), (a_t_costs, .inl (ca 0, 3, .inl f_t_costs))]) ⟨hx, hb, hml, hown, hts⟩ (mX9_edits l D ca a_t a_t_v a_t_past a_t_costs a_t_into a_t_isNeeded a_t_depths a_t_names a_t_out a_t_has _ t_edits 0 t_outs f_t_v f_t_past _ h) (cwV 0 hts (gV q_937 q_939 qs_34 q_8 q_940) rfl rfl rfl (by decide +kernel) ⟨Nat.le_of_ble_eq_true rfl, Nat.le_of_ble_eq_true rfl⟩) hK hP hD hS hA [0, 1, 2] [3] [1, 2, 3, 0] rfl rfl rfl (by decide) (fun _ => rfl) (ci := 7) (q0 := 0) rfl rfl rfl hl.1 rfl (Nat.le_of_ble_eq_true rfl) dX9_build_22 ⟨Nat.le_of_ble_eq_true rfl, Nat.le_of_ble_eq_true rfl⟩ (fun u9 H locs h hP hD hS => ?_)
    obtain ⟨t_edits_22, f_t_past_22⟩ := u9
    have hP : va_P D vwCl [(a_t, .inr (7, [.ref a_t_v, .ref a_t_past, .ref a_t_costs, .int t_edits_22, .int 0, .ref a_t_into, .ref a_t_isNeeded, .ref a_t_depths, .ref a_t_names, .ref a_t_out, .int t_outs, .ref a_t_has])), (a_t_v, .inl (ca 0, 206, .inl f_t_v)), (a_t_past, .inl (ca 0, 1648, .inl f_t_past_22)), (a_t_costs, .inl (ca 0, 3, .inl f_t_costs))] H := hP
    have hD : va_D A [(a_t, .inr (7, [.ref a_t_v, .ref a_t_past, .ref a_t_costs, .int t_edits_22, .int 0, .ref a_t_into, .ref a_t_isNeeded, .ref a_t_depths, .ref a_t_names, .ref a_t_out, .int t_outs, .ref a_t_has])), (a_t_v, .inl (ca 0, 206, .inl f_t_v)), (a_t_past, .inl (ca 0, 1648, .inl f_t_past_22)), (a_t_costs, .inl (ca 0, 3, .inl f_t_costs))] := hD
    try dsimp only at h
    refine lv_aload_n hx hb dX9_build_25 rfl (lv_at hl 0 rfl) ?_
    refine va_get (D := D) (ci := 7) (v := .ref a_t_v) (C := RX9) (T := TX9) (N := 12) hx hb hq inX9g hown hK hP 0 rfl rfl 0 (by decide) (hq _ q_881) (fun _ h9 => h9) rfl dX9_build_26 ?_
    refine lv_iconst (v := 1) hx hb dX9_build_29 (by decide) ?_
    refine lv_iload_n hx hb dX9_build_30 rfl (lv_at hl 1 rfl) ?_
    obtain ⟨hi9, h⟩ := h
    refine va_iast hx hb hK hP hD hS 1 0 rfl rfl hi9 dX9_build_31 (fun H locs hP hD hS => ?_)
    have hP : va_P D vwCl [(a_t, .inr (7, [.ref a_t_v, .ref a_t_past, .ref a_t_costs, .int t_edits_22, .int 0, .ref a_t_into, .ref a_t_isNeeded, .ref a_t_depths, .ref a_t_names, .ref a_t_out, .int t_outs, .ref a_t_has])), (a_t_v, .inl (ca 0, 206, .inl (upd f_t_v (1 : Int32).toNatClampNeg x1))), (a_t_past, .inl (ca 0, 1648, .inl f_t_past_22)), (a_t_costs, .inl (ca 0, 3, .inl f_t_costs))] H := hP
    have hD : va_D A [(a_t, .inr (7, [.ref a_t_v, .ref a_t_past, .ref a_t_costs, .int t_edits_22, .int 0, .ref a_t_into, .ref a_t_isNeeded, .ref a_t_depths, .ref a_t_names, .ref a_t_out, .int t_outs, .ref a_t_has])), (a_t_v, .inl (ca 0, 206, .inl (upd f_t_v (1 : Int32).toNatClampNeg x1))), (a_t_past, .inl (ca 0, 1648, .inl f_t_past_22)), (a_t_costs, .inl (ca 0, 3, .inl f_t_costs))] := hD
    refine lv_aload_n hx hb dX9_build_32 rfl (lv_at hl 0 rfl) ?_
    refine va_get (D := D) (ci := 7) (v := .ref a_t_v) (C := RX9) (T := TX9) (N := 12) hx hb hq inX9g hown hK hP 0 rfl rfl 0 (by decide) (hq _ q_881) (fun _ h9 => h9) rfl dX9_build_33 ?_
    refine lv_iconst (v := 2) hx hb dX9_build_36 (by decide) ?_
    refine lv_iload_n hx hb dX9_build_37 rfl (lv_at hl 2 rfl) ?_
    obtain ⟨hi9, h⟩ := h
    refine va_iast hx hb hK hP hD hS 1 0 rfl rfl hi9 dX9_build_38 (fun H locs hP hD hS => ?_)
    have hP : va_P D vwCl [(a_t, .inr (7, [.ref a_t_v, .ref a_t_past, .ref a_t_costs, .int t_edits_22, .int 0, .ref a_t_into, .ref a_t_isNeeded, .ref a_t_depths, .ref a_t_names, .ref a_t_out, .int t_outs, .ref a_t_has])), (a_t_v, .inl (ca 0, 206, .inl (upd (upd f_t_v (1 : Int32).toNatClampNeg x1) (2 : Int32).toNatClampNeg x2))), (a_t_past, .inl (ca 0, 1648, .inl f_t_past_22)), (a_t_costs, .inl (ca 0, 3, .inl f_t_costs))] H := hP
    have hD : va_D A [(a_t, .inr (7, [.ref a_t_v, .ref a_t_past, .ref a_t_costs, .int t_edits_22, .int 0, .ref a_t_into, .ref a_t_isNeeded, .ref a_t_depths, .ref a_t_names, .ref a_t_out, .int t_outs, .ref a_t_has])), (a_t_v, .inl (ca 0, 206, .inl (upd (upd f_t_v (1 : Int32).toNatClampNeg x1) (2 : Int32).toNatClampNeg x2))), (a_t_past, .inl (ca 0, 1648, .inl f_t_past_22)), (a_t_costs, .inl (ca 0, 3, .inl f_t_costs))] := hD
    refine lv_aload_n hx hb dX9_build_39 rfl (lv_at hl 0 rfl) ?_
    refine va_get (D := D) (ci := 7) (v := .ref a_t_v) (C := RX9) (T := TX9) (N := 12) hx hb hq inX9g hown hK hP 0 rfl rfl 0 (by decide) (hq _ q_881) (fun _ h9 => h9) rfl dX9_build_40 ?_
    refine lv_iconst (v := 3) hx hb dX9_build_43 (by decide) ?_
    refine lv_iconst (v := 0) hx hb dX9_build_44 (by decide) ?_
    obtain ⟨hi9, h⟩ := h
    refine va_iast hx hb hK hP hD hS 1 0 rfl rfl hi9 dX9_build_45 (fun H locs hP hD hS => ?_)
    have hP : va_P D vwCl [(a_t, .inr (7, [.ref a_t_v, .ref a_t_past, .ref a_t_costs, .int t_edits_22, .int 0, .ref a_t_into, .ref a_t_isNeeded, .ref a_t_depths, .ref a_t_names, .ref a_t_out, .int t_outs, .ref a_t_has])), (a_t_v, .inl (ca 0, 206, .inl (upd (upd (upd f_t_v (1 : Int32).toNatClampNeg x1) (2 : Int32).toNatClampNeg x2) (3 : Int32).toNatClampNeg 0))), (a_t_past, .inl (ca 0, 1648, .inl f_t_past_22)), (a_t_costs, .inl (ca 0, 3, .inl f_t_costs))] H := hP
    have hD : va_D A [(a_t, .inr (7, [.ref a_t_v, .ref a_t_past, .ref a_t_costs, .int t_edits_22, .int 0, .ref a_t_into, .ref a_t_isNeeded, .ref a_t_depths, .ref a_t_names, .ref a_t_out, .int t_outs, .ref a_t_has])), (a_t_v, .inl (ca 0, 206, .inl (upd (upd (upd f_t_v (1 : Int32).toNatClampNeg x1) (2 : Int32).toNatClampNeg x2) (3 : Int32).toNatClampNeg 0))), (a_t_past, .inl (ca 0, 1648, .inl f_t_past_22)), (a_t_costs, .inl (ca 0, 3, .inl f_t_costs))] := hD
    refine lv_aload_n hx hb dX9_build_46 rfl (lv_at hl 0 rfl) ?_
    refine va_get (D := D) (ci := 7) (v := .ref a_t_v) (C := RX9) (T := TX9) (N := 12) hx hb hq inX9g hown hK hP 0 rfl rfl 0 (by decide) (hq _ q_881) (fun _ h9 => h9) rfl dX9_build_47 ?_
    refine lv_iconst (v := 4) hx hb dX9_build_50 (by decide) ?_
    refine lv_aload_n hx hb dX9_build_51 rfl (lv_at hl 0 rfl) ?_
    refine lv_iload_n hx hb dX9_build_52 rfl (lv_at hl 1 rfl) ?_
    refine lv_iload_n hx hb dX9_build_53 rfl (lv_at hl 2 rfl) ?_
    refine lv_i2l hx hb dX9_build_54 rfl ?_
    refine cVi (As := [.int x1, .long x2.toInt64]) (rest := [.int 4, .ref a_t_v]) (wc := [(a_t, .inr (7, [.ref a_t_v, .ref a_t_past, .ref a_t_costs, .int t_edits_22, .int 0, .ref a_t_into, .ref a_t_isNeeded, .ref a_t_depths, .ref a_t_names, .ref a_t_out, .int t_outs, .ref a_t_has])), (a_t_v, .inl (ca 0, 206, .inl (upd (upd (upd f_t_v (1 : Int32).toNatClampNeg x1) (2 : Int32).toNatClampNeg x2) (3 : Int32).toNatClampNeg 0))), (a_t_costs, .inl (ca 0, 3, .inl f_t_costs))]) (wr := [(a_t_past, .inl (ca 0, 1648, .inl f_t_past_22))]) (w1 := fun u : (Nat → Int32) => [(a_t, .inr (7, [.ref a_t_v, .ref a_t_past, .ref a_t_costs, .int t_edits_22, .int 0, .ref a_t_into, .ref a_t_isNeeded, .ref a_t_depths, .ref a_t_names, .ref a_t_out, .int t_outs, .ref a_t_has])), (a_t_v, .inl (ca 0, 206, .inl u)), (a_t_costs, .inl (ca 0, 3, .inl f_t_costs))]) (ws2 := fun u : (Nat → Int32) => [(a_t, .inr (7, [.ref a_t_v, .ref a_t_past, .ref a_t_costs, .int t_edits_22, .int 0, .ref a_t_into, .ref a_t_isNeeded, .ref a_t_depths, .ref a_t_names, .ref a_t_out, .int t_outs, .ref a_t_has])), (a_t_v, .inl (ca 0, 206, .inl u)), (a_t_past, .inl (ca 0, 1648, .inl f_t_past_22)), (a_t_costs, .inl (ca 0, 3, .inl f_t_costs))]) ⟨hx, hb, hml, hown, hts⟩ (mX9_writesKind l D ca a_t a_t_v a_t_past a_t_costs a_t_into a_t_isNeeded a_t_depths a_t_names a_t_out a_t_has _ t_edits_22 0 t_outs (upd (upd (upd f_t_v (1 : Int32).toNatClampNeg x1) (2 : Int32).toNatClampNeg x2) (3 : Int32).toNatClampNeg 0) f_t_costs x1 x2.toInt64 _ h) (cwV 2 hts (gV q_1026 q_1028 qs_43 q_8 q_1029) rfl rfl rfl (by decide +kernel) ⟨Nat.le_of_ble_eq_true rfl, Nat.le_of_ble_eq_true rfl⟩) hK hP hD hS hA [0, 1, 3] [2] [1, 2, 0, 3] rfl rfl rfl (by decide) (fun _ => rfl) (ci := 7) (q0 := 0) rfl rfl rfl hl.1 rfl (Nat.le_of_ble_eq_true rfl) dX9_build_55 ⟨Nat.le_of_ble_eq_true rfl, Nat.le_of_ble_eq_true rfl⟩ (fun r_55 u9 H locs h hP hD hS => ?_)
    obtain ⟨f_t_v_55, rfl⟩ : ∃ z, z = u9 := ⟨_, rfl⟩
    have hP : va_P D vwCl [(a_t, .inr (7, [.ref a_t_v, .ref a_t_past, .ref a_t_costs, .int t_edits_22, .int 0, .ref a_t_into, .ref a_t_isNeeded, .ref a_t_depths, .ref a_t_names, .ref a_t_out, .int t_outs, .ref a_t_has])), (a_t_v, .inl (ca 0, 206, .inl f_t_v_55)), (a_t_past, .inl (ca 0, 1648, .inl f_t_past_22)), (a_t_costs, .inl (ca 0, 3, .inl f_t_costs))] H := hP
    have hD : va_D A [(a_t, .inr (7, [.ref a_t_v, .ref a_t_past, .ref a_t_costs, .int t_edits_22, .int 0, .ref a_t_into, .ref a_t_isNeeded, .ref a_t_depths, .ref a_t_names, .ref a_t_out, .int t_outs, .ref a_t_has])), (a_t_v, .inl (ca 0, 206, .inl f_t_v_55)), (a_t_past, .inl (ca 0, 1648, .inl f_t_past_22)), (a_t_costs, .inl (ca 0, 3, .inl f_t_costs))] := hD
    try dsimp only at h
    obtain ⟨hi9, h⟩ := h
    refine va_iast hx hb hK hP hD hS 1 0 rfl rfl hi9 dX9_build_58 (fun H locs hP hD hS => ?_)
    have hP : va_P D vwCl [(a_t, .inr (7, [.ref a_t_v, .ref a_t_past, .ref a_t_costs, .int t_edits_22, .int 0, .ref a_t_into, .ref a_t_isNeeded, .ref a_t_depths, .ref a_t_names, .ref a_t_out, .int t_outs, .ref a_t_has])), (a_t_v, .inl (ca 0, 206, .inl (upd f_t_v_55 (4 : Int32).toNatClampNeg r_55))), (a_t_past, .inl (ca 0, 1648, .inl f_t_past_22)), (a_t_costs, .inl (ca 0, 3, .inl f_t_costs))] H := hP
    have hD : va_D A [(a_t, .inr (7, [.ref a_t_v, .ref a_t_past, .ref a_t_costs, .int t_edits_22, .int 0, .ref a_t_into, .ref a_t_isNeeded, .ref a_t_depths, .ref a_t_names, .ref a_t_out, .int t_outs, .ref a_t_has])), (a_t_v, .inl (ca 0, 206, .inl (upd f_t_v_55 (4 : Int32).toNatClampNeg r_55))), (a_t_past, .inl (ca 0, 1648, .inl f_t_past_22)), (a_t_costs, .inl (ca 0, 3, .inl f_t_costs))] := hD
    refine lv_aload_n hx hb dX9_build_59 rfl (lv_at hl 0 rfl) ?_
    refine va_get (D := D) (ci := 7) (v := .ref a_t_v) (C := RX9) (T := TX9) (N := 12) hx hb hq inX9g hown hK hP 0 rfl rfl 0 (by decide) (hq _ q_881) (fun _ h9 => h9) rfl dX9_build_60 ?_
    refine lv_iconst (v := 3) hx hb dX9_build_63 (by decide) ?_
    obtain ⟨hi9, h⟩ := h
    refine va_iald hx hb hK hP 1 0 rfl rfl hi9 dX9_build_64 ?_
    exact W.iret (v := (upd f_t_v_55 (4 : Int32).toNatClampNeg r_55) (3 : Int32).toNatClampNeg) hx hb hr (fun t ht hW => ⟨⟨(upd f_t_v_55 (4 : Int32).toNatClampNeg r_55) (3 : Int32).toNatClampNeg, (t_edits_22, 0, upd f_t_v_55 (4 : Int32).toNatClampNeg r_55, f_t_past_22), rfl, h, by rw [ht]; exact hP, va_K.moved hW.alike hK, hD⟩, hS.F ht⟩) hS.2.2 dX9_build_65
  · have h := h.1 c9
    refine lv_aload_n hx hb dX9_build_15 rfl (lv_at hl 0 rfl) ?_
    refine lv_iconst (v := 1) hx hb dX9_build_16 (by decide) ?_
    refine cVi (As := [.int 1]) (rest := []) (wc := [(a_t, .inr (7, [.ref a_t_v, .ref a_t_past, .ref a_t_costs, .int t_edits, .int 0, .ref a_t_into, .ref a_t_isNeeded, .ref a_t_depths, .ref a_t_names, .ref a_t_out, .int t_outs, .ref a_t_has]))]) (wr := [(a_t_v, .inl (ca 0, 206, .inl f_t_v)), (a_t_past, .inl (ca 0, 1648, .inl f_t_past)), (a_t_costs, .inl (ca 0, 3, .inl f_t_costs))]) (w1 := fun u : Int32 => [(a_t, .inr (7, [.ref a_t_v, .ref a_t_past, .ref a_t_costs, .int t_edits, .int u, .ref a_t_into, .ref a_t_isNeeded, .ref a_t_depths, .ref a_t_names, .ref a_t_out, .int t_outs, .ref a_t_has]))]) (ws2 := fun u : Int32 => [(a_t, .inr (7, [.ref a_t_v, .ref a_t_past, .ref a_t_costs, .int t_edits, .int u, .ref a_t_into, .ref a_t_isNeeded, .ref a_t_depths, .ref a_t_names, .ref a_t_out, .int t_outs, .ref a_t_has])), (a_t_v, .inl (ca 0, 206, .inl f_t_v)), (a_t_past, .inl (ca 0, 1648, .inl f_t_past)), (a_t_costs, .inl (ca 0, 3, .inl f_t_costs))]) ⟨hx, hb, hml, hown, hts⟩ (mX9_fails l D ca a_t a_t_v a_t_past a_t_costs a_t_into a_t_isNeeded a_t_depths a_t_names a_t_out a_t_has _ t_edits 0 t_outs 1 _ h) (cwV 1 hts (gV q_933 q_935 qs_33 q_8 q_936) rfl rfl rfl (by decide +kernel) ⟨Nat.le_of_ble_eq_true rfl, Nat.le_of_ble_eq_true rfl⟩) hK hP hD hS hA [0] [1, 2, 3] [3, 0, 1, 2] rfl rfl rfl (by decide) (fun _ => rfl) (ci := 7) (q0 := 0) rfl rfl rfl hl.1 rfl (Nat.le_of_ble_eq_true rfl) dX9_build_17 ⟨Nat.le_of_ble_eq_true rfl, Nat.le_of_ble_eq_true rfl⟩ (fun r_17 u9 H locs h hP hD hS => ?_)
    obtain ⟨t_thrown_17, rfl⟩ : ∃ z, z = u9 := ⟨_, rfl⟩
    have hP : va_P D vwCl [(a_t, .inr (7, [.ref a_t_v, .ref a_t_past, .ref a_t_costs, .int t_edits, .int t_thrown_17, .ref a_t_into, .ref a_t_isNeeded, .ref a_t_depths, .ref a_t_names, .ref a_t_out, .int t_outs, .ref a_t_has])), (a_t_v, .inl (ca 0, 206, .inl f_t_v)), (a_t_past, .inl (ca 0, 1648, .inl f_t_past)), (a_t_costs, .inl (ca 0, 3, .inl f_t_costs))] H := hP
    have hD : va_D A [(a_t, .inr (7, [.ref a_t_v, .ref a_t_past, .ref a_t_costs, .int t_edits, .int t_thrown_17, .ref a_t_into, .ref a_t_isNeeded, .ref a_t_depths, .ref a_t_names, .ref a_t_out, .int t_outs, .ref a_t_has])), (a_t_v, .inl (ca 0, 206, .inl f_t_v)), (a_t_past, .inl (ca 0, 1648, .inl f_t_past)), (a_t_costs, .inl (ca 0, 3, .inl f_t_costs))] := hD
    try dsimp only at h
    exact W.iret (v := r_17) hx hb hr (fun t ht hW => ⟨⟨r_17, (t_edits, t_thrown_17, f_t_v, f_t_past), rfl, h, by rw [ht]; exact hP, va_K.moved hW.alike hK, hD⟩, hS.F ht⟩) hS.2.2 dX9_build_20

abbrev qX9_setTask (D : va_G) (ca : Nat → ClassId) (a_t a_t_v a_t_past a_t_costs a_t_into a_t_isNeeded a_t_depths a_t_names a_t_out a_t_has : Nat) (t_outs : Int32) (Q : Int32 → Int32 → Int32 → (Nat → Int32) → (Nat → Int32) → Prop) (A : Nat → Prop) : Array Value → State → Outcome → State → Prop := va_Qi (fun (r : Int32) (u : Int32 × Int32 × (Nat → Int32) × (Nat → Int32)) => Q r u.1 u.2.1 u.2.2.1 u.2.2.2) (wEnd D ca (fun u : Int32 × Int32 × (Nat → Int32) × (Nat → Int32) => [(a_t, .inr (7, [.ref a_t_v, .ref a_t_past, .ref a_t_costs, .int u.1, .int u.2.1, .ref a_t_into, .ref a_t_isNeeded, .ref a_t_depths, .ref a_t_names, .ref a_t_out, .int t_outs, .ref a_t_has])), (a_t_v, .inl (ca 0, 206, .inl u.2.2.1)), (a_t_past, .inl (ca 0, 1648, .inl u.2.2.2))]) A) A
def wX9_setTask (t_edits : Int32) (t_thrown : Int32) (f_t_v : Nat → Int32) (f_t_past : Nat → Int32) (x1 : Int32) (x2 : Int32) (Q : Int32 → Int32 → Int32 → (Nat → Int32) → (Nat → Int32) → Prop) : Prop :=
  wX9_isTask f_t_v x1 x2.toInt64 (fun r_9 => ((r_9 = 0 → wX9_fails 0 1 (fun r_17 t_thrown_17 => Q r_17 t_edits t_thrown_17 f_t_v f_t_past)) ∧ (¬ r_9 = 0 → wX9_edits t_edits f_t_v f_t_past (fun t_edits_22 f_t_past_22 => (vp_in 1 206 ∧ (∀ x3_31 : Int32, x3_31 = f_t_v (1 : Int32).toNatClampNeg → (vp_in 1 206 ∧ (vp_in 2 206 ∧ Q x3_31 t_edits_22 0 (upd (upd f_t_v (1 : Int32).toNatClampNeg x1) (2 : Int32).toNatClampNeg x2) f_t_past_22))))))))
set_option maxHeartbeats 4000000 in
set_option maxRecDepth 100000 in
theorem mX9_setTask (l : Launch) (D : va_G) (ca : Nat → ClassId) (a_t a_t_v a_t_past a_t_costs a_t_into a_t_isNeeded a_t_depths a_t_names a_t_out a_t_has : Nat) (sz : Nat) (t_edits : Int32) (t_thrown : Int32) (t_outs : Int32) (f_t_v : Nat → Int32) (f_t_past : Nat → Int32) (x1 : Int32) (x2 : Int32) (Q : Int32 → Int32 → Int32 → (Nat → Int32) → (Nat → Int32) → Prop) (h : wX9_setTask t_edits t_thrown f_t_v f_t_past x1 x2 Q) : Met l yX9_setTask (Cond.code yX9_setTask cX9_setTask 4 (some .int) :: wsG) ({ frames := 3, cells := 0, slots := 0, locals := 63 } : Room) (va_Pc [.ref a_t, .int x1, .int x2] (wPre D ca [(a_t, .inr (7, [.ref a_t_v, .ref a_t_past, .ref a_t_costs, .int t_edits, .int t_thrown, .ref a_t_into, .ref a_t_isNeeded, .ref a_t_depths, .ref a_t_names, .ref a_t_out, .int t_outs, .ref a_t_has])), (a_t_v, .inl (ca 0, 206, .inl f_t_v)), (a_t_past, .inl (ca 0, 1648, .inl f_t_past))] sz)) (qX9_setTask D ca a_t a_t_v a_t_past a_t_costs a_t_into a_t_isNeeded a_t_depths a_t_names a_t_out a_t_has t_outs Q (va_A [(a_t, .inr (7, [.ref a_t_v, .ref a_t_past, .ref a_t_costs, .int t_edits, .int t_thrown, .ref a_t_into, .ref a_t_isNeeded, .ref a_t_depths, .ref a_t_names, .ref a_t_out, .int t_outs, .ref a_t_has])), (a_t_v, .inl (ca 0, 206, .inl f_t_v)), (a_t_past, .inl (ca 0, 1648, .inl f_t_past))] sz)) 0 0 (va_A [(a_t, .inr (7, [.ref a_t_v, .ref a_t_past, .ref a_t_costs, .int t_edits, .int t_thrown, .ref a_t_into, .ref a_t_isNeeded, .ref a_t_depths, .ref a_t_names, .ref a_t_out, .int t_outs, .ref a_t_has])), (a_t_v, .inl (ca 0, 206, .inl f_t_v)), (a_t_past, .inl (ca 0, 1648, .inl f_t_past))] sz) := by
  refine Met.ofW (cc := cX9_setTask) (maxL := 4) (ret := (some .int)) (by decide) rfl ?_
  intro p e s m args below meth c s₁ B hml hv
  obtain ⟨rfl, hsz, hP, hK, hD0⟩ := hv
  have hx := B.exec
  have hb := B.bytes
  have hr := B.returns
  have hts := atoms_spec (ws := (Cond.code yX9_setTask cX9_setTask 4 (some .int) :: wsG)) B.pre
  have hq : ∀ w ∈ wsG, w.before _ s = true := fun w hw => hts w (List.mem_cons_of_mem _ hw)
  have hown : s.vm.findClass RX9 = some m.cls := findClass_of_methodNamed B.named
  have hlocks := B.notSynchronized
  subst hsz
  have hD := hD0.self (sz := s.heap.size)
  generalize hAe : va_A [(a_t, .inr (7, [.ref a_t_v, .ref a_t_past, .ref a_t_costs, .int t_edits, .int t_thrown, .ref a_t_into, .ref a_t_isNeeded, .ref a_t_depths, .ref a_t_names, .ref a_t_out, .int t_outs, .ref a_t_has])), (a_t_v, .inl (ca 0, 206, .inl f_t_v)), (a_t_past, .inl (ca 0, 1648, .inl f_t_past))] s.heap.size = A at hD ⊢
  have hA : ∀ q : Nat, s.heap.size ≤ q → A q := fun q h => by rw [← hAe]; exact Or.inr h
  have hS : va_S A s.heap s.heap [] := va_S.rf
  have hP : va_P D vwCl [(a_t, .inr (7, [.ref a_t_v, .ref a_t_past, .ref a_t_costs, .int t_edits, .int t_thrown, .ref a_t_into, .ref a_t_isNeeded, .ref a_t_depths, .ref a_t_names, .ref a_t_out, .int t_outs, .ref a_t_has])), (a_t_v, .inl (ca 0, 206, .inl f_t_v)), (a_t_past, .inl (ca 0, 1648, .inl f_t_past))] s.heap := hP
  have hl := lv_entry ([.ref a_t, .int x1, .int x2]) (n := 4) (Nat.le_of_ble_eq_true rfl)
  rw [lg_entry_eq]
  generalize (lg_sl ([.ref a_t, .int x1, .int x2]) ++ List.replicate (4 - (lg_sl ([.ref a_t, .int x1, .int x2])).length) Slot.unset).toArray = ls at hl ⊢
  have hl : lv_has ls 4 [(0, .ref a_t), (1, .int x1), (2, .int x2)] := hl
  unfold wX9_setTask at h
  refine lv_aload_n hx hb dX9_setTask_0 rfl (lv_at hl 0 rfl) ?_
  refine lv_iconst (v := 0) hx hb dX9_setTask_1 (by decide) ?_
  refine va_put (D := D) (ci := 7) (v := .int 0) (ty := .int) (C := RX9) (T := TX9) (N := 12) hx hb hq inX9g tyX9 tyX9_ok nmX9 hown hK hP hD hS 0 rfl rfl 4 (by decide) (hq _ q_885) (fun _ h9 => h9) rfl (by decide +kernel) rfl rfl (Nat.le_of_ble_eq_true rfl) dX9_setTask_2 (fun H locs hP hD hS => ?_)
  have hP : va_P D vwCl [(a_t, .inr (7, [.ref a_t_v, .ref a_t_past, .ref a_t_costs, .int t_edits, .int 0, .ref a_t_into, .ref a_t_isNeeded, .ref a_t_depths, .ref a_t_names, .ref a_t_out, .int t_outs, .ref a_t_has])), (a_t_v, .inl (ca 0, 206, .inl f_t_v)), (a_t_past, .inl (ca 0, 1648, .inl f_t_past))] H := hP
  have hD : va_D A [(a_t, .inr (7, [.ref a_t_v, .ref a_t_past, .ref a_t_costs, .int t_edits, .int 0, .ref a_t_into, .ref a_t_isNeeded, .ref a_t_depths, .ref a_t_names, .ref a_t_out, .int t_outs, .ref a_t_has])), (a_t_v, .inl (ca 0, 206, .inl f_t_v)), (a_t_past, .inl (ca 0, 1648, .inl f_t_past))] := hD
  refine lv_aload_n hx hb dX9_setTask_5 rfl (lv_at hl 0 rfl) ?_
  refine lv_iload_n hx hb dX9_setTask_6 rfl (lv_at hl 1 rfl) ?_
  refine lv_iload_n hx hb dX9_setTask_7 rfl (lv_at hl 2 rfl) ?_
  refine lv_i2l hx hb dX9_setTask_8 rfl ?_
  refine cVi (As := [.int x1, .long x2.toInt64]) (rest := []) (wc := [(a_t, .inr (7, [.ref a_t_v, .ref a_t_past, .ref a_t_costs, .int t_edits, .int 0, .ref a_t_into, .ref a_t_isNeeded, .ref a_t_depths, .ref a_t_names, .ref a_t_out, .int t_outs, .ref a_t_has])), (a_t_v, .inl (ca 0, 206, .inl f_t_v))]) (wr := [(a_t_past, .inl (ca 0, 1648, .inl f_t_past))]) (w1 := fun _ : Unit => [(a_t, .inr (7, [.ref a_t_v, .ref a_t_past, .ref a_t_costs, .int t_edits, .int 0, .ref a_t_into, .ref a_t_isNeeded, .ref a_t_depths, .ref a_t_names, .ref a_t_out, .int t_outs, .ref a_t_has])), (a_t_v, .inl (ca 0, 206, .inl f_t_v))]) (ws2 := fun _ : Unit => [(a_t, .inr (7, [.ref a_t_v, .ref a_t_past, .ref a_t_costs, .int t_edits, .int 0, .ref a_t_into, .ref a_t_isNeeded, .ref a_t_depths, .ref a_t_names, .ref a_t_out, .int t_outs, .ref a_t_has])), (a_t_v, .inl (ca 0, 206, .inl f_t_v)), (a_t_past, .inl (ca 0, 1648, .inl f_t_past))]) ⟨hx, hb, hml, hown, hts⟩ (mX9_isTask l D ca a_t a_t_v a_t_past a_t_costs a_t_into a_t_isNeeded a_t_depths a_t_names a_t_out a_t_has _ t_edits 0 t_outs f_t_v x1 x2.toInt64 _ h) (cwV 2 hts (gV q_1022 q_1024 qs_42 q_8 q_1025) rfl rfl rfl (by decide +kernel) ⟨Nat.le_of_ble_eq_true rfl, Nat.le_of_ble_eq_true rfl⟩) hK hP hD hS hA [0, 1] [2] [1, 2, 0] rfl rfl rfl (by decide) (fun _ => rfl) (ci := 7) (q0 := 0) rfl rfl rfl hl.1 rfl (Nat.le_of_ble_eq_true rfl) dX9_setTask_9 ⟨Nat.le_of_ble_eq_true rfl, Nat.le_of_ble_eq_true rfl⟩ (fun r_9 u9 H locs h hP hD hS => ?_)
  try dsimp only at h
  refine lv_if_ne (tgt := 21) hx hb dX9_setTask_12 (by decide) (fun c9 => ?_) (fun c9 => ?_)
  · have h := h.2 c9
    refine lv_aload_n hx hb dX9_setTask_21 rfl (lv_at hl 0 rfl) ?_
    refine cVv (As := []) (rest := []) (wc := [(a_t, .inr (7, [.ref a_t_v, .ref a_t_past, .ref a_t_costs, .int t_edits, .int 0, .ref a_t_into, .ref a_t_isNeeded, .ref a_t_depths, .ref a_t_names, .ref a_t_out, .int t_outs, .ref a_t_has])), (a_t_v, .inl (ca 0, 206, .inl f_t_v)), (a_t_past, .inl (ca 0, 1648, .inl f_t_past))]) (wr := []) (w1 := fun u : Int32 × (Nat → Int32) => [(a_t, .inr (7, [.ref a_t_v, .ref a_t_past, .ref a_t_costs, .int u.1, .int 0, .ref a_t_into, .ref a_t_isNeeded, .ref a_t_depths, .ref a_t_names, .ref a_t_out, .int t_outs, .ref a_t_has])), (a_t_v, .inl (ca 0, 206, .inl f_t_v)), (a_t_past, .inl (ca 0, 1648, .inl u.2))]) (ws2 := fun u : Int32 × (Nat → Int32) => [(a_t, .inr (7, [.ref a_t_v, .ref a_t_past, .ref a_t_costs, .int u.1, .int 0, .ref a_t_into, .ref a_t_isNeeded, .ref a_t_depths, .ref a_t_names, .ref a_t_out, .int t_outs, .ref a_t_has])), (a_t_v, .inl (ca 0, 206, .inl f_t_v)), (a_t_past, .inl (ca 0, 1648, .inl u.2))]) ⟨hx, hb, hml, hown, hts⟩ (mX9_edits l D ca a_t a_t_v a_t_past a_t_costs a_t_into a_t_isNeeded a_t_depths a_t_names a_t_out a_t_has _ t_edits 0 t_outs f_t_v f_t_past _ h) (cwV 0 hts (gV q_937 q_939 qs_34 q_8 q_940) rfl rfl rfl (by decide +kernel) ⟨Nat.le_of_ble_eq_true rfl, Nat.le_of_ble_eq_true rfl⟩) hK hP hD hS hA [0, 1, 2] [] [0, 1, 2] rfl rfl rfl (by decide) (fun _ => rfl) (ci := 7) (q0 := 0) rfl rfl rfl hl.1 rfl (Nat.le_of_ble_eq_true rfl) dX9_setTask_22 ⟨Nat.le_of_ble_eq_true rfl, Nat.le_of_ble_eq_true rfl⟩ (fun u9 H locs h hP hD hS => ?_)
    obtain ⟨t_edits_22, f_t_past_22⟩ := u9
    have hP : va_P D vwCl [(a_t, .inr (7, [.ref a_t_v, .ref a_t_past, .ref a_t_costs, .int t_edits_22, .int 0, .ref a_t_into, .ref a_t_isNeeded, .ref a_t_depths, .ref a_t_names, .ref a_t_out, .int t_outs, .ref a_t_has])), (a_t_v, .inl (ca 0, 206, .inl f_t_v)), (a_t_past, .inl (ca 0, 1648, .inl f_t_past_22))] H := hP
    have hD : va_D A [(a_t, .inr (7, [.ref a_t_v, .ref a_t_past, .ref a_t_costs, .int t_edits_22, .int 0, .ref a_t_into, .ref a_t_isNeeded, .ref a_t_depths, .ref a_t_names, .ref a_t_out, .int t_outs, .ref a_t_has])), (a_t_v, .inl (ca 0, 206, .inl f_t_v)), (a_t_past, .inl (ca 0, 1648, .inl f_t_past_22))] := hD
    try dsimp only at h
    refine lv_aload_n hx hb dX9_setTask_25 rfl (lv_at hl 0 rfl) ?_
    refine va_get (D := D) (ci := 7) (v := .ref a_t_v) (C := RX9) (T := TX9) (N := 12) hx hb hq inX9g hown hK hP 0 rfl rfl 0 (by decide) (hq _ q_881) (fun _ h9 => h9) rfl dX9_setTask_26 ?_
    refine lv_iconst (v := 1) hx hb dX9_setTask_29 (by decide) ?_
    obtain ⟨hi9, h⟩ := h
    refine va_iald hx hb hK hP 1 0 rfl rfl hi9 dX9_setTask_30 ?_
    refine lv_topi (fun x3_31 ex3_31 => ?_)
    have h := h x3_31 ex3_31
    refine lv_istore_n (lv' := [(3, .int x3_31), (0, .ref a_t), (1, .int x1), (2, .int x2)]) hx hb dX9_setTask_31 rfl hl (by decide) rfl (fun ls hl => ?_)
    refine lv_aload_n hx hb dX9_setTask_32 rfl (lv_at hl 1 rfl) ?_
    refine va_get (D := D) (ci := 7) (v := .ref a_t_v) (C := RX9) (T := TX9) (N := 12) hx hb hq inX9g hown hK hP 0 rfl rfl 0 (by decide) (hq _ q_881) (fun _ h9 => h9) rfl dX9_setTask_33 ?_
    refine lv_iconst (v := 1) hx hb dX9_setTask_36 (by decide) ?_
    refine lv_iload_n hx hb dX9_setTask_37 rfl (lv_at hl 2 rfl) ?_
    obtain ⟨hi9, h⟩ := h
    refine va_iast hx hb hK hP hD hS 1 0 rfl rfl hi9 dX9_setTask_38 (fun H locs hP hD hS => ?_)
    have hP : va_P D vwCl [(a_t, .inr (7, [.ref a_t_v, .ref a_t_past, .ref a_t_costs, .int t_edits_22, .int 0, .ref a_t_into, .ref a_t_isNeeded, .ref a_t_depths, .ref a_t_names, .ref a_t_out, .int t_outs, .ref a_t_has])), (a_t_v, .inl (ca 0, 206, .inl (upd f_t_v (1 : Int32).toNatClampNeg x1))), (a_t_past, .inl (ca 0, 1648, .inl f_t_past_22))] H := hP
    have hD : va_D A [(a_t, .inr (7, [.ref a_t_v, .ref a_t_past, .ref a_t_costs, .int t_edits_22, .int 0, .ref a_t_into, .ref a_t_isNeeded, .ref a_t_depths, .ref a_t_names, .ref a_t_out, .int t_outs, .ref a_t_has])), (a_t_v, .inl (ca 0, 206, .inl (upd f_t_v (1 : Int32).toNatClampNeg x1))), (a_t_past, .inl (ca 0, 1648, .inl f_t_past_22))] := hD
    refine lv_aload_n hx hb dX9_setTask_39 rfl (lv_at hl 1 rfl) ?_
    refine va_get (D := D) (ci := 7) (v := .ref a_t_v) (C := RX9) (T := TX9) (N := 12) hx hb hq inX9g hown hK hP 0 rfl rfl 0 (by decide) (hq _ q_881) (fun _ h9 => h9) rfl dX9_setTask_40 ?_
    refine lv_iconst (v := 2) hx hb dX9_setTask_43 (by decide) ?_
    refine lv_iload_n hx hb dX9_setTask_44 rfl (lv_at hl 3 rfl) ?_
    obtain ⟨hi9, h⟩ := h
    refine va_iast hx hb hK hP hD hS 1 0 rfl rfl hi9 dX9_setTask_45 (fun H locs hP hD hS => ?_)
    have hP : va_P D vwCl [(a_t, .inr (7, [.ref a_t_v, .ref a_t_past, .ref a_t_costs, .int t_edits_22, .int 0, .ref a_t_into, .ref a_t_isNeeded, .ref a_t_depths, .ref a_t_names, .ref a_t_out, .int t_outs, .ref a_t_has])), (a_t_v, .inl (ca 0, 206, .inl (upd (upd f_t_v (1 : Int32).toNatClampNeg x1) (2 : Int32).toNatClampNeg x2))), (a_t_past, .inl (ca 0, 1648, .inl f_t_past_22))] H := hP
    have hD : va_D A [(a_t, .inr (7, [.ref a_t_v, .ref a_t_past, .ref a_t_costs, .int t_edits_22, .int 0, .ref a_t_into, .ref a_t_isNeeded, .ref a_t_depths, .ref a_t_names, .ref a_t_out, .int t_outs, .ref a_t_has])), (a_t_v, .inl (ca 0, 206, .inl (upd (upd f_t_v (1 : Int32).toNatClampNeg x1) (2 : Int32).toNatClampNeg x2))), (a_t_past, .inl (ca 0, 1648, .inl f_t_past_22))] := hD
    refine lv_iload_n hx hb dX9_setTask_46 rfl (lv_at hl 0 rfl) ?_
    exact W.iret (v := x3_31) hx hb hr (fun t ht hW => ⟨⟨x3_31, (t_edits_22, 0, upd (upd f_t_v (1 : Int32).toNatClampNeg x1) (2 : Int32).toNatClampNeg x2, f_t_past_22), rfl, h, by rw [ht]; exact hP, va_K.moved hW.alike hK, hD⟩, hS.F ht⟩) hS.2.2 dX9_setTask_47
  · have h := h.1 c9
    refine lv_aload_n hx hb dX9_setTask_15 rfl (lv_at hl 0 rfl) ?_
    refine lv_iconst (v := 1) hx hb dX9_setTask_16 (by decide) ?_
    refine cVi (As := [.int 1]) (rest := []) (wc := [(a_t, .inr (7, [.ref a_t_v, .ref a_t_past, .ref a_t_costs, .int t_edits, .int 0, .ref a_t_into, .ref a_t_isNeeded, .ref a_t_depths, .ref a_t_names, .ref a_t_out, .int t_outs, .ref a_t_has]))]) (wr := [(a_t_v, .inl (ca 0, 206, .inl f_t_v)), (a_t_past, .inl (ca 0, 1648, .inl f_t_past))]) (w1 := fun u : Int32 => [(a_t, .inr (7, [.ref a_t_v, .ref a_t_past, .ref a_t_costs, .int t_edits, .int u, .ref a_t_into, .ref a_t_isNeeded, .ref a_t_depths, .ref a_t_names, .ref a_t_out, .int t_outs, .ref a_t_has]))]) (ws2 := fun u : Int32 => [(a_t, .inr (7, [.ref a_t_v, .ref a_t_past, .ref a_t_costs, .int t_edits, .int u, .ref a_t_into, .ref a_t_isNeeded, .ref a_t_depths, .ref a_t_names, .ref a_t_out, .int t_outs, .ref a_t_has])), (a_t_v, .inl (ca 0, 206, .inl f_t_v)), (a_t_past, .inl (ca 0, 1648, .inl f_t_past))]) ⟨hx, hb, hml, hown, hts⟩ (mX9_fails l D ca a_t a_t_v a_t_past a_t_costs a_t_into a_t_isNeeded a_t_depths a_t_names a_t_out a_t_has _ t_edits 0 t_outs 1 _ h) (cwV 1 hts (gV q_933 q_935 qs_33 q_8 q_936) rfl rfl rfl (by decide +kernel) ⟨Nat.le_of_ble_eq_true rfl, Nat.le_of_ble_eq_true rfl⟩) hK hP hD hS hA [0] [1, 2] [2, 0, 1] rfl rfl rfl (by decide) (fun _ => rfl) (ci := 7) (q0 := 0) rfl rfl rfl hl.1 rfl (Nat.le_of_ble_eq_true rfl) dX9_setTask_17 ⟨Nat.le_of_ble_eq_true rfl, Nat.le_of_ble_eq_true rfl⟩ (fun r_17 u9 H locs h hP hD hS => ?_)
    obtain ⟨t_thrown_17, rfl⟩ : ∃ z, z = u9 := ⟨_, rfl⟩
    have hP : va_P D vwCl [(a_t, .inr (7, [.ref a_t_v, .ref a_t_past, .ref a_t_costs, .int t_edits, .int t_thrown_17, .ref a_t_into, .ref a_t_isNeeded, .ref a_t_depths, .ref a_t_names, .ref a_t_out, .int t_outs, .ref a_t_has])), (a_t_v, .inl (ca 0, 206, .inl f_t_v)), (a_t_past, .inl (ca 0, 1648, .inl f_t_past))] H := hP
    have hD : va_D A [(a_t, .inr (7, [.ref a_t_v, .ref a_t_past, .ref a_t_costs, .int t_edits, .int t_thrown_17, .ref a_t_into, .ref a_t_isNeeded, .ref a_t_depths, .ref a_t_names, .ref a_t_out, .int t_outs, .ref a_t_has])), (a_t_v, .inl (ca 0, 206, .inl f_t_v)), (a_t_past, .inl (ca 0, 1648, .inl f_t_past))] := hD
    try dsimp only at h
    exact W.iret (v := r_17) hx hb hr (fun t ht hW => ⟨⟨r_17, (t_edits, t_thrown_17, f_t_v, f_t_past), rfl, h, by rw [ht]; exact hP, va_K.moved hW.alike hK, hD⟩, hS.F ht⟩) hS.2.2 dX9_setTask_20

def wX9_isShift (x0 : Int32) (Q : Int32 → Prop) : Prop :=
  ((x0 ≤ 2 → Q 1) ∧ (¬ x0 ≤ 2 → ((x0 = 10 → Q 1) ∧ (¬ x0 = 10 → Q 0))))
set_option maxHeartbeats 4000000 in
set_option maxRecDepth 100000 in
theorem mX9_isShift (l : Launch) (x0 : Int32) (Q : Int32 → Prop) (h : wX9_isShift x0 Q) : Met l yX9_isShift (Cond.code yX9_isShift cX9_isShift 1 (some .boolean) :: wsG) ({ frames := 0, cells := 0, slots := 0, locals := 0 } : Room) (va_Pc [.int x0] (fun _ => True)) (va_Qi (fun (r : Int32) (_ : Unit) => Q r) (fun _ _ => True) (fun _ => False)) 0 0 (fun _ => False) := by
  refine Met.ofW (cc := cX9_isShift) (maxL := 1) (ret := (some .boolean)) (by decide) rfl ?_
  intro p e s m args below meth c s₁ B hml hv
  obtain ⟨rfl, -⟩ := hv
  have hx := B.exec
  have hb := B.bytes
  have hr := B.returns
  have hts := atoms_spec (ws := (Cond.code yX9_isShift cX9_isShift 1 (some .boolean) :: wsG)) B.pre
  have hq : ∀ w ∈ wsG, w.before _ s = true := fun w hw => hts w (List.mem_cons_of_mem _ hw)
  have hown : s.vm.findClass RX9 = some m.cls := findClass_of_methodNamed B.named
  have hlocks := B.notSynchronized
  have hS : va_S (fun _ : Nat => False) s.heap s.heap [] := va_S.rf
  have hl := lv_entry ([.int x0]) (n := 1) (Nat.le_of_ble_eq_true rfl)
  rw [lg_entry_eq]
  generalize (lg_sl ([.int x0]) ++ List.replicate (1 - (lg_sl ([.int x0])).length) Slot.unset).toArray = ls at hl ⊢
  have hl : lv_has ls 1 [(0, .int x0)] := hl
  unfold wX9_isShift at h
  refine lv_iload_n hx hb dX9_isShift_0 rfl (lv_at hl 0 rfl) ?_
  refine lv_iconst (v := 2) hx hb dX9_isShift_1 (by decide) ?_
  refine lv_icmp_le (tgt := 11) hx hb dX9_isShift_2 (by decide) (fun c9 => ?_) (fun c9 => ?_)
  · have h := h.1 c9
    refine lv_iconst (v := 1) hx hb dX9_isShift_11 (by decide) ?_
    refine lv_goto (tgt := 16) hx hb dX9_isShift_12 (by decide) ?_
    exact W.zret (v := 1) hx hb hr rfl (fun t ht hW => ⟨⟨1, (), rfl, h, trivial⟩, hS.F ht⟩) hS.2.2 dX9_isShift_16
  · have h := h.2 c9
    refine lv_iload_n hx hb dX9_isShift_5 rfl (lv_at hl 0 rfl) ?_
    refine lv_bipush (v := 10) hx hb dX9_isShift_6 (by decide) ?_
    refine lv_icmp_ne (tgt := 15) hx hb dX9_isShift_8 (by decide) (fun c9 => ?_) (fun c9 => ?_)
    · have h := h.2 c9
      refine lv_iconst (v := 0) hx hb dX9_isShift_15 (by decide) ?_
      exact W.zret (v := 0) hx hb hr rfl (fun t ht hW => ⟨⟨0, (), rfl, h, trivial⟩, hS.F ht⟩) hS.2.2 dX9_isShift_16
    · have h := h.1 c9
      refine lv_iconst (v := 1) hx hb dX9_isShift_11 (by decide) ?_
      refine lv_goto (tgt := 16) hx hb dX9_isShift_12 (by decide) ?_
      exact W.zret (v := 1) hx hb hr rfl (fun t ht hW => ⟨⟨1, (), rfl, h, trivial⟩, hS.F ht⟩) hS.2.2 dX9_isShift_16

abbrev qX9_isOperand (D : va_G) (ca : Nat → ClassId) (a_t a_t_v a_t_past a_t_costs a_t_into a_t_isNeeded a_t_depths a_t_names a_t_out a_t_has : Nat) (t_edits : Int32) (t_thrown : Int32) (t_outs : Int32) (f_t_v : Nat → Int32) (Q : Int32 → Prop) (A : Nat → Prop) : Array Value → State → Outcome → State → Prop := va_Qi (fun (r : Int32) (_ : Unit) => Q r) (wEnd D ca (fun _ : Unit => [(a_t, .inr (7, [.ref a_t_v, .ref a_t_past, .ref a_t_costs, .int t_edits, .int t_thrown, .ref a_t_into, .ref a_t_isNeeded, .ref a_t_depths, .ref a_t_names, .ref a_t_out, .int t_outs, .ref a_t_has])), (a_t_v, .inl (ca 0, 206, .inl f_t_v))]) A) A
def wX9_isOperand_23 (x2 : Int32) (Q : Int32 → Prop) (y2_23 : Int64) : Prop :=
  wX9_in x2.toInt64 0 y2_23 (fun r_23 => (narrow .boolean (.int r_23) = .int r_23 ∧ Q r_23))
def wX9_isOperand (f_t_v : Nat → Int32) (x1 : Int32) (x2 : Int32) (Q : Int32 → Prop) : Prop :=
  ((x1 = 0 → (vp_in 3 206 ∧ wX9_isOperand_23 x2 Q ((f_t_v (3 : Int32).toNatClampNeg).toInt64))) ∧ (¬ x1 = 0 → wX9_all f_t_v (fun r_8 => wX9_isOperand_23 x2 Q (r_8 - 1))))
set_option maxHeartbeats 4000000 in
set_option maxRecDepth 100000 in
theorem mX9_isOperand (l : Launch) (D : va_G) (ca : Nat → ClassId) (a_t a_t_v a_t_past a_t_costs a_t_into a_t_isNeeded a_t_depths a_t_names a_t_out a_t_has : Nat) (sz : Nat) (t_edits : Int32) (t_thrown : Int32) (t_outs : Int32) (f_t_v : Nat → Int32) (x1 : Int32) (x2 : Int32) (Q : Int32 → Prop) (h : wX9_isOperand f_t_v x1 x2 Q) : Met l yX9_isOperand (Cond.code yX9_isOperand cX9_isOperand 3 (some .boolean) :: wsG) ({ frames := 2, cells := 0, slots := 0, locals := 40 } : Room) (va_Pc [.ref a_t, .int x1, .int x2] (wPre D ca [(a_t, .inr (7, [.ref a_t_v, .ref a_t_past, .ref a_t_costs, .int t_edits, .int t_thrown, .ref a_t_into, .ref a_t_isNeeded, .ref a_t_depths, .ref a_t_names, .ref a_t_out, .int t_outs, .ref a_t_has])), (a_t_v, .inl (ca 0, 206, .inl f_t_v))] sz)) (qX9_isOperand D ca a_t a_t_v a_t_past a_t_costs a_t_into a_t_isNeeded a_t_depths a_t_names a_t_out a_t_has t_edits t_thrown t_outs f_t_v Q (va_A [(a_t, .inr (7, [.ref a_t_v, .ref a_t_past, .ref a_t_costs, .int t_edits, .int t_thrown, .ref a_t_into, .ref a_t_isNeeded, .ref a_t_depths, .ref a_t_names, .ref a_t_out, .int t_outs, .ref a_t_has])), (a_t_v, .inl (ca 0, 206, .inl f_t_v))] sz)) 0 0 (va_A [(a_t, .inr (7, [.ref a_t_v, .ref a_t_past, .ref a_t_costs, .int t_edits, .int t_thrown, .ref a_t_into, .ref a_t_isNeeded, .ref a_t_depths, .ref a_t_names, .ref a_t_out, .int t_outs, .ref a_t_has])), (a_t_v, .inl (ca 0, 206, .inl f_t_v))] sz) := by
  refine Met.ofW (cc := cX9_isOperand) (maxL := 3) (ret := (some .boolean)) (by decide) rfl ?_
  intro p e s m args below meth c s₁ B hml hv
  obtain ⟨rfl, hsz, hP, hK, hD0⟩ := hv
  have hx := B.exec
  have hb := B.bytes
  have hr := B.returns
  have hts := atoms_spec (ws := (Cond.code yX9_isOperand cX9_isOperand 3 (some .boolean) :: wsG)) B.pre
  have hq : ∀ w ∈ wsG, w.before _ s = true := fun w hw => hts w (List.mem_cons_of_mem _ hw)
  have hown : s.vm.findClass RX9 = some m.cls := findClass_of_methodNamed B.named
  have hlocks := B.notSynchronized
  subst hsz
  have hD := hD0.self (sz := s.heap.size)
  generalize hAe : va_A [(a_t, .inr (7, [.ref a_t_v, .ref a_t_past, .ref a_t_costs, .int t_edits, .int t_thrown, .ref a_t_into, .ref a_t_isNeeded, .ref a_t_depths, .ref a_t_names, .ref a_t_out, .int t_outs, .ref a_t_has])), (a_t_v, .inl (ca 0, 206, .inl f_t_v))] s.heap.size = A at hD ⊢
  have hA : ∀ q : Nat, s.heap.size ≤ q → A q := fun q h => by rw [← hAe]; exact Or.inr h
  have hS : va_S A s.heap s.heap [] := va_S.rf
  have hP : va_P D vwCl [(a_t, .inr (7, [.ref a_t_v, .ref a_t_past, .ref a_t_costs, .int t_edits, .int t_thrown, .ref a_t_into, .ref a_t_isNeeded, .ref a_t_depths, .ref a_t_names, .ref a_t_out, .int t_outs, .ref a_t_has])), (a_t_v, .inl (ca 0, 206, .inl f_t_v))] s.heap := hP
  have hl := lv_entry ([.ref a_t, .int x1, .int x2]) (n := 3) (Nat.le_of_ble_eq_true rfl)
  rw [lg_entry_eq]
  generalize (lg_sl ([.ref a_t, .int x1, .int x2]) ++ List.replicate (3 - (lg_sl ([.ref a_t, .int x1, .int x2])).length) Slot.unset).toArray = ls at hl ⊢
  have hl : lv_has ls 3 [(0, .ref a_t), (1, .int x1), (2, .int x2)] := hl
  unfold wX9_isOperand at h
  refine lv_iload_n hx hb dX9_isOperand_0 rfl (lv_at hl 2 rfl) ?_
  refine lv_i2l hx hb dX9_isOperand_1 rfl ?_
  refine lv_lconst (v := 0) hx hb dX9_isOperand_2 (by decide) ?_
  refine lv_iload_n hx hb dX9_isOperand_3 rfl (lv_at hl 1 rfl) ?_
  have hJ23 : ∀ (y2_23 : Int64) (H : Heap) (locs : List Loc) (ls : Array Slot), va_P D vwCl [(a_t, .inr (7, [.ref a_t_v, .ref a_t_past, .ref a_t_costs, .int t_edits, .int t_thrown, .ref a_t_into, .ref a_t_isNeeded, .ref a_t_depths, .ref a_t_names, .ref a_t_out, .int t_outs, .ref a_t_has])), (a_t_v, .inl (ca 0, 206, .inl f_t_v))] H → va_D A [(a_t, .inr (7, [.ref a_t_v, .ref a_t_past, .ref a_t_costs, .int t_edits, .int t_thrown, .ref a_t_into, .ref a_t_isNeeded, .ref a_t_depths, .ref a_t_names, .ref a_t_out, .int t_outs, .ref a_t_has])), (a_t_v, .inl (ca 0, 206, .inl f_t_v))] → va_S A s.heap H locs → lv_has ls 3 [] → wX9_isOperand_23 x2 Q y2_23 → W p l e (headSpec (Cond.code yX9_isOperand cX9_isOperand 3 (some .boolean) :: wsG) ({ frames := 2, cells := 0, slots := 0, locals := 40 } : Room)).room s m ([.ref a_t, .int x1, .int x2] : List Value).toArray below meth c H locs 0 0 (MQ below (qX9_isOperand D ca a_t a_t_v a_t_past a_t_costs a_t_into a_t_isNeeded a_t_depths a_t_names a_t_out a_t_has t_edits t_thrown t_outs f_t_v Q A) ([.ref a_t, .int x1, .int x2] : List Value).toArray s 0 0 A) (F0 m 23 ls [.long y2_23, .long 0, .long x2.toInt64]) := by
    intro y2_23 H locs ls hP hD hS hl h
    unfold wX9_isOperand_23 at h
    refine cPi (As := [.long x2.toInt64, .long 0, .long y2_23]) (rest := []) ⟨hx, hb, hml, hown, hts⟩ (mX9_in l x2.toInt64 0 y2_23 _ h) (va_cwS 3 hts (gS q_930 q_931 q_8 q_932) rfl rfl rfl (by decide +kernel) ⟨Nat.le_of_ble_eq_true rfl, Nat.le_of_ble_eq_true rfl⟩) hS rfl hl.1 rfl (Nat.le_of_ble_eq_true rfl) dX9_isOperand_23 ⟨Nat.le_of_ble_eq_true rfl, Nat.le_of_ble_eq_true rfl⟩ (fun r_23 H1 locs h hk1 hS => ?_)
    have hP := s_back hP hk1
    try dsimp only at h
    obtain ⟨hn9, h⟩ := h
    exact W.zret (v := r_23) hx hb hr hn9 (fun t ht hW => ⟨⟨r_23, (), rfl, h, by rw [ht]; exact hP, va_K.moved hW.alike hK, hD⟩, hS.F ht⟩) hS.2.2 dX9_isOperand_26
  refine lv_if_eq (tgt := 16) hx hb dX9_isOperand_4 (by decide) (fun c9 => ?_) (fun c9 => ?_)
  · have h := h.1 c9
    refine lv_aload_n hx hb dX9_isOperand_16 rfl (lv_at hl 0 rfl) ?_
    refine va_get (D := D) (ci := 7) (v := .ref a_t_v) (C := RX9) (T := TX9) (N := 12) hx hb hq inX9g hown hK hP 0 rfl rfl 0 (by decide) (hq _ q_881) (fun _ h9 => h9) rfl dX9_isOperand_17 ?_
    refine lv_iconst (v := 3) hx hb dX9_isOperand_20 (by decide) ?_
    obtain ⟨hi9, h⟩ := h
    refine va_iald hx hb hK hP 1 0 rfl rfl hi9 dX9_isOperand_21 ?_
    refine lv_i2l hx hb dX9_isOperand_22 rfl ?_
    exact hJ23 ((f_t_v (3 : Int32).toNatClampNeg).toInt64) _ _ _ hP hD hS (lv_sub hl [] rfl) h
  · have h := h.2 c9
    refine lv_aload_n hx hb dX9_isOperand_7 rfl (lv_at hl 0 rfl) ?_
    refine cVl (As := []) (rest := [.long 0, .long x2.toInt64]) (wc := [(a_t, .inr (7, [.ref a_t_v, .ref a_t_past, .ref a_t_costs, .int t_edits, .int t_thrown, .ref a_t_into, .ref a_t_isNeeded, .ref a_t_depths, .ref a_t_names, .ref a_t_out, .int t_outs, .ref a_t_has])), (a_t_v, .inl (ca 0, 206, .inl f_t_v))]) (wr := []) (w1 := fun _ : Unit => [(a_t, .inr (7, [.ref a_t_v, .ref a_t_past, .ref a_t_costs, .int t_edits, .int t_thrown, .ref a_t_into, .ref a_t_isNeeded, .ref a_t_depths, .ref a_t_names, .ref a_t_out, .int t_outs, .ref a_t_has])), (a_t_v, .inl (ca 0, 206, .inl f_t_v))]) (ws2 := fun _ : Unit => [(a_t, .inr (7, [.ref a_t_v, .ref a_t_past, .ref a_t_costs, .int t_edits, .int t_thrown, .ref a_t_into, .ref a_t_isNeeded, .ref a_t_depths, .ref a_t_names, .ref a_t_out, .int t_outs, .ref a_t_has])), (a_t_v, .inl (ca 0, 206, .inl f_t_v))]) ⟨hx, hb, hml, hown, hts⟩ (mX9_all l D ca a_t a_t_v a_t_past a_t_costs a_t_into a_t_isNeeded a_t_depths a_t_names a_t_out a_t_has _ t_edits t_thrown t_outs f_t_v _ h) (cwV 0 hts (gV q_955 q_957 qs_35 q_8 q_958) rfl rfl rfl (by decide +kernel) ⟨Nat.le_of_ble_eq_true rfl, Nat.le_of_ble_eq_true rfl⟩) hK hP hD hS hA [0, 1] [] [0, 1] rfl rfl rfl (by decide) (fun _ => rfl) (ci := 7) (q0 := 0) rfl rfl rfl hl.1 rfl (Nat.le_of_ble_eq_true rfl) dX9_isOperand_8 ⟨Nat.le_of_ble_eq_true rfl, Nat.le_of_ble_eq_true rfl⟩ (fun r_8 u9 H locs h hP hD hS => ?_)
    try dsimp only at h
    refine lv_lconst (v := 1) hx hb dX9_isOperand_11 (by decide) ?_
    refine lv_lsub hx hb dX9_isOperand_12 ?_
    refine lv_goto (tgt := 23) hx hb dX9_isOperand_13 (by decide) ?_
    exact hJ23 (r_8 - 1) _ _ _ hP hD hS (lv_sub hl [] rfl) h

abbrev qX9_append (D : va_G) (ca : Nat → ClassId) (a_t a_t_v a_t_past a_t_costs a_t_into a_t_isNeeded a_t_depths a_t_names a_t_out a_t_has : Nat) (t_outs : Int32) (Q : Int32 → Int32 → Int32 → (Nat → Int32) → (Nat → Int32) → Prop) (A : Nat → Prop) : Array Value → State → Outcome → State → Prop := va_Qi (fun (r : Int32) (u : Int32 × Int32 × (Nat → Int32) × (Nat → Int32)) => Q r u.1 u.2.1 u.2.2.1 u.2.2.2) (wEnd D ca (fun u : Int32 × Int32 × (Nat → Int32) × (Nat → Int32) => [(a_t, .inr (7, [.ref a_t_v, .ref a_t_past, .ref a_t_costs, .int u.1, .int u.2.1, .ref a_t_into, .ref a_t_isNeeded, .ref a_t_depths, .ref a_t_names, .ref a_t_out, .int t_outs, .ref a_t_has])), (a_t_v, .inl (ca 0, 206, .inl u.2.2.1)), (a_t_past, .inl (ca 0, 1648, .inl u.2.2.2))]) A) A
def wX9_append_72 (t_edits : Int32) (f_t_v : Nat → Int32) (f_t_past : Nat → Int32) (Q : Int32 → Int32 → Int32 → (Nat → Int32) → (Nat → Int32) → Prop) : Prop :=
  wX9_fails 0 1 (fun r_74 t_thrown_74 => Q r_74 t_edits t_thrown_74 f_t_v f_t_past)
def wX9_append_78 (t_edits : Int32) (f_t_v : Nat → Int32) (f_t_past : Nat → Int32) (x1 : Int32) (x2 : Int32) (x3 : Int32) (x4 : Int32) (x5 : Int32) (Q : Int32 → Int32 → Int32 → (Nat → Int32) → (Nat → Int32) → Prop) : Prop :=
  (vp_in 3 206 ∧ (((f_t_v (3 : Int32).toNatClampNeg) = 40 → wX9_fails 0 2 (fun r_91 t_thrown_91 => Q r_91 t_edits t_thrown_91 f_t_v f_t_past)) ∧ (¬ (f_t_v (3 : Int32).toNatClampNeg) = 40 → wX9_edits t_edits f_t_v f_t_past (fun t_edits_96 f_t_past_96 => wX9_writes f_t_v x1 x2 x3.toInt64 x4 x5.toInt64 (fun r_114 f_t_v_114 => (vp_in 4 206 ∧ (vp_in 3 206 ∧ Q ((upd f_t_v_114 (4 : Int32).toNatClampNeg r_114) (3 : Int32).toNatClampNeg) t_edits_96 0 (upd f_t_v_114 (4 : Int32).toNatClampNeg r_114) f_t_past_96)))))))
def wX9_append_42 (t_edits : Int32) (f_t_v : Nat → Int32) (f_t_past : Nat → Int32) (x1 : Int32) (x2 : Int32) (x3 : Int32) (x4 : Int32) (x5 : Int32) (Q : Int32 → Int32 → Int32 → (Nat → Int32) → (Nat → Int32) → Prop) (y0_42 : Int32) : Prop :=
  ((y0_42 = 0 → wX9_append_72 t_edits f_t_v f_t_past Q) ∧ (¬ y0_42 = 0 → wX9_isShift x1 (fun r_50 => ((r_50 = 0 → wX9_append_78 t_edits f_t_v f_t_past x1 x2 x3 x4 x5 Q) ∧ (¬ r_50 = 0 → ((x4 = 0 → wX9_append_72 t_edits f_t_v f_t_past Q) ∧ (¬ x4 = 0 → (vp_in 0 206 ∧ ((x5 < (f_t_v (0 : Int32).toNatClampNeg) → wX9_append_78 t_edits f_t_v f_t_past x1 x2 x3 x4 x5 Q) ∧ (¬ x5 < (f_t_v (0 : Int32).toNatClampNeg) → wX9_append_72 t_edits f_t_v f_t_past Q))))))))))
def wX9_append_41 (t_edits : Int32) (f_t_v : Nat → Int32) (f_t_past : Nat → Int32) (x1 : Int32) (x2 : Int32) (x3 : Int32) (x4 : Int32) (x5 : Int32) (Q : Int32 → Int32 → Int32 → (Nat → Int32) → (Nat → Int32) → Prop) : Prop :=
  wX9_append_42 t_edits f_t_v f_t_past x1 x2 x3 x4 x5 Q 0
def wX9_append (t_edits : Int32) (t_thrown : Int32) (f_t_v : Nat → Int32) (f_t_past : Nat → Int32) (x1 : Int32) (x2 : Int32) (x3 : Int32) (x4 : Int32) (x5 : Int32) (Q : Int32 → Int32 → Int32 → (Nat → Int32) → (Nat → Int32) → Prop) : Prop :=
  wX9_in x1.toInt64 0 11 (fun r_11 => ((r_11 = 0 → wX9_append_41 t_edits f_t_v f_t_past x1 x2 x3 x4 x5 Q) ∧ (¬ r_11 = 0 → wX9_isOperand f_t_v x2 x3 (fun r_20 => ((r_20 = 0 → wX9_append_41 t_edits f_t_v f_t_past x1 x2 x3 x4 x5 Q) ∧ (¬ r_20 = 0 → wX9_isOperand f_t_v x4 x5 (fun r_31 => ((r_31 = 0 → wX9_append_41 t_edits f_t_v f_t_past x1 x2 x3 x4 x5 Q) ∧ (¬ r_31 = 0 → wX9_append_42 t_edits f_t_v f_t_past x1 x2 x3 x4 x5 Q 1)))))))))
set_option maxHeartbeats 4000000 in
set_option maxRecDepth 100000 in
theorem mX9_append (l : Launch) (D : va_G) (ca : Nat → ClassId) (a_t a_t_v a_t_past a_t_costs a_t_into a_t_isNeeded a_t_depths a_t_names a_t_out a_t_has : Nat) (sz : Nat) (t_edits : Int32) (t_thrown : Int32) (t_outs : Int32) (f_t_v : Nat → Int32) (f_t_past : Nat → Int32) (x1 : Int32) (x2 : Int32) (x3 : Int32) (x4 : Int32) (x5 : Int32) (Q : Int32 → Int32 → Int32 → (Nat → Int32) → (Nat → Int32) → Prop) (h : wX9_append t_edits t_thrown f_t_v f_t_past x1 x2 x3 x4 x5 Q) : Met l yX9_append (Cond.code yX9_append cX9_append 7 (some .int) :: wsG) ({ frames := 3, cells := 0, slots := 0, locals := 62 } : Room) (va_Pc [.ref a_t, .int x1, .int x2, .int x3, .int x4, .int x5] (wPre D ca [(a_t, .inr (7, [.ref a_t_v, .ref a_t_past, .ref a_t_costs, .int t_edits, .int t_thrown, .ref a_t_into, .ref a_t_isNeeded, .ref a_t_depths, .ref a_t_names, .ref a_t_out, .int t_outs, .ref a_t_has])), (a_t_v, .inl (ca 0, 206, .inl f_t_v)), (a_t_past, .inl (ca 0, 1648, .inl f_t_past))] sz)) (qX9_append D ca a_t a_t_v a_t_past a_t_costs a_t_into a_t_isNeeded a_t_depths a_t_names a_t_out a_t_has t_outs Q (va_A [(a_t, .inr (7, [.ref a_t_v, .ref a_t_past, .ref a_t_costs, .int t_edits, .int t_thrown, .ref a_t_into, .ref a_t_isNeeded, .ref a_t_depths, .ref a_t_names, .ref a_t_out, .int t_outs, .ref a_t_has])), (a_t_v, .inl (ca 0, 206, .inl f_t_v)), (a_t_past, .inl (ca 0, 1648, .inl f_t_past))] sz)) 0 0 (va_A [(a_t, .inr (7, [.ref a_t_v, .ref a_t_past, .ref a_t_costs, .int t_edits, .int t_thrown, .ref a_t_into, .ref a_t_isNeeded, .ref a_t_depths, .ref a_t_names, .ref a_t_out, .int t_outs, .ref a_t_has])), (a_t_v, .inl (ca 0, 206, .inl f_t_v)), (a_t_past, .inl (ca 0, 1648, .inl f_t_past))] sz) := by
  refine Met.ofW (cc := cX9_append) (maxL := 7) (ret := (some .int)) (by decide) rfl ?_
  intro p e s m args below meth c s₁ B hml hv
  obtain ⟨rfl, hsz, hP, hK, hD0⟩ := hv
  have hx := B.exec
  have hb := B.bytes
  have hr := B.returns
  have hts := atoms_spec (ws := (Cond.code yX9_append cX9_append 7 (some .int) :: wsG)) B.pre
  have hq : ∀ w ∈ wsG, w.before _ s = true := fun w hw => hts w (List.mem_cons_of_mem _ hw)
  have hown : s.vm.findClass RX9 = some m.cls := findClass_of_methodNamed B.named
  have hlocks := B.notSynchronized
  subst hsz
  have hD := hD0.self (sz := s.heap.size)
  generalize hAe : va_A [(a_t, .inr (7, [.ref a_t_v, .ref a_t_past, .ref a_t_costs, .int t_edits, .int t_thrown, .ref a_t_into, .ref a_t_isNeeded, .ref a_t_depths, .ref a_t_names, .ref a_t_out, .int t_outs, .ref a_t_has])), (a_t_v, .inl (ca 0, 206, .inl f_t_v)), (a_t_past, .inl (ca 0, 1648, .inl f_t_past))] s.heap.size = A at hD ⊢
  have hA : ∀ q : Nat, s.heap.size ≤ q → A q := fun q h => by rw [← hAe]; exact Or.inr h
  have hS : va_S A s.heap s.heap [] := va_S.rf
  have hP : va_P D vwCl [(a_t, .inr (7, [.ref a_t_v, .ref a_t_past, .ref a_t_costs, .int t_edits, .int t_thrown, .ref a_t_into, .ref a_t_isNeeded, .ref a_t_depths, .ref a_t_names, .ref a_t_out, .int t_outs, .ref a_t_has])), (a_t_v, .inl (ca 0, 206, .inl f_t_v)), (a_t_past, .inl (ca 0, 1648, .inl f_t_past))] s.heap := hP
  have hl := lv_entry ([.ref a_t, .int x1, .int x2, .int x3, .int x4, .int x5]) (n := 7) (Nat.le_of_ble_eq_true rfl)
  rw [lg_entry_eq]
  generalize (lg_sl ([.ref a_t, .int x1, .int x2, .int x3, .int x4, .int x5]) ++ List.replicate (7 - (lg_sl ([.ref a_t, .int x1, .int x2, .int x3, .int x4, .int x5])).length) Slot.unset).toArray = ls at hl ⊢
  have hl : lv_has ls 7 [(0, .ref a_t), (1, .int x1), (2, .int x2), (3, .int x3), (4, .int x4), (5, .int x5)] := hl
  unfold wX9_append at h
  refine lv_aload_n hx hb dX9_append_0 rfl (lv_at hl 0 rfl) ?_
  refine lv_iconst (v := 0) hx hb dX9_append_1 (by decide) ?_
  refine va_put (D := D) (ci := 7) (v := .int 0) (ty := .int) (C := RX9) (T := TX9) (N := 12) hx hb hq inX9g tyX9 tyX9_ok nmX9 hown hK hP hD hS 0 rfl rfl 4 (by decide) (hq _ q_885) (fun _ h9 => h9) rfl (by decide +kernel) rfl rfl (Nat.le_of_ble_eq_true rfl) dX9_append_2 (fun H locs hP hD hS => ?_)
  have hP : va_P D vwCl [(a_t, .inr (7, [.ref a_t_v, .ref a_t_past, .ref a_t_costs, .int t_edits, .int 0, .ref a_t_into, .ref a_t_isNeeded, .ref a_t_depths, .ref a_t_names, .ref a_t_out, .int t_outs, .ref a_t_has])), (a_t_v, .inl (ca 0, 206, .inl f_t_v)), (a_t_past, .inl (ca 0, 1648, .inl f_t_past))] H := hP
  have hD : va_D A [(a_t, .inr (7, [.ref a_t_v, .ref a_t_past, .ref a_t_costs, .int t_edits, .int 0, .ref a_t_into, .ref a_t_isNeeded, .ref a_t_depths, .ref a_t_names, .ref a_t_out, .int t_outs, .ref a_t_has])), (a_t_v, .inl (ca 0, 206, .inl f_t_v)), (a_t_past, .inl (ca 0, 1648, .inl f_t_past))] := hD
  refine lv_iload_n hx hb dX9_append_5 rfl (lv_at hl 1 rfl) ?_
  refine lv_i2l hx hb dX9_append_6 rfl ?_
  refine lv_lconst (v := 0) hx hb dX9_append_7 (by decide) ?_
  refine lv_ldc2 (v := 11) hx hb hown (hq _ q_1078) dX9_append_8 ?_
  refine cPi (As := [.long x1.toInt64, .long 0, .long 11]) (rest := []) ⟨hx, hb, hml, hown, hts⟩ (mX9_in l x1.toInt64 0 11 _ h) (va_cwS 3 hts (gS q_930 q_931 q_8 q_932) rfl rfl rfl (by decide +kernel) ⟨Nat.le_of_ble_eq_true rfl, Nat.le_of_ble_eq_true rfl⟩) hS rfl hl.1 rfl (Nat.le_of_ble_eq_true rfl) dX9_append_11 ⟨Nat.le_of_ble_eq_true rfl, Nat.le_of_ble_eq_true rfl⟩ (fun r_11 H1 locs h hk1 hS => ?_)
  have hP := s_back hP hk1
  try dsimp only at h
  have hJ42 : ∀ (y0_42 : Int32) (H : Heap) (locs : List Loc) (ls : Array Slot), va_P D vwCl [(a_t, .inr (7, [.ref a_t_v, .ref a_t_past, .ref a_t_costs, .int t_edits, .int 0, .ref a_t_into, .ref a_t_isNeeded, .ref a_t_depths, .ref a_t_names, .ref a_t_out, .int t_outs, .ref a_t_has])), (a_t_v, .inl (ca 0, 206, .inl f_t_v)), (a_t_past, .inl (ca 0, 1648, .inl f_t_past))] H → va_D A [(a_t, .inr (7, [.ref a_t_v, .ref a_t_past, .ref a_t_costs, .int t_edits, .int 0, .ref a_t_into, .ref a_t_isNeeded, .ref a_t_depths, .ref a_t_names, .ref a_t_out, .int t_outs, .ref a_t_has])), (a_t_v, .inl (ca 0, 206, .inl f_t_v)), (a_t_past, .inl (ca 0, 1648, .inl f_t_past))] → va_S A s.heap H locs → lv_has ls 7 [(0, .ref a_t), (1, .int x1), (2, .int x2), (3, .int x3), (4, .int x4), (5, .int x5)] → wX9_append_42 t_edits f_t_v f_t_past x1 x2 x3 x4 x5 Q y0_42 → W p l e (headSpec (Cond.code yX9_append cX9_append 7 (some .int) :: wsG) ({ frames := 3, cells := 0, slots := 0, locals := 62 } : Room)).room s m ([.ref a_t, .int x1, .int x2, .int x3, .int x4, .int x5] : List Value).toArray below meth c H locs 0 0 (MQ below (qX9_append D ca a_t a_t_v a_t_past a_t_costs a_t_into a_t_isNeeded a_t_depths a_t_names a_t_out a_t_has t_outs Q A) ([.ref a_t, .int x1, .int x2, .int x3, .int x4, .int x5] : List Value).toArray s 0 0 A) (F0 m 42 ls [.int y0_42]) := by
    intro y0_42 H locs ls hP hD hS hl h
    unfold wX9_append_42 at h
    refine lv_istore (lv' := [(6, .int y0_42), (0, .ref a_t), (1, .int x1), (2, .int x2), (3, .int x3), (4, .int x4), (5, .int x5)]) hx hb dX9_append_42 hl (by decide) rfl (fun ls hl => ?_)
    refine lv_iload hx hb dX9_append_44 (lv_at hl 0 rfl) ?_
    have hJ72 : ∀ (H : Heap) (locs : List Loc) (ls : Array Slot), va_P D vwCl [(a_t, .inr (7, [.ref a_t_v, .ref a_t_past, .ref a_t_costs, .int t_edits, .int 0, .ref a_t_into, .ref a_t_isNeeded, .ref a_t_depths, .ref a_t_names, .ref a_t_out, .int t_outs, .ref a_t_has])), (a_t_v, .inl (ca 0, 206, .inl f_t_v)), (a_t_past, .inl (ca 0, 1648, .inl f_t_past))] H → va_D A [(a_t, .inr (7, [.ref a_t_v, .ref a_t_past, .ref a_t_costs, .int t_edits, .int 0, .ref a_t_into, .ref a_t_isNeeded, .ref a_t_depths, .ref a_t_names, .ref a_t_out, .int t_outs, .ref a_t_has])), (a_t_v, .inl (ca 0, 206, .inl f_t_v)), (a_t_past, .inl (ca 0, 1648, .inl f_t_past))] → va_S A s.heap H locs → lv_has ls 7 [(0, .ref a_t)] → wX9_append_72 t_edits f_t_v f_t_past Q → W p l e (headSpec (Cond.code yX9_append cX9_append 7 (some .int) :: wsG) ({ frames := 3, cells := 0, slots := 0, locals := 62 } : Room)).room s m ([.ref a_t, .int x1, .int x2, .int x3, .int x4, .int x5] : List Value).toArray below meth c H locs 0 0 (MQ below (qX9_append D ca a_t a_t_v a_t_past a_t_costs a_t_into a_t_isNeeded a_t_depths a_t_names a_t_out a_t_has t_outs Q A) ([.ref a_t, .int x1, .int x2, .int x3, .int x4, .int x5] : List Value).toArray s 0 0 A) (F0 m 72 ls []) := by
      intro  H locs ls hP hD hS hl h
      unfold wX9_append_72 at h
      refine lv_aload_n hx hb dX9_append_72 rfl (lv_at hl 0 rfl) ?_
      refine lv_iconst (v := 1) hx hb dX9_append_73 (by decide) ?_
      refine cVi (As := [.int 1]) (rest := []) (wc := [(a_t, .inr (7, [.ref a_t_v, .ref a_t_past, .ref a_t_costs, .int t_edits, .int 0, .ref a_t_into, .ref a_t_isNeeded, .ref a_t_depths, .ref a_t_names, .ref a_t_out, .int t_outs, .ref a_t_has]))]) (wr := [(a_t_v, .inl (ca 0, 206, .inl f_t_v)), (a_t_past, .inl (ca 0, 1648, .inl f_t_past))]) (w1 := fun u : Int32 => [(a_t, .inr (7, [.ref a_t_v, .ref a_t_past, .ref a_t_costs, .int t_edits, .int u, .ref a_t_into, .ref a_t_isNeeded, .ref a_t_depths, .ref a_t_names, .ref a_t_out, .int t_outs, .ref a_t_has]))]) (ws2 := fun u : Int32 => [(a_t, .inr (7, [.ref a_t_v, .ref a_t_past, .ref a_t_costs, .int t_edits, .int u, .ref a_t_into, .ref a_t_isNeeded, .ref a_t_depths, .ref a_t_names, .ref a_t_out, .int t_outs, .ref a_t_has])), (a_t_v, .inl (ca 0, 206, .inl f_t_v)), (a_t_past, .inl (ca 0, 1648, .inl f_t_past))]) ⟨hx, hb, hml, hown, hts⟩ (mX9_fails l D ca a_t a_t_v a_t_past a_t_costs a_t_into a_t_isNeeded a_t_depths a_t_names a_t_out a_t_has _ t_edits 0 t_outs 1 _ h) (cwV 1 hts (gV q_933 q_935 qs_33 q_8 q_936) rfl rfl rfl (by decide +kernel) ⟨Nat.le_of_ble_eq_true rfl, Nat.le_of_ble_eq_true rfl⟩) hK hP hD hS hA [0] [1, 2] [2, 0, 1] rfl rfl rfl (by decide) (fun _ => rfl) (ci := 7) (q0 := 0) rfl rfl rfl hl.1 rfl (Nat.le_of_ble_eq_true rfl) dX9_append_74 ⟨Nat.le_of_ble_eq_true rfl, Nat.le_of_ble_eq_true rfl⟩ (fun r_74 u9 H locs h hP hD hS => ?_)
      obtain ⟨t_thrown_74, rfl⟩ : ∃ z, z = u9 := ⟨_, rfl⟩
      have hP : va_P D vwCl [(a_t, .inr (7, [.ref a_t_v, .ref a_t_past, .ref a_t_costs, .int t_edits, .int t_thrown_74, .ref a_t_into, .ref a_t_isNeeded, .ref a_t_depths, .ref a_t_names, .ref a_t_out, .int t_outs, .ref a_t_has])), (a_t_v, .inl (ca 0, 206, .inl f_t_v)), (a_t_past, .inl (ca 0, 1648, .inl f_t_past))] H := hP
      have hD : va_D A [(a_t, .inr (7, [.ref a_t_v, .ref a_t_past, .ref a_t_costs, .int t_edits, .int t_thrown_74, .ref a_t_into, .ref a_t_isNeeded, .ref a_t_depths, .ref a_t_names, .ref a_t_out, .int t_outs, .ref a_t_has])), (a_t_v, .inl (ca 0, 206, .inl f_t_v)), (a_t_past, .inl (ca 0, 1648, .inl f_t_past))] := hD
      try dsimp only at h
      exact W.iret (v := r_74) hx hb hr (fun t ht hW => ⟨⟨r_74, (t_edits, t_thrown_74, f_t_v, f_t_past), rfl, h, by rw [ht]; exact hP, va_K.moved hW.alike hK, hD⟩, hS.F ht⟩) hS.2.2 dX9_append_77
    refine lv_if_eq (tgt := 72) hx hb dX9_append_46 (by decide) (fun c9 => ?_) (fun c9 => ?_)
    · have h := h.1 c9
      exact hJ72 _ _ _ hP hD hS (lv_sub hl [1] rfl) h
    · have h := h.2 c9
      refine lv_iload_n hx hb dX9_append_49 rfl (lv_at hl 2 rfl) ?_
      refine cPi (As := [.int x1]) (rest := []) ⟨hx, hb, hml, hown, hts⟩ (mX9_isShift l x1 _ h) (va_cwS 1 hts (gS q_1083 q_1084 q_8 q_1085) rfl rfl rfl (by decide +kernel) ⟨Nat.le_of_ble_eq_true rfl, Nat.le_of_ble_eq_true rfl⟩) hS rfl hl.1 rfl (Nat.le_of_ble_eq_true rfl) dX9_append_50 ⟨Nat.le_of_ble_eq_true rfl, Nat.le_of_ble_eq_true rfl⟩ (fun r_50 H1 locs h hk1 hS => ?_)
      have hP := s_back hP hk1
      try dsimp only at h
      have hJ78 : ∀ (H : Heap) (locs : List Loc) (ls : Array Slot), va_P D vwCl [(a_t, .inr (7, [.ref a_t_v, .ref a_t_past, .ref a_t_costs, .int t_edits, .int 0, .ref a_t_into, .ref a_t_isNeeded, .ref a_t_depths, .ref a_t_names, .ref a_t_out, .int t_outs, .ref a_t_has])), (a_t_v, .inl (ca 0, 206, .inl f_t_v)), (a_t_past, .inl (ca 0, 1648, .inl f_t_past))] H → va_D A [(a_t, .inr (7, [.ref a_t_v, .ref a_t_past, .ref a_t_costs, .int t_edits, .int 0, .ref a_t_into, .ref a_t_isNeeded, .ref a_t_depths, .ref a_t_names, .ref a_t_out, .int t_outs, .ref a_t_has])), (a_t_v, .inl (ca 0, 206, .inl f_t_v)), (a_t_past, .inl (ca 0, 1648, .inl f_t_past))] → va_S A s.heap H locs → lv_has ls 7 [(0, .ref a_t), (1, .int x1), (2, .int x2), (3, .int x3), (4, .int x4), (5, .int x5)] → wX9_append_78 t_edits f_t_v f_t_past x1 x2 x3 x4 x5 Q → W p l e (headSpec (Cond.code yX9_append cX9_append 7 (some .int) :: wsG) ({ frames := 3, cells := 0, slots := 0, locals := 62 } : Room)).room s m ([.ref a_t, .int x1, .int x2, .int x3, .int x4, .int x5] : List Value).toArray below meth c H locs 0 0 (MQ below (qX9_append D ca a_t a_t_v a_t_past a_t_costs a_t_into a_t_isNeeded a_t_depths a_t_names a_t_out a_t_has t_outs Q A) ([.ref a_t, .int x1, .int x2, .int x3, .int x4, .int x5] : List Value).toArray s 0 0 A) (F0 m 78 ls []) := by
        intro  H locs ls hP hD hS hl h
        unfold wX9_append_78 at h
        refine lv_aload_n hx hb dX9_append_78 rfl (lv_at hl 0 rfl) ?_
        refine va_get (D := D) (ci := 7) (v := .ref a_t_v) (C := RX9) (T := TX9) (N := 12) hx hb hq inX9g hown hK hP 0 rfl rfl 0 (by decide) (hq _ q_881) (fun _ h9 => h9) rfl dX9_append_79 ?_
        refine lv_iconst (v := 3) hx hb dX9_append_82 (by decide) ?_
        obtain ⟨hi9, h⟩ := h
        refine va_iald hx hb hK hP 1 0 rfl rfl hi9 dX9_append_83 ?_
        refine lv_bipush (v := 40) hx hb dX9_append_84 (by decide) ?_
        refine lv_icmp_ne (tgt := 95) hx hb dX9_append_86 (by decide) (fun c9 => ?_) (fun c9 => ?_)
        · have h := h.2 c9
          refine lv_aload_n hx hb dX9_append_95 rfl (lv_at hl 0 rfl) ?_
          refine cVv (As := []) (rest := []) (wc := [(a_t, .inr (7, [.ref a_t_v, .ref a_t_past, .ref a_t_costs, .int t_edits, .int 0, .ref a_t_into, .ref a_t_isNeeded, .ref a_t_depths, .ref a_t_names, .ref a_t_out, .int t_outs, .ref a_t_has])), (a_t_v, .inl (ca 0, 206, .inl f_t_v)), (a_t_past, .inl (ca 0, 1648, .inl f_t_past))]) (wr := []) (w1 := fun u : Int32 × (Nat → Int32) => [(a_t, .inr (7, [.ref a_t_v, .ref a_t_past, .ref a_t_costs, .int u.1, .int 0, .ref a_t_into, .ref a_t_isNeeded, .ref a_t_depths, .ref a_t_names, .ref a_t_out, .int t_outs, .ref a_t_has])), (a_t_v, .inl (ca 0, 206, .inl f_t_v)), (a_t_past, .inl (ca 0, 1648, .inl u.2))]) (ws2 := fun u : Int32 × (Nat → Int32) => [(a_t, .inr (7, [.ref a_t_v, .ref a_t_past, .ref a_t_costs, .int u.1, .int 0, .ref a_t_into, .ref a_t_isNeeded, .ref a_t_depths, .ref a_t_names, .ref a_t_out, .int t_outs, .ref a_t_has])), (a_t_v, .inl (ca 0, 206, .inl f_t_v)), (a_t_past, .inl (ca 0, 1648, .inl u.2))]) ⟨hx, hb, hml, hown, hts⟩ (mX9_edits l D ca a_t a_t_v a_t_past a_t_costs a_t_into a_t_isNeeded a_t_depths a_t_names a_t_out a_t_has _ t_edits 0 t_outs f_t_v f_t_past _ h) (cwV 0 hts (gV q_937 q_939 qs_34 q_8 q_940) rfl rfl rfl (by decide +kernel) ⟨Nat.le_of_ble_eq_true rfl, Nat.le_of_ble_eq_true rfl⟩) hK hP hD hS hA [0, 1, 2] [] [0, 1, 2] rfl rfl rfl (by decide) (fun _ => rfl) (ci := 7) (q0 := 0) rfl rfl rfl hl.1 rfl (Nat.le_of_ble_eq_true rfl) dX9_append_96 ⟨Nat.le_of_ble_eq_true rfl, Nat.le_of_ble_eq_true rfl⟩ (fun u9 H locs h hP hD hS => ?_)
          obtain ⟨t_edits_96, f_t_past_96⟩ := u9
          have hP : va_P D vwCl [(a_t, .inr (7, [.ref a_t_v, .ref a_t_past, .ref a_t_costs, .int t_edits_96, .int 0, .ref a_t_into, .ref a_t_isNeeded, .ref a_t_depths, .ref a_t_names, .ref a_t_out, .int t_outs, .ref a_t_has])), (a_t_v, .inl (ca 0, 206, .inl f_t_v)), (a_t_past, .inl (ca 0, 1648, .inl f_t_past_96))] H := hP
          have hD : va_D A [(a_t, .inr (7, [.ref a_t_v, .ref a_t_past, .ref a_t_costs, .int t_edits_96, .int 0, .ref a_t_into, .ref a_t_isNeeded, .ref a_t_depths, .ref a_t_names, .ref a_t_out, .int t_outs, .ref a_t_has])), (a_t_v, .inl (ca 0, 206, .inl f_t_v)), (a_t_past, .inl (ca 0, 1648, .inl f_t_past_96))] := hD
          try dsimp only at h
          refine lv_aload_n hx hb dX9_append_99 rfl (lv_at hl 0 rfl) ?_
          refine va_get (D := D) (ci := 7) (v := .ref a_t_v) (C := RX9) (T := TX9) (N := 12) hx hb hq inX9g hown hK hP 0 rfl rfl 0 (by decide) (hq _ q_881) (fun _ h9 => h9) rfl dX9_append_100 ?_
          refine lv_iconst (v := 4) hx hb dX9_append_103 (by decide) ?_
          refine lv_aload_n hx hb dX9_append_104 rfl (lv_at hl 0 rfl) ?_
          refine lv_iload_n hx hb dX9_append_105 rfl (lv_at hl 1 rfl) ?_
          refine lv_iload_n hx hb dX9_append_106 rfl (lv_at hl 2 rfl) ?_
          refine lv_iload_n hx hb dX9_append_107 rfl (lv_at hl 3 rfl) ?_
          refine lv_i2l hx hb dX9_append_108 rfl ?_
          refine lv_iload hx hb dX9_append_109 (lv_at hl 4 rfl) ?_
          refine lv_iload hx hb dX9_append_111 (lv_at hl 5 rfl) ?_
          refine lv_i2l hx hb dX9_append_113 rfl ?_
          refine cVi (As := [.int x1, .int x2, .long x3.toInt64, .int x4, .long x5.toInt64]) (rest := [.int 4, .ref a_t_v]) (wc := [(a_t, .inr (7, [.ref a_t_v, .ref a_t_past, .ref a_t_costs, .int t_edits_96, .int 0, .ref a_t_into, .ref a_t_isNeeded, .ref a_t_depths, .ref a_t_names, .ref a_t_out, .int t_outs, .ref a_t_has])), (a_t_v, .inl (ca 0, 206, .inl f_t_v))]) (wr := [(a_t_past, .inl (ca 0, 1648, .inl f_t_past_96))]) (w1 := fun u : (Nat → Int32) => [(a_t, .inr (7, [.ref a_t_v, .ref a_t_past, .ref a_t_costs, .int t_edits_96, .int 0, .ref a_t_into, .ref a_t_isNeeded, .ref a_t_depths, .ref a_t_names, .ref a_t_out, .int t_outs, .ref a_t_has])), (a_t_v, .inl (ca 0, 206, .inl u))]) (ws2 := fun u : (Nat → Int32) => [(a_t, .inr (7, [.ref a_t_v, .ref a_t_past, .ref a_t_costs, .int t_edits_96, .int 0, .ref a_t_into, .ref a_t_isNeeded, .ref a_t_depths, .ref a_t_names, .ref a_t_out, .int t_outs, .ref a_t_has])), (a_t_v, .inl (ca 0, 206, .inl u)), (a_t_past, .inl (ca 0, 1648, .inl f_t_past_96))]) ⟨hx, hb, hml, hown, hts⟩ (mX9_writes l D ca a_t a_t_v a_t_past a_t_costs a_t_into a_t_isNeeded a_t_depths a_t_names a_t_out a_t_has _ t_edits_96 0 t_outs f_t_v x1 x2 x3.toInt64 x4 x5.toInt64 _ h) (cwV 5 hts (gV q_1038 q_1040 qs_46 q_8 q_1041) rfl rfl rfl (by decide +kernel) ⟨Nat.le_of_ble_eq_true rfl, Nat.le_of_ble_eq_true rfl⟩) hK hP hD hS hA [0, 1] [2] [1, 2, 0] rfl rfl rfl (by decide) (fun _ => rfl) (ci := 7) (q0 := 0) rfl rfl rfl hl.1 rfl (Nat.le_of_ble_eq_true rfl) dX9_append_114 ⟨Nat.le_of_ble_eq_true rfl, Nat.le_of_ble_eq_true rfl⟩ (fun r_114 u9 H locs h hP hD hS => ?_)
          obtain ⟨f_t_v_114, rfl⟩ : ∃ z, z = u9 := ⟨_, rfl⟩
          have hP : va_P D vwCl [(a_t, .inr (7, [.ref a_t_v, .ref a_t_past, .ref a_t_costs, .int t_edits_96, .int 0, .ref a_t_into, .ref a_t_isNeeded, .ref a_t_depths, .ref a_t_names, .ref a_t_out, .int t_outs, .ref a_t_has])), (a_t_v, .inl (ca 0, 206, .inl f_t_v_114)), (a_t_past, .inl (ca 0, 1648, .inl f_t_past_96))] H := hP
          have hD : va_D A [(a_t, .inr (7, [.ref a_t_v, .ref a_t_past, .ref a_t_costs, .int t_edits_96, .int 0, .ref a_t_into, .ref a_t_isNeeded, .ref a_t_depths, .ref a_t_names, .ref a_t_out, .int t_outs, .ref a_t_has])), (a_t_v, .inl (ca 0, 206, .inl f_t_v_114)), (a_t_past, .inl (ca 0, 1648, .inl f_t_past_96))] := hD
          try dsimp only at h
          obtain ⟨hi9, h⟩ := h
          refine va_iast hx hb hK hP hD hS 1 0 rfl rfl hi9 dX9_append_117 (fun H locs hP hD hS => ?_)
          have hP : va_P D vwCl [(a_t, .inr (7, [.ref a_t_v, .ref a_t_past, .ref a_t_costs, .int t_edits_96, .int 0, .ref a_t_into, .ref a_t_isNeeded, .ref a_t_depths, .ref a_t_names, .ref a_t_out, .int t_outs, .ref a_t_has])), (a_t_v, .inl (ca 0, 206, .inl (upd f_t_v_114 (4 : Int32).toNatClampNeg r_114))), (a_t_past, .inl (ca 0, 1648, .inl f_t_past_96))] H := hP
          have hD : va_D A [(a_t, .inr (7, [.ref a_t_v, .ref a_t_past, .ref a_t_costs, .int t_edits_96, .int 0, .ref a_t_into, .ref a_t_isNeeded, .ref a_t_depths, .ref a_t_names, .ref a_t_out, .int t_outs, .ref a_t_has])), (a_t_v, .inl (ca 0, 206, .inl (upd f_t_v_114 (4 : Int32).toNatClampNeg r_114))), (a_t_past, .inl (ca 0, 1648, .inl f_t_past_96))] := hD
          refine lv_aload_n hx hb dX9_append_118 rfl (lv_at hl 0 rfl) ?_
          refine va_get (D := D) (ci := 7) (v := .ref a_t_v) (C := RX9) (T := TX9) (N := 12) hx hb hq inX9g hown hK hP 0 rfl rfl 0 (by decide) (hq _ q_881) (fun _ h9 => h9) rfl dX9_append_119 ?_
          refine lv_iconst (v := 3) hx hb dX9_append_122 (by decide) ?_
          obtain ⟨hi9, h⟩ := h
          refine va_iald hx hb hK hP 1 0 rfl rfl hi9 dX9_append_123 ?_
          exact W.iret (v := (upd f_t_v_114 (4 : Int32).toNatClampNeg r_114) (3 : Int32).toNatClampNeg) hx hb hr (fun t ht hW => ⟨⟨(upd f_t_v_114 (4 : Int32).toNatClampNeg r_114) (3 : Int32).toNatClampNeg, (t_edits_96, 0, upd f_t_v_114 (4 : Int32).toNatClampNeg r_114, f_t_past_96), rfl, h, by rw [ht]; exact hP, va_K.moved hW.alike hK, hD⟩, hS.F ht⟩) hS.2.2 dX9_append_124
        · have h := h.1 c9
          refine lv_aload_n hx hb dX9_append_89 rfl (lv_at hl 0 rfl) ?_
          refine lv_iconst (v := 2) hx hb dX9_append_90 (by decide) ?_
          refine cVi (As := [.int 2]) (rest := []) (wc := [(a_t, .inr (7, [.ref a_t_v, .ref a_t_past, .ref a_t_costs, .int t_edits, .int 0, .ref a_t_into, .ref a_t_isNeeded, .ref a_t_depths, .ref a_t_names, .ref a_t_out, .int t_outs, .ref a_t_has]))]) (wr := [(a_t_v, .inl (ca 0, 206, .inl f_t_v)), (a_t_past, .inl (ca 0, 1648, .inl f_t_past))]) (w1 := fun u : Int32 => [(a_t, .inr (7, [.ref a_t_v, .ref a_t_past, .ref a_t_costs, .int t_edits, .int u, .ref a_t_into, .ref a_t_isNeeded, .ref a_t_depths, .ref a_t_names, .ref a_t_out, .int t_outs, .ref a_t_has]))]) (ws2 := fun u : Int32 => [(a_t, .inr (7, [.ref a_t_v, .ref a_t_past, .ref a_t_costs, .int t_edits, .int u, .ref a_t_into, .ref a_t_isNeeded, .ref a_t_depths, .ref a_t_names, .ref a_t_out, .int t_outs, .ref a_t_has])), (a_t_v, .inl (ca 0, 206, .inl f_t_v)), (a_t_past, .inl (ca 0, 1648, .inl f_t_past))]) ⟨hx, hb, hml, hown, hts⟩ (mX9_fails l D ca a_t a_t_v a_t_past a_t_costs a_t_into a_t_isNeeded a_t_depths a_t_names a_t_out a_t_has _ t_edits 0 t_outs 2 _ h) (cwV 1 hts (gV q_933 q_935 qs_33 q_8 q_936) rfl rfl rfl (by decide +kernel) ⟨Nat.le_of_ble_eq_true rfl, Nat.le_of_ble_eq_true rfl⟩) hK hP hD hS hA [0] [1, 2] [2, 0, 1] rfl rfl rfl (by decide) (fun _ => rfl) (ci := 7) (q0 := 0) rfl rfl rfl hl.1 rfl (Nat.le_of_ble_eq_true rfl) dX9_append_91 ⟨Nat.le_of_ble_eq_true rfl, Nat.le_of_ble_eq_true rfl⟩ (fun r_91 u9 H locs h hP hD hS => ?_)
          obtain ⟨t_thrown_91, rfl⟩ : ∃ z, z = u9 := ⟨_, rfl⟩
          have hP : va_P D vwCl [(a_t, .inr (7, [.ref a_t_v, .ref a_t_past, .ref a_t_costs, .int t_edits, .int t_thrown_91, .ref a_t_into, .ref a_t_isNeeded, .ref a_t_depths, .ref a_t_names, .ref a_t_out, .int t_outs, .ref a_t_has])), (a_t_v, .inl (ca 0, 206, .inl f_t_v)), (a_t_past, .inl (ca 0, 1648, .inl f_t_past))] H := hP
          have hD : va_D A [(a_t, .inr (7, [.ref a_t_v, .ref a_t_past, .ref a_t_costs, .int t_edits, .int t_thrown_91, .ref a_t_into, .ref a_t_isNeeded, .ref a_t_depths, .ref a_t_names, .ref a_t_out, .int t_outs, .ref a_t_has])), (a_t_v, .inl (ca 0, 206, .inl f_t_v)), (a_t_past, .inl (ca 0, 1648, .inl f_t_past))] := hD
          try dsimp only at h
          exact W.iret (v := r_91) hx hb hr (fun t ht hW => ⟨⟨r_91, (t_edits, t_thrown_91, f_t_v, f_t_past), rfl, h, by rw [ht]; exact hP, va_K.moved hW.alike hK, hD⟩, hS.F ht⟩) hS.2.2 dX9_append_94
      refine lv_if_eq (tgt := 78) hx hb dX9_append_53 (by decide) (fun c9 => ?_) (fun c9 => ?_)
      · have h := h.1 c9
        exact hJ78 _ _ _ hP hD hS (lv_sub hl [1, 2, 3, 4, 5, 6] rfl) h
      · have h := h.2 c9
        refine lv_iload hx hb dX9_append_56 (lv_at hl 5 rfl) ?_
        refine lv_if_eq (tgt := 72) hx hb dX9_append_58 (by decide) (fun c9 => ?_) (fun c9 => ?_)
        · have h := h.1 c9
          exact hJ72 _ _ _ hP hD hS (lv_sub hl [1] rfl) h
        · have h := h.2 c9
          refine lv_iload hx hb dX9_append_61 (lv_at hl 6 rfl) ?_
          refine lv_aload_n hx hb dX9_append_63 rfl (lv_at hl 1 rfl) ?_
          refine va_get (D := D) (ci := 7) (v := .ref a_t_v) (C := RX9) (T := TX9) (N := 12) hx hb hq inX9g hown hK hP 0 rfl rfl 0 (by decide) (hq _ q_881) (fun _ h9 => h9) rfl dX9_append_64 ?_
          refine lv_iconst (v := 0) hx hb dX9_append_67 (by decide) ?_
          obtain ⟨hi9, h⟩ := h
          refine va_iald hx hb hK hP 1 0 rfl rfl hi9 dX9_append_68 ?_
          refine lv_icmp_lt (tgt := 78) hx hb dX9_append_69 (by decide) (fun c9 => ?_) (fun c9 => ?_)
          · have h := h.1 c9
            exact hJ78 _ _ _ hP hD hS (lv_sub hl [1, 2, 3, 4, 5, 6] rfl) h
          · have h := h.2 c9
            exact hJ72 _ _ _ hP hD hS (lv_sub hl [1] rfl) h
  have hJ41 : ∀ (H : Heap) (locs : List Loc) (ls : Array Slot), va_P D vwCl [(a_t, .inr (7, [.ref a_t_v, .ref a_t_past, .ref a_t_costs, .int t_edits, .int 0, .ref a_t_into, .ref a_t_isNeeded, .ref a_t_depths, .ref a_t_names, .ref a_t_out, .int t_outs, .ref a_t_has])), (a_t_v, .inl (ca 0, 206, .inl f_t_v)), (a_t_past, .inl (ca 0, 1648, .inl f_t_past))] H → va_D A [(a_t, .inr (7, [.ref a_t_v, .ref a_t_past, .ref a_t_costs, .int t_edits, .int 0, .ref a_t_into, .ref a_t_isNeeded, .ref a_t_depths, .ref a_t_names, .ref a_t_out, .int t_outs, .ref a_t_has])), (a_t_v, .inl (ca 0, 206, .inl f_t_v)), (a_t_past, .inl (ca 0, 1648, .inl f_t_past))] → va_S A s.heap H locs → lv_has ls 7 [(0, .ref a_t), (1, .int x1), (2, .int x2), (3, .int x3), (4, .int x4), (5, .int x5)] → wX9_append_41 t_edits f_t_v f_t_past x1 x2 x3 x4 x5 Q → W p l e (headSpec (Cond.code yX9_append cX9_append 7 (some .int) :: wsG) ({ frames := 3, cells := 0, slots := 0, locals := 62 } : Room)).room s m ([.ref a_t, .int x1, .int x2, .int x3, .int x4, .int x5] : List Value).toArray below meth c H locs 0 0 (MQ below (qX9_append D ca a_t a_t_v a_t_past a_t_costs a_t_into a_t_isNeeded a_t_depths a_t_names a_t_out a_t_has t_outs Q A) ([.ref a_t, .int x1, .int x2, .int x3, .int x4, .int x5] : List Value).toArray s 0 0 A) (F0 m 41 ls []) := by
    intro  H locs ls hP hD hS hl h
    unfold wX9_append_41 at h
    refine lv_iconst (v := 0) hx hb dX9_append_41 (by decide) ?_
    exact hJ42 0 _ _ _ hP hD hS (lv_sub hl [0, 1, 2, 3, 4, 5] rfl) h
  refine lv_if_eq (tgt := 41) hx hb dX9_append_14 (by decide) (fun c9 => ?_) (fun c9 => ?_)
  · have h := h.1 c9
    exact hJ41 _ _ _ hP hD hS (lv_sub hl [0, 1, 2, 3, 4, 5] rfl) h
  · have h := h.2 c9
    refine lv_aload_n hx hb dX9_append_17 rfl (lv_at hl 0 rfl) ?_
    refine lv_iload_n hx hb dX9_append_18 rfl (lv_at hl 2 rfl) ?_
    refine lv_iload_n hx hb dX9_append_19 rfl (lv_at hl 3 rfl) ?_
    refine cVi (As := [.int x2, .int x3]) (rest := []) (wc := [(a_t, .inr (7, [.ref a_t_v, .ref a_t_past, .ref a_t_costs, .int t_edits, .int 0, .ref a_t_into, .ref a_t_isNeeded, .ref a_t_depths, .ref a_t_names, .ref a_t_out, .int t_outs, .ref a_t_has])), (a_t_v, .inl (ca 0, 206, .inl f_t_v))]) (wr := [(a_t_past, .inl (ca 0, 1648, .inl f_t_past))]) (w1 := fun _ : Unit => [(a_t, .inr (7, [.ref a_t_v, .ref a_t_past, .ref a_t_costs, .int t_edits, .int 0, .ref a_t_into, .ref a_t_isNeeded, .ref a_t_depths, .ref a_t_names, .ref a_t_out, .int t_outs, .ref a_t_has])), (a_t_v, .inl (ca 0, 206, .inl f_t_v))]) (ws2 := fun _ : Unit => [(a_t, .inr (7, [.ref a_t_v, .ref a_t_past, .ref a_t_costs, .int t_edits, .int 0, .ref a_t_into, .ref a_t_isNeeded, .ref a_t_depths, .ref a_t_names, .ref a_t_out, .int t_outs, .ref a_t_has])), (a_t_v, .inl (ca 0, 206, .inl f_t_v)), (a_t_past, .inl (ca 0, 1648, .inl f_t_past))]) ⟨hx, hb, hml, hown, hts⟩ (mX9_isOperand l D ca a_t a_t_v a_t_past a_t_costs a_t_into a_t_isNeeded a_t_depths a_t_names a_t_out a_t_has _ t_edits 0 t_outs f_t_v x2 x3 _ h) (cwV 2 hts (gV q_1079 q_1081 qs_54 q_8 q_1082) rfl rfl rfl (by decide +kernel) ⟨Nat.le_of_ble_eq_true rfl, Nat.le_of_ble_eq_true rfl⟩) hK hP hD hS hA [0, 1] [2] [1, 2, 0] rfl rfl rfl (by decide) (fun _ => rfl) (ci := 7) (q0 := 0) rfl rfl rfl hl.1 rfl (Nat.le_of_ble_eq_true rfl) dX9_append_20 ⟨Nat.le_of_ble_eq_true rfl, Nat.le_of_ble_eq_true rfl⟩ (fun r_20 u9 H locs h hP hD hS => ?_)
    try dsimp only at h
    refine lv_if_eq (tgt := 41) hx hb dX9_append_23 (by decide) (fun c9 => ?_) (fun c9 => ?_)
    · have h := h.1 c9
      exact hJ41 _ _ _ hP hD hS (lv_sub hl [0, 1, 2, 3, 4, 5] rfl) h
    · have h := h.2 c9
      refine lv_aload_n hx hb dX9_append_26 rfl (lv_at hl 0 rfl) ?_
      refine lv_iload hx hb dX9_append_27 (lv_at hl 4 rfl) ?_
      refine lv_iload hx hb dX9_append_29 (lv_at hl 5 rfl) ?_
      refine cVi (As := [.int x4, .int x5]) (rest := []) (wc := [(a_t, .inr (7, [.ref a_t_v, .ref a_t_past, .ref a_t_costs, .int t_edits, .int 0, .ref a_t_into, .ref a_t_isNeeded, .ref a_t_depths, .ref a_t_names, .ref a_t_out, .int t_outs, .ref a_t_has])), (a_t_v, .inl (ca 0, 206, .inl f_t_v))]) (wr := [(a_t_past, .inl (ca 0, 1648, .inl f_t_past))]) (w1 := fun _ : Unit => [(a_t, .inr (7, [.ref a_t_v, .ref a_t_past, .ref a_t_costs, .int t_edits, .int 0, .ref a_t_into, .ref a_t_isNeeded, .ref a_t_depths, .ref a_t_names, .ref a_t_out, .int t_outs, .ref a_t_has])), (a_t_v, .inl (ca 0, 206, .inl f_t_v))]) (ws2 := fun _ : Unit => [(a_t, .inr (7, [.ref a_t_v, .ref a_t_past, .ref a_t_costs, .int t_edits, .int 0, .ref a_t_into, .ref a_t_isNeeded, .ref a_t_depths, .ref a_t_names, .ref a_t_out, .int t_outs, .ref a_t_has])), (a_t_v, .inl (ca 0, 206, .inl f_t_v)), (a_t_past, .inl (ca 0, 1648, .inl f_t_past))]) ⟨hx, hb, hml, hown, hts⟩ (mX9_isOperand l D ca a_t a_t_v a_t_past a_t_costs a_t_into a_t_isNeeded a_t_depths a_t_names a_t_out a_t_has _ t_edits 0 t_outs f_t_v x4 x5 _ h) (cwV 2 hts (gV q_1079 q_1081 qs_54 q_8 q_1082) rfl rfl rfl (by decide +kernel) ⟨Nat.le_of_ble_eq_true rfl, Nat.le_of_ble_eq_true rfl⟩) hK hP hD hS hA [0, 1] [2] [1, 2, 0] rfl rfl rfl (by decide) (fun _ => rfl) (ci := 7) (q0 := 0) rfl rfl rfl hl.1 rfl (Nat.le_of_ble_eq_true rfl) dX9_append_31 ⟨Nat.le_of_ble_eq_true rfl, Nat.le_of_ble_eq_true rfl⟩ (fun r_31 u9 H locs h hP hD hS => ?_)
      try dsimp only at h
      refine lv_if_eq (tgt := 41) hx hb dX9_append_34 (by decide) (fun c9 => ?_) (fun c9 => ?_)
      · have h := h.1 c9
        exact hJ41 _ _ _ hP hD hS (lv_sub hl [0, 1, 2, 3, 4, 5] rfl) h
      · have h := h.2 c9
        refine lv_iconst (v := 1) hx hb dX9_append_37 (by decide) ?_
        refine lv_goto (tgt := 42) hx hb dX9_append_38 (by decide) ?_
        exact hJ42 1 _ _ _ hP hD hS (lv_sub hl [0, 1, 2, 3, 4, 5] rfl) h

abbrev qX9_setResult (D : va_G) (ca : Nat → ClassId) (a_t a_t_v a_t_past a_t_costs a_t_into a_t_isNeeded a_t_depths a_t_names a_t_out a_t_has : Nat) (t_outs : Int32) (Q : Int32 → Int32 → Int32 → (Nat → Int32) → (Nat → Int32) → Prop) (A : Nat → Prop) : Array Value → State → Outcome → State → Prop := va_Qi (fun (r : Int32) (u : Int32 × Int32 × (Nat → Int32) × (Nat → Int32)) => Q r u.1 u.2.1 u.2.2.1 u.2.2.2) (wEnd D ca (fun u : Int32 × Int32 × (Nat → Int32) × (Nat → Int32) => [(a_t, .inr (7, [.ref a_t_v, .ref a_t_past, .ref a_t_costs, .int u.1, .int u.2.1, .ref a_t_into, .ref a_t_isNeeded, .ref a_t_depths, .ref a_t_names, .ref a_t_out, .int t_outs, .ref a_t_has])), (a_t_v, .inl (ca 0, 206, .inl u.2.2.1)), (a_t_past, .inl (ca 0, 1648, .inl u.2.2.2))]) A) A
def wX9_setResult (t_edits : Int32) (t_thrown : Int32) (f_t_v : Nat → Int32) (f_t_past : Nat → Int32) (x1 : Int32) (Q : Int32 → Int32 → Int32 → (Nat → Int32) → (Nat → Int32) → Prop) : Prop :=
  (vp_in 3 206 ∧ wX9_in x1.toInt64 0 ((f_t_v (3 : Int32).toNatClampNeg).toInt64) (fun r_15 => ((r_15 = 0 → wX9_fails 0 1 (fun r_23 t_thrown_23 => Q r_23 t_edits t_thrown_23 f_t_v f_t_past)) ∧ (¬ r_15 = 0 → wX9_edits t_edits f_t_v f_t_past (fun t_edits_28 f_t_past_28 => (vp_in 4 206 ∧ (∀ x2_37 : Int32, x2_37 = f_t_v (4 : Int32).toNatClampNeg → (vp_in 4 206 ∧ Q x2_37 t_edits_28 0 (upd f_t_v (4 : Int32).toNatClampNeg x1) f_t_past_28))))))))
set_option maxHeartbeats 4000000 in
set_option maxRecDepth 100000 in
theorem mX9_setResult (l : Launch) (D : va_G) (ca : Nat → ClassId) (a_t a_t_v a_t_past a_t_costs a_t_into a_t_isNeeded a_t_depths a_t_names a_t_out a_t_has : Nat) (sz : Nat) (t_edits : Int32) (t_thrown : Int32) (t_outs : Int32) (f_t_v : Nat → Int32) (f_t_past : Nat → Int32) (x1 : Int32) (Q : Int32 → Int32 → Int32 → (Nat → Int32) → (Nat → Int32) → Prop) (h : wX9_setResult t_edits t_thrown f_t_v f_t_past x1 Q) : Met l yX9_setResult (Cond.code yX9_setResult cX9_setResult 3 (some .int) :: wsG) ({ frames := 1, cells := 0, slots := 0, locals := 25 } : Room) (va_Pc [.ref a_t, .int x1] (wPre D ca [(a_t, .inr (7, [.ref a_t_v, .ref a_t_past, .ref a_t_costs, .int t_edits, .int t_thrown, .ref a_t_into, .ref a_t_isNeeded, .ref a_t_depths, .ref a_t_names, .ref a_t_out, .int t_outs, .ref a_t_has])), (a_t_v, .inl (ca 0, 206, .inl f_t_v)), (a_t_past, .inl (ca 0, 1648, .inl f_t_past))] sz)) (qX9_setResult D ca a_t a_t_v a_t_past a_t_costs a_t_into a_t_isNeeded a_t_depths a_t_names a_t_out a_t_has t_outs Q (va_A [(a_t, .inr (7, [.ref a_t_v, .ref a_t_past, .ref a_t_costs, .int t_edits, .int t_thrown, .ref a_t_into, .ref a_t_isNeeded, .ref a_t_depths, .ref a_t_names, .ref a_t_out, .int t_outs, .ref a_t_has])), (a_t_v, .inl (ca 0, 206, .inl f_t_v)), (a_t_past, .inl (ca 0, 1648, .inl f_t_past))] sz)) 0 0 (va_A [(a_t, .inr (7, [.ref a_t_v, .ref a_t_past, .ref a_t_costs, .int t_edits, .int t_thrown, .ref a_t_into, .ref a_t_isNeeded, .ref a_t_depths, .ref a_t_names, .ref a_t_out, .int t_outs, .ref a_t_has])), (a_t_v, .inl (ca 0, 206, .inl f_t_v)), (a_t_past, .inl (ca 0, 1648, .inl f_t_past))] sz) := by
  refine Met.ofW (cc := cX9_setResult) (maxL := 3) (ret := (some .int)) (by decide) rfl ?_
  intro p e s m args below meth c s₁ B hml hv
  obtain ⟨rfl, hsz, hP, hK, hD0⟩ := hv
  have hx := B.exec
  have hb := B.bytes
  have hr := B.returns
  have hts := atoms_spec (ws := (Cond.code yX9_setResult cX9_setResult 3 (some .int) :: wsG)) B.pre
  have hq : ∀ w ∈ wsG, w.before _ s = true := fun w hw => hts w (List.mem_cons_of_mem _ hw)
  have hown : s.vm.findClass RX9 = some m.cls := findClass_of_methodNamed B.named
  have hlocks := B.notSynchronized
  subst hsz
  have hD := hD0.self (sz := s.heap.size)
  generalize hAe : va_A [(a_t, .inr (7, [.ref a_t_v, .ref a_t_past, .ref a_t_costs, .int t_edits, .int t_thrown, .ref a_t_into, .ref a_t_isNeeded, .ref a_t_depths, .ref a_t_names, .ref a_t_out, .int t_outs, .ref a_t_has])), (a_t_v, .inl (ca 0, 206, .inl f_t_v)), (a_t_past, .inl (ca 0, 1648, .inl f_t_past))] s.heap.size = A at hD ⊢
  have hA : ∀ q : Nat, s.heap.size ≤ q → A q := fun q h => by rw [← hAe]; exact Or.inr h
  have hS : va_S A s.heap s.heap [] := va_S.rf
  have hP : va_P D vwCl [(a_t, .inr (7, [.ref a_t_v, .ref a_t_past, .ref a_t_costs, .int t_edits, .int t_thrown, .ref a_t_into, .ref a_t_isNeeded, .ref a_t_depths, .ref a_t_names, .ref a_t_out, .int t_outs, .ref a_t_has])), (a_t_v, .inl (ca 0, 206, .inl f_t_v)), (a_t_past, .inl (ca 0, 1648, .inl f_t_past))] s.heap := hP
  have hl := lv_entry ([.ref a_t, .int x1]) (n := 3) (Nat.le_of_ble_eq_true rfl)
  rw [lg_entry_eq]
  generalize (lg_sl ([.ref a_t, .int x1]) ++ List.replicate (3 - (lg_sl ([.ref a_t, .int x1])).length) Slot.unset).toArray = ls at hl ⊢
  have hl : lv_has ls 3 [(0, .ref a_t), (1, .int x1)] := hl
  unfold wX9_setResult at h
  refine lv_aload_n hx hb dX9_setResult_0 rfl (lv_at hl 0 rfl) ?_
  refine lv_iconst (v := 0) hx hb dX9_setResult_1 (by decide) ?_
  refine va_put (D := D) (ci := 7) (v := .int 0) (ty := .int) (C := RX9) (T := TX9) (N := 12) hx hb hq inX9g tyX9 tyX9_ok nmX9 hown hK hP hD hS 0 rfl rfl 4 (by decide) (hq _ q_885) (fun _ h9 => h9) rfl (by decide +kernel) rfl rfl (Nat.le_of_ble_eq_true rfl) dX9_setResult_2 (fun H locs hP hD hS => ?_)
  have hP : va_P D vwCl [(a_t, .inr (7, [.ref a_t_v, .ref a_t_past, .ref a_t_costs, .int t_edits, .int 0, .ref a_t_into, .ref a_t_isNeeded, .ref a_t_depths, .ref a_t_names, .ref a_t_out, .int t_outs, .ref a_t_has])), (a_t_v, .inl (ca 0, 206, .inl f_t_v)), (a_t_past, .inl (ca 0, 1648, .inl f_t_past))] H := hP
  have hD : va_D A [(a_t, .inr (7, [.ref a_t_v, .ref a_t_past, .ref a_t_costs, .int t_edits, .int 0, .ref a_t_into, .ref a_t_isNeeded, .ref a_t_depths, .ref a_t_names, .ref a_t_out, .int t_outs, .ref a_t_has])), (a_t_v, .inl (ca 0, 206, .inl f_t_v)), (a_t_past, .inl (ca 0, 1648, .inl f_t_past))] := hD
  refine lv_iload_n hx hb dX9_setResult_5 rfl (lv_at hl 1 rfl) ?_
  refine lv_i2l hx hb dX9_setResult_6 rfl ?_
  refine lv_lconst (v := 0) hx hb dX9_setResult_7 (by decide) ?_
  refine lv_aload_n hx hb dX9_setResult_8 rfl (lv_at hl 0 rfl) ?_
  refine va_get (D := D) (ci := 7) (v := .ref a_t_v) (C := RX9) (T := TX9) (N := 12) hx hb hq inX9g hown hK hP 0 rfl rfl 0 (by decide) (hq _ q_881) (fun _ h9 => h9) rfl dX9_setResult_9 ?_
  refine lv_iconst (v := 3) hx hb dX9_setResult_12 (by decide) ?_
  obtain ⟨hi9, h⟩ := h
  refine va_iald hx hb hK hP 1 0 rfl rfl hi9 dX9_setResult_13 ?_
  refine lv_i2l hx hb dX9_setResult_14 rfl ?_
  refine cPi (As := [.long x1.toInt64, .long 0, .long ((f_t_v (3 : Int32).toNatClampNeg).toInt64)]) (rest := []) ⟨hx, hb, hml, hown, hts⟩ (mX9_in l x1.toInt64 0 ((f_t_v (3 : Int32).toNatClampNeg).toInt64) _ h) (va_cwS 3 hts (gS q_930 q_931 q_8 q_932) rfl rfl rfl (by decide +kernel) ⟨Nat.le_of_ble_eq_true rfl, Nat.le_of_ble_eq_true rfl⟩) hS rfl hl.1 rfl (Nat.le_of_ble_eq_true rfl) dX9_setResult_15 ⟨Nat.le_of_ble_eq_true rfl, Nat.le_of_ble_eq_true rfl⟩ (fun r_15 H1 locs h hk1 hS => ?_)
  have hP := s_back hP hk1
  try dsimp only at h
  refine lv_if_ne (tgt := 27) hx hb dX9_setResult_18 (by decide) (fun c9 => ?_) (fun c9 => ?_)
  · have h := h.2 c9
    refine lv_aload_n hx hb dX9_setResult_27 rfl (lv_at hl 0 rfl) ?_
    refine cVv (As := []) (rest := []) (wc := [(a_t, .inr (7, [.ref a_t_v, .ref a_t_past, .ref a_t_costs, .int t_edits, .int 0, .ref a_t_into, .ref a_t_isNeeded, .ref a_t_depths, .ref a_t_names, .ref a_t_out, .int t_outs, .ref a_t_has])), (a_t_v, .inl (ca 0, 206, .inl f_t_v)), (a_t_past, .inl (ca 0, 1648, .inl f_t_past))]) (wr := []) (w1 := fun u : Int32 × (Nat → Int32) => [(a_t, .inr (7, [.ref a_t_v, .ref a_t_past, .ref a_t_costs, .int u.1, .int 0, .ref a_t_into, .ref a_t_isNeeded, .ref a_t_depths, .ref a_t_names, .ref a_t_out, .int t_outs, .ref a_t_has])), (a_t_v, .inl (ca 0, 206, .inl f_t_v)), (a_t_past, .inl (ca 0, 1648, .inl u.2))]) (ws2 := fun u : Int32 × (Nat → Int32) => [(a_t, .inr (7, [.ref a_t_v, .ref a_t_past, .ref a_t_costs, .int u.1, .int 0, .ref a_t_into, .ref a_t_isNeeded, .ref a_t_depths, .ref a_t_names, .ref a_t_out, .int t_outs, .ref a_t_has])), (a_t_v, .inl (ca 0, 206, .inl f_t_v)), (a_t_past, .inl (ca 0, 1648, .inl u.2))]) ⟨hx, hb, hml, hown, hts⟩ (mX9_edits l D ca a_t a_t_v a_t_past a_t_costs a_t_into a_t_isNeeded a_t_depths a_t_names a_t_out a_t_has _ t_edits 0 t_outs f_t_v f_t_past _ h) (cwV 0 hts (gV q_937 q_939 qs_34 q_8 q_940) rfl rfl rfl (by decide +kernel) ⟨Nat.le_of_ble_eq_true rfl, Nat.le_of_ble_eq_true rfl⟩) hK hP hD hS hA [0, 1, 2] [] [0, 1, 2] rfl rfl rfl (by decide) (fun _ => rfl) (ci := 7) (q0 := 0) rfl rfl rfl hl.1 rfl (Nat.le_of_ble_eq_true rfl) dX9_setResult_28 ⟨Nat.le_of_ble_eq_true rfl, Nat.le_of_ble_eq_true rfl⟩ (fun u9 H locs h hP hD hS => ?_)
    obtain ⟨t_edits_28, f_t_past_28⟩ := u9
    have hP : va_P D vwCl [(a_t, .inr (7, [.ref a_t_v, .ref a_t_past, .ref a_t_costs, .int t_edits_28, .int 0, .ref a_t_into, .ref a_t_isNeeded, .ref a_t_depths, .ref a_t_names, .ref a_t_out, .int t_outs, .ref a_t_has])), (a_t_v, .inl (ca 0, 206, .inl f_t_v)), (a_t_past, .inl (ca 0, 1648, .inl f_t_past_28))] H := hP
    have hD : va_D A [(a_t, .inr (7, [.ref a_t_v, .ref a_t_past, .ref a_t_costs, .int t_edits_28, .int 0, .ref a_t_into, .ref a_t_isNeeded, .ref a_t_depths, .ref a_t_names, .ref a_t_out, .int t_outs, .ref a_t_has])), (a_t_v, .inl (ca 0, 206, .inl f_t_v)), (a_t_past, .inl (ca 0, 1648, .inl f_t_past_28))] := hD
    try dsimp only at h
    refine lv_aload_n hx hb dX9_setResult_31 rfl (lv_at hl 0 rfl) ?_
    refine va_get (D := D) (ci := 7) (v := .ref a_t_v) (C := RX9) (T := TX9) (N := 12) hx hb hq inX9g hown hK hP 0 rfl rfl 0 (by decide) (hq _ q_881) (fun _ h9 => h9) rfl dX9_setResult_32 ?_
    refine lv_iconst (v := 4) hx hb dX9_setResult_35 (by decide) ?_
    obtain ⟨hi9, h⟩ := h
    refine va_iald hx hb hK hP 1 0 rfl rfl hi9 dX9_setResult_36 ?_
    refine lv_topi (fun x2_37 ex2_37 => ?_)
    have h := h x2_37 ex2_37
    refine lv_istore_n (lv' := [(2, .int x2_37), (0, .ref a_t), (1, .int x1)]) hx hb dX9_setResult_37 rfl hl (by decide) rfl (fun ls hl => ?_)
    refine lv_aload_n hx hb dX9_setResult_38 rfl (lv_at hl 1 rfl) ?_
    refine va_get (D := D) (ci := 7) (v := .ref a_t_v) (C := RX9) (T := TX9) (N := 12) hx hb hq inX9g hown hK hP 0 rfl rfl 0 (by decide) (hq _ q_881) (fun _ h9 => h9) rfl dX9_setResult_39 ?_
    refine lv_iconst (v := 4) hx hb dX9_setResult_42 (by decide) ?_
    refine lv_iload_n hx hb dX9_setResult_43 rfl (lv_at hl 2 rfl) ?_
    obtain ⟨hi9, h⟩ := h
    refine va_iast hx hb hK hP hD hS 1 0 rfl rfl hi9 dX9_setResult_44 (fun H locs hP hD hS => ?_)
    have hP : va_P D vwCl [(a_t, .inr (7, [.ref a_t_v, .ref a_t_past, .ref a_t_costs, .int t_edits_28, .int 0, .ref a_t_into, .ref a_t_isNeeded, .ref a_t_depths, .ref a_t_names, .ref a_t_out, .int t_outs, .ref a_t_has])), (a_t_v, .inl (ca 0, 206, .inl (upd f_t_v (4 : Int32).toNatClampNeg x1))), (a_t_past, .inl (ca 0, 1648, .inl f_t_past_28))] H := hP
    have hD : va_D A [(a_t, .inr (7, [.ref a_t_v, .ref a_t_past, .ref a_t_costs, .int t_edits_28, .int 0, .ref a_t_into, .ref a_t_isNeeded, .ref a_t_depths, .ref a_t_names, .ref a_t_out, .int t_outs, .ref a_t_has])), (a_t_v, .inl (ca 0, 206, .inl (upd f_t_v (4 : Int32).toNatClampNeg x1))), (a_t_past, .inl (ca 0, 1648, .inl f_t_past_28))] := hD
    refine lv_iload_n hx hb dX9_setResult_45 rfl (lv_at hl 0 rfl) ?_
    exact W.iret (v := x2_37) hx hb hr (fun t ht hW => ⟨⟨x2_37, (t_edits_28, 0, upd f_t_v (4 : Int32).toNatClampNeg x1, f_t_past_28), rfl, h, by rw [ht]; exact hP, va_K.moved hW.alike hK, hD⟩, hS.F ht⟩) hS.2.2 dX9_setResult_46
  · have h := h.1 c9
    refine lv_aload_n hx hb dX9_setResult_21 rfl (lv_at hl 0 rfl) ?_
    refine lv_iconst (v := 1) hx hb dX9_setResult_22 (by decide) ?_
    refine cVi (As := [.int 1]) (rest := []) (wc := [(a_t, .inr (7, [.ref a_t_v, .ref a_t_past, .ref a_t_costs, .int t_edits, .int 0, .ref a_t_into, .ref a_t_isNeeded, .ref a_t_depths, .ref a_t_names, .ref a_t_out, .int t_outs, .ref a_t_has]))]) (wr := [(a_t_v, .inl (ca 0, 206, .inl f_t_v)), (a_t_past, .inl (ca 0, 1648, .inl f_t_past))]) (w1 := fun u : Int32 => [(a_t, .inr (7, [.ref a_t_v, .ref a_t_past, .ref a_t_costs, .int t_edits, .int u, .ref a_t_into, .ref a_t_isNeeded, .ref a_t_depths, .ref a_t_names, .ref a_t_out, .int t_outs, .ref a_t_has]))]) (ws2 := fun u : Int32 => [(a_t, .inr (7, [.ref a_t_v, .ref a_t_past, .ref a_t_costs, .int t_edits, .int u, .ref a_t_into, .ref a_t_isNeeded, .ref a_t_depths, .ref a_t_names, .ref a_t_out, .int t_outs, .ref a_t_has])), (a_t_v, .inl (ca 0, 206, .inl f_t_v)), (a_t_past, .inl (ca 0, 1648, .inl f_t_past))]) ⟨hx, hb, hml, hown, hts⟩ (mX9_fails l D ca a_t a_t_v a_t_past a_t_costs a_t_into a_t_isNeeded a_t_depths a_t_names a_t_out a_t_has _ t_edits 0 t_outs 1 _ h) (cwV 1 hts (gV q_933 q_935 qs_33 q_8 q_936) rfl rfl rfl (by decide +kernel) ⟨Nat.le_of_ble_eq_true rfl, Nat.le_of_ble_eq_true rfl⟩) hK hP hD hS hA [0] [1, 2] [2, 0, 1] rfl rfl rfl (by decide) (fun _ => rfl) (ci := 7) (q0 := 0) rfl rfl rfl hl.1 rfl (Nat.le_of_ble_eq_true rfl) dX9_setResult_23 ⟨Nat.le_of_ble_eq_true rfl, Nat.le_of_ble_eq_true rfl⟩ (fun r_23 u9 H locs h hP hD hS => ?_)
    obtain ⟨t_thrown_23, rfl⟩ : ∃ z, z = u9 := ⟨_, rfl⟩
    have hP : va_P D vwCl [(a_t, .inr (7, [.ref a_t_v, .ref a_t_past, .ref a_t_costs, .int t_edits, .int t_thrown_23, .ref a_t_into, .ref a_t_isNeeded, .ref a_t_depths, .ref a_t_names, .ref a_t_out, .int t_outs, .ref a_t_has])), (a_t_v, .inl (ca 0, 206, .inl f_t_v)), (a_t_past, .inl (ca 0, 1648, .inl f_t_past))] H := hP
    have hD : va_D A [(a_t, .inr (7, [.ref a_t_v, .ref a_t_past, .ref a_t_costs, .int t_edits, .int t_thrown_23, .ref a_t_into, .ref a_t_isNeeded, .ref a_t_depths, .ref a_t_names, .ref a_t_out, .int t_outs, .ref a_t_has])), (a_t_v, .inl (ca 0, 206, .inl f_t_v)), (a_t_past, .inl (ca 0, 1648, .inl f_t_past))] := hD
    try dsimp only at h
    exact W.iret (v := r_23) hx hb hr (fun t ht hW => ⟨⟨r_23, (t_edits, t_thrown_23, f_t_v, f_t_past), rfl, h, by rw [ht]; exact hP, va_K.moved hW.alike hK, hD⟩, hS.F ht⟩) hS.2.2 dX9_setResult_26

abbrev qX9_drop (D : va_G) (ca : Nat → ClassId) (a_t a_t_v a_t_past a_t_costs a_t_into a_t_isNeeded a_t_depths a_t_names a_t_out a_t_has : Nat) (t_outs : Int32) (Q : Int32 → Int32 → Int32 → (Nat → Int32) → (Nat → Int32) → Prop) (A : Nat → Prop) : Array Value → State → Outcome → State → Prop := va_Qi (fun (r : Int32) (u : Int32 × Int32 × (Nat → Int32) × (Nat → Int32)) => Q r u.1 u.2.1 u.2.2.1 u.2.2.2) (wEnd D ca (fun u : Int32 × Int32 × (Nat → Int32) × (Nat → Int32) => [(a_t, .inr (7, [.ref a_t_v, .ref a_t_past, .ref a_t_costs, .int u.1, .int u.2.1, .ref a_t_into, .ref a_t_isNeeded, .ref a_t_depths, .ref a_t_names, .ref a_t_out, .int t_outs, .ref a_t_has])), (a_t_v, .inl (ca 0, 206, .inl u.2.2.1)), (a_t_past, .inl (ca 0, 1648, .inl u.2.2.2))]) A) A
def wX9_drop_69 (f_t_v : Nat → Int32) (Q : Int32 → Int32 → Int32 → (Nat → Int32) → (Nat → Int32) → Prop) (t_edits_21 : Int32) (f_t_past_21 : Nat → Int32) (y2_69 : Int32) : Prop :=
  (vp_in 4 206 ∧ (vp_in 3 206 ∧ Q ((upd (upd f_t_v (3 : Int32).toNatClampNeg ((f_t_v (3 : Int32).toNatClampNeg) - 1)) (4 : Int32).toNatClampNeg y2_69) (3 : Int32).toNatClampNeg) t_edits_21 0 (upd (upd f_t_v (3 : Int32).toNatClampNeg ((f_t_v (3 : Int32).toNatClampNeg) - 1)) (4 : Int32).toNatClampNeg y2_69) f_t_past_21))
def wX9_drop (t_edits : Int32) (t_thrown : Int32) (f_t_v : Nat → Int32) (f_t_past : Nat → Int32) (Q : Int32 → Int32 → Int32 → (Nat → Int32) → (Nat → Int32) → Prop) : Prop :=
  (vp_in 3 206 ∧ (((f_t_v (3 : Int32).toNatClampNeg) = 0 → wX9_fails 0 1 (fun r_16 t_thrown_16 => Q r_16 t_edits t_thrown_16 f_t_v f_t_past)) ∧ (¬ (f_t_v (3 : Int32).toNatClampNeg) = 0 → wX9_edits t_edits f_t_v f_t_past (fun t_edits_21 f_t_past_21 => (vp_in 3 206 ∧ (vp_in 3 206 ∧ (vp_in 4 206 ∧ (vp_in 3 206 ∧ (((upd f_t_v (3 : Int32).toNatClampNeg ((f_t_v (3 : Int32).toNatClampNeg) - 1)) (4 : Int32).toNatClampNeg ≤ ((upd f_t_v (3 : Int32).toNatClampNeg ((f_t_v (3 : Int32).toNatClampNeg) - 1)) (3 : Int32).toNatClampNeg) → (vp_in 4 206 ∧ wX9_drop_69 f_t_v Q t_edits_21 f_t_past_21 ((upd f_t_v (3 : Int32).toNatClampNeg ((f_t_v (3 : Int32).toNatClampNeg) - 1)) (4 : Int32).toNatClampNeg))) ∧ (¬ (upd f_t_v (3 : Int32).toNatClampNeg ((f_t_v (3 : Int32).toNatClampNeg) - 1)) (4 : Int32).toNatClampNeg ≤ ((upd f_t_v (3 : Int32).toNatClampNeg ((f_t_v (3 : Int32).toNatClampNeg) - 1)) (3 : Int32).toNatClampNeg) → (vp_in 3 206 ∧ wX9_drop_69 f_t_v Q t_edits_21 f_t_past_21 ((upd f_t_v (3 : Int32).toNatClampNeg ((f_t_v (3 : Int32).toNatClampNeg) - 1)) (3 : Int32).toNatClampNeg))))))))))))
set_option maxHeartbeats 4000000 in
set_option maxRecDepth 100000 in
theorem mX9_drop (l : Launch) (D : va_G) (ca : Nat → ClassId) (a_t a_t_v a_t_past a_t_costs a_t_into a_t_isNeeded a_t_depths a_t_names a_t_out a_t_has : Nat) (sz : Nat) (t_edits : Int32) (t_thrown : Int32) (t_outs : Int32) (f_t_v : Nat → Int32) (f_t_past : Nat → Int32) (Q : Int32 → Int32 → Int32 → (Nat → Int32) → (Nat → Int32) → Prop) (h : wX9_drop t_edits t_thrown f_t_v f_t_past Q) : Met l yX9_drop (Cond.code yX9_drop cX9_drop 1 (some .int) :: wsG) ({ frames := 1, cells := 0, slots := 0, locals := 21 } : Room) (va_Pc [.ref a_t] (wPre D ca [(a_t, .inr (7, [.ref a_t_v, .ref a_t_past, .ref a_t_costs, .int t_edits, .int t_thrown, .ref a_t_into, .ref a_t_isNeeded, .ref a_t_depths, .ref a_t_names, .ref a_t_out, .int t_outs, .ref a_t_has])), (a_t_v, .inl (ca 0, 206, .inl f_t_v)), (a_t_past, .inl (ca 0, 1648, .inl f_t_past))] sz)) (qX9_drop D ca a_t a_t_v a_t_past a_t_costs a_t_into a_t_isNeeded a_t_depths a_t_names a_t_out a_t_has t_outs Q (va_A [(a_t, .inr (7, [.ref a_t_v, .ref a_t_past, .ref a_t_costs, .int t_edits, .int t_thrown, .ref a_t_into, .ref a_t_isNeeded, .ref a_t_depths, .ref a_t_names, .ref a_t_out, .int t_outs, .ref a_t_has])), (a_t_v, .inl (ca 0, 206, .inl f_t_v)), (a_t_past, .inl (ca 0, 1648, .inl f_t_past))] sz)) 0 0 (va_A [(a_t, .inr (7, [.ref a_t_v, .ref a_t_past, .ref a_t_costs, .int t_edits, .int t_thrown, .ref a_t_into, .ref a_t_isNeeded, .ref a_t_depths, .ref a_t_names, .ref a_t_out, .int t_outs, .ref a_t_has])), (a_t_v, .inl (ca 0, 206, .inl f_t_v)), (a_t_past, .inl (ca 0, 1648, .inl f_t_past))] sz) := by
  refine Met.ofW (cc := cX9_drop) (maxL := 1) (ret := (some .int)) (by decide) rfl ?_
  intro p e s m args below meth c s₁ B hml hv
  obtain ⟨rfl, hsz, hP, hK, hD0⟩ := hv
  have hx := B.exec
  have hb := B.bytes
  have hr := B.returns
  have hts := atoms_spec (ws := (Cond.code yX9_drop cX9_drop 1 (some .int) :: wsG)) B.pre
  have hq : ∀ w ∈ wsG, w.before _ s = true := fun w hw => hts w (List.mem_cons_of_mem _ hw)
  have hown : s.vm.findClass RX9 = some m.cls := findClass_of_methodNamed B.named
  have hlocks := B.notSynchronized
  subst hsz
  have hD := hD0.self (sz := s.heap.size)
  generalize hAe : va_A [(a_t, .inr (7, [.ref a_t_v, .ref a_t_past, .ref a_t_costs, .int t_edits, .int t_thrown, .ref a_t_into, .ref a_t_isNeeded, .ref a_t_depths, .ref a_t_names, .ref a_t_out, .int t_outs, .ref a_t_has])), (a_t_v, .inl (ca 0, 206, .inl f_t_v)), (a_t_past, .inl (ca 0, 1648, .inl f_t_past))] s.heap.size = A at hD ⊢
  have hA : ∀ q : Nat, s.heap.size ≤ q → A q := fun q h => by rw [← hAe]; exact Or.inr h
  have hS : va_S A s.heap s.heap [] := va_S.rf
  have hP : va_P D vwCl [(a_t, .inr (7, [.ref a_t_v, .ref a_t_past, .ref a_t_costs, .int t_edits, .int t_thrown, .ref a_t_into, .ref a_t_isNeeded, .ref a_t_depths, .ref a_t_names, .ref a_t_out, .int t_outs, .ref a_t_has])), (a_t_v, .inl (ca 0, 206, .inl f_t_v)), (a_t_past, .inl (ca 0, 1648, .inl f_t_past))] s.heap := hP
  have hl := lv_entry ([.ref a_t]) (n := 1) (Nat.le_of_ble_eq_true rfl)
  rw [lg_entry_eq]
  generalize (lg_sl ([.ref a_t]) ++ List.replicate (1 - (lg_sl ([.ref a_t])).length) Slot.unset).toArray = ls at hl ⊢
  have hl : lv_has ls 1 [(0, .ref a_t)] := hl
  unfold wX9_drop at h
  refine lv_aload_n hx hb dX9_drop_0 rfl (lv_at hl 0 rfl) ?_
  refine lv_iconst (v := 0) hx hb dX9_drop_1 (by decide) ?_
  refine va_put (D := D) (ci := 7) (v := .int 0) (ty := .int) (C := RX9) (T := TX9) (N := 12) hx hb hq inX9g tyX9 tyX9_ok nmX9 hown hK hP hD hS 0 rfl rfl 4 (by decide) (hq _ q_885) (fun _ h9 => h9) rfl (by decide +kernel) rfl rfl (Nat.le_of_ble_eq_true rfl) dX9_drop_2 (fun H locs hP hD hS => ?_)
  have hP : va_P D vwCl [(a_t, .inr (7, [.ref a_t_v, .ref a_t_past, .ref a_t_costs, .int t_edits, .int 0, .ref a_t_into, .ref a_t_isNeeded, .ref a_t_depths, .ref a_t_names, .ref a_t_out, .int t_outs, .ref a_t_has])), (a_t_v, .inl (ca 0, 206, .inl f_t_v)), (a_t_past, .inl (ca 0, 1648, .inl f_t_past))] H := hP
  have hD : va_D A [(a_t, .inr (7, [.ref a_t_v, .ref a_t_past, .ref a_t_costs, .int t_edits, .int 0, .ref a_t_into, .ref a_t_isNeeded, .ref a_t_depths, .ref a_t_names, .ref a_t_out, .int t_outs, .ref a_t_has])), (a_t_v, .inl (ca 0, 206, .inl f_t_v)), (a_t_past, .inl (ca 0, 1648, .inl f_t_past))] := hD
  refine lv_aload_n hx hb dX9_drop_5 rfl (lv_at hl 0 rfl) ?_
  refine va_get (D := D) (ci := 7) (v := .ref a_t_v) (C := RX9) (T := TX9) (N := 12) hx hb hq inX9g hown hK hP 0 rfl rfl 0 (by decide) (hq _ q_881) (fun _ h9 => h9) rfl dX9_drop_6 ?_
  refine lv_iconst (v := 3) hx hb dX9_drop_9 (by decide) ?_
  obtain ⟨hi9, h⟩ := h
  refine va_iald hx hb hK hP 1 0 rfl rfl hi9 dX9_drop_10 ?_
  refine lv_if_ne (tgt := 20) hx hb dX9_drop_11 (by decide) (fun c9 => ?_) (fun c9 => ?_)
  · have h := h.2 c9
    refine lv_aload_n hx hb dX9_drop_20 rfl (lv_at hl 0 rfl) ?_
    refine cVv (As := []) (rest := []) (wc := [(a_t, .inr (7, [.ref a_t_v, .ref a_t_past, .ref a_t_costs, .int t_edits, .int 0, .ref a_t_into, .ref a_t_isNeeded, .ref a_t_depths, .ref a_t_names, .ref a_t_out, .int t_outs, .ref a_t_has])), (a_t_v, .inl (ca 0, 206, .inl f_t_v)), (a_t_past, .inl (ca 0, 1648, .inl f_t_past))]) (wr := []) (w1 := fun u : Int32 × (Nat → Int32) => [(a_t, .inr (7, [.ref a_t_v, .ref a_t_past, .ref a_t_costs, .int u.1, .int 0, .ref a_t_into, .ref a_t_isNeeded, .ref a_t_depths, .ref a_t_names, .ref a_t_out, .int t_outs, .ref a_t_has])), (a_t_v, .inl (ca 0, 206, .inl f_t_v)), (a_t_past, .inl (ca 0, 1648, .inl u.2))]) (ws2 := fun u : Int32 × (Nat → Int32) => [(a_t, .inr (7, [.ref a_t_v, .ref a_t_past, .ref a_t_costs, .int u.1, .int 0, .ref a_t_into, .ref a_t_isNeeded, .ref a_t_depths, .ref a_t_names, .ref a_t_out, .int t_outs, .ref a_t_has])), (a_t_v, .inl (ca 0, 206, .inl f_t_v)), (a_t_past, .inl (ca 0, 1648, .inl u.2))]) ⟨hx, hb, hml, hown, hts⟩ (mX9_edits l D ca a_t a_t_v a_t_past a_t_costs a_t_into a_t_isNeeded a_t_depths a_t_names a_t_out a_t_has _ t_edits 0 t_outs f_t_v f_t_past _ h) (cwV 0 hts (gV q_937 q_939 qs_34 q_8 q_940) rfl rfl rfl (by decide +kernel) ⟨Nat.le_of_ble_eq_true rfl, Nat.le_of_ble_eq_true rfl⟩) hK hP hD hS hA [0, 1, 2] [] [0, 1, 2] rfl rfl rfl (by decide) (fun _ => rfl) (ci := 7) (q0 := 0) rfl rfl rfl hl.1 rfl (Nat.le_of_ble_eq_true rfl) dX9_drop_21 ⟨Nat.le_of_ble_eq_true rfl, Nat.le_of_ble_eq_true rfl⟩ (fun u9 H locs h hP hD hS => ?_)
    obtain ⟨t_edits_21, f_t_past_21⟩ := u9
    have hP : va_P D vwCl [(a_t, .inr (7, [.ref a_t_v, .ref a_t_past, .ref a_t_costs, .int t_edits_21, .int 0, .ref a_t_into, .ref a_t_isNeeded, .ref a_t_depths, .ref a_t_names, .ref a_t_out, .int t_outs, .ref a_t_has])), (a_t_v, .inl (ca 0, 206, .inl f_t_v)), (a_t_past, .inl (ca 0, 1648, .inl f_t_past_21))] H := hP
    have hD : va_D A [(a_t, .inr (7, [.ref a_t_v, .ref a_t_past, .ref a_t_costs, .int t_edits_21, .int 0, .ref a_t_into, .ref a_t_isNeeded, .ref a_t_depths, .ref a_t_names, .ref a_t_out, .int t_outs, .ref a_t_has])), (a_t_v, .inl (ca 0, 206, .inl f_t_v)), (a_t_past, .inl (ca 0, 1648, .inl f_t_past_21))] := hD
    try dsimp only at h
    refine lv_aload_n hx hb dX9_drop_24 rfl (lv_at hl 0 rfl) ?_
    refine va_get (D := D) (ci := 7) (v := .ref a_t_v) (C := RX9) (T := TX9) (N := 12) hx hb hq inX9g hown hK hP 0 rfl rfl 0 (by decide) (hq _ q_881) (fun _ h9 => h9) rfl dX9_drop_25 ?_
    refine lv_iconst (v := 3) hx hb dX9_drop_28 (by decide) ?_
    refine lv_dup2_11 hx hb dX9_drop_29 rfl rfl ?_
    obtain ⟨hi9, h⟩ := h
    refine va_iald hx hb hK hP 1 0 rfl rfl hi9 dX9_drop_30 ?_
    refine lv_iconst (v := 1) hx hb dX9_drop_31 (by decide) ?_
    refine lv_isub hx hb dX9_drop_32 ?_
    obtain ⟨hi9, h⟩ := h
    refine va_iast hx hb hK hP hD hS 1 0 rfl rfl hi9 dX9_drop_33 (fun H locs hP hD hS => ?_)
    have hP : va_P D vwCl [(a_t, .inr (7, [.ref a_t_v, .ref a_t_past, .ref a_t_costs, .int t_edits_21, .int 0, .ref a_t_into, .ref a_t_isNeeded, .ref a_t_depths, .ref a_t_names, .ref a_t_out, .int t_outs, .ref a_t_has])), (a_t_v, .inl (ca 0, 206, .inl (upd f_t_v (3 : Int32).toNatClampNeg ((f_t_v (3 : Int32).toNatClampNeg) - 1)))), (a_t_past, .inl (ca 0, 1648, .inl f_t_past_21))] H := hP
    have hD : va_D A [(a_t, .inr (7, [.ref a_t_v, .ref a_t_past, .ref a_t_costs, .int t_edits_21, .int 0, .ref a_t_into, .ref a_t_isNeeded, .ref a_t_depths, .ref a_t_names, .ref a_t_out, .int t_outs, .ref a_t_has])), (a_t_v, .inl (ca 0, 206, .inl (upd f_t_v (3 : Int32).toNatClampNeg ((f_t_v (3 : Int32).toNatClampNeg) - 1)))), (a_t_past, .inl (ca 0, 1648, .inl f_t_past_21))] := hD
    refine lv_aload_n hx hb dX9_drop_34 rfl (lv_at hl 0 rfl) ?_
    refine va_get (D := D) (ci := 7) (v := .ref a_t_v) (C := RX9) (T := TX9) (N := 12) hx hb hq inX9g hown hK hP 0 rfl rfl 0 (by decide) (hq _ q_881) (fun _ h9 => h9) rfl dX9_drop_35 ?_
    refine lv_iconst (v := 4) hx hb dX9_drop_38 (by decide) ?_
    refine lv_aload_n hx hb dX9_drop_39 rfl (lv_at hl 0 rfl) ?_
    refine va_get (D := D) (ci := 7) (v := .ref a_t_v) (C := RX9) (T := TX9) (N := 12) hx hb hq inX9g hown hK hP 0 rfl rfl 0 (by decide) (hq _ q_881) (fun _ h9 => h9) rfl dX9_drop_40 ?_
    refine lv_iconst (v := 4) hx hb dX9_drop_43 (by decide) ?_
    obtain ⟨hi9, h⟩ := h
    refine va_iald hx hb hK hP 1 0 rfl rfl hi9 dX9_drop_44 ?_
    refine lv_aload_n hx hb dX9_drop_45 rfl (lv_at hl 0 rfl) ?_
    refine va_get (D := D) (ci := 7) (v := .ref a_t_v) (C := RX9) (T := TX9) (N := 12) hx hb hq inX9g hown hK hP 0 rfl rfl 0 (by decide) (hq _ q_881) (fun _ h9 => h9) rfl dX9_drop_46 ?_
    refine lv_iconst (v := 3) hx hb dX9_drop_49 (by decide) ?_
    obtain ⟨hi9, h⟩ := h
    refine va_iald hx hb hK hP 1 0 rfl rfl hi9 dX9_drop_50 ?_
    have hJ69 : ∀ (y2_69 : Int32) (H : Heap) (locs : List Loc) (ls : Array Slot), va_P D vwCl [(a_t, .inr (7, [.ref a_t_v, .ref a_t_past, .ref a_t_costs, .int t_edits_21, .int 0, .ref a_t_into, .ref a_t_isNeeded, .ref a_t_depths, .ref a_t_names, .ref a_t_out, .int t_outs, .ref a_t_has])), (a_t_v, .inl (ca 0, 206, .inl (upd f_t_v (3 : Int32).toNatClampNeg ((f_t_v (3 : Int32).toNatClampNeg) - 1)))), (a_t_past, .inl (ca 0, 1648, .inl f_t_past_21))] H → va_D A [(a_t, .inr (7, [.ref a_t_v, .ref a_t_past, .ref a_t_costs, .int t_edits_21, .int 0, .ref a_t_into, .ref a_t_isNeeded, .ref a_t_depths, .ref a_t_names, .ref a_t_out, .int t_outs, .ref a_t_has])), (a_t_v, .inl (ca 0, 206, .inl (upd f_t_v (3 : Int32).toNatClampNeg ((f_t_v (3 : Int32).toNatClampNeg) - 1)))), (a_t_past, .inl (ca 0, 1648, .inl f_t_past_21))] → va_S A s.heap H locs → lv_has ls 1 [(0, .ref a_t)] → wX9_drop_69 f_t_v Q t_edits_21 f_t_past_21 y2_69 → W p l e (headSpec (Cond.code yX9_drop cX9_drop 1 (some .int) :: wsG) ({ frames := 1, cells := 0, slots := 0, locals := 21 } : Room)).room s m ([.ref a_t] : List Value).toArray below meth c H locs 0 0 (MQ below (qX9_drop D ca a_t a_t_v a_t_past a_t_costs a_t_into a_t_isNeeded a_t_depths a_t_names a_t_out a_t_has t_outs Q A) ([.ref a_t] : List Value).toArray s 0 0 A) (F0 m 69 ls [.int y2_69, .int 4, .ref a_t_v]) := by
      intro y2_69 H locs ls hP hD hS hl h
      unfold wX9_drop_69 at h
      obtain ⟨hi9, h⟩ := h
      refine va_iast hx hb hK hP hD hS 1 0 rfl rfl hi9 dX9_drop_69 (fun H locs hP hD hS => ?_)
      have hP : va_P D vwCl [(a_t, .inr (7, [.ref a_t_v, .ref a_t_past, .ref a_t_costs, .int t_edits_21, .int 0, .ref a_t_into, .ref a_t_isNeeded, .ref a_t_depths, .ref a_t_names, .ref a_t_out, .int t_outs, .ref a_t_has])), (a_t_v, .inl (ca 0, 206, .inl (upd (upd f_t_v (3 : Int32).toNatClampNeg ((f_t_v (3 : Int32).toNatClampNeg) - 1)) (4 : Int32).toNatClampNeg y2_69))), (a_t_past, .inl (ca 0, 1648, .inl f_t_past_21))] H := hP
      have hD : va_D A [(a_t, .inr (7, [.ref a_t_v, .ref a_t_past, .ref a_t_costs, .int t_edits_21, .int 0, .ref a_t_into, .ref a_t_isNeeded, .ref a_t_depths, .ref a_t_names, .ref a_t_out, .int t_outs, .ref a_t_has])), (a_t_v, .inl (ca 0, 206, .inl (upd (upd f_t_v (3 : Int32).toNatClampNeg ((f_t_v (3 : Int32).toNatClampNeg) - 1)) (4 : Int32).toNatClampNeg y2_69))), (a_t_past, .inl (ca 0, 1648, .inl f_t_past_21))] := hD
      refine lv_aload_n hx hb dX9_drop_70 rfl (lv_at hl 0 rfl) ?_
      refine va_get (D := D) (ci := 7) (v := .ref a_t_v) (C := RX9) (T := TX9) (N := 12) hx hb hq inX9g hown hK hP 0 rfl rfl 0 (by decide) (hq _ q_881) (fun _ h9 => h9) rfl dX9_drop_71 ?_
      refine lv_iconst (v := 3) hx hb dX9_drop_74 (by decide) ?_
      obtain ⟨hi9, h⟩ := h
      refine va_iald hx hb hK hP 1 0 rfl rfl hi9 dX9_drop_75 ?_
      exact W.iret (v := (upd (upd f_t_v (3 : Int32).toNatClampNeg ((f_t_v (3 : Int32).toNatClampNeg) - 1)) (4 : Int32).toNatClampNeg y2_69) (3 : Int32).toNatClampNeg) hx hb hr (fun t ht hW => ⟨⟨(upd (upd f_t_v (3 : Int32).toNatClampNeg ((f_t_v (3 : Int32).toNatClampNeg) - 1)) (4 : Int32).toNatClampNeg y2_69) (3 : Int32).toNatClampNeg, (t_edits_21, 0, upd (upd f_t_v (3 : Int32).toNatClampNeg ((f_t_v (3 : Int32).toNatClampNeg) - 1)) (4 : Int32).toNatClampNeg y2_69, f_t_past_21), rfl, h, by rw [ht]; exact hP, va_K.moved hW.alike hK, hD⟩, hS.F ht⟩) hS.2.2 dX9_drop_76
    refine lv_icmp_le (tgt := 63) hx hb dX9_drop_51 (by decide) (fun c9 => ?_) (fun c9 => ?_)
    · have h := h.1 c9
      refine lv_aload_n hx hb dX9_drop_63 rfl (lv_at hl 0 rfl) ?_
      refine va_get (D := D) (ci := 7) (v := .ref a_t_v) (C := RX9) (T := TX9) (N := 12) hx hb hq inX9g hown hK hP 0 rfl rfl 0 (by decide) (hq _ q_881) (fun _ h9 => h9) rfl dX9_drop_64 ?_
      refine lv_iconst (v := 4) hx hb dX9_drop_67 (by decide) ?_
      obtain ⟨hi9, h⟩ := h
      refine va_iald hx hb hK hP 1 0 rfl rfl hi9 dX9_drop_68 ?_
      exact hJ69 ((upd f_t_v (3 : Int32).toNatClampNeg ((f_t_v (3 : Int32).toNatClampNeg) - 1)) (4 : Int32).toNatClampNeg) _ _ _ hP hD hS (lv_sub hl [0] rfl) h
    · have h := h.2 c9
      refine lv_aload_n hx hb dX9_drop_54 rfl (lv_at hl 0 rfl) ?_
      refine va_get (D := D) (ci := 7) (v := .ref a_t_v) (C := RX9) (T := TX9) (N := 12) hx hb hq inX9g hown hK hP 0 rfl rfl 0 (by decide) (hq _ q_881) (fun _ h9 => h9) rfl dX9_drop_55 ?_
      refine lv_iconst (v := 3) hx hb dX9_drop_58 (by decide) ?_
      obtain ⟨hi9, h⟩ := h
      refine va_iald hx hb hK hP 1 0 rfl rfl hi9 dX9_drop_59 ?_
      refine lv_goto (tgt := 69) hx hb dX9_drop_60 (by decide) ?_
      exact hJ69 ((upd f_t_v (3 : Int32).toNatClampNeg ((f_t_v (3 : Int32).toNatClampNeg) - 1)) (3 : Int32).toNatClampNeg) _ _ _ hP hD hS (lv_sub hl [0] rfl) h
  · have h := h.1 c9
    refine lv_aload_n hx hb dX9_drop_14 rfl (lv_at hl 0 rfl) ?_
    refine lv_iconst (v := 1) hx hb dX9_drop_15 (by decide) ?_
    refine cVi (As := [.int 1]) (rest := []) (wc := [(a_t, .inr (7, [.ref a_t_v, .ref a_t_past, .ref a_t_costs, .int t_edits, .int 0, .ref a_t_into, .ref a_t_isNeeded, .ref a_t_depths, .ref a_t_names, .ref a_t_out, .int t_outs, .ref a_t_has]))]) (wr := [(a_t_v, .inl (ca 0, 206, .inl f_t_v)), (a_t_past, .inl (ca 0, 1648, .inl f_t_past))]) (w1 := fun u : Int32 => [(a_t, .inr (7, [.ref a_t_v, .ref a_t_past, .ref a_t_costs, .int t_edits, .int u, .ref a_t_into, .ref a_t_isNeeded, .ref a_t_depths, .ref a_t_names, .ref a_t_out, .int t_outs, .ref a_t_has]))]) (ws2 := fun u : Int32 => [(a_t, .inr (7, [.ref a_t_v, .ref a_t_past, .ref a_t_costs, .int t_edits, .int u, .ref a_t_into, .ref a_t_isNeeded, .ref a_t_depths, .ref a_t_names, .ref a_t_out, .int t_outs, .ref a_t_has])), (a_t_v, .inl (ca 0, 206, .inl f_t_v)), (a_t_past, .inl (ca 0, 1648, .inl f_t_past))]) ⟨hx, hb, hml, hown, hts⟩ (mX9_fails l D ca a_t a_t_v a_t_past a_t_costs a_t_into a_t_isNeeded a_t_depths a_t_names a_t_out a_t_has _ t_edits 0 t_outs 1 _ h) (cwV 1 hts (gV q_933 q_935 qs_33 q_8 q_936) rfl rfl rfl (by decide +kernel) ⟨Nat.le_of_ble_eq_true rfl, Nat.le_of_ble_eq_true rfl⟩) hK hP hD hS hA [0] [1, 2] [2, 0, 1] rfl rfl rfl (by decide) (fun _ => rfl) (ci := 7) (q0 := 0) rfl rfl rfl hl.1 rfl (Nat.le_of_ble_eq_true rfl) dX9_drop_16 ⟨Nat.le_of_ble_eq_true rfl, Nat.le_of_ble_eq_true rfl⟩ (fun r_16 u9 H locs h hP hD hS => ?_)
    obtain ⟨t_thrown_16, rfl⟩ : ∃ z, z = u9 := ⟨_, rfl⟩
    have hP : va_P D vwCl [(a_t, .inr (7, [.ref a_t_v, .ref a_t_past, .ref a_t_costs, .int t_edits, .int t_thrown_16, .ref a_t_into, .ref a_t_isNeeded, .ref a_t_depths, .ref a_t_names, .ref a_t_out, .int t_outs, .ref a_t_has])), (a_t_v, .inl (ca 0, 206, .inl f_t_v)), (a_t_past, .inl (ca 0, 1648, .inl f_t_past))] H := hP
    have hD : va_D A [(a_t, .inr (7, [.ref a_t_v, .ref a_t_past, .ref a_t_costs, .int t_edits, .int t_thrown_16, .ref a_t_into, .ref a_t_isNeeded, .ref a_t_depths, .ref a_t_names, .ref a_t_out, .int t_outs, .ref a_t_has])), (a_t_v, .inl (ca 0, 206, .inl f_t_v)), (a_t_past, .inl (ca 0, 1648, .inl f_t_past))] := hD
    try dsimp only at h
    exact W.iret (v := r_16) hx hb hr (fun t ht hW => ⟨⟨r_16, (t_edits, t_thrown_16, f_t_v, f_t_past), rfl, h, by rw [ht]; exact hP, va_K.moved hW.alike hK, hD⟩, hS.F ht⟩) hS.2.2 dX9_drop_19
