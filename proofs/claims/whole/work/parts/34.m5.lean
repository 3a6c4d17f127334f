abbrev qX9_shifted (D : va_G) (ca : Nat → ClassId) (a_t a_t_v a_t_past a_t_costs a_t_into a_t_isNeeded a_t_depths a_t_names a_t_out a_t_has : Nat) (t_edits : Int32) (t_thrown : Int32) (t_outs : Int32) (f_t_v : Nat → Int32) (Q : Int64 → Prop) (A : Nat → Prop) : Array Value → State → Outcome → State → Prop := va_Ql (fun (r : Int64) (_ : Unit) => Q r) (wEnd D ca (fun _ : Unit => [(a_t, .inr (7, [.ref a_t_v, .ref a_t_past, .ref a_t_costs, .int t_edits, .int t_thrown, .ref a_t_into, .ref a_t_isNeeded, .ref a_t_depths, .ref a_t_names, .ref a_t_out, .int t_outs, .ref a_t_has])), (a_t_v, .inl (ca 0, 206, .inl f_t_v))]) A) A
def wX9_shifted (f_t_v : Nat → Int32) (x1 : Int32) (x2 : Int64) (x4 : Int32) (Q : Int64 → Prop) : Prop :=
  ((x1 = 0 → wX9_power x4 (fun r_8 => wX9_value f_t_v (x2 * r_8) (fun r_12 => Q r_12))) ∧ (¬ x1 = 0 → ((x1 = 1 → wX9_power x4 (fun r_24 => (¬ r_24 = 0 ∧ Q (x2 / r_24)))) ∧ (¬ x1 = 1 → ((x1 = 2 → wX9_signed f_t_v x2 (fun r_37 => wX9_power x4 (fun r_42 => wX9_floor r_37 r_42 (fun r_45 => wX9_value f_t_v r_45 (fun r_48 => Q r_48))))) ∧ (¬ x1 = 2 → wX9_power x4 (fun r_55 => (¬ r_55 = 0 ∧ wX9_power x4 (fun r_62 => (¬ r_62 = 0 ∧ (vp_in 0 206 ∧ wX9_power ((f_t_v (0 : Int32).toNatClampNeg) - x4) (fun r_75 => Q ((x2 / r_55) + ((x2 - x2 / r_62 * r_62) * r_75))))))))))))))
set_option maxHeartbeats 4000000 in
set_option maxRecDepth 100000 in
theorem mX9_shifted (l : Launch) (D : va_G) (ca : Nat → ClassId) (a_t a_t_v a_t_past a_t_costs a_t_into a_t_isNeeded a_t_depths a_t_names a_t_out a_t_has : Nat) (sz : Nat) (t_edits : Int32) (t_thrown : Int32) (t_outs : Int32) (f_t_v : Nat → Int32) (x1 : Int32) (x2 : Int64) (x4 : Int32) (Q : Int64 → Prop) (h : wX9_shifted f_t_v x1 x2 x4 Q) : Met l yX9_shifted (Cond.code yX9_shifted cX9_shifted 5 (some .long) :: wsG) ({ frames := 3, cells := 0, slots := 0, locals := 62 } : Room) (va_Pc [.ref a_t, .int x1, .long x2, .int x4] (wPre D ca [(a_t, .inr (7, [.ref a_t_v, .ref a_t_past, .ref a_t_costs, .int t_edits, .int t_thrown, .ref a_t_into, .ref a_t_isNeeded, .ref a_t_depths, .ref a_t_names, .ref a_t_out, .int t_outs, .ref a_t_has])), (a_t_v, .inl (ca 0, 206, .inl f_t_v))] sz)) (qX9_shifted D ca a_t a_t_v a_t_past a_t_costs a_t_into a_t_isNeeded a_t_depths a_t_names a_t_out a_t_has t_edits t_thrown t_outs f_t_v Q (va_A [(a_t, .inr (7, [.ref a_t_v, .ref a_t_past, .ref a_t_costs, .int t_edits, .int t_thrown, .ref a_t_into, .ref a_t_isNeeded, .ref a_t_depths, .ref a_t_names, .ref a_t_out, .int t_outs, .ref a_t_has])), (a_t_v, .inl (ca 0, 206, .inl f_t_v))] sz)) 0 0 (va_A [(a_t, .inr (7, [.ref a_t_v, .ref a_t_past, .ref a_t_costs, .int t_edits, .int t_thrown, .ref a_t_into, .ref a_t_isNeeded, .ref a_t_depths, .ref a_t_names, .ref a_t_out, .int t_outs, .ref a_t_has])), (a_t_v, .inl (ca 0, 206, .inl f_t_v))] sz) := by
  refine Met.ofW (cc := cX9_shifted) (maxL := 5) (ret := (some .long)) (by decide) rfl ?_
  intro p e s m args below meth c s₁ B hml hv
  obtain ⟨rfl, hsz, hP, hK, hD0⟩ := hv
  have hx := B.exec
  have hb := B.bytes
  have hr := B.returns
  have hts := atoms_spec (ws := (Cond.code yX9_shifted cX9_shifted 5 (some .long) :: wsG)) B.pre
  have hq : ∀ w ∈ wsG, w.before _ s = true := fun w hw => hts w (List.mem_cons_of_mem _ hw)
  have hown : s.vm.findClass RX9 = some m.cls := findClass_of_methodNamed B.named
  have hlocks := B.notSynchronized
  subst hsz
  have hD := hD0.self (sz := s.heap.size)
  generalize hAe : va_A [(a_t, .inr (7, [.ref a_t_v, .ref a_t_past, .ref a_t_costs, .int t_edits, .int t_thrown, .ref a_t_into, .ref a_t_isNeeded, .ref a_t_depths, .ref a_t_names, .ref a_t_out, .int t_outs, .ref a_t_has])), (a_t_v, .inl (ca 0, 206, .inl f_t_v))] s.heap.size = A at hD ⊢
  have hA : ∀ q : Nat, s.heap.size ≤ q → A q := fun q h => by rw [← hAe]; exact Or.inr h
  have hS : va_S A s.heap s.heap [] := va_S.rf
  have hP : va_P D vwCl [(a_t, .inr (7, [.ref a_t_v, .ref a_t_past, .ref a_t_costs, .int t_edits, .int t_thrown, .ref a_t_into, .ref a_t_isNeeded, .ref a_t_depths, .ref a_t_names, .ref a_t_out, .int t_outs, .ref a_t_has])), (a_t_v, .inl (ca 0, 206, .inl f_t_v))] s.heap := hP
  have hl := lv_entry ([.ref a_t, .int x1, .long x2, .int x4]) (n := 5) (Nat.le_of_ble_eq_true rfl)
  rw [lg_entry_eq]
  generalize (lg_sl ([.ref a_t, .int x1, .long x2, .int x4]) ++ List.replicate (5 - (lg_sl ([.ref a_t, .int x1, .long x2, .int x4])).length) Slot.unset).toArray = ls at hl ⊢
  have hl : lv_has ls 5 [(0, .ref a_t), (1, .int x1), (2, .long x2), (4, .int x4)] := hl
  unfold wX9_shifted at h
  refine lv_iload_n hx hb dX9_shifted_0 rfl (lv_at hl 1 rfl) ?_
  refine lv_if_ne (tgt := 16) hx hb dX9_shifted_1 (by decide) (fun c9 => ?_) (fun c9 => ?_)
  · have h := h.2 c9
    refine lv_iload_n hx hb dX9_shifted_16 rfl (lv_at hl 1 rfl) ?_
    refine lv_iconst (v := 1) hx hb dX9_shifted_17 (by decide) ?_
    refine lv_icmp_ne (tgt := 29) hx hb dX9_shifted_18 (by decide) (fun c9 => ?_) (fun c9 => ?_)
    · have h := h.2 c9
      refine lv_iload_n hx hb dX9_shifted_29 rfl (lv_at hl 1 rfl) ?_
      refine lv_iconst (v := 2) hx hb dX9_shifted_30 (by decide) ?_
      refine lv_icmp_ne (tgt := 52) hx hb dX9_shifted_31 (by decide) (fun c9 => ?_) (fun c9 => ?_)
      · have h := h.2 c9
        refine lv_lload_n hx hb dX9_shifted_52 rfl (lv_at hl 2 rfl) ?_
        refine lv_iload hx hb dX9_shifted_53 (lv_at hl 3 rfl) ?_
        refine cPl (As := [.int x4]) (rest := [.long x2]) ⟨hx, hb, hml, hown, hts⟩ (mX9_power l x4 _ h) (va_cwS 1 hts (gS q_959 q_960 q_8 q_961) rfl rfl rfl (by decide +kernel) ⟨Nat.le_of_ble_eq_true rfl, Nat.le_of_ble_eq_true rfl⟩) hS rfl hl.1 rfl (Nat.le_of_ble_eq_true rfl) dX9_shifted_55 ⟨Nat.le_of_ble_eq_true rfl, Nat.le_of_ble_eq_true rfl⟩ (fun r_55 H1 locs h hk1 hS => ?_)
        have hP := s_back hP hk1
        try dsimp only at h
        obtain ⟨hne9, h⟩ := h
        refine lv_ldiv hx hb dX9_shifted_58 hne9 ?_
        refine lv_lload_n hx hb dX9_shifted_59 rfl (lv_at hl 2 rfl) ?_
        refine lv_iload hx hb dX9_shifted_60 (lv_at hl 3 rfl) ?_
        refine cPl (As := [.int x4]) (rest := [.long x2, .long (x2 / r_55)]) ⟨hx, hb, hml, hown, hts⟩ (mX9_power l x4 _ h) (va_cwS 1 hts (gS q_959 q_960 q_8 q_961) rfl rfl rfl (by decide +kernel) ⟨Nat.le_of_ble_eq_true rfl, Nat.le_of_ble_eq_true rfl⟩) hS rfl hl.1 rfl (Nat.le_of_ble_eq_true rfl) dX9_shifted_62 ⟨Nat.le_of_ble_eq_true rfl, Nat.le_of_ble_eq_true rfl⟩ (fun r_62 H1 locs h hk1 hS => ?_)
        have hP := s_back hP hk1
        try dsimp only at h
        obtain ⟨hne9, h⟩ := h
        refine lv_lrem hx hb dX9_shifted_65 hne9 ?_
        refine lv_aload_n hx hb dX9_shifted_66 rfl (lv_at hl 0 rfl) ?_
        refine va_get (D := D) (ci := 7) (v := .ref a_t_v) (C := RX9) (T := TX9) (N := 12) hx hb hq inX9g hown hK hP 0 rfl rfl 0 (by decide) (hq _ q_881) (fun _ h9 => h9) rfl dX9_shifted_67 ?_
        refine lv_iconst (v := 0) hx hb dX9_shifted_70 (by decide) ?_
        obtain ⟨hi9, h⟩ := h
        refine va_iald hx hb hK hP 1 0 rfl rfl hi9 dX9_shifted_71 ?_
        refine lv_iload hx hb dX9_shifted_72 (lv_at hl 3 rfl) ?_
        refine lv_isub hx hb dX9_shifted_74 ?_
        refine cPl (As := [.int ((f_t_v (0 : Int32).toNatClampNeg) - x4)]) (rest := [.long (x2 - x2 / r_62 * r_62), .long (x2 / r_55)]) ⟨hx, hb, hml, hown, hts⟩ (mX9_power l ((f_t_v (0 : Int32).toNatClampNeg) - x4) _ h) (va_cwS 1 hts (gS q_959 q_960 q_8 q_961) rfl rfl rfl (by decide +kernel) ⟨Nat.le_of_ble_eq_true rfl, Nat.le_of_ble_eq_true rfl⟩) hS rfl hl.1 rfl (Nat.le_of_ble_eq_true rfl) dX9_shifted_75 ⟨Nat.le_of_ble_eq_true rfl, Nat.le_of_ble_eq_true rfl⟩ (fun r_75 H1 locs h hk1 hS => ?_)
        have hP := s_back hP hk1
        try dsimp only at h
        refine lv_lmul hx hb dX9_shifted_78 ?_
        refine lv_ladd hx hb dX9_shifted_79 ?_
        exact W.lret (v := (x2 / r_55) + ((x2 - x2 / r_62 * r_62) * r_75)) hx hb hr (fun t ht hW => ⟨⟨(x2 / r_55) + ((x2 - x2 / r_62 * r_62) * r_75), (), rfl, h, by rw [ht]; exact hP, va_K.moved hW.alike hK, hD⟩, hS.F ht⟩) hS.2.2 dX9_shifted_80
      · have h := h.1 c9
        refine lv_aload_n hx hb dX9_shifted_34 rfl (lv_at hl 0 rfl) ?_
        refine lv_aload_n hx hb dX9_shifted_35 rfl (lv_at hl 0 rfl) ?_
        refine lv_lload_n hx hb dX9_shifted_36 rfl (lv_at hl 2 rfl) ?_
        refine cVl (As := [.long x2]) (rest := [.ref a_t]) (wc := [(a_t, .inr (7, [.ref a_t_v, .ref a_t_past, .ref a_t_costs, .int t_edits, .int t_thrown, .ref a_t_into, .ref a_t_isNeeded, .ref a_t_depths, .ref a_t_names, .ref a_t_out, .int t_outs, .ref a_t_has])), (a_t_v, .inl (ca 0, 206, .inl f_t_v))]) (wr := []) (w1 := fun _ : Unit => [(a_t, .inr (7, [.ref a_t_v, .ref a_t_past, .ref a_t_costs, .int t_edits, .int t_thrown, .ref a_t_into, .ref a_t_isNeeded, .ref a_t_depths, .ref a_t_names, .ref a_t_out, .int t_outs, .ref a_t_has])), (a_t_v, .inl (ca 0, 206, .inl f_t_v))]) (ws2 := fun _ : Unit => [(a_t, .inr (7, [.ref a_t_v, .ref a_t_past, .ref a_t_costs, .int t_edits, .int t_thrown, .ref a_t_into, .ref a_t_isNeeded, .ref a_t_depths, .ref a_t_names, .ref a_t_out, .int t_outs, .ref a_t_has])), (a_t_v, .inl (ca 0, 206, .inl f_t_v))]) ⟨hx, hb, hml, hown, hts⟩ (mX9_signed l D ca a_t a_t_v a_t_past a_t_costs a_t_into a_t_isNeeded a_t_depths a_t_names a_t_out a_t_has _ t_edits t_thrown t_outs f_t_v x2 _ h) (cwV 1 hts (gV q_1182 q_1184 qs_66 q_8 q_1185) rfl rfl rfl (by decide +kernel) ⟨Nat.le_of_ble_eq_true rfl, Nat.le_of_ble_eq_true rfl⟩) hK hP hD hS hA [0, 1] [] [0, 1] rfl rfl rfl (by decide) (fun _ => rfl) (ci := 7) (q0 := 0) rfl rfl rfl hl.1 rfl (Nat.le_of_ble_eq_true rfl) dX9_shifted_37 ⟨Nat.le_of_ble_eq_true rfl, Nat.le_of_ble_eq_true rfl⟩ (fun r_37 u9 H locs h hP hD hS => ?_)
        try dsimp only at h
        refine lv_iload hx hb dX9_shifted_40 (lv_at hl 3 rfl) ?_
        refine cPl (As := [.int x4]) (rest := [.long r_37, .ref a_t]) ⟨hx, hb, hml, hown, hts⟩ (mX9_power l x4 _ h) (va_cwS 1 hts (gS q_959 q_960 q_8 q_961) rfl rfl rfl (by decide +kernel) ⟨Nat.le_of_ble_eq_true rfl, Nat.le_of_ble_eq_true rfl⟩) hS rfl hl.1 rfl (Nat.le_of_ble_eq_true rfl) dX9_shifted_42 ⟨Nat.le_of_ble_eq_true rfl, Nat.le_of_ble_eq_true rfl⟩ (fun r_42 H1 locs h hk1 hS => ?_)
        have hP := s_back hP hk1
        try dsimp only at h
        refine cPl (As := [.long r_37, .long r_42]) (rest := [.ref a_t]) ⟨hx, hb, hml, hown, hts⟩ (mX9_floor l r_37 r_42 _ h) (va_cwS 2 hts (gS q_1003 q_1004 q_8 q_1005) rfl rfl rfl (by decide +kernel) ⟨Nat.le_of_ble_eq_true rfl, Nat.le_of_ble_eq_true rfl⟩) hS rfl hl.1 rfl (Nat.le_of_ble_eq_true rfl) dX9_shifted_45 ⟨Nat.le_of_ble_eq_true rfl, Nat.le_of_ble_eq_true rfl⟩ (fun r_45 H1 locs h hk1 hS => ?_)
        have hP := s_back hP hk1
        try dsimp only at h
        refine cVl (As := [.long r_45]) (rest := []) (wc := [(a_t, .inr (7, [.ref a_t_v, .ref a_t_past, .ref a_t_costs, .int t_edits, .int t_thrown, .ref a_t_into, .ref a_t_isNeeded, .ref a_t_depths, .ref a_t_names, .ref a_t_out, .int t_outs, .ref a_t_has])), (a_t_v, .inl (ca 0, 206, .inl f_t_v))]) (wr := []) (w1 := fun _ : Unit => [(a_t, .inr (7, [.ref a_t_v, .ref a_t_past, .ref a_t_costs, .int t_edits, .int t_thrown, .ref a_t_into, .ref a_t_isNeeded, .ref a_t_depths, .ref a_t_names, .ref a_t_out, .int t_outs, .ref a_t_has])), (a_t_v, .inl (ca 0, 206, .inl f_t_v))]) (ws2 := fun _ : Unit => [(a_t, .inr (7, [.ref a_t_v, .ref a_t_past, .ref a_t_costs, .int t_edits, .int t_thrown, .ref a_t_into, .ref a_t_isNeeded, .ref a_t_depths, .ref a_t_names, .ref a_t_out, .int t_outs, .ref a_t_has])), (a_t_v, .inl (ca 0, 206, .inl f_t_v))]) ⟨hx, hb, hml, hown, hts⟩ (mX9_value l D ca a_t a_t_v a_t_past a_t_costs a_t_into a_t_isNeeded a_t_depths a_t_names a_t_out a_t_has _ t_edits t_thrown t_outs f_t_v r_45 _ h) (cwV 1 hts (gV q_999 q_1001 qs_40 q_8 q_1002) rfl rfl rfl (by decide +kernel) ⟨Nat.le_of_ble_eq_true rfl, Nat.le_of_ble_eq_true rfl⟩) hK hP hD hS hA [0, 1] [] [0, 1] rfl rfl rfl (by decide) (fun _ => rfl) (ci := 7) (q0 := 0) rfl rfl rfl hl.1 rfl (Nat.le_of_ble_eq_true rfl) dX9_shifted_48 ⟨Nat.le_of_ble_eq_true rfl, Nat.le_of_ble_eq_true rfl⟩ (fun r_48 u9 H locs h hP hD hS => ?_)
        try dsimp only at h
        exact W.lret (v := r_48) hx hb hr (fun t ht hW => ⟨⟨r_48, (), rfl, h, by rw [ht]; exact hP, va_K.moved hW.alike hK, hD⟩, hS.F ht⟩) hS.2.2 dX9_shifted_51
    · have h := h.1 c9
      refine lv_lload_n hx hb dX9_shifted_21 rfl (lv_at hl 2 rfl) ?_
      refine lv_iload hx hb dX9_shifted_22 (lv_at hl 3 rfl) ?_
      refine cPl (As := [.int x4]) (rest := [.long x2]) ⟨hx, hb, hml, hown, hts⟩ (mX9_power l x4 _ h) (va_cwS 1 hts (gS q_959 q_960 q_8 q_961) rfl rfl rfl (by decide +kernel) ⟨Nat.le_of_ble_eq_true rfl, Nat.le_of_ble_eq_true rfl⟩) hS rfl hl.1 rfl (Nat.le_of_ble_eq_true rfl) dX9_shifted_24 ⟨Nat.le_of_ble_eq_true rfl, Nat.le_of_ble_eq_true rfl⟩ (fun r_24 H1 locs h hk1 hS => ?_)
      have hP := s_back hP hk1
      try dsimp only at h
      obtain ⟨hne9, h⟩ := h
      refine lv_ldiv hx hb dX9_shifted_27 hne9 ?_
      exact W.lret (v := x2 / r_24) hx hb hr (fun t ht hW => ⟨⟨x2 / r_24, (), rfl, h, by rw [ht]; exact hP, va_K.moved hW.alike hK, hD⟩, hS.F ht⟩) hS.2.2 dX9_shifted_28
  · have h := h.1 c9
    refine lv_aload_n hx hb dX9_shifted_4 rfl (lv_at hl 0 rfl) ?_
    refine lv_lload_n hx hb dX9_shifted_5 rfl (lv_at hl 2 rfl) ?_
    refine lv_iload hx hb dX9_shifted_6 (lv_at hl 3 rfl) ?_
    refine cPl (As := [.int x4]) (rest := [.long x2, .ref a_t]) ⟨hx, hb, hml, hown, hts⟩ (mX9_power l x4 _ h) (va_cwS 1 hts (gS q_959 q_960 q_8 q_961) rfl rfl rfl (by decide +kernel) ⟨Nat.le_of_ble_eq_true rfl, Nat.le_of_ble_eq_true rfl⟩) hS rfl hl.1 rfl (Nat.le_of_ble_eq_true rfl) dX9_shifted_8 ⟨Nat.le_of_ble_eq_true rfl, Nat.le_of_ble_eq_true rfl⟩ (fun r_8 H1 locs h hk1 hS => ?_)
    have hP := s_back hP hk1
    try dsimp only at h
    refine lv_lmul hx hb dX9_shifted_11 ?_
    refine cVl (As := [.long (x2 * r_8)]) (rest := []) (wc := [(a_t, .inr (7, [.ref a_t_v, .ref a_t_past, .ref a_t_costs, .int t_edits, .int t_thrown, .ref a_t_into, .ref a_t_isNeeded, .ref a_t_depths, .ref a_t_names, .ref a_t_out, .int t_outs, .ref a_t_has])), (a_t_v, .inl (ca 0, 206, .inl f_t_v))]) (wr := []) (w1 := fun _ : Unit => [(a_t, .inr (7, [.ref a_t_v, .ref a_t_past, .ref a_t_costs, .int t_edits, .int t_thrown, .ref a_t_into, .ref a_t_isNeeded, .ref a_t_depths, .ref a_t_names, .ref a_t_out, .int t_outs, .ref a_t_has])), (a_t_v, .inl (ca 0, 206, .inl f_t_v))]) (ws2 := fun _ : Unit => [(a_t, .inr (7, [.ref a_t_v, .ref a_t_past, .ref a_t_costs, .int t_edits, .int t_thrown, .ref a_t_into, .ref a_t_isNeeded, .ref a_t_depths, .ref a_t_names, .ref a_t_out, .int t_outs, .ref a_t_has])), (a_t_v, .inl (ca 0, 206, .inl f_t_v))]) ⟨hx, hb, hml, hown, hts⟩ (mX9_value l D ca a_t a_t_v a_t_past a_t_costs a_t_into a_t_isNeeded a_t_depths a_t_names a_t_out a_t_has _ t_edits t_thrown t_outs f_t_v (x2 * r_8) _ h) (cwV 1 hts (gV q_999 q_1001 qs_40 q_8 q_1002) rfl rfl rfl (by decide +kernel) ⟨Nat.le_of_ble_eq_true rfl, Nat.le_of_ble_eq_true rfl⟩) hK hP hD hS hA [0, 1] [] [0, 1] rfl rfl rfl (by decide) (fun _ => rfl) (ci := 7) (q0 := 0) rfl rfl rfl hl.1 rfl (Nat.le_of_ble_eq_true rfl) dX9_shifted_12 ⟨Nat.le_of_ble_eq_true rfl, Nat.le_of_ble_eq_true rfl⟩ (fun r_12 u9 H locs h hP hD hS => ?_)
    try dsimp only at h
    exact W.lret (v := r_12) hx hb hr (fun t ht hW => ⟨⟨r_12, (), rfl, h, by rw [ht]; exact hP, va_K.moved hW.alike hK, hD⟩, hS.F ht⟩) hS.2.2 dX9_shifted_15

def wX9_bits_60 (x5_6 : Int64) (x7_6 : Int32) (K6 : Int64 → Int32 → Prop) (y1_60 : Int64) : Prop :=
  (∀ x5_61 : Int64, x5_61 = x5_6 + y1_60 → (∀ x7_63 : Int32, x7_63 = x7_6 + 1 → K6 x5_61 x7_63))
def wX9_bits_6 (x0 : Int32) (x1 : Int64) (x3 : Int64) (Q : Int64 → Prop) : Nat → Int64 → Int32 → Prop
  | 0, _, _ => False
  | n9 + 1, x5_6, x7_6 =>
  ((16 ≤ x7_6 → Q x5_6) ∧ (¬ 16 ≤ x7_6 → (∀ x8_19 : Int64, x8_19 = (x1 >>> (x7_6.toInt64 &&& 63)) &&& 1 → (∀ x10_27 : Int64, x10_27 = (x3 >>> (x7_6.toInt64 &&& 63)) &&& 1 → ((x0 = 8 → wX9_bits_60 x5_6 x7_6 (wX9_bits_6 x0 x1 x3 Q n9) ((x8_19 * x10_27) <<< (x7_6.toInt64 &&& 63))) ∧ (¬ x0 = 8 → wX9_bits_60 x5_6 x7_6 (wX9_bits_6 x0 x1 x3 Q n9) (((x8_19 + x10_27) - (x8_19 + x10_27) / 2 * 2) <<< (x7_6.toInt64 &&& 63))))))))
def wX9_bits (x0 : Int32) (x1 : Int64) (x3 : Int64) (Q : Int64 → Prop) : Prop :=
  (∃ k9, wX9_bits_6 x0 x1 x3 Q k9 0 0)
set_option maxHeartbeats 4000000 in
set_option maxRecDepth 100000 in
theorem mX9_bits (l : Launch) (x0 : Int32) (x1 : Int64) (x3 : Int64) (Q : Int64 → Prop) (h : wX9_bits x0 x1 x3 Q) : Met l yX9_bits (Cond.code yX9_bits cX9_bits 12 (some .long) :: wsG) ({ frames := 0, cells := 0, slots := 0, locals := 0 } : Room) (va_Pc [.int x0, .long x1, .long x3] (fun _ => True)) (va_Ql (fun (r : Int64) (_ : Unit) => Q r) (fun _ _ => True) (fun _ => False)) 0 0 (fun _ => False) := by
  refine Met.ofW (cc := cX9_bits) (maxL := 12) (ret := (some .long)) (by decide) rfl ?_
  intro p e s m args below meth c s₁ B hml hv
  obtain ⟨rfl, -⟩ := hv
  have hx := B.exec
  have hb := B.bytes
  have hr := B.returns
  have hts := atoms_spec (ws := (Cond.code yX9_bits cX9_bits 12 (some .long) :: wsG)) B.pre
  have hq : ∀ w ∈ wsG, w.before _ s = true := fun w hw => hts w (List.mem_cons_of_mem _ hw)
  have hown : s.vm.findClass RX9 = some m.cls := findClass_of_methodNamed B.named
  have hlocks := B.notSynchronized
  have hS : va_S (fun _ : Nat => False) s.heap s.heap [] := va_S.rf
  have hl := lv_entry ([.int x0, .long x1, .long x3]) (n := 12) (Nat.le_of_ble_eq_true rfl)
  rw [lg_entry_eq]
  generalize (lg_sl ([.int x0, .long x1, .long x3]) ++ List.replicate (12 - (lg_sl ([.int x0, .long x1, .long x3])).length) Slot.unset).toArray = ls at hl ⊢
  have hl : lv_has ls 12 [(0, .int x0), (1, .long x1), (3, .long x3)] := hl
  unfold wX9_bits at h
  refine lv_lconst (v := 0) hx hb dX9_bits_0 (by decide) ?_
  refine lv_lstore (lv' := [(5, .long 0), (0, .int x0), (1, .long x1), (3, .long x3)]) hx hb dX9_bits_1 hl (by decide) rfl (fun ls hl => ?_)
  refine lv_iconst (v := 0) hx hb dX9_bits_3 (by decide) ?_
  refine lv_istore (lv' := [(7, .int 0), (5, .long 0), (0, .int x0), (1, .long x1), (3, .long x3)]) hx hb dX9_bits_4 hl (by decide) rfl (fun ls hl => ?_)
  have hL6 : ∀ (n9_6 : Nat) (x5_6 : Int64) (x7_6 : Int32) (H : Heap) (locs : List Loc) (ls : Array Slot), va_S (fun _ => False) s.heap H locs → lv_has ls 12 [(0, .int x0), (1, .long x1), (3, .long x3), (5, .long x5_6), (7, .int x7_6)] → wX9_bits_6 x0 x1 x3 Q n9_6 x5_6 x7_6 → W p l e (headSpec (Cond.code yX9_bits cX9_bits 12 (some .long) :: wsG) ({ frames := 0, cells := 0, slots := 0, locals := 0 } : Room)).room s m ([.int x0, .long x1, .long x3] : List Value).toArray below meth c H locs 0 0 (MQ below (va_Ql (fun (r : Int64) (_ : Unit) => Q r) (fun _ _ => True) (fun _ => False)) ([.int x0, .long x1, .long x3] : List Value).toArray s 0 0 (fun _ => False)) (F0 m 6 ls []) := by
    intro n9_6
    induction n9_6 with
    | zero =>
      intro x5_6 x7_6 H locs ls hS hl h
      exact False.elim h
    | succ n9_6 ih6 =>
      intro x5_6 x7_6 H locs ls hS hl h
      unfold wX9_bits_6 at h
      refine lv_iload hx hb dX9_bits_6 (lv_at hl 4 rfl) ?_
      refine lv_bipush (v := 16) hx hb dX9_bits_8 (by decide) ?_
      refine lv_icmp_ge (tgt := 69) hx hb dX9_bits_10 (by decide) (fun c9 => ?_) (fun c9 => ?_)
      · have h := h.1 c9
        refine lv_lload hx hb dX9_bits_69 (lv_at hl 3 rfl) ?_
        exact W.lret (v := x5_6) hx hb hr (fun t ht hW => ⟨⟨x5_6, (), rfl, h, trivial⟩, hS.F ht⟩) hS.2.2 dX9_bits_71
      · have h := h.2 c9
        refine lv_lload_n hx hb dX9_bits_13 rfl (lv_at hl 1 rfl) ?_
        refine lv_iload hx hb dX9_bits_14 (lv_at hl 4 rfl) ?_
        refine lv_lshr hx hb dX9_bits_16 rfl ?_
        refine lv_lconst (v := 1) hx hb dX9_bits_17 (by decide) ?_
        refine lv_land hx hb dX9_bits_18 ?_
        refine lv_topl (fun x8_19 ex8_19 => ?_)
        have h := h x8_19 ex8_19
        refine lv_lstore (lv' := [(8, .long x8_19), (0, .int x0), (1, .long x1), (3, .long x3), (5, .long x5_6), (7, .int x7_6)]) hx hb dX9_bits_19 hl (by decide) rfl (fun ls hl => ?_)
        refine lv_lload_n hx hb dX9_bits_21 rfl (lv_at hl 3 rfl) ?_
        refine lv_iload hx hb dX9_bits_22 (lv_at hl 5 rfl) ?_
        refine lv_lshr hx hb dX9_bits_24 rfl ?_
        refine lv_lconst (v := 1) hx hb dX9_bits_25 (by decide) ?_
        refine lv_land hx hb dX9_bits_26 ?_
        refine lv_topl (fun x10_27 ex10_27 => ?_)
        have h := h x10_27 ex10_27
        refine lv_lstore (lv' := [(10, .long x10_27), (8, .long x8_19), (0, .int x0), (1, .long x1), (3, .long x3), (5, .long x5_6), (7, .int x7_6)]) hx hb dX9_bits_27 hl (by decide) rfl (fun ls hl => ?_)
        refine lv_lload hx hb dX9_bits_29 (lv_at hl 5 rfl) ?_
        refine lv_iload_n hx hb dX9_bits_31 rfl (lv_at hl 2 rfl) ?_
        refine lv_bipush (v := 8) hx hb dX9_bits_32 (by decide) ?_
        have hJ60 : ∀ (y1_60 : Int64) (H : Heap) (locs : List Loc) (ls : Array Slot), va_S (fun _ => False) s.heap H locs → lv_has ls 12 [(0, .int x0), (1, .long x1), (3, .long x3), (7, .int x7_6)] → wX9_bits_60 x5_6 x7_6 (wX9_bits_6 x0 x1 x3 Q n9_6) y1_60 → W p l e (headSpec (Cond.code yX9_bits cX9_bits 12 (some .long) :: wsG) ({ frames := 0, cells := 0, slots := 0, locals := 0 } : Room)).room s m ([.int x0, .long x1, .long x3] : List Value).toArray below meth c H locs 0 0 (MQ below (va_Ql (fun (r : Int64) (_ : Unit) => Q r) (fun _ _ => True) (fun _ => False)) ([.int x0, .long x1, .long x3] : List Value).toArray s 0 0 (fun _ => False)) (F0 m 60 ls [.long y1_60, .long x5_6]) := by
          intro y1_60 H locs ls hS hl h
          unfold wX9_bits_60 at h
          refine lv_ladd hx hb dX9_bits_60 ?_
          refine lv_topl (fun x5_61 ex5_61 => ?_)
          have h := h x5_61 ex5_61
          refine lv_lstore (lv' := [(5, .long x5_61), (0, .int x0), (1, .long x1), (3, .long x3), (7, .int x7_6)]) hx hb dX9_bits_61 hl (by decide) rfl (fun ls hl => ?_)
          obtain ⟨x7_63, ex7_63⟩ : ∃ y : Int32, y = x7_6 + 1 := ⟨_, rfl⟩
          have h := h x7_63 ex7_63
          refine lv_iinc (v := x7_63) (lv' := [(7, .int x7_63), (5, .long x5_61), (0, .int x0), (1, .long x1), (3, .long x3)]) hx hb dX9_bits_63 hl (k := 4) rfl (by rw [ex7_63]; rfl) (by decide) rfl (fun ls hl => ?_)
          refine lv_goto (tgt := 6) hx hb dX9_bits_66 (by decide) ?_
          exact ih6 x5_61 x7_63 _ _ _ hS (lv_sub hl [2, 3, 4, 1, 0] rfl) h
        refine lv_icmp_ne (tgt := 48) hx hb dX9_bits_34 (by decide) (fun c9 => ?_) (fun c9 => ?_)
        · have h := h.2 c9
          refine lv_lload hx hb dX9_bits_48 (lv_at hl 1 rfl) ?_
          refine lv_lload hx hb dX9_bits_50 (lv_at hl 0 rfl) ?_
          refine lv_ladd hx hb dX9_bits_52 ?_
          refine lv_ldc2 (v := 2) hx hb hown (hq _ q_949) dX9_bits_53 ?_
          refine lv_lrem hx hb dX9_bits_56 (by decide) ?_
          refine lv_iload hx hb dX9_bits_57 (lv_at hl 6 rfl) ?_
          refine lv_lshl hx hb dX9_bits_59 rfl ?_
          exact hJ60 (((x8_19 + x10_27) - (x8_19 + x10_27) / 2 * 2) <<< (x7_6.toInt64 &&& 63)) _ _ _ hS (lv_sub hl [2, 3, 4, 6] rfl) h
        · have h := h.1 c9
          refine lv_lload hx hb dX9_bits_37 (lv_at hl 1 rfl) ?_
          refine lv_lload hx hb dX9_bits_39 (lv_at hl 0 rfl) ?_
          refine lv_lmul hx hb dX9_bits_41 ?_
          refine lv_iload hx hb dX9_bits_42 (lv_at hl 6 rfl) ?_
          refine lv_lshl hx hb dX9_bits_44 rfl ?_
          refine lv_goto (tgt := 60) hx hb dX9_bits_45 (by decide) ?_
          exact hJ60 ((x8_19 * x10_27) <<< (x7_6.toInt64 &&& 63)) _ _ _ hS (lv_sub hl [2, 3, 4, 6] rfl) h
  obtain ⟨k9, h⟩ := h
  exact hL6 k9 0 0 _ _ _ hS (lv_sub hl [2, 3, 4, 1, 0] rfl) h

abbrev qX9_worked (D : va_G) (ca : Nat → ClassId) (a_t a_t_v a_t_past a_t_costs a_t_into a_t_isNeeded a_t_depths a_t_names a_t_out a_t_has : Nat) (t_edits : Int32) (t_thrown : Int32) (t_outs : Int32) (f_t_v : Nat → Int32) (Q : Int64 → Prop) (A : Nat → Prop) : Array Value → State → Outcome → State → Prop := va_Ql (fun (r : Int64) (_ : Unit) => Q r) (wEnd D ca (fun _ : Unit => [(a_t, .inr (7, [.ref a_t_v, .ref a_t_past, .ref a_t_costs, .int t_edits, .int t_thrown, .ref a_t_into, .ref a_t_isNeeded, .ref a_t_depths, .ref a_t_names, .ref a_t_out, .int t_outs, .ref a_t_has])), (a_t_v, .inl (ca 0, 206, .inl f_t_v))]) A) A
def wX9_worked (f_t_v : Nat → Int32) (x1 : Int32) (x2 : Int64) (x4 : Int64) (Q : Int64 → Prop) : Prop :=
  ((x1 = 3 → wX9_value f_t_v (x2 + x4) (fun r_57 => Q r_57)) ∧ (¬ (x1 = 3) → ((x1 = 4 → wX9_value f_t_v (x2 - x4) (fun r_66 => Q r_66)) ∧ (¬ (x1 = 4) → ((x1 = 5 → wX9_value f_t_v (x2 * x4) (fun r_75 => Q r_75)) ∧ (¬ (x1 = 5) → ((x1 = 6 → wX9_all f_t_v (fun r_84 => (¬ r_84 = 0 ∧ Q ((x2 * x4) / r_84)))) ∧ (¬ (x1 = 6) → ((x1 = 7 → wX9_signed f_t_v x2 (fun r_92 => wX9_signed f_t_v x4 (fun r_98 => wX9_all f_t_v (fun r_103 => wX9_floor (r_92 * r_98) r_103 (fun r_106 => wX9_value f_t_v r_106 (fun r_109 => Q r_109)))))) ∧ (¬ (x1 = 7) → ((x1 = 8 → wX9_bits x1 x2 x4 (fun r_117 => Q r_117)) ∧ (¬ (x1 = 8) → ((x1 = 9 → wX9_bits x1 x2 x4 (fun r_125 => Q r_125)) ∧ (¬ (x1 = 9) → ((x1 = 10 → wX9_shifted f_t_v x1 x2 x4.toInt32 (fun r_148 => Q r_148)) ∧ (¬ (x1 = 10) → ((x1 = 11 → ((x4 < x2 → Q 0) ∧ (¬ x4 < x2 → Q 1))) ∧ (¬ (x1 = 11) → wX9_shifted f_t_v x1 x2 x4.toInt32 (fun r_148_1 => Q r_148_1)))))))))))))))))))
set_option maxHeartbeats 4000000 in
set_option maxRecDepth 100000 in
theorem mX9_worked (l : Launch) (D : va_G) (ca : Nat → ClassId) (a_t a_t_v a_t_past a_t_costs a_t_into a_t_isNeeded a_t_depths a_t_names a_t_out a_t_has : Nat) (sz : Nat) (t_edits : Int32) (t_thrown : Int32) (t_outs : Int32) (f_t_v : Nat → Int32) (x1 : Int32) (x2 : Int64) (x4 : Int64) (Q : Int64 → Prop) (h : wX9_worked f_t_v x1 x2 x4 Q) : Met l yX9_worked (Cond.code yX9_worked cX9_worked 6 (some .long) :: wsG) ({ frames := 4, cells := 0, slots := 0, locals := 86 } : Room) (va_Pc [.ref a_t, .int x1, .long x2, .long x4] (wPre D ca [(a_t, .inr (7, [.ref a_t_v, .ref a_t_past, .ref a_t_costs, .int t_edits, .int t_thrown, .ref a_t_into, .ref a_t_isNeeded, .ref a_t_depths, .ref a_t_names, .ref a_t_out, .int t_outs, .ref a_t_has])), (a_t_v, .inl (ca 0, 206, .inl f_t_v))] sz)) (qX9_worked D ca a_t a_t_v a_t_past a_t_costs a_t_into a_t_isNeeded a_t_depths a_t_names a_t_out a_t_has t_edits t_thrown t_outs f_t_v Q (va_A [(a_t, .inr (7, [.ref a_t_v, .ref a_t_past, .ref a_t_costs, .int t_edits, .int t_thrown, .ref a_t_into, .ref a_t_isNeeded, .ref a_t_depths, .ref a_t_names, .ref a_t_out, .int t_outs, .ref a_t_has])), (a_t_v, .inl (ca 0, 206, .inl f_t_v))] sz)) 0 0 (va_A [(a_t, .inr (7, [.ref a_t_v, .ref a_t_past, .ref a_t_costs, .int t_edits, .int t_thrown, .ref a_t_into, .ref a_t_isNeeded, .ref a_t_depths, .ref a_t_names, .ref a_t_out, .int t_outs, .ref a_t_has])), (a_t_v, .inl (ca 0, 206, .inl f_t_v))] sz) := by
  refine Met.ofW (cc := cX9_worked) (maxL := 6) (ret := (some .long)) (by decide) rfl ?_
  intro p e s m args below meth c s₁ B hml hv
  obtain ⟨rfl, hsz, hP, hK, hD0⟩ := hv
  have hx := B.exec
  have hb := B.bytes
  have hr := B.returns
  have hts := atoms_spec (ws := (Cond.code yX9_worked cX9_worked 6 (some .long) :: wsG)) B.pre
  have hq : ∀ w ∈ wsG, w.before _ s = true := fun w hw => hts w (List.mem_cons_of_mem _ hw)
  have hown : s.vm.findClass RX9 = some m.cls := findClass_of_methodNamed B.named
  have hlocks := B.notSynchronized
  subst hsz
  have hD := hD0.self (sz := s.heap.size)
  generalize hAe : va_A [(a_t, .inr (7, [.ref a_t_v, .ref a_t_past, .ref a_t_costs, .int t_edits, .int t_thrown, .ref a_t_into, .ref a_t_isNeeded, .ref a_t_depths, .ref a_t_names, .ref a_t_out, .int t_outs, .ref a_t_has])), (a_t_v, .inl (ca 0, 206, .inl f_t_v))] s.heap.size = A at hD ⊢
  have hA : ∀ q : Nat, s.heap.size ≤ q → A q := fun q h => by rw [← hAe]; exact Or.inr h
  have hS : va_S A s.heap s.heap [] := va_S.rf
  have hP : va_P D vwCl [(a_t, .inr (7, [.ref a_t_v, .ref a_t_past, .ref a_t_costs, .int t_edits, .int t_thrown, .ref a_t_into, .ref a_t_isNeeded, .ref a_t_depths, .ref a_t_names, .ref a_t_out, .int t_outs, .ref a_t_has])), (a_t_v, .inl (ca 0, 206, .inl f_t_v))] s.heap := hP
  have hl := lv_entry ([.ref a_t, .int x1, .long x2, .long x4]) (n := 6) (Nat.le_of_ble_eq_true rfl)
  rw [lg_entry_eq]
  generalize (lg_sl ([.ref a_t, .int x1, .long x2, .long x4]) ++ List.replicate (6 - (lg_sl ([.ref a_t, .int x1, .long x2, .long x4])).length) Slot.unset).toArray = ls at hl ⊢
  have hl : lv_has ls 6 [(0, .ref a_t), (1, .int x1), (2, .long x2), (4, .long x4)] := hl
  unfold wX9_worked at h
  refine lv_iload_n hx hb dX9_worked_0 rfl (lv_at hl 1 rfl) ?_
  by_cases c9 : x1 = 3
  · have h := h.1 c9
    refine lv_tableIn (tgt := 52) hx hb dX9_worked_1 (by rw [c9]; decide) (by rw [c9]; decide) (off := 51) (by rw [c9]; decide) (by decide) ?_
    refine lv_aload_n hx hb dX9_worked_52 rfl (lv_at hl 0 rfl) ?_
    refine lv_lload_n hx hb dX9_worked_53 rfl (lv_at hl 2 rfl) ?_
    refine lv_lload hx hb dX9_worked_54 (lv_at hl 3 rfl) ?_
    refine lv_ladd hx hb dX9_worked_56 ?_
    refine cVl (As := [.long (x2 + x4)]) (rest := []) (wc := [(a_t, .inr (7, [.ref a_t_v, .ref a_t_past, .ref a_t_costs, .int t_edits, .int t_thrown, .ref a_t_into, .ref a_t_isNeeded, .ref a_t_depths, .ref a_t_names, .ref a_t_out, .int t_outs, .ref a_t_has])), (a_t_v, .inl (ca 0, 206, .inl f_t_v))]) (wr := []) (w1 := fun _ : Unit => [(a_t, .inr (7, [.ref a_t_v, .ref a_t_past, .ref a_t_costs, .int t_edits, .int t_thrown, .ref a_t_into, .ref a_t_isNeeded, .ref a_t_depths, .ref a_t_names, .ref a_t_out, .int t_outs, .ref a_t_has])), (a_t_v, .inl (ca 0, 206, .inl f_t_v))]) (ws2 := fun _ : Unit => [(a_t, .inr (7, [.ref a_t_v, .ref a_t_past, .ref a_t_costs, .int t_edits, .int t_thrown, .ref a_t_into, .ref a_t_isNeeded, .ref a_t_depths, .ref a_t_names, .ref a_t_out, .int t_outs, .ref a_t_has])), (a_t_v, .inl (ca 0, 206, .inl f_t_v))]) ⟨hx, hb, hml, hown, hts⟩ (mX9_value l D ca a_t a_t_v a_t_past a_t_costs a_t_into a_t_isNeeded a_t_depths a_t_names a_t_out a_t_has _ t_edits t_thrown t_outs f_t_v (x2 + x4) _ h) (cwV 1 hts (gV q_999 q_1001 qs_40 q_8 q_1002) rfl rfl rfl (by decide +kernel) ⟨Nat.le_of_ble_eq_true rfl, Nat.le_of_ble_eq_true rfl⟩) hK hP hD hS hA [0, 1] [] [0, 1] rfl rfl rfl (by decide) (fun _ => rfl) (ci := 7) (q0 := 0) rfl rfl rfl hl.1 rfl (Nat.le_of_ble_eq_true rfl) dX9_worked_57 ⟨Nat.le_of_ble_eq_true rfl, Nat.le_of_ble_eq_true rfl⟩ (fun r_57 u9 H locs h hP hD hS => ?_)
    try dsimp only at h
    exact W.lret (v := r_57) hx hb hr (fun t ht hW => ⟨⟨r_57, (), rfl, h, by rw [ht]; exact hP, va_K.moved hW.alike hK, hD⟩, hS.F ht⟩) hS.2.2 dX9_worked_60
  have h := h.2 c9
  have cs_3 := c9
  by_cases c9 : x1 = 4
  · have h := h.1 c9
    refine lv_tableIn (tgt := 61) hx hb dX9_worked_1 (by rw [c9]; decide) (by rw [c9]; decide) (off := 60) (by rw [c9]; decide) (by decide) ?_
    refine lv_aload_n hx hb dX9_worked_61 rfl (lv_at hl 0 rfl) ?_
    refine lv_lload_n hx hb dX9_worked_62 rfl (lv_at hl 2 rfl) ?_
    refine lv_lload hx hb dX9_worked_63 (lv_at hl 3 rfl) ?_
    refine lv_lsub hx hb dX9_worked_65 ?_
    refine cVl (As := [.long (x2 - x4)]) (rest := []) (wc := [(a_t, .inr (7, [.ref a_t_v, .ref a_t_past, .ref a_t_costs, .int t_edits, .int t_thrown, .ref a_t_into, .ref a_t_isNeeded, .ref a_t_depths, .ref a_t_names, .ref a_t_out, .int t_outs, .ref a_t_has])), (a_t_v, .inl (ca 0, 206, .inl f_t_v))]) (wr := []) (w1 := fun _ : Unit => [(a_t, .inr (7, [.ref a_t_v, .ref a_t_past, .ref a_t_costs, .int t_edits, .int t_thrown, .ref a_t_into, .ref a_t_isNeeded, .ref a_t_depths, .ref a_t_names, .ref a_t_out, .int t_outs, .ref a_t_has])), (a_t_v, .inl (ca 0, 206, .inl f_t_v))]) (ws2 := fun _ : Unit => [(a_t, .inr (7, [.ref a_t_v, .ref a_t_past, .ref a_t_costs, .int t_edits, .int t_thrown, .ref a_t_into, .ref a_t_isNeeded, .ref a_t_depths, .ref a_t_names, .ref a_t_out, .int t_outs, .ref a_t_has])), (a_t_v, .inl (ca 0, 206, .inl f_t_v))]) ⟨hx, hb, hml, hown, hts⟩ (mX9_value l D ca a_t a_t_v a_t_past a_t_costs a_t_into a_t_isNeeded a_t_depths a_t_names a_t_out a_t_has _ t_edits t_thrown t_outs f_t_v (x2 - x4) _ h) (cwV 1 hts (gV q_999 q_1001 qs_40 q_8 q_1002) rfl rfl rfl (by decide +kernel) ⟨Nat.le_of_ble_eq_true rfl, Nat.le_of_ble_eq_true rfl⟩) hK hP hD hS hA [0, 1] [] [0, 1] rfl rfl rfl (by decide) (fun _ => rfl) (ci := 7) (q0 := 0) rfl rfl rfl hl.1 rfl (Nat.le_of_ble_eq_true rfl) dX9_worked_66 ⟨Nat.le_of_ble_eq_true rfl, Nat.le_of_ble_eq_true rfl⟩ (fun r_66 u9 H locs h hP hD hS => ?_)
    try dsimp only at h
    exact W.lret (v := r_66) hx hb hr (fun t ht hW => ⟨⟨r_66, (), rfl, h, by rw [ht]; exact hP, va_K.moved hW.alike hK, hD⟩, hS.F ht⟩) hS.2.2 dX9_worked_69
  have h := h.2 c9
  have cs_4 := c9
  by_cases c9 : x1 = 5
  · have h := h.1 c9
    refine lv_tableIn (tgt := 70) hx hb dX9_worked_1 (by rw [c9]; decide) (by rw [c9]; decide) (off := 69) (by rw [c9]; decide) (by decide) ?_
    refine lv_aload_n hx hb dX9_worked_70 rfl (lv_at hl 0 rfl) ?_
    refine lv_lload_n hx hb dX9_worked_71 rfl (lv_at hl 2 rfl) ?_
    refine lv_lload hx hb dX9_worked_72 (lv_at hl 3 rfl) ?_
    refine lv_lmul hx hb dX9_worked_74 ?_
    refine cVl (As := [.long (x2 * x4)]) (rest := []) (wc := [(a_t, .inr (7, [.ref a_t_v, .ref a_t_past, .ref a_t_costs, .int t_edits, .int t_thrown, .ref a_t_into, .ref a_t_isNeeded, .ref a_t_depths, .ref a_t_names, .ref a_t_out, .int t_outs, .ref a_t_has])), (a_t_v, .inl (ca 0, 206, .inl f_t_v))]) (wr := []) (w1 := fun _ : Unit => [(a_t, .inr (7, [.ref a_t_v, .ref a_t_past, .ref a_t_costs, .int t_edits, .int t_thrown, .ref a_t_into, .ref a_t_isNeeded, .ref a_t_depths, .ref a_t_names, .ref a_t_out, .int t_outs, .ref a_t_has])), (a_t_v, .inl (ca 0, 206, .inl f_t_v))]) (ws2 := fun _ : Unit => [(a_t, .inr (7, [.ref a_t_v, .ref a_t_past, .ref a_t_costs, .int t_edits, .int t_thrown, .ref a_t_into, .ref a_t_isNeeded, .ref a_t_depths, .ref a_t_names, .ref a_t_out, .int t_outs, .ref a_t_has])), (a_t_v, .inl (ca 0, 206, .inl f_t_v))]) ⟨hx, hb, hml, hown, hts⟩ (mX9_value l D ca a_t a_t_v a_t_past a_t_costs a_t_into a_t_isNeeded a_t_depths a_t_names a_t_out a_t_has _ t_edits t_thrown t_outs f_t_v (x2 * x4) _ h) (cwV 1 hts (gV q_999 q_1001 qs_40 q_8 q_1002) rfl rfl rfl (by decide +kernel) ⟨Nat.le_of_ble_eq_true rfl, Nat.le_of_ble_eq_true rfl⟩) hK hP hD hS hA [0, 1] [] [0, 1] rfl rfl rfl (by decide) (fun _ => rfl) (ci := 7) (q0 := 0) rfl rfl rfl hl.1 rfl (Nat.le_of_ble_eq_true rfl) dX9_worked_75 ⟨Nat.le_of_ble_eq_true rfl, Nat.le_of_ble_eq_true rfl⟩ (fun r_75 u9 H locs h hP hD hS => ?_)
    try dsimp only at h
    exact W.lret (v := r_75) hx hb hr (fun t ht hW => ⟨⟨r_75, (), rfl, h, by rw [ht]; exact hP, va_K.moved hW.alike hK, hD⟩, hS.F ht⟩) hS.2.2 dX9_worked_78
  have h := h.2 c9
  have cs_5 := c9
  by_cases c9 : x1 = 6
  · have h := h.1 c9
    refine lv_tableIn (tgt := 79) hx hb dX9_worked_1 (by rw [c9]; decide) (by rw [c9]; decide) (off := 78) (by rw [c9]; decide) (by decide) ?_
    refine lv_lload_n hx hb dX9_worked_79 rfl (lv_at hl 2 rfl) ?_
    refine lv_lload hx hb dX9_worked_80 (lv_at hl 3 rfl) ?_
    refine lv_lmul hx hb dX9_worked_82 ?_
    refine lv_aload_n hx hb dX9_worked_83 rfl (lv_at hl 0 rfl) ?_
    refine cVl (As := []) (rest := [.long (x2 * x4)]) (wc := [(a_t, .inr (7, [.ref a_t_v, .ref a_t_past, .ref a_t_costs, .int t_edits, .int t_thrown, .ref a_t_into, .ref a_t_isNeeded, .ref a_t_depths, .ref a_t_names, .ref a_t_out, .int t_outs, .ref a_t_has])), (a_t_v, .inl (ca 0, 206, .inl f_t_v))]) (wr := []) (w1 := fun _ : Unit => [(a_t, .inr (7, [.ref a_t_v, .ref a_t_past, .ref a_t_costs, .int t_edits, .int t_thrown, .ref a_t_into, .ref a_t_isNeeded, .ref a_t_depths, .ref a_t_names, .ref a_t_out, .int t_outs, .ref a_t_has])), (a_t_v, .inl (ca 0, 206, .inl f_t_v))]) (ws2 := fun _ : Unit => [(a_t, .inr (7, [.ref a_t_v, .ref a_t_past, .ref a_t_costs, .int t_edits, .int t_thrown, .ref a_t_into, .ref a_t_isNeeded, .ref a_t_depths, .ref a_t_names, .ref a_t_out, .int t_outs, .ref a_t_has])), (a_t_v, .inl (ca 0, 206, .inl f_t_v))]) ⟨hx, hb, hml, hown, hts⟩ (mX9_all l D ca a_t a_t_v a_t_past a_t_costs a_t_into a_t_isNeeded a_t_depths a_t_names a_t_out a_t_has _ t_edits t_thrown t_outs f_t_v _ h) (cwV 0 hts (gV q_955 q_957 qs_35 q_8 q_958) rfl rfl rfl (by decide +kernel) ⟨Nat.le_of_ble_eq_true rfl, Nat.le_of_ble_eq_true rfl⟩) hK hP hD hS hA [0, 1] [] [0, 1] rfl rfl rfl (by decide) (fun _ => rfl) (ci := 7) (q0 := 0) rfl rfl rfl hl.1 rfl (Nat.le_of_ble_eq_true rfl) dX9_worked_84 ⟨Nat.le_of_ble_eq_true rfl, Nat.le_of_ble_eq_true rfl⟩ (fun r_84 u9 H locs h hP hD hS => ?_)
    try dsimp only at h
    obtain ⟨hne9, h⟩ := h
    refine lv_ldiv hx hb dX9_worked_87 hne9 ?_
    exact W.lret (v := (x2 * x4) / r_84) hx hb hr (fun t ht hW => ⟨⟨(x2 * x4) / r_84, (), rfl, h, by rw [ht]; exact hP, va_K.moved hW.alike hK, hD⟩, hS.F ht⟩) hS.2.2 dX9_worked_88
  have h := h.2 c9
  have cs_6 := c9
  by_cases c9 : x1 = 7
  · have h := h.1 c9
    refine lv_tableIn (tgt := 89) hx hb dX9_worked_1 (by rw [c9]; decide) (by rw [c9]; decide) (off := 88) (by rw [c9]; decide) (by decide) ?_
    refine lv_aload_n hx hb dX9_worked_89 rfl (lv_at hl 0 rfl) ?_
    refine lv_aload_n hx hb dX9_worked_90 rfl (lv_at hl 0 rfl) ?_
    refine lv_lload_n hx hb dX9_worked_91 rfl (lv_at hl 2 rfl) ?_
    refine cVl (As := [.long x2]) (rest := [.ref a_t]) (wc := [(a_t, .inr (7, [.ref a_t_v, .ref a_t_past, .ref a_t_costs, .int t_edits, .int t_thrown, .ref a_t_into, .ref a_t_isNeeded, .ref a_t_depths, .ref a_t_names, .ref a_t_out, .int t_outs, .ref a_t_has])), (a_t_v, .inl (ca 0, 206, .inl f_t_v))]) (wr := []) (w1 := fun _ : Unit => [(a_t, .inr (7, [.ref a_t_v, .ref a_t_past, .ref a_t_costs, .int t_edits, .int t_thrown, .ref a_t_into, .ref a_t_isNeeded, .ref a_t_depths, .ref a_t_names, .ref a_t_out, .int t_outs, .ref a_t_has])), (a_t_v, .inl (ca 0, 206, .inl f_t_v))]) (ws2 := fun _ : Unit => [(a_t, .inr (7, [.ref a_t_v, .ref a_t_past, .ref a_t_costs, .int t_edits, .int t_thrown, .ref a_t_into, .ref a_t_isNeeded, .ref a_t_depths, .ref a_t_names, .ref a_t_out, .int t_outs, .ref a_t_has])), (a_t_v, .inl (ca 0, 206, .inl f_t_v))]) ⟨hx, hb, hml, hown, hts⟩ (mX9_signed l D ca a_t a_t_v a_t_past a_t_costs a_t_into a_t_isNeeded a_t_depths a_t_names a_t_out a_t_has _ t_edits t_thrown t_outs f_t_v x2 _ h) (cwV 1 hts (gV q_1182 q_1184 qs_66 q_8 q_1185) rfl rfl rfl (by decide +kernel) ⟨Nat.le_of_ble_eq_true rfl, Nat.le_of_ble_eq_true rfl⟩) hK hP hD hS hA [0, 1] [] [0, 1] rfl rfl rfl (by decide) (fun _ => rfl) (ci := 7) (q0 := 0) rfl rfl rfl hl.1 rfl (Nat.le_of_ble_eq_true rfl) dX9_worked_92 ⟨Nat.le_of_ble_eq_true rfl, Nat.le_of_ble_eq_true rfl⟩ (fun r_92 u9 H locs h hP hD hS => ?_)
    try dsimp only at h
    refine lv_aload_n hx hb dX9_worked_95 rfl (lv_at hl 0 rfl) ?_
    refine lv_lload hx hb dX9_worked_96 (lv_at hl 3 rfl) ?_
    refine cVl (As := [.long x4]) (rest := [.long r_92, .ref a_t]) (wc := [(a_t, .inr (7, [.ref a_t_v, .ref a_t_past, .ref a_t_costs, .int t_edits, .int t_thrown, .ref a_t_into, .ref a_t_isNeeded, .ref a_t_depths, .ref a_t_names, .ref a_t_out, .int t_outs, .ref a_t_has])), (a_t_v, .inl (ca 0, 206, .inl f_t_v))]) (wr := []) (w1 := fun _ : Unit => [(a_t, .inr (7, [.ref a_t_v, .ref a_t_past, .ref a_t_costs, .int t_edits, .int t_thrown, .ref a_t_into, .ref a_t_isNeeded, .ref a_t_depths, .ref a_t_names, .ref a_t_out, .int t_outs, .ref a_t_has])), (a_t_v, .inl (ca 0, 206, .inl f_t_v))]) (ws2 := fun _ : Unit => [(a_t, .inr (7, [.ref a_t_v, .ref a_t_past, .ref a_t_costs, .int t_edits, .int t_thrown, .ref a_t_into, .ref a_t_isNeeded, .ref a_t_depths, .ref a_t_names, .ref a_t_out, .int t_outs, .ref a_t_has])), (a_t_v, .inl (ca 0, 206, .inl f_t_v))]) ⟨hx, hb, hml, hown, hts⟩ (mX9_signed l D ca a_t a_t_v a_t_past a_t_costs a_t_into a_t_isNeeded a_t_depths a_t_names a_t_out a_t_has _ t_edits t_thrown t_outs f_t_v x4 _ h) (cwV 1 hts (gV q_1182 q_1184 qs_66 q_8 q_1185) rfl rfl rfl (by decide +kernel) ⟨Nat.le_of_ble_eq_true rfl, Nat.le_of_ble_eq_true rfl⟩) hK hP hD hS hA [0, 1] [] [0, 1] rfl rfl rfl (by decide) (fun _ => rfl) (ci := 7) (q0 := 0) rfl rfl rfl hl.1 rfl (Nat.le_of_ble_eq_true rfl) dX9_worked_98 ⟨Nat.le_of_ble_eq_true rfl, Nat.le_of_ble_eq_true rfl⟩ (fun r_98 u9 H locs h hP hD hS => ?_)
    try dsimp only at h
    refine lv_lmul hx hb dX9_worked_101 ?_
    refine lv_aload_n hx hb dX9_worked_102 rfl (lv_at hl 0 rfl) ?_
    refine cVl (As := []) (rest := [.long (r_92 * r_98), .ref a_t]) (wc := [(a_t, .inr (7, [.ref a_t_v, .ref a_t_past, .ref a_t_costs, .int t_edits, .int t_thrown, .ref a_t_into, .ref a_t_isNeeded, .ref a_t_depths, .ref a_t_names, .ref a_t_out, .int t_outs, .ref a_t_has])), (a_t_v, .inl (ca 0, 206, .inl f_t_v))]) (wr := []) (w1 := fun _ : Unit => [(a_t, .inr (7, [.ref a_t_v, .ref a_t_past, .ref a_t_costs, .int t_edits, .int t_thrown, .ref a_t_into, .ref a_t_isNeeded, .ref a_t_depths, .ref a_t_names, .ref a_t_out, .int t_outs, .ref a_t_has])), (a_t_v, .inl (ca 0, 206, .inl f_t_v))]) (ws2 := fun _ : Unit => [(a_t, .inr (7, [.ref a_t_v, .ref a_t_past, .ref a_t_costs, .int t_edits, .int t_thrown, .ref a_t_into, .ref a_t_isNeeded, .ref a_t_depths, .ref a_t_names, .ref a_t_out, .int t_outs, .ref a_t_has])), (a_t_v, .inl (ca 0, 206, .inl f_t_v))]) ⟨hx, hb, hml, hown, hts⟩ (mX9_all l D ca a_t a_t_v a_t_past a_t_costs a_t_into a_t_isNeeded a_t_depths a_t_names a_t_out a_t_has _ t_edits t_thrown t_outs f_t_v _ h) (cwV 0 hts (gV q_955 q_957 qs_35 q_8 q_958) rfl rfl rfl (by decide +kernel) ⟨Nat.le_of_ble_eq_true rfl, Nat.le_of_ble_eq_true rfl⟩) hK hP hD hS hA [0, 1] [] [0, 1] rfl rfl rfl (by decide) (fun _ => rfl) (ci := 7) (q0 := 0) rfl rfl rfl hl.1 rfl (Nat.le_of_ble_eq_true rfl) dX9_worked_103 ⟨Nat.le_of_ble_eq_true rfl, Nat.le_of_ble_eq_true rfl⟩ (fun r_103 u9 H locs h hP hD hS => ?_)
    try dsimp only at h
    refine cPl (As := [.long (r_92 * r_98), .long r_103]) (rest := [.ref a_t]) ⟨hx, hb, hml, hown, hts⟩ (mX9_floor l (r_92 * r_98) r_103 _ h) (va_cwS 2 hts (gS q_1003 q_1004 q_8 q_1005) rfl rfl rfl (by decide +kernel) ⟨Nat.le_of_ble_eq_true rfl, Nat.le_of_ble_eq_true rfl⟩) hS rfl hl.1 rfl (Nat.le_of_ble_eq_true rfl) dX9_worked_106 ⟨Nat.le_of_ble_eq_true rfl, Nat.le_of_ble_eq_true rfl⟩ (fun r_106 H1 locs h hk1 hS => ?_)
    have hP := s_back hP hk1
    try dsimp only at h
    refine cVl (As := [.long r_106]) (rest := []) (wc := [(a_t, .inr (7, [.ref a_t_v, .ref a_t_past, .ref a_t_costs, .int t_edits, .int t_thrown, .ref a_t_into, .ref a_t_isNeeded, .ref a_t_depths, .ref a_t_names, .ref a_t_out, .int t_outs, .ref a_t_has])), (a_t_v, .inl (ca 0, 206, .inl f_t_v))]) (wr := []) (w1 := fun _ : Unit => [(a_t, .inr (7, [.ref a_t_v, .ref a_t_past, .ref a_t_costs, .int t_edits, .int t_thrown, .ref a_t_into, .ref a_t_isNeeded, .ref a_t_depths, .ref a_t_names, .ref a_t_out, .int t_outs, .ref a_t_has])), (a_t_v, .inl (ca 0, 206, .inl f_t_v))]) (ws2 := fun _ : Unit => [(a_t, .inr (7, [.ref a_t_v, .ref a_t_past, .ref a_t_costs, .int t_edits, .int t_thrown, .ref a_t_into, .ref a_t_isNeeded, .ref a_t_depths, .ref a_t_names, .ref a_t_out, .int t_outs, .ref a_t_has])), (a_t_v, .inl (ca 0, 206, .inl f_t_v))]) ⟨hx, hb, hml, hown, hts⟩ (mX9_value l D ca a_t a_t_v a_t_past a_t_costs a_t_into a_t_isNeeded a_t_depths a_t_names a_t_out a_t_has _ t_edits t_thrown t_outs f_t_v r_106 _ h) (cwV 1 hts (gV q_999 q_1001 qs_40 q_8 q_1002) rfl rfl rfl (by decide +kernel) ⟨Nat.le_of_ble_eq_true rfl, Nat.le_of_ble_eq_true rfl⟩) hK hP hD hS hA [0, 1] [] [0, 1] rfl rfl rfl (by decide) (fun _ => rfl) (ci := 7) (q0 := 0) rfl rfl rfl hl.1 rfl (Nat.le_of_ble_eq_true rfl) dX9_worked_109 ⟨Nat.le_of_ble_eq_true rfl, Nat.le_of_ble_eq_true rfl⟩ (fun r_109 u9 H locs h hP hD hS => ?_)
    try dsimp only at h
    exact W.lret (v := r_109) hx hb hr (fun t ht hW => ⟨⟨r_109, (), rfl, h, by rw [ht]; exact hP, va_K.moved hW.alike hK, hD⟩, hS.F ht⟩) hS.2.2 dX9_worked_112
  have h := h.2 c9
  have cs_7 := c9
  by_cases c9 : x1 = 8
  · have h := h.1 c9
    refine lv_tableIn (tgt := 113) hx hb dX9_worked_1 (by rw [c9]; decide) (by rw [c9]; decide) (off := 112) (by rw [c9]; decide) (by decide) ?_
    refine lv_iload_n hx hb dX9_worked_113 rfl (lv_at hl 1 rfl) ?_
    refine lv_lload_n hx hb dX9_worked_114 rfl (lv_at hl 2 rfl) ?_
    refine lv_lload hx hb dX9_worked_115 (lv_at hl 3 rfl) ?_
    refine cPl (As := [.int x1, .long x2, .long x4]) (rest := []) ⟨hx, hb, hml, hown, hts⟩ (mX9_bits l x1 x2 x4 _ h) (va_cwS 3 hts (gS q_1186 q_1187 q_8 q_1188) rfl rfl rfl (by decide +kernel) ⟨Nat.le_of_ble_eq_true rfl, Nat.le_of_ble_eq_true rfl⟩) hS rfl hl.1 rfl (Nat.le_of_ble_eq_true rfl) dX9_worked_117 ⟨Nat.le_of_ble_eq_true rfl, Nat.le_of_ble_eq_true rfl⟩ (fun r_117 H1 locs h hk1 hS => ?_)
    have hP := s_back hP hk1
    try dsimp only at h
    exact W.lret (v := r_117) hx hb hr (fun t ht hW => ⟨⟨r_117, (), rfl, h, by rw [ht]; exact hP, va_K.moved hW.alike hK, hD⟩, hS.F ht⟩) hS.2.2 dX9_worked_120
  have h := h.2 c9
  have cs_8 := c9
  by_cases c9 : x1 = 9
  · have h := h.1 c9
    refine lv_tableIn (tgt := 121) hx hb dX9_worked_1 (by rw [c9]; decide) (by rw [c9]; decide) (off := 120) (by rw [c9]; decide) (by decide) ?_
    refine lv_iload_n hx hb dX9_worked_121 rfl (lv_at hl 1 rfl) ?_
    refine lv_lload_n hx hb dX9_worked_122 rfl (lv_at hl 2 rfl) ?_
    refine lv_lload hx hb dX9_worked_123 (lv_at hl 3 rfl) ?_
    refine cPl (As := [.int x1, .long x2, .long x4]) (rest := []) ⟨hx, hb, hml, hown, hts⟩ (mX9_bits l x1 x2 x4 _ h) (va_cwS 3 hts (gS q_1186 q_1187 q_8 q_1188) rfl rfl rfl (by decide +kernel) ⟨Nat.le_of_ble_eq_true rfl, Nat.le_of_ble_eq_true rfl⟩) hS rfl hl.1 rfl (Nat.le_of_ble_eq_true rfl) dX9_worked_125 ⟨Nat.le_of_ble_eq_true rfl, Nat.le_of_ble_eq_true rfl⟩ (fun r_125 H1 locs h hk1 hS => ?_)
    have hP := s_back hP hk1
    try dsimp only at h
    exact W.lret (v := r_125) hx hb hr (fun t ht hW => ⟨⟨r_125, (), rfl, h, by rw [ht]; exact hP, va_K.moved hW.alike hK, hD⟩, hS.F ht⟩) hS.2.2 dX9_worked_128
  have h := h.2 c9
  have cs_9 := c9
  by_cases c9 : x1 = 10
  · have h := h.1 c9
    refine lv_tableIn (tgt := 142) hx hb dX9_worked_1 (by rw [c9]; decide) (by rw [c9]; decide) (off := 141) (by rw [c9]; decide) (by decide) ?_
    refine lv_aload_n hx hb dX9_worked_142 rfl (lv_at hl 0 rfl) ?_
    refine lv_iload_n hx hb dX9_worked_143 rfl (lv_at hl 1 rfl) ?_
    refine lv_lload_n hx hb dX9_worked_144 rfl (lv_at hl 2 rfl) ?_
    refine lv_lload hx hb dX9_worked_145 (lv_at hl 3 rfl) ?_
    refine lv_l2i hx hb dX9_worked_147 rfl ?_
    refine cVl (As := [.int x1, .long x2, .int x4.toInt32]) (rest := []) (wc := [(a_t, .inr (7, [.ref a_t_v, .ref a_t_past, .ref a_t_costs, .int t_edits, .int t_thrown, .ref a_t_into, .ref a_t_isNeeded, .ref a_t_depths, .ref a_t_names, .ref a_t_out, .int t_outs, .ref a_t_has])), (a_t_v, .inl (ca 0, 206, .inl f_t_v))]) (wr := []) (w1 := fun _ : Unit => [(a_t, .inr (7, [.ref a_t_v, .ref a_t_past, .ref a_t_costs, .int t_edits, .int t_thrown, .ref a_t_into, .ref a_t_isNeeded, .ref a_t_depths, .ref a_t_names, .ref a_t_out, .int t_outs, .ref a_t_has])), (a_t_v, .inl (ca 0, 206, .inl f_t_v))]) (ws2 := fun _ : Unit => [(a_t, .inr (7, [.ref a_t_v, .ref a_t_past, .ref a_t_costs, .int t_edits, .int t_thrown, .ref a_t_into, .ref a_t_isNeeded, .ref a_t_depths, .ref a_t_names, .ref a_t_out, .int t_outs, .ref a_t_has])), (a_t_v, .inl (ca 0, 206, .inl f_t_v))]) ⟨hx, hb, hml, hown, hts⟩ (mX9_shifted l D ca a_t a_t_v a_t_past a_t_costs a_t_into a_t_isNeeded a_t_depths a_t_names a_t_out a_t_has _ t_edits t_thrown t_outs f_t_v x1 x2 x4.toInt32 _ h) (cwV 3 hts (gV q_1189 q_1191 qs_67 q_8 q_1192) rfl rfl rfl (by decide +kernel) ⟨Nat.le_of_ble_eq_true rfl, Nat.le_of_ble_eq_true rfl⟩) hK hP hD hS hA [0, 1] [] [0, 1] rfl rfl rfl (by decide) (fun _ => rfl) (ci := 7) (q0 := 0) rfl rfl rfl hl.1 rfl (Nat.le_of_ble_eq_true rfl) dX9_worked_148 ⟨Nat.le_of_ble_eq_true rfl, Nat.le_of_ble_eq_true rfl⟩ (fun r_148 u9 H locs h hP hD hS => ?_)
    try dsimp only at h
    exact W.lret (v := r_148) hx hb hr (fun t ht hW => ⟨⟨r_148, (), rfl, h, by rw [ht]; exact hP, va_K.moved hW.alike hK, hD⟩, hS.F ht⟩) hS.2.2 dX9_worked_151
  have h := h.2 c9
  have cs_10 := c9
  by_cases c9 : x1 = 11
  · have h := h.1 c9
    refine lv_tableIn (tgt := 129) hx hb dX9_worked_1 (by rw [c9]; decide) (by rw [c9]; decide) (off := 128) (by rw [c9]; decide) (by decide) ?_
    refine lv_lload_n hx hb dX9_worked_129 rfl (lv_at hl 2 rfl) ?_
    refine lv_lload hx hb dX9_worked_130 (lv_at hl 3 rfl) ?_
    refine jl_gt (tgt := 140) hx hb dX9_worked_132 dX9_worked_133 (by decide) (fun c9 => ?_) (fun c9 => ?_)
    · have h := h.1 c9
      refine lv_lconst (v := 0) hx hb dX9_worked_140 (by decide) ?_
      exact W.lret (v := 0) hx hb hr (fun t ht hW => ⟨⟨0, (), rfl, h, by rw [ht]; exact hP, va_K.moved hW.alike hK, hD⟩, hS.F ht⟩) hS.2.2 dX9_worked_141
    · have h := h.2 c9
      refine lv_lconst (v := 1) hx hb dX9_worked_136 (by decide) ?_
      refine lv_goto (tgt := 141) hx hb dX9_worked_137 (by decide) ?_
      exact W.lret (v := 1) hx hb hr (fun t ht hW => ⟨⟨1, (), rfl, h, by rw [ht]; exact hP, va_K.moved hW.alike hK, hD⟩, hS.F ht⟩) hS.2.2 dX9_worked_141
  have h := h.2 c9
  have cs_11 := c9
  refine lv_tableOut (tgt := 142) hx hb dX9_worked_1 (sw_out (fun j9 h1 h2 hj => ?_)) (by decide) ?_
  · rcases (show j9 = 3 ∨ j9 = 4 ∨ j9 = 5 ∨ j9 = 6 ∨ j9 = 7 ∨ j9 = 8 ∨ j9 = 9 ∨ j9 = 10 ∨ j9 = 11 by omega) with rfl | rfl | rfl | rfl | rfl | rfl | rfl | rfl | rfl
    · exact cs_3 hj
    · exact cs_4 hj
    · exact cs_5 hj
    · exact cs_6 hj
    · exact cs_7 hj
    · exact cs_8 hj
    · exact cs_9 hj
    · exact cs_10 hj
    · exact cs_11 hj
  refine lv_aload_n hx hb dX9_worked_142 rfl (lv_at hl 0 rfl) ?_
  refine lv_iload_n hx hb dX9_worked_143 rfl (lv_at hl 1 rfl) ?_
  refine lv_lload_n hx hb dX9_worked_144 rfl (lv_at hl 2 rfl) ?_
  refine lv_lload hx hb dX9_worked_145 (lv_at hl 3 rfl) ?_
  refine lv_l2i hx hb dX9_worked_147 rfl ?_
  refine cVl (As := [.int x1, .long x2, .int x4.toInt32]) (rest := []) (wc := [(a_t, .inr (7, [.ref a_t_v, .ref a_t_past, .ref a_t_costs, .int t_edits, .int t_thrown, .ref a_t_into, .ref a_t_isNeeded, .ref a_t_depths, .ref a_t_names, .ref a_t_out, .int t_outs, .ref a_t_has])), (a_t_v, .inl (ca 0, 206, .inl f_t_v))]) (wr := []) (w1 := fun _ : Unit => [(a_t, .inr (7, [.ref a_t_v, .ref a_t_past, .ref a_t_costs, .int t_edits, .int t_thrown, .ref a_t_into, .ref a_t_isNeeded, .ref a_t_depths, .ref a_t_names, .ref a_t_out, .int t_outs, .ref a_t_has])), (a_t_v, .inl (ca 0, 206, .inl f_t_v))]) (ws2 := fun _ : Unit => [(a_t, .inr (7, [.ref a_t_v, .ref a_t_past, .ref a_t_costs, .int t_edits, .int t_thrown, .ref a_t_into, .ref a_t_isNeeded, .ref a_t_depths, .ref a_t_names, .ref a_t_out, .int t_outs, .ref a_t_has])), (a_t_v, .inl (ca 0, 206, .inl f_t_v))]) ⟨hx, hb, hml, hown, hts⟩ (mX9_shifted l D ca a_t a_t_v a_t_past a_t_costs a_t_into a_t_isNeeded a_t_depths a_t_names a_t_out a_t_has _ t_edits t_thrown t_outs f_t_v x1 x2 x4.toInt32 _ h) (cwV 3 hts (gV q_1189 q_1191 qs_67 q_8 q_1192) rfl rfl rfl (by decide +kernel) ⟨Nat.le_of_ble_eq_true rfl, Nat.le_of_ble_eq_true rfl⟩) hK hP hD hS hA [0, 1] [] [0, 1] rfl rfl rfl (by decide) (fun _ => rfl) (ci := 7) (q0 := 0) rfl rfl rfl hl.1 rfl (Nat.le_of_ble_eq_true rfl) dX9_worked_148 ⟨Nat.le_of_ble_eq_true rfl, Nat.le_of_ble_eq_true rfl⟩ (fun r_148_1 u9 H locs h hP hD hS => ?_)
  try dsimp only at h
  exact W.lret (v := r_148_1) hx hb hr (fun t ht hW => ⟨⟨r_148_1, (), rfl, h, by rw [ht]; exact hP, va_K.moved hW.alike hK, hD⟩, hS.F ht⟩) hS.2.2 dX9_worked_151

abbrev qX9_runs (D : va_G) (ca : Nat → ClassId) (a_t a_t_v a_t_past a_t_costs a_t_into a_t_isNeeded a_t_depths a_t_names a_t_out a_t_has : Nat) (t_edits : Int32) (t_thrown : Int32) (t_outs : Int32) (f_t_v : Nat → Int32) (Q : (Nat → Int64) → Prop) (A : Nat → Prop) : Array Value → State → Outcome → State → Prop := va_Qv (fun (u : (Nat → Int64)) => Q u) (wEnd D ca (fun u : (Nat → Int64) => [(a_t, .inr (7, [.ref a_t_v, .ref a_t_past, .ref a_t_costs, .int t_edits, .int t_thrown, .ref a_t_into, .ref a_t_isNeeded, .ref a_t_depths, .ref a_t_names, .ref a_t_out, .int t_outs, .ref a_t_has])), (a_t_v, .inl (ca 0, 206, .inl f_t_v)), (a_t_has, .inl (ca 1, 41, .inr (.inl u)))]) A) A
def wX9_runs_108 (f_t_v : Nat → Int32) (x3_9 : Int32) (f_t_has_9 : Nat → Int64) (K9 : Int32 → (Nat → Int64) → Prop) (x4_24 : Int32) (y0_66 : Int64) (y0_108 : Int64) : Prop :=
  (vp_in x4_24 206 ∧ wX9_worked f_t_v (f_t_v x4_24.toNatClampNeg) y0_66 y0_108 (fun r_129 => (vp_in (x3_9 + 1) 41 ∧ (∀ x3_133 : Int32, x3_133 = x3_9 + 1 → K9 x3_133 (vp_updL f_t_has_9 (x3_9 + 1).toNatClampNeg r_129)))))
def wX9_runs_66 (f_t_v : Nat → Int32) (x3_9 : Int32) (f_t_has_9 : Nat → Int64) (K9 : Int32 → (Nat → Int64) → Prop) (x4_24 : Int32) (y0_66 : Int64) : Prop :=
  (vp_in (x4_24 + 3) 206 ∧ (((f_t_v (x4_24 + 3).toNatClampNeg) = 1 → (vp_in (x4_24 + 4) 206 ∧ wX9_runs_108 f_t_v x3_9 f_t_has_9 K9 x4_24 y0_66 ((f_t_v (x4_24 + 4).toNatClampNeg).toInt64))) ∧ (¬ (f_t_v (x4_24 + 3).toNatClampNeg) = 1 → (vp_in (x4_24 + 4) 206 ∧ (vp_in (f_t_v (x4_24 + 4).toNatClampNeg) 41 ∧ wX9_runs_108 f_t_v x3_9 f_t_has_9 K9 x4_24 y0_66 (f_t_has_9 (f_t_v (x4_24 + 4).toNatClampNeg).toNatClampNeg))))))
def wX9_runs_9 (f_t_v : Nat → Int32) (Q : (Nat → Int64) → Prop) : Nat → Int32 → (Nat → Int64) → Prop
  | 0, _, _ => False
  | n9 + 1, x3_9, f_t_has_9 =>
  (vp_in 3 206 ∧ (((f_t_v (3 : Int32).toNatClampNeg) ≤ x3_9 → Q f_t_has_9) ∧ (¬ (f_t_v (3 : Int32).toNatClampNeg) ≤ x3_9 → (∀ x4_24 : Int32, x4_24 = 5 + (5 * x3_9) → (vp_in (x4_24 + 1) 206 ∧ (((f_t_v (x4_24 + 1).toNatClampNeg) = 1 → (vp_in (x4_24 + 2) 206 ∧ wX9_runs_66 f_t_v x3_9 f_t_has_9 (wX9_runs_9 f_t_v Q n9) x4_24 ((f_t_v (x4_24 + 2).toNatClampNeg).toInt64))) ∧ (¬ (f_t_v (x4_24 + 1).toNatClampNeg) = 1 → (vp_in (x4_24 + 2) 206 ∧ (vp_in (f_t_v (x4_24 + 2).toNatClampNeg) 41 ∧ wX9_runs_66 f_t_v x3_9 f_t_has_9 (wX9_runs_9 f_t_v Q n9) x4_24 (f_t_has_9 (f_t_v (x4_24 + 2).toNatClampNeg).toNatClampNeg))))))))))
def wX9_runs (f_t_v : Nat → Int32) (f_t_has : Nat → Int64) (x1 : Int64) (Q : (Nat → Int64) → Prop) : Prop :=
  (vp_in 0 41 ∧ (∃ k9, wX9_runs_9 f_t_v Q k9 0 (vp_updL f_t_has (0 : Int32).toNatClampNeg x1)))
set_option maxHeartbeats 4000000 in
set_option maxRecDepth 100000 in
theorem mX9_runs (l : Launch) (D : va_G) (ca : Nat → ClassId) (a_t a_t_v a_t_past a_t_costs a_t_into a_t_isNeeded a_t_depths a_t_names a_t_out a_t_has : Nat) (sz : Nat) (t_edits : Int32) (t_thrown : Int32) (t_outs : Int32) (f_t_v : Nat → Int32) (f_t_has : Nat → Int64) (x1 : Int64) (Q : (Nat → Int64) → Prop) (h : wX9_runs f_t_v f_t_has x1 Q) : Met l yX9_runs (Cond.code yX9_runs cX9_runs 9 none :: wsG) ({ frames := 5, cells := 0, slots := 0, locals := 111 } : Room) (va_Pc [.ref a_t, .long x1] (wPre D ca [(a_t, .inr (7, [.ref a_t_v, .ref a_t_past, .ref a_t_costs, .int t_edits, .int t_thrown, .ref a_t_into, .ref a_t_isNeeded, .ref a_t_depths, .ref a_t_names, .ref a_t_out, .int t_outs, .ref a_t_has])), (a_t_v, .inl (ca 0, 206, .inl f_t_v)), (a_t_has, .inl (ca 1, 41, .inr (.inl f_t_has)))] sz)) (qX9_runs D ca a_t a_t_v a_t_past a_t_costs a_t_into a_t_isNeeded a_t_depths a_t_names a_t_out a_t_has t_edits t_thrown t_outs f_t_v Q (va_A [(a_t, .inr (7, [.ref a_t_v, .ref a_t_past, .ref a_t_costs, .int t_edits, .int t_thrown, .ref a_t_into, .ref a_t_isNeeded, .ref a_t_depths, .ref a_t_names, .ref a_t_out, .int t_outs, .ref a_t_has])), (a_t_v, .inl (ca 0, 206, .inl f_t_v)), (a_t_has, .inl (ca 1, 41, .inr (.inl f_t_has)))] sz)) 0 0 (va_A [(a_t, .inr (7, [.ref a_t_v, .ref a_t_past, .ref a_t_costs, .int t_edits, .int t_thrown, .ref a_t_into, .ref a_t_isNeeded, .ref a_t_depths, .ref a_t_names, .ref a_t_out, .int t_outs, .ref a_t_has])), (a_t_v, .inl (ca 0, 206, .inl f_t_v)), (a_t_has, .inl (ca 1, 41, .inr (.inl f_t_has)))] sz) := by
  refine Met.ofW (cc := cX9_runs) (maxL := 9) (ret := none) (by decide) rfl ?_
  intro p e s m args below meth c s₁ B hml hv
  obtain ⟨rfl, hsz, hP, hK, hD0⟩ := hv
  have hx := B.exec
  have hb := B.bytes
  have hr := B.returns
  have hts := atoms_spec (ws := (Cond.code yX9_runs cX9_runs 9 none :: wsG)) B.pre
  have hq : ∀ w ∈ wsG, w.before _ s = true := fun w hw => hts w (List.mem_cons_of_mem _ hw)
  have hown : s.vm.findClass RX9 = some m.cls := findClass_of_methodNamed B.named
  have hlocks := B.notSynchronized
  subst hsz
  have hD := hD0.self (sz := s.heap.size)
  generalize hAe : va_A [(a_t, .inr (7, [.ref a_t_v, .ref a_t_past, .ref a_t_costs, .int t_edits, .int t_thrown, .ref a_t_into, .ref a_t_isNeeded, .ref a_t_depths, .ref a_t_names, .ref a_t_out, .int t_outs, .ref a_t_has])), (a_t_v, .inl (ca 0, 206, .inl f_t_v)), (a_t_has, .inl (ca 1, 41, .inr (.inl f_t_has)))] s.heap.size = A at hD ⊢
  have hA : ∀ q : Nat, s.heap.size ≤ q → A q := fun q h => by rw [← hAe]; exact Or.inr h
  have hS : va_S A s.heap s.heap [] := va_S.rf
  have hP : va_P D vwCl [(a_t, .inr (7, [.ref a_t_v, .ref a_t_past, .ref a_t_costs, .int t_edits, .int t_thrown, .ref a_t_into, .ref a_t_isNeeded, .ref a_t_depths, .ref a_t_names, .ref a_t_out, .int t_outs, .ref a_t_has])), (a_t_v, .inl (ca 0, 206, .inl f_t_v)), (a_t_has, .inl (ca 1, 41, .inr (.inl f_t_has)))] s.heap := hP
  have hl := lv_entry ([.ref a_t, .long x1]) (n := 9) (Nat.le_of_ble_eq_true rfl)
  rw [lg_entry_eq]
  generalize (lg_sl ([.ref a_t, .long x1]) ++ List.replicate (9 - (lg_sl ([.ref a_t, .long x1])).length) Slot.unset).toArray = ls at hl ⊢
  have hl : lv_has ls 9 [(0, .ref a_t), (1, .long x1)] := hl
  unfold wX9_runs at h
  refine lv_aload_n hx hb dX9_runs_0 rfl (lv_at hl 0 rfl) ?_
  refine va_get (D := D) (ci := 7) (v := .ref a_t_has) (C := RX9) (T := TX9) (N := 12) hx hb hq inX9g hown hK hP 0 rfl rfl 11 (by decide) (hq _ q_892) (fun _ h9 => h9) rfl dX9_runs_1 ?_
  refine lv_iconst (v := 0) hx hb dX9_runs_4 (by decide) ?_
  refine lv_lload_n hx hb dX9_runs_5 rfl (lv_at hl 1 rfl) ?_
  obtain ⟨hi9, h⟩ := h
  refine va_last hx hb hK hP hD hS 2 1 rfl rfl hi9 dX9_runs_6 (fun H locs hP hD hS => ?_)
  have hP : va_P D vwCl [(a_t, .inr (7, [.ref a_t_v, .ref a_t_past, .ref a_t_costs, .int t_edits, .int t_thrown, .ref a_t_into, .ref a_t_isNeeded, .ref a_t_depths, .ref a_t_names, .ref a_t_out, .int t_outs, .ref a_t_has])), (a_t_v, .inl (ca 0, 206, .inl f_t_v)), (a_t_has, .inl (ca 1, 41, .inr (.inl (vp_updL f_t_has (0 : Int32).toNatClampNeg x1))))] H := hP
  have hD : va_D A [(a_t, .inr (7, [.ref a_t_v, .ref a_t_past, .ref a_t_costs, .int t_edits, .int t_thrown, .ref a_t_into, .ref a_t_isNeeded, .ref a_t_depths, .ref a_t_names, .ref a_t_out, .int t_outs, .ref a_t_has])), (a_t_v, .inl (ca 0, 206, .inl f_t_v)), (a_t_has, .inl (ca 1, 41, .inr (.inl (vp_updL f_t_has (0 : Int32).toNatClampNeg x1))))] := hD
  refine lv_iconst (v := 0) hx hb dX9_runs_7 (by decide) ?_
  refine lv_istore_n (lv' := [(3, .int 0), (0, .ref a_t), (1, .long x1)]) hx hb dX9_runs_8 rfl hl (by decide) rfl (fun ls hl => ?_)
  have hL9 : ∀ (n9_9 : Nat) (x3_9 : Int32) (f_t_has_9 : Nat → Int64) (H : Heap) (locs : List Loc) (ls : Array Slot), va_P D vwCl [(a_t, .inr (7, [.ref a_t_v, .ref a_t_past, .ref a_t_costs, .int t_edits, .int t_thrown, .ref a_t_into, .ref a_t_isNeeded, .ref a_t_depths, .ref a_t_names, .ref a_t_out, .int t_outs, .ref a_t_has])), (a_t_v, .inl (ca 0, 206, .inl f_t_v)), (a_t_has, .inl (ca 1, 41, .inr (.inl f_t_has_9)))] H → va_D A [(a_t, .inr (7, [.ref a_t_v, .ref a_t_past, .ref a_t_costs, .int t_edits, .int t_thrown, .ref a_t_into, .ref a_t_isNeeded, .ref a_t_depths, .ref a_t_names, .ref a_t_out, .int t_outs, .ref a_t_has])), (a_t_v, .inl (ca 0, 206, .inl f_t_v)), (a_t_has, .inl (ca 1, 41, .inr (.inl f_t_has_9)))] → va_S A s.heap H locs → lv_has ls 9 [(0, .ref a_t), (3, .int x3_9)] → wX9_runs_9 f_t_v Q n9_9 x3_9 f_t_has_9 → W p l e (headSpec (Cond.code yX9_runs cX9_runs 9 none :: wsG) ({ frames := 5, cells := 0, slots := 0, locals := 111 } : Room)).room s m ([.ref a_t, .long x1] : List Value).toArray below meth c H locs 0 0 (MQ below (qX9_runs D ca a_t a_t_v a_t_past a_t_costs a_t_into a_t_isNeeded a_t_depths a_t_names a_t_out a_t_has t_edits t_thrown t_outs f_t_v Q A) ([.ref a_t, .long x1] : List Value).toArray s 0 0 A) (F0 m 9 ls []) := by
    intro n9_9
    induction n9_9 with
    | zero =>
      intro x3_9 f_t_has_9 H locs ls hP hD hS hl h
      exact False.elim h
    | succ n9_9 ih9 =>
      intro x3_9 f_t_has_9 H locs ls hP hD hS hl h
      unfold wX9_runs_9 at h
      refine lv_iload_n hx hb dX9_runs_9 rfl (lv_at hl 1 rfl) ?_
      refine lv_aload_n hx hb dX9_runs_10 rfl (lv_at hl 0 rfl) ?_
      refine va_get (D := D) (ci := 7) (v := .ref a_t_v) (C := RX9) (T := TX9) (N := 12) hx hb hq inX9g hown hK hP 0 rfl rfl 0 (by decide) (hq _ q_881) (fun _ h9 => h9) rfl dX9_runs_11 ?_
      refine lv_iconst (v := 3) hx hb dX9_runs_14 (by decide) ?_
      obtain ⟨hi9, h⟩ := h
      refine va_iald hx hb hK hP 1 0 rfl rfl hi9 dX9_runs_15 ?_
      refine lv_icmp_ge (tgt := 139) hx hb dX9_runs_16 (by decide) (fun c9 => ?_) (fun c9 => ?_)
      · have h := h.1 c9
        exact W.vret hx hb hr (fun t ht hW => ⟨⟨f_t_has_9, rfl, h, by rw [ht]; exact hP, va_K.moved hW.alike hK, hD⟩, hS.F ht⟩) hS.2.2 dX9_runs_139
      · have h := h.2 c9
        refine lv_iconst (v := 5) hx hb dX9_runs_19 (by decide) ?_
        refine lv_iconst (v := 5) hx hb dX9_runs_20 (by decide) ?_
        refine lv_iload_n hx hb dX9_runs_21 rfl (lv_at hl 1 rfl) ?_
        refine lv_imul hx hb dX9_runs_22 ?_
        refine lv_iadd hx hb dX9_runs_23 ?_
        refine lv_topi (fun x4_24 ex4_24 => ?_)
        have h := h x4_24 ex4_24
        refine lv_istore (lv' := [(4, .int x4_24), (0, .ref a_t), (3, .int x3_9)]) hx hb dX9_runs_24 hl (by decide) rfl (fun ls hl => ?_)
        refine lv_aload_n hx hb dX9_runs_26 rfl (lv_at hl 1 rfl) ?_
        refine va_get (D := D) (ci := 7) (v := .ref a_t_v) (C := RX9) (T := TX9) (N := 12) hx hb hq inX9g hown hK hP 0 rfl rfl 0 (by decide) (hq _ q_881) (fun _ h9 => h9) rfl dX9_runs_27 ?_
        refine lv_iload hx hb dX9_runs_30 (lv_at hl 0 rfl) ?_
        refine lv_iconst (v := 1) hx hb dX9_runs_32 (by decide) ?_
        refine lv_iadd hx hb dX9_runs_33 ?_
        obtain ⟨hi9, h⟩ := h
        refine va_iald hx hb hK hP 1 0 rfl rfl hi9 dX9_runs_34 ?_
        refine lv_iconst (v := 1) hx hb dX9_runs_35 (by decide) ?_
        have hJ66 : ∀ (y0_66 : Int64) (H : Heap) (locs : List Loc) (ls : Array Slot), va_P D vwCl [(a_t, .inr (7, [.ref a_t_v, .ref a_t_past, .ref a_t_costs, .int t_edits, .int t_thrown, .ref a_t_into, .ref a_t_isNeeded, .ref a_t_depths, .ref a_t_names, .ref a_t_out, .int t_outs, .ref a_t_has])), (a_t_v, .inl (ca 0, 206, .inl f_t_v)), (a_t_has, .inl (ca 1, 41, .inr (.inl f_t_has_9)))] H → va_D A [(a_t, .inr (7, [.ref a_t_v, .ref a_t_past, .ref a_t_costs, .int t_edits, .int t_thrown, .ref a_t_into, .ref a_t_isNeeded, .ref a_t_depths, .ref a_t_names, .ref a_t_out, .int t_outs, .ref a_t_has])), (a_t_v, .inl (ca 0, 206, .inl f_t_v)), (a_t_has, .inl (ca 1, 41, .inr (.inl f_t_has_9)))] → va_S A s.heap H locs → lv_has ls 9 [(0, .ref a_t), (3, .int x3_9), (4, .int x4_24)] → wX9_runs_66 f_t_v x3_9 f_t_has_9 (wX9_runs_9 f_t_v Q n9_9) x4_24 y0_66 → W p l e (headSpec (Cond.code yX9_runs cX9_runs 9 none :: wsG) ({ frames := 5, cells := 0, slots := 0, locals := 111 } : Room)).room s m ([.ref a_t, .long x1] : List Value).toArray below meth c H locs 0 0 (MQ below (qX9_runs D ca a_t a_t_v a_t_past a_t_costs a_t_into a_t_isNeeded a_t_depths a_t_names a_t_out a_t_has t_edits t_thrown t_outs f_t_v Q A) ([.ref a_t, .long x1] : List Value).toArray s 0 0 A) (F0 m 66 ls [.long y0_66]) := by
          intro y0_66 H locs ls hP hD hS hl h
          unfold wX9_runs_66 at h
          refine lv_lstore (lv' := [(5, .long y0_66), (0, .ref a_t), (3, .int x3_9), (4, .int x4_24)]) hx hb dX9_runs_66 hl (by decide) rfl (fun ls hl => ?_)
          refine lv_aload_n hx hb dX9_runs_68 rfl (lv_at hl 1 rfl) ?_
          refine va_get (D := D) (ci := 7) (v := .ref a_t_v) (C := RX9) (T := TX9) (N := 12) hx hb hq inX9g hown hK hP 0 rfl rfl 0 (by decide) (hq _ q_881) (fun _ h9 => h9) rfl dX9_runs_69 ?_
          refine lv_iload hx hb dX9_runs_72 (lv_at hl 3 rfl) ?_
          refine lv_iconst (v := 3) hx hb dX9_runs_74 (by decide) ?_
          refine lv_iadd hx hb dX9_runs_75 ?_
          obtain ⟨hi9, h⟩ := h
          refine va_iald hx hb hK hP 1 0 rfl rfl hi9 dX9_runs_76 ?_
          refine lv_iconst (v := 1) hx hb dX9_runs_77 (by decide) ?_
          have hJ108 : ∀ (y0_108 : Int64) (H : Heap) (locs : List Loc) (ls : Array Slot), va_P D vwCl [(a_t, .inr (7, [.ref a_t_v, .ref a_t_past, .ref a_t_costs, .int t_edits, .int t_thrown, .ref a_t_into, .ref a_t_isNeeded, .ref a_t_depths, .ref a_t_names, .ref a_t_out, .int t_outs, .ref a_t_has])), (a_t_v, .inl (ca 0, 206, .inl f_t_v)), (a_t_has, .inl (ca 1, 41, .inr (.inl f_t_has_9)))] H → va_D A [(a_t, .inr (7, [.ref a_t_v, .ref a_t_past, .ref a_t_costs, .int t_edits, .int t_thrown, .ref a_t_into, .ref a_t_isNeeded, .ref a_t_depths, .ref a_t_names, .ref a_t_out, .int t_outs, .ref a_t_has])), (a_t_v, .inl (ca 0, 206, .inl f_t_v)), (a_t_has, .inl (ca 1, 41, .inr (.inl f_t_has_9)))] → va_S A s.heap H locs → lv_has ls 9 [(0, .ref a_t), (3, .int x3_9), (4, .int x4_24), (5, .long y0_66)] → wX9_runs_108 f_t_v x3_9 f_t_has_9 (wX9_runs_9 f_t_v Q n9_9) x4_24 y0_66 y0_108 → W p l e (headSpec (Cond.code yX9_runs cX9_runs 9 none :: wsG) ({ frames := 5, cells := 0, slots := 0, locals := 111 } : Room)).room s m ([.ref a_t, .long x1] : List Value).toArray below meth c H locs 0 0 (MQ below (qX9_runs D ca a_t a_t_v a_t_past a_t_costs a_t_into a_t_isNeeded a_t_depths a_t_names a_t_out a_t_has t_edits t_thrown t_outs f_t_v Q A) ([.ref a_t, .long x1] : List Value).toArray s 0 0 A) (F0 m 108 ls [.long y0_108]) := by
            intro y0_108 H locs ls hP hD hS hl h
            unfold wX9_runs_108 at h
            refine lv_lstore (lv' := [(7, .long y0_108), (0, .ref a_t), (3, .int x3_9), (4, .int x4_24), (5, .long y0_66)]) hx hb dX9_runs_108 hl (by decide) rfl (fun ls hl => ?_)
            refine lv_aload_n hx hb dX9_runs_110 rfl (lv_at hl 1 rfl) ?_
            refine va_get (D := D) (ci := 7) (v := .ref a_t_has) (C := RX9) (T := TX9) (N := 12) hx hb hq inX9g hown hK hP 0 rfl rfl 11 (by decide) (hq _ q_892) (fun _ h9 => h9) rfl dX9_runs_111 ?_
            refine lv_iload_n hx hb dX9_runs_114 rfl (lv_at hl 2 rfl) ?_
            refine lv_iconst (v := 1) hx hb dX9_runs_115 (by decide) ?_
            refine lv_iadd hx hb dX9_runs_116 ?_
            refine lv_aload_n hx hb dX9_runs_117 rfl (lv_at hl 1 rfl) ?_
            refine lv_aload_n hx hb dX9_runs_118 rfl (lv_at hl 1 rfl) ?_
            refine va_get (D := D) (ci := 7) (v := .ref a_t_v) (C := RX9) (T := TX9) (N := 12) hx hb hq inX9g hown hK hP 0 rfl rfl 0 (by decide) (hq _ q_881) (fun _ h9 => h9) rfl dX9_runs_119 ?_
            refine lv_iload hx hb dX9_runs_122 (lv_at hl 3 rfl) ?_
            obtain ⟨hi9, h⟩ := h
            refine va_iald hx hb hK hP 1 0 rfl rfl hi9 dX9_runs_124 ?_
            refine lv_lload hx hb dX9_runs_125 (lv_at hl 4 rfl) ?_
            refine lv_lload hx hb dX9_runs_127 (lv_at hl 0 rfl) ?_
            refine cVl (As := [.int (f_t_v x4_24.toNatClampNeg), .long y0_66, .long y0_108]) (rest := [.int (x3_9 + 1), .ref a_t_has]) (wc := [(a_t, .inr (7, [.ref a_t_v, .ref a_t_past, .ref a_t_costs, .int t_edits, .int t_thrown, .ref a_t_into, .ref a_t_isNeeded, .ref a_t_depths, .ref a_t_names, .ref a_t_out, .int t_outs, .ref a_t_has])), (a_t_v, .inl (ca 0, 206, .inl f_t_v))]) (wr := [(a_t_has, .inl (ca 1, 41, .inr (.inl f_t_has_9)))]) (w1 := fun _ : Unit => [(a_t, .inr (7, [.ref a_t_v, .ref a_t_past, .ref a_t_costs, .int t_edits, .int t_thrown, .ref a_t_into, .ref a_t_isNeeded, .ref a_t_depths, .ref a_t_names, .ref a_t_out, .int t_outs, .ref a_t_has])), (a_t_v, .inl (ca 0, 206, .inl f_t_v))]) (ws2 := fun _ : Unit => [(a_t, .inr (7, [.ref a_t_v, .ref a_t_past, .ref a_t_costs, .int t_edits, .int t_thrown, .ref a_t_into, .ref a_t_isNeeded, .ref a_t_depths, .ref a_t_names, .ref a_t_out, .int t_outs, .ref a_t_has])), (a_t_v, .inl (ca 0, 206, .inl f_t_v)), (a_t_has, .inl (ca 1, 41, .inr (.inl f_t_has_9)))]) ⟨hx, hb, hml, hown, hts⟩ (mX9_worked l D ca a_t a_t_v a_t_past a_t_costs a_t_into a_t_isNeeded a_t_depths a_t_names a_t_out a_t_has _ t_edits t_thrown t_outs f_t_v (f_t_v x4_24.toNatClampNeg) y0_66 y0_108 _ h) (cwV 3 hts (gV q_1178 q_1180 qs_65 q_8 q_1181) rfl rfl rfl (by decide +kernel) ⟨Nat.le_of_ble_eq_true rfl, Nat.le_of_ble_eq_true rfl⟩) hK hP hD hS hA [0, 1] [2] [1, 2, 0] rfl rfl rfl (by decide) (fun _ => rfl) (ci := 7) (q0 := 0) rfl rfl rfl hl.1 rfl (Nat.le_of_ble_eq_true rfl) dX9_runs_129 ⟨Nat.le_of_ble_eq_true rfl, Nat.le_of_ble_eq_true rfl⟩ (fun r_129 u9 H locs h hP hD hS => ?_)
            try dsimp only at h
            obtain ⟨hi9, h⟩ := h
            refine va_last hx hb hK hP hD hS 2 1 rfl rfl hi9 dX9_runs_132 (fun H locs hP hD hS => ?_)
            have hP : va_P D vwCl [(a_t, .inr (7, [.ref a_t_v, .ref a_t_past, .ref a_t_costs, .int t_edits, .int t_thrown, .ref a_t_into, .ref a_t_isNeeded, .ref a_t_depths, .ref a_t_names, .ref a_t_out, .int t_outs, .ref a_t_has])), (a_t_v, .inl (ca 0, 206, .inl f_t_v)), (a_t_has, .inl (ca 1, 41, .inr (.inl (vp_updL f_t_has_9 (x3_9 + 1).toNatClampNeg r_129))))] H := hP
            have hD : va_D A [(a_t, .inr (7, [.ref a_t_v, .ref a_t_past, .ref a_t_costs, .int t_edits, .int t_thrown, .ref a_t_into, .ref a_t_isNeeded, .ref a_t_depths, .ref a_t_names, .ref a_t_out, .int t_outs, .ref a_t_has])), (a_t_v, .inl (ca 0, 206, .inl f_t_v)), (a_t_has, .inl (ca 1, 41, .inr (.inl (vp_updL f_t_has_9 (x3_9 + 1).toNatClampNeg r_129))))] := hD
            obtain ⟨x3_133, ex3_133⟩ : ∃ y : Int32, y = x3_9 + 1 := ⟨_, rfl⟩
            have h := h x3_133 ex3_133
            refine lv_iinc (v := x3_133) (lv' := [(3, .int x3_133), (7, .long y0_108), (0, .ref a_t), (4, .int x4_24), (5, .long y0_66)]) hx hb dX9_runs_133 hl (k := 2) rfl (by rw [ex3_133]; rfl) (by decide) rfl (fun ls hl => ?_)
            refine lv_goto (tgt := 9) hx hb dX9_runs_136 (by decide) ?_
            exact ih9 x3_133 (vp_updL f_t_has_9 (x3_9 + 1).toNatClampNeg r_129) _ _ _ hP hD hS (lv_sub hl [2, 0] rfl) h
          refine lv_icmp_ne (tgt := 94) hx hb dX9_runs_78 (by decide) (fun c9 => ?_) (fun c9 => ?_)
          · have h := h.2 c9
            refine lv_aload_n hx hb dX9_runs_94 rfl (lv_at hl 1 rfl) ?_
            refine va_get (D := D) (ci := 7) (v := .ref a_t_has) (C := RX9) (T := TX9) (N := 12) hx hb hq inX9g hown hK hP 0 rfl rfl 11 (by decide) (hq _ q_892) (fun _ h9 => h9) rfl dX9_runs_95 ?_
            refine lv_aload_n hx hb dX9_runs_98 rfl (lv_at hl 1 rfl) ?_
            refine va_get (D := D) (ci := 7) (v := .ref a_t_v) (C := RX9) (T := TX9) (N := 12) hx hb hq inX9g hown hK hP 0 rfl rfl 0 (by decide) (hq _ q_881) (fun _ h9 => h9) rfl dX9_runs_99 ?_
            refine lv_iload hx hb dX9_runs_102 (lv_at hl 3 rfl) ?_
            refine lv_iconst (v := 4) hx hb dX9_runs_104 (by decide) ?_
            refine lv_iadd hx hb dX9_runs_105 ?_
            obtain ⟨hi9, h⟩ := h
            refine va_iald hx hb hK hP 1 0 rfl rfl hi9 dX9_runs_106 ?_
            obtain ⟨hi9, h⟩ := h
            refine va_lald hx hb hK hP 2 1 rfl rfl hi9 dX9_runs_107 ?_
            exact hJ108 (f_t_has_9 (f_t_v (x4_24 + 4).toNatClampNeg).toNatClampNeg) _ _ _ hP hD hS (lv_sub hl [1, 2, 3, 0] rfl) h
          · have h := h.1 c9
            refine lv_aload_n hx hb dX9_runs_81 rfl (lv_at hl 1 rfl) ?_
            refine va_get (D := D) (ci := 7) (v := .ref a_t_v) (C := RX9) (T := TX9) (N := 12) hx hb hq inX9g hown hK hP 0 rfl rfl 0 (by decide) (hq _ q_881) (fun _ h9 => h9) rfl dX9_runs_82 ?_
            refine lv_iload hx hb dX9_runs_85 (lv_at hl 3 rfl) ?_
            refine lv_iconst (v := 4) hx hb dX9_runs_87 (by decide) ?_
            refine lv_iadd hx hb dX9_runs_88 ?_
            obtain ⟨hi9, h⟩ := h
            refine va_iald hx hb hK hP 1 0 rfl rfl hi9 dX9_runs_89 ?_
            refine lv_i2l hx hb dX9_runs_90 rfl ?_
            refine lv_goto (tgt := 108) hx hb dX9_runs_91 (by decide) ?_
            exact hJ108 ((f_t_v (x4_24 + 4).toNatClampNeg).toInt64) _ _ _ hP hD hS (lv_sub hl [1, 2, 3, 0] rfl) h
        refine lv_icmp_ne (tgt := 52) hx hb dX9_runs_36 (by decide) (fun c9 => ?_) (fun c9 => ?_)
        · have h := h.2 c9
          refine lv_aload_n hx hb dX9_runs_52 rfl (lv_at hl 1 rfl) ?_
          refine va_get (D := D) (ci := 7) (v := .ref a_t_has) (C := RX9) (T := TX9) (N := 12) hx hb hq inX9g hown hK hP 0 rfl rfl 11 (by decide) (hq _ q_892) (fun _ h9 => h9) rfl dX9_runs_53 ?_
          refine lv_aload_n hx hb dX9_runs_56 rfl (lv_at hl 1 rfl) ?_
          refine va_get (D := D) (ci := 7) (v := .ref a_t_v) (C := RX9) (T := TX9) (N := 12) hx hb hq inX9g hown hK hP 0 rfl rfl 0 (by decide) (hq _ q_881) (fun _ h9 => h9) rfl dX9_runs_57 ?_
          refine lv_iload hx hb dX9_runs_60 (lv_at hl 0 rfl) ?_
          refine lv_iconst (v := 2) hx hb dX9_runs_62 (by decide) ?_
          refine lv_iadd hx hb dX9_runs_63 ?_
          obtain ⟨hi9, h⟩ := h
          refine va_iald hx hb hK hP 1 0 rfl rfl hi9 dX9_runs_64 ?_
          obtain ⟨hi9, h⟩ := h
          refine va_lald hx hb hK hP 2 1 rfl rfl hi9 dX9_runs_65 ?_
          exact hJ66 (f_t_has_9 (f_t_v (x4_24 + 2).toNatClampNeg).toNatClampNeg) _ _ _ hP hD hS (lv_sub hl [1, 2, 0] rfl) h
        · have h := h.1 c9
          refine lv_aload_n hx hb dX9_runs_39 rfl (lv_at hl 1 rfl) ?_
          refine va_get (D := D) (ci := 7) (v := .ref a_t_v) (C := RX9) (T := TX9) (N := 12) hx hb hq inX9g hown hK hP 0 rfl rfl 0 (by decide) (hq _ q_881) (fun _ h9 => h9) rfl dX9_runs_40 ?_
          refine lv_iload hx hb dX9_runs_43 (lv_at hl 0 rfl) ?_
          refine lv_iconst (v := 2) hx hb dX9_runs_45 (by decide) ?_
          refine lv_iadd hx hb dX9_runs_46 ?_
          obtain ⟨hi9, h⟩ := h
          refine va_iald hx hb hK hP 1 0 rfl rfl hi9 dX9_runs_47 ?_
          refine lv_i2l hx hb dX9_runs_48 rfl ?_
          refine lv_goto (tgt := 66) hx hb dX9_runs_49 (by decide) ?_
          exact hJ66 ((f_t_v (x4_24 + 2).toNatClampNeg).toInt64) _ _ _ hP hD hS (lv_sub hl [1, 2, 0] rfl) h
  obtain ⟨k9, h⟩ := h
  exact hL9 k9 0 (vp_updL f_t_has (0 : Int32).toNatClampNeg x1) _ _ _ hP hD hS (lv_sub hl [1, 0] rfl) h

abbrev qX9_isInput (D : va_G) (ca : Nat → ClassId) (a_t a_t_v a_t_past a_t_costs a_t_into a_t_isNeeded a_t_depths a_t_names a_t_out a_t_has : Nat) (t_edits : Int32) (t_thrown : Int32) (t_outs : Int32) (f_t_v : Nat → Int32) (Q : Int32 → Prop) (A : Nat → Prop) : Array Value → State → Outcome → State → Prop := va_Qi (fun (r : Int32) (_ : Unit) => Q r) (wEnd D ca (fun _ : Unit => [(a_t, .inr (7, [.ref a_t_v, .ref a_t_past, .ref a_t_costs, .int t_edits, .int t_thrown, .ref a_t_into, .ref a_t_isNeeded, .ref a_t_depths, .ref a_t_names, .ref a_t_out, .int t_outs, .ref a_t_has])), (a_t_v, .inl (ca 0, 206, .inl f_t_v))]) A) A
def wX9_isInput (f_t_v : Nat → Int32) (x1 : Int32) (Q : Int32 → Prop) : Prop :=
  wX9_all f_t_v (fun r_4 => wX9_in x1.toInt64 0 (r_4 - 1) (fun r_9 => (narrow .boolean (.int r_9) = .int r_9 ∧ Q r_9)))
set_option maxHeartbeats 4000000 in
set_option maxRecDepth 100000 in
theorem mX9_isInput (l : Launch) (D : va_G) (ca : Nat → ClassId) (a_t a_t_v a_t_past a_t_costs a_t_into a_t_isNeeded a_t_depths a_t_names a_t_out a_t_has : Nat) (sz : Nat) (t_edits : Int32) (t_thrown : Int32) (t_outs : Int32) (f_t_v : Nat → Int32) (x1 : Int32) (Q : Int32 → Prop) (h : wX9_isInput f_t_v x1 Q) : Met l yX9_isInput (Cond.code yX9_isInput cX9_isInput 2 (some .boolean) :: wsG) ({ frames := 2, cells := 0, slots := 0, locals := 40 } : Room) (va_Pc [.ref a_t, .int x1] (wPre D ca [(a_t, .inr (7, [.ref a_t_v, .ref a_t_past, .ref a_t_costs, .int t_edits, .int t_thrown, .ref a_t_into, .ref a_t_isNeeded, .ref a_t_depths, .ref a_t_names, .ref a_t_out, .int t_outs, .ref a_t_has])), (a_t_v, .inl (ca 0, 206, .inl f_t_v))] sz)) (qX9_isInput D ca a_t a_t_v a_t_past a_t_costs a_t_into a_t_isNeeded a_t_depths a_t_names a_t_out a_t_has t_edits t_thrown t_outs f_t_v Q (va_A [(a_t, .inr (7, [.ref a_t_v, .ref a_t_past, .ref a_t_costs, .int t_edits, .int t_thrown, .ref a_t_into, .ref a_t_isNeeded, .ref a_t_depths, .ref a_t_names, .ref a_t_out, .int t_outs, .ref a_t_has])), (a_t_v, .inl (ca 0, 206, .inl f_t_v))] sz)) 0 0 (va_A [(a_t, .inr (7, [.ref a_t_v, .ref a_t_past, .ref a_t_costs, .int t_edits, .int t_thrown, .ref a_t_into, .ref a_t_isNeeded, .ref a_t_depths, .ref a_t_names, .ref a_t_out, .int t_outs, .ref a_t_has])), (a_t_v, .inl (ca 0, 206, .inl f_t_v))] sz) := by
  refine Met.ofW (cc := cX9_isInput) (maxL := 2) (ret := (some .boolean)) (by decide) rfl ?_
  intro p e s m args below meth c s₁ B hml hv
  obtain ⟨rfl, hsz, hP, hK, hD0⟩ := hv
  have hx := B.exec
  have hb := B.bytes
  have hr := B.returns
  have hts := atoms_spec (ws := (Cond.code yX9_isInput cX9_isInput 2 (some .boolean) :: wsG)) B.pre
  have hq : ∀ w ∈ wsG, w.before _ s = true := fun w hw => hts w (List.mem_cons_of_mem _ hw)
  have hown : s.vm.findClass RX9 = some m.cls := findClass_of_methodNamed B.named
  have hlocks := B.notSynchronized
  subst hsz
  have hD := hD0.self (sz := s.heap.size)
  generalize hAe : va_A [(a_t, .inr (7, [.ref a_t_v, .ref a_t_past, .ref a_t_costs, .int t_edits, .int t_thrown, .ref a_t_into, .ref a_t_isNeeded, .ref a_t_depths, .ref a_t_names, .ref a_t_out, .int t_outs, .ref a_t_has])), (a_t_v, .inl (ca 0, 206, .inl f_t_v))] s.heap.size = A at hD ⊢
  have hA : ∀ q : Nat, s.heap.size ≤ q → A q := fun q h => by rw [← hAe]; exact Or.inr h
  have hS : va_S A s.heap s.heap [] := va_S.rf
  have hP : va_P D vwCl [(a_t, .inr (7, [.ref a_t_v, .ref a_t_past, .ref a_t_costs, .int t_edits, .int t_thrown, .ref a_t_into, .ref a_t_isNeeded, .ref a_t_depths, .ref a_t_names, .ref a_t_out, .int t_outs, .ref a_t_has])), (a_t_v, .inl (ca 0, 206, .inl f_t_v))] s.heap := hP
  have hl := lv_entry ([.ref a_t, .int x1]) (n := 2) (Nat.le_of_ble_eq_true rfl)
  rw [lg_entry_eq]
  generalize (lg_sl ([.ref a_t, .int x1]) ++ List.replicate (2 - (lg_sl ([.ref a_t, .int x1])).length) Slot.unset).toArray = ls at hl ⊢
  have hl : lv_has ls 2 [(0, .ref a_t), (1, .int x1)] := hl
  unfold wX9_isInput at h
  refine lv_iload_n hx hb dX9_isInput_0 rfl (lv_at hl 1 rfl) ?_
  refine lv_i2l hx hb dX9_isInput_1 rfl ?_
  refine lv_lconst (v := 0) hx hb dX9_isInput_2 (by decide) ?_
  refine lv_aload_n hx hb dX9_isInput_3 rfl (lv_at hl 0 rfl) ?_
  refine cVl (As := []) (rest := [.long 0, .long x1.toInt64]) (wc := [(a_t, .inr (7, [.ref a_t_v, .ref a_t_past, .ref a_t_costs, .int t_edits, .int t_thrown, .ref a_t_into, .ref a_t_isNeeded, .ref a_t_depths, .ref a_t_names, .ref a_t_out, .int t_outs, .ref a_t_has])), (a_t_v, .inl (ca 0, 206, .inl f_t_v))]) (wr := []) (w1 := fun _ : Unit => [(a_t, .inr (7, [.ref a_t_v, .ref a_t_past, .ref a_t_costs, .int t_edits, .int t_thrown, .ref a_t_into, .ref a_t_isNeeded, .ref a_t_depths, .ref a_t_names, .ref a_t_out, .int t_outs, .ref a_t_has])), (a_t_v, .inl (ca 0, 206, .inl f_t_v))]) (ws2 := fun _ : Unit => [(a_t, .inr (7, [.ref a_t_v, .ref a_t_past, .ref a_t_costs, .int t_edits, .int t_thrown, .ref a_t_into, .ref a_t_isNeeded, .ref a_t_depths, .ref a_t_names, .ref a_t_out, .int t_outs, .ref a_t_has])), (a_t_v, .inl (ca 0, 206, .inl f_t_v))]) ⟨hx, hb, hml, hown, hts⟩ (mX9_all l D ca a_t a_t_v a_t_past a_t_costs a_t_into a_t_isNeeded a_t_depths a_t_names a_t_out a_t_has _ t_edits t_thrown t_outs f_t_v _ h) (cwV 0 hts (gV q_955 q_957 qs_35 q_8 q_958) rfl rfl rfl (by decide +kernel) ⟨Nat.le_of_ble_eq_true rfl, Nat.le_of_ble_eq_true rfl⟩) hK hP hD hS hA [0, 1] [] [0, 1] rfl rfl rfl (by decide) (fun _ => rfl) (ci := 7) (q0 := 0) rfl rfl rfl hl.1 rfl (Nat.le_of_ble_eq_true rfl) dX9_isInput_4 ⟨Nat.le_of_ble_eq_true rfl, Nat.le_of_ble_eq_true rfl⟩ (fun r_4 u9 H locs h hP hD hS => ?_)
  try dsimp only at h
  refine lv_lconst (v := 1) hx hb dX9_isInput_7 (by decide) ?_
  refine lv_lsub hx hb dX9_isInput_8 ?_
  refine cPi (As := [.long x1.toInt64, .long 0, .long (r_4 - 1)]) (rest := []) ⟨hx, hb, hml, hown, hts⟩ (mX9_in l x1.toInt64 0 (r_4 - 1) _ h) (va_cwS 3 hts (gS q_930 q_931 q_8 q_932) rfl rfl rfl (by decide +kernel) ⟨Nat.le_of_ble_eq_true rfl, Nat.le_of_ble_eq_true rfl⟩) hS rfl hl.1 rfl (Nat.le_of_ble_eq_true rfl) dX9_isInput_9 ⟨Nat.le_of_ble_eq_true rfl, Nat.le_of_ble_eq_true rfl⟩ (fun r_9 H1 locs h hk1 hS => ?_)
  have hP := s_back hP hk1
  try dsimp only at h
  obtain ⟨hn9, h⟩ := h
  exact W.zret (v := r_9) hx hb hr hn9 (fun t ht hW => ⟨⟨r_9, (), rfl, h, by rw [ht]; exact hP, va_K.moved hW.alike hK, hD⟩, hS.F ht⟩) hS.2.2 dX9_isInput_12

abbrev qX9_run (D : va_G) (ca : Nat → ClassId) (a_t a_t_v a_t_past a_t_costs a_t_into a_t_isNeeded a_t_depths a_t_names a_t_out a_t_has : Nat) (t_edits : Int32) (t_outs : Int32) (f_t_v : Nat → Int32) (Q : Int32 → Int32 → (Nat → Int64) → Prop) (A : Nat → Prop) : Array Value → State → Outcome → State → Prop := va_Qi (fun (r : Int32) (u : Int32 × (Nat → Int64)) => Q r u.1 u.2) (wEnd D ca (fun u : Int32 × (Nat → Int64) => [(a_t, .inr (7, [.ref a_t_v, .ref a_t_past, .ref a_t_costs, .int t_edits, .int u.1, .ref a_t_into, .ref a_t_isNeeded, .ref a_t_depths, .ref a_t_names, .ref a_t_out, .int t_outs, .ref a_t_has])), (a_t_v, .inl (ca 0, 206, .inl f_t_v)), (a_t_has, .inl (ca 1, 41, .inr (.inl u.2)))]) A) A
def wX9_run (t_thrown : Int32) (f_t_v : Nat → Int32) (f_t_has : Nat → Int64) (x1 : Int32) (Q : Int32 → Int32 → (Nat → Int64) → Prop) : Prop :=
  wX9_isInput f_t_v x1 (fun r_7 => ((r_7 = 0 → wX9_fails 0 1 (fun r_15 t_thrown_15 => Q r_15 t_thrown_15 f_t_has)) ∧ (¬ r_7 = 0 → wX9_runs f_t_v f_t_has x1.toInt64 (fun f_t_has_22 => (vp_in 4 206 ∧ (vp_in (f_t_v (4 : Int32).toNatClampNeg) 41 ∧ Q ((f_t_has_22 (f_t_v (4 : Int32).toNatClampNeg).toNatClampNeg).toInt32) 0 f_t_has_22))))))
set_option maxHeartbeats 4000000 in
set_option maxRecDepth 100000 in
theorem mX9_run (l : Launch) (D : va_G) (ca : Nat → ClassId) (a_t a_t_v a_t_past a_t_costs a_t_into a_t_isNeeded a_t_depths a_t_names a_t_out a_t_has : Nat) (sz : Nat) (t_edits : Int32) (t_thrown : Int32) (t_outs : Int32) (f_t_v : Nat → Int32) (f_t_has : Nat → Int64) (x1 : Int32) (Q : Int32 → Int32 → (Nat → Int64) → Prop) (h : wX9_run t_thrown f_t_v f_t_has x1 Q) : Met l yX9_run (Cond.code yX9_run cX9_run 2 (some .int) :: wsG) ({ frames := 6, cells := 0, slots := 0, locals := 139 } : Room) (va_Pc [.ref a_t, .int x1] (wPre D ca [(a_t, .inr (7, [.ref a_t_v, .ref a_t_past, .ref a_t_costs, .int t_edits, .int t_thrown, .ref a_t_into, .ref a_t_isNeeded, .ref a_t_depths, .ref a_t_names, .ref a_t_out, .int t_outs, .ref a_t_has])), (a_t_v, .inl (ca 0, 206, .inl f_t_v)), (a_t_has, .inl (ca 1, 41, .inr (.inl f_t_has)))] sz)) (qX9_run D ca a_t a_t_v a_t_past a_t_costs a_t_into a_t_isNeeded a_t_depths a_t_names a_t_out a_t_has t_edits t_outs f_t_v Q (va_A [(a_t, .inr (7, [.ref a_t_v, .ref a_t_past, .ref a_t_costs, .int t_edits, .int t_thrown, .ref a_t_into, .ref a_t_isNeeded, .ref a_t_depths, .ref a_t_names, .ref a_t_out, .int t_outs, .ref a_t_has])), (a_t_v, .inl (ca 0, 206, .inl f_t_v)), (a_t_has, .inl (ca 1, 41, .inr (.inl f_t_has)))] sz)) 0 0 (va_A [(a_t, .inr (7, [.ref a_t_v, .ref a_t_past, .ref a_t_costs, .int t_edits, .int t_thrown, .ref a_t_into, .ref a_t_isNeeded, .ref a_t_depths, .ref a_t_names, .ref a_t_out, .int t_outs, .ref a_t_has])), (a_t_v, .inl (ca 0, 206, .inl f_t_v)), (a_t_has, .inl (ca 1, 41, .inr (.inl f_t_has)))] sz) := by
  refine Met.ofW (cc := cX9_run) (maxL := 2) (ret := (some .int)) (by decide) rfl ?_
  intro p e s m args below meth c s₁ B hml hv
  obtain ⟨rfl, hsz, hP, hK, hD0⟩ := hv
  have hx := B.exec
  have hb := B.bytes
  have hr := B.returns
  have hts := atoms_spec (ws := (Cond.code yX9_run cX9_run 2 (some .int) :: wsG)) B.pre
  have hq : ∀ w ∈ wsG, w.before _ s = true := fun w hw => hts w (List.mem_cons_of_mem _ hw)
  have hown : s.vm.findClass RX9 = some m.cls := findClass_of_methodNamed B.named
  have hlocks := B.notSynchronized
  subst hsz
  have hD := hD0.self (sz := s.heap.size)
  generalize hAe : va_A [(a_t, .inr (7, [.ref a_t_v, .ref a_t_past, .ref a_t_costs, .int t_edits, .int t_thrown, .ref a_t_into, .ref a_t_isNeeded, .ref a_t_depths, .ref a_t_names, .ref a_t_out, .int t_outs, .ref a_t_has])), (a_t_v, .inl (ca 0, 206, .inl f_t_v)), (a_t_has, .inl (ca 1, 41, .inr (.inl f_t_has)))] s.heap.size = A at hD ⊢
  have hA : ∀ q : Nat, s.heap.size ≤ q → A q := fun q h => by rw [← hAe]; exact Or.inr h
  have hS : va_S A s.heap s.heap [] := va_S.rf
  have hP : va_P D vwCl [(a_t, .inr (7, [.ref a_t_v, .ref a_t_past, .ref a_t_costs, .int t_edits, .int t_thrown, .ref a_t_into, .ref a_t_isNeeded, .ref a_t_depths, .ref a_t_names, .ref a_t_out, .int t_outs, .ref a_t_has])), (a_t_v, .inl (ca 0, 206, .inl f_t_v)), (a_t_has, .inl (ca 1, 41, .inr (.inl f_t_has)))] s.heap := hP
  have hl := lv_entry ([.ref a_t, .int x1]) (n := 2) (Nat.le_of_ble_eq_true rfl)
  rw [lg_entry_eq]
  generalize (lg_sl ([.ref a_t, .int x1]) ++ List.replicate (2 - (lg_sl ([.ref a_t, .int x1])).length) Slot.unset).toArray = ls at hl ⊢
  have hl : lv_has ls 2 [(0, .ref a_t), (1, .int x1)] := hl
  unfold wX9_run at h
  refine lv_aload_n hx hb dX9_run_0 rfl (lv_at hl 0 rfl) ?_
  refine lv_iconst (v := 0) hx hb dX9_run_1 (by decide) ?_
  refine va_put (D := D) (ci := 7) (v := .int 0) (ty := .int) (C := RX9) (T := TX9) (N := 12) hx hb hq inX9g tyX9 tyX9_ok nmX9 hown hK hP hD hS 0 rfl rfl 4 (by decide) (hq _ q_885) (fun _ h9 => h9) rfl (by decide +kernel) rfl rfl (Nat.le_of_ble_eq_true rfl) dX9_run_2 (fun H locs hP hD hS => ?_)
  have hP : va_P D vwCl [(a_t, .inr (7, [.ref a_t_v, .ref a_t_past, .ref a_t_costs, .int t_edits, .int 0, .ref a_t_into, .ref a_t_isNeeded, .ref a_t_depths, .ref a_t_names, .ref a_t_out, .int t_outs, .ref a_t_has])), (a_t_v, .inl (ca 0, 206, .inl f_t_v)), (a_t_has, .inl (ca 1, 41, .inr (.inl f_t_has)))] H := hP
  have hD : va_D A [(a_t, .inr (7, [.ref a_t_v, .ref a_t_past, .ref a_t_costs, .int t_edits, .int 0, .ref a_t_into, .ref a_t_isNeeded, .ref a_t_depths, .ref a_t_names, .ref a_t_out, .int t_outs, .ref a_t_has])), (a_t_v, .inl (ca 0, 206, .inl f_t_v)), (a_t_has, .inl (ca 1, 41, .inr (.inl f_t_has)))] := hD
  refine lv_aload_n hx hb dX9_run_5 rfl (lv_at hl 0 rfl) ?_
  refine lv_iload_n hx hb dX9_run_6 rfl (lv_at hl 1 rfl) ?_
  refine cVi (As := [.int x1]) (rest := []) (wc := [(a_t, .inr (7, [.ref a_t_v, .ref a_t_past, .ref a_t_costs, .int t_edits, .int 0, .ref a_t_into, .ref a_t_isNeeded, .ref a_t_depths, .ref a_t_names, .ref a_t_out, .int t_outs, .ref a_t_has])), (a_t_v, .inl (ca 0, 206, .inl f_t_v))]) (wr := [(a_t_has, .inl (ca 1, 41, .inr (.inl f_t_has)))]) (w1 := fun _ : Unit => [(a_t, .inr (7, [.ref a_t_v, .ref a_t_past, .ref a_t_costs, .int t_edits, .int 0, .ref a_t_into, .ref a_t_isNeeded, .ref a_t_depths, .ref a_t_names, .ref a_t_out, .int t_outs, .ref a_t_has])), (a_t_v, .inl (ca 0, 206, .inl f_t_v))]) (ws2 := fun _ : Unit => [(a_t, .inr (7, [.ref a_t_v, .ref a_t_past, .ref a_t_costs, .int t_edits, .int 0, .ref a_t_into, .ref a_t_isNeeded, .ref a_t_depths, .ref a_t_names, .ref a_t_out, .int t_outs, .ref a_t_has])), (a_t_v, .inl (ca 0, 206, .inl f_t_v)), (a_t_has, .inl (ca 1, 41, .inr (.inl f_t_has)))]) ⟨hx, hb, hml, hown, hts⟩ (mX9_isInput l D ca a_t a_t_v a_t_past a_t_costs a_t_into a_t_isNeeded a_t_depths a_t_names a_t_out a_t_has _ t_edits 0 t_outs f_t_v x1 _ h) (cwV 1 hts (gV q_1170 q_1172 qs_63 q_8 q_1173) rfl rfl rfl (by decide +kernel) ⟨Nat.le_of_ble_eq_true rfl, Nat.le_of_ble_eq_true rfl⟩) hK hP hD hS hA [0, 1] [2] [1, 2, 0] rfl rfl rfl (by decide) (fun _ => rfl) (ci := 7) (q0 := 0) rfl rfl rfl hl.1 rfl (Nat.le_of_ble_eq_true rfl) dX9_run_7 ⟨Nat.le_of_ble_eq_true rfl, Nat.le_of_ble_eq_true rfl⟩ (fun r_7 u9 H locs h hP hD hS => ?_)
  try dsimp only at h
  refine lv_if_ne (tgt := 19) hx hb dX9_run_10 (by decide) (fun c9 => ?_) (fun c9 => ?_)
  · have h := h.2 c9
    refine lv_aload_n hx hb dX9_run_19 rfl (lv_at hl 0 rfl) ?_
    refine lv_iload_n hx hb dX9_run_20 rfl (lv_at hl 1 rfl) ?_
    refine lv_i2l hx hb dX9_run_21 rfl ?_
    refine cVv (As := [.long x1.toInt64]) (rest := []) (wc := [(a_t, .inr (7, [.ref a_t_v, .ref a_t_past, .ref a_t_costs, .int t_edits, .int 0, .ref a_t_into, .ref a_t_isNeeded, .ref a_t_depths, .ref a_t_names, .ref a_t_out, .int t_outs, .ref a_t_has])), (a_t_v, .inl (ca 0, 206, .inl f_t_v)), (a_t_has, .inl (ca 1, 41, .inr (.inl f_t_has)))]) (wr := []) (w1 := fun u : (Nat → Int64) => [(a_t, .inr (7, [.ref a_t_v, .ref a_t_past, .ref a_t_costs, .int t_edits, .int 0, .ref a_t_into, .ref a_t_isNeeded, .ref a_t_depths, .ref a_t_names, .ref a_t_out, .int t_outs, .ref a_t_has])), (a_t_v, .inl (ca 0, 206, .inl f_t_v)), (a_t_has, .inl (ca 1, 41, .inr (.inl u)))]) (ws2 := fun u : (Nat → Int64) => [(a_t, .inr (7, [.ref a_t_v, .ref a_t_past, .ref a_t_costs, .int t_edits, .int 0, .ref a_t_into, .ref a_t_isNeeded, .ref a_t_depths, .ref a_t_names, .ref a_t_out, .int t_outs, .ref a_t_has])), (a_t_v, .inl (ca 0, 206, .inl f_t_v)), (a_t_has, .inl (ca 1, 41, .inr (.inl u)))]) ⟨hx, hb, hml, hown, hts⟩ (mX9_runs l D ca a_t a_t_v a_t_past a_t_costs a_t_into a_t_isNeeded a_t_depths a_t_names a_t_out a_t_has _ t_edits 0 t_outs f_t_v f_t_has x1.toInt64 _ h) (cwV 1 hts (gV q_1174 q_1176 qs_64 q_8 q_1177) rfl rfl rfl (by decide +kernel) ⟨Nat.le_of_ble_eq_true rfl, Nat.le_of_ble_eq_true rfl⟩) hK hP hD hS hA [0, 1, 2] [] [0, 1, 2] rfl rfl rfl (by decide) (fun _ => rfl) (ci := 7) (q0 := 0) rfl rfl rfl hl.1 rfl (Nat.le_of_ble_eq_true rfl) dX9_run_22 ⟨Nat.le_of_ble_eq_true rfl, Nat.le_of_ble_eq_true rfl⟩ (fun u9 H locs h hP hD hS => ?_)
    obtain ⟨f_t_has_22, rfl⟩ : ∃ z, z = u9 := ⟨_, rfl⟩
    have hP : va_P D vwCl [(a_t, .inr (7, [.ref a_t_v, .ref a_t_past, .ref a_t_costs, .int t_edits, .int 0, .ref a_t_into, .ref a_t_isNeeded, .ref a_t_depths, .ref a_t_names, .ref a_t_out, .int t_outs, .ref a_t_has])), (a_t_v, .inl (ca 0, 206, .inl f_t_v)), (a_t_has, .inl (ca 1, 41, .inr (.inl f_t_has_22)))] H := hP
    have hD : va_D A [(a_t, .inr (7, [.ref a_t_v, .ref a_t_past, .ref a_t_costs, .int t_edits, .int 0, .ref a_t_into, .ref a_t_isNeeded, .ref a_t_depths, .ref a_t_names, .ref a_t_out, .int t_outs, .ref a_t_has])), (a_t_v, .inl (ca 0, 206, .inl f_t_v)), (a_t_has, .inl (ca 1, 41, .inr (.inl f_t_has_22)))] := hD
    try dsimp only at h
    refine lv_aload_n hx hb dX9_run_25 rfl (lv_at hl 0 rfl) ?_
    refine va_get (D := D) (ci := 7) (v := .ref a_t_has) (C := RX9) (T := TX9) (N := 12) hx hb hq inX9g hown hK hP 0 rfl rfl 11 (by decide) (hq _ q_892) (fun _ h9 => h9) rfl dX9_run_26 ?_
    refine lv_aload_n hx hb dX9_run_29 rfl (lv_at hl 0 rfl) ?_
    refine va_get (D := D) (ci := 7) (v := .ref a_t_v) (C := RX9) (T := TX9) (N := 12) hx hb hq inX9g hown hK hP 0 rfl rfl 0 (by decide) (hq _ q_881) (fun _ h9 => h9) rfl dX9_run_30 ?_
    refine lv_iconst (v := 4) hx hb dX9_run_33 (by decide) ?_
    obtain ⟨hi9, h⟩ := h
    refine va_iald hx hb hK hP 1 0 rfl rfl hi9 dX9_run_34 ?_
    obtain ⟨hi9, h⟩ := h
    refine va_lald hx hb hK hP 2 1 rfl rfl hi9 dX9_run_35 ?_
    refine lv_l2i hx hb dX9_run_36 rfl ?_
    exact W.iret (v := (f_t_has_22 (f_t_v (4 : Int32).toNatClampNeg).toNatClampNeg).toInt32) hx hb hr (fun t ht hW => ⟨⟨(f_t_has_22 (f_t_v (4 : Int32).toNatClampNeg).toNatClampNeg).toInt32, (0, f_t_has_22), rfl, h, by rw [ht]; exact hP, va_K.moved hW.alike hK, hD⟩, hS.F ht⟩) hS.2.2 dX9_run_37
  · have h := h.1 c9
    refine lv_aload_n hx hb dX9_run_13 rfl (lv_at hl 0 rfl) ?_
    refine lv_iconst (v := 1) hx hb dX9_run_14 (by decide) ?_
    refine cVi (As := [.int 1]) (rest := []) (wc := [(a_t, .inr (7, [.ref a_t_v, .ref a_t_past, .ref a_t_costs, .int t_edits, .int 0, .ref a_t_into, .ref a_t_isNeeded, .ref a_t_depths, .ref a_t_names, .ref a_t_out, .int t_outs, .ref a_t_has]))]) (wr := [(a_t_v, .inl (ca 0, 206, .inl f_t_v)), (a_t_has, .inl (ca 1, 41, .inr (.inl f_t_has)))]) (w1 := fun u : Int32 => [(a_t, .inr (7, [.ref a_t_v, .ref a_t_past, .ref a_t_costs, .int t_edits, .int u, .ref a_t_into, .ref a_t_isNeeded, .ref a_t_depths, .ref a_t_names, .ref a_t_out, .int t_outs, .ref a_t_has]))]) (ws2 := fun u : Int32 => [(a_t, .inr (7, [.ref a_t_v, .ref a_t_past, .ref a_t_costs, .int t_edits, .int u, .ref a_t_into, .ref a_t_isNeeded, .ref a_t_depths, .ref a_t_names, .ref a_t_out, .int t_outs, .ref a_t_has])), (a_t_v, .inl (ca 0, 206, .inl f_t_v)), (a_t_has, .inl (ca 1, 41, .inr (.inl f_t_has)))]) ⟨hx, hb, hml, hown, hts⟩ (mX9_fails l D ca a_t a_t_v a_t_past a_t_costs a_t_into a_t_isNeeded a_t_depths a_t_names a_t_out a_t_has _ t_edits 0 t_outs 1 _ h) (cwV 1 hts (gV q_933 q_935 qs_33 q_8 q_936) rfl rfl rfl (by decide +kernel) ⟨Nat.le_of_ble_eq_true rfl, Nat.le_of_ble_eq_true rfl⟩) hK hP hD hS hA [0] [1, 2] [2, 0, 1] rfl rfl rfl (by decide) (fun _ => rfl) (ci := 7) (q0 := 0) rfl rfl rfl hl.1 rfl (Nat.le_of_ble_eq_true rfl) dX9_run_15 ⟨Nat.le_of_ble_eq_true rfl, Nat.le_of_ble_eq_true rfl⟩ (fun r_15 u9 H locs h hP hD hS => ?_)
    obtain ⟨t_thrown_15, rfl⟩ : ∃ z, z = u9 := ⟨_, rfl⟩
    have hP : va_P D vwCl [(a_t, .inr (7, [.ref a_t_v, .ref a_t_past, .ref a_t_costs, .int t_edits, .int t_thrown_15, .ref a_t_into, .ref a_t_isNeeded, .ref a_t_depths, .ref a_t_names, .ref a_t_out, .int t_outs, .ref a_t_has])), (a_t_v, .inl (ca 0, 206, .inl f_t_v)), (a_t_has, .inl (ca 1, 41, .inr (.inl f_t_has)))] H := hP
    have hD : va_D A [(a_t, .inr (7, [.ref a_t_v, .ref a_t_past, .ref a_t_costs, .int t_edits, .int t_thrown_15, .ref a_t_into, .ref a_t_isNeeded, .ref a_t_depths, .ref a_t_names, .ref a_t_out, .int t_outs, .ref a_t_has])), (a_t_v, .inl (ca 0, 206, .inl f_t_v)), (a_t_has, .inl (ca 1, 41, .inr (.inl f_t_has)))] := hD
    try dsimp only at h
    exact W.iret (v := r_15) hx hb hr (fun t ht hW => ⟨⟨r_15, (t_thrown_15, f_t_has), rfl, h, by rw [ht]; exact hP, va_K.moved hW.alike hK, hD⟩, hS.F ht⟩) hS.2.2 dX9_run_18

abbrev qX9_valueOf (D : va_G) (ca : Nat → ClassId) (a_t a_t_v a_t_past a_t_costs a_t_into a_t_isNeeded a_t_depths a_t_names a_t_out a_t_has : Nat) (t_edits : Int32) (t_outs : Int32) (f_t_v : Nat → Int32) (Q : Int32 → Int32 → (Nat → Int64) → Prop) (A : Nat → Prop) : Array Value → State → Outcome → State → Prop := va_Qi (fun (r : Int32) (u : Int32 × (Nat → Int64)) => Q r u.1 u.2) (wEnd D ca (fun u : Int32 × (Nat → Int64) => [(a_t, .inr (7, [.ref a_t_v, .ref a_t_past, .ref a_t_costs, .int t_edits, .int u.1, .ref a_t_into, .ref a_t_isNeeded, .ref a_t_depths, .ref a_t_names, .ref a_t_out, .int t_outs, .ref a_t_has])), (a_t_v, .inl (ca 0, 206, .inl f_t_v)), (a_t_has, .inl (ca 1, 41, .inr (.inl u.2)))]) A) A
def wX9_valueOf (t_thrown : Int32) (f_t_v : Nat → Int32) (f_t_has : Nat → Int64) (x1 : Int32) (x2 : Int32) (Q : Int32 → Int32 → (Nat → Int64) → Prop) : Prop :=
  wX9_isInput f_t_v x1 (fun r_7 => ((r_7 = 0 → wX9_fails 0 1 (fun r_15 t_thrown_15 => Q r_15 t_thrown_15 f_t_has)) ∧ (¬ r_7 = 0 → (vp_in 3 206 ∧ wX9_in x2.toInt64 0 ((f_t_v (3 : Int32).toNatClampNeg).toInt64) (fun r_29 => ((r_29 = 0 → wX9_fails 0 2 (fun r_37 t_thrown_37 => Q r_37 t_thrown_37 f_t_has)) ∧ (¬ r_29 = 0 → wX9_runs f_t_v f_t_has x1.toInt64 (fun f_t_has_44 => (vp_in x2 41 ∧ Q ((f_t_has_44 x2.toNatClampNeg).toInt32) 0 f_t_has_44)))))))))
set_option maxHeartbeats 4000000 in
set_option maxRecDepth 100000 in
theorem mX9_valueOf (l : Launch) (D : va_G) (ca : Nat → ClassId) (a_t a_t_v a_t_past a_t_costs a_t_into a_t_isNeeded a_t_depths a_t_names a_t_out a_t_has : Nat) (sz : Nat) (t_edits : Int32) (t_thrown : Int32) (t_outs : Int32) (f_t_v : Nat → Int32) (f_t_has : Nat → Int64) (x1 : Int32) (x2 : Int32) (Q : Int32 → Int32 → (Nat → Int64) → Prop) (h : wX9_valueOf t_thrown f_t_v f_t_has x1 x2 Q) : Met l yX9_valueOf (Cond.code yX9_valueOf cX9_valueOf 3 (some .int) :: wsG) ({ frames := 6, cells := 0, slots := 0, locals := 139 } : Room) (va_Pc [.ref a_t, .int x1, .int x2] (wPre D ca [(a_t, .inr (7, [.ref a_t_v, .ref a_t_past, .ref a_t_costs, .int t_edits, .int t_thrown, .ref a_t_into, .ref a_t_isNeeded, .ref a_t_depths, .ref a_t_names, .ref a_t_out, .int t_outs, .ref a_t_has])), (a_t_v, .inl (ca 0, 206, .inl f_t_v)), (a_t_has, .inl (ca 1, 41, .inr (.inl f_t_has)))] sz)) (qX9_valueOf D ca a_t a_t_v a_t_past a_t_costs a_t_into a_t_isNeeded a_t_depths a_t_names a_t_out a_t_has t_edits t_outs f_t_v Q (va_A [(a_t, .inr (7, [.ref a_t_v, .ref a_t_past, .ref a_t_costs, .int t_edits, .int t_thrown, .ref a_t_into, .ref a_t_isNeeded, .ref a_t_depths, .ref a_t_names, .ref a_t_out, .int t_outs, .ref a_t_has])), (a_t_v, .inl (ca 0, 206, .inl f_t_v)), (a_t_has, .inl (ca 1, 41, .inr (.inl f_t_has)))] sz)) 0 0 (va_A [(a_t, .inr (7, [.ref a_t_v, .ref a_t_past, .ref a_t_costs, .int t_edits, .int t_thrown, .ref a_t_into, .ref a_t_isNeeded, .ref a_t_depths, .ref a_t_names, .ref a_t_out, .int t_outs, .ref a_t_has])), (a_t_v, .inl (ca 0, 206, .inl f_t_v)), (a_t_has, .inl (ca 1, 41, .inr (.inl f_t_has)))] sz) := by
  refine Met.ofW (cc := cX9_valueOf) (maxL := 3) (ret := (some .int)) (by decide) rfl ?_
  intro p e s m args below meth c s₁ B hml hv
  obtain ⟨rfl, hsz, hP, hK, hD0⟩ := hv
  have hx := B.exec
  have hb := B.bytes
  have hr := B.returns
  have hts := atoms_spec (ws := (Cond.code yX9_valueOf cX9_valueOf 3 (some .int) :: wsG)) B.pre
  have hq : ∀ w ∈ wsG, w.before _ s = true := fun w hw => hts w (List.mem_cons_of_mem _ hw)
  have hown : s.vm.findClass RX9 = some m.cls := findClass_of_methodNamed B.named
  have hlocks := B.notSynchronized
  subst hsz
  have hD := hD0.self (sz := s.heap.size)
  generalize hAe : va_A [(a_t, .inr (7, [.ref a_t_v, .ref a_t_past, .ref a_t_costs, .int t_edits, .int t_thrown, .ref a_t_into, .ref a_t_isNeeded, .ref a_t_depths, .ref a_t_names, .ref a_t_out, .int t_outs, .ref a_t_has])), (a_t_v, .inl (ca 0, 206, .inl f_t_v)), (a_t_has, .inl (ca 1, 41, .inr (.inl f_t_has)))] s.heap.size = A at hD ⊢
  have hA : ∀ q : Nat, s.heap.size ≤ q → A q := fun q h => by rw [← hAe]; exact Or.inr h
  have hS : va_S A s.heap s.heap [] := va_S.rf
  have hP : va_P D vwCl [(a_t, .inr (7, [.ref a_t_v, .ref a_t_past, .ref a_t_costs, .int t_edits, .int t_thrown, .ref a_t_into, .ref a_t_isNeeded, .ref a_t_depths, .ref a_t_names, .ref a_t_out, .int t_outs, .ref a_t_has])), (a_t_v, .inl (ca 0, 206, .inl f_t_v)), (a_t_has, .inl (ca 1, 41, .inr (.inl f_t_has)))] s.heap := hP
  have hl := lv_entry ([.ref a_t, .int x1, .int x2]) (n := 3) (Nat.le_of_ble_eq_true rfl)
  rw [lg_entry_eq]
  generalize (lg_sl ([.ref a_t, .int x1, .int x2]) ++ List.replicate (3 - (lg_sl ([.ref a_t, .int x1, .int x2])).length) Slot.unset).toArray = ls at hl ⊢
  have hl : lv_has ls 3 [(0, .ref a_t), (1, .int x1), (2, .int x2)] := hl
  unfold wX9_valueOf at h
  refine lv_aload_n hx hb dX9_valueOf_0 rfl (lv_at hl 0 rfl) ?_
  refine lv_iconst (v := 0) hx hb dX9_valueOf_1 (by decide) ?_
  refine va_put (D := D) (ci := 7) (v := .int 0) (ty := .int) (C := RX9) (T := TX9) (N := 12) hx hb hq inX9g tyX9 tyX9_ok nmX9 hown hK hP hD hS 0 rfl rfl 4 (by decide) (hq _ q_885) (fun _ h9 => h9) rfl (by decide +kernel) rfl rfl (Nat.le_of_ble_eq_true rfl) dX9_valueOf_2 (fun H locs hP hD hS => ?_)
  have hP : va_P D vwCl [(a_t, .inr (7, [.ref a_t_v, .ref a_t_past, .ref a_t_costs, .int t_edits, .int 0, .ref a_t_into, .ref a_t_isNeeded, .ref a_t_depths, .ref a_t_names, .ref a_t_out, .int t_outs, .ref a_t_has])), (a_t_v, .inl (ca 0, 206, .inl f_t_v)), (a_t_has, .inl (ca 1, 41, .inr (.inl f_t_has)))] H := hP
  have hD : va_D A [(a_t, .inr (7, [.ref a_t_v, .ref a_t_past, .ref a_t_costs, .int t_edits, .int 0, .ref a_t_into, .ref a_t_isNeeded, .ref a_t_depths, .ref a_t_names, .ref a_t_out, .int t_outs, .ref a_t_has])), (a_t_v, .inl (ca 0, 206, .inl f_t_v)), (a_t_has, .inl (ca 1, 41, .inr (.inl f_t_has)))] := hD
  refine lv_aload_n hx hb dX9_valueOf_5 rfl (lv_at hl 0 rfl) ?_
  refine lv_iload_n hx hb dX9_valueOf_6 rfl (lv_at hl 1 rfl) ?_
  refine cVi (As := [.int x1]) (rest := []) (wc := [(a_t, .inr (7, [.ref a_t_v, .ref a_t_past, .ref a_t_costs, .int t_edits, .int 0, .ref a_t_into, .ref a_t_isNeeded, .ref a_t_depths, .ref a_t_names, .ref a_t_out, .int t_outs, .ref a_t_has])), (a_t_v, .inl (ca 0, 206, .inl f_t_v))]) (wr := [(a_t_has, .inl (ca 1, 41, .inr (.inl f_t_has)))]) (w1 := fun _ : Unit => [(a_t, .inr (7, [.ref a_t_v, .ref a_t_past, .ref a_t_costs, .int t_edits, .int 0, .ref a_t_into, .ref a_t_isNeeded, .ref a_t_depths, .ref a_t_names, .ref a_t_out, .int t_outs, .ref a_t_has])), (a_t_v, .inl (ca 0, 206, .inl f_t_v))]) (ws2 := fun _ : Unit => [(a_t, .inr (7, [.ref a_t_v, .ref a_t_past, .ref a_t_costs, .int t_edits, .int 0, .ref a_t_into, .ref a_t_isNeeded, .ref a_t_depths, .ref a_t_names, .ref a_t_out, .int t_outs, .ref a_t_has])), (a_t_v, .inl (ca 0, 206, .inl f_t_v)), (a_t_has, .inl (ca 1, 41, .inr (.inl f_t_has)))]) ⟨hx, hb, hml, hown, hts⟩ (mX9_isInput l D ca a_t a_t_v a_t_past a_t_costs a_t_into a_t_isNeeded a_t_depths a_t_names a_t_out a_t_has _ t_edits 0 t_outs f_t_v x1 _ h) (cwV 1 hts (gV q_1170 q_1172 qs_63 q_8 q_1173) rfl rfl rfl (by decide +kernel) ⟨Nat.le_of_ble_eq_true rfl, Nat.le_of_ble_eq_true rfl⟩) hK hP hD hS hA [0, 1] [2] [1, 2, 0] rfl rfl rfl (by decide) (fun _ => rfl) (ci := 7) (q0 := 0) rfl rfl rfl hl.1 rfl (Nat.le_of_ble_eq_true rfl) dX9_valueOf_7 ⟨Nat.le_of_ble_eq_true rfl, Nat.le_of_ble_eq_true rfl⟩ (fun r_7 u9 H locs h hP hD hS => ?_)
  try dsimp only at h
  refine lv_if_ne (tgt := 19) hx hb dX9_valueOf_10 (by decide) (fun c9 => ?_) (fun c9 => ?_)
  · have h := h.2 c9
    refine lv_iload_n hx hb dX9_valueOf_19 rfl (lv_at hl 2 rfl) ?_
    refine lv_i2l hx hb dX9_valueOf_20 rfl ?_
    refine lv_lconst (v := 0) hx hb dX9_valueOf_21 (by decide) ?_
    refine lv_aload_n hx hb dX9_valueOf_22 rfl (lv_at hl 0 rfl) ?_
    refine va_get (D := D) (ci := 7) (v := .ref a_t_v) (C := RX9) (T := TX9) (N := 12) hx hb hq inX9g hown hK hP 0 rfl rfl 0 (by decide) (hq _ q_881) (fun _ h9 => h9) rfl dX9_valueOf_23 ?_
    refine lv_iconst (v := 3) hx hb dX9_valueOf_26 (by decide) ?_
    obtain ⟨hi9, h⟩ := h
    refine va_iald hx hb hK hP 1 0 rfl rfl hi9 dX9_valueOf_27 ?_
    refine lv_i2l hx hb dX9_valueOf_28 rfl ?_
    refine cPi (As := [.long x2.toInt64, .long 0, .long ((f_t_v (3 : Int32).toNatClampNeg).toInt64)]) (rest := []) ⟨hx, hb, hml, hown, hts⟩ (mX9_in l x2.toInt64 0 ((f_t_v (3 : Int32).toNatClampNeg).toInt64) _ h) (va_cwS 3 hts (gS q_930 q_931 q_8 q_932) rfl rfl rfl (by decide +kernel) ⟨Nat.le_of_ble_eq_true rfl, Nat.le_of_ble_eq_true rfl⟩) hS rfl hl.1 rfl (Nat.le_of_ble_eq_true rfl) dX9_valueOf_29 ⟨Nat.le_of_ble_eq_true rfl, Nat.le_of_ble_eq_true rfl⟩ (fun r_29 H1 locs h hk1 hS => ?_)
    have hP := s_back hP hk1
    try dsimp only at h
    refine lv_if_ne (tgt := 41) hx hb dX9_valueOf_32 (by decide) (fun c9 => ?_) (fun c9 => ?_)
    · have h := h.2 c9
      refine lv_aload_n hx hb dX9_valueOf_41 rfl (lv_at hl 0 rfl) ?_
      refine lv_iload_n hx hb dX9_valueOf_42 rfl (lv_at hl 1 rfl) ?_
      refine lv_i2l hx hb dX9_valueOf_43 rfl ?_
      refine cVv (As := [.long x1.toInt64]) (rest := []) (wc := [(a_t, .inr (7, [.ref a_t_v, .ref a_t_past, .ref a_t_costs, .int t_edits, .int 0, .ref a_t_into, .ref a_t_isNeeded, .ref a_t_depths, .ref a_t_names, .ref a_t_out, .int t_outs, .ref a_t_has])), (a_t_v, .inl (ca 0, 206, .inl f_t_v)), (a_t_has, .inl (ca 1, 41, .inr (.inl f_t_has)))]) (wr := []) (w1 := fun u : (Nat → Int64) => [(a_t, .inr (7, [.ref a_t_v, .ref a_t_past, .ref a_t_costs, .int t_edits, .int 0, .ref a_t_into, .ref a_t_isNeeded, .ref a_t_depths, .ref a_t_names, .ref a_t_out, .int t_outs, .ref a_t_has])), (a_t_v, .inl (ca 0, 206, .inl f_t_v)), (a_t_has, .inl (ca 1, 41, .inr (.inl u)))]) (ws2 := fun u : (Nat → Int64) => [(a_t, .inr (7, [.ref a_t_v, .ref a_t_past, .ref a_t_costs, .int t_edits, .int 0, .ref a_t_into, .ref a_t_isNeeded, .ref a_t_depths, .ref a_t_names, .ref a_t_out, .int t_outs, .ref a_t_has])), (a_t_v, .inl (ca 0, 206, .inl f_t_v)), (a_t_has, .inl (ca 1, 41, .inr (.inl u)))]) ⟨hx, hb, hml, hown, hts⟩ (mX9_runs l D ca a_t a_t_v a_t_past a_t_costs a_t_into a_t_isNeeded a_t_depths a_t_names a_t_out a_t_has _ t_edits 0 t_outs f_t_v f_t_has x1.toInt64 _ h) (cwV 1 hts (gV q_1174 q_1176 qs_64 q_8 q_1177) rfl rfl rfl (by decide +kernel) ⟨Nat.le_of_ble_eq_true rfl, Nat.le_of_ble_eq_true rfl⟩) hK hP hD hS hA [0, 1, 2] [] [0, 1, 2] rfl rfl rfl (by decide) (fun _ => rfl) (ci := 7) (q0 := 0) rfl rfl rfl hl.1 rfl (Nat.le_of_ble_eq_true rfl) dX9_valueOf_44 ⟨Nat.le_of_ble_eq_true rfl, Nat.le_of_ble_eq_true rfl⟩ (fun u9 H locs h hP hD hS => ?_)
      obtain ⟨f_t_has_44, rfl⟩ : ∃ z, z = u9 := ⟨_, rfl⟩
      have hP : va_P D vwCl [(a_t, .inr (7, [.ref a_t_v, .ref a_t_past, .ref a_t_costs, .int t_edits, .int 0, .ref a_t_into, .ref a_t_isNeeded, .ref a_t_depths, .ref a_t_names, .ref a_t_out, .int t_outs, .ref a_t_has])), (a_t_v, .inl (ca 0, 206, .inl f_t_v)), (a_t_has, .inl (ca 1, 41, .inr (.inl f_t_has_44)))] H := hP
      have hD : va_D A [(a_t, .inr (7, [.ref a_t_v, .ref a_t_past, .ref a_t_costs, .int t_edits, .int 0, .ref a_t_into, .ref a_t_isNeeded, .ref a_t_depths, .ref a_t_names, .ref a_t_out, .int t_outs, .ref a_t_has])), (a_t_v, .inl (ca 0, 206, .inl f_t_v)), (a_t_has, .inl (ca 1, 41, .inr (.inl f_t_has_44)))] := hD
      try dsimp only at h
      refine lv_aload_n hx hb dX9_valueOf_47 rfl (lv_at hl 0 rfl) ?_
      refine va_get (D := D) (ci := 7) (v := .ref a_t_has) (C := RX9) (T := TX9) (N := 12) hx hb hq inX9g hown hK hP 0 rfl rfl 11 (by decide) (hq _ q_892) (fun _ h9 => h9) rfl dX9_valueOf_48 ?_
      refine lv_iload_n hx hb dX9_valueOf_51 rfl (lv_at hl 2 rfl) ?_
      obtain ⟨hi9, h⟩ := h
      refine va_lald hx hb hK hP 2 1 rfl rfl hi9 dX9_valueOf_52 ?_
      refine lv_l2i hx hb dX9_valueOf_53 rfl ?_
      exact W.iret (v := (f_t_has_44 x2.toNatClampNeg).toInt32) hx hb hr (fun t ht hW => ⟨⟨(f_t_has_44 x2.toNatClampNeg).toInt32, (0, f_t_has_44), rfl, h, by rw [ht]; exact hP, va_K.moved hW.alike hK, hD⟩, hS.F ht⟩) hS.2.2 dX9_valueOf_54
    · have h := h.1 c9
      refine lv_aload_n hx hb dX9_valueOf_35 rfl (lv_at hl 0 rfl) ?_
      refine lv_iconst (v := 2) hx hb dX9_valueOf_36 (by decide) ?_
      refine cVi (As := [.int 2]) (rest := []) (wc := [(a_t, .inr (7, [.ref a_t_v, .ref a_t_past, .ref a_t_costs, .int t_edits, .int 0, .ref a_t_into, .ref a_t_isNeeded, .ref a_t_depths, .ref a_t_names, .ref a_t_out, .int t_outs, .ref a_t_has]))]) (wr := [(a_t_v, .inl (ca 0, 206, .inl f_t_v)), (a_t_has, .inl (ca 1, 41, .inr (.inl f_t_has)))]) (w1 := fun u : Int32 => [(a_t, .inr (7, [.ref a_t_v, .ref a_t_past, .ref a_t_costs, .int t_edits, .int u, .ref a_t_into, .ref a_t_isNeeded, .ref a_t_depths, .ref a_t_names, .ref a_t_out, .int t_outs, .ref a_t_has]))]) (ws2 := fun u : Int32 => [(a_t, .inr (7, [.ref a_t_v, .ref a_t_past, .ref a_t_costs, .int t_edits, .int u, .ref a_t_into, .ref a_t_isNeeded, .ref a_t_depths, .ref a_t_names, .ref a_t_out, .int t_outs, .ref a_t_has])), (a_t_v, .inl (ca 0, 206, .inl f_t_v)), (a_t_has, .inl (ca 1, 41, .inr (.inl f_t_has)))]) ⟨hx, hb, hml, hown, hts⟩ (mX9_fails l D ca a_t a_t_v a_t_past a_t_costs a_t_into a_t_isNeeded a_t_depths a_t_names a_t_out a_t_has _ t_edits 0 t_outs 2 _ h) (cwV 1 hts (gV q_933 q_935 qs_33 q_8 q_936) rfl rfl rfl (by decide +kernel) ⟨Nat.le_of_ble_eq_true rfl, Nat.le_of_ble_eq_true rfl⟩) hK hP hD hS hA [0] [1, 2] [2, 0, 1] rfl rfl rfl (by decide) (fun _ => rfl) (ci := 7) (q0 := 0) rfl rfl rfl hl.1 rfl (Nat.le_of_ble_eq_true rfl) dX9_valueOf_37 ⟨Nat.le_of_ble_eq_true rfl, Nat.le_of_ble_eq_true rfl⟩ (fun r_37 u9 H locs h hP hD hS => ?_)
      obtain ⟨t_thrown_37, rfl⟩ : ∃ z, z = u9 := ⟨_, rfl⟩
      have hP : va_P D vwCl [(a_t, .inr (7, [.ref a_t_v, .ref a_t_past, .ref a_t_costs, .int t_edits, .int t_thrown_37, .ref a_t_into, .ref a_t_isNeeded, .ref a_t_depths, .ref a_t_names, .ref a_t_out, .int t_outs, .ref a_t_has])), (a_t_v, .inl (ca 0, 206, .inl f_t_v)), (a_t_has, .inl (ca 1, 41, .inr (.inl f_t_has)))] H := hP
      have hD : va_D A [(a_t, .inr (7, [.ref a_t_v, .ref a_t_past, .ref a_t_costs, .int t_edits, .int t_thrown_37, .ref a_t_into, .ref a_t_isNeeded, .ref a_t_depths, .ref a_t_names, .ref a_t_out, .int t_outs, .ref a_t_has])), (a_t_v, .inl (ca 0, 206, .inl f_t_v)), (a_t_has, .inl (ca 1, 41, .inr (.inl f_t_has)))] := hD
      try dsimp only at h
      exact W.iret (v := r_37) hx hb hr (fun t ht hW => ⟨⟨r_37, (t_thrown_37, f_t_has), rfl, h, by rw [ht]; exact hP, va_K.moved hW.alike hK, hD⟩, hS.F ht⟩) hS.2.2 dX9_valueOf_40
  · have h := h.1 c9
    refine lv_aload_n hx hb dX9_valueOf_13 rfl (lv_at hl 0 rfl) ?_
    refine lv_iconst (v := 1) hx hb dX9_valueOf_14 (by decide) ?_
    refine cVi (As := [.int 1]) (rest := []) (wc := [(a_t, .inr (7, [.ref a_t_v, .ref a_t_past, .ref a_t_costs, .int t_edits, .int 0, .ref a_t_into, .ref a_t_isNeeded, .ref a_t_depths, .ref a_t_names, .ref a_t_out, .int t_outs, .ref a_t_has]))]) (wr := [(a_t_v, .inl (ca 0, 206, .inl f_t_v)), (a_t_has, .inl (ca 1, 41, .inr (.inl f_t_has)))]) (w1 := fun u : Int32 => [(a_t, .inr (7, [.ref a_t_v, .ref a_t_past, .ref a_t_costs, .int t_edits, .int u, .ref a_t_into, .ref a_t_isNeeded, .ref a_t_depths, .ref a_t_names, .ref a_t_out, .int t_outs, .ref a_t_has]))]) (ws2 := fun u : Int32 => [(a_t, .inr (7, [.ref a_t_v, .ref a_t_past, .ref a_t_costs, .int t_edits, .int u, .ref a_t_into, .ref a_t_isNeeded, .ref a_t_depths, .ref a_t_names, .ref a_t_out, .int t_outs, .ref a_t_has])), (a_t_v, .inl (ca 0, 206, .inl f_t_v)), (a_t_has, .inl (ca 1, 41, .inr (.inl f_t_has)))]) ⟨hx, hb, hml, hown, hts⟩ (mX9_fails l D ca a_t a_t_v a_t_past a_t_costs a_t_into a_t_isNeeded a_t_depths a_t_names a_t_out a_t_has _ t_edits 0 t_outs 1 _ h) (cwV 1 hts (gV q_933 q_935 qs_33 q_8 q_936) rfl rfl rfl (by decide +kernel) ⟨Nat.le_of_ble_eq_true rfl, Nat.le_of_ble_eq_true rfl⟩) hK hP hD hS hA [0] [1, 2] [2, 0, 1] rfl rfl rfl (by decide) (fun _ => rfl) (ci := 7) (q0 := 0) rfl rfl rfl hl.1 rfl (Nat.le_of_ble_eq_true rfl) dX9_valueOf_15 ⟨Nat.le_of_ble_eq_true rfl, Nat.le_of_ble_eq_true rfl⟩ (fun r_15 u9 H locs h hP hD hS => ?_)
    obtain ⟨t_thrown_15, rfl⟩ : ∃ z, z = u9 := ⟨_, rfl⟩
    have hP : va_P D vwCl [(a_t, .inr (7, [.ref a_t_v, .ref a_t_past, .ref a_t_costs, .int t_edits, .int t_thrown_15, .ref a_t_into, .ref a_t_isNeeded, .ref a_t_depths, .ref a_t_names, .ref a_t_out, .int t_outs, .ref a_t_has])), (a_t_v, .inl (ca 0, 206, .inl f_t_v)), (a_t_has, .inl (ca 1, 41, .inr (.inl f_t_has)))] H := hP
    have hD : va_D A [(a_t, .inr (7, [.ref a_t_v, .ref a_t_past, .ref a_t_costs, .int t_edits, .int t_thrown_15, .ref a_t_into, .ref a_t_isNeeded, .ref a_t_depths, .ref a_t_names, .ref a_t_out, .int t_outs, .ref a_t_has])), (a_t_v, .inl (ca 0, 206, .inl f_t_v)), (a_t_has, .inl (ca 1, 41, .inr (.inl f_t_has)))] := hD
    try dsimp only at h
    exact W.iret (v := r_15) hx hb hr (fun t ht hW => ⟨⟨r_15, (t_thrown_15, f_t_has), rfl, h, by rw [ht]; exact hP, va_K.moved hW.alike hK, hD⟩, hS.F ht⟩) hS.2.2 dX9_valueOf_18

abbrev qX9_asked (D : va_G) (ca : Nat → ClassId) (a_t a_t_v a_t_past a_t_costs a_t_into a_t_isNeeded a_t_depths a_t_names a_t_out a_t_has : Nat) (t_edits : Int32) (t_thrown : Int32) (t_outs : Int32) (f_t_v : Nat → Int32) (Q : Int64 → Prop) (A : Nat → Prop) : Array Value → State → Outcome → State → Prop := va_Ql (fun (r : Int64) (_ : Unit) => Q r) (wEnd D ca (fun _ : Unit => [(a_t, .inr (7, [.ref a_t_v, .ref a_t_past, .ref a_t_costs, .int t_edits, .int t_thrown, .ref a_t_into, .ref a_t_isNeeded, .ref a_t_depths, .ref a_t_names, .ref a_t_out, .int t_outs, .ref a_t_has])), (a_t_v, .inl (ca 0, 206, .inl f_t_v))]) A) A
def wX9_asked (f_t_v : Nat → Int32) (x1 : Int64) (Q : Int64 → Prop) : Prop :=
  (vp_in 2 206 ∧ (∀ x3_7 : Int64, x3_7 = (f_t_v (2 : Int32).toNatClampNeg).toInt64 → wX9_signed f_t_v x1 (fun r_10 => (vp_in 1 206 ∧ (((f_t_v (1 : Int32).toNatClampNeg) = 0 → (¬ x3_7 = 0 ∧ Q (x1 / x3_7))) ∧ (¬ ((f_t_v (1 : Int32).toNatClampNeg) = 0) → (((f_t_v (1 : Int32).toNatClampNeg) = 1 → (¬ x3_7 = 0 ∧ Q (x1 - x1 / x3_7 * x3_7))) ∧ (¬ ((f_t_v (1 : Int32).toNatClampNeg) = 1) → (((f_t_v (1 : Int32).toNatClampNeg) = 2 → (¬ x3_7 = 0 ∧ wX9_value f_t_v (r_10 / x3_7) (fun r_77 => Q r_77))) ∧ (¬ ((f_t_v (1 : Int32).toNatClampNeg) = 2) → (((f_t_v (1 : Int32).toNatClampNeg) = 3 → (¬ x3_7 = 0 ∧ wX9_value f_t_v (r_10 - r_10 / x3_7 * x3_7) (fun r_86 => Q r_86))) ∧ (¬ ((f_t_v (1 : Int32).toNatClampNeg) = 3) → (((f_t_v (1 : Int32).toNatClampNeg) = 4 → wX9_floor r_10 x3_7 (fun r_94 => wX9_value f_t_v r_94 (fun r_97 => Q r_97))) ∧ (¬ ((f_t_v (1 : Int32).toNatClampNeg) = 4) → (((f_t_v (1 : Int32).toNatClampNeg) = 5 → (¬ x3_7 = 0 ∧ (((x1 - x1 / x3_7 * x3_7) = 0 → (¬ x3_7 = 0 ∧ Q (x1 / x3_7))) ∧ (¬ (x1 - x1 / x3_7 * x3_7) = 0 → Q ((-1)))))) ∧ (¬ ((f_t_v (1 : Int32).toNatClampNeg) = 5) → (((f_t_v (1 : Int32).toNatClampNeg) = 6 → (¬ x3_7 = 0 ∧ (((x1 - x1 / x3_7 * x3_7) = 0 → Q 1) ∧ (¬ (x1 - x1 / x3_7 * x3_7) = 0 → Q 0)))) ∧ (¬ ((f_t_v (1 : Int32).toNatClampNeg) = 6) → wX9_value f_t_v (x1 * x3_7) (fun r_137 => Q r_137)))))))))))))))))))
set_option maxHeartbeats 4000000 in
set_option maxRecDepth 100000 in
theorem mX9_asked (l : Launch) (D : va_G) (ca : Nat → ClassId) (a_t a_t_v a_t_past a_t_costs a_t_into a_t_isNeeded a_t_depths a_t_names a_t_out a_t_has : Nat) (sz : Nat) (t_edits : Int32) (t_thrown : Int32) (t_outs : Int32) (f_t_v : Nat → Int32) (x1 : Int64) (Q : Int64 → Prop) (h : wX9_asked f_t_v x1 Q) : Met l yX9_asked (Cond.code yX9_asked cX9_asked 7 (some .long) :: wsG) ({ frames := 3, cells := 0, slots := 0, locals := 62 } : Room) (va_Pc [.ref a_t, .long x1] (wPre D ca [(a_t, .inr (7, [.ref a_t_v, .ref a_t_past, .ref a_t_costs, .int t_edits, .int t_thrown, .ref a_t_into, .ref a_t_isNeeded, .ref a_t_depths, .ref a_t_names, .ref a_t_out, .int t_outs, .ref a_t_has])), (a_t_v, .inl (ca 0, 206, .inl f_t_v))] sz)) (qX9_asked D ca a_t a_t_v a_t_past a_t_costs a_t_into a_t_isNeeded a_t_depths a_t_names a_t_out a_t_has t_edits t_thrown t_outs f_t_v Q (va_A [(a_t, .inr (7, [.ref a_t_v, .ref a_t_past, .ref a_t_costs, .int t_edits, .int t_thrown, .ref a_t_into, .ref a_t_isNeeded, .ref a_t_depths, .ref a_t_names, .ref a_t_out, .int t_outs, .ref a_t_has])), (a_t_v, .inl (ca 0, 206, .inl f_t_v))] sz)) 0 0 (va_A [(a_t, .inr (7, [.ref a_t_v, .ref a_t_past, .ref a_t_costs, .int t_edits, .int t_thrown, .ref a_t_into, .ref a_t_isNeeded, .ref a_t_depths, .ref a_t_names, .ref a_t_out, .int t_outs, .ref a_t_has])), (a_t_v, .inl (ca 0, 206, .inl f_t_v))] sz) := by
  refine Met.ofW (cc := cX9_asked) (maxL := 7) (ret := (some .long)) (by decide) rfl ?_
  intro p e s m args below meth c s₁ B hml hv
  obtain ⟨rfl, hsz, hP, hK, hD0⟩ := hv
  have hx := B.exec
  have hb := B.bytes
  have hr := B.returns
  have hts := atoms_spec (ws := (Cond.code yX9_asked cX9_asked 7 (some .long) :: wsG)) B.pre
  have hq : ∀ w ∈ wsG, w.before _ s = true := fun w hw => hts w (List.mem_cons_of_mem _ hw)
  have hown : s.vm.findClass RX9 = some m.cls := findClass_of_methodNamed B.named
  have hlocks := B.notSynchronized
  subst hsz
  have hD := hD0.self (sz := s.heap.size)
  generalize hAe : va_A [(a_t, .inr (7, [.ref a_t_v, .ref a_t_past, .ref a_t_costs, .int t_edits, .int t_thrown, .ref a_t_into, .ref a_t_isNeeded, .ref a_t_depths, .ref a_t_names, .ref a_t_out, .int t_outs, .ref a_t_has])), (a_t_v, .inl (ca 0, 206, .inl f_t_v))] s.heap.size = A at hD ⊢
  have hA : ∀ q : Nat, s.heap.size ≤ q → A q := fun q h => by rw [← hAe]; exact Or.inr h
  have hS : va_S A s.heap s.heap [] := va_S.rf
  have hP : va_P D vwCl [(a_t, .inr (7, [.ref a_t_v, .ref a_t_past, .ref a_t_costs, .int t_edits, .int t_thrown, .ref a_t_into, .ref a_t_isNeeded, .ref a_t_depths, .ref a_t_names, .ref a_t_out, .int t_outs, .ref a_t_has])), (a_t_v, .inl (ca 0, 206, .inl f_t_v))] s.heap := hP
  have hl := lv_entry ([.ref a_t, .long x1]) (n := 7) (Nat.le_of_ble_eq_true rfl)
  rw [lg_entry_eq]
  generalize (lg_sl ([.ref a_t, .long x1]) ++ List.replicate (7 - (lg_sl ([.ref a_t, .long x1])).length) Slot.unset).toArray = ls at hl ⊢
  have hl : lv_has ls 7 [(0, .ref a_t), (1, .long x1)] := hl
  unfold wX9_asked at h
  refine lv_aload_n hx hb dX9_asked_0 rfl (lv_at hl 0 rfl) ?_
  refine va_get (D := D) (ci := 7) (v := .ref a_t_v) (C := RX9) (T := TX9) (N := 12) hx hb hq inX9g hown hK hP 0 rfl rfl 0 (by decide) (hq _ q_881) (fun _ h9 => h9) rfl dX9_asked_1 ?_
  refine lv_iconst (v := 2) hx hb dX9_asked_4 (by decide) ?_
  obtain ⟨hi9, h⟩ := h
  refine va_iald hx hb hK hP 1 0 rfl rfl hi9 dX9_asked_5 ?_
  refine lv_i2l hx hb dX9_asked_6 rfl ?_
  refine lv_topl (fun x3_7 ex3_7 => ?_)
  have h := h x3_7 ex3_7
  refine lv_lstore_n (lv' := [(3, .long x3_7), (0, .ref a_t), (1, .long x1)]) hx hb dX9_asked_7 rfl hl (by decide) rfl (fun ls hl => ?_)
  refine lv_aload_n hx hb dX9_asked_8 rfl (lv_at hl 1 rfl) ?_
  refine lv_lload_n hx hb dX9_asked_9 rfl (lv_at hl 2 rfl) ?_
  refine cVl (As := [.long x1]) (rest := []) (wc := [(a_t, .inr (7, [.ref a_t_v, .ref a_t_past, .ref a_t_costs, .int t_edits, .int t_thrown, .ref a_t_into, .ref a_t_isNeeded, .ref a_t_depths, .ref a_t_names, .ref a_t_out, .int t_outs, .ref a_t_has])), (a_t_v, .inl (ca 0, 206, .inl f_t_v))]) (wr := []) (w1 := fun _ : Unit => [(a_t, .inr (7, [.ref a_t_v, .ref a_t_past, .ref a_t_costs, .int t_edits, .int t_thrown, .ref a_t_into, .ref a_t_isNeeded, .ref a_t_depths, .ref a_t_names, .ref a_t_out, .int t_outs, .ref a_t_has])), (a_t_v, .inl (ca 0, 206, .inl f_t_v))]) (ws2 := fun _ : Unit => [(a_t, .inr (7, [.ref a_t_v, .ref a_t_past, .ref a_t_costs, .int t_edits, .int t_thrown, .ref a_t_into, .ref a_t_isNeeded, .ref a_t_depths, .ref a_t_names, .ref a_t_out, .int t_outs, .ref a_t_has])), (a_t_v, .inl (ca 0, 206, .inl f_t_v))]) ⟨hx, hb, hml, hown, hts⟩ (mX9_signed l D ca a_t a_t_v a_t_past a_t_costs a_t_into a_t_isNeeded a_t_depths a_t_names a_t_out a_t_has _ t_edits t_thrown t_outs f_t_v x1 _ h) (cwV 1 hts (gV q_1182 q_1184 qs_66 q_8 q_1185) rfl rfl rfl (by decide +kernel) ⟨Nat.le_of_ble_eq_true rfl, Nat.le_of_ble_eq_true rfl⟩) hK hP hD hS hA [0, 1] [] [0, 1] rfl rfl rfl (by decide) (fun _ => rfl) (ci := 7) (q0 := 0) rfl rfl rfl hl.1 rfl (Nat.le_of_ble_eq_true rfl) dX9_asked_10 ⟨Nat.le_of_ble_eq_true rfl, Nat.le_of_ble_eq_true rfl⟩ (fun r_10 u9 H locs h hP hD hS => ?_)
  try dsimp only at h
  refine lv_lstore (lv' := [(5, .long r_10), (3, .long x3_7), (0, .ref a_t), (1, .long x1)]) hx hb dX9_asked_13 hl (by decide) rfl (fun ls hl => ?_)
  refine lv_aload_n hx hb dX9_asked_15 rfl (lv_at hl 2 rfl) ?_
  refine va_get (D := D) (ci := 7) (v := .ref a_t_v) (C := RX9) (T := TX9) (N := 12) hx hb hq inX9g hown hK hP 0 rfl rfl 0 (by decide) (hq _ q_881) (fun _ h9 => h9) rfl dX9_asked_16 ?_
  refine lv_iconst (v := 1) hx hb dX9_asked_19 (by decide) ?_
  obtain ⟨hi9, h⟩ := h
  refine va_iald hx hb hK hP 1 0 rfl rfl hi9 dX9_asked_20 ?_
  by_cases c9 : (f_t_v (1 : Int32).toNatClampNeg) = 0
  · have h := h.1 c9
    refine lv_tableIn (tgt := 64) hx hb dX9_asked_21 (by rw [c9]; decide) (by rw [c9]; decide) (off := 43) (by rw [c9]; decide) (by decide) ?_
    refine lv_lload_n hx hb dX9_asked_64 rfl (lv_at hl 3 rfl) ?_
    refine lv_lload_n hx hb dX9_asked_65 rfl (lv_at hl 1 rfl) ?_
    obtain ⟨hne9, h⟩ := h
    refine lv_ldiv hx hb dX9_asked_66 hne9 ?_
    exact W.lret (v := x1 / x3_7) hx hb hr (fun t ht hW => ⟨⟨x1 / x3_7, (), rfl, h, by rw [ht]; exact hP, va_K.moved hW.alike hK, hD⟩, hS.F ht⟩) hS.2.2 dX9_asked_67
  have h := h.2 c9
  have cs_0 := c9
  by_cases c9 : (f_t_v (1 : Int32).toNatClampNeg) = 1
  · have h := h.1 c9
    refine lv_tableIn (tgt := 68) hx hb dX9_asked_21 (by rw [c9]; decide) (by rw [c9]; decide) (off := 47) (by rw [c9]; decide) (by decide) ?_
    refine lv_lload_n hx hb dX9_asked_68 rfl (lv_at hl 3 rfl) ?_
    refine lv_lload_n hx hb dX9_asked_69 rfl (lv_at hl 1 rfl) ?_
    obtain ⟨hne9, h⟩ := h
    refine lv_lrem hx hb dX9_asked_70 hne9 ?_
    exact W.lret (v := x1 - x1 / x3_7 * x3_7) hx hb hr (fun t ht hW => ⟨⟨x1 - x1 / x3_7 * x3_7, (), rfl, h, by rw [ht]; exact hP, va_K.moved hW.alike hK, hD⟩, hS.F ht⟩) hS.2.2 dX9_asked_71
  have h := h.2 c9
  have cs_1 := c9
  by_cases c9 : (f_t_v (1 : Int32).toNatClampNeg) = 2
  · have h := h.1 c9
    refine lv_tableIn (tgt := 72) hx hb dX9_asked_21 (by rw [c9]; decide) (by rw [c9]; decide) (off := 51) (by rw [c9]; decide) (by decide) ?_
    refine lv_aload_n hx hb dX9_asked_72 rfl (lv_at hl 2 rfl) ?_
    refine lv_lload hx hb dX9_asked_73 (lv_at hl 0 rfl) ?_
    refine lv_lload_n hx hb dX9_asked_75 rfl (lv_at hl 1 rfl) ?_
    obtain ⟨hne9, h⟩ := h
    refine lv_ldiv hx hb dX9_asked_76 hne9 ?_
    refine cVl (As := [.long (r_10 / x3_7)]) (rest := []) (wc := [(a_t, .inr (7, [.ref a_t_v, .ref a_t_past, .ref a_t_costs, .int t_edits, .int t_thrown, .ref a_t_into, .ref a_t_isNeeded, .ref a_t_depths, .ref a_t_names, .ref a_t_out, .int t_outs, .ref a_t_has])), (a_t_v, .inl (ca 0, 206, .inl f_t_v))]) (wr := []) (w1 := fun _ : Unit => [(a_t, .inr (7, [.ref a_t_v, .ref a_t_past, .ref a_t_costs, .int t_edits, .int t_thrown, .ref a_t_into, .ref a_t_isNeeded, .ref a_t_depths, .ref a_t_names, .ref a_t_out, .int t_outs, .ref a_t_has])), (a_t_v, .inl (ca 0, 206, .inl f_t_v))]) (ws2 := fun _ : Unit => [(a_t, .inr (7, [.ref a_t_v, .ref a_t_past, .ref a_t_costs, .int t_edits, .int t_thrown, .ref a_t_into, .ref a_t_isNeeded, .ref a_t_depths, .ref a_t_names, .ref a_t_out, .int t_outs, .ref a_t_has])), (a_t_v, .inl (ca 0, 206, .inl f_t_v))]) ⟨hx, hb, hml, hown, hts⟩ (mX9_value l D ca a_t a_t_v a_t_past a_t_costs a_t_into a_t_isNeeded a_t_depths a_t_names a_t_out a_t_has _ t_edits t_thrown t_outs f_t_v (r_10 / x3_7) _ h) (cwV 1 hts (gV q_999 q_1001 qs_40 q_8 q_1002) rfl rfl rfl (by decide +kernel) ⟨Nat.le_of_ble_eq_true rfl, Nat.le_of_ble_eq_true rfl⟩) hK hP hD hS hA [0, 1] [] [0, 1] rfl rfl rfl (by decide) (fun _ => rfl) (ci := 7) (q0 := 0) rfl rfl rfl hl.1 rfl (Nat.le_of_ble_eq_true rfl) dX9_asked_77 ⟨Nat.le_of_ble_eq_true rfl, Nat.le_of_ble_eq_true rfl⟩ (fun r_77 u9 H locs h hP hD hS => ?_)
    try dsimp only at h
    exact W.lret (v := r_77) hx hb hr (fun t ht hW => ⟨⟨r_77, (), rfl, h, by rw [ht]; exact hP, va_K.moved hW.alike hK, hD⟩, hS.F ht⟩) hS.2.2 dX9_asked_80
  have h := h.2 c9
  have cs_2 := c9
  by_cases c9 : (f_t_v (1 : Int32).toNatClampNeg) = 3
  · have h := h.1 c9
    refine lv_tableIn (tgt := 81) hx hb dX9_asked_21 (by rw [c9]; decide) (by rw [c9]; decide) (off := 60) (by rw [c9]; decide) (by decide) ?_
    refine lv_aload_n hx hb dX9_asked_81 rfl (lv_at hl 2 rfl) ?_
    refine lv_lload hx hb dX9_asked_82 (lv_at hl 0 rfl) ?_
    refine lv_lload_n hx hb dX9_asked_84 rfl (lv_at hl 1 rfl) ?_
    obtain ⟨hne9, h⟩ := h
    refine lv_lrem hx hb dX9_asked_85 hne9 ?_
    refine cVl (As := [.long (r_10 - r_10 / x3_7 * x3_7)]) (rest := []) (wc := [(a_t, .inr (7, [.ref a_t_v, .ref a_t_past, .ref a_t_costs, .int t_edits, .int t_thrown, .ref a_t_into, .ref a_t_isNeeded, .ref a_t_depths, .ref a_t_names, .ref a_t_out, .int t_outs, .ref a_t_has])), (a_t_v, .inl (ca 0, 206, .inl f_t_v))]) (wr := []) (w1 := fun _ : Unit => [(a_t, .inr (7, [.ref a_t_v, .ref a_t_past, .ref a_t_costs, .int t_edits, .int t_thrown, .ref a_t_into, .ref a_t_isNeeded, .ref a_t_depths, .ref a_t_names, .ref a_t_out, .int t_outs, .ref a_t_has])), (a_t_v, .inl (ca 0, 206, .inl f_t_v))]) (ws2 := fun _ : Unit => [(a_t, .inr (7, [.ref a_t_v, .ref a_t_past, .ref a_t_costs, .int t_edits, .int t_thrown, .ref a_t_into, .ref a_t_isNeeded, .ref a_t_depths, .ref a_t_names, .ref a_t_out, .int t_outs, .ref a_t_has])), (a_t_v, .inl (ca 0, 206, .inl f_t_v))]) ⟨hx, hb, hml, hown, hts⟩ (mX9_value l D ca a_t a_t_v a_t_past a_t_costs a_t_into a_t_isNeeded a_t_depths a_t_names a_t_out a_t_has _ t_edits t_thrown t_outs f_t_v (r_10 - r_10 / x3_7 * x3_7) _ h) (cwV 1 hts (gV q_999 q_1001 qs_40 q_8 q_1002) rfl rfl rfl (by decide +kernel) ⟨Nat.le_of_ble_eq_true rfl, Nat.le_of_ble_eq_true rfl⟩) hK hP hD hS hA [0, 1] [] [0, 1] rfl rfl rfl (by decide) (fun _ => rfl) (ci := 7) (q0 := 0) rfl rfl rfl hl.1 rfl (Nat.le_of_ble_eq_true rfl) dX9_asked_86 ⟨Nat.le_of_ble_eq_true rfl, Nat.le_of_ble_eq_true rfl⟩ (fun r_86 u9 H locs h hP hD hS => ?_)
    try dsimp only at h
    exact W.lret (v := r_86) hx hb hr (fun t ht hW => ⟨⟨r_86, (), rfl, h, by rw [ht]; exact hP, va_K.moved hW.alike hK, hD⟩, hS.F ht⟩) hS.2.2 dX9_asked_89
  have h := h.2 c9
  have cs_3 := c9
  by_cases c9 : (f_t_v (1 : Int32).toNatClampNeg) = 4
  · have h := h.1 c9
    refine lv_tableIn (tgt := 90) hx hb dX9_asked_21 (by rw [c9]; decide) (by rw [c9]; decide) (off := 69) (by rw [c9]; decide) (by decide) ?_
    refine lv_aload_n hx hb dX9_asked_90 rfl (lv_at hl 2 rfl) ?_
    refine lv_lload hx hb dX9_asked_91 (lv_at hl 0 rfl) ?_
    refine lv_lload_n hx hb dX9_asked_93 rfl (lv_at hl 1 rfl) ?_
    refine cPl (As := [.long r_10, .long x3_7]) (rest := [.ref a_t]) ⟨hx, hb, hml, hown, hts⟩ (mX9_floor l r_10 x3_7 _ h) (va_cwS 2 hts (gS q_1003 q_1004 q_8 q_1005) rfl rfl rfl (by decide +kernel) ⟨Nat.le_of_ble_eq_true rfl, Nat.le_of_ble_eq_true rfl⟩) hS rfl hl.1 rfl (Nat.le_of_ble_eq_true rfl) dX9_asked_94 ⟨Nat.le_of_ble_eq_true rfl, Nat.le_of_ble_eq_true rfl⟩ (fun r_94 H1 locs h hk1 hS => ?_)
    have hP := s_back hP hk1
    try dsimp only at h
    refine cVl (As := [.long r_94]) (rest := []) (wc := [(a_t, .inr (7, [.ref a_t_v, .ref a_t_past, .ref a_t_costs, .int t_edits, .int t_thrown, .ref a_t_into, .ref a_t_isNeeded, .ref a_t_depths, .ref a_t_names, .ref a_t_out, .int t_outs, .ref a_t_has])), (a_t_v, .inl (ca 0, 206, .inl f_t_v))]) (wr := []) (w1 := fun _ : Unit => [(a_t, .inr (7, [.ref a_t_v, .ref a_t_past, .ref a_t_costs, .int t_edits, .int t_thrown, .ref a_t_into, .ref a_t_isNeeded, .ref a_t_depths, .ref a_t_names, .ref a_t_out, .int t_outs, .ref a_t_has])), (a_t_v, .inl (ca 0, 206, .inl f_t_v))]) (ws2 := fun _ : Unit => [(a_t, .inr (7, [.ref a_t_v, .ref a_t_past, .ref a_t_costs, .int t_edits, .int t_thrown, .ref a_t_into, .ref a_t_isNeeded, .ref a_t_depths, .ref a_t_names, .ref a_t_out, .int t_outs, .ref a_t_has])), (a_t_v, .inl (ca 0, 206, .inl f_t_v))]) ⟨hx, hb, hml, hown, hts⟩ (mX9_value l D ca a_t a_t_v a_t_past a_t_costs a_t_into a_t_isNeeded a_t_depths a_t_names a_t_out a_t_has _ t_edits t_thrown t_outs f_t_v r_94 _ h) (cwV 1 hts (gV q_999 q_1001 qs_40 q_8 q_1002) rfl rfl rfl (by decide +kernel) ⟨Nat.le_of_ble_eq_true rfl, Nat.le_of_ble_eq_true rfl⟩) hK hP hD hS hA [0, 1] [] [0, 1] rfl rfl rfl (by decide) (fun _ => rfl) (ci := 7) (q0 := 0) rfl rfl rfl hl.1 rfl (Nat.le_of_ble_eq_true rfl) dX9_asked_97 ⟨Nat.le_of_ble_eq_true rfl, Nat.le_of_ble_eq_true rfl⟩ (fun r_97 u9 H locs h hP hD hS => ?_)
    try dsimp only at h
    exact W.lret (v := r_97) hx hb hr (fun t ht hW => ⟨⟨r_97, (), rfl, h, by rw [ht]; exact hP, va_K.moved hW.alike hK, hD⟩, hS.F ht⟩) hS.2.2 dX9_asked_100
  have h := h.2 c9
  have cs_4 := c9
  by_cases c9 : (f_t_v (1 : Int32).toNatClampNeg) = 5
  · have h := h.1 c9
    refine lv_tableIn (tgt := 101) hx hb dX9_asked_21 (by rw [c9]; decide) (by rw [c9]; decide) (off := 80) (by rw [c9]; decide) (by decide) ?_
    refine lv_lload_n hx hb dX9_asked_101 rfl (lv_at hl 3 rfl) ?_
    refine lv_lload_n hx hb dX9_asked_102 rfl (lv_at hl 1 rfl) ?_
    obtain ⟨hne9, h⟩ := h
    refine lv_lrem hx hb dX9_asked_103 hne9 ?_
    refine lv_lconst (v := 0) hx hb dX9_asked_104 (by decide) ?_
    refine jl_ne (tgt := 115) hx hb dX9_asked_105 dX9_asked_106 (by decide) (fun c9 => ?_) (fun c9 => ?_)
    · have h := h.2 c9
      refine lv_ldc2 (v := (-1)) hx hb hown (hq _ q_1205) dX9_asked_115 ?_
      exact W.lret (v := (-1)) hx hb hr (fun t ht hW => ⟨⟨(-1), (), rfl, h, by rw [ht]; exact hP, va_K.moved hW.alike hK, hD⟩, hS.F ht⟩) hS.2.2 dX9_asked_118
    · have h := h.1 c9
      refine lv_lload_n hx hb dX9_asked_109 rfl (lv_at hl 3 rfl) ?_
      refine lv_lload_n hx hb dX9_asked_110 rfl (lv_at hl 1 rfl) ?_
      obtain ⟨hne9, h⟩ := h
      refine lv_ldiv hx hb dX9_asked_111 hne9 ?_
      refine lv_goto (tgt := 118) hx hb dX9_asked_112 (by decide) ?_
      exact W.lret (v := x1 / x3_7) hx hb hr (fun t ht hW => ⟨⟨x1 / x3_7, (), rfl, h, by rw [ht]; exact hP, va_K.moved hW.alike hK, hD⟩, hS.F ht⟩) hS.2.2 dX9_asked_118
  have h := h.2 c9
  have cs_5 := c9
  by_cases c9 : (f_t_v (1 : Int32).toNatClampNeg) = 6
  · have h := h.1 c9
    refine lv_tableIn (tgt := 119) hx hb dX9_asked_21 (by rw [c9]; decide) (by rw [c9]; decide) (off := 98) (by rw [c9]; decide) (by decide) ?_
    refine lv_lload_n hx hb dX9_asked_119 rfl (lv_at hl 3 rfl) ?_
    refine lv_lload_n hx hb dX9_asked_120 rfl (lv_at hl 1 rfl) ?_
    obtain ⟨hne9, h⟩ := h
    refine lv_lrem hx hb dX9_asked_121 hne9 ?_
    refine lv_lconst (v := 0) hx hb dX9_asked_122 (by decide) ?_
    refine jl_ne (tgt := 131) hx hb dX9_asked_123 dX9_asked_124 (by decide) (fun c9 => ?_) (fun c9 => ?_)
    · have h := h.2 c9
      refine lv_lconst (v := 0) hx hb dX9_asked_131 (by decide) ?_
      exact W.lret (v := 0) hx hb hr (fun t ht hW => ⟨⟨0, (), rfl, h, by rw [ht]; exact hP, va_K.moved hW.alike hK, hD⟩, hS.F ht⟩) hS.2.2 dX9_asked_132
    · have h := h.1 c9
      refine lv_lconst (v := 1) hx hb dX9_asked_127 (by decide) ?_
      refine lv_goto (tgt := 132) hx hb dX9_asked_128 (by decide) ?_
      exact W.lret (v := 1) hx hb hr (fun t ht hW => ⟨⟨1, (), rfl, h, by rw [ht]; exact hP, va_K.moved hW.alike hK, hD⟩, hS.F ht⟩) hS.2.2 dX9_asked_132
  have h := h.2 c9
  have cs_6 := c9
  refine lv_tableOut (tgt := 133) hx hb dX9_asked_21 (sw_out (fun j9 h1 h2 hj => ?_)) (by decide) ?_
  · rcases (show j9 = 0 ∨ j9 = 1 ∨ j9 = 2 ∨ j9 = 3 ∨ j9 = 4 ∨ j9 = 5 ∨ j9 = 6 by omega) with rfl | rfl | rfl | rfl | rfl | rfl | rfl
    · exact cs_0 hj
    · exact cs_1 hj
    · exact cs_2 hj
    · exact cs_3 hj
    · exact cs_4 hj
    · exact cs_5 hj
    · exact cs_6 hj
  refine lv_aload_n hx hb dX9_asked_133 rfl (lv_at hl 2 rfl) ?_
  refine lv_lload_n hx hb dX9_asked_134 rfl (lv_at hl 3 rfl) ?_
  refine lv_lload_n hx hb dX9_asked_135 rfl (lv_at hl 1 rfl) ?_
  refine lv_lmul hx hb dX9_asked_136 ?_
  refine cVl (As := [.long (x1 * x3_7)]) (rest := []) (wc := [(a_t, .inr (7, [.ref a_t_v, .ref a_t_past, .ref a_t_costs, .int t_edits, .int t_thrown, .ref a_t_into, .ref a_t_isNeeded, .ref a_t_depths, .ref a_t_names, .ref a_t_out, .int t_outs, .ref a_t_has])), (a_t_v, .inl (ca 0, 206, .inl f_t_v))]) (wr := []) (w1 := fun _ : Unit => [(a_t, .inr (7, [.ref a_t_v, .ref a_t_past, .ref a_t_costs, .int t_edits, .int t_thrown, .ref a_t_into, .ref a_t_isNeeded, .ref a_t_depths, .ref a_t_names, .ref a_t_out, .int t_outs, .ref a_t_has])), (a_t_v, .inl (ca 0, 206, .inl f_t_v))]) (ws2 := fun _ : Unit => [(a_t, .inr (7, [.ref a_t_v, .ref a_t_past, .ref a_t_costs, .int t_edits, .int t_thrown, .ref a_t_into, .ref a_t_isNeeded, .ref a_t_depths, .ref a_t_names, .ref a_t_out, .int t_outs, .ref a_t_has])), (a_t_v, .inl (ca 0, 206, .inl f_t_v))]) ⟨hx, hb, hml, hown, hts⟩ (mX9_value l D ca a_t a_t_v a_t_past a_t_costs a_t_into a_t_isNeeded a_t_depths a_t_names a_t_out a_t_has _ t_edits t_thrown t_outs f_t_v (x1 * x3_7) _ h) (cwV 1 hts (gV q_999 q_1001 qs_40 q_8 q_1002) rfl rfl rfl (by decide +kernel) ⟨Nat.le_of_ble_eq_true rfl, Nat.le_of_ble_eq_true rfl⟩) hK hP hD hS hA [0, 1] [] [0, 1] rfl rfl rfl (by decide) (fun _ => rfl) (ci := 7) (q0 := 0) rfl rfl rfl hl.1 rfl (Nat.le_of_ble_eq_true rfl) dX9_asked_137 ⟨Nat.le_of_ble_eq_true rfl, Nat.le_of_ble_eq_true rfl⟩ (fun r_137 u9 H locs h hP hD hS => ?_)
  try dsimp only at h
  exact W.lret (v := r_137) hx hb hr (fun t ht hW => ⟨⟨r_137, (), rfl, h, by rw [ht]; exact hP, va_K.moved hW.alike hK, hD⟩, hS.F ht⟩) hS.2.2 dX9_asked_140

abbrev qX9_expected (D : va_G) (ca : Nat → ClassId) (a_t a_t_v a_t_past a_t_costs a_t_into a_t_isNeeded a_t_depths a_t_names a_t_out a_t_has : Nat) (t_edits : Int32) (t_outs : Int32) (f_t_v : Nat → Int32) (Q : Int32 → Int32 → Prop) (A : Nat → Prop) : Array Value → State → Outcome → State → Prop := va_Qi (fun (r : Int32) (u : Int32) => Q r u) (wEnd D ca (fun u : Int32 => [(a_t, .inr (7, [.ref a_t_v, .ref a_t_past, .ref a_t_costs, .int t_edits, .int u, .ref a_t_into, .ref a_t_isNeeded, .ref a_t_depths, .ref a_t_names, .ref a_t_out, .int t_outs, .ref a_t_has])), (a_t_v, .inl (ca 0, 206, .inl f_t_v))]) A) A
def wX9_expected (t_thrown : Int32) (f_t_v : Nat → Int32) (x1 : Int32) (Q : Int32 → Int32 → Prop) : Prop :=
  wX9_isInput f_t_v x1 (fun r_7 => ((r_7 = 0 → wX9_fails 0 1 (fun r_15 t_thrown_15 => Q r_15 t_thrown_15)) ∧ (¬ r_7 = 0 → (vp_in 1 206 ∧ ((0 ≤ (f_t_v (1 : Int32).toNatClampNeg) → wX9_asked f_t_v x1.toInt64 (fun r_39 => Q r_39.toInt32 0)) ∧ (¬ 0 ≤ (f_t_v (1 : Int32).toNatClampNeg) → wX9_fails 0 2 (fun r_30 t_thrown_30 => Q r_30 t_thrown_30)))))))
set_option maxHeartbeats 4000000 in
set_option maxRecDepth 100000 in
theorem mX9_expected (l : Launch) (D : va_G) (ca : Nat → ClassId) (a_t a_t_v a_t_past a_t_costs a_t_into a_t_isNeeded a_t_depths a_t_names a_t_out a_t_has : Nat) (sz : Nat) (t_edits : Int32) (t_thrown : Int32) (t_outs : Int32) (f_t_v : Nat → Int32) (x1 : Int32) (Q : Int32 → Int32 → Prop) (h : wX9_expected t_thrown f_t_v x1 Q) : Met l yX9_expected (Cond.code yX9_expected cX9_expected 2 (some .int) :: wsG) ({ frames := 4, cells := 0, slots := 0, locals := 88 } : Room) (va_Pc [.ref a_t, .int x1] (wPre D ca [(a_t, .inr (7, [.ref a_t_v, .ref a_t_past, .ref a_t_costs, .int t_edits, .int t_thrown, .ref a_t_into, .ref a_t_isNeeded, .ref a_t_depths, .ref a_t_names, .ref a_t_out, .int t_outs, .ref a_t_has])), (a_t_v, .inl (ca 0, 206, .inl f_t_v))] sz)) (qX9_expected D ca a_t a_t_v a_t_past a_t_costs a_t_into a_t_isNeeded a_t_depths a_t_names a_t_out a_t_has t_edits t_outs f_t_v Q (va_A [(a_t, .inr (7, [.ref a_t_v, .ref a_t_past, .ref a_t_costs, .int t_edits, .int t_thrown, .ref a_t_into, .ref a_t_isNeeded, .ref a_t_depths, .ref a_t_names, .ref a_t_out, .int t_outs, .ref a_t_has])), (a_t_v, .inl (ca 0, 206, .inl f_t_v))] sz)) 0 0 (va_A [(a_t, .inr (7, [.ref a_t_v, .ref a_t_past, .ref a_t_costs, .int t_edits, .int t_thrown, .ref a_t_into, .ref a_t_isNeeded, .ref a_t_depths, .ref a_t_names, .ref a_t_out, .int t_outs, .ref a_t_has])), (a_t_v, .inl (ca 0, 206, .inl f_t_v))] sz) := by
  refine Met.ofW (cc := cX9_expected) (maxL := 2) (ret := (some .int)) (by decide) rfl ?_
  intro p e s m args below meth c s₁ B hml hv
  obtain ⟨rfl, hsz, hP, hK, hD0⟩ := hv
  have hx := B.exec
  have hb := B.bytes
  have hr := B.returns
  have hts := atoms_spec (ws := (Cond.code yX9_expected cX9_expected 2 (some .int) :: wsG)) B.pre
  have hq : ∀ w ∈ wsG, w.before _ s = true := fun w hw => hts w (List.mem_cons_of_mem _ hw)
  have hown : s.vm.findClass RX9 = some m.cls := findClass_of_methodNamed B.named
  have hlocks := B.notSynchronized
  subst hsz
  have hD := hD0.self (sz := s.heap.size)
  generalize hAe : va_A [(a_t, .inr (7, [.ref a_t_v, .ref a_t_past, .ref a_t_costs, .int t_edits, .int t_thrown, .ref a_t_into, .ref a_t_isNeeded, .ref a_t_depths, .ref a_t_names, .ref a_t_out, .int t_outs, .ref a_t_has])), (a_t_v, .inl (ca 0, 206, .inl f_t_v))] s.heap.size = A at hD ⊢
  have hA : ∀ q : Nat, s.heap.size ≤ q → A q := fun q h => by rw [← hAe]; exact Or.inr h
  have hS : va_S A s.heap s.heap [] := va_S.rf
  have hP : va_P D vwCl [(a_t, .inr (7, [.ref a_t_v, .ref a_t_past, .ref a_t_costs, .int t_edits, .int t_thrown, .ref a_t_into, .ref a_t_isNeeded, .ref a_t_depths, .ref a_t_names, .ref a_t_out, .int t_outs, .ref a_t_has])), (a_t_v, .inl (ca 0, 206, .inl f_t_v))] s.heap := hP
  have hl := lv_entry ([.ref a_t, .int x1]) (n := 2) (Nat.le_of_ble_eq_true rfl)
  rw [lg_entry_eq]
  generalize (lg_sl ([.ref a_t, .int x1]) ++ List.replicate (2 - (lg_sl ([.ref a_t, .int x1])).length) Slot.unset).toArray = ls at hl ⊢
  have hl : lv_has ls 2 [(0, .ref a_t), (1, .int x1)] := hl
  unfold wX9_expected at h
  refine lv_aload_n hx hb dX9_expected_0 rfl (lv_at hl 0 rfl) ?_
  refine lv_iconst (v := 0) hx hb dX9_expected_1 (by decide) ?_
  refine va_put (D := D) (ci := 7) (v := .int 0) (ty := .int) (C := RX9) (T := TX9) (N := 12) hx hb hq inX9g tyX9 tyX9_ok nmX9 hown hK hP hD hS 0 rfl rfl 4 (by decide) (hq _ q_885) (fun _ h9 => h9) rfl (by decide +kernel) rfl rfl (Nat.le_of_ble_eq_true rfl) dX9_expected_2 (fun H locs hP hD hS => ?_)
  have hP : va_P D vwCl [(a_t, .inr (7, [.ref a_t_v, .ref a_t_past, .ref a_t_costs, .int t_edits, .int 0, .ref a_t_into, .ref a_t_isNeeded, .ref a_t_depths, .ref a_t_names, .ref a_t_out, .int t_outs, .ref a_t_has])), (a_t_v, .inl (ca 0, 206, .inl f_t_v))] H := hP
  have hD : va_D A [(a_t, .inr (7, [.ref a_t_v, .ref a_t_past, .ref a_t_costs, .int t_edits, .int 0, .ref a_t_into, .ref a_t_isNeeded, .ref a_t_depths, .ref a_t_names, .ref a_t_out, .int t_outs, .ref a_t_has])), (a_t_v, .inl (ca 0, 206, .inl f_t_v))] := hD
  refine lv_aload_n hx hb dX9_expected_5 rfl (lv_at hl 0 rfl) ?_
  refine lv_iload_n hx hb dX9_expected_6 rfl (lv_at hl 1 rfl) ?_
  refine cVi (As := [.int x1]) (rest := []) (wc := [(a_t, .inr (7, [.ref a_t_v, .ref a_t_past, .ref a_t_costs, .int t_edits, .int 0, .ref a_t_into, .ref a_t_isNeeded, .ref a_t_depths, .ref a_t_names, .ref a_t_out, .int t_outs, .ref a_t_has])), (a_t_v, .inl (ca 0, 206, .inl f_t_v))]) (wr := []) (w1 := fun _ : Unit => [(a_t, .inr (7, [.ref a_t_v, .ref a_t_past, .ref a_t_costs, .int t_edits, .int 0, .ref a_t_into, .ref a_t_isNeeded, .ref a_t_depths, .ref a_t_names, .ref a_t_out, .int t_outs, .ref a_t_has])), (a_t_v, .inl (ca 0, 206, .inl f_t_v))]) (ws2 := fun _ : Unit => [(a_t, .inr (7, [.ref a_t_v, .ref a_t_past, .ref a_t_costs, .int t_edits, .int 0, .ref a_t_into, .ref a_t_isNeeded, .ref a_t_depths, .ref a_t_names, .ref a_t_out, .int t_outs, .ref a_t_has])), (a_t_v, .inl (ca 0, 206, .inl f_t_v))]) ⟨hx, hb, hml, hown, hts⟩ (mX9_isInput l D ca a_t a_t_v a_t_past a_t_costs a_t_into a_t_isNeeded a_t_depths a_t_names a_t_out a_t_has _ t_edits 0 t_outs f_t_v x1 _ h) (cwV 1 hts (gV q_1170 q_1172 qs_63 q_8 q_1173) rfl rfl rfl (by decide +kernel) ⟨Nat.le_of_ble_eq_true rfl, Nat.le_of_ble_eq_true rfl⟩) hK hP hD hS hA [0, 1] [] [0, 1] rfl rfl rfl (by decide) (fun _ => rfl) (ci := 7) (q0 := 0) rfl rfl rfl hl.1 rfl (Nat.le_of_ble_eq_true rfl) dX9_expected_7 ⟨Nat.le_of_ble_eq_true rfl, Nat.le_of_ble_eq_true rfl⟩ (fun r_7 u9 H locs h hP hD hS => ?_)
  try dsimp only at h
  refine lv_if_ne (tgt := 19) hx hb dX9_expected_10 (by decide) (fun c9 => ?_) (fun c9 => ?_)
  · have h := h.2 c9
    refine lv_aload_n hx hb dX9_expected_19 rfl (lv_at hl 0 rfl) ?_
    refine va_get (D := D) (ci := 7) (v := .ref a_t_v) (C := RX9) (T := TX9) (N := 12) hx hb hq inX9g hown hK hP 0 rfl rfl 0 (by decide) (hq _ q_881) (fun _ h9 => h9) rfl dX9_expected_20 ?_
    refine lv_iconst (v := 1) hx hb dX9_expected_23 (by decide) ?_
    obtain ⟨hi9, h⟩ := h
    refine va_iald hx hb hK hP 1 0 rfl rfl hi9 dX9_expected_24 ?_
    refine lv_if_ge (tgt := 36) hx hb dX9_expected_25 (by decide) (fun c9 => ?_) (fun c9 => ?_)
    · have h := h.1 c9
      refine lv_aload_n hx hb dX9_expected_36 rfl (lv_at hl 0 rfl) ?_
      refine lv_iload_n hx hb dX9_expected_37 rfl (lv_at hl 1 rfl) ?_
      refine lv_i2l hx hb dX9_expected_38 rfl ?_
      refine cVl (As := [.long x1.toInt64]) (rest := []) (wc := [(a_t, .inr (7, [.ref a_t_v, .ref a_t_past, .ref a_t_costs, .int t_edits, .int 0, .ref a_t_into, .ref a_t_isNeeded, .ref a_t_depths, .ref a_t_names, .ref a_t_out, .int t_outs, .ref a_t_has])), (a_t_v, .inl (ca 0, 206, .inl f_t_v))]) (wr := []) (w1 := fun _ : Unit => [(a_t, .inr (7, [.ref a_t_v, .ref a_t_past, .ref a_t_costs, .int t_edits, .int 0, .ref a_t_into, .ref a_t_isNeeded, .ref a_t_depths, .ref a_t_names, .ref a_t_out, .int t_outs, .ref a_t_has])), (a_t_v, .inl (ca 0, 206, .inl f_t_v))]) (ws2 := fun _ : Unit => [(a_t, .inr (7, [.ref a_t_v, .ref a_t_past, .ref a_t_costs, .int t_edits, .int 0, .ref a_t_into, .ref a_t_isNeeded, .ref a_t_depths, .ref a_t_names, .ref a_t_out, .int t_outs, .ref a_t_has])), (a_t_v, .inl (ca 0, 206, .inl f_t_v))]) ⟨hx, hb, hml, hown, hts⟩ (mX9_asked l D ca a_t a_t_v a_t_past a_t_costs a_t_into a_t_isNeeded a_t_depths a_t_names a_t_out a_t_has _ t_edits 0 t_outs f_t_v x1.toInt64 _ h) (cwV 1 hts (gV q_1201 q_1203 qs_68 q_8 q_1204) rfl rfl rfl (by decide +kernel) ⟨Nat.le_of_ble_eq_true rfl, Nat.le_of_ble_eq_true rfl⟩) hK hP hD hS hA [0, 1] [] [0, 1] rfl rfl rfl (by decide) (fun _ => rfl) (ci := 7) (q0 := 0) rfl rfl rfl hl.1 rfl (Nat.le_of_ble_eq_true rfl) dX9_expected_39 ⟨Nat.le_of_ble_eq_true rfl, Nat.le_of_ble_eq_true rfl⟩ (fun r_39 u9 H locs h hP hD hS => ?_)
      try dsimp only at h
      refine lv_l2i hx hb dX9_expected_42 rfl ?_
      exact W.iret (v := r_39.toInt32) hx hb hr (fun t ht hW => ⟨⟨r_39.toInt32, 0, rfl, h, by rw [ht]; exact hP, va_K.moved hW.alike hK, hD⟩, hS.F ht⟩) hS.2.2 dX9_expected_43
    · have h := h.2 c9
      refine lv_aload_n hx hb dX9_expected_28 rfl (lv_at hl 0 rfl) ?_
      refine lv_iconst (v := 2) hx hb dX9_expected_29 (by decide) ?_
      refine cVi (As := [.int 2]) (rest := []) (wc := [(a_t, .inr (7, [.ref a_t_v, .ref a_t_past, .ref a_t_costs, .int t_edits, .int 0, .ref a_t_into, .ref a_t_isNeeded, .ref a_t_depths, .ref a_t_names, .ref a_t_out, .int t_outs, .ref a_t_has]))]) (wr := [(a_t_v, .inl (ca 0, 206, .inl f_t_v))]) (w1 := fun u : Int32 => [(a_t, .inr (7, [.ref a_t_v, .ref a_t_past, .ref a_t_costs, .int t_edits, .int u, .ref a_t_into, .ref a_t_isNeeded, .ref a_t_depths, .ref a_t_names, .ref a_t_out, .int t_outs, .ref a_t_has]))]) (ws2 := fun u : Int32 => [(a_t, .inr (7, [.ref a_t_v, .ref a_t_past, .ref a_t_costs, .int t_edits, .int u, .ref a_t_into, .ref a_t_isNeeded, .ref a_t_depths, .ref a_t_names, .ref a_t_out, .int t_outs, .ref a_t_has])), (a_t_v, .inl (ca 0, 206, .inl f_t_v))]) ⟨hx, hb, hml, hown, hts⟩ (mX9_fails l D ca a_t a_t_v a_t_past a_t_costs a_t_into a_t_isNeeded a_t_depths a_t_names a_t_out a_t_has _ t_edits 0 t_outs 2 _ h) (cwV 1 hts (gV q_933 q_935 qs_33 q_8 q_936) rfl rfl rfl (by decide +kernel) ⟨Nat.le_of_ble_eq_true rfl, Nat.le_of_ble_eq_true rfl⟩) hK hP hD hS hA [0] [1] [1, 0] rfl rfl rfl (by decide) (fun _ => rfl) (ci := 7) (q0 := 0) rfl rfl rfl hl.1 rfl (Nat.le_of_ble_eq_true rfl) dX9_expected_30 ⟨Nat.le_of_ble_eq_true rfl, Nat.le_of_ble_eq_true rfl⟩ (fun r_30 u9 H locs h hP hD hS => ?_)
      obtain ⟨t_thrown_30, rfl⟩ : ∃ z, z = u9 := ⟨_, rfl⟩
      have hP : va_P D vwCl [(a_t, .inr (7, [.ref a_t_v, .ref a_t_past, .ref a_t_costs, .int t_edits, .int t_thrown_30, .ref a_t_into, .ref a_t_isNeeded, .ref a_t_depths, .ref a_t_names, .ref a_t_out, .int t_outs, .ref a_t_has])), (a_t_v, .inl (ca 0, 206, .inl f_t_v))] H := hP
      have hD : va_D A [(a_t, .inr (7, [.ref a_t_v, .ref a_t_past, .ref a_t_costs, .int t_edits, .int t_thrown_30, .ref a_t_into, .ref a_t_isNeeded, .ref a_t_depths, .ref a_t_names, .ref a_t_out, .int t_outs, .ref a_t_has])), (a_t_v, .inl (ca 0, 206, .inl f_t_v))] := hD
      try dsimp only at h
      refine lv_goto (tgt := 43) hx hb dX9_expected_33 (by decide) ?_
      exact W.iret (v := r_30) hx hb hr (fun t ht hW => ⟨⟨r_30, t_thrown_30, rfl, h, by rw [ht]; exact hP, va_K.moved hW.alike hK, hD⟩, hS.F ht⟩) hS.2.2 dX9_expected_43
  · have h := h.1 c9
    refine lv_aload_n hx hb dX9_expected_13 rfl (lv_at hl 0 rfl) ?_
    refine lv_iconst (v := 1) hx hb dX9_expected_14 (by decide) ?_
    refine cVi (As := [.int 1]) (rest := []) (wc := [(a_t, .inr (7, [.ref a_t_v, .ref a_t_past, .ref a_t_costs, .int t_edits, .int 0, .ref a_t_into, .ref a_t_isNeeded, .ref a_t_depths, .ref a_t_names, .ref a_t_out, .int t_outs, .ref a_t_has]))]) (wr := [(a_t_v, .inl (ca 0, 206, .inl f_t_v))]) (w1 := fun u : Int32 => [(a_t, .inr (7, [.ref a_t_v, .ref a_t_past, .ref a_t_costs, .int t_edits, .int u, .ref a_t_into, .ref a_t_isNeeded, .ref a_t_depths, .ref a_t_names, .ref a_t_out, .int t_outs, .ref a_t_has]))]) (ws2 := fun u : Int32 => [(a_t, .inr (7, [.ref a_t_v, .ref a_t_past, .ref a_t_costs, .int t_edits, .int u, .ref a_t_into, .ref a_t_isNeeded, .ref a_t_depths, .ref a_t_names, .ref a_t_out, .int t_outs, .ref a_t_has])), (a_t_v, .inl (ca 0, 206, .inl f_t_v))]) ⟨hx, hb, hml, hown, hts⟩ (mX9_fails l D ca a_t a_t_v a_t_past a_t_costs a_t_into a_t_isNeeded a_t_depths a_t_names a_t_out a_t_has _ t_edits 0 t_outs 1 _ h) (cwV 1 hts (gV q_933 q_935 qs_33 q_8 q_936) rfl rfl rfl (by decide +kernel) ⟨Nat.le_of_ble_eq_true rfl, Nat.le_of_ble_eq_true rfl⟩) hK hP hD hS hA [0] [1] [1, 0] rfl rfl rfl (by decide) (fun _ => rfl) (ci := 7) (q0 := 0) rfl rfl rfl hl.1 rfl (Nat.le_of_ble_eq_true rfl) dX9_expected_15 ⟨Nat.le_of_ble_eq_true rfl, Nat.le_of_ble_eq_true rfl⟩ (fun r_15 u9 H locs h hP hD hS => ?_)
    obtain ⟨t_thrown_15, rfl⟩ : ∃ z, z = u9 := ⟨_, rfl⟩
    have hP : va_P D vwCl [(a_t, .inr (7, [.ref a_t_v, .ref a_t_past, .ref a_t_costs, .int t_edits, .int t_thrown_15, .ref a_t_into, .ref a_t_isNeeded, .ref a_t_depths, .ref a_t_names, .ref a_t_out, .int t_outs, .ref a_t_has])), (a_t_v, .inl (ca 0, 206, .inl f_t_v))] H := hP
    have hD : va_D A [(a_t, .inr (7, [.ref a_t_v, .ref a_t_past, .ref a_t_costs, .int t_edits, .int t_thrown_15, .ref a_t_into, .ref a_t_isNeeded, .ref a_t_depths, .ref a_t_names, .ref a_t_out, .int t_outs, .ref a_t_has])), (a_t_v, .inl (ca 0, 206, .inl f_t_v))] := hD
    try dsimp only at h
    exact W.iret (v := r_15) hx hb hr (fun t ht hW => ⟨⟨r_15, t_thrown_15, rfl, h, by rw [ht]; exact hP, va_K.moved hW.alike hK, hD⟩, hS.F ht⟩) hS.2.2 dX9_expected_18

abbrev qX9_isRight (D : va_G) (ca : Nat → ClassId) (a_t a_t_v a_t_past a_t_costs a_t_into a_t_isNeeded a_t_depths a_t_names a_t_out a_t_has : Nat) (t_edits : Int32) (t_thrown : Int32) (t_outs : Int32) (f_t_v : Nat → Int32) (Q : Int32 → (Nat → Int64) → Prop) (A : Nat → Prop) : Array Value → State → Outcome → State → Prop := va_Qi (fun (r : Int32) (u : (Nat → Int64)) => Q r u) (wEnd D ca (fun u : (Nat → Int64) => [(a_t, .inr (7, [.ref a_t_v, .ref a_t_past, .ref a_t_costs, .int t_edits, .int t_thrown, .ref a_t_into, .ref a_t_isNeeded, .ref a_t_depths, .ref a_t_names, .ref a_t_out, .int t_outs, .ref a_t_has])), (a_t_v, .inl (ca 0, 206, .inl f_t_v)), (a_t_has, .inl (ca 1, 41, .inr (.inl u)))]) A) A
def wX9_isRight (f_t_v : Nat → Int32) (f_t_has : Nat → Int64) (x1 : Int64) (Q : Int32 → (Nat → Int64) → Prop) : Prop :=
  wX9_runs f_t_v f_t_has x1 (fun f_t_has_2 => wX9_asked f_t_v x1 (fun r_7 => ((r_7 < 0 → Q 1 f_t_has_2) ∧ (¬ r_7 < 0 → (vp_in 4 206 ∧ (vp_in (f_t_v (4 : Int32).toNatClampNeg) 41 ∧ (((f_t_has_2 (f_t_v (4 : Int32).toNatClampNeg).toNatClampNeg) = r_7 → Q 1 f_t_has_2) ∧ (¬ (f_t_has_2 (f_t_v (4 : Int32).toNatClampNeg).toNatClampNeg) = r_7 → Q 0 f_t_has_2))))))))
set_option maxHeartbeats 4000000 in
set_option maxRecDepth 100000 in
theorem mX9_isRight (l : Launch) (D : va_G) (ca : Nat → ClassId) (a_t a_t_v a_t_past a_t_costs a_t_into a_t_isNeeded a_t_depths a_t_names a_t_out a_t_has : Nat) (sz : Nat) (t_edits : Int32) (t_thrown : Int32) (t_outs : Int32) (f_t_v : Nat → Int32) (f_t_has : Nat → Int64) (x1 : Int64) (Q : Int32 → (Nat → Int64) → Prop) (h : wX9_isRight f_t_v f_t_has x1 Q) : Met l yX9_isRight (Cond.code yX9_isRight cX9_isRight 5 (some .boolean) :: wsG) ({ frames := 6, cells := 0, slots := 0, locals := 139 } : Room) (va_Pc [.ref a_t, .long x1] (wPre D ca [(a_t, .inr (7, [.ref a_t_v, .ref a_t_past, .ref a_t_costs, .int t_edits, .int t_thrown, .ref a_t_into, .ref a_t_isNeeded, .ref a_t_depths, .ref a_t_names, .ref a_t_out, .int t_outs, .ref a_t_has])), (a_t_v, .inl (ca 0, 206, .inl f_t_v)), (a_t_has, .inl (ca 1, 41, .inr (.inl f_t_has)))] sz)) (qX9_isRight D ca a_t a_t_v a_t_past a_t_costs a_t_into a_t_isNeeded a_t_depths a_t_names a_t_out a_t_has t_edits t_thrown t_outs f_t_v Q (va_A [(a_t, .inr (7, [.ref a_t_v, .ref a_t_past, .ref a_t_costs, .int t_edits, .int t_thrown, .ref a_t_into, .ref a_t_isNeeded, .ref a_t_depths, .ref a_t_names, .ref a_t_out, .int t_outs, .ref a_t_has])), (a_t_v, .inl (ca 0, 206, .inl f_t_v)), (a_t_has, .inl (ca 1, 41, .inr (.inl f_t_has)))] sz)) 0 0 (va_A [(a_t, .inr (7, [.ref a_t_v, .ref a_t_past, .ref a_t_costs, .int t_edits, .int t_thrown, .ref a_t_into, .ref a_t_isNeeded, .ref a_t_depths, .ref a_t_names, .ref a_t_out, .int t_outs, .ref a_t_has])), (a_t_v, .inl (ca 0, 206, .inl f_t_v)), (a_t_has, .inl (ca 1, 41, .inr (.inl f_t_has)))] sz) := by
  refine Met.ofW (cc := cX9_isRight) (maxL := 5) (ret := (some .boolean)) (by decide) rfl ?_
  intro p e s m args below meth c s₁ B hml hv
  obtain ⟨rfl, hsz, hP, hK, hD0⟩ := hv
  have hx := B.exec
  have hb := B.bytes
  have hr := B.returns
  have hts := atoms_spec (ws := (Cond.code yX9_isRight cX9_isRight 5 (some .boolean) :: wsG)) B.pre
  have hq : ∀ w ∈ wsG, w.before _ s = true := fun w hw => hts w (List.mem_cons_of_mem _ hw)
  have hown : s.vm.findClass RX9 = some m.cls := findClass_of_methodNamed B.named
  have hlocks := B.notSynchronized
  subst hsz
  have hD := hD0.self (sz := s.heap.size)
  generalize hAe : va_A [(a_t, .inr (7, [.ref a_t_v, .ref a_t_past, .ref a_t_costs, .int t_edits, .int t_thrown, .ref a_t_into, .ref a_t_isNeeded, .ref a_t_depths, .ref a_t_names, .ref a_t_out, .int t_outs, .ref a_t_has])), (a_t_v, .inl (ca 0, 206, .inl f_t_v)), (a_t_has, .inl (ca 1, 41, .inr (.inl f_t_has)))] s.heap.size = A at hD ⊢
  have hA : ∀ q : Nat, s.heap.size ≤ q → A q := fun q h => by rw [← hAe]; exact Or.inr h
  have hS : va_S A s.heap s.heap [] := va_S.rf
  have hP : va_P D vwCl [(a_t, .inr (7, [.ref a_t_v, .ref a_t_past, .ref a_t_costs, .int t_edits, .int t_thrown, .ref a_t_into, .ref a_t_isNeeded, .ref a_t_depths, .ref a_t_names, .ref a_t_out, .int t_outs, .ref a_t_has])), (a_t_v, .inl (ca 0, 206, .inl f_t_v)), (a_t_has, .inl (ca 1, 41, .inr (.inl f_t_has)))] s.heap := hP
  have hl := lv_entry ([.ref a_t, .long x1]) (n := 5) (Nat.le_of_ble_eq_true rfl)
  rw [lg_entry_eq]
  generalize (lg_sl ([.ref a_t, .long x1]) ++ List.replicate (5 - (lg_sl ([.ref a_t, .long x1])).length) Slot.unset).toArray = ls at hl ⊢
  have hl : lv_has ls 5 [(0, .ref a_t), (1, .long x1)] := hl
  unfold wX9_isRight at h
  refine lv_aload_n hx hb dX9_isRight_0 rfl (lv_at hl 0 rfl) ?_
  refine lv_lload_n hx hb dX9_isRight_1 rfl (lv_at hl 1 rfl) ?_
  refine cVv (As := [.long x1]) (rest := []) (wc := [(a_t, .inr (7, [.ref a_t_v, .ref a_t_past, .ref a_t_costs, .int t_edits, .int t_thrown, .ref a_t_into, .ref a_t_isNeeded, .ref a_t_depths, .ref a_t_names, .ref a_t_out, .int t_outs, .ref a_t_has])), (a_t_v, .inl (ca 0, 206, .inl f_t_v)), (a_t_has, .inl (ca 1, 41, .inr (.inl f_t_has)))]) (wr := []) (w1 := fun u : (Nat → Int64) => [(a_t, .inr (7, [.ref a_t_v, .ref a_t_past, .ref a_t_costs, .int t_edits, .int t_thrown, .ref a_t_into, .ref a_t_isNeeded, .ref a_t_depths, .ref a_t_names, .ref a_t_out, .int t_outs, .ref a_t_has])), (a_t_v, .inl (ca 0, 206, .inl f_t_v)), (a_t_has, .inl (ca 1, 41, .inr (.inl u)))]) (ws2 := fun u : (Nat → Int64) => [(a_t, .inr (7, [.ref a_t_v, .ref a_t_past, .ref a_t_costs, .int t_edits, .int t_thrown, .ref a_t_into, .ref a_t_isNeeded, .ref a_t_depths, .ref a_t_names, .ref a_t_out, .int t_outs, .ref a_t_has])), (a_t_v, .inl (ca 0, 206, .inl f_t_v)), (a_t_has, .inl (ca 1, 41, .inr (.inl u)))]) ⟨hx, hb, hml, hown, hts⟩ (mX9_runs l D ca a_t a_t_v a_t_past a_t_costs a_t_into a_t_isNeeded a_t_depths a_t_names a_t_out a_t_has _ t_edits t_thrown t_outs f_t_v f_t_has x1 _ h) (cwV 1 hts (gV q_1174 q_1176 qs_64 q_8 q_1177) rfl rfl rfl (by decide +kernel) ⟨Nat.le_of_ble_eq_true rfl, Nat.le_of_ble_eq_true rfl⟩) hK hP hD hS hA [0, 1, 2] [] [0, 1, 2] rfl rfl rfl (by decide) (fun _ => rfl) (ci := 7) (q0 := 0) rfl rfl rfl hl.1 rfl (Nat.le_of_ble_eq_true rfl) dX9_isRight_2 ⟨Nat.le_of_ble_eq_true rfl, Nat.le_of_ble_eq_true rfl⟩ (fun u9 H locs h hP hD hS => ?_)
  obtain ⟨f_t_has_2, rfl⟩ : ∃ z, z = u9 := ⟨_, rfl⟩
  have hP : va_P D vwCl [(a_t, .inr (7, [.ref a_t_v, .ref a_t_past, .ref a_t_costs, .int t_edits, .int t_thrown, .ref a_t_into, .ref a_t_isNeeded, .ref a_t_depths, .ref a_t_names, .ref a_t_out, .int t_outs, .ref a_t_has])), (a_t_v, .inl (ca 0, 206, .inl f_t_v)), (a_t_has, .inl (ca 1, 41, .inr (.inl f_t_has_2)))] H := hP
  have hD : va_D A [(a_t, .inr (7, [.ref a_t_v, .ref a_t_past, .ref a_t_costs, .int t_edits, .int t_thrown, .ref a_t_into, .ref a_t_isNeeded, .ref a_t_depths, .ref a_t_names, .ref a_t_out, .int t_outs, .ref a_t_has])), (a_t_v, .inl (ca 0, 206, .inl f_t_v)), (a_t_has, .inl (ca 1, 41, .inr (.inl f_t_has_2)))] := hD
  try dsimp only at h
  refine lv_aload_n hx hb dX9_isRight_5 rfl (lv_at hl 0 rfl) ?_
  refine lv_lload_n hx hb dX9_isRight_6 rfl (lv_at hl 1 rfl) ?_
  refine cVl (As := [.long x1]) (rest := []) (wc := [(a_t, .inr (7, [.ref a_t_v, .ref a_t_past, .ref a_t_costs, .int t_edits, .int t_thrown, .ref a_t_into, .ref a_t_isNeeded, .ref a_t_depths, .ref a_t_names, .ref a_t_out, .int t_outs, .ref a_t_has])), (a_t_v, .inl (ca 0, 206, .inl f_t_v))]) (wr := [(a_t_has, .inl (ca 1, 41, .inr (.inl f_t_has_2)))]) (w1 := fun _ : Unit => [(a_t, .inr (7, [.ref a_t_v, .ref a_t_past, .ref a_t_costs, .int t_edits, .int t_thrown, .ref a_t_into, .ref a_t_isNeeded, .ref a_t_depths, .ref a_t_names, .ref a_t_out, .int t_outs, .ref a_t_has])), (a_t_v, .inl (ca 0, 206, .inl f_t_v))]) (ws2 := fun _ : Unit => [(a_t, .inr (7, [.ref a_t_v, .ref a_t_past, .ref a_t_costs, .int t_edits, .int t_thrown, .ref a_t_into, .ref a_t_isNeeded, .ref a_t_depths, .ref a_t_names, .ref a_t_out, .int t_outs, .ref a_t_has])), (a_t_v, .inl (ca 0, 206, .inl f_t_v)), (a_t_has, .inl (ca 1, 41, .inr (.inl f_t_has_2)))]) ⟨hx, hb, hml, hown, hts⟩ (mX9_asked l D ca a_t a_t_v a_t_past a_t_costs a_t_into a_t_isNeeded a_t_depths a_t_names a_t_out a_t_has _ t_edits t_thrown t_outs f_t_v x1 _ h) (cwV 1 hts (gV q_1201 q_1203 qs_68 q_8 q_1204) rfl rfl rfl (by decide +kernel) ⟨Nat.le_of_ble_eq_true rfl, Nat.le_of_ble_eq_true rfl⟩) hK hP hD hS hA [0, 1] [2] [1, 2, 0] rfl rfl rfl (by decide) (fun _ => rfl) (ci := 7) (q0 := 0) rfl rfl rfl hl.1 rfl (Nat.le_of_ble_eq_true rfl) dX9_isRight_7 ⟨Nat.le_of_ble_eq_true rfl, Nat.le_of_ble_eq_true rfl⟩ (fun r_7 u9 H locs h hP hD hS => ?_)
  try dsimp only at h
  refine lv_lstore_n (lv' := [(3, .long r_7), (0, .ref a_t), (1, .long x1)]) hx hb dX9_isRight_10 rfl hl (by decide) rfl (fun ls hl => ?_)
  refine lv_lload_n hx hb dX9_isRight_11 rfl (lv_at hl 0 rfl) ?_
  refine lv_lconst (v := 0) hx hb dX9_isRight_12 (by decide) ?_
  refine jl_lt (tgt := 33) hx hb dX9_isRight_13 dX9_isRight_14 (by decide) (fun c9 => ?_) (fun c9 => ?_)
  · have h := h.1 c9
    refine lv_iconst (v := 1) hx hb dX9_isRight_33 (by decide) ?_
    refine lv_goto (tgt := 38) hx hb dX9_isRight_34 (by decide) ?_
    exact W.zret (v := 1) hx hb hr rfl (fun t ht hW => ⟨⟨1, f_t_has_2, rfl, h, by rw [ht]; exact hP, va_K.moved hW.alike hK, hD⟩, hS.F ht⟩) hS.2.2 dX9_isRight_38
  · have h := h.2 c9
    refine lv_aload_n hx hb dX9_isRight_17 rfl (lv_at hl 1 rfl) ?_
    refine va_get (D := D) (ci := 7) (v := .ref a_t_has) (C := RX9) (T := TX9) (N := 12) hx hb hq inX9g hown hK hP 0 rfl rfl 11 (by decide) (hq _ q_892) (fun _ h9 => h9) rfl dX9_isRight_18 ?_
    refine lv_aload_n hx hb dX9_isRight_21 rfl (lv_at hl 1 rfl) ?_
    refine va_get (D := D) (ci := 7) (v := .ref a_t_v) (C := RX9) (T := TX9) (N := 12) hx hb hq inX9g hown hK hP 0 rfl rfl 0 (by decide) (hq _ q_881) (fun _ h9 => h9) rfl dX9_isRight_22 ?_
    refine lv_iconst (v := 4) hx hb dX9_isRight_25 (by decide) ?_
    obtain ⟨hi9, h⟩ := h
    refine va_iald hx hb hK hP 1 0 rfl rfl hi9 dX9_isRight_26 ?_
    obtain ⟨hi9, h⟩ := h
    refine va_lald hx hb hK hP 2 1 rfl rfl hi9 dX9_isRight_27 ?_
    refine lv_lload_n hx hb dX9_isRight_28 rfl (lv_at hl 0 rfl) ?_
    refine jl_ne (tgt := 37) hx hb dX9_isRight_29 dX9_isRight_30 (by decide) (fun c9 => ?_) (fun c9 => ?_)
    · have h := h.2 c9
      refine lv_iconst (v := 0) hx hb dX9_isRight_37 (by decide) ?_
      exact W.zret (v := 0) hx hb hr rfl (fun t ht hW => ⟨⟨0, f_t_has_2, rfl, h, by rw [ht]; exact hP, va_K.moved hW.alike hK, hD⟩, hS.F ht⟩) hS.2.2 dX9_isRight_38
    · have h := h.1 c9
      refine lv_iconst (v := 1) hx hb dX9_isRight_33 (by decide) ?_
      refine lv_goto (tgt := 38) hx hb dX9_isRight_34 (by decide) ?_
      exact W.zret (v := 1) hx hb hr rfl (fun t ht hW => ⟨⟨1, f_t_has_2, rfl, h, by rw [ht]; exact hP, va_K.moved hW.alike hK, hD⟩, hS.F ht⟩) hS.2.2 dX9_isRight_38

abbrev qX9_firstWrong (D : va_G) (ca : Nat → ClassId) (a_t a_t_v a_t_past a_t_costs a_t_into a_t_isNeeded a_t_depths a_t_names a_t_out a_t_has : Nat) (t_edits : Int32) (t_outs : Int32) (f_t_v : Nat → Int32) (Q : Int32 → Int32 → (Nat → Int64) → Prop) (A : Nat → Prop) : Array Value → State → Outcome → State → Prop := va_Qi (fun (r : Int32) (u : Int32 × (Nat → Int64)) => Q r u.1 u.2) (wEnd D ca (fun u : Int32 × (Nat → Int64) => [(a_t, .inr (7, [.ref a_t_v, .ref a_t_past, .ref a_t_costs, .int t_edits, .int u.1, .ref a_t_into, .ref a_t_isNeeded, .ref a_t_depths, .ref a_t_names, .ref a_t_out, .int t_outs, .ref a_t_has])), (a_t_v, .inl (ca 0, 206, .inl f_t_v)), (a_t_has, .inl (ca 1, 41, .inr (.inl u.2)))]) A) A
def wX9_firstWrong_36 (f_t_v : Nat → Int32) (Q : Int32 → Int32 → (Nat → Int64) → Prop) : Nat → Int32 → (Nat → Int64) → Prop
  | 0, _, _ => False
  | n9 + 1, x2_36, f_t_has_36 =>
  wX9_all f_t_v (fun r_39 => ((r_39 ≤ x2_36.toInt64 → Q ((-1)) 0 f_t_has_36) ∧ (¬ r_39 ≤ x2_36.toInt64 → wX9_isRight f_t_v f_t_has_36 x2_36.toInt64 (fun r_49 f_t_has_49 => ((r_49 = 0 → Q x2_36 0 f_t_has_49) ∧ (¬ r_49 = 0 → (∀ x2_57 : Int32, x2_57 = x2_36 + 1 → (wX9_firstWrong_36 f_t_v Q n9) x2_57 f_t_has_49)))))))
def wX9_firstWrong (t_thrown : Int32) (f_t_v : Nat → Int32) (f_t_has : Nat → Int64) (x1 : Int32) (Q : Int32 → Int32 → (Nat → Int64) → Prop) : Prop :=
  wX9_isInput f_t_v x1 (fun r_7 => ((r_7 = 0 → wX9_fails 0 1 (fun r_15 t_thrown_15 => Q r_15 t_thrown_15 f_t_has)) ∧ (¬ r_7 = 0 → (vp_in 1 206 ∧ ((0 ≤ (f_t_v (1 : Int32).toNatClampNeg) → (∃ k9, wX9_firstWrong_36 f_t_v Q k9 x1 f_t_has)) ∧ (¬ 0 ≤ (f_t_v (1 : Int32).toNatClampNeg) → wX9_fails 0 2 (fun r_30 t_thrown_30 => Q r_30 t_thrown_30 f_t_has)))))))
set_option maxHeartbeats 4000000 in
set_option maxRecDepth 100000 in
theorem mX9_firstWrong (l : Launch) (D : va_G) (ca : Nat → ClassId) (a_t a_t_v a_t_past a_t_costs a_t_into a_t_isNeeded a_t_depths a_t_names a_t_out a_t_has : Nat) (sz : Nat) (t_edits : Int32) (t_thrown : Int32) (t_outs : Int32) (f_t_v : Nat → Int32) (f_t_has : Nat → Int64) (x1 : Int32) (Q : Int32 → Int32 → (Nat → Int64) → Prop) (h : wX9_firstWrong t_thrown f_t_v f_t_has x1 Q) : Met l yX9_firstWrong (Cond.code yX9_firstWrong cX9_firstWrong 3 (some .int) :: wsG) ({ frames := 7, cells := 0, slots := 0, locals := 163 } : Room) (va_Pc [.ref a_t, .int x1] (wPre D ca [(a_t, .inr (7, [.ref a_t_v, .ref a_t_past, .ref a_t_costs, .int t_edits, .int t_thrown, .ref a_t_into, .ref a_t_isNeeded, .ref a_t_depths, .ref a_t_names, .ref a_t_out, .int t_outs, .ref a_t_has])), (a_t_v, .inl (ca 0, 206, .inl f_t_v)), (a_t_has, .inl (ca 1, 41, .inr (.inl f_t_has)))] sz)) (qX9_firstWrong D ca a_t a_t_v a_t_past a_t_costs a_t_into a_t_isNeeded a_t_depths a_t_names a_t_out a_t_has t_edits t_outs f_t_v Q (va_A [(a_t, .inr (7, [.ref a_t_v, .ref a_t_past, .ref a_t_costs, .int t_edits, .int t_thrown, .ref a_t_into, .ref a_t_isNeeded, .ref a_t_depths, .ref a_t_names, .ref a_t_out, .int t_outs, .ref a_t_has])), (a_t_v, .inl (ca 0, 206, .inl f_t_v)), (a_t_has, .inl (ca 1, 41, .inr (.inl f_t_has)))] sz)) 0 0 (va_A [(a_t, .inr (7, [.ref a_t_v, .ref a_t_past, .ref a_t_costs, .int t_edits, .int t_thrown, .ref a_t_into, .ref a_t_isNeeded, .ref a_t_depths, .ref a_t_names, .ref a_t_out, .int t_outs, .ref a_t_has])), (a_t_v, .inl (ca 0, 206, .inl f_t_v)), (a_t_has, .inl (ca 1, 41, .inr (.inl f_t_has)))] sz) := by
  refine Met.ofW (cc := cX9_firstWrong) (maxL := 3) (ret := (some .int)) (by decide) rfl ?_
  intro p e s m args below meth c s₁ B hml hv
  obtain ⟨rfl, hsz, hP, hK, hD0⟩ := hv
  have hx := B.exec
  have hb := B.bytes
  have hr := B.returns
  have hts := atoms_spec (ws := (Cond.code yX9_firstWrong cX9_firstWrong 3 (some .int) :: wsG)) B.pre
  have hq : ∀ w ∈ wsG, w.before _ s = true := fun w hw => hts w (List.mem_cons_of_mem _ hw)
  have hown : s.vm.findClass RX9 = some m.cls := findClass_of_methodNamed B.named
  have hlocks := B.notSynchronized
  subst hsz
  have hD := hD0.self (sz := s.heap.size)
  generalize hAe : va_A [(a_t, .inr (7, [.ref a_t_v, .ref a_t_past, .ref a_t_costs, .int t_edits, .int t_thrown, .ref a_t_into, .ref a_t_isNeeded, .ref a_t_depths, .ref a_t_names, .ref a_t_out, .int t_outs, .ref a_t_has])), (a_t_v, .inl (ca 0, 206, .inl f_t_v)), (a_t_has, .inl (ca 1, 41, .inr (.inl f_t_has)))] s.heap.size = A at hD ⊢
  have hA : ∀ q : Nat, s.heap.size ≤ q → A q := fun q h => by rw [← hAe]; exact Or.inr h
  have hS : va_S A s.heap s.heap [] := va_S.rf
  have hP : va_P D vwCl [(a_t, .inr (7, [.ref a_t_v, .ref a_t_past, .ref a_t_costs, .int t_edits, .int t_thrown, .ref a_t_into, .ref a_t_isNeeded, .ref a_t_depths, .ref a_t_names, .ref a_t_out, .int t_outs, .ref a_t_has])), (a_t_v, .inl (ca 0, 206, .inl f_t_v)), (a_t_has, .inl (ca 1, 41, .inr (.inl f_t_has)))] s.heap := hP
  have hl := lv_entry ([.ref a_t, .int x1]) (n := 3) (Nat.le_of_ble_eq_true rfl)
  rw [lg_entry_eq]
  generalize (lg_sl ([.ref a_t, .int x1]) ++ List.replicate (3 - (lg_sl ([.ref a_t, .int x1])).length) Slot.unset).toArray = ls at hl ⊢
  have hl : lv_has ls 3 [(0, .ref a_t), (1, .int x1)] := hl
  unfold wX9_firstWrong at h
  refine lv_aload_n hx hb dX9_firstWrong_0 rfl (lv_at hl 0 rfl) ?_
  refine lv_iconst (v := 0) hx hb dX9_firstWrong_1 (by decide) ?_
  refine va_put (D := D) (ci := 7) (v := .int 0) (ty := .int) (C := RX9) (T := TX9) (N := 12) hx hb hq inX9g tyX9 tyX9_ok nmX9 hown hK hP hD hS 0 rfl rfl 4 (by decide) (hq _ q_885) (fun _ h9 => h9) rfl (by decide +kernel) rfl rfl (Nat.le_of_ble_eq_true rfl) dX9_firstWrong_2 (fun H locs hP hD hS => ?_)
  have hP : va_P D vwCl [(a_t, .inr (7, [.ref a_t_v, .ref a_t_past, .ref a_t_costs, .int t_edits, .int 0, .ref a_t_into, .ref a_t_isNeeded, .ref a_t_depths, .ref a_t_names, .ref a_t_out, .int t_outs, .ref a_t_has])), (a_t_v, .inl (ca 0, 206, .inl f_t_v)), (a_t_has, .inl (ca 1, 41, .inr (.inl f_t_has)))] H := hP
  have hD : va_D A [(a_t, .inr (7, [.ref a_t_v, .ref a_t_past, .ref a_t_costs, .int t_edits, .int 0, .ref a_t_into, .ref a_t_isNeeded, .ref a_t_depths, .ref a_t_names, .ref a_t_out, .int t_outs, .ref a_t_has])), (a_t_v, .inl (ca 0, 206, .inl f_t_v)), (a_t_has, .inl (ca 1, 41, .inr (.inl f_t_has)))] := hD
  refine lv_aload_n hx hb dX9_firstWrong_5 rfl (lv_at hl 0 rfl) ?_
  refine lv_iload_n hx hb dX9_firstWrong_6 rfl (lv_at hl 1 rfl) ?_
  refine cVi (As := [.int x1]) (rest := []) (wc := [(a_t, .inr (7, [.ref a_t_v, .ref a_t_past, .ref a_t_costs, .int t_edits, .int 0, .ref a_t_into, .ref a_t_isNeeded, .ref a_t_depths, .ref a_t_names, .ref a_t_out, .int t_outs, .ref a_t_has])), (a_t_v, .inl (ca 0, 206, .inl f_t_v))]) (wr := [(a_t_has, .inl (ca 1, 41, .inr (.inl f_t_has)))]) (w1 := fun _ : Unit => [(a_t, .inr (7, [.ref a_t_v, .ref a_t_past, .ref a_t_costs, .int t_edits, .int 0, .ref a_t_into, .ref a_t_isNeeded, .ref a_t_depths, .ref a_t_names, .ref a_t_out, .int t_outs, .ref a_t_has])), (a_t_v, .inl (ca 0, 206, .inl f_t_v))]) (ws2 := fun _ : Unit => [(a_t, .inr (7, [.ref a_t_v, .ref a_t_past, .ref a_t_costs, .int t_edits, .int 0, .ref a_t_into, .ref a_t_isNeeded, .ref a_t_depths, .ref a_t_names, .ref a_t_out, .int t_outs, .ref a_t_has])), (a_t_v, .inl (ca 0, 206, .inl f_t_v)), (a_t_has, .inl (ca 1, 41, .inr (.inl f_t_has)))]) ⟨hx, hb, hml, hown, hts⟩ (mX9_isInput l D ca a_t a_t_v a_t_past a_t_costs a_t_into a_t_isNeeded a_t_depths a_t_names a_t_out a_t_has _ t_edits 0 t_outs f_t_v x1 _ h) (cwV 1 hts (gV q_1170 q_1172 qs_63 q_8 q_1173) rfl rfl rfl (by decide +kernel) ⟨Nat.le_of_ble_eq_true rfl, Nat.le_of_ble_eq_true rfl⟩) hK hP hD hS hA [0, 1] [2] [1, 2, 0] rfl rfl rfl (by decide) (fun _ => rfl) (ci := 7) (q0 := 0) rfl rfl rfl hl.1 rfl (Nat.le_of_ble_eq_true rfl) dX9_firstWrong_7 ⟨Nat.le_of_ble_eq_true rfl, Nat.le_of_ble_eq_true rfl⟩ (fun r_7 u9 H locs h hP hD hS => ?_)
  try dsimp only at h
  refine lv_if_ne (tgt := 19) hx hb dX9_firstWrong_10 (by decide) (fun c9 => ?_) (fun c9 => ?_)
  · have h := h.2 c9
    refine lv_aload_n hx hb dX9_firstWrong_19 rfl (lv_at hl 0 rfl) ?_
    refine va_get (D := D) (ci := 7) (v := .ref a_t_v) (C := RX9) (T := TX9) (N := 12) hx hb hq inX9g hown hK hP 0 rfl rfl 0 (by decide) (hq _ q_881) (fun _ h9 => h9) rfl dX9_firstWrong_20 ?_
    refine lv_iconst (v := 1) hx hb dX9_firstWrong_23 (by decide) ?_
    obtain ⟨hi9, h⟩ := h
    refine va_iald hx hb hK hP 1 0 rfl rfl hi9 dX9_firstWrong_24 ?_
    refine lv_if_ge (tgt := 34) hx hb dX9_firstWrong_25 (by decide) (fun c9 => ?_) (fun c9 => ?_)
    · have h := h.1 c9
      refine lv_iload_n hx hb dX9_firstWrong_34 rfl (lv_at hl 1 rfl) ?_
      refine lv_istore_n (lv' := [(2, .int x1), (0, .ref a_t), (1, .int x1)]) hx hb dX9_firstWrong_35 rfl hl (by decide) rfl (fun ls hl => ?_)
      have hL36 : ∀ (n9_36 : Nat) (x2_36 : Int32) (f_t_has_36 : Nat → Int64) (H : Heap) (locs : List Loc) (ls : Array Slot), va_P D vwCl [(a_t, .inr (7, [.ref a_t_v, .ref a_t_past, .ref a_t_costs, .int t_edits, .int 0, .ref a_t_into, .ref a_t_isNeeded, .ref a_t_depths, .ref a_t_names, .ref a_t_out, .int t_outs, .ref a_t_has])), (a_t_v, .inl (ca 0, 206, .inl f_t_v)), (a_t_has, .inl (ca 1, 41, .inr (.inl f_t_has_36)))] H → va_D A [(a_t, .inr (7, [.ref a_t_v, .ref a_t_past, .ref a_t_costs, .int t_edits, .int 0, .ref a_t_into, .ref a_t_isNeeded, .ref a_t_depths, .ref a_t_names, .ref a_t_out, .int t_outs, .ref a_t_has])), (a_t_v, .inl (ca 0, 206, .inl f_t_v)), (a_t_has, .inl (ca 1, 41, .inr (.inl f_t_has_36)))] → va_S A s.heap H locs → lv_has ls 3 [(0, .ref a_t), (2, .int x2_36)] → wX9_firstWrong_36 f_t_v Q n9_36 x2_36 f_t_has_36 → W p l e (headSpec (Cond.code yX9_firstWrong cX9_firstWrong 3 (some .int) :: wsG) ({ frames := 7, cells := 0, slots := 0, locals := 163 } : Room)).room s m ([.ref a_t, .int x1] : List Value).toArray below meth c H locs 0 0 (MQ below (qX9_firstWrong D ca a_t a_t_v a_t_past a_t_costs a_t_into a_t_isNeeded a_t_depths a_t_names a_t_out a_t_has t_edits t_outs f_t_v Q A) ([.ref a_t, .int x1] : List Value).toArray s 0 0 A) (F0 m 36 ls []) := by
        intro n9_36
        induction n9_36 with
        | zero =>
          intro x2_36 f_t_has_36 H locs ls hP hD hS hl h
          exact False.elim h
        | succ n9_36 ih36 =>
          intro x2_36 f_t_has_36 H locs ls hP hD hS hl h
          unfold wX9_firstWrong_36 at h
          refine lv_iload_n hx hb dX9_firstWrong_36 rfl (lv_at hl 1 rfl) ?_
          refine lv_i2l hx hb dX9_firstWrong_37 rfl ?_
          refine lv_aload_n hx hb dX9_firstWrong_38 rfl (lv_at hl 0 rfl) ?_
          refine cVl (As := []) (rest := [.long x2_36.toInt64]) (wc := [(a_t, .inr (7, [.ref a_t_v, .ref a_t_past, .ref a_t_costs, .int t_edits, .int 0, .ref a_t_into, .ref a_t_isNeeded, .ref a_t_depths, .ref a_t_names, .ref a_t_out, .int t_outs, .ref a_t_has])), (a_t_v, .inl (ca 0, 206, .inl f_t_v))]) (wr := [(a_t_has, .inl (ca 1, 41, .inr (.inl f_t_has_36)))]) (w1 := fun _ : Unit => [(a_t, .inr (7, [.ref a_t_v, .ref a_t_past, .ref a_t_costs, .int t_edits, .int 0, .ref a_t_into, .ref a_t_isNeeded, .ref a_t_depths, .ref a_t_names, .ref a_t_out, .int t_outs, .ref a_t_has])), (a_t_v, .inl (ca 0, 206, .inl f_t_v))]) (ws2 := fun _ : Unit => [(a_t, .inr (7, [.ref a_t_v, .ref a_t_past, .ref a_t_costs, .int t_edits, .int 0, .ref a_t_into, .ref a_t_isNeeded, .ref a_t_depths, .ref a_t_names, .ref a_t_out, .int t_outs, .ref a_t_has])), (a_t_v, .inl (ca 0, 206, .inl f_t_v)), (a_t_has, .inl (ca 1, 41, .inr (.inl f_t_has_36)))]) ⟨hx, hb, hml, hown, hts⟩ (mX9_all l D ca a_t a_t_v a_t_past a_t_costs a_t_into a_t_isNeeded a_t_depths a_t_names a_t_out a_t_has _ t_edits 0 t_outs f_t_v _ h) (cwV 0 hts (gV q_955 q_957 qs_35 q_8 q_958) rfl rfl rfl (by decide +kernel) ⟨Nat.le_of_ble_eq_true rfl, Nat.le_of_ble_eq_true rfl⟩) hK hP hD hS hA [0, 1] [2] [1, 2, 0] rfl rfl rfl (by decide) (fun _ => rfl) (ci := 7) (q0 := 0) rfl rfl rfl hl.1 rfl (Nat.le_of_ble_eq_true rfl) dX9_firstWrong_39 ⟨Nat.le_of_ble_eq_true rfl, Nat.le_of_ble_eq_true rfl⟩ (fun r_39 u9 H locs h hP hD hS => ?_)
          try dsimp only at h
          refine jl_ge (tgt := 63) hx hb dX9_firstWrong_42 dX9_firstWrong_43 (by decide) (fun c9 => ?_) (fun c9 => ?_)
          · have h := h.1 c9
            refine lv_iconst (v := (-1)) hx hb dX9_firstWrong_63 (by decide) ?_
            exact W.iret (v := (-1)) hx hb hr (fun t ht hW => ⟨⟨(-1), (0, f_t_has_36), rfl, h, by rw [ht]; exact hP, va_K.moved hW.alike hK, hD⟩, hS.F ht⟩) hS.2.2 dX9_firstWrong_64
          · have h := h.2 c9
            refine lv_aload_n hx hb dX9_firstWrong_46 rfl (lv_at hl 0 rfl) ?_
            refine lv_iload_n hx hb dX9_firstWrong_47 rfl (lv_at hl 1 rfl) ?_
            refine lv_i2l hx hb dX9_firstWrong_48 rfl ?_
            refine cVi (As := [.long x2_36.toInt64]) (rest := []) (wc := [(a_t, .inr (7, [.ref a_t_v, .ref a_t_past, .ref a_t_costs, .int t_edits, .int 0, .ref a_t_into, .ref a_t_isNeeded, .ref a_t_depths, .ref a_t_names, .ref a_t_out, .int t_outs, .ref a_t_has])), (a_t_v, .inl (ca 0, 206, .inl f_t_v)), (a_t_has, .inl (ca 1, 41, .inr (.inl f_t_has_36)))]) (wr := []) (w1 := fun u : (Nat → Int64) => [(a_t, .inr (7, [.ref a_t_v, .ref a_t_past, .ref a_t_costs, .int t_edits, .int 0, .ref a_t_into, .ref a_t_isNeeded, .ref a_t_depths, .ref a_t_names, .ref a_t_out, .int t_outs, .ref a_t_has])), (a_t_v, .inl (ca 0, 206, .inl f_t_v)), (a_t_has, .inl (ca 1, 41, .inr (.inl u)))]) (ws2 := fun u : (Nat → Int64) => [(a_t, .inr (7, [.ref a_t_v, .ref a_t_past, .ref a_t_costs, .int t_edits, .int 0, .ref a_t_into, .ref a_t_isNeeded, .ref a_t_depths, .ref a_t_names, .ref a_t_out, .int t_outs, .ref a_t_has])), (a_t_v, .inl (ca 0, 206, .inl f_t_v)), (a_t_has, .inl (ca 1, 41, .inr (.inl u)))]) ⟨hx, hb, hml, hown, hts⟩ (mX9_isRight l D ca a_t a_t_v a_t_past a_t_costs a_t_into a_t_isNeeded a_t_depths a_t_names a_t_out a_t_has _ t_edits 0 t_outs f_t_v f_t_has_36 x2_36.toInt64 _ h) (cwV 1 hts (gV q_1210 q_1212 qs_69 q_8 q_1213) rfl rfl rfl (by decide +kernel) ⟨Nat.le_of_ble_eq_true rfl, Nat.le_of_ble_eq_true rfl⟩) hK hP hD hS hA [0, 1, 2] [] [0, 1, 2] rfl rfl rfl (by decide) (fun _ => rfl) (ci := 7) (q0 := 0) rfl rfl rfl hl.1 rfl (Nat.le_of_ble_eq_true rfl) dX9_firstWrong_49 ⟨Nat.le_of_ble_eq_true rfl, Nat.le_of_ble_eq_true rfl⟩ (fun r_49 u9 H locs h hP hD hS => ?_)
            obtain ⟨f_t_has_49, rfl⟩ : ∃ z, z = u9 := ⟨_, rfl⟩
            have hP : va_P D vwCl [(a_t, .inr (7, [.ref a_t_v, .ref a_t_past, .ref a_t_costs, .int t_edits, .int 0, .ref a_t_into, .ref a_t_isNeeded, .ref a_t_depths, .ref a_t_names, .ref a_t_out, .int t_outs, .ref a_t_has])), (a_t_v, .inl (ca 0, 206, .inl f_t_v)), (a_t_has, .inl (ca 1, 41, .inr (.inl f_t_has_49)))] H := hP
            have hD : va_D A [(a_t, .inr (7, [.ref a_t_v, .ref a_t_past, .ref a_t_costs, .int t_edits, .int 0, .ref a_t_into, .ref a_t_isNeeded, .ref a_t_depths, .ref a_t_names, .ref a_t_out, .int t_outs, .ref a_t_has])), (a_t_v, .inl (ca 0, 206, .inl f_t_v)), (a_t_has, .inl (ca 1, 41, .inr (.inl f_t_has_49)))] := hD
            try dsimp only at h
            refine lv_if_ne (tgt := 57) hx hb dX9_firstWrong_52 (by decide) (fun c9 => ?_) (fun c9 => ?_)
            · have h := h.2 c9
              obtain ⟨x2_57, ex2_57⟩ : ∃ y : Int32, y = x2_36 + 1 := ⟨_, rfl⟩
              have h := h x2_57 ex2_57
              refine lv_iinc (v := x2_57) (lv' := [(2, .int x2_57), (0, .ref a_t)]) hx hb dX9_firstWrong_57 hl (k := 1) rfl (by rw [ex2_57]; rfl) (by decide) rfl (fun ls hl => ?_)
              refine lv_goto (tgt := 36) hx hb dX9_firstWrong_60 (by decide) ?_
              exact ih36 x2_57 f_t_has_49 _ _ _ hP hD hS (lv_sub hl [1, 0] rfl) h
            · have h := h.1 c9
              refine lv_iload_n hx hb dX9_firstWrong_55 rfl (lv_at hl 1 rfl) ?_
              exact W.iret (v := x2_36) hx hb hr (fun t ht hW => ⟨⟨x2_36, (0, f_t_has_49), rfl, h, by rw [ht]; exact hP, va_K.moved hW.alike hK, hD⟩, hS.F ht⟩) hS.2.2 dX9_firstWrong_56
      obtain ⟨k9, h⟩ := h
      exact hL36 k9 x1 f_t_has _ _ _ hP hD hS (lv_sub hl [1, 0] rfl) h
    · have h := h.2 c9
      refine lv_aload_n hx hb dX9_firstWrong_28 rfl (lv_at hl 0 rfl) ?_
      refine lv_iconst (v := 2) hx hb dX9_firstWrong_29 (by decide) ?_
      refine cVi (As := [.int 2]) (rest := []) (wc := [(a_t, .inr (7, [.ref a_t_v, .ref a_t_past, .ref a_t_costs, .int t_edits, .int 0, .ref a_t_into, .ref a_t_isNeeded, .ref a_t_depths, .ref a_t_names, .ref a_t_out, .int t_outs, .ref a_t_has]))]) (wr := [(a_t_v, .inl (ca 0, 206, .inl f_t_v)), (a_t_has, .inl (ca 1, 41, .inr (.inl f_t_has)))]) (w1 := fun u : Int32 => [(a_t, .inr (7, [.ref a_t_v, .ref a_t_past, .ref a_t_costs, .int t_edits, .int u, .ref a_t_into, .ref a_t_isNeeded, .ref a_t_depths, .ref a_t_names, .ref a_t_out, .int t_outs, .ref a_t_has]))]) (ws2 := fun u : Int32 => [(a_t, .inr (7, [.ref a_t_v, .ref a_t_past, .ref a_t_costs, .int t_edits, .int u, .ref a_t_into, .ref a_t_isNeeded, .ref a_t_depths, .ref a_t_names, .ref a_t_out, .int t_outs, .ref a_t_has])), (a_t_v, .inl (ca 0, 206, .inl f_t_v)), (a_t_has, .inl (ca 1, 41, .inr (.inl f_t_has)))]) ⟨hx, hb, hml, hown, hts⟩ (mX9_fails l D ca a_t a_t_v a_t_past a_t_costs a_t_into a_t_isNeeded a_t_depths a_t_names a_t_out a_t_has _ t_edits 0 t_outs 2 _ h) (cwV 1 hts (gV q_933 q_935 qs_33 q_8 q_936) rfl rfl rfl (by decide +kernel) ⟨Nat.le_of_ble_eq_true rfl, Nat.le_of_ble_eq_true rfl⟩) hK hP hD hS hA [0] [1, 2] [2, 0, 1] rfl rfl rfl (by decide) (fun _ => rfl) (ci := 7) (q0 := 0) rfl rfl rfl hl.1 rfl (Nat.le_of_ble_eq_true rfl) dX9_firstWrong_30 ⟨Nat.le_of_ble_eq_true rfl, Nat.le_of_ble_eq_true rfl⟩ (fun r_30 u9 H locs h hP hD hS => ?_)
      obtain ⟨t_thrown_30, rfl⟩ : ∃ z, z = u9 := ⟨_, rfl⟩
      have hP : va_P D vwCl [(a_t, .inr (7, [.ref a_t_v, .ref a_t_past, .ref a_t_costs, .int t_edits, .int t_thrown_30, .ref a_t_into, .ref a_t_isNeeded, .ref a_t_depths, .ref a_t_names, .ref a_t_out, .int t_outs, .ref a_t_has])), (a_t_v, .inl (ca 0, 206, .inl f_t_v)), (a_t_has, .inl (ca 1, 41, .inr (.inl f_t_has)))] H := hP
      have hD : va_D A [(a_t, .inr (7, [.ref a_t_v, .ref a_t_past, .ref a_t_costs, .int t_edits, .int t_thrown_30, .ref a_t_into, .ref a_t_isNeeded, .ref a_t_depths, .ref a_t_names, .ref a_t_out, .int t_outs, .ref a_t_has])), (a_t_v, .inl (ca 0, 206, .inl f_t_v)), (a_t_has, .inl (ca 1, 41, .inr (.inl f_t_has)))] := hD
      try dsimp only at h
      exact W.iret (v := r_30) hx hb hr (fun t ht hW => ⟨⟨r_30, (t_thrown_30, f_t_has), rfl, h, by rw [ht]; exact hP, va_K.moved hW.alike hK, hD⟩, hS.F ht⟩) hS.2.2 dX9_firstWrong_33
  · have h := h.1 c9
    refine lv_aload_n hx hb dX9_firstWrong_13 rfl (lv_at hl 0 rfl) ?_
    refine lv_iconst (v := 1) hx hb dX9_firstWrong_14 (by decide) ?_
    refine cVi (As := [.int 1]) (rest := []) (wc := [(a_t, .inr (7, [.ref a_t_v, .ref a_t_past, .ref a_t_costs, .int t_edits, .int 0, .ref a_t_into, .ref a_t_isNeeded, .ref a_t_depths, .ref a_t_names, .ref a_t_out, .int t_outs, .ref a_t_has]))]) (wr := [(a_t_v, .inl (ca 0, 206, .inl f_t_v)), (a_t_has, .inl (ca 1, 41, .inr (.inl f_t_has)))]) (w1 := fun u : Int32 => [(a_t, .inr (7, [.ref a_t_v, .ref a_t_past, .ref a_t_costs, .int t_edits, .int u, .ref a_t_into, .ref a_t_isNeeded, .ref a_t_depths, .ref a_t_names, .ref a_t_out, .int t_outs, .ref a_t_has]))]) (ws2 := fun u : Int32 => [(a_t, .inr (7, [.ref a_t_v, .ref a_t_past, .ref a_t_costs, .int t_edits, .int u, .ref a_t_into, .ref a_t_isNeeded, .ref a_t_depths, .ref a_t_names, .ref a_t_out, .int t_outs, .ref a_t_has])), (a_t_v, .inl (ca 0, 206, .inl f_t_v)), (a_t_has, .inl (ca 1, 41, .inr (.inl f_t_has)))]) ⟨hx, hb, hml, hown, hts⟩ (mX9_fails l D ca a_t a_t_v a_t_past a_t_costs a_t_into a_t_isNeeded a_t_depths a_t_names a_t_out a_t_has _ t_edits 0 t_outs 1 _ h) (cwV 1 hts (gV q_933 q_935 qs_33 q_8 q_936) rfl rfl rfl (by decide +kernel) ⟨Nat.le_of_ble_eq_true rfl, Nat.le_of_ble_eq_true rfl⟩) hK hP hD hS hA [0] [1, 2] [2, 0, 1] rfl rfl rfl (by decide) (fun _ => rfl) (ci := 7) (q0 := 0) rfl rfl rfl hl.1 rfl (Nat.le_of_ble_eq_true rfl) dX9_firstWrong_15 ⟨Nat.le_of_ble_eq_true rfl, Nat.le_of_ble_eq_true rfl⟩ (fun r_15 u9 H locs h hP hD hS => ?_)
    obtain ⟨t_thrown_15, rfl⟩ : ∃ z, z = u9 := ⟨_, rfl⟩
    have hP : va_P D vwCl [(a_t, .inr (7, [.ref a_t_v, .ref a_t_past, .ref a_t_costs, .int t_edits, .int t_thrown_15, .ref a_t_into, .ref a_t_isNeeded, .ref a_t_depths, .ref a_t_names, .ref a_t_out, .int t_outs, .ref a_t_has])), (a_t_v, .inl (ca 0, 206, .inl f_t_v)), (a_t_has, .inl (ca 1, 41, .inr (.inl f_t_has)))] H := hP
    have hD : va_D A [(a_t, .inr (7, [.ref a_t_v, .ref a_t_past, .ref a_t_costs, .int t_edits, .int t_thrown_15, .ref a_t_into, .ref a_t_isNeeded, .ref a_t_depths, .ref a_t_names, .ref a_t_out, .int t_outs, .ref a_t_has])), (a_t_v, .inl (ca 0, 206, .inl f_t_v)), (a_t_has, .inl (ca 1, 41, .inr (.inl f_t_has)))] := hD
    try dsimp only at h
    exact W.iret (v := r_15) hx hb hr (fun t ht hW => ⟨⟨r_15, (t_thrown_15, f_t_has), rfl, h, by rw [ht]; exact hP, va_K.moved hW.alike hK, hD⟩, hS.F ht⟩) hS.2.2 dX9_firstWrong_18

abbrev qX9_wrong (D : va_G) (ca : Nat → ClassId) (a_t a_t_v a_t_past a_t_costs a_t_into a_t_isNeeded a_t_depths a_t_names a_t_out a_t_has : Nat) (t_edits : Int32) (t_outs : Int32) (f_t_v : Nat → Int32) (Q : Int32 → Int32 → (Nat → Int64) → Prop) (A : Nat → Prop) : Array Value → State → Outcome → State → Prop := va_Qi (fun (r : Int32) (u : Int32 × (Nat → Int64)) => Q r u.1 u.2) (wEnd D ca (fun u : Int32 × (Nat → Int64) => [(a_t, .inr (7, [.ref a_t_v, .ref a_t_past, .ref a_t_costs, .int t_edits, .int u.1, .ref a_t_into, .ref a_t_isNeeded, .ref a_t_depths, .ref a_t_names, .ref a_t_out, .int t_outs, .ref a_t_has])), (a_t_v, .inl (ca 0, 206, .inl f_t_v)), (a_t_has, .inl (ca 1, 41, .inr (.inl u.2)))]) A) A
def wX9_wrong_49 (x1_24 : Int32) (x2_24 : Int32) (K24 : Int32 → Int32 → (Nat → Int64) → Prop) (f_t_has_38 : Nat → Int64) (y1_49 : Int32) : Prop :=
  (∀ x1_50 : Int32, x1_50 = x1_24 + y1_49 → (∀ x2_51 : Int32, x2_51 = x2_24 + 1 → K24 x1_50 x2_51 f_t_has_38))
def wX9_wrong_24 (f_t_v : Nat → Int32) (Q : Int32 → Int32 → (Nat → Int64) → Prop) : Nat → Int32 → Int32 → (Nat → Int64) → Prop
  | 0, _, _, _ => False
  | n9 + 1, x1_24, x2_24, f_t_has_24 =>
  wX9_all f_t_v (fun r_27 => ((r_27 ≤ x2_24.toInt64 → Q x1_24 0 f_t_has_24) ∧ (¬ r_27 ≤ x2_24.toInt64 → wX9_isRight f_t_v f_t_has_24 x2_24.toInt64 (fun r_38 f_t_has_38 => ((r_38 = 0 → wX9_wrong_49 x1_24 x2_24 (wX9_wrong_24 f_t_v Q n9) f_t_has_38 1) ∧ (¬ r_38 = 0 → wX9_wrong_49 x1_24 x2_24 (wX9_wrong_24 f_t_v Q n9) f_t_has_38 0))))))
def wX9_wrong (t_thrown : Int32) (f_t_v : Nat → Int32) (f_t_has : Nat → Int64) (Q : Int32 → Int32 → (Nat → Int64) → Prop) : Prop :=
  (vp_in 1 206 ∧ ((0 ≤ (f_t_v (1 : Int32).toNatClampNeg) → (∃ k9, wX9_wrong_24 f_t_v Q k9 0 0 f_t_has)) ∧ (¬ 0 ≤ (f_t_v (1 : Int32).toNatClampNeg) → wX9_fails 0 1 (fun r_16 t_thrown_16 => Q r_16 t_thrown_16 f_t_has))))
set_option maxHeartbeats 4000000 in
set_option maxRecDepth 100000 in
theorem mX9_wrong (l : Launch) (D : va_G) (ca : Nat → ClassId) (a_t a_t_v a_t_past a_t_costs a_t_into a_t_isNeeded a_t_depths a_t_names a_t_out a_t_has : Nat) (sz : Nat) (t_edits : Int32) (t_thrown : Int32) (t_outs : Int32) (f_t_v : Nat → Int32) (f_t_has : Nat → Int64) (Q : Int32 → Int32 → (Nat → Int64) → Prop) (h : wX9_wrong t_thrown f_t_v f_t_has Q) : Met l yX9_wrong (Cond.code yX9_wrong cX9_wrong 3 (some .int) :: wsG) ({ frames := 7, cells := 0, slots := 0, locals := 163 } : Room) (va_Pc [.ref a_t] (wPre D ca [(a_t, .inr (7, [.ref a_t_v, .ref a_t_past, .ref a_t_costs, .int t_edits, .int t_thrown, .ref a_t_into, .ref a_t_isNeeded, .ref a_t_depths, .ref a_t_names, .ref a_t_out, .int t_outs, .ref a_t_has])), (a_t_v, .inl (ca 0, 206, .inl f_t_v)), (a_t_has, .inl (ca 1, 41, .inr (.inl f_t_has)))] sz)) (qX9_wrong D ca a_t a_t_v a_t_past a_t_costs a_t_into a_t_isNeeded a_t_depths a_t_names a_t_out a_t_has t_edits t_outs f_t_v Q (va_A [(a_t, .inr (7, [.ref a_t_v, .ref a_t_past, .ref a_t_costs, .int t_edits, .int t_thrown, .ref a_t_into, .ref a_t_isNeeded, .ref a_t_depths, .ref a_t_names, .ref a_t_out, .int t_outs, .ref a_t_has])), (a_t_v, .inl (ca 0, 206, .inl f_t_v)), (a_t_has, .inl (ca 1, 41, .inr (.inl f_t_has)))] sz)) 0 0 (va_A [(a_t, .inr (7, [.ref a_t_v, .ref a_t_past, .ref a_t_costs, .int t_edits, .int t_thrown, .ref a_t_into, .ref a_t_isNeeded, .ref a_t_depths, .ref a_t_names, .ref a_t_out, .int t_outs, .ref a_t_has])), (a_t_v, .inl (ca 0, 206, .inl f_t_v)), (a_t_has, .inl (ca 1, 41, .inr (.inl f_t_has)))] sz) := by
  refine Met.ofW (cc := cX9_wrong) (maxL := 3) (ret := (some .int)) (by decide) rfl ?_
  intro p e s m args below meth c s₁ B hml hv
  obtain ⟨rfl, hsz, hP, hK, hD0⟩ := hv
  have hx := B.exec
  have hb := B.bytes
  have hr := B.returns
  have hts := atoms_spec (ws := (Cond.code yX9_wrong cX9_wrong 3 (some .int) :: wsG)) B.pre
  have hq : ∀ w ∈ wsG, w.before _ s = true := fun w hw => hts w (List.mem_cons_of_mem _ hw)
  have hown : s.vm.findClass RX9 = some m.cls := findClass_of_methodNamed B.named
  have hlocks := B.notSynchronized
  subst hsz
  have hD := hD0.self (sz := s.heap.size)
  generalize hAe : va_A [(a_t, .inr (7, [.ref a_t_v, .ref a_t_past, .ref a_t_costs, .int t_edits, .int t_thrown, .ref a_t_into, .ref a_t_isNeeded, .ref a_t_depths, .ref a_t_names, .ref a_t_out, .int t_outs, .ref a_t_has])), (a_t_v, .inl (ca 0, 206, .inl f_t_v)), (a_t_has, .inl (ca 1, 41, .inr (.inl f_t_has)))] s.heap.size = A at hD ⊢
  have hA : ∀ q : Nat, s.heap.size ≤ q → A q := fun q h => by rw [← hAe]; exact Or.inr h
  have hS : va_S A s.heap s.heap [] := va_S.rf
  have hP : va_P D vwCl [(a_t, .inr (7, [.ref a_t_v, .ref a_t_past, .ref a_t_costs, .int t_edits, .int t_thrown, .ref a_t_into, .ref a_t_isNeeded, .ref a_t_depths, .ref a_t_names, .ref a_t_out, .int t_outs, .ref a_t_has])), (a_t_v, .inl (ca 0, 206, .inl f_t_v)), (a_t_has, .inl (ca 1, 41, .inr (.inl f_t_has)))] s.heap := hP
  have hl := lv_entry ([.ref a_t]) (n := 3) (Nat.le_of_ble_eq_true rfl)
  rw [lg_entry_eq]
  generalize (lg_sl ([.ref a_t]) ++ List.replicate (3 - (lg_sl ([.ref a_t])).length) Slot.unset).toArray = ls at hl ⊢
  have hl : lv_has ls 3 [(0, .ref a_t)] := hl
  unfold wX9_wrong at h
  refine lv_aload_n hx hb dX9_wrong_0 rfl (lv_at hl 0 rfl) ?_
  refine lv_iconst (v := 0) hx hb dX9_wrong_1 (by decide) ?_
  refine va_put (D := D) (ci := 7) (v := .int 0) (ty := .int) (C := RX9) (T := TX9) (N := 12) hx hb hq inX9g tyX9 tyX9_ok nmX9 hown hK hP hD hS 0 rfl rfl 4 (by decide) (hq _ q_885) (fun _ h9 => h9) rfl (by decide +kernel) rfl rfl (Nat.le_of_ble_eq_true rfl) dX9_wrong_2 (fun H locs hP hD hS => ?_)
  have hP : va_P D vwCl [(a_t, .inr (7, [.ref a_t_v, .ref a_t_past, .ref a_t_costs, .int t_edits, .int 0, .ref a_t_into, .ref a_t_isNeeded, .ref a_t_depths, .ref a_t_names, .ref a_t_out, .int t_outs, .ref a_t_has])), (a_t_v, .inl (ca 0, 206, .inl f_t_v)), (a_t_has, .inl (ca 1, 41, .inr (.inl f_t_has)))] H := hP
  have hD : va_D A [(a_t, .inr (7, [.ref a_t_v, .ref a_t_past, .ref a_t_costs, .int t_edits, .int 0, .ref a_t_into, .ref a_t_isNeeded, .ref a_t_depths, .ref a_t_names, .ref a_t_out, .int t_outs, .ref a_t_has])), (a_t_v, .inl (ca 0, 206, .inl f_t_v)), (a_t_has, .inl (ca 1, 41, .inr (.inl f_t_has)))] := hD
  refine lv_aload_n hx hb dX9_wrong_5 rfl (lv_at hl 0 rfl) ?_
  refine va_get (D := D) (ci := 7) (v := .ref a_t_v) (C := RX9) (T := TX9) (N := 12) hx hb hq inX9g hown hK hP 0 rfl rfl 0 (by decide) (hq _ q_881) (fun _ h9 => h9) rfl dX9_wrong_6 ?_
  refine lv_iconst (v := 1) hx hb dX9_wrong_9 (by decide) ?_
  obtain ⟨hi9, h⟩ := h
  refine va_iald hx hb hK hP 1 0 rfl rfl hi9 dX9_wrong_10 ?_
  refine lv_if_ge (tgt := 20) hx hb dX9_wrong_11 (by decide) (fun c9 => ?_) (fun c9 => ?_)
  · have h := h.1 c9
    refine lv_iconst (v := 0) hx hb dX9_wrong_20 (by decide) ?_
    refine lv_istore_n (lv' := [(1, .int 0), (0, .ref a_t)]) hx hb dX9_wrong_21 rfl hl (by decide) rfl (fun ls hl => ?_)
    refine lv_iconst (v := 0) hx hb dX9_wrong_22 (by decide) ?_
    refine lv_istore_n (lv' := [(2, .int 0), (1, .int 0), (0, .ref a_t)]) hx hb dX9_wrong_23 rfl hl (by decide) rfl (fun ls hl => ?_)
    have hL24 : ∀ (n9_24 : Nat) (x1_24 : Int32) (x2_24 : Int32) (f_t_has_24 : Nat → Int64) (H : Heap) (locs : List Loc) (ls : Array Slot), va_P D vwCl [(a_t, .inr (7, [.ref a_t_v, .ref a_t_past, .ref a_t_costs, .int t_edits, .int 0, .ref a_t_into, .ref a_t_isNeeded, .ref a_t_depths, .ref a_t_names, .ref a_t_out, .int t_outs, .ref a_t_has])), (a_t_v, .inl (ca 0, 206, .inl f_t_v)), (a_t_has, .inl (ca 1, 41, .inr (.inl f_t_has_24)))] H → va_D A [(a_t, .inr (7, [.ref a_t_v, .ref a_t_past, .ref a_t_costs, .int t_edits, .int 0, .ref a_t_into, .ref a_t_isNeeded, .ref a_t_depths, .ref a_t_names, .ref a_t_out, .int t_outs, .ref a_t_has])), (a_t_v, .inl (ca 0, 206, .inl f_t_v)), (a_t_has, .inl (ca 1, 41, .inr (.inl f_t_has_24)))] → va_S A s.heap H locs → lv_has ls 3 [(0, .ref a_t), (1, .int x1_24), (2, .int x2_24)] → wX9_wrong_24 f_t_v Q n9_24 x1_24 x2_24 f_t_has_24 → W p l e (headSpec (Cond.code yX9_wrong cX9_wrong 3 (some .int) :: wsG) ({ frames := 7, cells := 0, slots := 0, locals := 163 } : Room)).room s m ([.ref a_t] : List Value).toArray below meth c H locs 0 0 (MQ below (qX9_wrong D ca a_t a_t_v a_t_past a_t_costs a_t_into a_t_isNeeded a_t_depths a_t_names a_t_out a_t_has t_edits t_outs f_t_v Q A) ([.ref a_t] : List Value).toArray s 0 0 A) (F0 m 24 ls []) := by
      intro n9_24
      induction n9_24 with
      | zero =>
        intro x1_24 x2_24 f_t_has_24 H locs ls hP hD hS hl h
        exact False.elim h
      | succ n9_24 ih24 =>
        intro x1_24 x2_24 f_t_has_24 H locs ls hP hD hS hl h
        unfold wX9_wrong_24 at h
        refine lv_iload_n hx hb dX9_wrong_24 rfl (lv_at hl 2 rfl) ?_
        refine lv_i2l hx hb dX9_wrong_25 rfl ?_
        refine lv_aload_n hx hb dX9_wrong_26 rfl (lv_at hl 0 rfl) ?_
        refine cVl (As := []) (rest := [.long x2_24.toInt64]) (wc := [(a_t, .inr (7, [.ref a_t_v, .ref a_t_past, .ref a_t_costs, .int t_edits, .int 0, .ref a_t_into, .ref a_t_isNeeded, .ref a_t_depths, .ref a_t_names, .ref a_t_out, .int t_outs, .ref a_t_has])), (a_t_v, .inl (ca 0, 206, .inl f_t_v))]) (wr := [(a_t_has, .inl (ca 1, 41, .inr (.inl f_t_has_24)))]) (w1 := fun _ : Unit => [(a_t, .inr (7, [.ref a_t_v, .ref a_t_past, .ref a_t_costs, .int t_edits, .int 0, .ref a_t_into, .ref a_t_isNeeded, .ref a_t_depths, .ref a_t_names, .ref a_t_out, .int t_outs, .ref a_t_has])), (a_t_v, .inl (ca 0, 206, .inl f_t_v))]) (ws2 := fun _ : Unit => [(a_t, .inr (7, [.ref a_t_v, .ref a_t_past, .ref a_t_costs, .int t_edits, .int 0, .ref a_t_into, .ref a_t_isNeeded, .ref a_t_depths, .ref a_t_names, .ref a_t_out, .int t_outs, .ref a_t_has])), (a_t_v, .inl (ca 0, 206, .inl f_t_v)), (a_t_has, .inl (ca 1, 41, .inr (.inl f_t_has_24)))]) ⟨hx, hb, hml, hown, hts⟩ (mX9_all l D ca a_t a_t_v a_t_past a_t_costs a_t_into a_t_isNeeded a_t_depths a_t_names a_t_out a_t_has _ t_edits 0 t_outs f_t_v _ h) (cwV 0 hts (gV q_955 q_957 qs_35 q_8 q_958) rfl rfl rfl (by decide +kernel) ⟨Nat.le_of_ble_eq_true rfl, Nat.le_of_ble_eq_true rfl⟩) hK hP hD hS hA [0, 1] [2] [1, 2, 0] rfl rfl rfl (by decide) (fun _ => rfl) (ci := 7) (q0 := 0) rfl rfl rfl hl.1 rfl (Nat.le_of_ble_eq_true rfl) dX9_wrong_27 ⟨Nat.le_of_ble_eq_true rfl, Nat.le_of_ble_eq_true rfl⟩ (fun r_27 u9 H locs h hP hD hS => ?_)
        try dsimp only at h
        refine jl_ge (tgt := 57) hx hb dX9_wrong_30 dX9_wrong_31 (by decide) (fun c9 => ?_) (fun c9 => ?_)
        · have h := h.1 c9
          refine lv_iload_n hx hb dX9_wrong_57 rfl (lv_at hl 1 rfl) ?_
          exact W.iret (v := x1_24) hx hb hr (fun t ht hW => ⟨⟨x1_24, (0, f_t_has_24), rfl, h, by rw [ht]; exact hP, va_K.moved hW.alike hK, hD⟩, hS.F ht⟩) hS.2.2 dX9_wrong_58
        · have h := h.2 c9
          refine lv_iload_n hx hb dX9_wrong_34 rfl (lv_at hl 1 rfl) ?_
          refine lv_aload_n hx hb dX9_wrong_35 rfl (lv_at hl 0 rfl) ?_
          refine lv_iload_n hx hb dX9_wrong_36 rfl (lv_at hl 2 rfl) ?_
          refine lv_i2l hx hb dX9_wrong_37 rfl ?_
          refine cVi (As := [.long x2_24.toInt64]) (rest := [.int x1_24]) (wc := [(a_t, .inr (7, [.ref a_t_v, .ref a_t_past, .ref a_t_costs, .int t_edits, .int 0, .ref a_t_into, .ref a_t_isNeeded, .ref a_t_depths, .ref a_t_names, .ref a_t_out, .int t_outs, .ref a_t_has])), (a_t_v, .inl (ca 0, 206, .inl f_t_v)), (a_t_has, .inl (ca 1, 41, .inr (.inl f_t_has_24)))]) (wr := []) (w1 := fun u : (Nat → Int64) => [(a_t, .inr (7, [.ref a_t_v, .ref a_t_past, .ref a_t_costs, .int t_edits, .int 0, .ref a_t_into, .ref a_t_isNeeded, .ref a_t_depths, .ref a_t_names, .ref a_t_out, .int t_outs, .ref a_t_has])), (a_t_v, .inl (ca 0, 206, .inl f_t_v)), (a_t_has, .inl (ca 1, 41, .inr (.inl u)))]) (ws2 := fun u : (Nat → Int64) => [(a_t, .inr (7, [.ref a_t_v, .ref a_t_past, .ref a_t_costs, .int t_edits, .int 0, .ref a_t_into, .ref a_t_isNeeded, .ref a_t_depths, .ref a_t_names, .ref a_t_out, .int t_outs, .ref a_t_has])), (a_t_v, .inl (ca 0, 206, .inl f_t_v)), (a_t_has, .inl (ca 1, 41, .inr (.inl u)))]) ⟨hx, hb, hml, hown, hts⟩ (mX9_isRight l D ca a_t a_t_v a_t_past a_t_costs a_t_into a_t_isNeeded a_t_depths a_t_names a_t_out a_t_has _ t_edits 0 t_outs f_t_v f_t_has_24 x2_24.toInt64 _ h) (cwV 1 hts (gV q_1210 q_1212 qs_69 q_8 q_1213) rfl rfl rfl (by decide +kernel) ⟨Nat.le_of_ble_eq_true rfl, Nat.le_of_ble_eq_true rfl⟩) hK hP hD hS hA [0, 1, 2] [] [0, 1, 2] rfl rfl rfl (by decide) (fun _ => rfl) (ci := 7) (q0 := 0) rfl rfl rfl hl.1 rfl (Nat.le_of_ble_eq_true rfl) dX9_wrong_38 ⟨Nat.le_of_ble_eq_true rfl, Nat.le_of_ble_eq_true rfl⟩ (fun r_38 u9 H locs h hP hD hS => ?_)
          obtain ⟨f_t_has_38, rfl⟩ : ∃ z, z = u9 := ⟨_, rfl⟩
          have hP : va_P D vwCl [(a_t, .inr (7, [.ref a_t_v, .ref a_t_past, .ref a_t_costs, .int t_edits, .int 0, .ref a_t_into, .ref a_t_isNeeded, .ref a_t_depths, .ref a_t_names, .ref a_t_out, .int t_outs, .ref a_t_has])), (a_t_v, .inl (ca 0, 206, .inl f_t_v)), (a_t_has, .inl (ca 1, 41, .inr (.inl f_t_has_38)))] H := hP
          have hD : va_D A [(a_t, .inr (7, [.ref a_t_v, .ref a_t_past, .ref a_t_costs, .int t_edits, .int 0, .ref a_t_into, .ref a_t_isNeeded, .ref a_t_depths, .ref a_t_names, .ref a_t_out, .int t_outs, .ref a_t_has])), (a_t_v, .inl (ca 0, 206, .inl f_t_v)), (a_t_has, .inl (ca 1, 41, .inr (.inl f_t_has_38)))] := hD
          try dsimp only at h
          have hJ49 : ∀ (y1_49 : Int32) (H : Heap) (locs : List Loc) (ls : Array Slot), va_P D vwCl [(a_t, .inr (7, [.ref a_t_v, .ref a_t_past, .ref a_t_costs, .int t_edits, .int 0, .ref a_t_into, .ref a_t_isNeeded, .ref a_t_depths, .ref a_t_names, .ref a_t_out, .int t_outs, .ref a_t_has])), (a_t_v, .inl (ca 0, 206, .inl f_t_v)), (a_t_has, .inl (ca 1, 41, .inr (.inl f_t_has_38)))] H → va_D A [(a_t, .inr (7, [.ref a_t_v, .ref a_t_past, .ref a_t_costs, .int t_edits, .int 0, .ref a_t_into, .ref a_t_isNeeded, .ref a_t_depths, .ref a_t_names, .ref a_t_out, .int t_outs, .ref a_t_has])), (a_t_v, .inl (ca 0, 206, .inl f_t_v)), (a_t_has, .inl (ca 1, 41, .inr (.inl f_t_has_38)))] → va_S A s.heap H locs → lv_has ls 3 [(0, .ref a_t), (2, .int x2_24)] → wX9_wrong_49 x1_24 x2_24 (wX9_wrong_24 f_t_v Q n9_24) f_t_has_38 y1_49 → W p l e (headSpec (Cond.code yX9_wrong cX9_wrong 3 (some .int) :: wsG) ({ frames := 7, cells := 0, slots := 0, locals := 163 } : Room)).room s m ([.ref a_t] : List Value).toArray below meth c H locs 0 0 (MQ below (qX9_wrong D ca a_t a_t_v a_t_past a_t_costs a_t_into a_t_isNeeded a_t_depths a_t_names a_t_out a_t_has t_edits t_outs f_t_v Q A) ([.ref a_t] : List Value).toArray s 0 0 A) (F0 m 49 ls [.int y1_49, .int x1_24]) := by
            intro y1_49 H locs ls hP hD hS hl h
            unfold wX9_wrong_49 at h
            refine lv_iadd hx hb dX9_wrong_49 ?_
            refine lv_topi (fun x1_50 ex1_50 => ?_)
            have h := h x1_50 ex1_50
            refine lv_istore_n (lv' := [(1, .int x1_50), (0, .ref a_t), (2, .int x2_24)]) hx hb dX9_wrong_50 rfl hl (by decide) rfl (fun ls hl => ?_)
            obtain ⟨x2_51, ex2_51⟩ : ∃ y : Int32, y = x2_24 + 1 := ⟨_, rfl⟩
            have h := h x2_51 ex2_51
            refine lv_iinc (v := x2_51) (lv' := [(2, .int x2_51), (1, .int x1_50), (0, .ref a_t)]) hx hb dX9_wrong_51 hl (k := 2) rfl (by rw [ex2_51]; rfl) (by decide) rfl (fun ls hl => ?_)
            refine lv_goto (tgt := 24) hx hb dX9_wrong_54 (by decide) ?_
            exact ih24 x1_50 x2_51 f_t_has_38 _ _ _ hP hD hS (lv_sub hl [2, 1, 0] rfl) h
          refine lv_if_eq (tgt := 48) hx hb dX9_wrong_41 (by decide) (fun c9 => ?_) (fun c9 => ?_)
          · have h := h.1 c9
            refine lv_iconst (v := 1) hx hb dX9_wrong_48 (by decide) ?_
            exact hJ49 1 _ _ _ hP hD hS (lv_sub hl [0, 2] rfl) h
          · have h := h.2 c9
            refine lv_iconst (v := 0) hx hb dX9_wrong_44 (by decide) ?_
            refine lv_goto (tgt := 49) hx hb dX9_wrong_45 (by decide) ?_
            exact hJ49 0 _ _ _ hP hD hS (lv_sub hl [0, 2] rfl) h
    obtain ⟨k9, h⟩ := h
    exact hL24 k9 0 0 f_t_has _ _ _ hP hD hS (lv_sub hl [2, 1, 0] rfl) h
  · have h := h.2 c9
    refine lv_aload_n hx hb dX9_wrong_14 rfl (lv_at hl 0 rfl) ?_
    refine lv_iconst (v := 1) hx hb dX9_wrong_15 (by decide) ?_
    refine cVi (As := [.int 1]) (rest := []) (wc := [(a_t, .inr (7, [.ref a_t_v, .ref a_t_past, .ref a_t_costs, .int t_edits, .int 0, .ref a_t_into, .ref a_t_isNeeded, .ref a_t_depths, .ref a_t_names, .ref a_t_out, .int t_outs, .ref a_t_has]))]) (wr := [(a_t_v, .inl (ca 0, 206, .inl f_t_v)), (a_t_has, .inl (ca 1, 41, .inr (.inl f_t_has)))]) (w1 := fun u : Int32 => [(a_t, .inr (7, [.ref a_t_v, .ref a_t_past, .ref a_t_costs, .int t_edits, .int u, .ref a_t_into, .ref a_t_isNeeded, .ref a_t_depths, .ref a_t_names, .ref a_t_out, .int t_outs, .ref a_t_has]))]) (ws2 := fun u : Int32 => [(a_t, .inr (7, [.ref a_t_v, .ref a_t_past, .ref a_t_costs, .int t_edits, .int u, .ref a_t_into, .ref a_t_isNeeded, .ref a_t_depths, .ref a_t_names, .ref a_t_out, .int t_outs, .ref a_t_has])), (a_t_v, .inl (ca 0, 206, .inl f_t_v)), (a_t_has, .inl (ca 1, 41, .inr (.inl f_t_has)))]) ⟨hx, hb, hml, hown, hts⟩ (mX9_fails l D ca a_t a_t_v a_t_past a_t_costs a_t_into a_t_isNeeded a_t_depths a_t_names a_t_out a_t_has _ t_edits 0 t_outs 1 _ h) (cwV 1 hts (gV q_933 q_935 qs_33 q_8 q_936) rfl rfl rfl (by decide +kernel) ⟨Nat.le_of_ble_eq_true rfl, Nat.le_of_ble_eq_true rfl⟩) hK hP hD hS hA [0] [1, 2] [2, 0, 1] rfl rfl rfl (by decide) (fun _ => rfl) (ci := 7) (q0 := 0) rfl rfl rfl hl.1 rfl (Nat.le_of_ble_eq_true rfl) dX9_wrong_16 ⟨Nat.le_of_ble_eq_true rfl, Nat.le_of_ble_eq_true rfl⟩ (fun r_16 u9 H locs h hP hD hS => ?_)
    obtain ⟨t_thrown_16, rfl⟩ : ∃ z, z = u9 := ⟨_, rfl⟩
    have hP : va_P D vwCl [(a_t, .inr (7, [.ref a_t_v, .ref a_t_past, .ref a_t_costs, .int t_edits, .int t_thrown_16, .ref a_t_into, .ref a_t_isNeeded, .ref a_t_depths, .ref a_t_names, .ref a_t_out, .int t_outs, .ref a_t_has])), (a_t_v, .inl (ca 0, 206, .inl f_t_v)), (a_t_has, .inl (ca 1, 41, .inr (.inl f_t_has)))] H := hP
    have hD : va_D A [(a_t, .inr (7, [.ref a_t_v, .ref a_t_past, .ref a_t_costs, .int t_edits, .int t_thrown_16, .ref a_t_into, .ref a_t_isNeeded, .ref a_t_depths, .ref a_t_names, .ref a_t_out, .int t_outs, .ref a_t_has])), (a_t_v, .inl (ca 0, 206, .inl f_t_v)), (a_t_has, .inl (ca 1, 41, .inr (.inl f_t_has)))] := hD
    try dsimp only at h
    exact W.iret (v := r_16) hx hb hr (fun t ht hW => ⟨⟨r_16, (t_thrown_16, f_t_has), rfl, h, by rw [ht]; exact hP, va_K.moved hW.alike hK, hD⟩, hS.F ht⟩) hS.2.2 dX9_wrong_19

abbrev qX9_reach (D : va_G) (ca : Nat → ClassId) (a_t a_t_v a_t_past a_t_costs a_t_into a_t_isNeeded a_t_depths a_t_names a_t_out a_t_has : Nat) (t_edits : Int32) (t_outs : Int32) (Q : Int32 → Int32 → Prop) (A : Nat → Prop) : Array Value → State → Outcome → State → Prop := va_Qi (fun (r : Int32) (u : Int32) => Q r u) (wEnd D ca (fun u : Int32 => [(a_t, .inr (7, [.ref a_t_v, .ref a_t_past, .ref a_t_costs, .int t_edits, .int u, .ref a_t_into, .ref a_t_isNeeded, .ref a_t_depths, .ref a_t_names, .ref a_t_out, .int t_outs, .ref a_t_has]))]) A) A
def wX9_reach_41 (Q : Int32 → Int32 → Prop) : Prop :=
  wX9_fails 0 1 (fun r_43 t_thrown_43 => Q r_43 t_thrown_43)
def wX9_reach_50 (x1 : Int32) (x2 : Int32) (x3 : Int32) (Q : Int32 → Int32 → Prop) : Nat → Int64 → Prop
  | 0, _ => False
  | n9 + 1, x4_50 =>
  ((1000000 < x4_50 → Q ((-1)) 0) ∧ (¬ 1000000 < x4_50 → wX9_power x2 (fun r_65 => (¬ r_65 = 0 ∧ (¬ x3.toInt64 = 0 ∧ ((((x4_50 * x1.toInt64) / r_65) = (x4_50 / x3.toInt64) → (∀ x4_86 : Int64, x4_86 = x4_50 + 1 → (wX9_reach_50 x1 x2 x3 Q n9) x4_86)) ∧ (¬ ((x4_50 * x1.toInt64) / r_65) = (x4_50 / x3.toInt64) → Q x4_50.toInt32 0)))))))
def wX9_reach (t_thrown : Int32) (x1 : Int32) (x2 : Int32) (x3 : Int32) (Q : Int32 → Int32 → Prop) : Prop :=
  wX9_in x1.toInt64 0 1000000 (fun r_11 => ((r_11 = 0 → wX9_reach_41 Q) ∧ (¬ r_11 = 0 → wX9_in x2.toInt64 0 40 (fun r_23 => ((r_23 = 0 → wX9_reach_41 Q) ∧ (¬ r_23 = 0 → wX9_in x3.toInt64 1 65535 (fun r_35 => ((r_35 = 0 → wX9_reach_41 Q) ∧ (¬ r_35 = 0 → (∃ k9, wX9_reach_50 x1 x2 x3 Q k9 0))))))))))
set_option maxHeartbeats 4000000 in
set_option maxRecDepth 100000 in
theorem mX9_reach (l : Launch) (D : va_G) (ca : Nat → ClassId) (a_t a_t_v a_t_past a_t_costs a_t_into a_t_isNeeded a_t_depths a_t_names a_t_out a_t_has : Nat) (sz : Nat) (t_edits : Int32) (t_thrown : Int32) (t_outs : Int32) (x1 : Int32) (x2 : Int32) (x3 : Int32) (Q : Int32 → Int32 → Prop) (h : wX9_reach t_thrown x1 x2 x3 Q) : Met l yX9_reach (Cond.code yX9_reach cX9_reach 6 (some .int) :: wsG) ({ frames := 1, cells := 0, slots := 0, locals := 25 } : Room) (va_Pc [.ref a_t, .int x1, .int x2, .int x3] (wPre D ca [(a_t, .inr (7, [.ref a_t_v, .ref a_t_past, .ref a_t_costs, .int t_edits, .int t_thrown, .ref a_t_into, .ref a_t_isNeeded, .ref a_t_depths, .ref a_t_names, .ref a_t_out, .int t_outs, .ref a_t_has]))] sz)) (qX9_reach D ca a_t a_t_v a_t_past a_t_costs a_t_into a_t_isNeeded a_t_depths a_t_names a_t_out a_t_has t_edits t_outs Q (va_A [(a_t, .inr (7, [.ref a_t_v, .ref a_t_past, .ref a_t_costs, .int t_edits, .int t_thrown, .ref a_t_into, .ref a_t_isNeeded, .ref a_t_depths, .ref a_t_names, .ref a_t_out, .int t_outs, .ref a_t_has]))] sz)) 0 0 (va_A [(a_t, .inr (7, [.ref a_t_v, .ref a_t_past, .ref a_t_costs, .int t_edits, .int t_thrown, .ref a_t_into, .ref a_t_isNeeded, .ref a_t_depths, .ref a_t_names, .ref a_t_out, .int t_outs, .ref a_t_has]))] sz) := by
  refine Met.ofW (cc := cX9_reach) (maxL := 6) (ret := (some .int)) (by decide) rfl ?_
  intro p e s m args below meth c s₁ B hml hv
  obtain ⟨rfl, hsz, hP, hK, hD0⟩ := hv
  have hx := B.exec
  have hb := B.bytes
  have hr := B.returns
  have hts := atoms_spec (ws := (Cond.code yX9_reach cX9_reach 6 (some .int) :: wsG)) B.pre
  have hq : ∀ w ∈ wsG, w.before _ s = true := fun w hw => hts w (List.mem_cons_of_mem _ hw)
  have hown : s.vm.findClass RX9 = some m.cls := findClass_of_methodNamed B.named
  have hlocks := B.notSynchronized
  subst hsz
  have hD := hD0.self (sz := s.heap.size)
  generalize hAe : va_A [(a_t, .inr (7, [.ref a_t_v, .ref a_t_past, .ref a_t_costs, .int t_edits, .int t_thrown, .ref a_t_into, .ref a_t_isNeeded, .ref a_t_depths, .ref a_t_names, .ref a_t_out, .int t_outs, .ref a_t_has]))] s.heap.size = A at hD ⊢
  have hA : ∀ q : Nat, s.heap.size ≤ q → A q := fun q h => by rw [← hAe]; exact Or.inr h
  have hS : va_S A s.heap s.heap [] := va_S.rf
  have hP : va_P D vwCl [(a_t, .inr (7, [.ref a_t_v, .ref a_t_past, .ref a_t_costs, .int t_edits, .int t_thrown, .ref a_t_into, .ref a_t_isNeeded, .ref a_t_depths, .ref a_t_names, .ref a_t_out, .int t_outs, .ref a_t_has]))] s.heap := hP
  have hl := lv_entry ([.ref a_t, .int x1, .int x2, .int x3]) (n := 6) (Nat.le_of_ble_eq_true rfl)
  rw [lg_entry_eq]
  generalize (lg_sl ([.ref a_t, .int x1, .int x2, .int x3]) ++ List.replicate (6 - (lg_sl ([.ref a_t, .int x1, .int x2, .int x3])).length) Slot.unset).toArray = ls at hl ⊢
  have hl : lv_has ls 6 [(0, .ref a_t), (1, .int x1), (2, .int x2), (3, .int x3)] := hl
  unfold wX9_reach at h
  refine lv_aload_n hx hb dX9_reach_0 rfl (lv_at hl 0 rfl) ?_
  refine lv_iconst (v := 0) hx hb dX9_reach_1 (by decide) ?_
  refine va_put (D := D) (ci := 7) (v := .int 0) (ty := .int) (C := RX9) (T := TX9) (N := 12) hx hb hq inX9g tyX9 tyX9_ok nmX9 hown hK hP hD hS 0 rfl rfl 4 (by decide) (hq _ q_885) (fun _ h9 => h9) rfl (by decide +kernel) rfl rfl (Nat.le_of_ble_eq_true rfl) dX9_reach_2 (fun H locs hP hD hS => ?_)
  have hP : va_P D vwCl [(a_t, .inr (7, [.ref a_t_v, .ref a_t_past, .ref a_t_costs, .int t_edits, .int 0, .ref a_t_into, .ref a_t_isNeeded, .ref a_t_depths, .ref a_t_names, .ref a_t_out, .int t_outs, .ref a_t_has]))] H := hP
  have hD : va_D A [(a_t, .inr (7, [.ref a_t_v, .ref a_t_past, .ref a_t_costs, .int t_edits, .int 0, .ref a_t_into, .ref a_t_isNeeded, .ref a_t_depths, .ref a_t_names, .ref a_t_out, .int t_outs, .ref a_t_has]))] := hD
  refine lv_iload_n hx hb dX9_reach_5 rfl (lv_at hl 1 rfl) ?_
  refine lv_i2l hx hb dX9_reach_6 rfl ?_
  refine lv_lconst (v := 0) hx hb dX9_reach_7 (by decide) ?_
  refine lv_ldc2 (v := 1000000) hx hb hown (hq _ q_1222) dX9_reach_8 ?_
  refine cPi (As := [.long x1.toInt64, .long 0, .long 1000000]) (rest := []) ⟨hx, hb, hml, hown, hts⟩ (mX9_in l x1.toInt64 0 1000000 _ h) (va_cwS 3 hts (gS q_930 q_931 q_8 q_932) rfl rfl rfl (by decide +kernel) ⟨Nat.le_of_ble_eq_true rfl, Nat.le_of_ble_eq_true rfl⟩) hS rfl hl.1 rfl (Nat.le_of_ble_eq_true rfl) dX9_reach_11 ⟨Nat.le_of_ble_eq_true rfl, Nat.le_of_ble_eq_true rfl⟩ (fun r_11 H1 locs h hk1 hS => ?_)
  have hP := s_back hP hk1
  try dsimp only at h
  have hJ41 : ∀ (H : Heap) (locs : List Loc) (ls : Array Slot), va_P D vwCl [(a_t, .inr (7, [.ref a_t_v, .ref a_t_past, .ref a_t_costs, .int t_edits, .int 0, .ref a_t_into, .ref a_t_isNeeded, .ref a_t_depths, .ref a_t_names, .ref a_t_out, .int t_outs, .ref a_t_has]))] H → va_D A [(a_t, .inr (7, [.ref a_t_v, .ref a_t_past, .ref a_t_costs, .int t_edits, .int 0, .ref a_t_into, .ref a_t_isNeeded, .ref a_t_depths, .ref a_t_names, .ref a_t_out, .int t_outs, .ref a_t_has]))] → va_S A s.heap H locs → lv_has ls 6 [(0, .ref a_t)] → wX9_reach_41 Q → W p l e (headSpec (Cond.code yX9_reach cX9_reach 6 (some .int) :: wsG) ({ frames := 1, cells := 0, slots := 0, locals := 25 } : Room)).room s m ([.ref a_t, .int x1, .int x2, .int x3] : List Value).toArray below meth c H locs 0 0 (MQ below (qX9_reach D ca a_t a_t_v a_t_past a_t_costs a_t_into a_t_isNeeded a_t_depths a_t_names a_t_out a_t_has t_edits t_outs Q A) ([.ref a_t, .int x1, .int x2, .int x3] : List Value).toArray s 0 0 A) (F0 m 41 ls []) := by
    intro  H locs ls hP hD hS hl h
    unfold wX9_reach_41 at h
    refine lv_aload_n hx hb dX9_reach_41 rfl (lv_at hl 0 rfl) ?_
    refine lv_iconst (v := 1) hx hb dX9_reach_42 (by decide) ?_
    refine cVi (As := [.int 1]) (rest := []) (wc := [(a_t, .inr (7, [.ref a_t_v, .ref a_t_past, .ref a_t_costs, .int t_edits, .int 0, .ref a_t_into, .ref a_t_isNeeded, .ref a_t_depths, .ref a_t_names, .ref a_t_out, .int t_outs, .ref a_t_has]))]) (wr := []) (w1 := fun u : Int32 => [(a_t, .inr (7, [.ref a_t_v, .ref a_t_past, .ref a_t_costs, .int t_edits, .int u, .ref a_t_into, .ref a_t_isNeeded, .ref a_t_depths, .ref a_t_names, .ref a_t_out, .int t_outs, .ref a_t_has]))]) (ws2 := fun u : Int32 => [(a_t, .inr (7, [.ref a_t_v, .ref a_t_past, .ref a_t_costs, .int t_edits, .int u, .ref a_t_into, .ref a_t_isNeeded, .ref a_t_depths, .ref a_t_names, .ref a_t_out, .int t_outs, .ref a_t_has]))]) ⟨hx, hb, hml, hown, hts⟩ (mX9_fails l D ca a_t a_t_v a_t_past a_t_costs a_t_into a_t_isNeeded a_t_depths a_t_names a_t_out a_t_has _ t_edits 0 t_outs 1 _ h) (cwV 1 hts (gV q_933 q_935 qs_33 q_8 q_936) rfl rfl rfl (by decide +kernel) ⟨Nat.le_of_ble_eq_true rfl, Nat.le_of_ble_eq_true rfl⟩) hK hP hD hS hA [0] [] [0] rfl rfl rfl (by decide) (fun _ => rfl) (ci := 7) (q0 := 0) rfl rfl rfl hl.1 rfl (Nat.le_of_ble_eq_true rfl) dX9_reach_43 ⟨Nat.le_of_ble_eq_true rfl, Nat.le_of_ble_eq_true rfl⟩ (fun r_43 u9 H locs h hP hD hS => ?_)
    obtain ⟨t_thrown_43, rfl⟩ : ∃ z, z = u9 := ⟨_, rfl⟩
    have hP : va_P D vwCl [(a_t, .inr (7, [.ref a_t_v, .ref a_t_past, .ref a_t_costs, .int t_edits, .int t_thrown_43, .ref a_t_into, .ref a_t_isNeeded, .ref a_t_depths, .ref a_t_names, .ref a_t_out, .int t_outs, .ref a_t_has]))] H := hP
    have hD : va_D A [(a_t, .inr (7, [.ref a_t_v, .ref a_t_past, .ref a_t_costs, .int t_edits, .int t_thrown_43, .ref a_t_into, .ref a_t_isNeeded, .ref a_t_depths, .ref a_t_names, .ref a_t_out, .int t_outs, .ref a_t_has]))] := hD
    try dsimp only at h
    exact W.iret (v := r_43) hx hb hr (fun t ht hW => ⟨⟨r_43, t_thrown_43, rfl, h, by rw [ht]; exact hP, va_K.moved hW.alike hK, hD⟩, hS.F ht⟩) hS.2.2 dX9_reach_46
  refine lv_if_eq (tgt := 41) hx hb dX9_reach_14 (by decide) (fun c9 => ?_) (fun c9 => ?_)
  · have h := h.1 c9
    exact hJ41 _ _ _ hP hD hS (lv_sub hl [0] rfl) h
  · have h := h.2 c9
    refine lv_iload_n hx hb dX9_reach_17 rfl (lv_at hl 2 rfl) ?_
    refine lv_i2l hx hb dX9_reach_18 rfl ?_
    refine lv_lconst (v := 0) hx hb dX9_reach_19 (by decide) ?_
    refine lv_ldc2 (v := 40) hx hb hown (hq _ q_1223) dX9_reach_20 ?_
    refine cPi (As := [.long x2.toInt64, .long 0, .long 40]) (rest := []) ⟨hx, hb, hml, hown, hts⟩ (mX9_in l x2.toInt64 0 40 _ h) (va_cwS 3 hts (gS q_930 q_931 q_8 q_932) rfl rfl rfl (by decide +kernel) ⟨Nat.le_of_ble_eq_true rfl, Nat.le_of_ble_eq_true rfl⟩) hS rfl hl.1 rfl (Nat.le_of_ble_eq_true rfl) dX9_reach_23 ⟨Nat.le_of_ble_eq_true rfl, Nat.le_of_ble_eq_true rfl⟩ (fun r_23 H1 locs h hk1 hS => ?_)
    have hP := s_back hP hk1
    try dsimp only at h
    refine lv_if_eq (tgt := 41) hx hb dX9_reach_26 (by decide) (fun c9 => ?_) (fun c9 => ?_)
    · have h := h.1 c9
      exact hJ41 _ _ _ hP hD hS (lv_sub hl [0] rfl) h
    · have h := h.2 c9
      refine lv_iload_n hx hb dX9_reach_29 rfl (lv_at hl 3 rfl) ?_
      refine lv_i2l hx hb dX9_reach_30 rfl ?_
      refine lv_lconst (v := 1) hx hb dX9_reach_31 (by decide) ?_
      refine lv_ldc2 (v := 65535) hx hb hown (hq _ q_1224) dX9_reach_32 ?_
      refine cPi (As := [.long x3.toInt64, .long 1, .long 65535]) (rest := []) ⟨hx, hb, hml, hown, hts⟩ (mX9_in l x3.toInt64 1 65535 _ h) (va_cwS 3 hts (gS q_930 q_931 q_8 q_932) rfl rfl rfl (by decide +kernel) ⟨Nat.le_of_ble_eq_true rfl, Nat.le_of_ble_eq_true rfl⟩) hS rfl hl.1 rfl (Nat.le_of_ble_eq_true rfl) dX9_reach_35 ⟨Nat.le_of_ble_eq_true rfl, Nat.le_of_ble_eq_true rfl⟩ (fun r_35 H1 locs h hk1 hS => ?_)
      have hP := s_back hP hk1
      try dsimp only at h
      refine lv_if_ne (tgt := 47) hx hb dX9_reach_38 (by decide) (fun c9 => ?_) (fun c9 => ?_)
      · have h := h.2 c9
        refine lv_lconst (v := 0) hx hb dX9_reach_47 (by decide) ?_
        refine lv_lstore (lv' := [(4, .long 0), (0, .ref a_t), (1, .int x1), (2, .int x2), (3, .int x3)]) hx hb dX9_reach_48 hl (by decide) rfl (fun ls hl => ?_)
        have hL50 : ∀ (n9_50 : Nat) (x4_50 : Int64) (H : Heap) (locs : List Loc) (ls : Array Slot), va_P D vwCl [(a_t, .inr (7, [.ref a_t_v, .ref a_t_past, .ref a_t_costs, .int t_edits, .int 0, .ref a_t_into, .ref a_t_isNeeded, .ref a_t_depths, .ref a_t_names, .ref a_t_out, .int t_outs, .ref a_t_has]))] H → va_D A [(a_t, .inr (7, [.ref a_t_v, .ref a_t_past, .ref a_t_costs, .int t_edits, .int 0, .ref a_t_into, .ref a_t_isNeeded, .ref a_t_depths, .ref a_t_names, .ref a_t_out, .int t_outs, .ref a_t_has]))] → va_S A s.heap H locs → lv_has ls 6 [(1, .int x1), (2, .int x2), (3, .int x3), (4, .long x4_50)] → wX9_reach_50 x1 x2 x3 Q n9_50 x4_50 → W p l e (headSpec (Cond.code yX9_reach cX9_reach 6 (some .int) :: wsG) ({ frames := 1, cells := 0, slots := 0, locals := 25 } : Room)).room s m ([.ref a_t, .int x1, .int x2, .int x3] : List Value).toArray below meth c H locs 0 0 (MQ below (qX9_reach D ca a_t a_t_v a_t_past a_t_costs a_t_into a_t_isNeeded a_t_depths a_t_names a_t_out a_t_has t_edits t_outs Q A) ([.ref a_t, .int x1, .int x2, .int x3] : List Value).toArray s 0 0 A) (F0 m 50 ls []) := by
          intro n9_50
          induction n9_50 with
          | zero =>
            intro x4_50 H locs ls hP hD hS hl h
            exact False.elim h
          | succ n9_50 ih50 =>
            intro x4_50 H locs ls hP hD hS hl h
            unfold wX9_reach_50 at h
            refine lv_lload hx hb dX9_reach_50 (lv_at hl 3 rfl) ?_
            refine lv_ldc2 (v := 1000000) hx hb hown (hq _ q_1222) dX9_reach_52 ?_
            refine jl_gt (tgt := 91) hx hb dX9_reach_55 dX9_reach_56 (by decide) (fun c9 => ?_) (fun c9 => ?_)
            · have h := h.1 c9
              refine lv_iconst (v := (-1)) hx hb dX9_reach_91 (by decide) ?_
              exact W.iret (v := (-1)) hx hb hr (fun t ht hW => ⟨⟨(-1), 0, rfl, h, by rw [ht]; exact hP, va_K.moved hW.alike hK, hD⟩, hS.F ht⟩) hS.2.2 dX9_reach_92
            · have h := h.2 c9
              refine lv_lload hx hb dX9_reach_59 (lv_at hl 3 rfl) ?_
              refine lv_iload_n hx hb dX9_reach_61 rfl (lv_at hl 0 rfl) ?_
              refine lv_i2l hx hb dX9_reach_62 rfl ?_
              refine lv_lmul hx hb dX9_reach_63 ?_
              refine lv_iload_n hx hb dX9_reach_64 rfl (lv_at hl 1 rfl) ?_
              refine cPl (As := [.int x2]) (rest := [.long (x4_50 * x1.toInt64)]) ⟨hx, hb, hml, hown, hts⟩ (mX9_power l x2 _ h) (va_cwS 1 hts (gS q_959 q_960 q_8 q_961) rfl rfl rfl (by decide +kernel) ⟨Nat.le_of_ble_eq_true rfl, Nat.le_of_ble_eq_true rfl⟩) hS rfl hl.1 rfl (Nat.le_of_ble_eq_true rfl) dX9_reach_65 ⟨Nat.le_of_ble_eq_true rfl, Nat.le_of_ble_eq_true rfl⟩ (fun r_65 H1 locs h hk1 hS => ?_)
              have hP := s_back hP hk1
              try dsimp only at h
              obtain ⟨hne9, h⟩ := h
              refine lv_ldiv hx hb dX9_reach_68 hne9 ?_
              refine lv_lload hx hb dX9_reach_69 (lv_at hl 3 rfl) ?_
              refine lv_iload_n hx hb dX9_reach_71 rfl (lv_at hl 2 rfl) ?_
              refine lv_i2l hx hb dX9_reach_72 rfl ?_
              obtain ⟨hne9, h⟩ := h
              refine lv_ldiv hx hb dX9_reach_73 hne9 ?_
              refine jl_eq (tgt := 82) hx hb dX9_reach_74 dX9_reach_75 (by decide) (fun c9 => ?_) (fun c9 => ?_)
              · have h := h.1 c9
                refine lv_lload hx hb dX9_reach_82 (lv_at hl 3 rfl) ?_
                refine lv_lconst (v := 1) hx hb dX9_reach_84 (by decide) ?_
                refine lv_ladd hx hb dX9_reach_85 ?_
                refine lv_topl (fun x4_86 ex4_86 => ?_)
                have h := h x4_86 ex4_86
                refine lv_lstore (lv' := [(4, .long x4_86), (1, .int x1), (2, .int x2), (3, .int x3)]) hx hb dX9_reach_86 hl (by decide) rfl (fun ls hl => ?_)
                refine lv_goto (tgt := 50) hx hb dX9_reach_88 (by decide) ?_
                exact ih50 x4_86 _ _ _ hP hD hS (lv_sub hl [1, 2, 3, 0] rfl) h
              · have h := h.2 c9
                refine lv_lload hx hb dX9_reach_78 (lv_at hl 3 rfl) ?_
                refine lv_l2i hx hb dX9_reach_80 rfl ?_
                exact W.iret (v := x4_50.toInt32) hx hb hr (fun t ht hW => ⟨⟨x4_50.toInt32, 0, rfl, h, by rw [ht]; exact hP, va_K.moved hW.alike hK, hD⟩, hS.F ht⟩) hS.2.2 dX9_reach_81
        obtain ⟨k9, h⟩ := h
        exact hL50 k9 0 _ _ _ hP hD hS (lv_sub hl [2, 3, 4, 0] rfl) h
      · have h := h.1 c9
        exact hJ41 _ _ _ hP hD hS (lv_sub hl [0] rfl) h

def wX9_logUp_2 (x0 : Int32) (Q : Int32 → Prop) : Nat → Int32 → Prop
  | 0, _ => False
  | n9 + 1, x1_2 =>
  wX9_power x1_2 (fun r_3 => ((x0.toInt64 ≤ r_3 → Q x1_2) ∧ (¬ x0.toInt64 ≤ r_3 → (∀ x1_12 : Int32, x1_12 = x1_2 + 1 → (wX9_logUp_2 x0 Q n9) x1_12))))
def wX9_logUp (x0 : Int32) (Q : Int32 → Prop) : Prop :=
  (∃ k9, wX9_logUp_2 x0 Q k9 0)
set_option maxHeartbeats 4000000 in
set_option maxRecDepth 100000 in
theorem mX9_logUp (l : Launch) (x0 : Int32) (Q : Int32 → Prop) (h : wX9_logUp x0 Q) : Met l yX9_logUp (Cond.code yX9_logUp cX9_logUp 2 (some .int) :: wsG) ({ frames := 1, cells := 0, slots := 0, locals := 20 } : Room) (va_Pc [.int x0] (fun _ => True)) (va_Qi (fun (r : Int32) (_ : Unit) => Q r) (fun _ _ => True) (fun _ => False)) 0 0 (fun _ => False) := by
  refine Met.ofW (cc := cX9_logUp) (maxL := 2) (ret := (some .int)) (by decide) rfl ?_
  intro p e s m args below meth c s₁ B hml hv
  obtain ⟨rfl, -⟩ := hv
  have hx := B.exec
  have hb := B.bytes
  have hr := B.returns
  have hts := atoms_spec (ws := (Cond.code yX9_logUp cX9_logUp 2 (some .int) :: wsG)) B.pre
  have hq : ∀ w ∈ wsG, w.before _ s = true := fun w hw => hts w (List.mem_cons_of_mem _ hw)
  have hown : s.vm.findClass RX9 = some m.cls := findClass_of_methodNamed B.named
  have hlocks := B.notSynchronized
  have hS : va_S (fun _ : Nat => False) s.heap s.heap [] := va_S.rf
  have hl := lv_entry ([.int x0]) (n := 2) (Nat.le_of_ble_eq_true rfl)
  rw [lg_entry_eq]
  generalize (lg_sl ([.int x0]) ++ List.replicate (2 - (lg_sl ([.int x0])).length) Slot.unset).toArray = ls at hl ⊢
  have hl : lv_has ls 2 [(0, .int x0)] := hl
  unfold wX9_logUp at h
  refine lv_iconst (v := 0) hx hb dX9_logUp_0 (by decide) ?_
  refine lv_istore_n (lv' := [(1, .int 0), (0, .int x0)]) hx hb dX9_logUp_1 rfl hl (by decide) rfl (fun ls hl => ?_)
  have hL2 : ∀ (n9_2 : Nat) (x1_2 : Int32) (H : Heap) (locs : List Loc) (ls : Array Slot), va_S (fun _ => False) s.heap H locs → lv_has ls 2 [(0, .int x0), (1, .int x1_2)] → wX9_logUp_2 x0 Q n9_2 x1_2 → W p l e (headSpec (Cond.code yX9_logUp cX9_logUp 2 (some .int) :: wsG) ({ frames := 1, cells := 0, slots := 0, locals := 20 } : Room)).room s m ([.int x0] : List Value).toArray below meth c H locs 0 0 (MQ below (va_Qi (fun (r : Int32) (_ : Unit) => Q r) (fun _ _ => True) (fun _ => False)) ([.int x0] : List Value).toArray s 0 0 (fun _ => False)) (F0 m 2 ls []) := by
    intro n9_2
    induction n9_2 with
    | zero =>
      intro x1_2 H locs ls hS hl h
      exact False.elim h
    | succ n9_2 ih2 =>
      intro x1_2 H locs ls hS hl h
      unfold wX9_logUp_2 at h
      refine lv_iload_n hx hb dX9_logUp_2 rfl (lv_at hl 1 rfl) ?_
      refine cPl (As := [.int x1_2]) (rest := []) ⟨hx, hb, hml, hown, hts⟩ (mX9_power l x1_2 _ h) (va_cwS 1 hts (gS q_959 q_960 q_8 q_961) rfl rfl rfl (by decide +kernel) ⟨Nat.le_of_ble_eq_true rfl, Nat.le_of_ble_eq_true rfl⟩) hS rfl hl.1 rfl (Nat.le_of_ble_eq_true rfl) dX9_logUp_3 ⟨Nat.le_of_ble_eq_true rfl, Nat.le_of_ble_eq_true rfl⟩ (fun r_3 H1 locs h hk1 hS => ?_)
      try dsimp only at h
      refine lv_iload_n hx hb dX9_logUp_6 rfl (lv_at hl 0 rfl) ?_
      refine lv_i2l hx hb dX9_logUp_7 rfl ?_
      refine jl_ge (tgt := 18) hx hb dX9_logUp_8 dX9_logUp_9 (by decide) (fun c9 => ?_) (fun c9 => ?_)
      · have h := h.1 c9
        refine lv_iload_n hx hb dX9_logUp_18 rfl (lv_at hl 1 rfl) ?_
        exact W.iret (v := x1_2) hx hb hr (fun t ht hW => ⟨⟨x1_2, (), rfl, h, trivial⟩, hS.F ht⟩) hS.2.2 dX9_logUp_19
      · have h := h.2 c9
        obtain ⟨x1_12, ex1_12⟩ : ∃ y : Int32, y = x1_2 + 1 := ⟨_, rfl⟩
        have h := h x1_12 ex1_12
        refine lv_iinc (v := x1_12) (lv' := [(1, .int x1_12), (0, .int x0)]) hx hb dX9_logUp_12 hl (k := 1) rfl (by rw [ex1_12]; rfl) (by decide) rfl (fun ls hl => ?_)
        refine lv_goto (tgt := 2) hx hb dX9_logUp_15 (by decide) ?_
        exact ih2 x1_12 _ _ _ hS (lv_sub hl [1, 0] rfl) h
  obtain ⟨k9, h⟩ := h
  exact hL2 k9 0 _ _ _ hS (lv_sub hl [1, 0] rfl) h

def wX9_reciprocal_16 (x0 : Int32) (x1 : Int32) (Q : Int64 → Prop) : Nat → Int64 → Int64 → Int32 → Prop
  | 0, _, _, _ => False
  | n9 + 1, x2_16, x4_16, x6_16 =>
  ((x0 ≤ x6_16 → ((x1.toInt64 < (2 * x4_16) → Q (x2_16 + 1)) ∧ (¬ x1.toInt64 < (2 * x4_16) → (((2 * x4_16) = x1.toInt64 → (((x2_16 - x2_16 / 2 * 2) = 1 → Q (x2_16 + 1)) ∧ (¬ (x2_16 - x2_16 / 2 * 2) = 1 → Q x2_16))) ∧ (¬ (2 * x4_16) = x1.toInt64 → Q x2_16))))) ∧ (¬ x0 ≤ x6_16 → (∀ x4_28 : Int64, x4_28 = x4_16 * 2 → (¬ x1.toInt64 = 0 ∧ (∀ x2_41 : Int64, x2_41 = (2 * x2_16) + (x4_28 / x1.toInt64) → (¬ x1.toInt64 = 0 ∧ (∀ x4_47 : Int64, x4_47 = x4_28 - x4_28 / x1.toInt64 * x1.toInt64 → (∀ x6_49 : Int32, x6_49 = x6_16 + 1 → (wX9_reciprocal_16 x0 x1 Q n9) x2_41 x4_47 x6_49))))))))
def wX9_reciprocal (x0 : Int32) (x1 : Int32) (Q : Int64 → Prop) : Prop :=
  (¬ x1.toInt64 = 0 ∧ (∀ x4_6 : Int64, x4_6 = 1 - 1 / x1.toInt64 * x1.toInt64 → (¬ x1.toInt64 = 0 ∧ (∀ x2_12 : Int64, x2_12 = 1 / x1.toInt64 → (∃ k9, wX9_reciprocal_16 x0 x1 Q k9 x2_12 x4_6 0)))))
set_option maxHeartbeats 4000000 in
set_option maxRecDepth 100000 in
theorem mX9_reciprocal (l : Launch) (x0 : Int32) (x1 : Int32) (Q : Int64 → Prop) (h : wX9_reciprocal x0 x1 Q) : Met l yX9_reciprocal (Cond.code yX9_reciprocal cX9_reciprocal 7 (some .long) :: wsG) ({ frames := 0, cells := 0, slots := 0, locals := 0 } : Room) (va_Pc [.int x0, .int x1] (fun _ => True)) (va_Ql (fun (r : Int64) (_ : Unit) => Q r) (fun _ _ => True) (fun _ => False)) 0 0 (fun _ => False) := by
  refine Met.ofW (cc := cX9_reciprocal) (maxL := 7) (ret := (some .long)) (by decide) rfl ?_
  intro p e s m args below meth c s₁ B hml hv
  obtain ⟨rfl, -⟩ := hv
  have hx := B.exec
  have hb := B.bytes
  have hr := B.returns
  have hts := atoms_spec (ws := (Cond.code yX9_reciprocal cX9_reciprocal 7 (some .long) :: wsG)) B.pre
  have hq : ∀ w ∈ wsG, w.before _ s = true := fun w hw => hts w (List.mem_cons_of_mem _ hw)
  have hown : s.vm.findClass RX9 = some m.cls := findClass_of_methodNamed B.named
  have hlocks := B.notSynchronized
  have hS : va_S (fun _ : Nat => False) s.heap s.heap [] := va_S.rf
  have hl := lv_entry ([.int x0, .int x1]) (n := 7) (Nat.le_of_ble_eq_true rfl)
  rw [lg_entry_eq]
  generalize (lg_sl ([.int x0, .int x1]) ++ List.replicate (7 - (lg_sl ([.int x0, .int x1])).length) Slot.unset).toArray = ls at hl ⊢
  have hl : lv_has ls 7 [(0, .int x0), (1, .int x1)] := hl
  unfold wX9_reciprocal at h
  refine lv_lconst (v := 0) hx hb dX9_reciprocal_0 (by decide) ?_
  refine lv_lstore_n (lv' := [(2, .long 0), (0, .int x0), (1, .int x1)]) hx hb dX9_reciprocal_1 rfl hl (by decide) rfl (fun ls hl => ?_)
  refine lv_lconst (v := 1) hx hb dX9_reciprocal_2 (by decide) ?_
  refine lv_iload_n hx hb dX9_reciprocal_3 rfl (lv_at hl 2 rfl) ?_
  refine lv_i2l hx hb dX9_reciprocal_4 rfl ?_
  obtain ⟨hne9, h⟩ := h
  refine lv_lrem hx hb dX9_reciprocal_5 hne9 ?_
  refine lv_topl (fun x4_6 ex4_6 => ?_)
  have h := h x4_6 ex4_6
  refine lv_lstore (lv' := [(4, .long x4_6), (2, .long 0), (0, .int x0), (1, .int x1)]) hx hb dX9_reciprocal_6 hl (by decide) rfl (fun ls hl => ?_)
  refine lv_lconst (v := 1) hx hb dX9_reciprocal_8 (by decide) ?_
  refine lv_iload_n hx hb dX9_reciprocal_9 rfl (lv_at hl 3 rfl) ?_
  refine lv_i2l hx hb dX9_reciprocal_10 rfl ?_
  obtain ⟨hne9, h⟩ := h
  refine lv_ldiv hx hb dX9_reciprocal_11 hne9 ?_
  refine lv_topl (fun x2_12 ex2_12 => ?_)
  have h := h x2_12 ex2_12
  refine lv_lstore_n (lv' := [(2, .long x2_12), (4, .long x4_6), (0, .int x0), (1, .int x1)]) hx hb dX9_reciprocal_12 rfl hl (by decide) rfl (fun ls hl => ?_)
  refine lv_iconst (v := 0) hx hb dX9_reciprocal_13 (by decide) ?_
  refine lv_istore (lv' := [(6, .int 0), (2, .long x2_12), (4, .long x4_6), (0, .int x0), (1, .int x1)]) hx hb dX9_reciprocal_14 hl (by decide) rfl (fun ls hl => ?_)
  have hL16 : ∀ (n9_16 : Nat) (x2_16 : Int64) (x4_16 : Int64) (x6_16 : Int32) (H : Heap) (locs : List Loc) (ls : Array Slot), va_S (fun _ => False) s.heap H locs → lv_has ls 7 [(0, .int x0), (1, .int x1), (2, .long x2_16), (4, .long x4_16), (6, .int x6_16)] → wX9_reciprocal_16 x0 x1 Q n9_16 x2_16 x4_16 x6_16 → W p l e (headSpec (Cond.code yX9_reciprocal cX9_reciprocal 7 (some .long) :: wsG) ({ frames := 0, cells := 0, slots := 0, locals := 0 } : Room)).room s m ([.int x0, .int x1] : List Value).toArray below meth c H locs 0 0 (MQ below (va_Ql (fun (r : Int64) (_ : Unit) => Q r) (fun _ _ => True) (fun _ => False)) ([.int x0, .int x1] : List Value).toArray s 0 0 (fun _ => False)) (F0 m 16 ls []) := by
    intro n9_16
    induction n9_16 with
    | zero =>
      intro x2_16 x4_16 x6_16 H locs ls hS hl h
      exact False.elim h
    | succ n9_16 ih16 =>
      intro x2_16 x4_16 x6_16 H locs ls hS hl h
      unfold wX9_reciprocal_16 at h
      refine lv_iload hx hb dX9_reciprocal_16 (lv_at hl 4 rfl) ?_
      refine lv_iload_n hx hb dX9_reciprocal_18 rfl (lv_at hl 0 rfl) ?_
      refine lv_icmp_ge (tgt := 55) hx hb dX9_reciprocal_19 (by decide) (fun c9 => ?_) (fun c9 => ?_)
      · have h := h.1 c9
        refine lv_ldc2 (v := 2) hx hb hown (hq _ q_949) dX9_reciprocal_55 ?_
        refine lv_lload hx hb dX9_reciprocal_58 (lv_at hl 3 rfl) ?_
        refine lv_lmul hx hb dX9_reciprocal_60 ?_
        refine lv_iload_n hx hb dX9_reciprocal_61 rfl (lv_at hl 1 rfl) ?_
        refine lv_i2l hx hb dX9_reciprocal_62 rfl ?_
        refine jl_gt (tgt := 89) hx hb dX9_reciprocal_63 dX9_reciprocal_64 (by decide) (fun c9 => ?_) (fun c9 => ?_)
        · have h := h.1 c9
          refine lv_lload_n hx hb dX9_reciprocal_89 rfl (lv_at hl 2 rfl) ?_
          refine lv_lconst (v := 1) hx hb dX9_reciprocal_90 (by decide) ?_
          refine lv_ladd hx hb dX9_reciprocal_91 ?_
          refine lv_goto (tgt := 96) hx hb dX9_reciprocal_92 (by decide) ?_
          exact W.lret (v := x2_16 + 1) hx hb hr (fun t ht hW => ⟨⟨x2_16 + 1, (), rfl, h, trivial⟩, hS.F ht⟩) hS.2.2 dX9_reciprocal_96
        · have h := h.2 c9
          refine lv_ldc2 (v := 2) hx hb hown (hq _ q_949) dX9_reciprocal_67 ?_
          refine lv_lload hx hb dX9_reciprocal_70 (lv_at hl 3 rfl) ?_
          refine lv_lmul hx hb dX9_reciprocal_72 ?_
          refine lv_iload_n hx hb dX9_reciprocal_73 rfl (lv_at hl 1 rfl) ?_
          refine lv_i2l hx hb dX9_reciprocal_74 rfl ?_
          refine jl_ne (tgt := 95) hx hb dX9_reciprocal_75 dX9_reciprocal_76 (by decide) (fun c9 => ?_) (fun c9 => ?_)
          · have h := h.2 c9
            refine lv_lload_n hx hb dX9_reciprocal_95 rfl (lv_at hl 2 rfl) ?_
            exact W.lret (v := x2_16) hx hb hr (fun t ht hW => ⟨⟨x2_16, (), rfl, h, trivial⟩, hS.F ht⟩) hS.2.2 dX9_reciprocal_96
          · have h := h.1 c9
            refine lv_lload_n hx hb dX9_reciprocal_79 rfl (lv_at hl 2 rfl) ?_
            refine lv_ldc2 (v := 2) hx hb hown (hq _ q_949) dX9_reciprocal_80 ?_
            refine lv_lrem hx hb dX9_reciprocal_83 (by decide) ?_
            refine lv_lconst (v := 1) hx hb dX9_reciprocal_84 (by decide) ?_
            refine jl_ne (tgt := 95) hx hb dX9_reciprocal_85 dX9_reciprocal_86 (by decide) (fun c9 => ?_) (fun c9 => ?_)
            · have h := h.2 c9
              refine lv_lload_n hx hb dX9_reciprocal_95 rfl (lv_at hl 2 rfl) ?_
              exact W.lret (v := x2_16) hx hb hr (fun t ht hW => ⟨⟨x2_16, (), rfl, h, trivial⟩, hS.F ht⟩) hS.2.2 dX9_reciprocal_96
            · have h := h.1 c9
              refine lv_lload_n hx hb dX9_reciprocal_89 rfl (lv_at hl 2 rfl) ?_
              refine lv_lconst (v := 1) hx hb dX9_reciprocal_90 (by decide) ?_
              refine lv_ladd hx hb dX9_reciprocal_91 ?_
              refine lv_goto (tgt := 96) hx hb dX9_reciprocal_92 (by decide) ?_
              exact W.lret (v := x2_16 + 1) hx hb hr (fun t ht hW => ⟨⟨x2_16 + 1, (), rfl, h, trivial⟩, hS.F ht⟩) hS.2.2 dX9_reciprocal_96
      · have h := h.2 c9
        refine lv_lload hx hb dX9_reciprocal_22 (lv_at hl 3 rfl) ?_
        refine lv_ldc2 (v := 2) hx hb hown (hq _ q_949) dX9_reciprocal_24 ?_
        refine lv_lmul hx hb dX9_reciprocal_27 ?_
        refine lv_topl (fun x4_28 ex4_28 => ?_)
        have h := h x4_28 ex4_28
        refine lv_lstore (lv' := [(4, .long x4_28), (0, .int x0), (1, .int x1), (2, .long x2_16), (6, .int x6_16)]) hx hb dX9_reciprocal_28 hl (by decide) rfl (fun ls hl => ?_)
        refine lv_ldc2 (v := 2) hx hb hown (hq _ q_949) dX9_reciprocal_30 ?_
        refine lv_lload_n hx hb dX9_reciprocal_33 rfl (lv_at hl 3 rfl) ?_
        refine lv_lmul hx hb dX9_reciprocal_34 ?_
        refine lv_lload hx hb dX9_reciprocal_35 (lv_at hl 0 rfl) ?_
        refine lv_iload_n hx hb dX9_reciprocal_37 rfl (lv_at hl 2 rfl) ?_
        refine lv_i2l hx hb dX9_reciprocal_38 rfl ?_
        obtain ⟨hne9, h⟩ := h
        refine lv_ldiv hx hb dX9_reciprocal_39 hne9 ?_
        refine lv_ladd hx hb dX9_reciprocal_40 ?_
        refine lv_topl (fun x2_41 ex2_41 => ?_)
        have h := h x2_41 ex2_41
        refine lv_lstore_n (lv' := [(2, .long x2_41), (4, .long x4_28), (0, .int x0), (1, .int x1), (6, .int x6_16)]) hx hb dX9_reciprocal_41 rfl hl (by decide) rfl (fun ls hl => ?_)
        refine lv_lload hx hb dX9_reciprocal_42 (lv_at hl 1 rfl) ?_
        refine lv_iload_n hx hb dX9_reciprocal_44 rfl (lv_at hl 3 rfl) ?_
        refine lv_i2l hx hb dX9_reciprocal_45 rfl ?_
        obtain ⟨hne9, h⟩ := h
        refine lv_lrem hx hb dX9_reciprocal_46 hne9 ?_
        refine lv_topl (fun x4_47 ex4_47 => ?_)
        have h := h x4_47 ex4_47
        refine lv_lstore (lv' := [(4, .long x4_47), (2, .long x2_41), (0, .int x0), (1, .int x1), (6, .int x6_16)]) hx hb dX9_reciprocal_47 hl (by decide) rfl (fun ls hl => ?_)
        obtain ⟨x6_49, ex6_49⟩ : ∃ y : Int32, y = x6_16 + 1 := ⟨_, rfl⟩
        have h := h x6_49 ex6_49
        refine lv_iinc (v := x6_49) (lv' := [(6, .int x6_49), (4, .long x4_47), (2, .long x2_41), (0, .int x0), (1, .int x1)]) hx hb dX9_reciprocal_49 hl (k := 4) rfl (by rw [ex6_49]; rfl) (by decide) rfl (fun ls hl => ?_)
        refine lv_goto (tgt := 16) hx hb dX9_reciprocal_52 (by decide) ?_
        exact ih16 x2_41 x4_47 x6_49 _ _ _ hS (lv_sub hl [3, 4, 2, 1, 0] rfl) h
  obtain ⟨k9, h⟩ := h
  exact hL16 k9 x2_12 x4_6 0 _ _ _ hS (lv_sub hl [3, 4, 1, 2, 0] rfl) h

def wX9_roundedFloat_2 (x0 : Int64) (Q : Int64 → Prop) : Nat → Int32 → Prop
  | 0, _ => False
  | n9 + 1, x2_2 =>
  (((x0 >>> (x2_2.toInt64 &&& 63)) < 16777216 → ((x2_2 = 0 → Q x0) ∧ (¬ x2_2 = 0 → (∀ x3_27 : Int64, x3_27 = x0 >>> (x2_2.toInt64 &&& 63) → (∀ x5_33 : Int64, x5_33 = x0 - (x3_27 <<< (x2_2.toInt64 &&& 63)) → wX9_power (x2_2 - 1) (fun r_38 => ((r_38 < x5_33 → Q ((x3_27 + 1) <<< (x2_2.toInt64 &&& 63))) ∧ (¬ r_38 < x5_33 → ((x5_33 = r_38 → (((x3_27 - x3_27 / 2 * 2) = 1 → Q ((x3_27 + 1) <<< (x2_2.toInt64 &&& 63))) ∧ (¬ (x3_27 - x3_27 / 2 * 2) = 1 → Q ((x3_27 + 0) <<< (x2_2.toInt64 &&& 63))))) ∧ (¬ x5_33 = r_38 → Q ((x3_27 + 0) <<< (x2_2.toInt64 &&& 63)))))))))))) ∧ (¬ (x0 >>> (x2_2.toInt64 &&& 63)) < 16777216 → (∀ x2_12 : Int32, x2_12 = x2_2 + 1 → (wX9_roundedFloat_2 x0 Q n9) x2_12)))
def wX9_roundedFloat (x0 : Int64) (Q : Int64 → Prop) : Prop :=
  (∃ k9, wX9_roundedFloat_2 x0 Q k9 0)
set_option maxHeartbeats 4000000 in
set_option maxRecDepth 100000 in
theorem mX9_roundedFloat (l : Launch) (x0 : Int64) (Q : Int64 → Prop) (h : wX9_roundedFloat x0 Q) : Met l yX9_roundedFloat (Cond.code yX9_roundedFloat cX9_roundedFloat 9 (some .long) :: wsG) ({ frames := 1, cells := 0, slots := 0, locals := 20 } : Room) (va_Pc [.long x0] (fun _ => True)) (va_Ql (fun (r : Int64) (_ : Unit) => Q r) (fun _ _ => True) (fun _ => False)) 0 0 (fun _ => False) := by
  refine Met.ofW (cc := cX9_roundedFloat) (maxL := 9) (ret := (some .long)) (by decide) rfl ?_
  intro p e s m args below meth c s₁ B hml hv
  obtain ⟨rfl, -⟩ := hv
  have hx := B.exec
  have hb := B.bytes
  have hr := B.returns
  have hts := atoms_spec (ws := (Cond.code yX9_roundedFloat cX9_roundedFloat 9 (some .long) :: wsG)) B.pre
  have hq : ∀ w ∈ wsG, w.before _ s = true := fun w hw => hts w (List.mem_cons_of_mem _ hw)
  have hown : s.vm.findClass RX9 = some m.cls := findClass_of_methodNamed B.named
  have hlocks := B.notSynchronized
  have hS : va_S (fun _ : Nat => False) s.heap s.heap [] := va_S.rf
  have hl := lv_entry ([.long x0]) (n := 9) (Nat.le_of_ble_eq_true rfl)
  rw [lg_entry_eq]
  generalize (lg_sl ([.long x0]) ++ List.replicate (9 - (lg_sl ([.long x0])).length) Slot.unset).toArray = ls at hl ⊢
  have hl : lv_has ls 9 [(0, .long x0)] := hl
  unfold wX9_roundedFloat at h
  refine lv_iconst (v := 0) hx hb dX9_roundedFloat_0 (by decide) ?_
  refine lv_istore_n (lv' := [(2, .int 0), (0, .long x0)]) hx hb dX9_roundedFloat_1 rfl hl (by decide) rfl (fun ls hl => ?_)
  have hL2 : ∀ (n9_2 : Nat) (x2_2 : Int32) (H : Heap) (locs : List Loc) (ls : Array Slot), va_S (fun _ => False) s.heap H locs → lv_has ls 9 [(0, .long x0), (2, .int x2_2)] → wX9_roundedFloat_2 x0 Q n9_2 x2_2 → W p l e (headSpec (Cond.code yX9_roundedFloat cX9_roundedFloat 9 (some .long) :: wsG) ({ frames := 1, cells := 0, slots := 0, locals := 20 } : Room)).room s m ([.long x0] : List Value).toArray below meth c H locs 0 0 (MQ below (va_Ql (fun (r : Int64) (_ : Unit) => Q r) (fun _ _ => True) (fun _ => False)) ([.long x0] : List Value).toArray s 0 0 (fun _ => False)) (F0 m 2 ls []) := by
    intro n9_2
    induction n9_2 with
    | zero =>
      intro x2_2 H locs ls hS hl h
      exact False.elim h
    | succ n9_2 ih2 =>
      intro x2_2 H locs ls hS hl h
      unfold wX9_roundedFloat_2 at h
      refine lv_lload_n hx hb dX9_roundedFloat_2 rfl (lv_at hl 0 rfl) ?_
      refine lv_iload_n hx hb dX9_roundedFloat_3 rfl (lv_at hl 1 rfl) ?_
      refine lv_lshr hx hb dX9_roundedFloat_4 rfl ?_
      refine lv_ldc2 (v := 16777216) hx hb hown (hq _ q_1250) dX9_roundedFloat_5 ?_
      refine jl_lt (tgt := 18) hx hb dX9_roundedFloat_8 dX9_roundedFloat_9 (by decide) (fun c9 => ?_) (fun c9 => ?_)
      · have h := h.1 c9
        refine lv_iload_n hx hb dX9_roundedFloat_18 rfl (lv_at hl 1 rfl) ?_
        refine lv_if_ne (tgt := 24) hx hb dX9_roundedFloat_19 (by decide) (fun c9 => ?_) (fun c9 => ?_)
        · have h := h.2 c9
          refine lv_lload_n hx hb dX9_roundedFloat_24 rfl (lv_at hl 0 rfl) ?_
          refine lv_iload_n hx hb dX9_roundedFloat_25 rfl (lv_at hl 1 rfl) ?_
          refine lv_lshr hx hb dX9_roundedFloat_26 rfl ?_
          refine lv_topl (fun x3_27 ex3_27 => ?_)
          have h := h x3_27 ex3_27
          refine lv_lstore_n (lv' := [(3, .long x3_27), (0, .long x0), (2, .int x2_2)]) hx hb dX9_roundedFloat_27 rfl hl (by decide) rfl (fun ls hl => ?_)
          refine lv_lload_n hx hb dX9_roundedFloat_28 rfl (lv_at hl 1 rfl) ?_
          refine lv_lload_n hx hb dX9_roundedFloat_29 rfl (lv_at hl 0 rfl) ?_
          refine lv_iload_n hx hb dX9_roundedFloat_30 rfl (lv_at hl 2 rfl) ?_
          refine lv_lshl hx hb dX9_roundedFloat_31 rfl ?_
          refine lv_lsub hx hb dX9_roundedFloat_32 ?_
          refine lv_topl (fun x5_33 ex5_33 => ?_)
          have h := h x5_33 ex5_33
          refine lv_lstore (lv' := [(5, .long x5_33), (3, .long x3_27), (0, .long x0), (2, .int x2_2)]) hx hb dX9_roundedFloat_33 hl (by decide) rfl (fun ls hl => ?_)
          refine lv_iload_n hx hb dX9_roundedFloat_35 rfl (lv_at hl 3 rfl) ?_
          refine lv_iconst (v := 1) hx hb dX9_roundedFloat_36 (by decide) ?_
          refine lv_isub hx hb dX9_roundedFloat_37 ?_
          refine cPl (As := [.int (x2_2 - 1)]) (rest := []) ⟨hx, hb, hml, hown, hts⟩ (mX9_power l (x2_2 - 1) _ h) (va_cwS 1 hts (gS q_959 q_960 q_8 q_961) rfl rfl rfl (by decide +kernel) ⟨Nat.le_of_ble_eq_true rfl, Nat.le_of_ble_eq_true rfl⟩) hS rfl hl.1 rfl (Nat.le_of_ble_eq_true rfl) dX9_roundedFloat_38 ⟨Nat.le_of_ble_eq_true rfl, Nat.le_of_ble_eq_true rfl⟩ (fun r_38 H1 locs h hk1 hS => ?_)
          try dsimp only at h
          refine lv_lstore (lv' := [(7, .long r_38), (5, .long x5_33), (3, .long x3_27), (0, .long x0), (2, .int x2_2)]) hx hb dX9_roundedFloat_41 hl (by decide) rfl (fun ls hl => ?_)
          refine lv_lload_n hx hb dX9_roundedFloat_43 rfl (lv_at hl 2 rfl) ?_
          refine lv_lload hx hb dX9_roundedFloat_44 (lv_at hl 1 rfl) ?_
          refine lv_lload hx hb dX9_roundedFloat_46 (lv_at hl 0 rfl) ?_
          refine jl_gt (tgt := 70) hx hb dX9_roundedFloat_48 dX9_roundedFloat_49 (by decide) (fun c9 => ?_) (fun c9 => ?_)
          · have h := h.1 c9
            refine lv_lconst (v := 1) hx hb dX9_roundedFloat_70 (by decide) ?_
            refine lv_goto (tgt := 75) hx hb dX9_roundedFloat_71 (by decide) ?_
            refine lv_ladd hx hb dX9_roundedFloat_75 ?_
            refine lv_iload_n hx hb dX9_roundedFloat_76 rfl (lv_at hl 4 rfl) ?_
            refine lv_lshl hx hb dX9_roundedFloat_77 rfl ?_
            exact W.lret (v := (x3_27 + 1) <<< (x2_2.toInt64 &&& 63)) hx hb hr (fun t ht hW => ⟨⟨(x3_27 + 1) <<< (x2_2.toInt64 &&& 63), (), rfl, h, trivial⟩, hS.F ht⟩) hS.2.2 dX9_roundedFloat_78
          · have h := h.2 c9
            refine lv_lload hx hb dX9_roundedFloat_52 (lv_at hl 1 rfl) ?_
            refine lv_lload hx hb dX9_roundedFloat_54 (lv_at hl 0 rfl) ?_
            refine jl_ne (tgt := 74) hx hb dX9_roundedFloat_56 dX9_roundedFloat_57 (by decide) (fun c9 => ?_) (fun c9 => ?_)
            · have h := h.2 c9
              refine lv_lconst (v := 0) hx hb dX9_roundedFloat_74 (by decide) ?_
              refine lv_ladd hx hb dX9_roundedFloat_75 ?_
              refine lv_iload_n hx hb dX9_roundedFloat_76 rfl (lv_at hl 4 rfl) ?_
              refine lv_lshl hx hb dX9_roundedFloat_77 rfl ?_
              exact W.lret (v := (x3_27 + 0) <<< (x2_2.toInt64 &&& 63)) hx hb hr (fun t ht hW => ⟨⟨(x3_27 + 0) <<< (x2_2.toInt64 &&& 63), (), rfl, h, trivial⟩, hS.F ht⟩) hS.2.2 dX9_roundedFloat_78
            · have h := h.1 c9
              refine lv_lload_n hx hb dX9_roundedFloat_60 rfl (lv_at hl 2 rfl) ?_
              refine lv_ldc2 (v := 2) hx hb hown (hq _ q_949) dX9_roundedFloat_61 ?_
              refine lv_lrem hx hb dX9_roundedFloat_64 (by decide) ?_
              refine lv_lconst (v := 1) hx hb dX9_roundedFloat_65 (by decide) ?_
              refine jl_ne (tgt := 74) hx hb dX9_roundedFloat_66 dX9_roundedFloat_67 (by decide) (fun c9 => ?_) (fun c9 => ?_)
              · have h := h.2 c9
                refine lv_lconst (v := 0) hx hb dX9_roundedFloat_74 (by decide) ?_
                refine lv_ladd hx hb dX9_roundedFloat_75 ?_
                refine lv_iload_n hx hb dX9_roundedFloat_76 rfl (lv_at hl 4 rfl) ?_
                refine lv_lshl hx hb dX9_roundedFloat_77 rfl ?_
                exact W.lret (v := (x3_27 + 0) <<< (x2_2.toInt64 &&& 63)) hx hb hr (fun t ht hW => ⟨⟨(x3_27 + 0) <<< (x2_2.toInt64 &&& 63), (), rfl, h, trivial⟩, hS.F ht⟩) hS.2.2 dX9_roundedFloat_78
              · have h := h.1 c9
                refine lv_lconst (v := 1) hx hb dX9_roundedFloat_70 (by decide) ?_
                refine lv_goto (tgt := 75) hx hb dX9_roundedFloat_71 (by decide) ?_
                refine lv_ladd hx hb dX9_roundedFloat_75 ?_
                refine lv_iload_n hx hb dX9_roundedFloat_76 rfl (lv_at hl 4 rfl) ?_
                refine lv_lshl hx hb dX9_roundedFloat_77 rfl ?_
                exact W.lret (v := (x3_27 + 1) <<< (x2_2.toInt64 &&& 63)) hx hb hr (fun t ht hW => ⟨⟨(x3_27 + 1) <<< (x2_2.toInt64 &&& 63), (), rfl, h, trivial⟩, hS.F ht⟩) hS.2.2 dX9_roundedFloat_78
        · have h := h.1 c9
          refine lv_lload_n hx hb dX9_roundedFloat_22 rfl (lv_at hl 0 rfl) ?_
          exact W.lret (v := x0) hx hb hr (fun t ht hW => ⟨⟨x0, (), rfl, h, trivial⟩, hS.F ht⟩) hS.2.2 dX9_roundedFloat_23
      · have h := h.2 c9
        obtain ⟨x2_12, ex2_12⟩ : ∃ y : Int32, y = x2_2 + 1 := ⟨_, rfl⟩
        have h := h x2_12 ex2_12
        refine lv_iinc (v := x2_12) (lv' := [(2, .int x2_12), (0, .long x0)]) hx hb dX9_roundedFloat_12 hl (k := 1) rfl (by rw [ex2_12]; rfl) (by decide) rfl (fun ls hl => ?_)
        refine lv_goto (tgt := 2) hx hb dX9_roundedFloat_15 (by decide) ?_
        exact ih2 x2_12 _ _ _ hS (lv_sub hl [1, 0] rfl) h
  obtain ⟨k9, h⟩ := h
  exact hL2 k9 0 _ _ _ hS (lv_sub hl [1, 0] rfl) h

abbrev qX9_floatReciprocal (D : va_G) (ca : Nat → ClassId) (a_t a_t_v a_t_past a_t_costs a_t_into a_t_isNeeded a_t_depths a_t_names a_t_out a_t_has : Nat) (t_edits : Int32) (t_outs : Int32) (Q : Int32 → Int32 → Prop) (A : Nat → Prop) : Array Value → State → Outcome → State → Prop := va_Qi (fun (r : Int32) (u : Int32) => Q r u) (wEnd D ca (fun u : Int32 => [(a_t, .inr (7, [.ref a_t_v, .ref a_t_past, .ref a_t_costs, .int t_edits, .int u, .ref a_t_into, .ref a_t_isNeeded, .ref a_t_depths, .ref a_t_names, .ref a_t_out, .int t_outs, .ref a_t_has]))]) A) A
def wX9_floatReciprocal (t_thrown : Int32) (x1 : Int32) (Q : Int32 → Int32 → Prop) : Prop :=
  wX9_in x1.toInt64 1 65535 (fun r_11 => ((r_11 = 0 → wX9_fails 0 1 (fun r_19 t_thrown_19 => Q r_19 t_thrown_19)) ∧ (¬ r_11 = 0 → wX9_logUp x1 (fun r_26 => wX9_reciprocal (23 + r_26) x1 (fun r_31 => wX9_logUp x1 (fun r_39 => Q (((((127 - r_39.toInt64) <<< ((23 : Int32).toInt64 &&& 63)) + r_31) - 8388608).toInt32) 0))))))
set_option maxHeartbeats 4000000 in
set_option maxRecDepth 100000 in
theorem mX9_floatReciprocal (l : Launch) (D : va_G) (ca : Nat → ClassId) (a_t a_t_v a_t_past a_t_costs a_t_into a_t_isNeeded a_t_depths a_t_names a_t_out a_t_has : Nat) (sz : Nat) (t_edits : Int32) (t_thrown : Int32) (t_outs : Int32) (x1 : Int32) (Q : Int32 → Int32 → Prop) (h : wX9_floatReciprocal t_thrown x1 Q) : Met l yX9_floatReciprocal (Cond.code yX9_floatReciprocal cX9_floatReciprocal 4 (some .int) :: wsG) ({ frames := 2, cells := 0, slots := 0, locals := 41 } : Room) (va_Pc [.ref a_t, .int x1] (wPre D ca [(a_t, .inr (7, [.ref a_t_v, .ref a_t_past, .ref a_t_costs, .int t_edits, .int t_thrown, .ref a_t_into, .ref a_t_isNeeded, .ref a_t_depths, .ref a_t_names, .ref a_t_out, .int t_outs, .ref a_t_has]))] sz)) (qX9_floatReciprocal D ca a_t a_t_v a_t_past a_t_costs a_t_into a_t_isNeeded a_t_depths a_t_names a_t_out a_t_has t_edits t_outs Q (va_A [(a_t, .inr (7, [.ref a_t_v, .ref a_t_past, .ref a_t_costs, .int t_edits, .int t_thrown, .ref a_t_into, .ref a_t_isNeeded, .ref a_t_depths, .ref a_t_names, .ref a_t_out, .int t_outs, .ref a_t_has]))] sz)) 0 0 (va_A [(a_t, .inr (7, [.ref a_t_v, .ref a_t_past, .ref a_t_costs, .int t_edits, .int t_thrown, .ref a_t_into, .ref a_t_isNeeded, .ref a_t_depths, .ref a_t_names, .ref a_t_out, .int t_outs, .ref a_t_has]))] sz) := by
  refine Met.ofW (cc := cX9_floatReciprocal) (maxL := 4) (ret := (some .int)) (by decide) rfl ?_
  intro p e s m args below meth c s₁ B hml hv
  obtain ⟨rfl, hsz, hP, hK, hD0⟩ := hv
  have hx := B.exec
  have hb := B.bytes
  have hr := B.returns
  have hts := atoms_spec (ws := (Cond.code yX9_floatReciprocal cX9_floatReciprocal 4 (some .int) :: wsG)) B.pre
  have hq : ∀ w ∈ wsG, w.before _ s = true := fun w hw => hts w (List.mem_cons_of_mem _ hw)
  have hown : s.vm.findClass RX9 = some m.cls := findClass_of_methodNamed B.named
  have hlocks := B.notSynchronized
  subst hsz
  have hD := hD0.self (sz := s.heap.size)
  generalize hAe : va_A [(a_t, .inr (7, [.ref a_t_v, .ref a_t_past, .ref a_t_costs, .int t_edits, .int t_thrown, .ref a_t_into, .ref a_t_isNeeded, .ref a_t_depths, .ref a_t_names, .ref a_t_out, .int t_outs, .ref a_t_has]))] s.heap.size = A at hD ⊢
  have hA : ∀ q : Nat, s.heap.size ≤ q → A q := fun q h => by rw [← hAe]; exact Or.inr h
  have hS : va_S A s.heap s.heap [] := va_S.rf
  have hP : va_P D vwCl [(a_t, .inr (7, [.ref a_t_v, .ref a_t_past, .ref a_t_costs, .int t_edits, .int t_thrown, .ref a_t_into, .ref a_t_isNeeded, .ref a_t_depths, .ref a_t_names, .ref a_t_out, .int t_outs, .ref a_t_has]))] s.heap := hP
  have hl := lv_entry ([.ref a_t, .int x1]) (n := 4) (Nat.le_of_ble_eq_true rfl)
  rw [lg_entry_eq]
  generalize (lg_sl ([.ref a_t, .int x1]) ++ List.replicate (4 - (lg_sl ([.ref a_t, .int x1])).length) Slot.unset).toArray = ls at hl ⊢
  have hl : lv_has ls 4 [(0, .ref a_t), (1, .int x1)] := hl
  unfold wX9_floatReciprocal at h
  refine lv_aload_n hx hb dX9_floatReciprocal_0 rfl (lv_at hl 0 rfl) ?_
  refine lv_iconst (v := 0) hx hb dX9_floatReciprocal_1 (by decide) ?_
  refine va_put (D := D) (ci := 7) (v := .int 0) (ty := .int) (C := RX9) (T := TX9) (N := 12) hx hb hq inX9g tyX9 tyX9_ok nmX9 hown hK hP hD hS 0 rfl rfl 4 (by decide) (hq _ q_885) (fun _ h9 => h9) rfl (by decide +kernel) rfl rfl (Nat.le_of_ble_eq_true rfl) dX9_floatReciprocal_2 (fun H locs hP hD hS => ?_)
  have hP : va_P D vwCl [(a_t, .inr (7, [.ref a_t_v, .ref a_t_past, .ref a_t_costs, .int t_edits, .int 0, .ref a_t_into, .ref a_t_isNeeded, .ref a_t_depths, .ref a_t_names, .ref a_t_out, .int t_outs, .ref a_t_has]))] H := hP
  have hD : va_D A [(a_t, .inr (7, [.ref a_t_v, .ref a_t_past, .ref a_t_costs, .int t_edits, .int 0, .ref a_t_into, .ref a_t_isNeeded, .ref a_t_depths, .ref a_t_names, .ref a_t_out, .int t_outs, .ref a_t_has]))] := hD
  refine lv_iload_n hx hb dX9_floatReciprocal_5 rfl (lv_at hl 1 rfl) ?_
  refine lv_i2l hx hb dX9_floatReciprocal_6 rfl ?_
  refine lv_lconst (v := 1) hx hb dX9_floatReciprocal_7 (by decide) ?_
  refine lv_ldc2 (v := 65535) hx hb hown (hq _ q_1224) dX9_floatReciprocal_8 ?_
  refine cPi (As := [.long x1.toInt64, .long 1, .long 65535]) (rest := []) ⟨hx, hb, hml, hown, hts⟩ (mX9_in l x1.toInt64 1 65535 _ h) (va_cwS 3 hts (gS q_930 q_931 q_8 q_932) rfl rfl rfl (by decide +kernel) ⟨Nat.le_of_ble_eq_true rfl, Nat.le_of_ble_eq_true rfl⟩) hS rfl hl.1 rfl (Nat.le_of_ble_eq_true rfl) dX9_floatReciprocal_11 ⟨Nat.le_of_ble_eq_true rfl, Nat.le_of_ble_eq_true rfl⟩ (fun r_11 H1 locs h hk1 hS => ?_)
  have hP := s_back hP hk1
  try dsimp only at h
  refine lv_if_ne (tgt := 23) hx hb dX9_floatReciprocal_14 (by decide) (fun c9 => ?_) (fun c9 => ?_)
  · have h := h.2 c9
    refine lv_bipush (v := 23) hx hb dX9_floatReciprocal_23 (by decide) ?_
    refine lv_iload_n hx hb dX9_floatReciprocal_25 rfl (lv_at hl 1 rfl) ?_
    refine cPi (As := [.int x1]) (rest := [.int 23]) ⟨hx, hb, hml, hown, hts⟩ (mX9_logUp l x1 _ h) (va_cwS 1 hts (gS q_1229 q_1230 q_8 q_1231) rfl rfl rfl (by decide +kernel) ⟨Nat.le_of_ble_eq_true rfl, Nat.le_of_ble_eq_true rfl⟩) hS rfl hl.1 rfl (Nat.le_of_ble_eq_true rfl) dX9_floatReciprocal_26 ⟨Nat.le_of_ble_eq_true rfl, Nat.le_of_ble_eq_true rfl⟩ (fun r_26 H1 locs h hk1 hS => ?_)
    have hP := s_back hP hk1
    try dsimp only at h
    refine lv_iadd hx hb dX9_floatReciprocal_29 ?_
    refine lv_iload_n hx hb dX9_floatReciprocal_30 rfl (lv_at hl 1 rfl) ?_
    refine cPl (As := [.int (23 + r_26), .int x1]) (rest := []) ⟨hx, hb, hml, hown, hts⟩ (mX9_reciprocal l (23 + r_26) x1 _ h) (va_cwS 2 hts (gS q_1232 q_1233 q_8 q_1234) rfl rfl rfl (by decide +kernel) ⟨Nat.le_of_ble_eq_true rfl, Nat.le_of_ble_eq_true rfl⟩) hS rfl hl.1 rfl (Nat.le_of_ble_eq_true rfl) dX9_floatReciprocal_31 ⟨Nat.le_of_ble_eq_true rfl, Nat.le_of_ble_eq_true rfl⟩ (fun r_31 H1 locs h hk1 hS => ?_)
    have hP := s_back hP hk1
    try dsimp only at h
    refine lv_lstore_n (lv' := [(2, .long r_31), (0, .ref a_t), (1, .int x1)]) hx hb dX9_floatReciprocal_34 rfl hl (by decide) rfl (fun ls hl => ?_)
    refine lv_ldc2 (v := 127) hx hb hown (hq _ q_1235) dX9_floatReciprocal_35 ?_
    refine lv_iload_n hx hb dX9_floatReciprocal_38 rfl (lv_at hl 2 rfl) ?_
    refine cPi (As := [.int x1]) (rest := [.long 127]) ⟨hx, hb, hml, hown, hts⟩ (mX9_logUp l x1 _ h) (va_cwS 1 hts (gS q_1229 q_1230 q_8 q_1231) rfl rfl rfl (by decide +kernel) ⟨Nat.le_of_ble_eq_true rfl, Nat.le_of_ble_eq_true rfl⟩) hS rfl hl.1 rfl (Nat.le_of_ble_eq_true rfl) dX9_floatReciprocal_39 ⟨Nat.le_of_ble_eq_true rfl, Nat.le_of_ble_eq_true rfl⟩ (fun r_39 H1 locs h hk1 hS => ?_)
    have hP := s_back hP hk1
    try dsimp only at h
    refine lv_i2l hx hb dX9_floatReciprocal_42 rfl ?_
    refine lv_lsub hx hb dX9_floatReciprocal_43 ?_
    refine lv_bipush (v := 23) hx hb dX9_floatReciprocal_44 (by decide) ?_
    refine lv_lshl hx hb dX9_floatReciprocal_46 rfl ?_
    refine lv_lload_n hx hb dX9_floatReciprocal_47 rfl (lv_at hl 0 rfl) ?_
    refine lv_ladd hx hb dX9_floatReciprocal_48 ?_
    refine lv_ldc2 (v := 8388608) hx hb hown (hq _ q_1236) dX9_floatReciprocal_49 ?_
    refine lv_lsub hx hb dX9_floatReciprocal_52 ?_
    refine lv_l2i hx hb dX9_floatReciprocal_53 rfl ?_
    exact W.iret (v := ((((127 - r_39.toInt64) <<< ((23 : Int32).toInt64 &&& 63)) + r_31) - 8388608).toInt32) hx hb hr (fun t ht hW => ⟨⟨((((127 - r_39.toInt64) <<< ((23 : Int32).toInt64 &&& 63)) + r_31) - 8388608).toInt32, 0, rfl, h, by rw [ht]; exact hP, va_K.moved hW.alike hK, hD⟩, hS.F ht⟩) hS.2.2 dX9_floatReciprocal_54
  · have h := h.1 c9
    refine lv_aload_n hx hb dX9_floatReciprocal_17 rfl (lv_at hl 0 rfl) ?_
    refine lv_iconst (v := 1) hx hb dX9_floatReciprocal_18 (by decide) ?_
    refine cVi (As := [.int 1]) (rest := []) (wc := [(a_t, .inr (7, [.ref a_t_v, .ref a_t_past, .ref a_t_costs, .int t_edits, .int 0, .ref a_t_into, .ref a_t_isNeeded, .ref a_t_depths, .ref a_t_names, .ref a_t_out, .int t_outs, .ref a_t_has]))]) (wr := []) (w1 := fun u : Int32 => [(a_t, .inr (7, [.ref a_t_v, .ref a_t_past, .ref a_t_costs, .int t_edits, .int u, .ref a_t_into, .ref a_t_isNeeded, .ref a_t_depths, .ref a_t_names, .ref a_t_out, .int t_outs, .ref a_t_has]))]) (ws2 := fun u : Int32 => [(a_t, .inr (7, [.ref a_t_v, .ref a_t_past, .ref a_t_costs, .int t_edits, .int u, .ref a_t_into, .ref a_t_isNeeded, .ref a_t_depths, .ref a_t_names, .ref a_t_out, .int t_outs, .ref a_t_has]))]) ⟨hx, hb, hml, hown, hts⟩ (mX9_fails l D ca a_t a_t_v a_t_past a_t_costs a_t_into a_t_isNeeded a_t_depths a_t_names a_t_out a_t_has _ t_edits 0 t_outs 1 _ h) (cwV 1 hts (gV q_933 q_935 qs_33 q_8 q_936) rfl rfl rfl (by decide +kernel) ⟨Nat.le_of_ble_eq_true rfl, Nat.le_of_ble_eq_true rfl⟩) hK hP hD hS hA [0] [] [0] rfl rfl rfl (by decide) (fun _ => rfl) (ci := 7) (q0 := 0) rfl rfl rfl hl.1 rfl (Nat.le_of_ble_eq_true rfl) dX9_floatReciprocal_19 ⟨Nat.le_of_ble_eq_true rfl, Nat.le_of_ble_eq_true rfl⟩ (fun r_19 u9 H locs h hP hD hS => ?_)
    obtain ⟨t_thrown_19, rfl⟩ : ∃ z, z = u9 := ⟨_, rfl⟩
    have hP : va_P D vwCl [(a_t, .inr (7, [.ref a_t_v, .ref a_t_past, .ref a_t_costs, .int t_edits, .int t_thrown_19, .ref a_t_into, .ref a_t_isNeeded, .ref a_t_depths, .ref a_t_names, .ref a_t_out, .int t_outs, .ref a_t_has]))] H := hP
    have hD : va_D A [(a_t, .inr (7, [.ref a_t_v, .ref a_t_past, .ref a_t_costs, .int t_edits, .int t_thrown_19, .ref a_t_into, .ref a_t_isNeeded, .ref a_t_depths, .ref a_t_names, .ref a_t_out, .int t_outs, .ref a_t_has]))] := hD
    try dsimp only at h
    exact W.iret (v := r_19) hx hb hr (fun t ht hW => ⟨⟨r_19, t_thrown_19, rfl, h, by rw [ht]; exact hP, va_K.moved hW.alike hK, hD⟩, hS.F ht⟩) hS.2.2 dX9_floatReciprocal_22

abbrev qX9_doubleReciprocal (D : va_G) (ca : Nat → ClassId) (a_t a_t_v a_t_past a_t_costs a_t_into a_t_isNeeded a_t_depths a_t_names a_t_out a_t_has : Nat) (t_edits : Int32) (t_outs : Int32) (Q : Int64 → Int32 → Prop) (A : Nat → Prop) : Array Value → State → Outcome → State → Prop := va_Ql (fun (r : Int64) (u : Int32) => Q r u) (wEnd D ca (fun u : Int32 => [(a_t, .inr (7, [.ref a_t_v, .ref a_t_past, .ref a_t_costs, .int t_edits, .int u, .ref a_t_into, .ref a_t_isNeeded, .ref a_t_depths, .ref a_t_names, .ref a_t_out, .int t_outs, .ref a_t_has]))]) A) A
def wX9_doubleReciprocal (t_thrown : Int32) (x1 : Int32) (Q : Int64 → Int32 → Prop) : Prop :=
  wX9_in x1.toInt64 1 65535 (fun r_11 => ((r_11 = 0 → wX9_fails 0 1 (fun r_19 t_thrown_19 => Q r_19.toInt64 t_thrown_19)) ∧ (¬ r_11 = 0 → wX9_logUp x1 (fun r_27 => wX9_reciprocal (52 + r_27) x1 (fun r_32 => wX9_logUp x1 (fun r_40 => wX9_power 52 (fun r_52 => Q ((((1023 - r_40.toInt64) <<< ((52 : Int32).toInt64 &&& 63)) + r_32) - r_52) 0)))))))
set_option maxHeartbeats 4000000 in
set_option maxRecDepth 100000 in
theorem mX9_doubleReciprocal (l : Launch) (D : va_G) (ca : Nat → ClassId) (a_t a_t_v a_t_past a_t_costs a_t_into a_t_isNeeded a_t_depths a_t_names a_t_out a_t_has : Nat) (sz : Nat) (t_edits : Int32) (t_thrown : Int32) (t_outs : Int32) (x1 : Int32) (Q : Int64 → Int32 → Prop) (h : wX9_doubleReciprocal t_thrown x1 Q) : Met l yX9_doubleReciprocal (Cond.code yX9_doubleReciprocal cX9_doubleReciprocal 4 (some .long) :: wsG) ({ frames := 2, cells := 0, slots := 0, locals := 41 } : Room) (va_Pc [.ref a_t, .int x1] (wPre D ca [(a_t, .inr (7, [.ref a_t_v, .ref a_t_past, .ref a_t_costs, .int t_edits, .int t_thrown, .ref a_t_into, .ref a_t_isNeeded, .ref a_t_depths, .ref a_t_names, .ref a_t_out, .int t_outs, .ref a_t_has]))] sz)) (qX9_doubleReciprocal D ca a_t a_t_v a_t_past a_t_costs a_t_into a_t_isNeeded a_t_depths a_t_names a_t_out a_t_has t_edits t_outs Q (va_A [(a_t, .inr (7, [.ref a_t_v, .ref a_t_past, .ref a_t_costs, .int t_edits, .int t_thrown, .ref a_t_into, .ref a_t_isNeeded, .ref a_t_depths, .ref a_t_names, .ref a_t_out, .int t_outs, .ref a_t_has]))] sz)) 0 0 (va_A [(a_t, .inr (7, [.ref a_t_v, .ref a_t_past, .ref a_t_costs, .int t_edits, .int t_thrown, .ref a_t_into, .ref a_t_isNeeded, .ref a_t_depths, .ref a_t_names, .ref a_t_out, .int t_outs, .ref a_t_has]))] sz) := by
  refine Met.ofW (cc := cX9_doubleReciprocal) (maxL := 4) (ret := (some .long)) (by decide) rfl ?_
  intro p e s m args below meth c s₁ B hml hv
  obtain ⟨rfl, hsz, hP, hK, hD0⟩ := hv
  have hx := B.exec
  have hb := B.bytes
  have hr := B.returns
  have hts := atoms_spec (ws := (Cond.code yX9_doubleReciprocal cX9_doubleReciprocal 4 (some .long) :: wsG)) B.pre
  have hq : ∀ w ∈ wsG, w.before _ s = true := fun w hw => hts w (List.mem_cons_of_mem _ hw)
  have hown : s.vm.findClass RX9 = some m.cls := findClass_of_methodNamed B.named
  have hlocks := B.notSynchronized
  subst hsz
  have hD := hD0.self (sz := s.heap.size)
  generalize hAe : va_A [(a_t, .inr (7, [.ref a_t_v, .ref a_t_past, .ref a_t_costs, .int t_edits, .int t_thrown, .ref a_t_into, .ref a_t_isNeeded, .ref a_t_depths, .ref a_t_names, .ref a_t_out, .int t_outs, .ref a_t_has]))] s.heap.size = A at hD ⊢
  have hA : ∀ q : Nat, s.heap.size ≤ q → A q := fun q h => by rw [← hAe]; exact Or.inr h
  have hS : va_S A s.heap s.heap [] := va_S.rf
  have hP : va_P D vwCl [(a_t, .inr (7, [.ref a_t_v, .ref a_t_past, .ref a_t_costs, .int t_edits, .int t_thrown, .ref a_t_into, .ref a_t_isNeeded, .ref a_t_depths, .ref a_t_names, .ref a_t_out, .int t_outs, .ref a_t_has]))] s.heap := hP
  have hl := lv_entry ([.ref a_t, .int x1]) (n := 4) (Nat.le_of_ble_eq_true rfl)
  rw [lg_entry_eq]
  generalize (lg_sl ([.ref a_t, .int x1]) ++ List.replicate (4 - (lg_sl ([.ref a_t, .int x1])).length) Slot.unset).toArray = ls at hl ⊢
  have hl : lv_has ls 4 [(0, .ref a_t), (1, .int x1)] := hl
  unfold wX9_doubleReciprocal at h
  refine lv_aload_n hx hb dX9_doubleReciprocal_0 rfl (lv_at hl 0 rfl) ?_
  refine lv_iconst (v := 0) hx hb dX9_doubleReciprocal_1 (by decide) ?_
  refine va_put (D := D) (ci := 7) (v := .int 0) (ty := .int) (C := RX9) (T := TX9) (N := 12) hx hb hq inX9g tyX9 tyX9_ok nmX9 hown hK hP hD hS 0 rfl rfl 4 (by decide) (hq _ q_885) (fun _ h9 => h9) rfl (by decide +kernel) rfl rfl (Nat.le_of_ble_eq_true rfl) dX9_doubleReciprocal_2 (fun H locs hP hD hS => ?_)
  have hP : va_P D vwCl [(a_t, .inr (7, [.ref a_t_v, .ref a_t_past, .ref a_t_costs, .int t_edits, .int 0, .ref a_t_into, .ref a_t_isNeeded, .ref a_t_depths, .ref a_t_names, .ref a_t_out, .int t_outs, .ref a_t_has]))] H := hP
  have hD : va_D A [(a_t, .inr (7, [.ref a_t_v, .ref a_t_past, .ref a_t_costs, .int t_edits, .int 0, .ref a_t_into, .ref a_t_isNeeded, .ref a_t_depths, .ref a_t_names, .ref a_t_out, .int t_outs, .ref a_t_has]))] := hD
  refine lv_iload_n hx hb dX9_doubleReciprocal_5 rfl (lv_at hl 1 rfl) ?_
  refine lv_i2l hx hb dX9_doubleReciprocal_6 rfl ?_
  refine lv_lconst (v := 1) hx hb dX9_doubleReciprocal_7 (by decide) ?_
  refine lv_ldc2 (v := 65535) hx hb hown (hq _ q_1224) dX9_doubleReciprocal_8 ?_
  refine cPi (As := [.long x1.toInt64, .long 1, .long 65535]) (rest := []) ⟨hx, hb, hml, hown, hts⟩ (mX9_in l x1.toInt64 1 65535 _ h) (va_cwS 3 hts (gS q_930 q_931 q_8 q_932) rfl rfl rfl (by decide +kernel) ⟨Nat.le_of_ble_eq_true rfl, Nat.le_of_ble_eq_true rfl⟩) hS rfl hl.1 rfl (Nat.le_of_ble_eq_true rfl) dX9_doubleReciprocal_11 ⟨Nat.le_of_ble_eq_true rfl, Nat.le_of_ble_eq_true rfl⟩ (fun r_11 H1 locs h hk1 hS => ?_)
  have hP := s_back hP hk1
  try dsimp only at h
  refine lv_if_ne (tgt := 24) hx hb dX9_doubleReciprocal_14 (by decide) (fun c9 => ?_) (fun c9 => ?_)
  · have h := h.2 c9
    refine lv_bipush (v := 52) hx hb dX9_doubleReciprocal_24 (by decide) ?_
    refine lv_iload_n hx hb dX9_doubleReciprocal_26 rfl (lv_at hl 1 rfl) ?_
    refine cPi (As := [.int x1]) (rest := [.int 52]) ⟨hx, hb, hml, hown, hts⟩ (mX9_logUp l x1 _ h) (va_cwS 1 hts (gS q_1229 q_1230 q_8 q_1231) rfl rfl rfl (by decide +kernel) ⟨Nat.le_of_ble_eq_true rfl, Nat.le_of_ble_eq_true rfl⟩) hS rfl hl.1 rfl (Nat.le_of_ble_eq_true rfl) dX9_doubleReciprocal_27 ⟨Nat.le_of_ble_eq_true rfl, Nat.le_of_ble_eq_true rfl⟩ (fun r_27 H1 locs h hk1 hS => ?_)
    have hP := s_back hP hk1
    try dsimp only at h
    refine lv_iadd hx hb dX9_doubleReciprocal_30 ?_
    refine lv_iload_n hx hb dX9_doubleReciprocal_31 rfl (lv_at hl 1 rfl) ?_
    refine cPl (As := [.int (52 + r_27), .int x1]) (rest := []) ⟨hx, hb, hml, hown, hts⟩ (mX9_reciprocal l (52 + r_27) x1 _ h) (va_cwS 2 hts (gS q_1232 q_1233 q_8 q_1234) rfl rfl rfl (by decide +kernel) ⟨Nat.le_of_ble_eq_true rfl, Nat.le_of_ble_eq_true rfl⟩) hS rfl hl.1 rfl (Nat.le_of_ble_eq_true rfl) dX9_doubleReciprocal_32 ⟨Nat.le_of_ble_eq_true rfl, Nat.le_of_ble_eq_true rfl⟩ (fun r_32 H1 locs h hk1 hS => ?_)
    have hP := s_back hP hk1
    try dsimp only at h
    refine lv_lstore_n (lv' := [(2, .long r_32), (0, .ref a_t), (1, .int x1)]) hx hb dX9_doubleReciprocal_35 rfl hl (by decide) rfl (fun ls hl => ?_)
    refine lv_ldc2 (v := 1023) hx hb hown (hq _ q_1241) dX9_doubleReciprocal_36 ?_
    refine lv_iload_n hx hb dX9_doubleReciprocal_39 rfl (lv_at hl 2 rfl) ?_
    refine cPi (As := [.int x1]) (rest := [.long 1023]) ⟨hx, hb, hml, hown, hts⟩ (mX9_logUp l x1 _ h) (va_cwS 1 hts (gS q_1229 q_1230 q_8 q_1231) rfl rfl rfl (by decide +kernel) ⟨Nat.le_of_ble_eq_true rfl, Nat.le_of_ble_eq_true rfl⟩) hS rfl hl.1 rfl (Nat.le_of_ble_eq_true rfl) dX9_doubleReciprocal_40 ⟨Nat.le_of_ble_eq_true rfl, Nat.le_of_ble_eq_true rfl⟩ (fun r_40 H1 locs h hk1 hS => ?_)
    have hP := s_back hP hk1
    try dsimp only at h
    refine lv_i2l hx hb dX9_doubleReciprocal_43 rfl ?_
    refine lv_lsub hx hb dX9_doubleReciprocal_44 ?_
    refine lv_bipush (v := 52) hx hb dX9_doubleReciprocal_45 (by decide) ?_
    refine lv_lshl hx hb dX9_doubleReciprocal_47 rfl ?_
    refine lv_lload_n hx hb dX9_doubleReciprocal_48 rfl (lv_at hl 0 rfl) ?_
    refine lv_ladd hx hb dX9_doubleReciprocal_49 ?_
    refine lv_bipush (v := 52) hx hb dX9_doubleReciprocal_50 (by decide) ?_
    refine cPl (As := [.int 52]) (rest := [.long (((1023 - r_40.toInt64) <<< ((52 : Int32).toInt64 &&& 63)) + r_32)]) ⟨hx, hb, hml, hown, hts⟩ (mX9_power l 52 _ h) (va_cwS 1 hts (gS q_959 q_960 q_8 q_961) rfl rfl rfl (by decide +kernel) ⟨Nat.le_of_ble_eq_true rfl, Nat.le_of_ble_eq_true rfl⟩) hS rfl hl.1 rfl (Nat.le_of_ble_eq_true rfl) dX9_doubleReciprocal_52 ⟨Nat.le_of_ble_eq_true rfl, Nat.le_of_ble_eq_true rfl⟩ (fun r_52 H1 locs h hk1 hS => ?_)
    have hP := s_back hP hk1
    try dsimp only at h
    refine lv_lsub hx hb dX9_doubleReciprocal_55 ?_
    exact W.lret (v := (((1023 - r_40.toInt64) <<< ((52 : Int32).toInt64 &&& 63)) + r_32) - r_52) hx hb hr (fun t ht hW => ⟨⟨(((1023 - r_40.toInt64) <<< ((52 : Int32).toInt64 &&& 63)) + r_32) - r_52, 0, rfl, h, by rw [ht]; exact hP, va_K.moved hW.alike hK, hD⟩, hS.F ht⟩) hS.2.2 dX9_doubleReciprocal_56
  · have h := h.1 c9
    refine lv_aload_n hx hb dX9_doubleReciprocal_17 rfl (lv_at hl 0 rfl) ?_
    refine lv_iconst (v := 1) hx hb dX9_doubleReciprocal_18 (by decide) ?_
    refine cVi (As := [.int 1]) (rest := []) (wc := [(a_t, .inr (7, [.ref a_t_v, .ref a_t_past, .ref a_t_costs, .int t_edits, .int 0, .ref a_t_into, .ref a_t_isNeeded, .ref a_t_depths, .ref a_t_names, .ref a_t_out, .int t_outs, .ref a_t_has]))]) (wr := []) (w1 := fun u : Int32 => [(a_t, .inr (7, [.ref a_t_v, .ref a_t_past, .ref a_t_costs, .int t_edits, .int u, .ref a_t_into, .ref a_t_isNeeded, .ref a_t_depths, .ref a_t_names, .ref a_t_out, .int t_outs, .ref a_t_has]))]) (ws2 := fun u : Int32 => [(a_t, .inr (7, [.ref a_t_v, .ref a_t_past, .ref a_t_costs, .int t_edits, .int u, .ref a_t_into, .ref a_t_isNeeded, .ref a_t_depths, .ref a_t_names, .ref a_t_out, .int t_outs, .ref a_t_has]))]) ⟨hx, hb, hml, hown, hts⟩ (mX9_fails l D ca a_t a_t_v a_t_past a_t_costs a_t_into a_t_isNeeded a_t_depths a_t_names a_t_out a_t_has _ t_edits 0 t_outs 1 _ h) (cwV 1 hts (gV q_933 q_935 qs_33 q_8 q_936) rfl rfl rfl (by decide +kernel) ⟨Nat.le_of_ble_eq_true rfl, Nat.le_of_ble_eq_true rfl⟩) hK hP hD hS hA [0] [] [0] rfl rfl rfl (by decide) (fun _ => rfl) (ci := 7) (q0 := 0) rfl rfl rfl hl.1 rfl (Nat.le_of_ble_eq_true rfl) dX9_doubleReciprocal_19 ⟨Nat.le_of_ble_eq_true rfl, Nat.le_of_ble_eq_true rfl⟩ (fun r_19 u9 H locs h hP hD hS => ?_)
    obtain ⟨t_thrown_19, rfl⟩ : ∃ z, z = u9 := ⟨_, rfl⟩
    have hP : va_P D vwCl [(a_t, .inr (7, [.ref a_t_v, .ref a_t_past, .ref a_t_costs, .int t_edits, .int t_thrown_19, .ref a_t_into, .ref a_t_isNeeded, .ref a_t_depths, .ref a_t_names, .ref a_t_out, .int t_outs, .ref a_t_has]))] H := hP
    have hD : va_D A [(a_t, .inr (7, [.ref a_t_v, .ref a_t_past, .ref a_t_costs, .int t_edits, .int t_thrown_19, .ref a_t_into, .ref a_t_isNeeded, .ref a_t_depths, .ref a_t_names, .ref a_t_out, .int t_outs, .ref a_t_has]))] := hD
    try dsimp only at h
    refine lv_i2l hx hb dX9_doubleReciprocal_22 rfl ?_
    exact W.lret (v := r_19.toInt64) hx hb hr (fun t ht hW => ⟨⟨r_19.toInt64, t_thrown_19, rfl, h, by rw [ht]; exact hP, va_K.moved hW.alike hK, hD⟩, hS.F ht⟩) hS.2.2 dX9_doubleReciprocal_23

abbrev qX9_firstFloatError (D : va_G) (ca : Nat → ClassId) (a_t a_t_v a_t_past a_t_costs a_t_into a_t_isNeeded a_t_depths a_t_names a_t_out a_t_has : Nat) (t_edits : Int32) (t_outs : Int32) (Q : Int32 → Int32 → Prop) (A : Nat → Prop) : Array Value → State → Outcome → State → Prop := va_Qi (fun (r : Int32) (u : Int32) => Q r u) (wEnd D ca (fun u : Int32 => [(a_t, .inr (7, [.ref a_t_v, .ref a_t_past, .ref a_t_costs, .int t_edits, .int u, .ref a_t_into, .ref a_t_isNeeded, .ref a_t_depths, .ref a_t_names, .ref a_t_out, .int t_outs, .ref a_t_has]))]) A) A
def wX9_firstFloatError_40 (x1 : Int32) (Q : Int32 → Int32 → Prop) (x2_30 : Int32) (r_33 : Int64) : Nat → Int64 → Prop
  | 0, _ => False
  | n9 + 1, x5_40 =>
  ((200000 < x5_40 → Q ((-1)) 0) ∧ (¬ 200000 < x5_40 → wX9_roundedFloat (x5_40 * r_33) (fun r_53 => (¬ x1.toInt64 = 0 ∧ (((r_53 >>> (x2_30.toInt64 &&& 63)) = (x5_40 / x1.toInt64) → (∀ x5_75 : Int64, x5_75 = x5_40 + 1 → (wX9_firstFloatError_40 x1 Q x2_30 r_33 n9) x5_75)) ∧ (¬ (r_53 >>> (x2_30.toInt64 &&& 63)) = (x5_40 / x1.toInt64) → Q x5_40.toInt32 0))))))
def wX9_firstFloatError (t_thrown : Int32) (x1 : Int32) (Q : Int32 → Int32 → Prop) : Prop :=
  wX9_in x1.toInt64 1 65535 (fun r_11 => ((r_11 = 0 → wX9_fails 0 1 (fun r_19 t_thrown_19 => Q r_19 t_thrown_19)) ∧ (¬ r_11 = 0 → wX9_logUp x1 (fun r_26 => (∀ x2_30 : Int32, x2_30 = 23 + r_26 → wX9_reciprocal x2_30 x1 (fun r_33 => (∃ k9, wX9_firstFloatError_40 x1 Q x2_30 r_33 k9 0)))))))
set_option maxHeartbeats 4000000 in
set_option maxRecDepth 100000 in
theorem mX9_firstFloatError (l : Launch) (D : va_G) (ca : Nat → ClassId) (a_t a_t_v a_t_past a_t_costs a_t_into a_t_isNeeded a_t_depths a_t_names a_t_out a_t_has : Nat) (sz : Nat) (t_edits : Int32) (t_thrown : Int32) (t_outs : Int32) (x1 : Int32) (Q : Int32 → Int32 → Prop) (h : wX9_firstFloatError t_thrown x1 Q) : Met l yX9_firstFloatError (Cond.code yX9_firstFloatError cX9_firstFloatError 7 (some .int) :: wsG) ({ frames := 2, cells := 0, slots := 0, locals := 48 } : Room) (va_Pc [.ref a_t, .int x1] (wPre D ca [(a_t, .inr (7, [.ref a_t_v, .ref a_t_past, .ref a_t_costs, .int t_edits, .int t_thrown, .ref a_t_into, .ref a_t_isNeeded, .ref a_t_depths, .ref a_t_names, .ref a_t_out, .int t_outs, .ref a_t_has]))] sz)) (qX9_firstFloatError D ca a_t a_t_v a_t_past a_t_costs a_t_into a_t_isNeeded a_t_depths a_t_names a_t_out a_t_has t_edits t_outs Q (va_A [(a_t, .inr (7, [.ref a_t_v, .ref a_t_past, .ref a_t_costs, .int t_edits, .int t_thrown, .ref a_t_into, .ref a_t_isNeeded, .ref a_t_depths, .ref a_t_names, .ref a_t_out, .int t_outs, .ref a_t_has]))] sz)) 0 0 (va_A [(a_t, .inr (7, [.ref a_t_v, .ref a_t_past, .ref a_t_costs, .int t_edits, .int t_thrown, .ref a_t_into, .ref a_t_isNeeded, .ref a_t_depths, .ref a_t_names, .ref a_t_out, .int t_outs, .ref a_t_has]))] sz) := by
  refine Met.ofW (cc := cX9_firstFloatError) (maxL := 7) (ret := (some .int)) (by decide) rfl ?_
  intro p e s m args below meth c s₁ B hml hv
  obtain ⟨rfl, hsz, hP, hK, hD0⟩ := hv
  have hx := B.exec
  have hb := B.bytes
  have hr := B.returns
  have hts := atoms_spec (ws := (Cond.code yX9_firstFloatError cX9_firstFloatError 7 (some .int) :: wsG)) B.pre
  have hq : ∀ w ∈ wsG, w.before _ s = true := fun w hw => hts w (List.mem_cons_of_mem _ hw)
  have hown : s.vm.findClass RX9 = some m.cls := findClass_of_methodNamed B.named
  have hlocks := B.notSynchronized
  subst hsz
  have hD := hD0.self (sz := s.heap.size)
  generalize hAe : va_A [(a_t, .inr (7, [.ref a_t_v, .ref a_t_past, .ref a_t_costs, .int t_edits, .int t_thrown, .ref a_t_into, .ref a_t_isNeeded, .ref a_t_depths, .ref a_t_names, .ref a_t_out, .int t_outs, .ref a_t_has]))] s.heap.size = A at hD ⊢
  have hA : ∀ q : Nat, s.heap.size ≤ q → A q := fun q h => by rw [← hAe]; exact Or.inr h
  have hS : va_S A s.heap s.heap [] := va_S.rf
  have hP : va_P D vwCl [(a_t, .inr (7, [.ref a_t_v, .ref a_t_past, .ref a_t_costs, .int t_edits, .int t_thrown, .ref a_t_into, .ref a_t_isNeeded, .ref a_t_depths, .ref a_t_names, .ref a_t_out, .int t_outs, .ref a_t_has]))] s.heap := hP
  have hl := lv_entry ([.ref a_t, .int x1]) (n := 7) (Nat.le_of_ble_eq_true rfl)
  rw [lg_entry_eq]
  generalize (lg_sl ([.ref a_t, .int x1]) ++ List.replicate (7 - (lg_sl ([.ref a_t, .int x1])).length) Slot.unset).toArray = ls at hl ⊢
  have hl : lv_has ls 7 [(0, .ref a_t), (1, .int x1)] := hl
  unfold wX9_firstFloatError at h
  refine lv_aload_n hx hb dX9_firstFloatError_0 rfl (lv_at hl 0 rfl) ?_
  refine lv_iconst (v := 0) hx hb dX9_firstFloatError_1 (by decide) ?_
  refine va_put (D := D) (ci := 7) (v := .int 0) (ty := .int) (C := RX9) (T := TX9) (N := 12) hx hb hq inX9g tyX9 tyX9_ok nmX9 hown hK hP hD hS 0 rfl rfl 4 (by decide) (hq _ q_885) (fun _ h9 => h9) rfl (by decide +kernel) rfl rfl (Nat.le_of_ble_eq_true rfl) dX9_firstFloatError_2 (fun H locs hP hD hS => ?_)
  have hP : va_P D vwCl [(a_t, .inr (7, [.ref a_t_v, .ref a_t_past, .ref a_t_costs, .int t_edits, .int 0, .ref a_t_into, .ref a_t_isNeeded, .ref a_t_depths, .ref a_t_names, .ref a_t_out, .int t_outs, .ref a_t_has]))] H := hP
  have hD : va_D A [(a_t, .inr (7, [.ref a_t_v, .ref a_t_past, .ref a_t_costs, .int t_edits, .int 0, .ref a_t_into, .ref a_t_isNeeded, .ref a_t_depths, .ref a_t_names, .ref a_t_out, .int t_outs, .ref a_t_has]))] := hD
  refine lv_iload_n hx hb dX9_firstFloatError_5 rfl (lv_at hl 1 rfl) ?_
  refine lv_i2l hx hb dX9_firstFloatError_6 rfl ?_
  refine lv_lconst (v := 1) hx hb dX9_firstFloatError_7 (by decide) ?_
  refine lv_ldc2 (v := 65535) hx hb hown (hq _ q_1224) dX9_firstFloatError_8 ?_
  refine cPi (As := [.long x1.toInt64, .long 1, .long 65535]) (rest := []) ⟨hx, hb, hml, hown, hts⟩ (mX9_in l x1.toInt64 1 65535 _ h) (va_cwS 3 hts (gS q_930 q_931 q_8 q_932) rfl rfl rfl (by decide +kernel) ⟨Nat.le_of_ble_eq_true rfl, Nat.le_of_ble_eq_true rfl⟩) hS rfl hl.1 rfl (Nat.le_of_ble_eq_true rfl) dX9_firstFloatError_11 ⟨Nat.le_of_ble_eq_true rfl, Nat.le_of_ble_eq_true rfl⟩ (fun r_11 H1 locs h hk1 hS => ?_)
  have hP := s_back hP hk1
  try dsimp only at h
  refine lv_if_ne (tgt := 23) hx hb dX9_firstFloatError_14 (by decide) (fun c9 => ?_) (fun c9 => ?_)
  · have h := h.2 c9
    refine lv_bipush (v := 23) hx hb dX9_firstFloatError_23 (by decide) ?_
    refine lv_iload_n hx hb dX9_firstFloatError_25 rfl (lv_at hl 1 rfl) ?_
    refine cPi (As := [.int x1]) (rest := [.int 23]) ⟨hx, hb, hml, hown, hts⟩ (mX9_logUp l x1 _ h) (va_cwS 1 hts (gS q_1229 q_1230 q_8 q_1231) rfl rfl rfl (by decide +kernel) ⟨Nat.le_of_ble_eq_true rfl, Nat.le_of_ble_eq_true rfl⟩) hS rfl hl.1 rfl (Nat.le_of_ble_eq_true rfl) dX9_firstFloatError_26 ⟨Nat.le_of_ble_eq_true rfl, Nat.le_of_ble_eq_true rfl⟩ (fun r_26 H1 locs h hk1 hS => ?_)
    have hP := s_back hP hk1
    try dsimp only at h
    refine lv_iadd hx hb dX9_firstFloatError_29 ?_
    refine lv_topi (fun x2_30 ex2_30 => ?_)
    have h := h x2_30 ex2_30
    refine lv_istore_n (lv' := [(2, .int x2_30), (0, .ref a_t), (1, .int x1)]) hx hb dX9_firstFloatError_30 rfl hl (by decide) rfl (fun ls hl => ?_)
    refine lv_iload_n hx hb dX9_firstFloatError_31 rfl (lv_at hl 0 rfl) ?_
    refine lv_iload_n hx hb dX9_firstFloatError_32 rfl (lv_at hl 2 rfl) ?_
    refine cPl (As := [.int x2_30, .int x1]) (rest := []) ⟨hx, hb, hml, hown, hts⟩ (mX9_reciprocal l x2_30 x1 _ h) (va_cwS 2 hts (gS q_1232 q_1233 q_8 q_1234) rfl rfl rfl (by decide +kernel) ⟨Nat.le_of_ble_eq_true rfl, Nat.le_of_ble_eq_true rfl⟩) hS rfl hl.1 rfl (Nat.le_of_ble_eq_true rfl) dX9_firstFloatError_33 ⟨Nat.le_of_ble_eq_true rfl, Nat.le_of_ble_eq_true rfl⟩ (fun r_33 H1 locs h hk1 hS => ?_)
    have hP := s_back hP hk1
    try dsimp only at h
    refine lv_lstore_n (lv' := [(3, .long r_33), (2, .int x2_30), (0, .ref a_t), (1, .int x1)]) hx hb dX9_firstFloatError_36 rfl hl (by decide) rfl (fun ls hl => ?_)
    refine lv_lconst (v := 0) hx hb dX9_firstFloatError_37 (by decide) ?_
    refine lv_lstore (lv' := [(5, .long 0), (3, .long r_33), (2, .int x2_30), (0, .ref a_t), (1, .int x1)]) hx hb dX9_firstFloatError_38 hl (by decide) rfl (fun ls hl => ?_)
    have hL40 : ∀ (n9_40 : Nat) (x5_40 : Int64) (H : Heap) (locs : List Loc) (ls : Array Slot), va_P D vwCl [(a_t, .inr (7, [.ref a_t_v, .ref a_t_past, .ref a_t_costs, .int t_edits, .int 0, .ref a_t_into, .ref a_t_isNeeded, .ref a_t_depths, .ref a_t_names, .ref a_t_out, .int t_outs, .ref a_t_has]))] H → va_D A [(a_t, .inr (7, [.ref a_t_v, .ref a_t_past, .ref a_t_costs, .int t_edits, .int 0, .ref a_t_into, .ref a_t_isNeeded, .ref a_t_depths, .ref a_t_names, .ref a_t_out, .int t_outs, .ref a_t_has]))] → va_S A s.heap H locs → lv_has ls 7 [(1, .int x1), (2, .int x2_30), (3, .long r_33), (5, .long x5_40)] → wX9_firstFloatError_40 x1 Q x2_30 r_33 n9_40 x5_40 → W p l e (headSpec (Cond.code yX9_firstFloatError cX9_firstFloatError 7 (some .int) :: wsG) ({ frames := 2, cells := 0, slots := 0, locals := 48 } : Room)).room s m ([.ref a_t, .int x1] : List Value).toArray below meth c H locs 0 0 (MQ below (qX9_firstFloatError D ca a_t a_t_v a_t_past a_t_costs a_t_into a_t_isNeeded a_t_depths a_t_names a_t_out a_t_has t_edits t_outs Q A) ([.ref a_t, .int x1] : List Value).toArray s 0 0 A) (F0 m 40 ls []) := by
      intro n9_40
      induction n9_40 with
      | zero =>
        intro x5_40 H locs ls hP hD hS hl h
        exact False.elim h
      | succ n9_40 ih40 =>
        intro x5_40 H locs ls hP hD hS hl h
        unfold wX9_firstFloatError_40 at h
        refine lv_lload hx hb dX9_firstFloatError_40 (lv_at hl 3 rfl) ?_
        refine lv_ldc2 (v := 200000) hx hb hown (hq _ q_1246) dX9_firstFloatError_42 ?_
        refine jl_gt (tgt := 80) hx hb dX9_firstFloatError_45 dX9_firstFloatError_46 (by decide) (fun c9 => ?_) (fun c9 => ?_)
        · have h := h.1 c9
          refine lv_iconst (v := (-1)) hx hb dX9_firstFloatError_80 (by decide) ?_
          exact W.iret (v := (-1)) hx hb hr (fun t ht hW => ⟨⟨(-1), 0, rfl, h, by rw [ht]; exact hP, va_K.moved hW.alike hK, hD⟩, hS.F ht⟩) hS.2.2 dX9_firstFloatError_81
        · have h := h.2 c9
          refine lv_lload hx hb dX9_firstFloatError_49 (lv_at hl 3 rfl) ?_
          refine lv_lload_n hx hb dX9_firstFloatError_51 rfl (lv_at hl 2 rfl) ?_
          refine lv_lmul hx hb dX9_firstFloatError_52 ?_
          refine cPl (As := [.long (x5_40 * r_33)]) (rest := []) ⟨hx, hb, hml, hown, hts⟩ (mX9_roundedFloat l (x5_40 * r_33) _ h) (va_cwS 1 hts (gS q_1247 q_1248 q_8 q_1249) rfl rfl rfl (by decide +kernel) ⟨Nat.le_of_ble_eq_true rfl, Nat.le_of_ble_eq_true rfl⟩) hS rfl hl.1 rfl (Nat.le_of_ble_eq_true rfl) dX9_firstFloatError_53 ⟨Nat.le_of_ble_eq_true rfl, Nat.le_of_ble_eq_true rfl⟩ (fun r_53 H1 locs h hk1 hS => ?_)
          have hP := s_back hP hk1
          try dsimp only at h
          refine lv_iload_n hx hb dX9_firstFloatError_56 rfl (lv_at hl 1 rfl) ?_
          refine lv_lshr hx hb dX9_firstFloatError_57 rfl ?_
          refine lv_lload hx hb dX9_firstFloatError_58 (lv_at hl 3 rfl) ?_
          refine lv_iload_n hx hb dX9_firstFloatError_60 rfl (lv_at hl 0 rfl) ?_
          refine lv_i2l hx hb dX9_firstFloatError_61 rfl ?_
          obtain ⟨hne9, h⟩ := h
          refine lv_ldiv hx hb dX9_firstFloatError_62 hne9 ?_
          refine jl_eq (tgt := 71) hx hb dX9_firstFloatError_63 dX9_firstFloatError_64 (by decide) (fun c9 => ?_) (fun c9 => ?_)
          · have h := h.1 c9
            refine lv_lload hx hb dX9_firstFloatError_71 (lv_at hl 3 rfl) ?_
            refine lv_lconst (v := 1) hx hb dX9_firstFloatError_73 (by decide) ?_
            refine lv_ladd hx hb dX9_firstFloatError_74 ?_
            refine lv_topl (fun x5_75 ex5_75 => ?_)
            have h := h x5_75 ex5_75
            refine lv_lstore (lv' := [(5, .long x5_75), (1, .int x1), (2, .int x2_30), (3, .long r_33)]) hx hb dX9_firstFloatError_75 hl (by decide) rfl (fun ls hl => ?_)
            refine lv_goto (tgt := 40) hx hb dX9_firstFloatError_77 (by decide) ?_
            exact ih40 x5_75 _ _ _ hP hD hS (lv_sub hl [1, 2, 3, 0] rfl) h
          · have h := h.2 c9
            refine lv_lload hx hb dX9_firstFloatError_67 (lv_at hl 3 rfl) ?_
            refine lv_l2i hx hb dX9_firstFloatError_69 rfl ?_
            exact W.iret (v := x5_40.toInt32) hx hb hr (fun t ht hW => ⟨⟨x5_40.toInt32, 0, rfl, h, by rw [ht]; exact hP, va_K.moved hW.alike hK, hD⟩, hS.F ht⟩) hS.2.2 dX9_firstFloatError_70
    obtain ⟨k9, h⟩ := h
    exact hL40 k9 0 _ _ _ hP hD hS (lv_sub hl [4, 2, 1, 0] rfl) h
  · have h := h.1 c9
    refine lv_aload_n hx hb dX9_firstFloatError_17 rfl (lv_at hl 0 rfl) ?_
    refine lv_iconst (v := 1) hx hb dX9_firstFloatError_18 (by decide) ?_
    refine cVi (As := [.int 1]) (rest := []) (wc := [(a_t, .inr (7, [.ref a_t_v, .ref a_t_past, .ref a_t_costs, .int t_edits, .int 0, .ref a_t_into, .ref a_t_isNeeded, .ref a_t_depths, .ref a_t_names, .ref a_t_out, .int t_outs, .ref a_t_has]))]) (wr := []) (w1 := fun u : Int32 => [(a_t, .inr (7, [.ref a_t_v, .ref a_t_past, .ref a_t_costs, .int t_edits, .int u, .ref a_t_into, .ref a_t_isNeeded, .ref a_t_depths, .ref a_t_names, .ref a_t_out, .int t_outs, .ref a_t_has]))]) (ws2 := fun u : Int32 => [(a_t, .inr (7, [.ref a_t_v, .ref a_t_past, .ref a_t_costs, .int t_edits, .int u, .ref a_t_into, .ref a_t_isNeeded, .ref a_t_depths, .ref a_t_names, .ref a_t_out, .int t_outs, .ref a_t_has]))]) ⟨hx, hb, hml, hown, hts⟩ (mX9_fails l D ca a_t a_t_v a_t_past a_t_costs a_t_into a_t_isNeeded a_t_depths a_t_names a_t_out a_t_has _ t_edits 0 t_outs 1 _ h) (cwV 1 hts (gV q_933 q_935 qs_33 q_8 q_936) rfl rfl rfl (by decide +kernel) ⟨Nat.le_of_ble_eq_true rfl, Nat.le_of_ble_eq_true rfl⟩) hK hP hD hS hA [0] [] [0] rfl rfl rfl (by decide) (fun _ => rfl) (ci := 7) (q0 := 0) rfl rfl rfl hl.1 rfl (Nat.le_of_ble_eq_true rfl) dX9_firstFloatError_19 ⟨Nat.le_of_ble_eq_true rfl, Nat.le_of_ble_eq_true rfl⟩ (fun r_19 u9 H locs h hP hD hS => ?_)
    obtain ⟨t_thrown_19, rfl⟩ : ∃ z, z = u9 := ⟨_, rfl⟩
    have hP : va_P D vwCl [(a_t, .inr (7, [.ref a_t_v, .ref a_t_past, .ref a_t_costs, .int t_edits, .int t_thrown_19, .ref a_t_into, .ref a_t_isNeeded, .ref a_t_depths, .ref a_t_names, .ref a_t_out, .int t_outs, .ref a_t_has]))] H := hP
    have hD : va_D A [(a_t, .inr (7, [.ref a_t_v, .ref a_t_past, .ref a_t_costs, .int t_edits, .int t_thrown_19, .ref a_t_into, .ref a_t_isNeeded, .ref a_t_depths, .ref a_t_names, .ref a_t_out, .int t_outs, .ref a_t_has]))] := hD
    try dsimp only at h
    exact W.iret (v := r_19) hx hb hr (fun t ht hW => ⟨⟨r_19, t_thrown_19, rfl, h, by rw [ht]; exact hP, va_K.moved hW.alike hK, hD⟩, hS.F ht⟩) hS.2.2 dX9_firstFloatError_22

def wX9_doubleQuotient_143 (x4 : Int32) (Q : Int64 → Prop) (x5_17 : Int64) (x7_30 : Int64) (x10_68 : Int64) (y1_143 : Int64) : Prop :=
  (∀ x7_147 : Int64, x7_147 = x7_30 + (y1_143 - x10_68) → (∀ x5_157 : Int64, x5_157 = x5_17 + (x7_147 >>> ((26 : Int32).toInt64 &&& 63)) → Q (x5_157 >>> ((x4 - 26).toInt64 &&& 63))))
def wX9_doubleQuotient_125 (x4 : Int32) (Q : Int64 → Prop) (x5_17 : Int64) (x7_30 : Int64) (x9_35 : Int32) (x10_68 : Int64) (y0_125 : Int32) : Prop :=
  ((y0_125 = 0 → wX9_doubleQuotient_143 x4 Q x5_17 x7_30 x10_68 0) ∧ (¬ y0_125 = 0 → wX9_power x9_35 (fun r_136 => wX9_doubleQuotient_143 x4 Q x5_17 x7_30 x10_68 r_136)))
def wX9_doubleQuotient_120 (x4 : Int32) (Q : Int64 → Prop) (x5_17 : Int64) (x7_30 : Int64) (x9_35 : Int32) (x10_68 : Int64) : Prop :=
  wX9_doubleQuotient_125 x4 Q x5_17 x7_30 x9_35 x10_68 1
def wX9_doubleQuotient_124 (x4 : Int32) (Q : Int64 → Prop) (x5_17 : Int64) (x7_30 : Int64) (x9_35 : Int32) (x10_68 : Int64) : Prop :=
  wX9_doubleQuotient_125 x4 Q x5_17 x7_30 x9_35 x10_68 0
def wX9_doubleQuotient_87 (x4 : Int32) (Q : Int64 → Prop) (x5_17 : Int64) (x7_30 : Int64) (x9_35 : Int32) (x10_68 : Int64) (y0_87 : Int32) : Prop :=
  wX9_power (x9_35 - 1) (fun r_95 => ((r_95 < x10_68 → wX9_doubleQuotient_120 x4 Q x5_17 x7_30 x9_35 x10_68) ∧ (¬ r_95 < x10_68 → wX9_power (x9_35 - 1) (fun r_108 => ((x10_68 = r_108 → ((y0_87 = 0 → wX9_doubleQuotient_124 x4 Q x5_17 x7_30 x9_35 x10_68) ∧ (¬ y0_87 = 0 → wX9_doubleQuotient_120 x4 Q x5_17 x7_30 x9_35 x10_68))) ∧ (¬ x10_68 = r_108 → wX9_doubleQuotient_124 x4 Q x5_17 x7_30 x9_35 x10_68))))))
def wX9_doubleQuotient_35 (x4 : Int32) (Q : Int64 → Prop) (x5_17 : Int64) (x7_30 : Int64) : Nat → Int32 → Prop
  | 0, _ => False
  | n9 + 1, x9_35 =>
  (((x5_17 >>> (x9_35.toInt64 &&& 63)) < 134217728 → ((x9_35 ≤ 0 → Q (x5_17 >>> ((x4 - 26).toInt64 &&& 63))) ∧ (¬ x9_35 ≤ 0 → wX9_power x9_35 (fun r_62 => (∀ x10_68 : Int64, x10_68 = x7_30 &&& (r_62 - 1) → ((((x7_30 >>> (x9_35.toInt64 &&& 63)) &&& 1) = 1 → wX9_doubleQuotient_87 x4 Q x5_17 x7_30 x9_35 x10_68 1) ∧ (¬ ((x7_30 >>> (x9_35.toInt64 &&& 63)) &&& 1) = 1 → wX9_doubleQuotient_87 x4 Q x5_17 x7_30 x9_35 x10_68 0))))))) ∧ (¬ (x5_17 >>> (x9_35.toInt64 &&& 63)) < 134217728 → (∀ x9_47 : Int32, x9_47 = x9_35 + 1 → (wX9_doubleQuotient_35 x4 Q x5_17 x7_30 n9) x9_47)))
def wX9_doubleQuotient (x0 : Int64) (x2 : Int64) (x4 : Int32) (Q : Int64 → Prop) : Prop :=
  (∀ x5_17 : Int64, x5_17 = (x0 * (x2 >>> ((26 : Int32).toInt64 &&& 63))) + ((x0 * (x2 &&& 67108863)) >>> ((26 : Int32).toInt64 &&& 63)) → (∀ x7_30 : Int64, x7_30 = (x0 * (x2 &&& 67108863)) &&& 67108863 → (∃ k9, wX9_doubleQuotient_35 x4 Q x5_17 x7_30 k9 0)))
set_option maxHeartbeats 4000000 in
set_option maxRecDepth 100000 in
theorem mX9_doubleQuotient (l : Launch) (x0 : Int64) (x2 : Int64) (x4 : Int32) (Q : Int64 → Prop) (h : wX9_doubleQuotient x0 x2 x4 Q) : Met l yX9_doubleQuotient (Cond.code yX9_doubleQuotient cX9_doubleQuotient 14 (some .long) :: wsG) ({ frames := 1, cells := 0, slots := 0, locals := 20 } : Room) (va_Pc [.long x0, .long x2, .int x4] (fun _ => True)) (va_Ql (fun (r : Int64) (_ : Unit) => Q r) (fun _ _ => True) (fun _ => False)) 0 0 (fun _ => False) := by
  refine Met.ofW (cc := cX9_doubleQuotient) (maxL := 14) (ret := (some .long)) (by decide) rfl ?_
  intro p e s m args below meth c s₁ B hml hv
  obtain ⟨rfl, -⟩ := hv
  have hx := B.exec
  have hb := B.bytes
  have hr := B.returns
  have hts := atoms_spec (ws := (Cond.code yX9_doubleQuotient cX9_doubleQuotient 14 (some .long) :: wsG)) B.pre
  have hq : ∀ w ∈ wsG, w.before _ s = true := fun w hw => hts w (List.mem_cons_of_mem _ hw)
  have hown : s.vm.findClass RX9 = some m.cls := findClass_of_methodNamed B.named
  have hlocks := B.notSynchronized
  have hS : va_S (fun _ : Nat => False) s.heap s.heap [] := va_S.rf
  have hl := lv_entry ([.long x0, .long x2, .int x4]) (n := 14) (Nat.le_of_ble_eq_true rfl)
  rw [lg_entry_eq]
  generalize (lg_sl ([.long x0, .long x2, .int x4]) ++ List.replicate (14 - (lg_sl ([.long x0, .long x2, .int x4])).length) Slot.unset).toArray = ls at hl ⊢
  have hl : lv_has ls 14 [(0, .long x0), (2, .long x2), (4, .int x4)] := hl
  unfold wX9_doubleQuotient at h
  refine lv_lload_n hx hb dX9_doubleQuotient_0 rfl (lv_at hl 0 rfl) ?_
  refine lv_lload_n hx hb dX9_doubleQuotient_1 rfl (lv_at hl 1 rfl) ?_
  refine lv_bipush (v := 26) hx hb dX9_doubleQuotient_2 (by decide) ?_
  refine lv_lshr hx hb dX9_doubleQuotient_4 rfl ?_
  refine lv_lmul hx hb dX9_doubleQuotient_5 ?_
  refine lv_lload_n hx hb dX9_doubleQuotient_6 rfl (lv_at hl 0 rfl) ?_
  refine lv_lload_n hx hb dX9_doubleQuotient_7 rfl (lv_at hl 1 rfl) ?_
  refine lv_ldc2 (v := 67108863) hx hb hown (hq _ q_1258) dX9_doubleQuotient_8 ?_
  refine lv_land hx hb dX9_doubleQuotient_11 ?_
  refine lv_lmul hx hb dX9_doubleQuotient_12 ?_
  refine lv_bipush (v := 26) hx hb dX9_doubleQuotient_13 (by decide) ?_
  refine lv_lshr hx hb dX9_doubleQuotient_15 rfl ?_
  refine lv_ladd hx hb dX9_doubleQuotient_16 ?_
  refine lv_topl (fun x5_17 ex5_17 => ?_)
  have h := h x5_17 ex5_17
  refine lv_lstore (lv' := [(5, .long x5_17), (0, .long x0), (2, .long x2), (4, .int x4)]) hx hb dX9_doubleQuotient_17 hl (by decide) rfl (fun ls hl => ?_)
  refine lv_lload_n hx hb dX9_doubleQuotient_19 rfl (lv_at hl 1 rfl) ?_
  refine lv_lload_n hx hb dX9_doubleQuotient_20 rfl (lv_at hl 2 rfl) ?_
  refine lv_ldc2 (v := 67108863) hx hb hown (hq _ q_1258) dX9_doubleQuotient_21 ?_
  refine lv_land hx hb dX9_doubleQuotient_24 ?_
  refine lv_lmul hx hb dX9_doubleQuotient_25 ?_
  refine lv_ldc2 (v := 67108863) hx hb hown (hq _ q_1258) dX9_doubleQuotient_26 ?_
  refine lv_land hx hb dX9_doubleQuotient_29 ?_
  refine lv_topl (fun x7_30 ex7_30 => ?_)
  have h := h x7_30 ex7_30
  refine lv_lstore (lv' := [(7, .long x7_30), (5, .long x5_17), (0, .long x0), (2, .long x2), (4, .int x4)]) hx hb dX9_doubleQuotient_30 hl (by decide) rfl (fun ls hl => ?_)
  refine lv_iconst (v := 0) hx hb dX9_doubleQuotient_32 (by decide) ?_
  refine lv_istore (lv' := [(9, .int 0), (7, .long x7_30), (5, .long x5_17), (0, .long x0), (2, .long x2), (4, .int x4)]) hx hb dX9_doubleQuotient_33 hl (by decide) rfl (fun ls hl => ?_)
  have hL35 : ∀ (n9_35 : Nat) (x9_35 : Int32) (H : Heap) (locs : List Loc) (ls : Array Slot), va_S (fun _ => False) s.heap H locs → lv_has ls 14 [(4, .int x4), (5, .long x5_17), (7, .long x7_30), (9, .int x9_35)] → wX9_doubleQuotient_35 x4 Q x5_17 x7_30 n9_35 x9_35 → W p l e (headSpec (Cond.code yX9_doubleQuotient cX9_doubleQuotient 14 (some .long) :: wsG) ({ frames := 1, cells := 0, slots := 0, locals := 20 } : Room)).room s m ([.long x0, .long x2, .int x4] : List Value).toArray below meth c H locs 0 0 (MQ below (va_Ql (fun (r : Int64) (_ : Unit) => Q r) (fun _ _ => True) (fun _ => False)) ([.long x0, .long x2, .int x4] : List Value).toArray s 0 0 (fun _ => False)) (F0 m 35 ls []) := by
    intro n9_35
    induction n9_35 with
    | zero =>
      intro x9_35 H locs ls hS hl h
      exact False.elim h
    | succ n9_35 ih35 =>
      intro x9_35 H locs ls hS hl h
      unfold wX9_doubleQuotient_35 at h
      refine lv_lload hx hb dX9_doubleQuotient_35 (lv_at hl 1 rfl) ?_
      refine lv_iload hx hb dX9_doubleQuotient_37 (lv_at hl 3 rfl) ?_
      refine lv_lshr hx hb dX9_doubleQuotient_39 rfl ?_
      refine lv_ldc2 (v := 134217728) hx hb hown (hq _ q_1259) dX9_doubleQuotient_40 ?_
      refine jl_lt (tgt := 53) hx hb dX9_doubleQuotient_43 dX9_doubleQuotient_44 (by decide) (fun c9 => ?_) (fun c9 => ?_)
      · have h := h.1 c9
        refine lv_iload hx hb dX9_doubleQuotient_53 (lv_at hl 3 rfl) ?_
        refine lv_if_le (tgt := 159) hx hb dX9_doubleQuotient_55 (by decide) (fun c9 => ?_) (fun c9 => ?_)
        · have h := h.1 c9
          refine lv_lload hx hb dX9_doubleQuotient_159 (lv_at hl 1 rfl) ?_
          refine lv_iload hx hb dX9_doubleQuotient_161 (lv_at hl 0 rfl) ?_
          refine lv_bipush (v := 26) hx hb dX9_doubleQuotient_163 (by decide) ?_
          refine lv_isub hx hb dX9_doubleQuotient_165 ?_
          refine lv_lshr hx hb dX9_doubleQuotient_166 rfl ?_
          exact W.lret (v := x5_17 >>> ((x4 - 26).toInt64 &&& 63)) hx hb hr (fun t ht hW => ⟨⟨x5_17 >>> ((x4 - 26).toInt64 &&& 63), (), rfl, h, trivial⟩, hS.F ht⟩) hS.2.2 dX9_doubleQuotient_167
        · have h := h.2 c9
          refine lv_lload hx hb dX9_doubleQuotient_58 (lv_at hl 2 rfl) ?_
          refine lv_iload hx hb dX9_doubleQuotient_60 (lv_at hl 3 rfl) ?_
          refine cPl (As := [.int x9_35]) (rest := [.long x7_30]) ⟨hx, hb, hml, hown, hts⟩ (mX9_power l x9_35 _ h) (va_cwS 1 hts (gS q_959 q_960 q_8 q_961) rfl rfl rfl (by decide +kernel) ⟨Nat.le_of_ble_eq_true rfl, Nat.le_of_ble_eq_true rfl⟩) hS rfl hl.1 rfl (Nat.le_of_ble_eq_true rfl) dX9_doubleQuotient_62 ⟨Nat.le_of_ble_eq_true rfl, Nat.le_of_ble_eq_true rfl⟩ (fun r_62 H1 locs h hk1 hS => ?_)
          try dsimp only at h
          refine lv_lconst (v := 1) hx hb dX9_doubleQuotient_65 (by decide) ?_
          refine lv_lsub hx hb dX9_doubleQuotient_66 ?_
          refine lv_land hx hb dX9_doubleQuotient_67 ?_
          refine lv_topl (fun x10_68 ex10_68 => ?_)
          have h := h x10_68 ex10_68
          refine lv_lstore (lv' := [(10, .long x10_68), (4, .int x4), (5, .long x5_17), (7, .long x7_30), (9, .int x9_35)]) hx hb dX9_doubleQuotient_68 hl (by decide) rfl (fun ls hl => ?_)
          refine lv_lload hx hb dX9_doubleQuotient_70 (lv_at hl 3 rfl) ?_
          refine lv_iload hx hb dX9_doubleQuotient_72 (lv_at hl 4 rfl) ?_
          refine lv_lshr hx hb dX9_doubleQuotient_74 rfl ?_
          refine lv_lconst (v := 1) hx hb dX9_doubleQuotient_75 (by decide) ?_
          refine lv_land hx hb dX9_doubleQuotient_76 ?_
          refine lv_lconst (v := 1) hx hb dX9_doubleQuotient_77 (by decide) ?_
          have hJ87 : ∀ (y0_87 : Int32) (H : Heap) (locs : List Loc) (ls : Array Slot), va_S (fun _ => False) s.heap H locs → lv_has ls 14 [(4, .int x4), (5, .long x5_17), (7, .long x7_30), (9, .int x9_35), (10, .long x10_68)] → wX9_doubleQuotient_87 x4 Q x5_17 x7_30 x9_35 x10_68 y0_87 → W p l e (headSpec (Cond.code yX9_doubleQuotient cX9_doubleQuotient 14 (some .long) :: wsG) ({ frames := 1, cells := 0, slots := 0, locals := 20 } : Room)).room s m ([.long x0, .long x2, .int x4] : List Value).toArray below meth c H locs 0 0 (MQ below (va_Ql (fun (r : Int64) (_ : Unit) => Q r) (fun _ _ => True) (fun _ => False)) ([.long x0, .long x2, .int x4] : List Value).toArray s 0 0 (fun _ => False)) (F0 m 87 ls [.int y0_87]) := by
            intro y0_87 H locs ls hS hl h
            unfold wX9_doubleQuotient_87 at h
            refine lv_istore (lv' := [(12, .int y0_87), (4, .int x4), (5, .long x5_17), (7, .long x7_30), (9, .int x9_35), (10, .long x10_68)]) hx hb dX9_doubleQuotient_87 hl (by decide) rfl (fun ls hl => ?_)
            refine lv_lload hx hb dX9_doubleQuotient_89 (lv_at hl 5 rfl) ?_
            refine lv_iload hx hb dX9_doubleQuotient_91 (lv_at hl 4 rfl) ?_
            refine lv_iconst (v := 1) hx hb dX9_doubleQuotient_93 (by decide) ?_
            refine lv_isub hx hb dX9_doubleQuotient_94 ?_
            refine cPl (As := [.int (x9_35 - 1)]) (rest := [.long x10_68]) ⟨hx, hb, hml, hown, hts⟩ (mX9_power l (x9_35 - 1) _ h) (va_cwS 1 hts (gS q_959 q_960 q_8 q_961) rfl rfl rfl (by decide +kernel) ⟨Nat.le_of_ble_eq_true rfl, Nat.le_of_ble_eq_true rfl⟩) hS rfl hl.1 rfl (Nat.le_of_ble_eq_true rfl) dX9_doubleQuotient_95 ⟨Nat.le_of_ble_eq_true rfl, Nat.le_of_ble_eq_true rfl⟩ (fun r_95 H1 locs h hk1 hS => ?_)
            try dsimp only at h
            have hJ125 : ∀ (y0_125 : Int32) (H : Heap) (locs : List Loc) (ls : Array Slot), va_S (fun _ => False) s.heap H locs → lv_has ls 14 [(4, .int x4), (5, .long x5_17), (7, .long x7_30), (9, .int x9_35), (10, .long x10_68)] → wX9_doubleQuotient_125 x4 Q x5_17 x7_30 x9_35 x10_68 y0_125 → W p l e (headSpec (Cond.code yX9_doubleQuotient cX9_doubleQuotient 14 (some .long) :: wsG) ({ frames := 1, cells := 0, slots := 0, locals := 20 } : Room)).room s m ([.long x0, .long x2, .int x4] : List Value).toArray below meth c H locs 0 0 (MQ below (va_Ql (fun (r : Int64) (_ : Unit) => Q r) (fun _ _ => True) (fun _ => False)) ([.long x0, .long x2, .int x4] : List Value).toArray s 0 0 (fun _ => False)) (F0 m 125 ls [.int y0_125]) := by
              intro y0_125 H locs ls hS hl h
              unfold wX9_doubleQuotient_125 at h
              refine lv_istore (lv' := [(13, .int y0_125), (4, .int x4), (5, .long x5_17), (7, .long x7_30), (9, .int x9_35), (10, .long x10_68)]) hx hb dX9_doubleQuotient_125 hl (by decide) rfl (fun ls hl => ?_)
              refine lv_lload hx hb dX9_doubleQuotient_127 (lv_at hl 3 rfl) ?_
              refine lv_iload hx hb dX9_doubleQuotient_129 (lv_at hl 0 rfl) ?_
              have hJ143 : ∀ (y1_143 : Int64) (H : Heap) (locs : List Loc) (ls : Array Slot), va_S (fun _ => False) s.heap H locs → lv_has ls 14 [(4, .int x4), (5, .long x5_17), (10, .long x10_68)] → wX9_doubleQuotient_143 x4 Q x5_17 x7_30 x10_68 y1_143 → W p l e (headSpec (Cond.code yX9_doubleQuotient cX9_doubleQuotient 14 (some .long) :: wsG) ({ frames := 1, cells := 0, slots := 0, locals := 20 } : Room)).room s m ([.long x0, .long x2, .int x4] : List Value).toArray below meth c H locs 0 0 (MQ below (va_Ql (fun (r : Int64) (_ : Unit) => Q r) (fun _ _ => True) (fun _ => False)) ([.long x0, .long x2, .int x4] : List Value).toArray s 0 0 (fun _ => False)) (F0 m 143 ls [.long y1_143, .long x7_30]) := by
                intro y1_143 H locs ls hS hl h
                unfold wX9_doubleQuotient_143 at h
                refine lv_lload hx hb dX9_doubleQuotient_143 (lv_at hl 2 rfl) ?_
                refine lv_lsub hx hb dX9_doubleQuotient_145 ?_
                refine lv_ladd hx hb dX9_doubleQuotient_146 ?_
                refine lv_topl (fun x7_147 ex7_147 => ?_)
                have h := h x7_147 ex7_147
                refine lv_lstore (lv' := [(7, .long x7_147), (4, .int x4), (5, .long x5_17), (10, .long x10_68)]) hx hb dX9_doubleQuotient_147 hl (by decide) rfl (fun ls hl => ?_)
                refine lv_lload hx hb dX9_doubleQuotient_149 (lv_at hl 2 rfl) ?_
                refine lv_lload hx hb dX9_doubleQuotient_151 (lv_at hl 0 rfl) ?_
                refine lv_bipush (v := 26) hx hb dX9_doubleQuotient_153 (by decide) ?_
                refine lv_lshr hx hb dX9_doubleQuotient_155 rfl ?_
                refine lv_ladd hx hb dX9_doubleQuotient_156 ?_
                refine lv_topl (fun x5_157 ex5_157 => ?_)
                have h := h x5_157 ex5_157
                refine lv_lstore (lv' := [(5, .long x5_157), (7, .long x7_147), (4, .int x4), (10, .long x10_68)]) hx hb dX9_doubleQuotient_157 hl (by decide) rfl (fun ls hl => ?_)
                refine lv_lload hx hb dX9_doubleQuotient_159 (lv_at hl 0 rfl) ?_
                refine lv_iload hx hb dX9_doubleQuotient_161 (lv_at hl 2 rfl) ?_
                refine lv_bipush (v := 26) hx hb dX9_doubleQuotient_163 (by decide) ?_
                refine lv_isub hx hb dX9_doubleQuotient_165 ?_
                refine lv_lshr hx hb dX9_doubleQuotient_166 rfl ?_
                exact W.lret (v := x5_157 >>> ((x4 - 26).toInt64 &&& 63)) hx hb hr (fun t ht hW => ⟨⟨x5_157 >>> ((x4 - 26).toInt64 &&& 63), (), rfl, h, trivial⟩, hS.F ht⟩) hS.2.2 dX9_doubleQuotient_167
              refine lv_if_eq (tgt := 142) hx hb dX9_doubleQuotient_131 (by decide) (fun c9 => ?_) (fun c9 => ?_)
              · have h := h.1 c9
                refine lv_lconst (v := 0) hx hb dX9_doubleQuotient_142 (by decide) ?_
                exact hJ143 0 _ _ _ hS (lv_sub hl [1, 2, 5] rfl) h
              · have h := h.2 c9
                refine lv_iload hx hb dX9_doubleQuotient_134 (lv_at hl 4 rfl) ?_
                refine cPl (As := [.int x9_35]) (rest := [.long x7_30]) ⟨hx, hb, hml, hown, hts⟩ (mX9_power l x9_35 _ h) (va_cwS 1 hts (gS q_959 q_960 q_8 q_961) rfl rfl rfl (by decide +kernel) ⟨Nat.le_of_ble_eq_true rfl, Nat.le_of_ble_eq_true rfl⟩) hS rfl hl.1 rfl (Nat.le_of_ble_eq_true rfl) dX9_doubleQuotient_136 ⟨Nat.le_of_ble_eq_true rfl, Nat.le_of_ble_eq_true rfl⟩ (fun r_136 H1 locs h hk1 hS => ?_)
                try dsimp only at h
                refine lv_goto (tgt := 143) hx hb dX9_doubleQuotient_139 (by decide) ?_
                exact hJ143 r_136 _ _ _ hS (lv_sub hl [1, 2, 5] rfl) h
            have hJ120 : ∀ (H : Heap) (locs : List Loc) (ls : Array Slot), va_S (fun _ => False) s.heap H locs → lv_has ls 14 [(4, .int x4), (5, .long x5_17), (7, .long x7_30), (9, .int x9_35), (10, .long x10_68)] → wX9_doubleQuotient_120 x4 Q x5_17 x7_30 x9_35 x10_68 → W p l e (headSpec (Cond.code yX9_doubleQuotient cX9_doubleQuotient 14 (some .long) :: wsG) ({ frames := 1, cells := 0, slots := 0, locals := 20 } : Room)).room s m ([.long x0, .long x2, .int x4] : List Value).toArray below meth c H locs 0 0 (MQ below (va_Ql (fun (r : Int64) (_ : Unit) => Q r) (fun _ _ => True) (fun _ => False)) ([.long x0, .long x2, .int x4] : List Value).toArray s 0 0 (fun _ => False)) (F0 m 120 ls []) := by
              intro  H locs ls hS hl h
              unfold wX9_doubleQuotient_120 at h
              refine lv_iconst (v := 1) hx hb dX9_doubleQuotient_120 (by decide) ?_
              refine lv_goto (tgt := 125) hx hb dX9_doubleQuotient_121 (by decide) ?_
              exact hJ125 1 _ _ _ hS (lv_sub hl [0, 1, 2, 3, 4] rfl) h
            refine jl_gt (tgt := 120) hx hb dX9_doubleQuotient_98 dX9_doubleQuotient_99 (by decide) (fun c9 => ?_) (fun c9 => ?_)
            · have h := h.1 c9
              exact hJ120 _ _ _ hS (lv_sub hl [1, 2, 3, 4, 5] rfl) h
            · have h := h.2 c9
              refine lv_lload hx hb dX9_doubleQuotient_102 (lv_at hl 5 rfl) ?_
              refine lv_iload hx hb dX9_doubleQuotient_104 (lv_at hl 4 rfl) ?_
              refine lv_iconst (v := 1) hx hb dX9_doubleQuotient_106 (by decide) ?_
              refine lv_isub hx hb dX9_doubleQuotient_107 ?_
              refine cPl (As := [.int (x9_35 - 1)]) (rest := [.long x10_68]) ⟨hx, hb, hml, hown, hts⟩ (mX9_power l (x9_35 - 1) _ h) (va_cwS 1 hts (gS q_959 q_960 q_8 q_961) rfl rfl rfl (by decide +kernel) ⟨Nat.le_of_ble_eq_true rfl, Nat.le_of_ble_eq_true rfl⟩) hS rfl hl.1 rfl (Nat.le_of_ble_eq_true rfl) dX9_doubleQuotient_108 ⟨Nat.le_of_ble_eq_true rfl, Nat.le_of_ble_eq_true rfl⟩ (fun r_108 H1 locs h hk1 hS => ?_)
              try dsimp only at h
              have hJ124 : ∀ (H : Heap) (locs : List Loc) (ls : Array Slot), va_S (fun _ => False) s.heap H locs → lv_has ls 14 [(4, .int x4), (5, .long x5_17), (7, .long x7_30), (9, .int x9_35), (10, .long x10_68)] → wX9_doubleQuotient_124 x4 Q x5_17 x7_30 x9_35 x10_68 → W p l e (headSpec (Cond.code yX9_doubleQuotient cX9_doubleQuotient 14 (some .long) :: wsG) ({ frames := 1, cells := 0, slots := 0, locals := 20 } : Room)).room s m ([.long x0, .long x2, .int x4] : List Value).toArray below meth c H locs 0 0 (MQ below (va_Ql (fun (r : Int64) (_ : Unit) => Q r) (fun _ _ => True) (fun _ => False)) ([.long x0, .long x2, .int x4] : List Value).toArray s 0 0 (fun _ => False)) (F0 m 124 ls []) := by
                intro  H locs ls hS hl h
                unfold wX9_doubleQuotient_124 at h
                refine lv_iconst (v := 0) hx hb dX9_doubleQuotient_124 (by decide) ?_
                exact hJ125 0 _ _ _ hS (lv_sub hl [0, 1, 2, 3, 4] rfl) h
              refine jl_ne (tgt := 124) hx hb dX9_doubleQuotient_111 dX9_doubleQuotient_112 (by decide) (fun c9 => ?_) (fun c9 => ?_)
              · have h := h.2 c9
                exact hJ124 _ _ _ hS (lv_sub hl [1, 2, 3, 4, 5] rfl) h
              · have h := h.1 c9
                refine lv_iload hx hb dX9_doubleQuotient_115 (lv_at hl 0 rfl) ?_
                refine lv_if_eq (tgt := 124) hx hb dX9_doubleQuotient_117 (by decide) (fun c9 => ?_) (fun c9 => ?_)
                · have h := h.1 c9
                  exact hJ124 _ _ _ hS (lv_sub hl [1, 2, 3, 4, 5] rfl) h
                · have h := h.2 c9
                  exact hJ120 _ _ _ hS (lv_sub hl [1, 2, 3, 4, 5] rfl) h
          refine jl_ne (tgt := 86) hx hb dX9_doubleQuotient_78 dX9_doubleQuotient_79 (by decide) (fun c9 => ?_) (fun c9 => ?_)
          · have h := h.2 c9
            refine lv_iconst (v := 0) hx hb dX9_doubleQuotient_86 (by decide) ?_
            exact hJ87 0 _ _ _ hS (lv_sub hl [1, 2, 3, 4, 0] rfl) h
          · have h := h.1 c9
            refine lv_iconst (v := 1) hx hb dX9_doubleQuotient_82 (by decide) ?_
            refine lv_goto (tgt := 87) hx hb dX9_doubleQuotient_83 (by decide) ?_
            exact hJ87 1 _ _ _ hS (lv_sub hl [1, 2, 3, 4, 0] rfl) h
      · have h := h.2 c9
        obtain ⟨x9_47, ex9_47⟩ : ∃ y : Int32, y = x9_35 + 1 := ⟨_, rfl⟩
        have h := h x9_47 ex9_47
        refine lv_iinc (v := x9_47) (lv' := [(9, .int x9_47), (4, .int x4), (5, .long x5_17), (7, .long x7_30)]) hx hb dX9_doubleQuotient_47 hl (k := 3) rfl (by rw [ex9_47]; rfl) (by decide) rfl (fun ls hl => ?_)
        refine lv_goto (tgt := 35) hx hb dX9_doubleQuotient_50 (by decide) ?_
        exact ih35 x9_47 _ _ _ hS (lv_sub hl [1, 2, 3, 0] rfl) h
  obtain ⟨k9, h⟩ := h
  exact hL35 k9 0 _ _ _ hS (lv_sub hl [5, 2, 1, 0] rfl) h

abbrev qX9_firstDoubleError (D : va_G) (ca : Nat → ClassId) (a_t a_t_v a_t_past a_t_costs a_t_into a_t_isNeeded a_t_depths a_t_names a_t_out a_t_has : Nat) (t_edits : Int32) (t_outs : Int32) (Q : Int32 → Int32 → Prop) (A : Nat → Prop) : Array Value → State → Outcome → State → Prop := va_Qi (fun (r : Int32) (u : Int32) => Q r u) (wEnd D ca (fun u : Int32 => [(a_t, .inr (7, [.ref a_t_v, .ref a_t_past, .ref a_t_costs, .int t_edits, .int u, .ref a_t_into, .ref a_t_isNeeded, .ref a_t_depths, .ref a_t_names, .ref a_t_out, .int t_outs, .ref a_t_has]))]) A) A
def wX9_firstDoubleError_40 (x1 : Int32) (Q : Int32 → Int32 → Prop) (x2_30 : Int32) (r_33 : Int64) : Nat → Int64 → Prop
  | 0, _ => False
  | n9 + 1, x5_40 =>
  ((200000 < x5_40 → Q ((-1)) 0) ∧ (¬ 200000 < x5_40 → wX9_doubleQuotient x5_40 r_33 x2_30 (fun r_53 => (¬ x1.toInt64 = 0 ∧ ((r_53 = (x5_40 / x1.toInt64) → (∀ x5_73 : Int64, x5_73 = x5_40 + 1 → (wX9_firstDoubleError_40 x1 Q x2_30 r_33 n9) x5_73)) ∧ (¬ r_53 = (x5_40 / x1.toInt64) → Q x5_40.toInt32 0))))))
def wX9_firstDoubleError (t_thrown : Int32) (x1 : Int32) (Q : Int32 → Int32 → Prop) : Prop :=
  wX9_in x1.toInt64 1 65535 (fun r_11 => ((r_11 = 0 → wX9_fails 0 1 (fun r_19 t_thrown_19 => Q r_19 t_thrown_19)) ∧ (¬ r_11 = 0 → wX9_logUp x1 (fun r_26 => (∀ x2_30 : Int32, x2_30 = 52 + r_26 → wX9_reciprocal x2_30 x1 (fun r_33 => (∃ k9, wX9_firstDoubleError_40 x1 Q x2_30 r_33 k9 0)))))))
set_option maxHeartbeats 4000000 in
set_option maxRecDepth 100000 in
theorem mX9_firstDoubleError (l : Launch) (D : va_G) (ca : Nat → ClassId) (a_t a_t_v a_t_past a_t_costs a_t_into a_t_isNeeded a_t_depths a_t_names a_t_out a_t_has : Nat) (sz : Nat) (t_edits : Int32) (t_thrown : Int32) (t_outs : Int32) (x1 : Int32) (Q : Int32 → Int32 → Prop) (h : wX9_firstDoubleError t_thrown x1 Q) : Met l yX9_firstDoubleError (Cond.code yX9_firstDoubleError cX9_firstDoubleError 7 (some .int) :: wsG) ({ frames := 2, cells := 0, slots := 0, locals := 53 } : Room) (va_Pc [.ref a_t, .int x1] (wPre D ca [(a_t, .inr (7, [.ref a_t_v, .ref a_t_past, .ref a_t_costs, .int t_edits, .int t_thrown, .ref a_t_into, .ref a_t_isNeeded, .ref a_t_depths, .ref a_t_names, .ref a_t_out, .int t_outs, .ref a_t_has]))] sz)) (qX9_firstDoubleError D ca a_t a_t_v a_t_past a_t_costs a_t_into a_t_isNeeded a_t_depths a_t_names a_t_out a_t_has t_edits t_outs Q (va_A [(a_t, .inr (7, [.ref a_t_v, .ref a_t_past, .ref a_t_costs, .int t_edits, .int t_thrown, .ref a_t_into, .ref a_t_isNeeded, .ref a_t_depths, .ref a_t_names, .ref a_t_out, .int t_outs, .ref a_t_has]))] sz)) 0 0 (va_A [(a_t, .inr (7, [.ref a_t_v, .ref a_t_past, .ref a_t_costs, .int t_edits, .int t_thrown, .ref a_t_into, .ref a_t_isNeeded, .ref a_t_depths, .ref a_t_names, .ref a_t_out, .int t_outs, .ref a_t_has]))] sz) := by
  refine Met.ofW (cc := cX9_firstDoubleError) (maxL := 7) (ret := (some .int)) (by decide) rfl ?_
  intro p e s m args below meth c s₁ B hml hv
  obtain ⟨rfl, hsz, hP, hK, hD0⟩ := hv
  have hx := B.exec
  have hb := B.bytes
  have hr := B.returns
  have hts := atoms_spec (ws := (Cond.code yX9_firstDoubleError cX9_firstDoubleError 7 (some .int) :: wsG)) B.pre
  have hq : ∀ w ∈ wsG, w.before _ s = true := fun w hw => hts w (List.mem_cons_of_mem _ hw)
  have hown : s.vm.findClass RX9 = some m.cls := findClass_of_methodNamed B.named
  have hlocks := B.notSynchronized
  subst hsz
  have hD := hD0.self (sz := s.heap.size)
  generalize hAe : va_A [(a_t, .inr (7, [.ref a_t_v, .ref a_t_past, .ref a_t_costs, .int t_edits, .int t_thrown, .ref a_t_into, .ref a_t_isNeeded, .ref a_t_depths, .ref a_t_names, .ref a_t_out, .int t_outs, .ref a_t_has]))] s.heap.size = A at hD ⊢
  have hA : ∀ q : Nat, s.heap.size ≤ q → A q := fun q h => by rw [← hAe]; exact Or.inr h
  have hS : va_S A s.heap s.heap [] := va_S.rf
  have hP : va_P D vwCl [(a_t, .inr (7, [.ref a_t_v, .ref a_t_past, .ref a_t_costs, .int t_edits, .int t_thrown, .ref a_t_into, .ref a_t_isNeeded, .ref a_t_depths, .ref a_t_names, .ref a_t_out, .int t_outs, .ref a_t_has]))] s.heap := hP
  have hl := lv_entry ([.ref a_t, .int x1]) (n := 7) (Nat.le_of_ble_eq_true rfl)
  rw [lg_entry_eq]
  generalize (lg_sl ([.ref a_t, .int x1]) ++ List.replicate (7 - (lg_sl ([.ref a_t, .int x1])).length) Slot.unset).toArray = ls at hl ⊢
  have hl : lv_has ls 7 [(0, .ref a_t), (1, .int x1)] := hl
  unfold wX9_firstDoubleError at h
  refine lv_aload_n hx hb dX9_firstDoubleError_0 rfl (lv_at hl 0 rfl) ?_
  refine lv_iconst (v := 0) hx hb dX9_firstDoubleError_1 (by decide) ?_
  refine va_put (D := D) (ci := 7) (v := .int 0) (ty := .int) (C := RX9) (T := TX9) (N := 12) hx hb hq inX9g tyX9 tyX9_ok nmX9 hown hK hP hD hS 0 rfl rfl 4 (by decide) (hq _ q_885) (fun _ h9 => h9) rfl (by decide +kernel) rfl rfl (Nat.le_of_ble_eq_true rfl) dX9_firstDoubleError_2 (fun H locs hP hD hS => ?_)
  have hP : va_P D vwCl [(a_t, .inr (7, [.ref a_t_v, .ref a_t_past, .ref a_t_costs, .int t_edits, .int 0, .ref a_t_into, .ref a_t_isNeeded, .ref a_t_depths, .ref a_t_names, .ref a_t_out, .int t_outs, .ref a_t_has]))] H := hP
  have hD : va_D A [(a_t, .inr (7, [.ref a_t_v, .ref a_t_past, .ref a_t_costs, .int t_edits, .int 0, .ref a_t_into, .ref a_t_isNeeded, .ref a_t_depths, .ref a_t_names, .ref a_t_out, .int t_outs, .ref a_t_has]))] := hD
  refine lv_iload_n hx hb dX9_firstDoubleError_5 rfl (lv_at hl 1 rfl) ?_
  refine lv_i2l hx hb dX9_firstDoubleError_6 rfl ?_
  refine lv_lconst (v := 1) hx hb dX9_firstDoubleError_7 (by decide) ?_
  refine lv_ldc2 (v := 65535) hx hb hown (hq _ q_1224) dX9_firstDoubleError_8 ?_
  refine cPi (As := [.long x1.toInt64, .long 1, .long 65535]) (rest := []) ⟨hx, hb, hml, hown, hts⟩ (mX9_in l x1.toInt64 1 65535 _ h) (va_cwS 3 hts (gS q_930 q_931 q_8 q_932) rfl rfl rfl (by decide +kernel) ⟨Nat.le_of_ble_eq_true rfl, Nat.le_of_ble_eq_true rfl⟩) hS rfl hl.1 rfl (Nat.le_of_ble_eq_true rfl) dX9_firstDoubleError_11 ⟨Nat.le_of_ble_eq_true rfl, Nat.le_of_ble_eq_true rfl⟩ (fun r_11 H1 locs h hk1 hS => ?_)
  have hP := s_back hP hk1
  try dsimp only at h
  refine lv_if_ne (tgt := 23) hx hb dX9_firstDoubleError_14 (by decide) (fun c9 => ?_) (fun c9 => ?_)
  · have h := h.2 c9
    refine lv_bipush (v := 52) hx hb dX9_firstDoubleError_23 (by decide) ?_
    refine lv_iload_n hx hb dX9_firstDoubleError_25 rfl (lv_at hl 1 rfl) ?_
    refine cPi (As := [.int x1]) (rest := [.int 52]) ⟨hx, hb, hml, hown, hts⟩ (mX9_logUp l x1 _ h) (va_cwS 1 hts (gS q_1229 q_1230 q_8 q_1231) rfl rfl rfl (by decide +kernel) ⟨Nat.le_of_ble_eq_true rfl, Nat.le_of_ble_eq_true rfl⟩) hS rfl hl.1 rfl (Nat.le_of_ble_eq_true rfl) dX9_firstDoubleError_26 ⟨Nat.le_of_ble_eq_true rfl, Nat.le_of_ble_eq_true rfl⟩ (fun r_26 H1 locs h hk1 hS => ?_)
    have hP := s_back hP hk1
    try dsimp only at h
    refine lv_iadd hx hb dX9_firstDoubleError_29 ?_
    refine lv_topi (fun x2_30 ex2_30 => ?_)
    have h := h x2_30 ex2_30
    refine lv_istore_n (lv' := [(2, .int x2_30), (0, .ref a_t), (1, .int x1)]) hx hb dX9_firstDoubleError_30 rfl hl (by decide) rfl (fun ls hl => ?_)
    refine lv_iload_n hx hb dX9_firstDoubleError_31 rfl (lv_at hl 0 rfl) ?_
    refine lv_iload_n hx hb dX9_firstDoubleError_32 rfl (lv_at hl 2 rfl) ?_
    refine cPl (As := [.int x2_30, .int x1]) (rest := []) ⟨hx, hb, hml, hown, hts⟩ (mX9_reciprocal l x2_30 x1 _ h) (va_cwS 2 hts (gS q_1232 q_1233 q_8 q_1234) rfl rfl rfl (by decide +kernel) ⟨Nat.le_of_ble_eq_true rfl, Nat.le_of_ble_eq_true rfl⟩) hS rfl hl.1 rfl (Nat.le_of_ble_eq_true rfl) dX9_firstDoubleError_33 ⟨Nat.le_of_ble_eq_true rfl, Nat.le_of_ble_eq_true rfl⟩ (fun r_33 H1 locs h hk1 hS => ?_)
    have hP := s_back hP hk1
    try dsimp only at h
    refine lv_lstore_n (lv' := [(3, .long r_33), (2, .int x2_30), (0, .ref a_t), (1, .int x1)]) hx hb dX9_firstDoubleError_36 rfl hl (by decide) rfl (fun ls hl => ?_)
    refine lv_lconst (v := 0) hx hb dX9_firstDoubleError_37 (by decide) ?_
    refine lv_lstore (lv' := [(5, .long 0), (3, .long r_33), (2, .int x2_30), (0, .ref a_t), (1, .int x1)]) hx hb dX9_firstDoubleError_38 hl (by decide) rfl (fun ls hl => ?_)
    have hL40 : ∀ (n9_40 : Nat) (x5_40 : Int64) (H : Heap) (locs : List Loc) (ls : Array Slot), va_P D vwCl [(a_t, .inr (7, [.ref a_t_v, .ref a_t_past, .ref a_t_costs, .int t_edits, .int 0, .ref a_t_into, .ref a_t_isNeeded, .ref a_t_depths, .ref a_t_names, .ref a_t_out, .int t_outs, .ref a_t_has]))] H → va_D A [(a_t, .inr (7, [.ref a_t_v, .ref a_t_past, .ref a_t_costs, .int t_edits, .int 0, .ref a_t_into, .ref a_t_isNeeded, .ref a_t_depths, .ref a_t_names, .ref a_t_out, .int t_outs, .ref a_t_has]))] → va_S A s.heap H locs → lv_has ls 7 [(1, .int x1), (2, .int x2_30), (3, .long r_33), (5, .long x5_40)] → wX9_firstDoubleError_40 x1 Q x2_30 r_33 n9_40 x5_40 → W p l e (headSpec (Cond.code yX9_firstDoubleError cX9_firstDoubleError 7 (some .int) :: wsG) ({ frames := 2, cells := 0, slots := 0, locals := 53 } : Room)).room s m ([.ref a_t, .int x1] : List Value).toArray below meth c H locs 0 0 (MQ below (qX9_firstDoubleError D ca a_t a_t_v a_t_past a_t_costs a_t_into a_t_isNeeded a_t_depths a_t_names a_t_out a_t_has t_edits t_outs Q A) ([.ref a_t, .int x1] : List Value).toArray s 0 0 A) (F0 m 40 ls []) := by
      intro n9_40
      induction n9_40 with
      | zero =>
        intro x5_40 H locs ls hP hD hS hl h
        exact False.elim h
      | succ n9_40 ih40 =>
        intro x5_40 H locs ls hP hD hS hl h
        unfold wX9_firstDoubleError_40 at h
        refine lv_lload hx hb dX9_firstDoubleError_40 (lv_at hl 3 rfl) ?_
        refine lv_ldc2 (v := 200000) hx hb hown (hq _ q_1246) dX9_firstDoubleError_42 ?_
        refine jl_gt (tgt := 78) hx hb dX9_firstDoubleError_45 dX9_firstDoubleError_46 (by decide) (fun c9 => ?_) (fun c9 => ?_)
        · have h := h.1 c9
          refine lv_iconst (v := (-1)) hx hb dX9_firstDoubleError_78 (by decide) ?_
          exact W.iret (v := (-1)) hx hb hr (fun t ht hW => ⟨⟨(-1), 0, rfl, h, by rw [ht]; exact hP, va_K.moved hW.alike hK, hD⟩, hS.F ht⟩) hS.2.2 dX9_firstDoubleError_79
        · have h := h.2 c9
          refine lv_lload hx hb dX9_firstDoubleError_49 (lv_at hl 3 rfl) ?_
          refine lv_lload_n hx hb dX9_firstDoubleError_51 rfl (lv_at hl 2 rfl) ?_
          refine lv_iload_n hx hb dX9_firstDoubleError_52 rfl (lv_at hl 1 rfl) ?_
          refine cPl (As := [.long x5_40, .long r_33, .int x2_30]) (rest := []) ⟨hx, hb, hml, hown, hts⟩ (mX9_doubleQuotient l x5_40 r_33 x2_30 _ h) (va_cwS 3 hts (gS q_1255 q_1256 q_8 q_1257) rfl rfl rfl (by decide +kernel) ⟨Nat.le_of_ble_eq_true rfl, Nat.le_of_ble_eq_true rfl⟩) hS rfl hl.1 rfl (Nat.le_of_ble_eq_true rfl) dX9_firstDoubleError_53 ⟨Nat.le_of_ble_eq_true rfl, Nat.le_of_ble_eq_true rfl⟩ (fun r_53 H1 locs h hk1 hS => ?_)
          have hP := s_back hP hk1
          try dsimp only at h
          refine lv_lload hx hb dX9_firstDoubleError_56 (lv_at hl 3 rfl) ?_
          refine lv_iload_n hx hb dX9_firstDoubleError_58 rfl (lv_at hl 0 rfl) ?_
          refine lv_i2l hx hb dX9_firstDoubleError_59 rfl ?_
          obtain ⟨hne9, h⟩ := h
          refine lv_ldiv hx hb dX9_firstDoubleError_60 hne9 ?_
          refine jl_eq (tgt := 69) hx hb dX9_firstDoubleError_61 dX9_firstDoubleError_62 (by decide) (fun c9 => ?_) (fun c9 => ?_)
          · have h := h.1 c9
            refine lv_lload hx hb dX9_firstDoubleError_69 (lv_at hl 3 rfl) ?_
            refine lv_lconst (v := 1) hx hb dX9_firstDoubleError_71 (by decide) ?_
            refine lv_ladd hx hb dX9_firstDoubleError_72 ?_
            refine lv_topl (fun x5_73 ex5_73 => ?_)
            have h := h x5_73 ex5_73
            refine lv_lstore (lv' := [(5, .long x5_73), (1, .int x1), (2, .int x2_30), (3, .long r_33)]) hx hb dX9_firstDoubleError_73 hl (by decide) rfl (fun ls hl => ?_)
            refine lv_goto (tgt := 40) hx hb dX9_firstDoubleError_75 (by decide) ?_
            exact ih40 x5_73 _ _ _ hP hD hS (lv_sub hl [1, 2, 3, 0] rfl) h
          · have h := h.2 c9
            refine lv_lload hx hb dX9_firstDoubleError_65 (lv_at hl 3 rfl) ?_
            refine lv_l2i hx hb dX9_firstDoubleError_67 rfl ?_
            exact W.iret (v := x5_40.toInt32) hx hb hr (fun t ht hW => ⟨⟨x5_40.toInt32, 0, rfl, h, by rw [ht]; exact hP, va_K.moved hW.alike hK, hD⟩, hS.F ht⟩) hS.2.2 dX9_firstDoubleError_68
    obtain ⟨k9, h⟩ := h
    exact hL40 k9 0 _ _ _ hP hD hS (lv_sub hl [4, 2, 1, 0] rfl) h
  · have h := h.1 c9
    refine lv_aload_n hx hb dX9_firstDoubleError_17 rfl (lv_at hl 0 rfl) ?_
    refine lv_iconst (v := 1) hx hb dX9_firstDoubleError_18 (by decide) ?_
    refine cVi (As := [.int 1]) (rest := []) (wc := [(a_t, .inr (7, [.ref a_t_v, .ref a_t_past, .ref a_t_costs, .int t_edits, .int 0, .ref a_t_into, .ref a_t_isNeeded, .ref a_t_depths, .ref a_t_names, .ref a_t_out, .int t_outs, .ref a_t_has]))]) (wr := []) (w1 := fun u : Int32 => [(a_t, .inr (7, [.ref a_t_v, .ref a_t_past, .ref a_t_costs, .int t_edits, .int u, .ref a_t_into, .ref a_t_isNeeded, .ref a_t_depths, .ref a_t_names, .ref a_t_out, .int t_outs, .ref a_t_has]))]) (ws2 := fun u : Int32 => [(a_t, .inr (7, [.ref a_t_v, .ref a_t_past, .ref a_t_costs, .int t_edits, .int u, .ref a_t_into, .ref a_t_isNeeded, .ref a_t_depths, .ref a_t_names, .ref a_t_out, .int t_outs, .ref a_t_has]))]) ⟨hx, hb, hml, hown, hts⟩ (mX9_fails l D ca a_t a_t_v a_t_past a_t_costs a_t_into a_t_isNeeded a_t_depths a_t_names a_t_out a_t_has _ t_edits 0 t_outs 1 _ h) (cwV 1 hts (gV q_933 q_935 qs_33 q_8 q_936) rfl rfl rfl (by decide +kernel) ⟨Nat.le_of_ble_eq_true rfl, Nat.le_of_ble_eq_true rfl⟩) hK hP hD hS hA [0] [] [0] rfl rfl rfl (by decide) (fun _ => rfl) (ci := 7) (q0 := 0) rfl rfl rfl hl.1 rfl (Nat.le_of_ble_eq_true rfl) dX9_firstDoubleError_19 ⟨Nat.le_of_ble_eq_true rfl, Nat.le_of_ble_eq_true rfl⟩ (fun r_19 u9 H locs h hP hD hS => ?_)
    obtain ⟨t_thrown_19, rfl⟩ : ∃ z, z = u9 := ⟨_, rfl⟩
    have hP : va_P D vwCl [(a_t, .inr (7, [.ref a_t_v, .ref a_t_past, .ref a_t_costs, .int t_edits, .int t_thrown_19, .ref a_t_into, .ref a_t_isNeeded, .ref a_t_depths, .ref a_t_names, .ref a_t_out, .int t_outs, .ref a_t_has]))] H := hP
    have hD : va_D A [(a_t, .inr (7, [.ref a_t_v, .ref a_t_past, .ref a_t_costs, .int t_edits, .int t_thrown_19, .ref a_t_into, .ref a_t_isNeeded, .ref a_t_depths, .ref a_t_names, .ref a_t_out, .int t_outs, .ref a_t_has]))] := hD
    try dsimp only at h
    exact W.iret (v := r_19) hx hb hr (fun t ht hW => ⟨⟨r_19, t_thrown_19, rfl, h, by rw [ht]; exact hP, va_K.moved hW.alike hK, hD⟩, hS.F ht⟩) hS.2.2 dX9_firstDoubleError_22

def wX9_whole (x0 : Int64) (x2 : Int32) (Q : Int64 → Prop) : Prop :=
  ((x2 < 0 → Q (x0 <<< ((-x2).toInt64 &&& 63))) ∧ (¬ x2 < 0 → Q (x0 >>> (x2.toInt64 &&& 63))))
set_option maxHeartbeats 4000000 in
set_option maxRecDepth 100000 in
theorem mX9_whole (l : Launch) (x0 : Int64) (x2 : Int32) (Q : Int64 → Prop) (h : wX9_whole x0 x2 Q) : Met l yX9_whole (Cond.code yX9_whole cX9_whole 3 (some .long) :: wsG) ({ frames := 0, cells := 0, slots := 0, locals := 0 } : Room) (va_Pc [.long x0, .int x2] (fun _ => True)) (va_Ql (fun (r : Int64) (_ : Unit) => Q r) (fun _ _ => True) (fun _ => False)) 0 0 (fun _ => False) := by
  refine Met.ofW (cc := cX9_whole) (maxL := 3) (ret := (some .long)) (by decide) rfl ?_
  intro p e s m args below meth c s₁ B hml hv
  obtain ⟨rfl, -⟩ := hv
  have hx := B.exec
  have hb := B.bytes
  have hr := B.returns
  have hts := atoms_spec (ws := (Cond.code yX9_whole cX9_whole 3 (some .long) :: wsG)) B.pre
  have hq : ∀ w ∈ wsG, w.before _ s = true := fun w hw => hts w (List.mem_cons_of_mem _ hw)
  have hown : s.vm.findClass RX9 = some m.cls := findClass_of_methodNamed B.named
  have hlocks := B.notSynchronized
  have hS : va_S (fun _ : Nat => False) s.heap s.heap [] := va_S.rf
  have hl := lv_entry ([.long x0, .int x2]) (n := 3) (Nat.le_of_ble_eq_true rfl)
  rw [lg_entry_eq]
  generalize (lg_sl ([.long x0, .int x2]) ++ List.replicate (3 - (lg_sl ([.long x0, .int x2])).length) Slot.unset).toArray = ls at hl ⊢
  have hl : lv_has ls 3 [(0, .long x0), (2, .int x2)] := hl
  unfold wX9_whole at h
  refine lv_iload_n hx hb dX9_whole_0 rfl (lv_at hl 1 rfl) ?_
  refine lv_if_lt (tgt := 10) hx hb dX9_whole_1 (by decide) (fun c9 => ?_) (fun c9 => ?_)
  · have h := h.1 c9
    refine lv_lload_n hx hb dX9_whole_10 rfl (lv_at hl 0 rfl) ?_
    refine lv_iload_n hx hb dX9_whole_11 rfl (lv_at hl 1 rfl) ?_
    refine lv_ineg hx hb dX9_whole_12 ?_
    refine lv_lshl hx hb dX9_whole_13 rfl ?_
    exact W.lret (v := x0 <<< ((-x2).toInt64 &&& 63)) hx hb hr (fun t ht hW => ⟨⟨x0 <<< ((-x2).toInt64 &&& 63), (), rfl, h, trivial⟩, hS.F ht⟩) hS.2.2 dX9_whole_14
  · have h := h.2 c9
    refine lv_lload_n hx hb dX9_whole_4 rfl (lv_at hl 0 rfl) ?_
    refine lv_iload_n hx hb dX9_whole_5 rfl (lv_at hl 1 rfl) ?_
    refine lv_lshr hx hb dX9_whole_6 rfl ?_
    refine lv_goto (tgt := 14) hx hb dX9_whole_7 (by decide) ?_
    exact W.lret (v := x0 >>> (x2.toInt64 &&& 63)) hx hb hr (fun t ht hW => ⟨⟨x0 >>> (x2.toInt64 &&& 63), (), rfl, h, trivial⟩, hS.F ht⟩) hS.2.2 dX9_whole_14

abbrev qX9_leastRaise (D : va_G) (ca : Nat → ClassId) (a_t a_t_v a_t_past a_t_costs a_t_into a_t_isNeeded a_t_depths a_t_names a_t_out a_t_has : Nat) (t_edits : Int32) (t_outs : Int32) (f_t_v : Nat → Int32) (Q : Int32 → Int32 → Prop) (A : Nat → Prop) : Array Value → State → Outcome → State → Prop := va_Qi (fun (r : Int32) (u : Int32) => Q r u) (wEnd D ca (fun u : Int32 => [(a_t, .inr (7, [.ref a_t_v, .ref a_t_past, .ref a_t_costs, .int t_edits, .int u, .ref a_t_into, .ref a_t_isNeeded, .ref a_t_depths, .ref a_t_names, .ref a_t_out, .int t_outs, .ref a_t_has])), (a_t_v, .inl (ca 0, 206, .inl f_t_v))]) A) A
def wX9_leastRaise_151 (Q : Int32 → Int32 → Prop) (x5_40 : Int32) (K40 : Int32 → Prop) (x9_98 : Int32) : Prop :=
  ((x9_98 = 0 → (∀ x5_159 : Int32, x5_159 = x5_40 + 1 → K40 x5_159)) ∧ (¬ x9_98 = 0 → Q x5_40 0))
def wX9_leastRaise_140 (x10_98 : Int64) (K98 : Int32 → Int64 → Prop) (y0_140 : Int32) : Prop :=
  (∀ x10_146 : Int64, x10_146 = x10_98 + 1 → K98 y0_140 x10_146)
def wX9_leastRaise_98 (f_t_v : Nat → Int32) (x1 : Int32) (Q : Int32 → Int32 → Prop) (x5_40 : Int32) (K40 : Int32 → Prop) (x6_67 : Int64) (x8_67 : Int32) : Nat → Int32 → Int64 → Prop
  | 0, _, _ => False
  | n9 + 1, x9_98, x10_98 =>
  wX9_all f_t_v (fun r_101 => ((r_101 ≤ x10_98 → wX9_leastRaise_151 Q x5_40 K40 x9_98) ∧ (¬ r_101 ≤ x10_98 → ((x9_98 = 0 → wX9_leastRaise_151 Q x5_40 K40 x9_98) ∧ (¬ x9_98 = 0 → wX9_roundedFloat (x10_98 * x6_67) (fun r_118 => wX9_whole r_118 x8_67 (fun r_123 => (¬ x1.toInt64 = 0 ∧ ((r_123 = (x10_98 / x1.toInt64) → wX9_leastRaise_140 x10_98 (wX9_leastRaise_98 f_t_v x1 Q x5_40 K40 x6_67 x8_67 n9) 1) ∧ (¬ r_123 = (x10_98 / x1.toInt64) → wX9_leastRaise_140 x10_98 (wX9_leastRaise_98 f_t_v x1 Q x5_40 K40 x6_67 x8_67 n9) 0))))))))))
def wX9_leastRaise_67 (f_t_v : Nat → Int32) (x1 : Int32) (Q : Int32 → Int32 → Prop) (x5_40 : Int32) (K40 : Int32 → Prop) : Nat → Int64 → Int32 → Prop
  | 0, _, _ => False
  | n9 + 1, x6_67, x8_67 =>
  (((x6_67 - x6_67 / 2 * 2) = 0 → (∀ x6_84 : Int64, x6_84 = x6_67 / 2 → (∀ x8_86 : Int32, x8_86 = x8_67 + (-1) → (wX9_leastRaise_67 f_t_v x1 Q x5_40 K40 n9) x6_84 x8_86))) ∧ (¬ (x6_67 - x6_67 / 2 * 2) = 0 → (∃ k9, wX9_leastRaise_98 f_t_v x1 Q x5_40 K40 x6_67 x8_67 k9 1 0)))
def wX9_leastRaise_40 (f_t_v : Nat → Int32) (x1 : Int32) (Q : Int32 → Int32 → Prop) (x2_30 : Int32) (r_33 : Int64) : Nat → Int32 → Prop
  | 0, _ => False
  | n9 + 1, x5_40 =>
  ((20 < x5_40 → Q ((-1)) 0) ∧ (¬ 20 < x5_40 → wX9_roundedFloat (r_33 * (8388608 + x5_40.toInt64)) (fun r_56 => (∀ x8_65 : Int32, x8_65 = x2_30 + 23 → (∃ k9, wX9_leastRaise_67 f_t_v x1 Q x5_40 (wX9_leastRaise_40 f_t_v x1 Q x2_30 r_33 n9) k9 r_56 x8_65)))))
def wX9_leastRaise (t_thrown : Int32) (f_t_v : Nat → Int32) (x1 : Int32) (Q : Int32 → Int32 → Prop) : Prop :=
  wX9_in x1.toInt64 1 65535 (fun r_11 => ((r_11 = 0 → wX9_fails 0 1 (fun r_19 t_thrown_19 => Q r_19 t_thrown_19)) ∧ (¬ r_11 = 0 → wX9_logUp x1 (fun r_26 => (∀ x2_30 : Int32, x2_30 = 23 + r_26 → wX9_reciprocal x2_30 x1 (fun r_33 => (∃ k9, wX9_leastRaise_40 f_t_v x1 Q x2_30 r_33 k9 0)))))))
set_option maxHeartbeats 4000000 in
set_option maxRecDepth 100000 in
theorem mX9_leastRaise (l : Launch) (D : va_G) (ca : Nat → ClassId) (a_t a_t_v a_t_past a_t_costs a_t_into a_t_isNeeded a_t_depths a_t_names a_t_out a_t_has : Nat) (sz : Nat) (t_edits : Int32) (t_thrown : Int32) (t_outs : Int32) (f_t_v : Nat → Int32) (x1 : Int32) (Q : Int32 → Int32 → Prop) (h : wX9_leastRaise t_thrown f_t_v x1 Q) : Met l yX9_leastRaise (Cond.code yX9_leastRaise cX9_leastRaise 12 (some .int) :: wsG) ({ frames := 2, cells := 0, slots := 0, locals := 48 } : Room) (va_Pc [.ref a_t, .int x1] (wPre D ca [(a_t, .inr (7, [.ref a_t_v, .ref a_t_past, .ref a_t_costs, .int t_edits, .int t_thrown, .ref a_t_into, .ref a_t_isNeeded, .ref a_t_depths, .ref a_t_names, .ref a_t_out, .int t_outs, .ref a_t_has])), (a_t_v, .inl (ca 0, 206, .inl f_t_v))] sz)) (qX9_leastRaise D ca a_t a_t_v a_t_past a_t_costs a_t_into a_t_isNeeded a_t_depths a_t_names a_t_out a_t_has t_edits t_outs f_t_v Q (va_A [(a_t, .inr (7, [.ref a_t_v, .ref a_t_past, .ref a_t_costs, .int t_edits, .int t_thrown, .ref a_t_into, .ref a_t_isNeeded, .ref a_t_depths, .ref a_t_names, .ref a_t_out, .int t_outs, .ref a_t_has])), (a_t_v, .inl (ca 0, 206, .inl f_t_v))] sz)) 0 0 (va_A [(a_t, .inr (7, [.ref a_t_v, .ref a_t_past, .ref a_t_costs, .int t_edits, .int t_thrown, .ref a_t_into, .ref a_t_isNeeded, .ref a_t_depths, .ref a_t_names, .ref a_t_out, .int t_outs, .ref a_t_has])), (a_t_v, .inl (ca 0, 206, .inl f_t_v))] sz) := by
  refine Met.ofW (cc := cX9_leastRaise) (maxL := 12) (ret := (some .int)) (by decide) rfl ?_
  intro p e s m args below meth c s₁ B hml hv
  obtain ⟨rfl, hsz, hP, hK, hD0⟩ := hv
  have hx := B.exec
  have hb := B.bytes
  have hr := B.returns
  have hts := atoms_spec (ws := (Cond.code yX9_leastRaise cX9_leastRaise 12 (some .int) :: wsG)) B.pre
  have hq : ∀ w ∈ wsG, w.before _ s = true := fun w hw => hts w (List.mem_cons_of_mem _ hw)
  have hown : s.vm.findClass RX9 = some m.cls := findClass_of_methodNamed B.named
  have hlocks := B.notSynchronized
  subst hsz
  have hD := hD0.self (sz := s.heap.size)
  generalize hAe : va_A [(a_t, .inr (7, [.ref a_t_v, .ref a_t_past, .ref a_t_costs, .int t_edits, .int t_thrown, .ref a_t_into, .ref a_t_isNeeded, .ref a_t_depths, .ref a_t_names, .ref a_t_out, .int t_outs, .ref a_t_has])), (a_t_v, .inl (ca 0, 206, .inl f_t_v))] s.heap.size = A at hD ⊢
  have hA : ∀ q : Nat, s.heap.size ≤ q → A q := fun q h => by rw [← hAe]; exact Or.inr h
  have hS : va_S A s.heap s.heap [] := va_S.rf
  have hP : va_P D vwCl [(a_t, .inr (7, [.ref a_t_v, .ref a_t_past, .ref a_t_costs, .int t_edits, .int t_thrown, .ref a_t_into, .ref a_t_isNeeded, .ref a_t_depths, .ref a_t_names, .ref a_t_out, .int t_outs, .ref a_t_has])), (a_t_v, .inl (ca 0, 206, .inl f_t_v))] s.heap := hP
  have hl := lv_entry ([.ref a_t, .int x1]) (n := 12) (Nat.le_of_ble_eq_true rfl)
  rw [lg_entry_eq]
  generalize (lg_sl ([.ref a_t, .int x1]) ++ List.replicate (12 - (lg_sl ([.ref a_t, .int x1])).length) Slot.unset).toArray = ls at hl ⊢
  have hl : lv_has ls 12 [(0, .ref a_t), (1, .int x1)] := hl
  unfold wX9_leastRaise at h
  refine lv_aload_n hx hb dX9_leastRaise_0 rfl (lv_at hl 0 rfl) ?_
  refine lv_iconst (v := 0) hx hb dX9_leastRaise_1 (by decide) ?_
  refine va_put (D := D) (ci := 7) (v := .int 0) (ty := .int) (C := RX9) (T := TX9) (N := 12) hx hb hq inX9g tyX9 tyX9_ok nmX9 hown hK hP hD hS 0 rfl rfl 4 (by decide) (hq _ q_885) (fun _ h9 => h9) rfl (by decide +kernel) rfl rfl (Nat.le_of_ble_eq_true rfl) dX9_leastRaise_2 (fun H locs hP hD hS => ?_)
  have hP : va_P D vwCl [(a_t, .inr (7, [.ref a_t_v, .ref a_t_past, .ref a_t_costs, .int t_edits, .int 0, .ref a_t_into, .ref a_t_isNeeded, .ref a_t_depths, .ref a_t_names, .ref a_t_out, .int t_outs, .ref a_t_has])), (a_t_v, .inl (ca 0, 206, .inl f_t_v))] H := hP
  have hD : va_D A [(a_t, .inr (7, [.ref a_t_v, .ref a_t_past, .ref a_t_costs, .int t_edits, .int 0, .ref a_t_into, .ref a_t_isNeeded, .ref a_t_depths, .ref a_t_names, .ref a_t_out, .int t_outs, .ref a_t_has])), (a_t_v, .inl (ca 0, 206, .inl f_t_v))] := hD
  refine lv_iload_n hx hb dX9_leastRaise_5 rfl (lv_at hl 1 rfl) ?_
  refine lv_i2l hx hb dX9_leastRaise_6 rfl ?_
  refine lv_lconst (v := 1) hx hb dX9_leastRaise_7 (by decide) ?_
  refine lv_ldc2 (v := 65535) hx hb hown (hq _ q_1224) dX9_leastRaise_8 ?_
  refine cPi (As := [.long x1.toInt64, .long 1, .long 65535]) (rest := []) ⟨hx, hb, hml, hown, hts⟩ (mX9_in l x1.toInt64 1 65535 _ h) (va_cwS 3 hts (gS q_930 q_931 q_8 q_932) rfl rfl rfl (by decide +kernel) ⟨Nat.le_of_ble_eq_true rfl, Nat.le_of_ble_eq_true rfl⟩) hS rfl hl.1 rfl (Nat.le_of_ble_eq_true rfl) dX9_leastRaise_11 ⟨Nat.le_of_ble_eq_true rfl, Nat.le_of_ble_eq_true rfl⟩ (fun r_11 H1 locs h hk1 hS => ?_)
  have hP := s_back hP hk1
  try dsimp only at h
  refine lv_if_ne (tgt := 23) hx hb dX9_leastRaise_14 (by decide) (fun c9 => ?_) (fun c9 => ?_)
  · have h := h.2 c9
    refine lv_bipush (v := 23) hx hb dX9_leastRaise_23 (by decide) ?_
    refine lv_iload_n hx hb dX9_leastRaise_25 rfl (lv_at hl 1 rfl) ?_
    refine cPi (As := [.int x1]) (rest := [.int 23]) ⟨hx, hb, hml, hown, hts⟩ (mX9_logUp l x1 _ h) (va_cwS 1 hts (gS q_1229 q_1230 q_8 q_1231) rfl rfl rfl (by decide +kernel) ⟨Nat.le_of_ble_eq_true rfl, Nat.le_of_ble_eq_true rfl⟩) hS rfl hl.1 rfl (Nat.le_of_ble_eq_true rfl) dX9_leastRaise_26 ⟨Nat.le_of_ble_eq_true rfl, Nat.le_of_ble_eq_true rfl⟩ (fun r_26 H1 locs h hk1 hS => ?_)
    have hP := s_back hP hk1
    try dsimp only at h
    refine lv_iadd hx hb dX9_leastRaise_29 ?_
    refine lv_topi (fun x2_30 ex2_30 => ?_)
    have h := h x2_30 ex2_30
    refine lv_istore_n (lv' := [(2, .int x2_30), (0, .ref a_t), (1, .int x1)]) hx hb dX9_leastRaise_30 rfl hl (by decide) rfl (fun ls hl => ?_)
    refine lv_iload_n hx hb dX9_leastRaise_31 rfl (lv_at hl 0 rfl) ?_
    refine lv_iload_n hx hb dX9_leastRaise_32 rfl (lv_at hl 2 rfl) ?_
    refine cPl (As := [.int x2_30, .int x1]) (rest := []) ⟨hx, hb, hml, hown, hts⟩ (mX9_reciprocal l x2_30 x1 _ h) (va_cwS 2 hts (gS q_1232 q_1233 q_8 q_1234) rfl rfl rfl (by decide +kernel) ⟨Nat.le_of_ble_eq_true rfl, Nat.le_of_ble_eq_true rfl⟩) hS rfl hl.1 rfl (Nat.le_of_ble_eq_true rfl) dX9_leastRaise_33 ⟨Nat.le_of_ble_eq_true rfl, Nat.le_of_ble_eq_true rfl⟩ (fun r_33 H1 locs h hk1 hS => ?_)
    have hP := s_back hP hk1
    try dsimp only at h
    refine lv_lstore_n (lv' := [(3, .long r_33), (2, .int x2_30), (0, .ref a_t), (1, .int x1)]) hx hb dX9_leastRaise_36 rfl hl (by decide) rfl (fun ls hl => ?_)
    refine lv_iconst (v := 0) hx hb dX9_leastRaise_37 (by decide) ?_
    refine lv_istore (lv' := [(5, .int 0), (3, .long r_33), (2, .int x2_30), (0, .ref a_t), (1, .int x1)]) hx hb dX9_leastRaise_38 hl (by decide) rfl (fun ls hl => ?_)
    have hL40 : ∀ (n9_40 : Nat) (x5_40 : Int32) (H : Heap) (locs : List Loc) (ls : Array Slot), va_P D vwCl [(a_t, .inr (7, [.ref a_t_v, .ref a_t_past, .ref a_t_costs, .int t_edits, .int 0, .ref a_t_into, .ref a_t_isNeeded, .ref a_t_depths, .ref a_t_names, .ref a_t_out, .int t_outs, .ref a_t_has])), (a_t_v, .inl (ca 0, 206, .inl f_t_v))] H → va_D A [(a_t, .inr (7, [.ref a_t_v, .ref a_t_past, .ref a_t_costs, .int t_edits, .int 0, .ref a_t_into, .ref a_t_isNeeded, .ref a_t_depths, .ref a_t_names, .ref a_t_out, .int t_outs, .ref a_t_has])), (a_t_v, .inl (ca 0, 206, .inl f_t_v))] → va_S A s.heap H locs → lv_has ls 12 [(0, .ref a_t), (1, .int x1), (2, .int x2_30), (3, .long r_33), (5, .int x5_40)] → wX9_leastRaise_40 f_t_v x1 Q x2_30 r_33 n9_40 x5_40 → W p l e (headSpec (Cond.code yX9_leastRaise cX9_leastRaise 12 (some .int) :: wsG) ({ frames := 2, cells := 0, slots := 0, locals := 48 } : Room)).room s m ([.ref a_t, .int x1] : List Value).toArray below meth c H locs 0 0 (MQ below (qX9_leastRaise D ca a_t a_t_v a_t_past a_t_costs a_t_into a_t_isNeeded a_t_depths a_t_names a_t_out a_t_has t_edits t_outs f_t_v Q A) ([.ref a_t, .int x1] : List Value).toArray s 0 0 A) (F0 m 40 ls []) := by
      intro n9_40
      induction n9_40 with
      | zero =>
        intro x5_40 H locs ls hP hD hS hl h
        exact False.elim h
      | succ n9_40 ih40 =>
        intro x5_40 H locs ls hP hD hS hl h
        unfold wX9_leastRaise_40 at h
        refine lv_iload hx hb dX9_leastRaise_40 (lv_at hl 4 rfl) ?_
        refine lv_bipush (v := 20) hx hb dX9_leastRaise_42 (by decide) ?_
        refine lv_icmp_gt (tgt := 165) hx hb dX9_leastRaise_44 (by decide) (fun c9 => ?_) (fun c9 => ?_)
        · have h := h.1 c9
          refine lv_iconst (v := (-1)) hx hb dX9_leastRaise_165 (by decide) ?_
          exact W.iret (v := (-1)) hx hb hr (fun t ht hW => ⟨⟨(-1), 0, rfl, h, by rw [ht]; exact hP, va_K.moved hW.alike hK, hD⟩, hS.F ht⟩) hS.2.2 dX9_leastRaise_166
        · have h := h.2 c9
          refine lv_lload_n hx hb dX9_leastRaise_47 rfl (lv_at hl 3 rfl) ?_
          refine lv_ldc2 (v := 8388608) hx hb hown (hq _ q_1236) dX9_leastRaise_48 ?_
          refine lv_iload hx hb dX9_leastRaise_51 (lv_at hl 4 rfl) ?_
          refine lv_i2l hx hb dX9_leastRaise_53 rfl ?_
          refine lv_ladd hx hb dX9_leastRaise_54 ?_
          refine lv_lmul hx hb dX9_leastRaise_55 ?_
          refine cPl (As := [.long (r_33 * (8388608 + x5_40.toInt64))]) (rest := []) ⟨hx, hb, hml, hown, hts⟩ (mX9_roundedFloat l (r_33 * (8388608 + x5_40.toInt64)) _ h) (va_cwS 1 hts (gS q_1247 q_1248 q_8 q_1249) rfl rfl rfl (by decide +kernel) ⟨Nat.le_of_ble_eq_true rfl, Nat.le_of_ble_eq_true rfl⟩) hS rfl hl.1 rfl (Nat.le_of_ble_eq_true rfl) dX9_leastRaise_56 ⟨Nat.le_of_ble_eq_true rfl, Nat.le_of_ble_eq_true rfl⟩ (fun r_56 H1 locs h hk1 hS => ?_)
          have hP := s_back hP hk1
          try dsimp only at h
          refine lv_lstore (lv' := [(6, .long r_56), (0, .ref a_t), (1, .int x1), (2, .int x2_30), (3, .long r_33), (5, .int x5_40)]) hx hb dX9_leastRaise_59 hl (by decide) rfl (fun ls hl => ?_)
          refine lv_iload_n hx hb dX9_leastRaise_61 rfl (lv_at hl 3 rfl) ?_
          refine lv_bipush (v := 23) hx hb dX9_leastRaise_62 (by decide) ?_
          refine lv_iadd hx hb dX9_leastRaise_64 ?_
          refine lv_topi (fun x8_65 ex8_65 => ?_)
          have h := h x8_65 ex8_65
          refine lv_istore (lv' := [(8, .int x8_65), (6, .long r_56), (0, .ref a_t), (1, .int x1), (2, .int x2_30), (3, .long r_33), (5, .int x5_40)]) hx hb dX9_leastRaise_65 hl (by decide) rfl (fun ls hl => ?_)
          have hL67 : ∀ (n9_67 : Nat) (x6_67 : Int64) (x8_67 : Int32) (H : Heap) (locs : List Loc) (ls : Array Slot), va_P D vwCl [(a_t, .inr (7, [.ref a_t_v, .ref a_t_past, .ref a_t_costs, .int t_edits, .int 0, .ref a_t_into, .ref a_t_isNeeded, .ref a_t_depths, .ref a_t_names, .ref a_t_out, .int t_outs, .ref a_t_has])), (a_t_v, .inl (ca 0, 206, .inl f_t_v))] H → va_D A [(a_t, .inr (7, [.ref a_t_v, .ref a_t_past, .ref a_t_costs, .int t_edits, .int 0, .ref a_t_into, .ref a_t_isNeeded, .ref a_t_depths, .ref a_t_names, .ref a_t_out, .int t_outs, .ref a_t_has])), (a_t_v, .inl (ca 0, 206, .inl f_t_v))] → va_S A s.heap H locs → lv_has ls 12 [(0, .ref a_t), (1, .int x1), (2, .int x2_30), (3, .long r_33), (5, .int x5_40), (6, .long x6_67), (8, .int x8_67)] → wX9_leastRaise_67 f_t_v x1 Q x5_40 (wX9_leastRaise_40 f_t_v x1 Q x2_30 r_33 n9_40) n9_67 x6_67 x8_67 → W p l e (headSpec (Cond.code yX9_leastRaise cX9_leastRaise 12 (some .int) :: wsG) ({ frames := 2, cells := 0, slots := 0, locals := 48 } : Room)).room s m ([.ref a_t, .int x1] : List Value).toArray below meth c H locs 0 0 (MQ below (qX9_leastRaise D ca a_t a_t_v a_t_past a_t_costs a_t_into a_t_isNeeded a_t_depths a_t_names a_t_out a_t_has t_edits t_outs f_t_v Q A) ([.ref a_t, .int x1] : List Value).toArray s 0 0 A) (F0 m 67 ls []) := by
            intro n9_67
            induction n9_67 with
            | zero =>
              intro x6_67 x8_67 H locs ls hP hD hS hl h
              exact False.elim h
            | succ n9_67 ih67 =>
              intro x6_67 x8_67 H locs ls hP hD hS hl h
              unfold wX9_leastRaise_67 at h
              refine lv_lload hx hb dX9_leastRaise_67 (lv_at hl 5 rfl) ?_
              refine lv_ldc2 (v := 2) hx hb hown (hq _ q_949) dX9_leastRaise_69 ?_
              refine lv_lrem hx hb dX9_leastRaise_72 (by decide) ?_
              refine lv_lconst (v := 0) hx hb dX9_leastRaise_73 (by decide) ?_
              refine jl_ne (tgt := 92) hx hb dX9_leastRaise_74 dX9_leastRaise_75 (by decide) (fun c9 => ?_) (fun c9 => ?_)
              · have h := h.2 c9
                refine lv_iconst (v := 1) hx hb dX9_leastRaise_92 (by decide) ?_
                refine lv_istore (lv' := [(9, .int 1), (0, .ref a_t), (1, .int x1), (2, .int x2_30), (3, .long r_33), (5, .int x5_40), (6, .long x6_67), (8, .int x8_67)]) hx hb dX9_leastRaise_93 hl (by decide) rfl (fun ls hl => ?_)
                refine lv_lconst (v := 0) hx hb dX9_leastRaise_95 (by decide) ?_
                refine lv_lstore (lv' := [(10, .long 0), (9, .int 1), (0, .ref a_t), (1, .int x1), (2, .int x2_30), (3, .long r_33), (5, .int x5_40), (6, .long x6_67), (8, .int x8_67)]) hx hb dX9_leastRaise_96 hl (by decide) rfl (fun ls hl => ?_)
                have hL98 : ∀ (n9_98 : Nat) (x9_98 : Int32) (x10_98 : Int64) (H : Heap) (locs : List Loc) (ls : Array Slot), va_P D vwCl [(a_t, .inr (7, [.ref a_t_v, .ref a_t_past, .ref a_t_costs, .int t_edits, .int 0, .ref a_t_into, .ref a_t_isNeeded, .ref a_t_depths, .ref a_t_names, .ref a_t_out, .int t_outs, .ref a_t_has])), (a_t_v, .inl (ca 0, 206, .inl f_t_v))] H → va_D A [(a_t, .inr (7, [.ref a_t_v, .ref a_t_past, .ref a_t_costs, .int t_edits, .int 0, .ref a_t_into, .ref a_t_isNeeded, .ref a_t_depths, .ref a_t_names, .ref a_t_out, .int t_outs, .ref a_t_has])), (a_t_v, .inl (ca 0, 206, .inl f_t_v))] → va_S A s.heap H locs → lv_has ls 12 [(0, .ref a_t), (1, .int x1), (2, .int x2_30), (3, .long r_33), (5, .int x5_40), (6, .long x6_67), (8, .int x8_67), (9, .int x9_98), (10, .long x10_98)] → wX9_leastRaise_98 f_t_v x1 Q x5_40 (wX9_leastRaise_40 f_t_v x1 Q x2_30 r_33 n9_40) x6_67 x8_67 n9_98 x9_98 x10_98 → W p l e (headSpec (Cond.code yX9_leastRaise cX9_leastRaise 12 (some .int) :: wsG) ({ frames := 2, cells := 0, slots := 0, locals := 48 } : Room)).room s m ([.ref a_t, .int x1] : List Value).toArray below meth c H locs 0 0 (MQ below (qX9_leastRaise D ca a_t a_t_v a_t_past a_t_costs a_t_into a_t_isNeeded a_t_depths a_t_names a_t_out a_t_has t_edits t_outs f_t_v Q A) ([.ref a_t, .int x1] : List Value).toArray s 0 0 A) (F0 m 98 ls []) := by
                  intro n9_98
                  induction n9_98 with
                  | zero =>
                    intro x9_98 x10_98 H locs ls hP hD hS hl h
                    exact False.elim h
                  | succ n9_98 ih98 =>
                    intro x9_98 x10_98 H locs ls hP hD hS hl h
                    unfold wX9_leastRaise_98 at h
                    refine lv_lload hx hb dX9_leastRaise_98 (lv_at hl 8 rfl) ?_
                    refine lv_aload_n hx hb dX9_leastRaise_100 rfl (lv_at hl 0 rfl) ?_
                    refine cVl (As := []) (rest := [.long x10_98]) (wc := [(a_t, .inr (7, [.ref a_t_v, .ref a_t_past, .ref a_t_costs, .int t_edits, .int 0, .ref a_t_into, .ref a_t_isNeeded, .ref a_t_depths, .ref a_t_names, .ref a_t_out, .int t_outs, .ref a_t_has])), (a_t_v, .inl (ca 0, 206, .inl f_t_v))]) (wr := []) (w1 := fun _ : Unit => [(a_t, .inr (7, [.ref a_t_v, .ref a_t_past, .ref a_t_costs, .int t_edits, .int 0, .ref a_t_into, .ref a_t_isNeeded, .ref a_t_depths, .ref a_t_names, .ref a_t_out, .int t_outs, .ref a_t_has])), (a_t_v, .inl (ca 0, 206, .inl f_t_v))]) (ws2 := fun _ : Unit => [(a_t, .inr (7, [.ref a_t_v, .ref a_t_past, .ref a_t_costs, .int t_edits, .int 0, .ref a_t_into, .ref a_t_isNeeded, .ref a_t_depths, .ref a_t_names, .ref a_t_out, .int t_outs, .ref a_t_has])), (a_t_v, .inl (ca 0, 206, .inl f_t_v))]) ⟨hx, hb, hml, hown, hts⟩ (mX9_all l D ca a_t a_t_v a_t_past a_t_costs a_t_into a_t_isNeeded a_t_depths a_t_names a_t_out a_t_has _ t_edits 0 t_outs f_t_v _ h) (cwV 0 hts (gV q_955 q_957 qs_35 q_8 q_958) rfl rfl rfl (by decide +kernel) ⟨Nat.le_of_ble_eq_true rfl, Nat.le_of_ble_eq_true rfl⟩) hK hP hD hS hA [0, 1] [] [0, 1] rfl rfl rfl (by decide) (fun _ => rfl) (ci := 7) (q0 := 0) rfl rfl rfl hl.1 rfl (Nat.le_of_ble_eq_true rfl) dX9_leastRaise_101 ⟨Nat.le_of_ble_eq_true rfl, Nat.le_of_ble_eq_true rfl⟩ (fun r_101 u9 H locs h hP hD hS => ?_)
                    try dsimp only at h
                    have hJ151 : ∀ (H : Heap) (locs : List Loc) (ls : Array Slot), va_P D vwCl [(a_t, .inr (7, [.ref a_t_v, .ref a_t_past, .ref a_t_costs, .int t_edits, .int 0, .ref a_t_into, .ref a_t_isNeeded, .ref a_t_depths, .ref a_t_names, .ref a_t_out, .int t_outs, .ref a_t_has])), (a_t_v, .inl (ca 0, 206, .inl f_t_v))] H → va_D A [(a_t, .inr (7, [.ref a_t_v, .ref a_t_past, .ref a_t_costs, .int t_edits, .int 0, .ref a_t_into, .ref a_t_isNeeded, .ref a_t_depths, .ref a_t_names, .ref a_t_out, .int t_outs, .ref a_t_has])), (a_t_v, .inl (ca 0, 206, .inl f_t_v))] → va_S A s.heap H locs → lv_has ls 12 [(0, .ref a_t), (1, .int x1), (2, .int x2_30), (3, .long r_33), (5, .int x5_40), (9, .int x9_98)] → wX9_leastRaise_151 Q x5_40 (wX9_leastRaise_40 f_t_v x1 Q x2_30 r_33 n9_40) x9_98 → W p l e (headSpec (Cond.code yX9_leastRaise cX9_leastRaise 12 (some .int) :: wsG) ({ frames := 2, cells := 0, slots := 0, locals := 48 } : Room)).room s m ([.ref a_t, .int x1] : List Value).toArray below meth c H locs 0 0 (MQ below (qX9_leastRaise D ca a_t a_t_v a_t_past a_t_costs a_t_into a_t_isNeeded a_t_depths a_t_names a_t_out a_t_has t_edits t_outs f_t_v Q A) ([.ref a_t, .int x1] : List Value).toArray s 0 0 A) (F0 m 151 ls []) := by
                      intro  H locs ls hP hD hS hl h
                      unfold wX9_leastRaise_151 at h
                      refine lv_iload hx hb dX9_leastRaise_151 (lv_at hl 5 rfl) ?_
                      refine lv_if_eq (tgt := 159) hx hb dX9_leastRaise_153 (by decide) (fun c9 => ?_) (fun c9 => ?_)
                      · have h := h.1 c9
                        obtain ⟨x5_159, ex5_159⟩ : ∃ y : Int32, y = x5_40 + 1 := ⟨_, rfl⟩
                        have h := h x5_159 ex5_159
                        refine lv_iinc (v := x5_159) (lv' := [(5, .int x5_159), (0, .ref a_t), (1, .int x1), (2, .int x2_30), (3, .long r_33), (9, .int x9_98)]) hx hb dX9_leastRaise_159 hl (k := 4) rfl (by rw [ex5_159]; rfl) (by decide) rfl (fun ls hl => ?_)
                        refine lv_goto (tgt := 40) hx hb dX9_leastRaise_162 (by decide) ?_
                        exact ih40 x5_159 _ _ _ hP hD hS (lv_sub hl [1, 2, 3, 4, 0] rfl) h
                      · have h := h.2 c9
                        refine lv_iload hx hb dX9_leastRaise_156 (lv_at hl 4 rfl) ?_
                        exact W.iret (v := x5_40) hx hb hr (fun t ht hW => ⟨⟨x5_40, 0, rfl, h, by rw [ht]; exact hP, va_K.moved hW.alike hK, hD⟩, hS.F ht⟩) hS.2.2 dX9_leastRaise_158
                    refine jl_ge (tgt := 151) hx hb dX9_leastRaise_104 dX9_leastRaise_105 (by decide) (fun c9 => ?_) (fun c9 => ?_)
                    · have h := h.1 c9
                      exact hJ151 _ _ _ hP hD hS (lv_sub hl [0, 1, 2, 3, 4, 7] rfl) h
                    · have h := h.2 c9
                      refine lv_iload hx hb dX9_leastRaise_108 (lv_at hl 7 rfl) ?_
                      refine lv_if_eq (tgt := 151) hx hb dX9_leastRaise_110 (by decide) (fun c9 => ?_) (fun c9 => ?_)
                      · have h := h.1 c9
                        exact hJ151 _ _ _ hP hD hS (lv_sub hl [0, 1, 2, 3, 4, 7] rfl) h
                      · have h := h.2 c9
                        refine lv_lload hx hb dX9_leastRaise_113 (lv_at hl 8 rfl) ?_
                        refine lv_lload hx hb dX9_leastRaise_115 (lv_at hl 5 rfl) ?_
                        refine lv_lmul hx hb dX9_leastRaise_117 ?_
                        refine cPl (As := [.long (x10_98 * x6_67)]) (rest := []) ⟨hx, hb, hml, hown, hts⟩ (mX9_roundedFloat l (x10_98 * x6_67) _ h) (va_cwS 1 hts (gS q_1247 q_1248 q_8 q_1249) rfl rfl rfl (by decide +kernel) ⟨Nat.le_of_ble_eq_true rfl, Nat.le_of_ble_eq_true rfl⟩) hS rfl hl.1 rfl (Nat.le_of_ble_eq_true rfl) dX9_leastRaise_118 ⟨Nat.le_of_ble_eq_true rfl, Nat.le_of_ble_eq_true rfl⟩ (fun r_118 H1 locs h hk1 hS => ?_)
                        have hP := s_back hP hk1
                        try dsimp only at h
                        refine lv_iload hx hb dX9_leastRaise_121 (lv_at hl 6 rfl) ?_
                        refine cPl (As := [.long r_118, .int x8_67]) (rest := []) ⟨hx, hb, hml, hown, hts⟩ (mX9_whole l r_118 x8_67 _ h) (va_cwS 2 hts (gS q_1264 q_1265 q_8 q_1266) rfl rfl rfl (by decide +kernel) ⟨Nat.le_of_ble_eq_true rfl, Nat.le_of_ble_eq_true rfl⟩) hS rfl hl.1 rfl (Nat.le_of_ble_eq_true rfl) dX9_leastRaise_123 ⟨Nat.le_of_ble_eq_true rfl, Nat.le_of_ble_eq_true rfl⟩ (fun r_123 H1 locs h hk1 hS => ?_)
                        have hP := s_back hP hk1
                        try dsimp only at h
                        refine lv_lload hx hb dX9_leastRaise_126 (lv_at hl 8 rfl) ?_
                        refine lv_iload_n hx hb dX9_leastRaise_128 rfl (lv_at hl 1 rfl) ?_
                        refine lv_i2l hx hb dX9_leastRaise_129 rfl ?_
                        obtain ⟨hne9, h⟩ := h
                        refine lv_ldiv hx hb dX9_leastRaise_130 hne9 ?_
                        have hJ140 : ∀ (y0_140 : Int32) (H : Heap) (locs : List Loc) (ls : Array Slot), va_P D vwCl [(a_t, .inr (7, [.ref a_t_v, .ref a_t_past, .ref a_t_costs, .int t_edits, .int 0, .ref a_t_into, .ref a_t_isNeeded, .ref a_t_depths, .ref a_t_names, .ref a_t_out, .int t_outs, .ref a_t_has])), (a_t_v, .inl (ca 0, 206, .inl f_t_v))] H → va_D A [(a_t, .inr (7, [.ref a_t_v, .ref a_t_past, .ref a_t_costs, .int t_edits, .int 0, .ref a_t_into, .ref a_t_isNeeded, .ref a_t_depths, .ref a_t_names, .ref a_t_out, .int t_outs, .ref a_t_has])), (a_t_v, .inl (ca 0, 206, .inl f_t_v))] → va_S A s.heap H locs → lv_has ls 12 [(0, .ref a_t), (1, .int x1), (2, .int x2_30), (3, .long r_33), (5, .int x5_40), (6, .long x6_67), (8, .int x8_67), (10, .long x10_98)] → wX9_leastRaise_140 x10_98 (wX9_leastRaise_98 f_t_v x1 Q x5_40 (wX9_leastRaise_40 f_t_v x1 Q x2_30 r_33 n9_40) x6_67 x8_67 n9_98) y0_140 → W p l e (headSpec (Cond.code yX9_leastRaise cX9_leastRaise 12 (some .int) :: wsG) ({ frames := 2, cells := 0, slots := 0, locals := 48 } : Room)).room s m ([.ref a_t, .int x1] : List Value).toArray below meth c H locs 0 0 (MQ below (qX9_leastRaise D ca a_t a_t_v a_t_past a_t_costs a_t_into a_t_isNeeded a_t_depths a_t_names a_t_out a_t_has t_edits t_outs f_t_v Q A) ([.ref a_t, .int x1] : List Value).toArray s 0 0 A) (F0 m 140 ls [.int y0_140]) := by
                          intro y0_140 H locs ls hP hD hS hl h
                          unfold wX9_leastRaise_140 at h
                          refine lv_istore (lv' := [(9, .int y0_140), (0, .ref a_t), (1, .int x1), (2, .int x2_30), (3, .long r_33), (5, .int x5_40), (6, .long x6_67), (8, .int x8_67), (10, .long x10_98)]) hx hb dX9_leastRaise_140 hl (by decide) rfl (fun ls hl => ?_)
                          refine lv_lload hx hb dX9_leastRaise_142 (lv_at hl 8 rfl) ?_
                          refine lv_lconst (v := 1) hx hb dX9_leastRaise_144 (by decide) ?_
                          refine lv_ladd hx hb dX9_leastRaise_145 ?_
                          refine lv_topl (fun x10_146 ex10_146 => ?_)
                          have h := h x10_146 ex10_146
                          refine lv_lstore (lv' := [(10, .long x10_146), (9, .int y0_140), (0, .ref a_t), (1, .int x1), (2, .int x2_30), (3, .long r_33), (5, .int x5_40), (6, .long x6_67), (8, .int x8_67)]) hx hb dX9_leastRaise_146 hl (by decide) rfl (fun ls hl => ?_)
                          refine lv_goto (tgt := 98) hx hb dX9_leastRaise_148 (by decide) ?_
                          exact ih98 y0_140 x10_146 _ _ _ hP hD hS (lv_sub hl [2, 3, 4, 5, 6, 7, 8, 1, 0] rfl) h
                        refine jl_ne (tgt := 139) hx hb dX9_leastRaise_131 dX9_leastRaise_132 (by decide) (fun c9 => ?_) (fun c9 => ?_)
                        · have h := h.2 c9
                          refine lv_iconst (v := 0) hx hb dX9_leastRaise_139 (by decide) ?_
                          exact hJ140 0 _ _ _ hP hD hS (lv_sub hl [0, 1, 2, 3, 4, 5, 6, 8] rfl) h
                        · have h := h.1 c9
                          refine lv_iconst (v := 1) hx hb dX9_leastRaise_135 (by decide) ?_
                          refine lv_goto (tgt := 140) hx hb dX9_leastRaise_136 (by decide) ?_
                          exact hJ140 1 _ _ _ hP hD hS (lv_sub hl [0, 1, 2, 3, 4, 5, 6, 8] rfl) h
                obtain ⟨k9, h⟩ := h
                exact hL98 k9 1 0 _ _ _ hP hD hS (lv_sub hl [2, 3, 4, 5, 6, 7, 8, 1, 0] rfl) h
              · have h := h.1 c9
                refine lv_lload hx hb dX9_leastRaise_78 (lv_at hl 5 rfl) ?_
                refine lv_ldc2 (v := 2) hx hb hown (hq _ q_949) dX9_leastRaise_80 ?_
                refine lv_ldiv hx hb dX9_leastRaise_83 (by decide) ?_
                refine lv_topl (fun x6_84 ex6_84 => ?_)
                have h := h x6_84 ex6_84
                refine lv_lstore (lv' := [(6, .long x6_84), (0, .ref a_t), (1, .int x1), (2, .int x2_30), (3, .long r_33), (5, .int x5_40), (8, .int x8_67)]) hx hb dX9_leastRaise_84 hl (by decide) rfl (fun ls hl => ?_)
                obtain ⟨x8_86, ex8_86⟩ : ∃ y : Int32, y = x8_67 + (-1) := ⟨_, rfl⟩
                have h := h x8_86 ex8_86
                refine lv_iinc (v := x8_86) (lv' := [(8, .int x8_86), (6, .long x6_84), (0, .ref a_t), (1, .int x1), (2, .int x2_30), (3, .long r_33), (5, .int x5_40)]) hx hb dX9_leastRaise_86 hl (k := 6) rfl (by rw [ex8_86]; rfl) (by decide) rfl (fun ls hl => ?_)
                refine lv_goto (tgt := 67) hx hb dX9_leastRaise_89 (by decide) ?_
                exact ih67 x6_84 x8_86 _ _ _ hP hD hS (lv_sub hl [2, 3, 4, 5, 6, 1, 0] rfl) h
          obtain ⟨k9, h⟩ := h
          exact hL67 k9 r_56 x8_65 _ _ _ hP hD hS (lv_sub hl [2, 3, 4, 5, 6, 1, 0] rfl) h
    obtain ⟨k9, h⟩ := h
    exact hL40 k9 0 _ _ _ hP hD hS (lv_sub hl [3, 4, 2, 1, 0] rfl) h
  · have h := h.1 c9
    refine lv_aload_n hx hb dX9_leastRaise_17 rfl (lv_at hl 0 rfl) ?_
    refine lv_iconst (v := 1) hx hb dX9_leastRaise_18 (by decide) ?_
    refine cVi (As := [.int 1]) (rest := []) (wc := [(a_t, .inr (7, [.ref a_t_v, .ref a_t_past, .ref a_t_costs, .int t_edits, .int 0, .ref a_t_into, .ref a_t_isNeeded, .ref a_t_depths, .ref a_t_names, .ref a_t_out, .int t_outs, .ref a_t_has]))]) (wr := [(a_t_v, .inl (ca 0, 206, .inl f_t_v))]) (w1 := fun u : Int32 => [(a_t, .inr (7, [.ref a_t_v, .ref a_t_past, .ref a_t_costs, .int t_edits, .int u, .ref a_t_into, .ref a_t_isNeeded, .ref a_t_depths, .ref a_t_names, .ref a_t_out, .int t_outs, .ref a_t_has]))]) (ws2 := fun u : Int32 => [(a_t, .inr (7, [.ref a_t_v, .ref a_t_past, .ref a_t_costs, .int t_edits, .int u, .ref a_t_into, .ref a_t_isNeeded, .ref a_t_depths, .ref a_t_names, .ref a_t_out, .int t_outs, .ref a_t_has])), (a_t_v, .inl (ca 0, 206, .inl f_t_v))]) ⟨hx, hb, hml, hown, hts⟩ (mX9_fails l D ca a_t a_t_v a_t_past a_t_costs a_t_into a_t_isNeeded a_t_depths a_t_names a_t_out a_t_has _ t_edits 0 t_outs 1 _ h) (cwV 1 hts (gV q_933 q_935 qs_33 q_8 q_936) rfl rfl rfl (by decide +kernel) ⟨Nat.le_of_ble_eq_true rfl, Nat.le_of_ble_eq_true rfl⟩) hK hP hD hS hA [0] [1] [1, 0] rfl rfl rfl (by decide) (fun _ => rfl) (ci := 7) (q0 := 0) rfl rfl rfl hl.1 rfl (Nat.le_of_ble_eq_true rfl) dX9_leastRaise_19 ⟨Nat.le_of_ble_eq_true rfl, Nat.le_of_ble_eq_true rfl⟩ (fun r_19 u9 H locs h hP hD hS => ?_)
    obtain ⟨t_thrown_19, rfl⟩ : ∃ z, z = u9 := ⟨_, rfl⟩
    have hP : va_P D vwCl [(a_t, .inr (7, [.ref a_t_v, .ref a_t_past, .ref a_t_costs, .int t_edits, .int t_thrown_19, .ref a_t_into, .ref a_t_isNeeded, .ref a_t_depths, .ref a_t_names, .ref a_t_out, .int t_outs, .ref a_t_has])), (a_t_v, .inl (ca 0, 206, .inl f_t_v))] H := hP
    have hD : va_D A [(a_t, .inr (7, [.ref a_t_v, .ref a_t_past, .ref a_t_costs, .int t_edits, .int t_thrown_19, .ref a_t_into, .ref a_t_isNeeded, .ref a_t_depths, .ref a_t_names, .ref a_t_out, .int t_outs, .ref a_t_has])), (a_t_v, .inl (ca 0, 206, .inl f_t_v))] := hD
    try dsimp only at h
    exact W.iret (v := r_19) hx hb hr (fun t ht hW => ⟨⟨r_19, t_thrown_19, rfl, h, by rw [ht]; exact hP, va_K.moved hW.alike hK, hD⟩, hS.F ht⟩) hS.2.2 dX9_leastRaise_22
