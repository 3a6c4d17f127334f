def wX9_digitAt (x0 : Int64) (x2 : Int32) (Q : Int32 → Prop) : Prop :=
  (∀ x3_5 : Int64, x3_5 = 3 * x0 → Q ((((x3_5 >>> ((x2 + 1).toInt64 &&& 63)) &&& 1) - ((x0 >>> ((x2 + 1).toInt64 &&& 63)) &&& 1)).toInt32))
set_option maxHeartbeats 4000000 in
set_option maxRecDepth 100000 in
theorem mX9_digitAt (l : Launch) (x0 : Int64) (x2 : Int32) (Q : Int32 → Prop) (h : wX9_digitAt x0 x2 Q) : Met l yX9_digitAt (Cond.code yX9_digitAt cX9_digitAt 5 (some .int) :: wsG) ({ frames := 0, cells := 0, slots := 0, locals := 0 } : Room) (va_Pc [.long x0, .int x2] (fun _ => True)) (va_Qi (fun (r : Int32) (_ : Unit) => Q r) (fun _ _ => True) (fun _ => False)) 0 0 (fun _ => False) := by
  refine Met.ofW (cc := cX9_digitAt) (maxL := 5) (ret := (some .int)) (by decide) rfl ?_
  intro p e s m args below meth c s₁ B hml hv
  obtain ⟨rfl, -⟩ := hv
  have hx := B.exec
  have hb := B.bytes
  have hr := B.returns
  have hts := atoms_spec (ws := (Cond.code yX9_digitAt cX9_digitAt 5 (some .int) :: wsG)) B.pre
  have hq : ∀ w ∈ wsG, w.before _ s = true := fun w hw => hts w (List.mem_cons_of_mem _ hw)
  have hown : s.vm.findClass RX9 = some m.cls := findClass_of_methodNamed B.named
  have hlocks := B.notSynchronized
  have hS : va_S (fun _ : Nat => False) s.heap s.heap [] := va_S.rf
  have hl := lv_entry ([.long x0, .int x2]) (n := 5) (Nat.le_of_ble_eq_true rfl)
  rw [lg_entry_eq]
  generalize (lg_sl ([.long x0, .int x2]) ++ List.replicate (5 - (lg_sl ([.long x0, .int x2])).length) Slot.unset).toArray = ls at hl ⊢
  have hl : lv_has ls 5 [(0, .long x0), (2, .int x2)] := hl
  unfold wX9_digitAt at h
  refine lv_ldc2 (v := 3) hx hb hown (hq _ q_1017) dX9_digitAt_0 ?_
  refine lv_lload_n hx hb dX9_digitAt_3 rfl (lv_at hl 0 rfl) ?_
  refine lv_lmul hx hb dX9_digitAt_4 ?_
  refine lv_topl (fun x3_5 ex3_5 => ?_)
  have h := h x3_5 ex3_5
  refine lv_lstore_n (lv' := [(3, .long x3_5), (0, .long x0), (2, .int x2)]) hx hb dX9_digitAt_5 rfl hl (by decide) rfl (fun ls hl => ?_)
  refine lv_lload_n hx hb dX9_digitAt_6 rfl (lv_at hl 0 rfl) ?_
  refine lv_iload_n hx hb dX9_digitAt_7 rfl (lv_at hl 2 rfl) ?_
  refine lv_iconst (v := 1) hx hb dX9_digitAt_8 (by decide) ?_
  refine lv_iadd hx hb dX9_digitAt_9 ?_
  refine lv_lshr hx hb dX9_digitAt_10 rfl ?_
  refine lv_lconst (v := 1) hx hb dX9_digitAt_11 (by decide) ?_
  refine lv_land hx hb dX9_digitAt_12 ?_
  refine lv_lload_n hx hb dX9_digitAt_13 rfl (lv_at hl 1 rfl) ?_
  refine lv_iload_n hx hb dX9_digitAt_14 rfl (lv_at hl 2 rfl) ?_
  refine lv_iconst (v := 1) hx hb dX9_digitAt_15 (by decide) ?_
  refine lv_iadd hx hb dX9_digitAt_16 ?_
  refine lv_lshr hx hb dX9_digitAt_17 rfl ?_
  refine lv_lconst (v := 1) hx hb dX9_digitAt_18 (by decide) ?_
  refine lv_land hx hb dX9_digitAt_19 ?_
  refine lv_lsub hx hb dX9_digitAt_20 ?_
  refine lv_l2i hx hb dX9_digitAt_21 rfl ?_
  exact W.iret (v := (((x3_5 >>> ((x2 + 1).toInt64 &&& 63)) &&& 1) - ((x0 >>> ((x2 + 1).toInt64 &&& 63)) &&& 1)).toInt32) hx hb hr (fun t ht hW => ⟨⟨(((x3_5 >>> ((x2 + 1).toInt64 &&& 63)) &&& 1) - ((x0 >>> ((x2 + 1).toInt64 &&& 63)) &&& 1)).toInt32, (), rfl, h, trivial⟩, hS.F ht⟩) hS.2.2 dX9_digitAt_22

abbrev qX9_digitsOf (D : va_G) (ca : Nat → ClassId) (a_t a_t_v a_t_past a_t_costs a_t_into a_t_isNeeded a_t_depths a_t_names a_t_out a_t_has : Nat) (t_edits : Int32) (t_thrown : Int32) (t_outs : Int32) (f_t_v : Nat → Int32) (Q : Int32 → Prop) (A : Nat → Prop) : Array Value → State → Outcome → State → Prop := va_Qi (fun (r : Int32) (_ : Unit) => Q r) (wEnd D ca (fun _ : Unit => [(a_t, .inr (7, [.ref a_t_v, .ref a_t_past, .ref a_t_costs, .int t_edits, .int t_thrown, .ref a_t_into, .ref a_t_isNeeded, .ref a_t_depths, .ref a_t_names, .ref a_t_out, .int t_outs, .ref a_t_has])), (a_t_v, .inl (ca 0, 206, .inl f_t_v))]) A) A
def wX9_digitsOf_31 (x3_5 : Int32) (x4_5 : Int32) (K5 : Int32 → Int32 → Prop) (y1_31 : Int32) : Prop :=
  (∀ x3_32 : Int32, x3_32 = x3_5 + y1_31 → (∀ x4_33 : Int32, x4_33 = x4_5 + 1 → K5 x3_32 x4_33))
def wX9_digitsOf_5 (f_t_v : Nat → Int32) (x1 : Int64) (Q : Int32 → Prop) : Nat → Int32 → Int32 → Prop
  | 0, _, _ => False
  | n9 + 1, x3_5, x4_5 =>
  (vp_in 0 206 ∧ (((f_t_v (0 : Int32).toNatClampNeg) ≤ x4_5 → Q x3_5) ∧ (¬ (f_t_v (0 : Int32).toNatClampNeg) ≤ x4_5 → wX9_digitAt x1 x4_5 (fun r_20 => ((r_20 = 0 → wX9_digitsOf_31 x3_5 x4_5 (wX9_digitsOf_5 f_t_v x1 Q n9) 0) ∧ (¬ r_20 = 0 → wX9_digitsOf_31 x3_5 x4_5 (wX9_digitsOf_5 f_t_v x1 Q n9) 1))))))
def wX9_digitsOf (f_t_v : Nat → Int32) (x1 : Int64) (Q : Int32 → Prop) : Prop :=
  (∃ k9, wX9_digitsOf_5 f_t_v x1 Q k9 0 0)
set_option maxHeartbeats 4000000 in
set_option maxRecDepth 100000 in
theorem mX9_digitsOf (l : Launch) (D : va_G) (ca : Nat → ClassId) (a_t a_t_v a_t_past a_t_costs a_t_into a_t_isNeeded a_t_depths a_t_names a_t_out a_t_has : Nat) (sz : Nat) (t_edits : Int32) (t_thrown : Int32) (t_outs : Int32) (f_t_v : Nat → Int32) (x1 : Int64) (Q : Int32 → Prop) (h : wX9_digitsOf f_t_v x1 Q) : Met l yX9_digitsOf (Cond.code yX9_digitsOf cX9_digitsOf 5 (some .int) :: wsG) ({ frames := 1, cells := 0, slots := 0, locals := 24 } : Room) (va_Pc [.ref a_t, .long x1] (wPre D ca [(a_t, .inr (7, [.ref a_t_v, .ref a_t_past, .ref a_t_costs, .int t_edits, .int t_thrown, .ref a_t_into, .ref a_t_isNeeded, .ref a_t_depths, .ref a_t_names, .ref a_t_out, .int t_outs, .ref a_t_has])), (a_t_v, .inl (ca 0, 206, .inl f_t_v))] sz)) (qX9_digitsOf D ca a_t a_t_v a_t_past a_t_costs a_t_into a_t_isNeeded a_t_depths a_t_names a_t_out a_t_has t_edits t_thrown t_outs f_t_v Q (va_A [(a_t, .inr (7, [.ref a_t_v, .ref a_t_past, .ref a_t_costs, .int t_edits, .int t_thrown, .ref a_t_into, .ref a_t_isNeeded, .ref a_t_depths, .ref a_t_names, .ref a_t_out, .int t_outs, .ref a_t_has])), (a_t_v, .inl (ca 0, 206, .inl f_t_v))] sz)) 0 0 (va_A [(a_t, .inr (7, [.ref a_t_v, .ref a_t_past, .ref a_t_costs, .int t_edits, .int t_thrown, .ref a_t_into, .ref a_t_isNeeded, .ref a_t_depths, .ref a_t_names, .ref a_t_out, .int t_outs, .ref a_t_has])), (a_t_v, .inl (ca 0, 206, .inl f_t_v))] sz) := by
  refine Met.ofW (cc := cX9_digitsOf) (maxL := 5) (ret := (some .int)) (by decide) rfl ?_
  intro p e s m args below meth c s₁ B hml hv
  obtain ⟨rfl, hsz, hP, hK, hD0⟩ := hv
  have hx := B.exec
  have hb := B.bytes
  have hr := B.returns
  have hts := atoms_spec (ws := (Cond.code yX9_digitsOf cX9_digitsOf 5 (some .int) :: wsG)) B.pre
  have hq : ∀ w ∈ wsG, w.before _ s = true := fun w hw => hts w (List.mem_cons_of_mem _ hw)
  have hown : s.vm.findClass RX9 = some m.cls := findClass_of_methodNamed B.named
  have hlocks := B.notSynchronized
  subst hsz
  have hD := hD0.self (sz := s.heap.size)
  generalize hAe : va_A [(a_t, .inr (7, [.ref a_t_v, .ref a_t_past, .ref a_t_costs, .int t_edits, .int t_thrown, .ref a_t_into, .ref a_t_isNeeded, .ref a_t_depths, .ref a_t_names, .ref a_t_out, .int t_outs, .ref a_t_has])), (a_t_v, .inl (ca 0, 206, .inl f_t_v))] s.heap.size = A at hD ⊢
  have hA : ∀ q : Nat, s.heap.size ≤ q → A q := fun q h => by rw [← hAe]; exact Or.inr h
  have hS : va_S A s.heap s.heap [] := va_S.rf
  have hP : va_P D vwCl [(a_t, .inr (7, [.ref a_t_v, .ref a_t_past, .ref a_t_costs, .int t_edits, .int t_thrown, .ref a_t_into, .ref a_t_isNeeded, .ref a_t_depths, .ref a_t_names, .ref a_t_out, .int t_outs, .ref a_t_has])), (a_t_v, .inl (ca 0, 206, .inl f_t_v))] s.heap := hP
  have hl := lv_entry ([.ref a_t, .long x1]) (n := 5) (Nat.le_of_ble_eq_true rfl)
  rw [lg_entry_eq]
  generalize (lg_sl ([.ref a_t, .long x1]) ++ List.replicate (5 - (lg_sl ([.ref a_t, .long x1])).length) Slot.unset).toArray = ls at hl ⊢
  have hl : lv_has ls 5 [(0, .ref a_t), (1, .long x1)] := hl
  unfold wX9_digitsOf at h
  refine lv_iconst (v := 0) hx hb dX9_digitsOf_0 (by decide) ?_
  refine lv_istore_n (lv' := [(3, .int 0), (0, .ref a_t), (1, .long x1)]) hx hb dX9_digitsOf_1 rfl hl (by decide) rfl (fun ls hl => ?_)
  refine lv_iconst (v := 0) hx hb dX9_digitsOf_2 (by decide) ?_
  refine lv_istore (lv' := [(4, .int 0), (3, .int 0), (0, .ref a_t), (1, .long x1)]) hx hb dX9_digitsOf_3 hl (by decide) rfl (fun ls hl => ?_)
  have hL5 : ∀ (n9_5 : Nat) (x3_5 : Int32) (x4_5 : Int32) (H : Heap) (locs : List Loc) (ls : Array Slot), va_P D vwCl [(a_t, .inr (7, [.ref a_t_v, .ref a_t_past, .ref a_t_costs, .int t_edits, .int t_thrown, .ref a_t_into, .ref a_t_isNeeded, .ref a_t_depths, .ref a_t_names, .ref a_t_out, .int t_outs, .ref a_t_has])), (a_t_v, .inl (ca 0, 206, .inl f_t_v))] H → va_D A [(a_t, .inr (7, [.ref a_t_v, .ref a_t_past, .ref a_t_costs, .int t_edits, .int t_thrown, .ref a_t_into, .ref a_t_isNeeded, .ref a_t_depths, .ref a_t_names, .ref a_t_out, .int t_outs, .ref a_t_has])), (a_t_v, .inl (ca 0, 206, .inl f_t_v))] → va_S A s.heap H locs → lv_has ls 5 [(0, .ref a_t), (1, .long x1), (3, .int x3_5), (4, .int x4_5)] → wX9_digitsOf_5 f_t_v x1 Q n9_5 x3_5 x4_5 → W p l e (headSpec (Cond.code yX9_digitsOf cX9_digitsOf 5 (some .int) :: wsG) ({ frames := 1, cells := 0, slots := 0, locals := 24 } : Room)).room s m ([.ref a_t, .long x1] : List Value).toArray below meth c H locs 0 0 (MQ below (qX9_digitsOf D ca a_t a_t_v a_t_past a_t_costs a_t_into a_t_isNeeded a_t_depths a_t_names a_t_out a_t_has t_edits t_thrown t_outs f_t_v Q A) ([.ref a_t, .long x1] : List Value).toArray s 0 0 A) (F0 m 5 ls []) := by
    intro n9_5
    induction n9_5 with
    | zero =>
      intro x3_5 x4_5 H locs ls hP hD hS hl h
      exact False.elim h
    | succ n9_5 ih5 =>
      intro x3_5 x4_5 H locs ls hP hD hS hl h
      unfold wX9_digitsOf_5 at h
      refine lv_iload hx hb dX9_digitsOf_5 (lv_at hl 3 rfl) ?_
      refine lv_aload_n hx hb dX9_digitsOf_7 rfl (lv_at hl 0 rfl) ?_
      refine va_get (D := D) (ci := 7) (v := .ref a_t_v) (C := RX9) (T := TX9) (N := 12) hx hb hq inX9g hown hK hP 0 rfl rfl 0 (by decide) (hq _ q_881) (fun _ h9 => h9) rfl dX9_digitsOf_8 ?_
      refine lv_iconst (v := 0) hx hb dX9_digitsOf_11 (by decide) ?_
      obtain ⟨hi9, h⟩ := h
      refine va_iald hx hb hK hP 1 0 rfl rfl hi9 dX9_digitsOf_12 ?_
      refine lv_icmp_ge (tgt := 39) hx hb dX9_digitsOf_13 (by decide) (fun c9 => ?_) (fun c9 => ?_)
      · have h := h.1 c9
        refine lv_iload_n hx hb dX9_digitsOf_39 rfl (lv_at hl 2 rfl) ?_
        exact W.iret (v := x3_5) hx hb hr (fun t ht hW => ⟨⟨x3_5, (), rfl, h, by rw [ht]; exact hP, va_K.moved hW.alike hK, hD⟩, hS.F ht⟩) hS.2.2 dX9_digitsOf_40
      · have h := h.2 c9
        refine lv_iload_n hx hb dX9_digitsOf_16 rfl (lv_at hl 2 rfl) ?_
        refine lv_lload_n hx hb dX9_digitsOf_17 rfl (lv_at hl 1 rfl) ?_
        refine lv_iload hx hb dX9_digitsOf_18 (lv_at hl 3 rfl) ?_
        refine cPi (As := [.long x1, .int x4_5]) (rest := [.int x3_5]) ⟨hx, hb, hml, hown, hts⟩ (mX9_digitAt l x1 x4_5 _ h) (va_cwS 2 hts (gS q_1014 q_1015 q_8 q_1016) rfl rfl rfl (by decide +kernel) ⟨Nat.le_of_ble_eq_true rfl, Nat.le_of_ble_eq_true rfl⟩) hS rfl hl.1 rfl (Nat.le_of_ble_eq_true rfl) dX9_digitsOf_20 ⟨Nat.le_of_ble_eq_true rfl, Nat.le_of_ble_eq_true rfl⟩ (fun r_20 H1 locs h hk1 hS => ?_)
        have hP := s_back hP hk1
        try dsimp only at h
        have hJ31 : ∀ (y1_31 : Int32) (H : Heap) (locs : List Loc) (ls : Array Slot), va_P D vwCl [(a_t, .inr (7, [.ref a_t_v, .ref a_t_past, .ref a_t_costs, .int t_edits, .int t_thrown, .ref a_t_into, .ref a_t_isNeeded, .ref a_t_depths, .ref a_t_names, .ref a_t_out, .int t_outs, .ref a_t_has])), (a_t_v, .inl (ca 0, 206, .inl f_t_v))] H → va_D A [(a_t, .inr (7, [.ref a_t_v, .ref a_t_past, .ref a_t_costs, .int t_edits, .int t_thrown, .ref a_t_into, .ref a_t_isNeeded, .ref a_t_depths, .ref a_t_names, .ref a_t_out, .int t_outs, .ref a_t_has])), (a_t_v, .inl (ca 0, 206, .inl f_t_v))] → va_S A s.heap H locs → lv_has ls 5 [(0, .ref a_t), (1, .long x1), (4, .int x4_5)] → wX9_digitsOf_31 x3_5 x4_5 (wX9_digitsOf_5 f_t_v x1 Q n9_5) y1_31 → W p l e (headSpec (Cond.code yX9_digitsOf cX9_digitsOf 5 (some .int) :: wsG) ({ frames := 1, cells := 0, slots := 0, locals := 24 } : Room)).room s m ([.ref a_t, .long x1] : List Value).toArray below meth c H locs 0 0 (MQ below (qX9_digitsOf D ca a_t a_t_v a_t_past a_t_costs a_t_into a_t_isNeeded a_t_depths a_t_names a_t_out a_t_has t_edits t_thrown t_outs f_t_v Q A) ([.ref a_t, .long x1] : List Value).toArray s 0 0 A) (F0 m 31 ls [.int y1_31, .int x3_5]) := by
          intro y1_31 H locs ls hP hD hS hl h
          unfold wX9_digitsOf_31 at h
          refine lv_iadd hx hb dX9_digitsOf_31 ?_
          refine lv_topi (fun x3_32 ex3_32 => ?_)
          have h := h x3_32 ex3_32
          refine lv_istore_n (lv' := [(3, .int x3_32), (0, .ref a_t), (1, .long x1), (4, .int x4_5)]) hx hb dX9_digitsOf_32 rfl hl (by decide) rfl (fun ls hl => ?_)
          obtain ⟨x4_33, ex4_33⟩ : ∃ y : Int32, y = x4_5 + 1 := ⟨_, rfl⟩
          have h := h x4_33 ex4_33
          refine lv_iinc (v := x4_33) (lv' := [(4, .int x4_33), (3, .int x3_32), (0, .ref a_t), (1, .long x1)]) hx hb dX9_digitsOf_33 hl (k := 3) rfl (by rw [ex4_33]; rfl) (by decide) rfl (fun ls hl => ?_)
          refine lv_goto (tgt := 5) hx hb dX9_digitsOf_36 (by decide) ?_
          exact ih5 x3_32 x4_33 _ _ _ hP hD hS (lv_sub hl [2, 3, 1, 0] rfl) h
        refine lv_if_ne (tgt := 30) hx hb dX9_digitsOf_23 (by decide) (fun c9 => ?_) (fun c9 => ?_)
        · have h := h.2 c9
          refine lv_iconst (v := 1) hx hb dX9_digitsOf_30 (by decide) ?_
          exact hJ31 1 _ _ _ hP hD hS (lv_sub hl [0, 1, 3] rfl) h
        · have h := h.1 c9
          refine lv_iconst (v := 0) hx hb dX9_digitsOf_26 (by decide) ?_
          refine lv_goto (tgt := 31) hx hb dX9_digitsOf_27 (by decide) ?_
          exact hJ31 0 _ _ _ hP hD hS (lv_sub hl [0, 1, 3] rfl) h
  obtain ⟨k9, h⟩ := h
  exact hL5 k9 0 0 _ _ _ hP hD hS (lv_sub hl [2, 3, 1, 0] rfl) h

abbrev qX9_writes (D : va_G) (ca : Nat → ClassId) (a_t a_t_v a_t_past a_t_costs a_t_into a_t_isNeeded a_t_depths a_t_names a_t_out a_t_has : Nat) (t_edits : Int32) (t_thrown : Int32) (t_outs : Int32) (Q : Int32 → (Nat → Int32) → Prop) (A : Nat → Prop) : Array Value → State → Outcome → State → Prop := va_Qi (fun (r : Int32) (u : (Nat → Int32)) => Q r u) (wEnd D ca (fun u : (Nat → Int32) => [(a_t, .inr (7, [.ref a_t_v, .ref a_t_past, .ref a_t_costs, .int t_edits, .int t_thrown, .ref a_t_into, .ref a_t_isNeeded, .ref a_t_depths, .ref a_t_names, .ref a_t_out, .int t_outs, .ref a_t_has])), (a_t_v, .inl (ca 0, 206, .inl u))]) A) A
def wX9_writes_67 (f_t_v : Nat → Int32) (x1 : Int32) (x3 : Int64) (x6 : Int64) (Q : Int32 → (Nat → Int32) → Prop) (x8_10 : Int32) (y2_37 : Int32) (y2_67 : Int32) : Prop :=
  (vp_in (x8_10 + 3) 206 ∧ (vp_in (x8_10 + 4) 206 ∧ (vp_in 3 206 ∧ (vp_in 3 206 ∧ (vp_in 3 206 ∧ Q ((upd (upd (upd (upd (upd (upd f_t_v x8_10.toNatClampNeg x1) (x8_10 + 1).toNatClampNeg y2_37) (x8_10 + 2).toNatClampNeg x3.toInt32) (x8_10 + 3).toNatClampNeg y2_67) (x8_10 + 4).toNatClampNeg x6.toInt32) (3 : Int32).toNatClampNeg (((upd (upd (upd (upd (upd f_t_v x8_10.toNatClampNeg x1) (x8_10 + 1).toNatClampNeg y2_37) (x8_10 + 2).toNatClampNeg x3.toInt32) (x8_10 + 3).toNatClampNeg y2_67) (x8_10 + 4).toNatClampNeg x6.toInt32) (3 : Int32).toNatClampNeg) + 1)) (3 : Int32).toNatClampNeg) (upd (upd (upd (upd (upd (upd f_t_v x8_10.toNatClampNeg x1) (x8_10 + 1).toNatClampNeg y2_37) (x8_10 + 2).toNatClampNeg x3.toInt32) (x8_10 + 3).toNatClampNeg y2_67) (x8_10 + 4).toNatClampNeg x6.toInt32) (3 : Int32).toNatClampNeg (((upd (upd (upd (upd (upd f_t_v x8_10.toNatClampNeg x1) (x8_10 + 1).toNatClampNeg y2_37) (x8_10 + 2).toNatClampNeg x3.toInt32) (x8_10 + 3).toNatClampNeg y2_67) (x8_10 + 4).toNatClampNeg x6.toInt32) (3 : Int32).toNatClampNeg) + 1)))))))
def wX9_writes_37 (f_t_v : Nat → Int32) (x1 : Int32) (x3 : Int64) (x5 : Int32) (x6 : Int64) (Q : Int32 → (Nat → Int32) → Prop) (x8_10 : Int32) (y2_37 : Int32) : Prop :=
  (vp_in (x8_10 + 1) 206 ∧ (vp_in (x8_10 + 2) 206 ∧ ((x5 = 0 → wX9_writes_67 f_t_v x1 x3 x6 Q x8_10 y2_37 0) ∧ (¬ x5 = 0 → wX9_writes_67 f_t_v x1 x3 x6 Q x8_10 y2_37 1))))
def wX9_writes (f_t_v : Nat → Int32) (x1 : Int32) (x2 : Int32) (x3 : Int64) (x5 : Int32) (x6 : Int64) (Q : Int32 → (Nat → Int32) → Prop) : Prop :=
  (vp_in 3 206 ∧ (∀ x8_10 : Int32, x8_10 = 5 + (5 * (f_t_v (3 : Int32).toNatClampNeg)) → (vp_in x8_10 206 ∧ ((x2 = 0 → wX9_writes_37 f_t_v x1 x3 x5 x6 Q x8_10 0) ∧ (¬ x2 = 0 → wX9_writes_37 f_t_v x1 x3 x5 x6 Q x8_10 1)))))
set_option maxHeartbeats 4000000 in
set_option maxRecDepth 100000 in
theorem mX9_writes (l : Launch) (D : va_G) (ca : Nat → ClassId) (a_t a_t_v a_t_past a_t_costs a_t_into a_t_isNeeded a_t_depths a_t_names a_t_out a_t_has : Nat) (sz : Nat) (t_edits : Int32) (t_thrown : Int32) (t_outs : Int32) (f_t_v : Nat → Int32) (x1 : Int32) (x2 : Int32) (x3 : Int64) (x5 : Int32) (x6 : Int64) (Q : Int32 → (Nat → Int32) → Prop) (h : wX9_writes f_t_v x1 x2 x3 x5 x6 Q) : Met l yX9_writes (Cond.code yX9_writes cX9_writes 9 (some .int) :: wsG) ({ frames := 0, cells := 0, slots := 0, locals := 0 } : Room) (va_Pc [.ref a_t, .int x1, .int x2, .long x3, .int x5, .long x6] (wPre D ca [(a_t, .inr (7, [.ref a_t_v, .ref a_t_past, .ref a_t_costs, .int t_edits, .int t_thrown, .ref a_t_into, .ref a_t_isNeeded, .ref a_t_depths, .ref a_t_names, .ref a_t_out, .int t_outs, .ref a_t_has])), (a_t_v, .inl (ca 0, 206, .inl f_t_v))] sz)) (qX9_writes D ca a_t a_t_v a_t_past a_t_costs a_t_into a_t_isNeeded a_t_depths a_t_names a_t_out a_t_has t_edits t_thrown t_outs Q (va_A [(a_t, .inr (7, [.ref a_t_v, .ref a_t_past, .ref a_t_costs, .int t_edits, .int t_thrown, .ref a_t_into, .ref a_t_isNeeded, .ref a_t_depths, .ref a_t_names, .ref a_t_out, .int t_outs, .ref a_t_has])), (a_t_v, .inl (ca 0, 206, .inl f_t_v))] sz)) 0 0 (va_A [(a_t, .inr (7, [.ref a_t_v, .ref a_t_past, .ref a_t_costs, .int t_edits, .int t_thrown, .ref a_t_into, .ref a_t_isNeeded, .ref a_t_depths, .ref a_t_names, .ref a_t_out, .int t_outs, .ref a_t_has])), (a_t_v, .inl (ca 0, 206, .inl f_t_v))] sz) := by
  refine Met.ofW (cc := cX9_writes) (maxL := 9) (ret := (some .int)) (by decide) rfl ?_
  intro p e s m args below meth c s₁ B hml hv
  obtain ⟨rfl, hsz, hP, hK, hD0⟩ := hv
  have hx := B.exec
  have hb := B.bytes
  have hr := B.returns
  have hts := atoms_spec (ws := (Cond.code yX9_writes cX9_writes 9 (some .int) :: wsG)) B.pre
  have hq : ∀ w ∈ wsG, w.before _ s = true := fun w hw => hts w (List.mem_cons_of_mem _ hw)
  have hown : s.vm.findClass RX9 = some m.cls := findClass_of_methodNamed B.named
  have hlocks := B.notSynchronized
  subst hsz
  have hD := hD0.self (sz := s.heap.size)
  generalize hAe : va_A [(a_t, .inr (7, [.ref a_t_v, .ref a_t_past, .ref a_t_costs, .int t_edits, .int t_thrown, .ref a_t_into, .ref a_t_isNeeded, .ref a_t_depths, .ref a_t_names, .ref a_t_out, .int t_outs, .ref a_t_has])), (a_t_v, .inl (ca 0, 206, .inl f_t_v))] s.heap.size = A at hD ⊢
  have hA : ∀ q : Nat, s.heap.size ≤ q → A q := fun q h => by rw [← hAe]; exact Or.inr h
  have hS : va_S A s.heap s.heap [] := va_S.rf
  have hP : va_P D vwCl [(a_t, .inr (7, [.ref a_t_v, .ref a_t_past, .ref a_t_costs, .int t_edits, .int t_thrown, .ref a_t_into, .ref a_t_isNeeded, .ref a_t_depths, .ref a_t_names, .ref a_t_out, .int t_outs, .ref a_t_has])), (a_t_v, .inl (ca 0, 206, .inl f_t_v))] s.heap := hP
  have hl := lv_entry ([.ref a_t, .int x1, .int x2, .long x3, .int x5, .long x6]) (n := 9) (Nat.le_of_ble_eq_true rfl)
  rw [lg_entry_eq]
  generalize (lg_sl ([.ref a_t, .int x1, .int x2, .long x3, .int x5, .long x6]) ++ List.replicate (9 - (lg_sl ([.ref a_t, .int x1, .int x2, .long x3, .int x5, .long x6])).length) Slot.unset).toArray = ls at hl ⊢
  have hl : lv_has ls 9 [(0, .ref a_t), (1, .int x1), (2, .int x2), (3, .long x3), (5, .int x5), (6, .long x6)] := hl
  unfold wX9_writes at h
  refine lv_iconst (v := 5) hx hb dX9_writes_0 (by decide) ?_
  refine lv_iconst (v := 5) hx hb dX9_writes_1 (by decide) ?_
  refine lv_aload_n hx hb dX9_writes_2 rfl (lv_at hl 0 rfl) ?_
  refine va_get (D := D) (ci := 7) (v := .ref a_t_v) (C := RX9) (T := TX9) (N := 12) hx hb hq inX9g hown hK hP 0 rfl rfl 0 (by decide) (hq _ q_881) (fun _ h9 => h9) rfl dX9_writes_3 ?_
  refine lv_iconst (v := 3) hx hb dX9_writes_6 (by decide) ?_
  obtain ⟨hi9, h⟩ := h
  refine va_iald hx hb hK hP 1 0 rfl rfl hi9 dX9_writes_7 ?_
  refine lv_imul hx hb dX9_writes_8 ?_
  refine lv_iadd hx hb dX9_writes_9 ?_
  refine lv_topi (fun x8_10 ex8_10 => ?_)
  have h := h x8_10 ex8_10
  refine lv_istore (lv' := [(8, .int x8_10), (0, .ref a_t), (1, .int x1), (2, .int x2), (3, .long x3), (5, .int x5), (6, .long x6)]) hx hb dX9_writes_10 hl (by decide) rfl (fun ls hl => ?_)
  refine lv_aload_n hx hb dX9_writes_12 rfl (lv_at hl 1 rfl) ?_
  refine va_get (D := D) (ci := 7) (v := .ref a_t_v) (C := RX9) (T := TX9) (N := 12) hx hb hq inX9g hown hK hP 0 rfl rfl 0 (by decide) (hq _ q_881) (fun _ h9 => h9) rfl dX9_writes_13 ?_
  refine lv_iload hx hb dX9_writes_16 (lv_at hl 0 rfl) ?_
  refine lv_iload_n hx hb dX9_writes_18 rfl (lv_at hl 2 rfl) ?_
  obtain ⟨hi9, h⟩ := h
  refine va_iast hx hb hK hP hD hS 1 0 rfl rfl hi9 dX9_writes_19 (fun H locs hP hD hS => ?_)
  have hP : va_P D vwCl [(a_t, .inr (7, [.ref a_t_v, .ref a_t_past, .ref a_t_costs, .int t_edits, .int t_thrown, .ref a_t_into, .ref a_t_isNeeded, .ref a_t_depths, .ref a_t_names, .ref a_t_out, .int t_outs, .ref a_t_has])), (a_t_v, .inl (ca 0, 206, .inl (upd f_t_v x8_10.toNatClampNeg x1)))] H := hP
  have hD : va_D A [(a_t, .inr (7, [.ref a_t_v, .ref a_t_past, .ref a_t_costs, .int t_edits, .int t_thrown, .ref a_t_into, .ref a_t_isNeeded, .ref a_t_depths, .ref a_t_names, .ref a_t_out, .int t_outs, .ref a_t_has])), (a_t_v, .inl (ca 0, 206, .inl (upd f_t_v x8_10.toNatClampNeg x1)))] := hD
  refine lv_aload_n hx hb dX9_writes_20 rfl (lv_at hl 1 rfl) ?_
  refine va_get (D := D) (ci := 7) (v := .ref a_t_v) (C := RX9) (T := TX9) (N := 12) hx hb hq inX9g hown hK hP 0 rfl rfl 0 (by decide) (hq _ q_881) (fun _ h9 => h9) rfl dX9_writes_21 ?_
  refine lv_iload hx hb dX9_writes_24 (lv_at hl 0 rfl) ?_
  refine lv_iconst (v := 1) hx hb dX9_writes_26 (by decide) ?_
  refine lv_iadd hx hb dX9_writes_27 ?_
  refine lv_iload_n hx hb dX9_writes_28 rfl (lv_at hl 3 rfl) ?_
  have hJ37 : ∀ (y2_37 : Int32) (H : Heap) (locs : List Loc) (ls : Array Slot), va_P D vwCl [(a_t, .inr (7, [.ref a_t_v, .ref a_t_past, .ref a_t_costs, .int t_edits, .int t_thrown, .ref a_t_into, .ref a_t_isNeeded, .ref a_t_depths, .ref a_t_names, .ref a_t_out, .int t_outs, .ref a_t_has])), (a_t_v, .inl (ca 0, 206, .inl (upd f_t_v x8_10.toNatClampNeg x1)))] H → va_D A [(a_t, .inr (7, [.ref a_t_v, .ref a_t_past, .ref a_t_costs, .int t_edits, .int t_thrown, .ref a_t_into, .ref a_t_isNeeded, .ref a_t_depths, .ref a_t_names, .ref a_t_out, .int t_outs, .ref a_t_has])), (a_t_v, .inl (ca 0, 206, .inl (upd f_t_v x8_10.toNatClampNeg x1)))] → va_S A s.heap H locs → lv_has ls 9 [(0, .ref a_t), (3, .long x3), (5, .int x5), (6, .long x6), (8, .int x8_10)] → wX9_writes_37 f_t_v x1 x3 x5 x6 Q x8_10 y2_37 → W p l e (headSpec (Cond.code yX9_writes cX9_writes 9 (some .int) :: wsG) ({ frames := 0, cells := 0, slots := 0, locals := 0 } : Room)).room s m ([.ref a_t, .int x1, .int x2, .long x3, .int x5, .long x6] : List Value).toArray below meth c H locs 0 0 (MQ below (qX9_writes D ca a_t a_t_v a_t_past a_t_costs a_t_into a_t_isNeeded a_t_depths a_t_names a_t_out a_t_has t_edits t_thrown t_outs Q A) ([.ref a_t, .int x1, .int x2, .long x3, .int x5, .long x6] : List Value).toArray s 0 0 A) (F0 m 37 ls [.int y2_37, .int (x8_10 + 1), .ref a_t_v]) := by
    intro y2_37 H locs ls hP hD hS hl h
    unfold wX9_writes_37 at h
    obtain ⟨hi9, h⟩ := h
    refine va_iast hx hb hK hP hD hS 1 0 rfl rfl hi9 dX9_writes_37 (fun H locs hP hD hS => ?_)
    have hP : va_P D vwCl [(a_t, .inr (7, [.ref a_t_v, .ref a_t_past, .ref a_t_costs, .int t_edits, .int t_thrown, .ref a_t_into, .ref a_t_isNeeded, .ref a_t_depths, .ref a_t_names, .ref a_t_out, .int t_outs, .ref a_t_has])), (a_t_v, .inl (ca 0, 206, .inl (upd (upd f_t_v x8_10.toNatClampNeg x1) (x8_10 + 1).toNatClampNeg y2_37)))] H := hP
    have hD : va_D A [(a_t, .inr (7, [.ref a_t_v, .ref a_t_past, .ref a_t_costs, .int t_edits, .int t_thrown, .ref a_t_into, .ref a_t_isNeeded, .ref a_t_depths, .ref a_t_names, .ref a_t_out, .int t_outs, .ref a_t_has])), (a_t_v, .inl (ca 0, 206, .inl (upd (upd f_t_v x8_10.toNatClampNeg x1) (x8_10 + 1).toNatClampNeg y2_37)))] := hD
    refine lv_aload_n hx hb dX9_writes_38 rfl (lv_at hl 0 rfl) ?_
    refine va_get (D := D) (ci := 7) (v := .ref a_t_v) (C := RX9) (T := TX9) (N := 12) hx hb hq inX9g hown hK hP 0 rfl rfl 0 (by decide) (hq _ q_881) (fun _ h9 => h9) rfl dX9_writes_39 ?_
    refine lv_iload hx hb dX9_writes_42 (lv_at hl 4 rfl) ?_
    refine lv_iconst (v := 2) hx hb dX9_writes_44 (by decide) ?_
    refine lv_iadd hx hb dX9_writes_45 ?_
    refine lv_lload_n hx hb dX9_writes_46 rfl (lv_at hl 1 rfl) ?_
    refine lv_l2i hx hb dX9_writes_47 rfl ?_
    obtain ⟨hi9, h⟩ := h
    refine va_iast hx hb hK hP hD hS 1 0 rfl rfl hi9 dX9_writes_48 (fun H locs hP hD hS => ?_)
    have hP : va_P D vwCl [(a_t, .inr (7, [.ref a_t_v, .ref a_t_past, .ref a_t_costs, .int t_edits, .int t_thrown, .ref a_t_into, .ref a_t_isNeeded, .ref a_t_depths, .ref a_t_names, .ref a_t_out, .int t_outs, .ref a_t_has])), (a_t_v, .inl (ca 0, 206, .inl (upd (upd (upd f_t_v x8_10.toNatClampNeg x1) (x8_10 + 1).toNatClampNeg y2_37) (x8_10 + 2).toNatClampNeg x3.toInt32)))] H := hP
    have hD : va_D A [(a_t, .inr (7, [.ref a_t_v, .ref a_t_past, .ref a_t_costs, .int t_edits, .int t_thrown, .ref a_t_into, .ref a_t_isNeeded, .ref a_t_depths, .ref a_t_names, .ref a_t_out, .int t_outs, .ref a_t_has])), (a_t_v, .inl (ca 0, 206, .inl (upd (upd (upd f_t_v x8_10.toNatClampNeg x1) (x8_10 + 1).toNatClampNeg y2_37) (x8_10 + 2).toNatClampNeg x3.toInt32)))] := hD
    refine lv_aload_n hx hb dX9_writes_49 rfl (lv_at hl 0 rfl) ?_
    refine va_get (D := D) (ci := 7) (v := .ref a_t_v) (C := RX9) (T := TX9) (N := 12) hx hb hq inX9g hown hK hP 0 rfl rfl 0 (by decide) (hq _ q_881) (fun _ h9 => h9) rfl dX9_writes_50 ?_
    refine lv_iload hx hb dX9_writes_53 (lv_at hl 4 rfl) ?_
    refine lv_iconst (v := 3) hx hb dX9_writes_55 (by decide) ?_
    refine lv_iadd hx hb dX9_writes_56 ?_
    refine lv_iload hx hb dX9_writes_57 (lv_at hl 2 rfl) ?_
    have hJ67 : ∀ (y2_67 : Int32) (H : Heap) (locs : List Loc) (ls : Array Slot), va_P D vwCl [(a_t, .inr (7, [.ref a_t_v, .ref a_t_past, .ref a_t_costs, .int t_edits, .int t_thrown, .ref a_t_into, .ref a_t_isNeeded, .ref a_t_depths, .ref a_t_names, .ref a_t_out, .int t_outs, .ref a_t_has])), (a_t_v, .inl (ca 0, 206, .inl (upd (upd (upd f_t_v x8_10.toNatClampNeg x1) (x8_10 + 1).toNatClampNeg y2_37) (x8_10 + 2).toNatClampNeg x3.toInt32)))] H → va_D A [(a_t, .inr (7, [.ref a_t_v, .ref a_t_past, .ref a_t_costs, .int t_edits, .int t_thrown, .ref a_t_into, .ref a_t_isNeeded, .ref a_t_depths, .ref a_t_names, .ref a_t_out, .int t_outs, .ref a_t_has])), (a_t_v, .inl (ca 0, 206, .inl (upd (upd (upd f_t_v x8_10.toNatClampNeg x1) (x8_10 + 1).toNatClampNeg y2_37) (x8_10 + 2).toNatClampNeg x3.toInt32)))] → va_S A s.heap H locs → lv_has ls 9 [(0, .ref a_t), (6, .long x6), (8, .int x8_10)] → wX9_writes_67 f_t_v x1 x3 x6 Q x8_10 y2_37 y2_67 → W p l e (headSpec (Cond.code yX9_writes cX9_writes 9 (some .int) :: wsG) ({ frames := 0, cells := 0, slots := 0, locals := 0 } : Room)).room s m ([.ref a_t, .int x1, .int x2, .long x3, .int x5, .long x6] : List Value).toArray below meth c H locs 0 0 (MQ below (qX9_writes D ca a_t a_t_v a_t_past a_t_costs a_t_into a_t_isNeeded a_t_depths a_t_names a_t_out a_t_has t_edits t_thrown t_outs Q A) ([.ref a_t, .int x1, .int x2, .long x3, .int x5, .long x6] : List Value).toArray s 0 0 A) (F0 m 67 ls [.int y2_67, .int (x8_10 + 3), .ref a_t_v]) := by
      intro y2_67 H locs ls hP hD hS hl h
      unfold wX9_writes_67 at h
      obtain ⟨hi9, h⟩ := h
      refine va_iast hx hb hK hP hD hS 1 0 rfl rfl hi9 dX9_writes_67 (fun H locs hP hD hS => ?_)
      have hP : va_P D vwCl [(a_t, .inr (7, [.ref a_t_v, .ref a_t_past, .ref a_t_costs, .int t_edits, .int t_thrown, .ref a_t_into, .ref a_t_isNeeded, .ref a_t_depths, .ref a_t_names, .ref a_t_out, .int t_outs, .ref a_t_has])), (a_t_v, .inl (ca 0, 206, .inl (upd (upd (upd (upd f_t_v x8_10.toNatClampNeg x1) (x8_10 + 1).toNatClampNeg y2_37) (x8_10 + 2).toNatClampNeg x3.toInt32) (x8_10 + 3).toNatClampNeg y2_67)))] H := hP
      have hD : va_D A [(a_t, .inr (7, [.ref a_t_v, .ref a_t_past, .ref a_t_costs, .int t_edits, .int t_thrown, .ref a_t_into, .ref a_t_isNeeded, .ref a_t_depths, .ref a_t_names, .ref a_t_out, .int t_outs, .ref a_t_has])), (a_t_v, .inl (ca 0, 206, .inl (upd (upd (upd (upd f_t_v x8_10.toNatClampNeg x1) (x8_10 + 1).toNatClampNeg y2_37) (x8_10 + 2).toNatClampNeg x3.toInt32) (x8_10 + 3).toNatClampNeg y2_67)))] := hD
      refine lv_aload_n hx hb dX9_writes_68 rfl (lv_at hl 0 rfl) ?_
      refine va_get (D := D) (ci := 7) (v := .ref a_t_v) (C := RX9) (T := TX9) (N := 12) hx hb hq inX9g hown hK hP 0 rfl rfl 0 (by decide) (hq _ q_881) (fun _ h9 => h9) rfl dX9_writes_69 ?_
      refine lv_iload hx hb dX9_writes_72 (lv_at hl 2 rfl) ?_
      refine lv_iconst (v := 4) hx hb dX9_writes_74 (by decide) ?_
      refine lv_iadd hx hb dX9_writes_75 ?_
      refine lv_lload hx hb dX9_writes_76 (lv_at hl 1 rfl) ?_
      refine lv_l2i hx hb dX9_writes_78 rfl ?_
      obtain ⟨hi9, h⟩ := h
      refine va_iast hx hb hK hP hD hS 1 0 rfl rfl hi9 dX9_writes_79 (fun H locs hP hD hS => ?_)
      have hP : va_P D vwCl [(a_t, .inr (7, [.ref a_t_v, .ref a_t_past, .ref a_t_costs, .int t_edits, .int t_thrown, .ref a_t_into, .ref a_t_isNeeded, .ref a_t_depths, .ref a_t_names, .ref a_t_out, .int t_outs, .ref a_t_has])), (a_t_v, .inl (ca 0, 206, .inl (upd (upd (upd (upd (upd f_t_v x8_10.toNatClampNeg x1) (x8_10 + 1).toNatClampNeg y2_37) (x8_10 + 2).toNatClampNeg x3.toInt32) (x8_10 + 3).toNatClampNeg y2_67) (x8_10 + 4).toNatClampNeg x6.toInt32)))] H := hP
      have hD : va_D A [(a_t, .inr (7, [.ref a_t_v, .ref a_t_past, .ref a_t_costs, .int t_edits, .int t_thrown, .ref a_t_into, .ref a_t_isNeeded, .ref a_t_depths, .ref a_t_names, .ref a_t_out, .int t_outs, .ref a_t_has])), (a_t_v, .inl (ca 0, 206, .inl (upd (upd (upd (upd (upd f_t_v x8_10.toNatClampNeg x1) (x8_10 + 1).toNatClampNeg y2_37) (x8_10 + 2).toNatClampNeg x3.toInt32) (x8_10 + 3).toNatClampNeg y2_67) (x8_10 + 4).toNatClampNeg x6.toInt32)))] := hD
      refine lv_aload_n hx hb dX9_writes_80 rfl (lv_at hl 0 rfl) ?_
      refine va_get (D := D) (ci := 7) (v := .ref a_t_v) (C := RX9) (T := TX9) (N := 12) hx hb hq inX9g hown hK hP 0 rfl rfl 0 (by decide) (hq _ q_881) (fun _ h9 => h9) rfl dX9_writes_81 ?_
      refine lv_iconst (v := 3) hx hb dX9_writes_84 (by decide) ?_
      refine lv_dup2_11 hx hb dX9_writes_85 rfl rfl ?_
      obtain ⟨hi9, h⟩ := h
      refine va_iald hx hb hK hP 1 0 rfl rfl hi9 dX9_writes_86 ?_
      refine lv_iconst (v := 1) hx hb dX9_writes_87 (by decide) ?_
      refine lv_iadd hx hb dX9_writes_88 ?_
      obtain ⟨hi9, h⟩ := h
      refine va_iast hx hb hK hP hD hS 1 0 rfl rfl hi9 dX9_writes_89 (fun H locs hP hD hS => ?_)
      have hP : va_P D vwCl [(a_t, .inr (7, [.ref a_t_v, .ref a_t_past, .ref a_t_costs, .int t_edits, .int t_thrown, .ref a_t_into, .ref a_t_isNeeded, .ref a_t_depths, .ref a_t_names, .ref a_t_out, .int t_outs, .ref a_t_has])), (a_t_v, .inl (ca 0, 206, .inl (upd (upd (upd (upd (upd (upd f_t_v x8_10.toNatClampNeg x1) (x8_10 + 1).toNatClampNeg y2_37) (x8_10 + 2).toNatClampNeg x3.toInt32) (x8_10 + 3).toNatClampNeg y2_67) (x8_10 + 4).toNatClampNeg x6.toInt32) (3 : Int32).toNatClampNeg (((upd (upd (upd (upd (upd f_t_v x8_10.toNatClampNeg x1) (x8_10 + 1).toNatClampNeg y2_37) (x8_10 + 2).toNatClampNeg x3.toInt32) (x8_10 + 3).toNatClampNeg y2_67) (x8_10 + 4).toNatClampNeg x6.toInt32) (3 : Int32).toNatClampNeg) + 1))))] H := hP
      have hD : va_D A [(a_t, .inr (7, [.ref a_t_v, .ref a_t_past, .ref a_t_costs, .int t_edits, .int t_thrown, .ref a_t_into, .ref a_t_isNeeded, .ref a_t_depths, .ref a_t_names, .ref a_t_out, .int t_outs, .ref a_t_has])), (a_t_v, .inl (ca 0, 206, .inl (upd (upd (upd (upd (upd (upd f_t_v x8_10.toNatClampNeg x1) (x8_10 + 1).toNatClampNeg y2_37) (x8_10 + 2).toNatClampNeg x3.toInt32) (x8_10 + 3).toNatClampNeg y2_67) (x8_10 + 4).toNatClampNeg x6.toInt32) (3 : Int32).toNatClampNeg (((upd (upd (upd (upd (upd f_t_v x8_10.toNatClampNeg x1) (x8_10 + 1).toNatClampNeg y2_37) (x8_10 + 2).toNatClampNeg x3.toInt32) (x8_10 + 3).toNatClampNeg y2_67) (x8_10 + 4).toNatClampNeg x6.toInt32) (3 : Int32).toNatClampNeg) + 1))))] := hD
      refine lv_aload_n hx hb dX9_writes_90 rfl (lv_at hl 0 rfl) ?_
      refine va_get (D := D) (ci := 7) (v := .ref a_t_v) (C := RX9) (T := TX9) (N := 12) hx hb hq inX9g hown hK hP 0 rfl rfl 0 (by decide) (hq _ q_881) (fun _ h9 => h9) rfl dX9_writes_91 ?_
      refine lv_iconst (v := 3) hx hb dX9_writes_94 (by decide) ?_
      obtain ⟨hi9, h⟩ := h
      refine va_iald hx hb hK hP 1 0 rfl rfl hi9 dX9_writes_95 ?_
      exact W.iret (v := (upd (upd (upd (upd (upd (upd f_t_v x8_10.toNatClampNeg x1) (x8_10 + 1).toNatClampNeg y2_37) (x8_10 + 2).toNatClampNeg x3.toInt32) (x8_10 + 3).toNatClampNeg y2_67) (x8_10 + 4).toNatClampNeg x6.toInt32) (3 : Int32).toNatClampNeg (((upd (upd (upd (upd (upd f_t_v x8_10.toNatClampNeg x1) (x8_10 + 1).toNatClampNeg y2_37) (x8_10 + 2).toNatClampNeg x3.toInt32) (x8_10 + 3).toNatClampNeg y2_67) (x8_10 + 4).toNatClampNeg x6.toInt32) (3 : Int32).toNatClampNeg) + 1)) (3 : Int32).toNatClampNeg) hx hb hr (fun t ht hW => ⟨⟨(upd (upd (upd (upd (upd (upd f_t_v x8_10.toNatClampNeg x1) (x8_10 + 1).toNatClampNeg y2_37) (x8_10 + 2).toNatClampNeg x3.toInt32) (x8_10 + 3).toNatClampNeg y2_67) (x8_10 + 4).toNatClampNeg x6.toInt32) (3 : Int32).toNatClampNeg (((upd (upd (upd (upd (upd f_t_v x8_10.toNatClampNeg x1) (x8_10 + 1).toNatClampNeg y2_37) (x8_10 + 2).toNatClampNeg x3.toInt32) (x8_10 + 3).toNatClampNeg y2_67) (x8_10 + 4).toNatClampNeg x6.toInt32) (3 : Int32).toNatClampNeg) + 1)) (3 : Int32).toNatClampNeg, upd (upd (upd (upd (upd (upd f_t_v x8_10.toNatClampNeg x1) (x8_10 + 1).toNatClampNeg y2_37) (x8_10 + 2).toNatClampNeg x3.toInt32) (x8_10 + 3).toNatClampNeg y2_67) (x8_10 + 4).toNatClampNeg x6.toInt32) (3 : Int32).toNatClampNeg (((upd (upd (upd (upd (upd f_t_v x8_10.toNatClampNeg x1) (x8_10 + 1).toNatClampNeg y2_37) (x8_10 + 2).toNatClampNeg x3.toInt32) (x8_10 + 3).toNatClampNeg y2_67) (x8_10 + 4).toNatClampNeg x6.toInt32) (3 : Int32).toNatClampNeg) + 1), rfl, h, by rw [ht]; exact hP, va_K.moved hW.alike hK, hD⟩, hS.F ht⟩) hS.2.2 dX9_writes_96
    refine lv_if_eq (tgt := 66) hx hb dX9_writes_59 (by decide) (fun c9 => ?_) (fun c9 => ?_)
    · have h := h.1 c9
      refine lv_iconst (v := 0) hx hb dX9_writes_66 (by decide) ?_
      exact hJ67 0 _ _ _ hP hD hS (lv_sub hl [0, 3, 4] rfl) h
    · have h := h.2 c9
      refine lv_iconst (v := 1) hx hb dX9_writes_62 (by decide) ?_
      refine lv_goto (tgt := 67) hx hb dX9_writes_63 (by decide) ?_
      exact hJ67 1 _ _ _ hP hD hS (lv_sub hl [0, 3, 4] rfl) h
  refine lv_if_eq (tgt := 36) hx hb dX9_writes_29 (by decide) (fun c9 => ?_) (fun c9 => ?_)
  · have h := h.1 c9
    refine lv_iconst (v := 0) hx hb dX9_writes_36 (by decide) ?_
    exact hJ37 0 _ _ _ hP hD hS (lv_sub hl [1, 4, 5, 6, 0] rfl) h
  · have h := h.2 c9
    refine lv_iconst (v := 1) hx hb dX9_writes_32 (by decide) ?_
    refine lv_goto (tgt := 37) hx hb dX9_writes_33 (by decide) ?_
    exact hJ37 1 _ _ _ hP hD hS (lv_sub hl [1, 4, 5, 6, 0] rfl) h

abbrev qX9_shifts (D : va_G) (ca : Nat → ClassId) (a_t a_t_v a_t_past a_t_costs a_t_into a_t_isNeeded a_t_depths a_t_names a_t_out a_t_has : Nat) (t_edits : Int32) (t_thrown : Int32) (t_outs : Int32) (Q : Int32 → (Nat → Int32) → Prop) (A : Nat → Prop) : Array Value → State → Outcome → State → Prop := va_Qi (fun (r : Int32) (u : (Nat → Int32)) => Q r u) (wEnd D ca (fun u : (Nat → Int32) => [(a_t, .inr (7, [.ref a_t_v, .ref a_t_past, .ref a_t_costs, .int t_edits, .int t_thrown, .ref a_t_into, .ref a_t_isNeeded, .ref a_t_depths, .ref a_t_names, .ref a_t_out, .int t_outs, .ref a_t_has])), (a_t_v, .inl (ca 0, 206, .inl u))]) A) A
def wX9_shifts (f_t_v : Nat → Int32) (x1 : Int32) (x2 : Int32) (x3 : Int32) (Q : Int32 → (Nat → Int32) → Prop) : Prop :=
  ((x3 = 0 → Q x2 f_t_v) ∧ (¬ x3 = 0 → wX9_writes f_t_v x1 0 x2.toInt64 1 x3.toInt64 (fun r_16 f_t_v_16 => Q r_16 f_t_v_16)))
set_option maxHeartbeats 4000000 in
set_option maxRecDepth 100000 in
theorem mX9_shifts (l : Launch) (D : va_G) (ca : Nat → ClassId) (a_t a_t_v a_t_past a_t_costs a_t_into a_t_isNeeded a_t_depths a_t_names a_t_out a_t_has : Nat) (sz : Nat) (t_edits : Int32) (t_thrown : Int32) (t_outs : Int32) (f_t_v : Nat → Int32) (x1 : Int32) (x2 : Int32) (x3 : Int32) (Q : Int32 → (Nat → Int32) → Prop) (h : wX9_shifts f_t_v x1 x2 x3 Q) : Met l yX9_shifts (Cond.code yX9_shifts cX9_shifts 4 (some .int) :: wsG) ({ frames := 1, cells := 0, slots := 0, locals := 28 } : Room) (va_Pc [.ref a_t, .int x1, .int x2, .int x3] (wPre D ca [(a_t, .inr (7, [.ref a_t_v, .ref a_t_past, .ref a_t_costs, .int t_edits, .int t_thrown, .ref a_t_into, .ref a_t_isNeeded, .ref a_t_depths, .ref a_t_names, .ref a_t_out, .int t_outs, .ref a_t_has])), (a_t_v, .inl (ca 0, 206, .inl f_t_v))] sz)) (qX9_shifts D ca a_t a_t_v a_t_past a_t_costs a_t_into a_t_isNeeded a_t_depths a_t_names a_t_out a_t_has t_edits t_thrown t_outs Q (va_A [(a_t, .inr (7, [.ref a_t_v, .ref a_t_past, .ref a_t_costs, .int t_edits, .int t_thrown, .ref a_t_into, .ref a_t_isNeeded, .ref a_t_depths, .ref a_t_names, .ref a_t_out, .int t_outs, .ref a_t_has])), (a_t_v, .inl (ca 0, 206, .inl f_t_v))] sz)) 0 0 (va_A [(a_t, .inr (7, [.ref a_t_v, .ref a_t_past, .ref a_t_costs, .int t_edits, .int t_thrown, .ref a_t_into, .ref a_t_isNeeded, .ref a_t_depths, .ref a_t_names, .ref a_t_out, .int t_outs, .ref a_t_has])), (a_t_v, .inl (ca 0, 206, .inl f_t_v))] sz) := by
  refine Met.ofW (cc := cX9_shifts) (maxL := 4) (ret := (some .int)) (by decide) rfl ?_
  intro p e s m args below meth c s₁ B hml hv
  obtain ⟨rfl, hsz, hP, hK, hD0⟩ := hv
  have hx := B.exec
  have hb := B.bytes
  have hr := B.returns
  have hts := atoms_spec (ws := (Cond.code yX9_shifts cX9_shifts 4 (some .int) :: wsG)) B.pre
  have hq : ∀ w ∈ wsG, w.before _ s = true := fun w hw => hts w (List.mem_cons_of_mem _ hw)
  have hown : s.vm.findClass RX9 = some m.cls := findClass_of_methodNamed B.named
  have hlocks := B.notSynchronized
  subst hsz
  have hD := hD0.self (sz := s.heap.size)
  generalize hAe : va_A [(a_t, .inr (7, [.ref a_t_v, .ref a_t_past, .ref a_t_costs, .int t_edits, .int t_thrown, .ref a_t_into, .ref a_t_isNeeded, .ref a_t_depths, .ref a_t_names, .ref a_t_out, .int t_outs, .ref a_t_has])), (a_t_v, .inl (ca 0, 206, .inl f_t_v))] s.heap.size = A at hD ⊢
  have hA : ∀ q : Nat, s.heap.size ≤ q → A q := fun q h => by rw [← hAe]; exact Or.inr h
  have hS : va_S A s.heap s.heap [] := va_S.rf
  have hP : va_P D vwCl [(a_t, .inr (7, [.ref a_t_v, .ref a_t_past, .ref a_t_costs, .int t_edits, .int t_thrown, .ref a_t_into, .ref a_t_isNeeded, .ref a_t_depths, .ref a_t_names, .ref a_t_out, .int t_outs, .ref a_t_has])), (a_t_v, .inl (ca 0, 206, .inl f_t_v))] s.heap := hP
  have hl := lv_entry ([.ref a_t, .int x1, .int x2, .int x3]) (n := 4) (Nat.le_of_ble_eq_true rfl)
  rw [lg_entry_eq]
  generalize (lg_sl ([.ref a_t, .int x1, .int x2, .int x3]) ++ List.replicate (4 - (lg_sl ([.ref a_t, .int x1, .int x2, .int x3])).length) Slot.unset).toArray = ls at hl ⊢
  have hl : lv_has ls 4 [(0, .ref a_t), (1, .int x1), (2, .int x2), (3, .int x3)] := hl
  unfold wX9_shifts at h
  refine lv_iload_n hx hb dX9_shifts_0 rfl (lv_at hl 3 rfl) ?_
  refine lv_if_ne (tgt := 8) hx hb dX9_shifts_1 (by decide) (fun c9 => ?_) (fun c9 => ?_)
  · have h := h.2 c9
    refine lv_aload_n hx hb dX9_shifts_8 rfl (lv_at hl 0 rfl) ?_
    refine lv_iload_n hx hb dX9_shifts_9 rfl (lv_at hl 1 rfl) ?_
    refine lv_iconst (v := 0) hx hb dX9_shifts_10 (by decide) ?_
    refine lv_iload_n hx hb dX9_shifts_11 rfl (lv_at hl 2 rfl) ?_
    refine lv_i2l hx hb dX9_shifts_12 rfl ?_
    refine lv_iconst (v := 1) hx hb dX9_shifts_13 (by decide) ?_
    refine lv_iload_n hx hb dX9_shifts_14 rfl (lv_at hl 3 rfl) ?_
    refine lv_i2l hx hb dX9_shifts_15 rfl ?_
    refine cVi (As := [.int x1, .int 0, .long x2.toInt64, .int 1, .long x3.toInt64]) (rest := []) (wc := [(a_t, .inr (7, [.ref a_t_v, .ref a_t_past, .ref a_t_costs, .int t_edits, .int t_thrown, .ref a_t_into, .ref a_t_isNeeded, .ref a_t_depths, .ref a_t_names, .ref a_t_out, .int t_outs, .ref a_t_has])), (a_t_v, .inl (ca 0, 206, .inl f_t_v))]) (wr := []) (w1 := fun u : (Nat → Int32) => [(a_t, .inr (7, [.ref a_t_v, .ref a_t_past, .ref a_t_costs, .int t_edits, .int t_thrown, .ref a_t_into, .ref a_t_isNeeded, .ref a_t_depths, .ref a_t_names, .ref a_t_out, .int t_outs, .ref a_t_has])), (a_t_v, .inl (ca 0, 206, .inl u))]) (ws2 := fun u : (Nat → Int32) => [(a_t, .inr (7, [.ref a_t_v, .ref a_t_past, .ref a_t_costs, .int t_edits, .int t_thrown, .ref a_t_into, .ref a_t_isNeeded, .ref a_t_depths, .ref a_t_names, .ref a_t_out, .int t_outs, .ref a_t_has])), (a_t_v, .inl (ca 0, 206, .inl u))]) ⟨hx, hb, hml, hown, hts⟩ (mX9_writes l D ca a_t a_t_v a_t_past a_t_costs a_t_into a_t_isNeeded a_t_depths a_t_names a_t_out a_t_has _ t_edits t_thrown t_outs f_t_v x1 0 x2.toInt64 1 x3.toInt64 _ h) (cwV 5 hts (gV q_1038 q_1040 qs_46 q_8 q_1041) rfl rfl rfl (by decide +kernel) ⟨Nat.le_of_ble_eq_true rfl, Nat.le_of_ble_eq_true rfl⟩) hK hP hD hS hA [0, 1] [] [0, 1] rfl rfl rfl (by decide) (fun _ => rfl) (ci := 7) (q0 := 0) rfl rfl rfl hl.1 rfl (Nat.le_of_ble_eq_true rfl) dX9_shifts_16 ⟨Nat.le_of_ble_eq_true rfl, Nat.le_of_ble_eq_true rfl⟩ (fun r_16 u9 H locs h hP hD hS => ?_)
    obtain ⟨f_t_v_16, rfl⟩ : ∃ z, z = u9 := ⟨_, rfl⟩
    have hP : va_P D vwCl [(a_t, .inr (7, [.ref a_t_v, .ref a_t_past, .ref a_t_costs, .int t_edits, .int t_thrown, .ref a_t_into, .ref a_t_isNeeded, .ref a_t_depths, .ref a_t_names, .ref a_t_out, .int t_outs, .ref a_t_has])), (a_t_v, .inl (ca 0, 206, .inl f_t_v_16))] H := hP
    have hD : va_D A [(a_t, .inr (7, [.ref a_t_v, .ref a_t_past, .ref a_t_costs, .int t_edits, .int t_thrown, .ref a_t_into, .ref a_t_isNeeded, .ref a_t_depths, .ref a_t_names, .ref a_t_out, .int t_outs, .ref a_t_has])), (a_t_v, .inl (ca 0, 206, .inl f_t_v_16))] := hD
    try dsimp only at h
    exact W.iret (v := r_16) hx hb hr (fun t ht hW => ⟨⟨r_16, f_t_v_16, rfl, h, by rw [ht]; exact hP, va_K.moved hW.alike hK, hD⟩, hS.F ht⟩) hS.2.2 dX9_shifts_19
  · have h := h.1 c9
    refine lv_iload_n hx hb dX9_shifts_4 rfl (lv_at hl 2 rfl) ?_
    refine lv_goto (tgt := 19) hx hb dX9_shifts_5 (by decide) ?_
    exact W.iret (v := x2) hx hb hr (fun t ht hW => ⟨⟨x2, f_t_v, rfl, h, by rw [ht]; exact hP, va_K.moved hW.alike hK, hD⟩, hS.F ht⟩) hS.2.2 dX9_shifts_19

abbrev qX9_constant (D : va_G) (ca : Nat → ClassId) (a_t a_t_v a_t_past a_t_costs a_t_into a_t_isNeeded a_t_depths a_t_names a_t_out a_t_has : Nat) (t_edits : Int32) (t_thrown : Int32) (t_outs : Int32) (Q : Int32 → (Nat → Int32) → Prop) (A : Nat → Prop) : Array Value → State → Outcome → State → Prop := va_Qi (fun (r : Int32) (u : (Nat → Int32)) => Q r u) (wEnd D ca (fun u : (Nat → Int32) => [(a_t, .inr (7, [.ref a_t_v, .ref a_t_past, .ref a_t_costs, .int t_edits, .int t_thrown, .ref a_t_into, .ref a_t_isNeeded, .ref a_t_depths, .ref a_t_names, .ref a_t_out, .int t_outs, .ref a_t_has])), (a_t_v, .inl (ca 0, 206, .inl u))]) A) A
def wX9_constant (f_t_v : Nat → Int32) (x1 : Int32) (x2 : Int32) (x3 : Int64) (Q : Int32 → (Nat → Int32) → Prop) : Prop :=
  wX9_writes f_t_v x1 0 x2.toInt64 1 x3 (fun r_7 f_t_v_7 => Q r_7 f_t_v_7)
set_option maxHeartbeats 4000000 in
set_option maxRecDepth 100000 in
theorem mX9_constant (l : Launch) (D : va_G) (ca : Nat → ClassId) (a_t a_t_v a_t_past a_t_costs a_t_into a_t_isNeeded a_t_depths a_t_names a_t_out a_t_has : Nat) (sz : Nat) (t_edits : Int32) (t_thrown : Int32) (t_outs : Int32) (f_t_v : Nat → Int32) (x1 : Int32) (x2 : Int32) (x3 : Int64) (Q : Int32 → (Nat → Int32) → Prop) (h : wX9_constant f_t_v x1 x2 x3 Q) : Met l yX9_constant (Cond.code yX9_constant cX9_constant 5 (some .int) :: wsG) ({ frames := 1, cells := 0, slots := 0, locals := 28 } : Room) (va_Pc [.ref a_t, .int x1, .int x2, .long x3] (wPre D ca [(a_t, .inr (7, [.ref a_t_v, .ref a_t_past, .ref a_t_costs, .int t_edits, .int t_thrown, .ref a_t_into, .ref a_t_isNeeded, .ref a_t_depths, .ref a_t_names, .ref a_t_out, .int t_outs, .ref a_t_has])), (a_t_v, .inl (ca 0, 206, .inl f_t_v))] sz)) (qX9_constant D ca a_t a_t_v a_t_past a_t_costs a_t_into a_t_isNeeded a_t_depths a_t_names a_t_out a_t_has t_edits t_thrown t_outs Q (va_A [(a_t, .inr (7, [.ref a_t_v, .ref a_t_past, .ref a_t_costs, .int t_edits, .int t_thrown, .ref a_t_into, .ref a_t_isNeeded, .ref a_t_depths, .ref a_t_names, .ref a_t_out, .int t_outs, .ref a_t_has])), (a_t_v, .inl (ca 0, 206, .inl f_t_v))] sz)) 0 0 (va_A [(a_t, .inr (7, [.ref a_t_v, .ref a_t_past, .ref a_t_costs, .int t_edits, .int t_thrown, .ref a_t_into, .ref a_t_isNeeded, .ref a_t_depths, .ref a_t_names, .ref a_t_out, .int t_outs, .ref a_t_has])), (a_t_v, .inl (ca 0, 206, .inl f_t_v))] sz) := by
  refine Met.ofW (cc := cX9_constant) (maxL := 5) (ret := (some .int)) (by decide) rfl ?_
  intro p e s m args below meth c s₁ B hml hv
  obtain ⟨rfl, hsz, hP, hK, hD0⟩ := hv
  have hx := B.exec
  have hb := B.bytes
  have hr := B.returns
  have hts := atoms_spec (ws := (Cond.code yX9_constant cX9_constant 5 (some .int) :: wsG)) B.pre
  have hq : ∀ w ∈ wsG, w.before _ s = true := fun w hw => hts w (List.mem_cons_of_mem _ hw)
  have hown : s.vm.findClass RX9 = some m.cls := findClass_of_methodNamed B.named
  have hlocks := B.notSynchronized
  subst hsz
  have hD := hD0.self (sz := s.heap.size)
  generalize hAe : va_A [(a_t, .inr (7, [.ref a_t_v, .ref a_t_past, .ref a_t_costs, .int t_edits, .int t_thrown, .ref a_t_into, .ref a_t_isNeeded, .ref a_t_depths, .ref a_t_names, .ref a_t_out, .int t_outs, .ref a_t_has])), (a_t_v, .inl (ca 0, 206, .inl f_t_v))] s.heap.size = A at hD ⊢
  have hA : ∀ q : Nat, s.heap.size ≤ q → A q := fun q h => by rw [← hAe]; exact Or.inr h
  have hS : va_S A s.heap s.heap [] := va_S.rf
  have hP : va_P D vwCl [(a_t, .inr (7, [.ref a_t_v, .ref a_t_past, .ref a_t_costs, .int t_edits, .int t_thrown, .ref a_t_into, .ref a_t_isNeeded, .ref a_t_depths, .ref a_t_names, .ref a_t_out, .int t_outs, .ref a_t_has])), (a_t_v, .inl (ca 0, 206, .inl f_t_v))] s.heap := hP
  have hl := lv_entry ([.ref a_t, .int x1, .int x2, .long x3]) (n := 5) (Nat.le_of_ble_eq_true rfl)
  rw [lg_entry_eq]
  generalize (lg_sl ([.ref a_t, .int x1, .int x2, .long x3]) ++ List.replicate (5 - (lg_sl ([.ref a_t, .int x1, .int x2, .long x3])).length) Slot.unset).toArray = ls at hl ⊢
  have hl : lv_has ls 5 [(0, .ref a_t), (1, .int x1), (2, .int x2), (3, .long x3)] := hl
  unfold wX9_constant at h
  refine lv_aload_n hx hb dX9_constant_0 rfl (lv_at hl 0 rfl) ?_
  refine lv_iload_n hx hb dX9_constant_1 rfl (lv_at hl 1 rfl) ?_
  refine lv_iconst (v := 0) hx hb dX9_constant_2 (by decide) ?_
  refine lv_iload_n hx hb dX9_constant_3 rfl (lv_at hl 2 rfl) ?_
  refine lv_i2l hx hb dX9_constant_4 rfl ?_
  refine lv_iconst (v := 1) hx hb dX9_constant_5 (by decide) ?_
  refine lv_lload_n hx hb dX9_constant_6 rfl (lv_at hl 3 rfl) ?_
  refine cVi (As := [.int x1, .int 0, .long x2.toInt64, .int 1, .long x3]) (rest := []) (wc := [(a_t, .inr (7, [.ref a_t_v, .ref a_t_past, .ref a_t_costs, .int t_edits, .int t_thrown, .ref a_t_into, .ref a_t_isNeeded, .ref a_t_depths, .ref a_t_names, .ref a_t_out, .int t_outs, .ref a_t_has])), (a_t_v, .inl (ca 0, 206, .inl f_t_v))]) (wr := []) (w1 := fun u : (Nat → Int32) => [(a_t, .inr (7, [.ref a_t_v, .ref a_t_past, .ref a_t_costs, .int t_edits, .int t_thrown, .ref a_t_into, .ref a_t_isNeeded, .ref a_t_depths, .ref a_t_names, .ref a_t_out, .int t_outs, .ref a_t_has])), (a_t_v, .inl (ca 0, 206, .inl u))]) (ws2 := fun u : (Nat → Int32) => [(a_t, .inr (7, [.ref a_t_v, .ref a_t_past, .ref a_t_costs, .int t_edits, .int t_thrown, .ref a_t_into, .ref a_t_isNeeded, .ref a_t_depths, .ref a_t_names, .ref a_t_out, .int t_outs, .ref a_t_has])), (a_t_v, .inl (ca 0, 206, .inl u))]) ⟨hx, hb, hml, hown, hts⟩ (mX9_writes l D ca a_t a_t_v a_t_past a_t_costs a_t_into a_t_isNeeded a_t_depths a_t_names a_t_out a_t_has _ t_edits t_thrown t_outs f_t_v x1 0 x2.toInt64 1 x3 _ h) (cwV 5 hts (gV q_1038 q_1040 qs_46 q_8 q_1041) rfl rfl rfl (by decide +kernel) ⟨Nat.le_of_ble_eq_true rfl, Nat.le_of_ble_eq_true rfl⟩) hK hP hD hS hA [0, 1] [] [0, 1] rfl rfl rfl (by decide) (fun _ => rfl) (ci := 7) (q0 := 0) rfl rfl rfl hl.1 rfl (Nat.le_of_ble_eq_true rfl) dX9_constant_7 ⟨Nat.le_of_ble_eq_true rfl, Nat.le_of_ble_eq_true rfl⟩ (fun r_7 u9 H locs h hP hD hS => ?_)
  obtain ⟨f_t_v_7, rfl⟩ : ∃ z, z = u9 := ⟨_, rfl⟩
  have hP : va_P D vwCl [(a_t, .inr (7, [.ref a_t_v, .ref a_t_past, .ref a_t_costs, .int t_edits, .int t_thrown, .ref a_t_into, .ref a_t_isNeeded, .ref a_t_depths, .ref a_t_names, .ref a_t_out, .int t_outs, .ref a_t_has])), (a_t_v, .inl (ca 0, 206, .inl f_t_v_7))] H := hP
  have hD : va_D A [(a_t, .inr (7, [.ref a_t_v, .ref a_t_past, .ref a_t_costs, .int t_edits, .int t_thrown, .ref a_t_into, .ref a_t_isNeeded, .ref a_t_depths, .ref a_t_names, .ref a_t_out, .int t_outs, .ref a_t_has])), (a_t_v, .inl (ca 0, 206, .inl f_t_v_7))] := hD
  try dsimp only at h
  exact W.iret (v := r_7) hx hb hr (fun t ht hW => ⟨⟨r_7, f_t_v_7, rfl, h, by rw [ht]; exact hP, va_K.moved hW.alike hK, hD⟩, hS.F ht⟩) hS.2.2 dX9_constant_10

abbrev qX9_both (D : va_G) (ca : Nat → ClassId) (a_t a_t_v a_t_past a_t_costs a_t_into a_t_isNeeded a_t_depths a_t_names a_t_out a_t_has : Nat) (t_edits : Int32) (t_thrown : Int32) (t_outs : Int32) (Q : Int32 → (Nat → Int32) → Prop) (A : Nat → Prop) : Array Value → State → Outcome → State → Prop := va_Qi (fun (r : Int32) (u : (Nat → Int32)) => Q r u) (wEnd D ca (fun u : (Nat → Int32) => [(a_t, .inr (7, [.ref a_t_v, .ref a_t_past, .ref a_t_costs, .int t_edits, .int t_thrown, .ref a_t_into, .ref a_t_isNeeded, .ref a_t_depths, .ref a_t_names, .ref a_t_out, .int t_outs, .ref a_t_has])), (a_t_v, .inl (ca 0, 206, .inl u))]) A) A
def wX9_both (f_t_v : Nat → Int32) (x1 : Int32) (x2 : Int32) (x3 : Int32) (Q : Int32 → (Nat → Int32) → Prop) : Prop :=
  wX9_writes f_t_v x1 0 x2.toInt64 0 x3.toInt64 (fun r_8 f_t_v_8 => Q r_8 f_t_v_8)
set_option maxHeartbeats 4000000 in
set_option maxRecDepth 100000 in
theorem mX9_both (l : Launch) (D : va_G) (ca : Nat → ClassId) (a_t a_t_v a_t_past a_t_costs a_t_into a_t_isNeeded a_t_depths a_t_names a_t_out a_t_has : Nat) (sz : Nat) (t_edits : Int32) (t_thrown : Int32) (t_outs : Int32) (f_t_v : Nat → Int32) (x1 : Int32) (x2 : Int32) (x3 : Int32) (Q : Int32 → (Nat → Int32) → Prop) (h : wX9_both f_t_v x1 x2 x3 Q) : Met l yX9_both (Cond.code yX9_both cX9_both 4 (some .int) :: wsG) ({ frames := 1, cells := 0, slots := 0, locals := 28 } : Room) (va_Pc [.ref a_t, .int x1, .int x2, .int x3] (wPre D ca [(a_t, .inr (7, [.ref a_t_v, .ref a_t_past, .ref a_t_costs, .int t_edits, .int t_thrown, .ref a_t_into, .ref a_t_isNeeded, .ref a_t_depths, .ref a_t_names, .ref a_t_out, .int t_outs, .ref a_t_has])), (a_t_v, .inl (ca 0, 206, .inl f_t_v))] sz)) (qX9_both D ca a_t a_t_v a_t_past a_t_costs a_t_into a_t_isNeeded a_t_depths a_t_names a_t_out a_t_has t_edits t_thrown t_outs Q (va_A [(a_t, .inr (7, [.ref a_t_v, .ref a_t_past, .ref a_t_costs, .int t_edits, .int t_thrown, .ref a_t_into, .ref a_t_isNeeded, .ref a_t_depths, .ref a_t_names, .ref a_t_out, .int t_outs, .ref a_t_has])), (a_t_v, .inl (ca 0, 206, .inl f_t_v))] sz)) 0 0 (va_A [(a_t, .inr (7, [.ref a_t_v, .ref a_t_past, .ref a_t_costs, .int t_edits, .int t_thrown, .ref a_t_into, .ref a_t_isNeeded, .ref a_t_depths, .ref a_t_names, .ref a_t_out, .int t_outs, .ref a_t_has])), (a_t_v, .inl (ca 0, 206, .inl f_t_v))] sz) := by
  refine Met.ofW (cc := cX9_both) (maxL := 4) (ret := (some .int)) (by decide) rfl ?_
  intro p e s m args below meth c s₁ B hml hv
  obtain ⟨rfl, hsz, hP, hK, hD0⟩ := hv
  have hx := B.exec
  have hb := B.bytes
  have hr := B.returns
  have hts := atoms_spec (ws := (Cond.code yX9_both cX9_both 4 (some .int) :: wsG)) B.pre
  have hq : ∀ w ∈ wsG, w.before _ s = true := fun w hw => hts w (List.mem_cons_of_mem _ hw)
  have hown : s.vm.findClass RX9 = some m.cls := findClass_of_methodNamed B.named
  have hlocks := B.notSynchronized
  subst hsz
  have hD := hD0.self (sz := s.heap.size)
  generalize hAe : va_A [(a_t, .inr (7, [.ref a_t_v, .ref a_t_past, .ref a_t_costs, .int t_edits, .int t_thrown, .ref a_t_into, .ref a_t_isNeeded, .ref a_t_depths, .ref a_t_names, .ref a_t_out, .int t_outs, .ref a_t_has])), (a_t_v, .inl (ca 0, 206, .inl f_t_v))] s.heap.size = A at hD ⊢
  have hA : ∀ q : Nat, s.heap.size ≤ q → A q := fun q h => by rw [← hAe]; exact Or.inr h
  have hS : va_S A s.heap s.heap [] := va_S.rf
  have hP : va_P D vwCl [(a_t, .inr (7, [.ref a_t_v, .ref a_t_past, .ref a_t_costs, .int t_edits, .int t_thrown, .ref a_t_into, .ref a_t_isNeeded, .ref a_t_depths, .ref a_t_names, .ref a_t_out, .int t_outs, .ref a_t_has])), (a_t_v, .inl (ca 0, 206, .inl f_t_v))] s.heap := hP
  have hl := lv_entry ([.ref a_t, .int x1, .int x2, .int x3]) (n := 4) (Nat.le_of_ble_eq_true rfl)
  rw [lg_entry_eq]
  generalize (lg_sl ([.ref a_t, .int x1, .int x2, .int x3]) ++ List.replicate (4 - (lg_sl ([.ref a_t, .int x1, .int x2, .int x3])).length) Slot.unset).toArray = ls at hl ⊢
  have hl : lv_has ls 4 [(0, .ref a_t), (1, .int x1), (2, .int x2), (3, .int x3)] := hl
  unfold wX9_both at h
  refine lv_aload_n hx hb dX9_both_0 rfl (lv_at hl 0 rfl) ?_
  refine lv_iload_n hx hb dX9_both_1 rfl (lv_at hl 1 rfl) ?_
  refine lv_iconst (v := 0) hx hb dX9_both_2 (by decide) ?_
  refine lv_iload_n hx hb dX9_both_3 rfl (lv_at hl 2 rfl) ?_
  refine lv_i2l hx hb dX9_both_4 rfl ?_
  refine lv_iconst (v := 0) hx hb dX9_both_5 (by decide) ?_
  refine lv_iload_n hx hb dX9_both_6 rfl (lv_at hl 3 rfl) ?_
  refine lv_i2l hx hb dX9_both_7 rfl ?_
  refine cVi (As := [.int x1, .int 0, .long x2.toInt64, .int 0, .long x3.toInt64]) (rest := []) (wc := [(a_t, .inr (7, [.ref a_t_v, .ref a_t_past, .ref a_t_costs, .int t_edits, .int t_thrown, .ref a_t_into, .ref a_t_isNeeded, .ref a_t_depths, .ref a_t_names, .ref a_t_out, .int t_outs, .ref a_t_has])), (a_t_v, .inl (ca 0, 206, .inl f_t_v))]) (wr := []) (w1 := fun u : (Nat → Int32) => [(a_t, .inr (7, [.ref a_t_v, .ref a_t_past, .ref a_t_costs, .int t_edits, .int t_thrown, .ref a_t_into, .ref a_t_isNeeded, .ref a_t_depths, .ref a_t_names, .ref a_t_out, .int t_outs, .ref a_t_has])), (a_t_v, .inl (ca 0, 206, .inl u))]) (ws2 := fun u : (Nat → Int32) => [(a_t, .inr (7, [.ref a_t_v, .ref a_t_past, .ref a_t_costs, .int t_edits, .int t_thrown, .ref a_t_into, .ref a_t_isNeeded, .ref a_t_depths, .ref a_t_names, .ref a_t_out, .int t_outs, .ref a_t_has])), (a_t_v, .inl (ca 0, 206, .inl u))]) ⟨hx, hb, hml, hown, hts⟩ (mX9_writes l D ca a_t a_t_v a_t_past a_t_costs a_t_into a_t_isNeeded a_t_depths a_t_names a_t_out a_t_has _ t_edits t_thrown t_outs f_t_v x1 0 x2.toInt64 0 x3.toInt64 _ h) (cwV 5 hts (gV q_1038 q_1040 qs_46 q_8 q_1041) rfl rfl rfl (by decide +kernel) ⟨Nat.le_of_ble_eq_true rfl, Nat.le_of_ble_eq_true rfl⟩) hK hP hD hS hA [0, 1] [] [0, 1] rfl rfl rfl (by decide) (fun _ => rfl) (ci := 7) (q0 := 0) rfl rfl rfl hl.1 rfl (Nat.le_of_ble_eq_true rfl) dX9_both_8 ⟨Nat.le_of_ble_eq_true rfl, Nat.le_of_ble_eq_true rfl⟩ (fun r_8 u9 H locs h hP hD hS => ?_)
  obtain ⟨f_t_v_8, rfl⟩ : ∃ z, z = u9 := ⟨_, rfl⟩
  have hP : va_P D vwCl [(a_t, .inr (7, [.ref a_t_v, .ref a_t_past, .ref a_t_costs, .int t_edits, .int t_thrown, .ref a_t_into, .ref a_t_isNeeded, .ref a_t_depths, .ref a_t_names, .ref a_t_out, .int t_outs, .ref a_t_has])), (a_t_v, .inl (ca 0, 206, .inl f_t_v_8))] H := hP
  have hD : va_D A [(a_t, .inr (7, [.ref a_t_v, .ref a_t_past, .ref a_t_costs, .int t_edits, .int t_thrown, .ref a_t_into, .ref a_t_isNeeded, .ref a_t_depths, .ref a_t_names, .ref a_t_out, .int t_outs, .ref a_t_has])), (a_t_v, .inl (ca 0, 206, .inl f_t_v_8))] := hD
  try dsimp only at h
  exact W.iret (v := r_8) hx hb hr (fun t ht hW => ⟨⟨r_8, f_t_v_8, rfl, h, by rw [ht]; exact hP, va_K.moved hW.alike hK, hD⟩, hS.F ht⟩) hS.2.2 dX9_both_11

abbrev qX9_negative (D : va_G) (ca : Nat → ClassId) (a_t a_t_v a_t_past a_t_costs a_t_into a_t_isNeeded a_t_depths a_t_names a_t_out a_t_has : Nat) (t_edits : Int32) (t_thrown : Int32) (t_outs : Int32) (Q : Int32 → (Nat → Int32) → Prop) (A : Nat → Prop) : Array Value → State → Outcome → State → Prop := va_Qi (fun (r : Int32) (u : (Nat → Int32)) => Q r u) (wEnd D ca (fun u : (Nat → Int32) => [(a_t, .inr (7, [.ref a_t_v, .ref a_t_past, .ref a_t_costs, .int t_edits, .int t_thrown, .ref a_t_into, .ref a_t_isNeeded, .ref a_t_depths, .ref a_t_names, .ref a_t_out, .int t_outs, .ref a_t_has])), (a_t_v, .inl (ca 0, 206, .inl u))]) A) A
def wX9_negative (f_t_v : Nat → Int32) (x1 : Int32) (Q : Int32 → (Nat → Int32) → Prop) : Prop :=
  wX9_writes f_t_v 4 1 0 0 x1.toInt64 (fun r_7 f_t_v_7 => Q r_7 f_t_v_7)
set_option maxHeartbeats 4000000 in
set_option maxRecDepth 100000 in
theorem mX9_negative (l : Launch) (D : va_G) (ca : Nat → ClassId) (a_t a_t_v a_t_past a_t_costs a_t_into a_t_isNeeded a_t_depths a_t_names a_t_out a_t_has : Nat) (sz : Nat) (t_edits : Int32) (t_thrown : Int32) (t_outs : Int32) (f_t_v : Nat → Int32) (x1 : Int32) (Q : Int32 → (Nat → Int32) → Prop) (h : wX9_negative f_t_v x1 Q) : Met l yX9_negative (Cond.code yX9_negative cX9_negative 2 (some .int) :: wsG) ({ frames := 1, cells := 0, slots := 0, locals := 28 } : Room) (va_Pc [.ref a_t, .int x1] (wPre D ca [(a_t, .inr (7, [.ref a_t_v, .ref a_t_past, .ref a_t_costs, .int t_edits, .int t_thrown, .ref a_t_into, .ref a_t_isNeeded, .ref a_t_depths, .ref a_t_names, .ref a_t_out, .int t_outs, .ref a_t_has])), (a_t_v, .inl (ca 0, 206, .inl f_t_v))] sz)) (qX9_negative D ca a_t a_t_v a_t_past a_t_costs a_t_into a_t_isNeeded a_t_depths a_t_names a_t_out a_t_has t_edits t_thrown t_outs Q (va_A [(a_t, .inr (7, [.ref a_t_v, .ref a_t_past, .ref a_t_costs, .int t_edits, .int t_thrown, .ref a_t_into, .ref a_t_isNeeded, .ref a_t_depths, .ref a_t_names, .ref a_t_out, .int t_outs, .ref a_t_has])), (a_t_v, .inl (ca 0, 206, .inl f_t_v))] sz)) 0 0 (va_A [(a_t, .inr (7, [.ref a_t_v, .ref a_t_past, .ref a_t_costs, .int t_edits, .int t_thrown, .ref a_t_into, .ref a_t_isNeeded, .ref a_t_depths, .ref a_t_names, .ref a_t_out, .int t_outs, .ref a_t_has])), (a_t_v, .inl (ca 0, 206, .inl f_t_v))] sz) := by
  refine Met.ofW (cc := cX9_negative) (maxL := 2) (ret := (some .int)) (by decide) rfl ?_
  intro p e s m args below meth c s₁ B hml hv
  obtain ⟨rfl, hsz, hP, hK, hD0⟩ := hv
  have hx := B.exec
  have hb := B.bytes
  have hr := B.returns
  have hts := atoms_spec (ws := (Cond.code yX9_negative cX9_negative 2 (some .int) :: wsG)) B.pre
  have hq : ∀ w ∈ wsG, w.before _ s = true := fun w hw => hts w (List.mem_cons_of_mem _ hw)
  have hown : s.vm.findClass RX9 = some m.cls := findClass_of_methodNamed B.named
  have hlocks := B.notSynchronized
  subst hsz
  have hD := hD0.self (sz := s.heap.size)
  generalize hAe : va_A [(a_t, .inr (7, [.ref a_t_v, .ref a_t_past, .ref a_t_costs, .int t_edits, .int t_thrown, .ref a_t_into, .ref a_t_isNeeded, .ref a_t_depths, .ref a_t_names, .ref a_t_out, .int t_outs, .ref a_t_has])), (a_t_v, .inl (ca 0, 206, .inl f_t_v))] s.heap.size = A at hD ⊢
  have hA : ∀ q : Nat, s.heap.size ≤ q → A q := fun q h => by rw [← hAe]; exact Or.inr h
  have hS : va_S A s.heap s.heap [] := va_S.rf
  have hP : va_P D vwCl [(a_t, .inr (7, [.ref a_t_v, .ref a_t_past, .ref a_t_costs, .int t_edits, .int t_thrown, .ref a_t_into, .ref a_t_isNeeded, .ref a_t_depths, .ref a_t_names, .ref a_t_out, .int t_outs, .ref a_t_has])), (a_t_v, .inl (ca 0, 206, .inl f_t_v))] s.heap := hP
  have hl := lv_entry ([.ref a_t, .int x1]) (n := 2) (Nat.le_of_ble_eq_true rfl)
  rw [lg_entry_eq]
  generalize (lg_sl ([.ref a_t, .int x1]) ++ List.replicate (2 - (lg_sl ([.ref a_t, .int x1])).length) Slot.unset).toArray = ls at hl ⊢
  have hl : lv_has ls 2 [(0, .ref a_t), (1, .int x1)] := hl
  unfold wX9_negative at h
  refine lv_aload_n hx hb dX9_negative_0 rfl (lv_at hl 0 rfl) ?_
  refine lv_iconst (v := 4) hx hb dX9_negative_1 (by decide) ?_
  refine lv_iconst (v := 1) hx hb dX9_negative_2 (by decide) ?_
  refine lv_lconst (v := 0) hx hb dX9_negative_3 (by decide) ?_
  refine lv_iconst (v := 0) hx hb dX9_negative_4 (by decide) ?_
  refine lv_iload_n hx hb dX9_negative_5 rfl (lv_at hl 1 rfl) ?_
  refine lv_i2l hx hb dX9_negative_6 rfl ?_
  refine cVi (As := [.int 4, .int 1, .long 0, .int 0, .long x1.toInt64]) (rest := []) (wc := [(a_t, .inr (7, [.ref a_t_v, .ref a_t_past, .ref a_t_costs, .int t_edits, .int t_thrown, .ref a_t_into, .ref a_t_isNeeded, .ref a_t_depths, .ref a_t_names, .ref a_t_out, .int t_outs, .ref a_t_has])), (a_t_v, .inl (ca 0, 206, .inl f_t_v))]) (wr := []) (w1 := fun u : (Nat → Int32) => [(a_t, .inr (7, [.ref a_t_v, .ref a_t_past, .ref a_t_costs, .int t_edits, .int t_thrown, .ref a_t_into, .ref a_t_isNeeded, .ref a_t_depths, .ref a_t_names, .ref a_t_out, .int t_outs, .ref a_t_has])), (a_t_v, .inl (ca 0, 206, .inl u))]) (ws2 := fun u : (Nat → Int32) => [(a_t, .inr (7, [.ref a_t_v, .ref a_t_past, .ref a_t_costs, .int t_edits, .int t_thrown, .ref a_t_into, .ref a_t_isNeeded, .ref a_t_depths, .ref a_t_names, .ref a_t_out, .int t_outs, .ref a_t_has])), (a_t_v, .inl (ca 0, 206, .inl u))]) ⟨hx, hb, hml, hown, hts⟩ (mX9_writes l D ca a_t a_t_v a_t_past a_t_costs a_t_into a_t_isNeeded a_t_depths a_t_names a_t_out a_t_has _ t_edits t_thrown t_outs f_t_v 4 1 0 0 x1.toInt64 _ h) (cwV 5 hts (gV q_1038 q_1040 qs_46 q_8 q_1041) rfl rfl rfl (by decide +kernel) ⟨Nat.le_of_ble_eq_true rfl, Nat.le_of_ble_eq_true rfl⟩) hK hP hD hS hA [0, 1] [] [0, 1] rfl rfl rfl (by decide) (fun _ => rfl) (ci := 7) (q0 := 0) rfl rfl rfl hl.1 rfl (Nat.le_of_ble_eq_true rfl) dX9_negative_7 ⟨Nat.le_of_ble_eq_true rfl, Nat.le_of_ble_eq_true rfl⟩ (fun r_7 u9 H locs h hP hD hS => ?_)
  obtain ⟨f_t_v_7, rfl⟩ : ∃ z, z = u9 := ⟨_, rfl⟩
  have hP : va_P D vwCl [(a_t, .inr (7, [.ref a_t_v, .ref a_t_past, .ref a_t_costs, .int t_edits, .int t_thrown, .ref a_t_into, .ref a_t_isNeeded, .ref a_t_depths, .ref a_t_names, .ref a_t_out, .int t_outs, .ref a_t_has])), (a_t_v, .inl (ca 0, 206, .inl f_t_v_7))] H := hP
  have hD : va_D A [(a_t, .inr (7, [.ref a_t_v, .ref a_t_past, .ref a_t_costs, .int t_edits, .int t_thrown, .ref a_t_into, .ref a_t_isNeeded, .ref a_t_depths, .ref a_t_names, .ref a_t_out, .int t_outs, .ref a_t_has])), (a_t_v, .inl (ca 0, 206, .inl f_t_v_7))] := hD
  try dsimp only at h
  exact W.iret (v := r_7) hx hb hr (fun t ht hW => ⟨⟨r_7, f_t_v_7, rfl, h, by rw [ht]; exact hP, va_K.moved hW.alike hK, hD⟩, hS.F ht⟩) hS.2.2 dX9_negative_10

abbrev qX9_lengthOf (D : va_G) (ca : Nat → ClassId) (a_t a_t_v a_t_past a_t_costs a_t_into a_t_isNeeded a_t_depths a_t_names a_t_out a_t_has : Nat) (t_edits : Int32) (t_thrown : Int32) (t_outs : Int32) (f_t_v : Nat → Int32) (Q : Int32 → Prop) (A : Nat → Prop) : Array Value → State → Outcome → State → Prop := va_Qi (fun (r : Int32) (_ : Unit) => Q r) (wEnd D ca (fun _ : Unit => [(a_t, .inr (7, [.ref a_t_v, .ref a_t_past, .ref a_t_costs, .int t_edits, .int t_thrown, .ref a_t_into, .ref a_t_isNeeded, .ref a_t_depths, .ref a_t_names, .ref a_t_out, .int t_outs, .ref a_t_has])), (a_t_v, .inl (ca 0, 206, .inl f_t_v))]) A) A
def wX9_lengthOf_64 (x5_8 : Int32) (K8 : Int32 → Int32 → Int32 → Prop) (x3_64 : Int32) (x4_64 : Int32) : Prop :=
  (∀ x5_64 : Int32, x5_64 = x5_8 + 1 → K8 x3_64 x4_64 x5_64)
def wX9_lengthOf_58 (x3_8 : Int32) (x5_8 : Int32) (K8 : Int32 → Int32 → Int32 → Prop) (y1_43 : Int32) (y2_58 : Int32) : Prop :=
  (∀ x3_60 : Int32, x3_60 = x3_8 + (y1_43 + y2_58) → wX9_lengthOf_64 x5_8 K8 x3_60 0)
def wX9_lengthOf_53 (x3_8 : Int32) (x5_8 : Int32) (K8 : Int32 → Int32 → Int32 → Prop) (y1_43 : Int32) : Prop :=
  wX9_lengthOf_58 x3_8 x5_8 K8 y1_43 1
def wX9_lengthOf_43 (x3_8 : Int32) (x4_8 : Int32) (x5_8 : Int32) (K8 : Int32 → Int32 → Int32 → Prop) (r_22 : Int32) (y1_43 : Int32) : Prop :=
  ((x4_8 = 0 → wX9_lengthOf_53 x3_8 x5_8 K8 y1_43) ∧ (¬ x4_8 = 0 → ((0 ≤ r_22 → wX9_lengthOf_58 x3_8 x5_8 K8 y1_43 0) ∧ (¬ 0 ≤ r_22 → wX9_lengthOf_53 x3_8 x5_8 K8 y1_43))))
def wX9_lengthOf_8 (f_t_v : Nat → Int32) (x1 : Int64) (Q : Int32 → Prop) : Nat → Int32 → Int32 → Int32 → Prop
  | 0, _, _, _ => False
  | n9 + 1, x3_8, x4_8, x5_8 =>
  (vp_in 0 206 ∧ (((f_t_v (0 : Int32).toNatClampNeg) ≤ x5_8 → Q x3_8) ∧ (¬ (f_t_v (0 : Int32).toNatClampNeg) ≤ x5_8 → wX9_digitAt x1 x5_8 (fun r_22 => ((r_22 = 0 → wX9_lengthOf_64 x5_8 (wX9_lengthOf_8 f_t_v x1 Q n9) x3_8 x4_8) ∧ (¬ r_22 = 0 → ((x5_8 ≤ 0 → wX9_lengthOf_43 x3_8 x4_8 x5_8 (wX9_lengthOf_8 f_t_v x1 Q n9) r_22 0) ∧ (¬ x5_8 ≤ 0 → wX9_lengthOf_43 x3_8 x4_8 x5_8 (wX9_lengthOf_8 f_t_v x1 Q n9) r_22 1))))))))
def wX9_lengthOf (f_t_v : Nat → Int32) (x1 : Int64) (Q : Int32 → Prop) : Prop :=
  (∃ k9, wX9_lengthOf_8 f_t_v x1 Q k9 0 1 0)
set_option maxHeartbeats 4000000 in
set_option maxRecDepth 100000 in
theorem mX9_lengthOf (l : Launch) (D : va_G) (ca : Nat → ClassId) (a_t a_t_v a_t_past a_t_costs a_t_into a_t_isNeeded a_t_depths a_t_names a_t_out a_t_has : Nat) (sz : Nat) (t_edits : Int32) (t_thrown : Int32) (t_outs : Int32) (f_t_v : Nat → Int32) (x1 : Int64) (Q : Int32 → Prop) (h : wX9_lengthOf f_t_v x1 Q) : Met l yX9_lengthOf (Cond.code yX9_lengthOf cX9_lengthOf 7 (some .int) :: wsG) ({ frames := 1, cells := 0, slots := 0, locals := 24 } : Room) (va_Pc [.ref a_t, .long x1] (wPre D ca [(a_t, .inr (7, [.ref a_t_v, .ref a_t_past, .ref a_t_costs, .int t_edits, .int t_thrown, .ref a_t_into, .ref a_t_isNeeded, .ref a_t_depths, .ref a_t_names, .ref a_t_out, .int t_outs, .ref a_t_has])), (a_t_v, .inl (ca 0, 206, .inl f_t_v))] sz)) (qX9_lengthOf D ca a_t a_t_v a_t_past a_t_costs a_t_into a_t_isNeeded a_t_depths a_t_names a_t_out a_t_has t_edits t_thrown t_outs f_t_v Q (va_A [(a_t, .inr (7, [.ref a_t_v, .ref a_t_past, .ref a_t_costs, .int t_edits, .int t_thrown, .ref a_t_into, .ref a_t_isNeeded, .ref a_t_depths, .ref a_t_names, .ref a_t_out, .int t_outs, .ref a_t_has])), (a_t_v, .inl (ca 0, 206, .inl f_t_v))] sz)) 0 0 (va_A [(a_t, .inr (7, [.ref a_t_v, .ref a_t_past, .ref a_t_costs, .int t_edits, .int t_thrown, .ref a_t_into, .ref a_t_isNeeded, .ref a_t_depths, .ref a_t_names, .ref a_t_out, .int t_outs, .ref a_t_has])), (a_t_v, .inl (ca 0, 206, .inl f_t_v))] sz) := by
  refine Met.ofW (cc := cX9_lengthOf) (maxL := 7) (ret := (some .int)) (by decide) rfl ?_
  intro p e s m args below meth c s₁ B hml hv
  obtain ⟨rfl, hsz, hP, hK, hD0⟩ := hv
  have hx := B.exec
  have hb := B.bytes
  have hr := B.returns
  have hts := atoms_spec (ws := (Cond.code yX9_lengthOf cX9_lengthOf 7 (some .int) :: wsG)) B.pre
  have hq : ∀ w ∈ wsG, w.before _ s = true := fun w hw => hts w (List.mem_cons_of_mem _ hw)
  have hown : s.vm.findClass RX9 = some m.cls := findClass_of_methodNamed B.named
  have hlocks := B.notSynchronized
  subst hsz
  have hD := hD0.self (sz := s.heap.size)
  generalize hAe : va_A [(a_t, .inr (7, [.ref a_t_v, .ref a_t_past, .ref a_t_costs, .int t_edits, .int t_thrown, .ref a_t_into, .ref a_t_isNeeded, .ref a_t_depths, .ref a_t_names, .ref a_t_out, .int t_outs, .ref a_t_has])), (a_t_v, .inl (ca 0, 206, .inl f_t_v))] s.heap.size = A at hD ⊢
  have hA : ∀ q : Nat, s.heap.size ≤ q → A q := fun q h => by rw [← hAe]; exact Or.inr h
  have hS : va_S A s.heap s.heap [] := va_S.rf
  have hP : va_P D vwCl [(a_t, .inr (7, [.ref a_t_v, .ref a_t_past, .ref a_t_costs, .int t_edits, .int t_thrown, .ref a_t_into, .ref a_t_isNeeded, .ref a_t_depths, .ref a_t_names, .ref a_t_out, .int t_outs, .ref a_t_has])), (a_t_v, .inl (ca 0, 206, .inl f_t_v))] s.heap := hP
  have hl := lv_entry ([.ref a_t, .long x1]) (n := 7) (Nat.le_of_ble_eq_true rfl)
  rw [lg_entry_eq]
  generalize (lg_sl ([.ref a_t, .long x1]) ++ List.replicate (7 - (lg_sl ([.ref a_t, .long x1])).length) Slot.unset).toArray = ls at hl ⊢
  have hl : lv_has ls 7 [(0, .ref a_t), (1, .long x1)] := hl
  unfold wX9_lengthOf at h
  refine lv_iconst (v := 0) hx hb dX9_lengthOf_0 (by decide) ?_
  refine lv_istore_n (lv' := [(3, .int 0), (0, .ref a_t), (1, .long x1)]) hx hb dX9_lengthOf_1 rfl hl (by decide) rfl (fun ls hl => ?_)
  refine lv_iconst (v := 1) hx hb dX9_lengthOf_2 (by decide) ?_
  refine lv_istore (lv' := [(4, .int 1), (3, .int 0), (0, .ref a_t), (1, .long x1)]) hx hb dX9_lengthOf_3 hl (by decide) rfl (fun ls hl => ?_)
  refine lv_iconst (v := 0) hx hb dX9_lengthOf_5 (by decide) ?_
  refine lv_istore (lv' := [(5, .int 0), (4, .int 1), (3, .int 0), (0, .ref a_t), (1, .long x1)]) hx hb dX9_lengthOf_6 hl (by decide) rfl (fun ls hl => ?_)
  have hL8 : ∀ (n9_8 : Nat) (x3_8 : Int32) (x4_8 : Int32) (x5_8 : Int32) (H : Heap) (locs : List Loc) (ls : Array Slot), va_P D vwCl [(a_t, .inr (7, [.ref a_t_v, .ref a_t_past, .ref a_t_costs, .int t_edits, .int t_thrown, .ref a_t_into, .ref a_t_isNeeded, .ref a_t_depths, .ref a_t_names, .ref a_t_out, .int t_outs, .ref a_t_has])), (a_t_v, .inl (ca 0, 206, .inl f_t_v))] H → va_D A [(a_t, .inr (7, [.ref a_t_v, .ref a_t_past, .ref a_t_costs, .int t_edits, .int t_thrown, .ref a_t_into, .ref a_t_isNeeded, .ref a_t_depths, .ref a_t_names, .ref a_t_out, .int t_outs, .ref a_t_has])), (a_t_v, .inl (ca 0, 206, .inl f_t_v))] → va_S A s.heap H locs → lv_has ls 7 [(0, .ref a_t), (1, .long x1), (3, .int x3_8), (4, .int x4_8), (5, .int x5_8)] → wX9_lengthOf_8 f_t_v x1 Q n9_8 x3_8 x4_8 x5_8 → W p l e (headSpec (Cond.code yX9_lengthOf cX9_lengthOf 7 (some .int) :: wsG) ({ frames := 1, cells := 0, slots := 0, locals := 24 } : Room)).room s m ([.ref a_t, .long x1] : List Value).toArray below meth c H locs 0 0 (MQ below (qX9_lengthOf D ca a_t a_t_v a_t_past a_t_costs a_t_into a_t_isNeeded a_t_depths a_t_names a_t_out a_t_has t_edits t_thrown t_outs f_t_v Q A) ([.ref a_t, .long x1] : List Value).toArray s 0 0 A) (F0 m 8 ls []) := by
    intro n9_8
    induction n9_8 with
    | zero =>
      intro x3_8 x4_8 x5_8 H locs ls hP hD hS hl h
      exact False.elim h
    | succ n9_8 ih8 =>
      intro x3_8 x4_8 x5_8 H locs ls hP hD hS hl h
      unfold wX9_lengthOf_8 at h
      refine lv_iload hx hb dX9_lengthOf_8 (lv_at hl 4 rfl) ?_
      refine lv_aload_n hx hb dX9_lengthOf_10 rfl (lv_at hl 0 rfl) ?_
      refine va_get (D := D) (ci := 7) (v := .ref a_t_v) (C := RX9) (T := TX9) (N := 12) hx hb hq inX9g hown hK hP 0 rfl rfl 0 (by decide) (hq _ q_881) (fun _ h9 => h9) rfl dX9_lengthOf_11 ?_
      refine lv_iconst (v := 0) hx hb dX9_lengthOf_14 (by decide) ?_
      obtain ⟨hi9, h⟩ := h
      refine va_iald hx hb hK hP 1 0 rfl rfl hi9 dX9_lengthOf_15 ?_
      refine lv_icmp_ge (tgt := 70) hx hb dX9_lengthOf_16 (by decide) (fun c9 => ?_) (fun c9 => ?_)
      · have h := h.1 c9
        refine lv_iload_n hx hb dX9_lengthOf_70 rfl (lv_at hl 2 rfl) ?_
        exact W.iret (v := x3_8) hx hb hr (fun t ht hW => ⟨⟨x3_8, (), rfl, h, by rw [ht]; exact hP, va_K.moved hW.alike hK, hD⟩, hS.F ht⟩) hS.2.2 dX9_lengthOf_71
      · have h := h.2 c9
        refine lv_lload_n hx hb dX9_lengthOf_19 rfl (lv_at hl 1 rfl) ?_
        refine lv_iload hx hb dX9_lengthOf_20 (lv_at hl 4 rfl) ?_
        refine cPi (As := [.long x1, .int x5_8]) (rest := []) ⟨hx, hb, hml, hown, hts⟩ (mX9_digitAt l x1 x5_8 _ h) (va_cwS 2 hts (gS q_1014 q_1015 q_8 q_1016) rfl rfl rfl (by decide +kernel) ⟨Nat.le_of_ble_eq_true rfl, Nat.le_of_ble_eq_true rfl⟩) hS rfl hl.1 rfl (Nat.le_of_ble_eq_true rfl) dX9_lengthOf_22 ⟨Nat.le_of_ble_eq_true rfl, Nat.le_of_ble_eq_true rfl⟩ (fun r_22 H1 locs h hk1 hS => ?_)
        have hP := s_back hP hk1
        try dsimp only at h
        refine lv_istore (lv' := [(6, .int r_22), (0, .ref a_t), (1, .long x1), (3, .int x3_8), (4, .int x4_8), (5, .int x5_8)]) hx hb dX9_lengthOf_25 hl (by decide) rfl (fun ls hl => ?_)
        refine lv_iload hx hb dX9_lengthOf_27 (lv_at hl 0 rfl) ?_
        have hJ64 : ∀ (x3_64 : Int32) (x4_64 : Int32) (H : Heap) (locs : List Loc) (ls : Array Slot), va_P D vwCl [(a_t, .inr (7, [.ref a_t_v, .ref a_t_past, .ref a_t_costs, .int t_edits, .int t_thrown, .ref a_t_into, .ref a_t_isNeeded, .ref a_t_depths, .ref a_t_names, .ref a_t_out, .int t_outs, .ref a_t_has])), (a_t_v, .inl (ca 0, 206, .inl f_t_v))] H → va_D A [(a_t, .inr (7, [.ref a_t_v, .ref a_t_past, .ref a_t_costs, .int t_edits, .int t_thrown, .ref a_t_into, .ref a_t_isNeeded, .ref a_t_depths, .ref a_t_names, .ref a_t_out, .int t_outs, .ref a_t_has])), (a_t_v, .inl (ca 0, 206, .inl f_t_v))] → va_S A s.heap H locs → lv_has ls 7 [(0, .ref a_t), (1, .long x1), (3, .int x3_64), (4, .int x4_64), (5, .int x5_8)] → wX9_lengthOf_64 x5_8 (wX9_lengthOf_8 f_t_v x1 Q n9_8) x3_64 x4_64 → W p l e (headSpec (Cond.code yX9_lengthOf cX9_lengthOf 7 (some .int) :: wsG) ({ frames := 1, cells := 0, slots := 0, locals := 24 } : Room)).room s m ([.ref a_t, .long x1] : List Value).toArray below meth c H locs 0 0 (MQ below (qX9_lengthOf D ca a_t a_t_v a_t_past a_t_costs a_t_into a_t_isNeeded a_t_depths a_t_names a_t_out a_t_has t_edits t_thrown t_outs f_t_v Q A) ([.ref a_t, .long x1] : List Value).toArray s 0 0 A) (F0 m 64 ls []) := by
          intro x3_64 x4_64 H locs ls hP hD hS hl h
          unfold wX9_lengthOf_64 at h
          obtain ⟨x5_64, ex5_64⟩ : ∃ y : Int32, y = x5_8 + 1 := ⟨_, rfl⟩
          have h := h x5_64 ex5_64
          refine lv_iinc (v := x5_64) (lv' := [(5, .int x5_64), (0, .ref a_t), (1, .long x1), (3, .int x3_64), (4, .int x4_64)]) hx hb dX9_lengthOf_64 hl (k := 4) rfl (by rw [ex5_64]; rfl) (by decide) rfl (fun ls hl => ?_)
          refine lv_goto (tgt := 8) hx hb dX9_lengthOf_67 (by decide) ?_
          exact ih8 x3_64 x4_64 x5_64 _ _ _ hP hD hS (lv_sub hl [1, 2, 3, 4, 0] rfl) h
        refine lv_if_eq (tgt := 64) hx hb dX9_lengthOf_29 (by decide) (fun c9 => ?_) (fun c9 => ?_)
        · have h := h.1 c9
          exact hJ64 x3_8 x4_8 _ _ _ hP hD hS (lv_sub hl [1, 2, 3, 4, 5] rfl) h
        · have h := h.2 c9
          refine lv_iload_n hx hb dX9_lengthOf_32 rfl (lv_at hl 3 rfl) ?_
          refine lv_iload hx hb dX9_lengthOf_33 (lv_at hl 5 rfl) ?_
          have hJ43 : ∀ (y1_43 : Int32) (H : Heap) (locs : List Loc) (ls : Array Slot), va_P D vwCl [(a_t, .inr (7, [.ref a_t_v, .ref a_t_past, .ref a_t_costs, .int t_edits, .int t_thrown, .ref a_t_into, .ref a_t_isNeeded, .ref a_t_depths, .ref a_t_names, .ref a_t_out, .int t_outs, .ref a_t_has])), (a_t_v, .inl (ca 0, 206, .inl f_t_v))] H → va_D A [(a_t, .inr (7, [.ref a_t_v, .ref a_t_past, .ref a_t_costs, .int t_edits, .int t_thrown, .ref a_t_into, .ref a_t_isNeeded, .ref a_t_depths, .ref a_t_names, .ref a_t_out, .int t_outs, .ref a_t_has])), (a_t_v, .inl (ca 0, 206, .inl f_t_v))] → va_S A s.heap H locs → lv_has ls 7 [(0, .ref a_t), (1, .long x1), (4, .int x4_8), (5, .int x5_8), (6, .int r_22)] → wX9_lengthOf_43 x3_8 x4_8 x5_8 (wX9_lengthOf_8 f_t_v x1 Q n9_8) r_22 y1_43 → W p l e (headSpec (Cond.code yX9_lengthOf cX9_lengthOf 7 (some .int) :: wsG) ({ frames := 1, cells := 0, slots := 0, locals := 24 } : Room)).room s m ([.ref a_t, .long x1] : List Value).toArray below meth c H locs 0 0 (MQ below (qX9_lengthOf D ca a_t a_t_v a_t_past a_t_costs a_t_into a_t_isNeeded a_t_depths a_t_names a_t_out a_t_has t_edits t_thrown t_outs f_t_v Q A) ([.ref a_t, .long x1] : List Value).toArray s 0 0 A) (F0 m 43 ls [.int y1_43, .int x3_8]) := by
            intro y1_43 H locs ls hP hD hS hl h
            unfold wX9_lengthOf_43 at h
            refine lv_iload hx hb dX9_lengthOf_43 (lv_at hl 2 rfl) ?_
            have hJ58 : ∀ (y2_58 : Int32) (H : Heap) (locs : List Loc) (ls : Array Slot), va_P D vwCl [(a_t, .inr (7, [.ref a_t_v, .ref a_t_past, .ref a_t_costs, .int t_edits, .int t_thrown, .ref a_t_into, .ref a_t_isNeeded, .ref a_t_depths, .ref a_t_names, .ref a_t_out, .int t_outs, .ref a_t_has])), (a_t_v, .inl (ca 0, 206, .inl f_t_v))] H → va_D A [(a_t, .inr (7, [.ref a_t_v, .ref a_t_past, .ref a_t_costs, .int t_edits, .int t_thrown, .ref a_t_into, .ref a_t_isNeeded, .ref a_t_depths, .ref a_t_names, .ref a_t_out, .int t_outs, .ref a_t_has])), (a_t_v, .inl (ca 0, 206, .inl f_t_v))] → va_S A s.heap H locs → lv_has ls 7 [(0, .ref a_t), (1, .long x1), (5, .int x5_8)] → wX9_lengthOf_58 x3_8 x5_8 (wX9_lengthOf_8 f_t_v x1 Q n9_8) y1_43 y2_58 → W p l e (headSpec (Cond.code yX9_lengthOf cX9_lengthOf 7 (some .int) :: wsG) ({ frames := 1, cells := 0, slots := 0, locals := 24 } : Room)).room s m ([.ref a_t, .long x1] : List Value).toArray below meth c H locs 0 0 (MQ below (qX9_lengthOf D ca a_t a_t_v a_t_past a_t_costs a_t_into a_t_isNeeded a_t_depths a_t_names a_t_out a_t_has t_edits t_thrown t_outs f_t_v Q A) ([.ref a_t, .long x1] : List Value).toArray s 0 0 A) (F0 m 58 ls [.int y2_58, .int y1_43, .int x3_8]) := by
              intro y2_58 H locs ls hP hD hS hl h
              unfold wX9_lengthOf_58 at h
              refine lv_iadd hx hb dX9_lengthOf_58 ?_
              refine lv_iadd hx hb dX9_lengthOf_59 ?_
              refine lv_topi (fun x3_60 ex3_60 => ?_)
              have h := h x3_60 ex3_60
              refine lv_istore_n (lv' := [(3, .int x3_60), (0, .ref a_t), (1, .long x1), (5, .int x5_8)]) hx hb dX9_lengthOf_60 rfl hl (by decide) rfl (fun ls hl => ?_)
              refine lv_iconst (v := 0) hx hb dX9_lengthOf_61 (by decide) ?_
              refine lv_istore (lv' := [(4, .int 0), (3, .int x3_60), (0, .ref a_t), (1, .long x1), (5, .int x5_8)]) hx hb dX9_lengthOf_62 hl (by decide) rfl (fun ls hl => ?_)
              exact hJ64 x3_60 0 _ _ _ hP hD hS (lv_sub hl [2, 3, 1, 0, 4] rfl) h
            have hJ53 : ∀ (H : Heap) (locs : List Loc) (ls : Array Slot), va_P D vwCl [(a_t, .inr (7, [.ref a_t_v, .ref a_t_past, .ref a_t_costs, .int t_edits, .int t_thrown, .ref a_t_into, .ref a_t_isNeeded, .ref a_t_depths, .ref a_t_names, .ref a_t_out, .int t_outs, .ref a_t_has])), (a_t_v, .inl (ca 0, 206, .inl f_t_v))] H → va_D A [(a_t, .inr (7, [.ref a_t_v, .ref a_t_past, .ref a_t_costs, .int t_edits, .int t_thrown, .ref a_t_into, .ref a_t_isNeeded, .ref a_t_depths, .ref a_t_names, .ref a_t_out, .int t_outs, .ref a_t_has])), (a_t_v, .inl (ca 0, 206, .inl f_t_v))] → va_S A s.heap H locs → lv_has ls 7 [(0, .ref a_t), (1, .long x1), (5, .int x5_8)] → wX9_lengthOf_53 x3_8 x5_8 (wX9_lengthOf_8 f_t_v x1 Q n9_8) y1_43 → W p l e (headSpec (Cond.code yX9_lengthOf cX9_lengthOf 7 (some .int) :: wsG) ({ frames := 1, cells := 0, slots := 0, locals := 24 } : Room)).room s m ([.ref a_t, .long x1] : List Value).toArray below meth c H locs 0 0 (MQ below (qX9_lengthOf D ca a_t a_t_v a_t_past a_t_costs a_t_into a_t_isNeeded a_t_depths a_t_names a_t_out a_t_has t_edits t_thrown t_outs f_t_v Q A) ([.ref a_t, .long x1] : List Value).toArray s 0 0 A) (F0 m 53 ls [.int y1_43, .int x3_8]) := by
              intro  H locs ls hP hD hS hl h
              unfold wX9_lengthOf_53 at h
              refine lv_iconst (v := 1) hx hb dX9_lengthOf_53 (by decide) ?_
              refine lv_goto (tgt := 58) hx hb dX9_lengthOf_54 (by decide) ?_
              exact hJ58 1 _ _ _ hP hD hS (lv_sub hl [0, 1, 2] rfl) h
            refine lv_if_eq (tgt := 53) hx hb dX9_lengthOf_45 (by decide) (fun c9 => ?_) (fun c9 => ?_)
            · have h := h.1 c9
              exact hJ53 _ _ _ hP hD hS (lv_sub hl [0, 1, 3] rfl) h
            · have h := h.2 c9
              refine lv_iload hx hb dX9_lengthOf_48 (lv_at hl 4 rfl) ?_
              refine lv_if_ge (tgt := 57) hx hb dX9_lengthOf_50 (by decide) (fun c9 => ?_) (fun c9 => ?_)
              · have h := h.1 c9
                refine lv_iconst (v := 0) hx hb dX9_lengthOf_57 (by decide) ?_
                exact hJ58 0 _ _ _ hP hD hS (lv_sub hl [0, 1, 3] rfl) h
              · have h := h.2 c9
                exact hJ53 _ _ _ hP hD hS (lv_sub hl [0, 1, 3] rfl) h
          refine lv_if_le (tgt := 42) hx hb dX9_lengthOf_35 (by decide) (fun c9 => ?_) (fun c9 => ?_)
          · have h := h.1 c9
            refine lv_iconst (v := 0) hx hb dX9_lengthOf_42 (by decide) ?_
            exact hJ43 0 _ _ _ hP hD hS (lv_sub hl [1, 2, 4, 5, 0] rfl) h
          · have h := h.2 c9
            refine lv_iconst (v := 1) hx hb dX9_lengthOf_38 (by decide) ?_
            refine lv_goto (tgt := 43) hx hb dX9_lengthOf_39 (by decide) ?_
            exact hJ43 1 _ _ _ hP hD hS (lv_sub hl [1, 2, 4, 5, 0] rfl) h
  obtain ⟨k9, h⟩ := h
  exact hL8 k9 0 1 0 _ _ _ hP hD hS (lv_sub hl [3, 4, 2, 1, 0] rfl) h

abbrev qX9_product (D : va_G) (ca : Nat → ClassId) (a_t a_t_v a_t_past a_t_costs a_t_into a_t_isNeeded a_t_depths a_t_names a_t_out a_t_has : Nat) (t_edits : Int32) (t_thrown : Int32) (t_outs : Int32) (f_t_costs : Nat → Int32) (Q : Int32 → (Nat → Int32) → Prop) (A : Nat → Prop) : Array Value → State → Outcome → State → Prop := va_Qi (fun (r : Int32) (u : (Nat → Int32)) => Q r u) (wEnd D ca (fun u : (Nat → Int32) => [(a_t, .inr (7, [.ref a_t_v, .ref a_t_past, .ref a_t_costs, .int t_edits, .int t_thrown, .ref a_t_into, .ref a_t_isNeeded, .ref a_t_depths, .ref a_t_names, .ref a_t_out, .int t_outs, .ref a_t_has])), (a_t_v, .inl (ca 0, 206, .inl u)), (a_t_costs, .inl (ca 0, 3, .inl f_t_costs))]) A) A
def wX9_product_138 (x5_58 : Int32) (K58 : Int32 → Int32 → (Nat → Int32) → Prop) (x4_138 : Int32) (f_t_v_138 : Nat → Int32) : Prop :=
  (∀ x5_138 : Int32, x5_138 = x5_58 + 1 → K58 x4_138 x5_138 f_t_v_138)
def wX9_product_129 (x4_58 : Int32) (x5_58 : Int32) (K58 : Int32 → Int32 → (Nat → Int32) → Prop) (r_87 : Int32) (f_t_v_87 : Nat → Int32) (y1_129 : Int32) : Prop :=
  wX9_both f_t_v_87 y1_129 x4_58 r_87 (fun r_133 f_t_v_133 => wX9_product_138 x5_58 K58 r_133 f_t_v_133)
def wX9_product_113 (x5_58 : Int32) (K58 : Int32 → Int32 → (Nat → Int32) → Prop) (f_t_v_113 : Nat → Int32) (y0_113 : Int32) : Prop :=
  wX9_product_138 x5_58 K58 y0_113 f_t_v_113
def wX9_product_58 (x1 : Int32) (x2 : Int64) (Q : Int32 → (Nat → Int32) → Prop) : Nat → Int32 → Int32 → (Nat → Int32) → Prop
  | 0, _, _, _ => False
  | n9 + 1, x4_58, x5_58, f_t_v_58 =>
  (vp_in 0 206 ∧ (((f_t_v_58 (0 : Int32).toNatClampNeg) ≤ x5_58 → Q x4_58 f_t_v_58) ∧ (¬ (f_t_v_58 (0 : Int32).toNatClampNeg) ≤ x5_58 → wX9_digitAt x2 x5_58 (fun r_72 => ((r_72 = 0 → wX9_product_138 x5_58 (wX9_product_58 x1 x2 Q n9) x4_58 f_t_v_58) ∧ (¬ r_72 = 0 → wX9_shifts f_t_v_58 0 x1 x5_58 (fun r_87 f_t_v_87 => ((0 ≤ x4_58 → ((r_72 ≤ 0 → wX9_product_129 x4_58 x5_58 (wX9_product_58 x1 x2 Q n9) r_87 f_t_v_87 4) ∧ (¬ r_72 ≤ 0 → wX9_product_129 x4_58 x5_58 (wX9_product_58 x1 x2 Q n9) r_87 f_t_v_87 3))) ∧ (¬ 0 ≤ x4_58 → ((r_72 ≤ 0 → wX9_negative f_t_v_87 r_87 (fun r_110 f_t_v_110 => wX9_product_113 x5_58 (wX9_product_58 x1 x2 Q n9) f_t_v_110 r_110)) ∧ (¬ r_72 ≤ 0 → wX9_product_113 x5_58 (wX9_product_58 x1 x2 Q n9) f_t_v_87 r_87)))))))))))
def wX9_product (f_t_v : Nat → Int32) (f_t_costs : Nat → Int32) (x1 : Int32) (x2 : Int64) (Q : Int32 → (Nat → Int32) → Prop) : Prop :=
  ((x2 = 1 → Q x1 f_t_v) ∧ (¬ x2 = 1 → ((x2 = 0 → wX9_constant f_t_v 8 x1 0 (fun r_19 f_t_v_19 => Q r_19 f_t_v_19)) ∧ (¬ x2 = 0 → wX9_lengthOf f_t_v x2 (fun r_25 => (vp_in 2 3 ∧ (vp_in 0 3 ∧ (((r_25 * (f_t_costs (2 : Int32).toNatClampNeg)) ≤ (f_t_costs (0 : Int32).toNatClampNeg) → (∃ k9, wX9_product_58 x1 x2 Q k9 ((-1)) 0 f_t_v)) ∧ (¬ (r_25 * (f_t_costs (2 : Int32).toNatClampNeg)) ≤ (f_t_costs (0 : Int32).toNatClampNeg) → wX9_constant f_t_v 5 x1 x2 (fun r_48 f_t_v_48 => Q r_48 f_t_v_48))))))))))
set_option maxHeartbeats 4000000 in
set_option maxRecDepth 100000 in
theorem mX9_product (l : Launch) (D : va_G) (ca : Nat → ClassId) (a_t a_t_v a_t_past a_t_costs a_t_into a_t_isNeeded a_t_depths a_t_names a_t_out a_t_has : Nat) (sz : Nat) (t_edits : Int32) (t_thrown : Int32) (t_outs : Int32) (f_t_v : Nat → Int32) (f_t_costs : Nat → Int32) (x1 : Int32) (x2 : Int64) (Q : Int32 → (Nat → Int32) → Prop) (h : wX9_product f_t_v f_t_costs x1 x2 Q) : Met l yX9_product (Cond.code yX9_product cX9_product 8 (some .int) :: wsG) ({ frames := 2, cells := 0, slots := 0, locals := 52 } : Room) (va_Pc [.ref a_t, .int x1, .long x2] (wPre D ca [(a_t, .inr (7, [.ref a_t_v, .ref a_t_past, .ref a_t_costs, .int t_edits, .int t_thrown, .ref a_t_into, .ref a_t_isNeeded, .ref a_t_depths, .ref a_t_names, .ref a_t_out, .int t_outs, .ref a_t_has])), (a_t_v, .inl (ca 0, 206, .inl f_t_v)), (a_t_costs, .inl (ca 0, 3, .inl f_t_costs))] sz)) (qX9_product D ca a_t a_t_v a_t_past a_t_costs a_t_into a_t_isNeeded a_t_depths a_t_names a_t_out a_t_has t_edits t_thrown t_outs f_t_costs Q (va_A [(a_t, .inr (7, [.ref a_t_v, .ref a_t_past, .ref a_t_costs, .int t_edits, .int t_thrown, .ref a_t_into, .ref a_t_isNeeded, .ref a_t_depths, .ref a_t_names, .ref a_t_out, .int t_outs, .ref a_t_has])), (a_t_v, .inl (ca 0, 206, .inl f_t_v)), (a_t_costs, .inl (ca 0, 3, .inl f_t_costs))] sz)) 0 0 (va_A [(a_t, .inr (7, [.ref a_t_v, .ref a_t_past, .ref a_t_costs, .int t_edits, .int t_thrown, .ref a_t_into, .ref a_t_isNeeded, .ref a_t_depths, .ref a_t_names, .ref a_t_out, .int t_outs, .ref a_t_has])), (a_t_v, .inl (ca 0, 206, .inl f_t_v)), (a_t_costs, .inl (ca 0, 3, .inl f_t_costs))] sz) := by
  refine Met.ofW (cc := cX9_product) (maxL := 8) (ret := (some .int)) (by decide) rfl ?_
  intro p e s m args below meth c s₁ B hml hv
  obtain ⟨rfl, hsz, hP, hK, hD0⟩ := hv
  have hx := B.exec
  have hb := B.bytes
  have hr := B.returns
  have hts := atoms_spec (ws := (Cond.code yX9_product cX9_product 8 (some .int) :: wsG)) B.pre
  have hq : ∀ w ∈ wsG, w.before _ s = true := fun w hw => hts w (List.mem_cons_of_mem _ hw)
  have hown : s.vm.findClass RX9 = some m.cls := findClass_of_methodNamed B.named
  have hlocks := B.notSynchronized
  subst hsz
  have hD := hD0.self (sz := s.heap.size)
  generalize hAe : va_A [(a_t, .inr (7, [.ref a_t_v, .ref a_t_past, .ref a_t_costs, .int t_edits, .int t_thrown, .ref a_t_into, .ref a_t_isNeeded, .ref a_t_depths, .ref a_t_names, .ref a_t_out, .int t_outs, .ref a_t_has])), (a_t_v, .inl (ca 0, 206, .inl f_t_v)), (a_t_costs, .inl (ca 0, 3, .inl f_t_costs))] s.heap.size = A at hD ⊢
  have hA : ∀ q : Nat, s.heap.size ≤ q → A q := fun q h => by rw [← hAe]; exact Or.inr h
  have hS : va_S A s.heap s.heap [] := va_S.rf
  have hP : va_P D vwCl [(a_t, .inr (7, [.ref a_t_v, .ref a_t_past, .ref a_t_costs, .int t_edits, .int t_thrown, .ref a_t_into, .ref a_t_isNeeded, .ref a_t_depths, .ref a_t_names, .ref a_t_out, .int t_outs, .ref a_t_has])), (a_t_v, .inl (ca 0, 206, .inl f_t_v)), (a_t_costs, .inl (ca 0, 3, .inl f_t_costs))] s.heap := hP
  have hl := lv_entry ([.ref a_t, .int x1, .long x2]) (n := 8) (Nat.le_of_ble_eq_true rfl)
  rw [lg_entry_eq]
  generalize (lg_sl ([.ref a_t, .int x1, .long x2]) ++ List.replicate (8 - (lg_sl ([.ref a_t, .int x1, .long x2])).length) Slot.unset).toArray = ls at hl ⊢
  have hl : lv_has ls 8 [(0, .ref a_t), (1, .int x1), (2, .long x2)] := hl
  unfold wX9_product at h
  refine lv_lload_n hx hb dX9_product_0 rfl (lv_at hl 2 rfl) ?_
  refine lv_lconst (v := 1) hx hb dX9_product_1 (by decide) ?_
  refine jl_ne (tgt := 8) hx hb dX9_product_2 dX9_product_3 (by decide) (fun c9 => ?_) (fun c9 => ?_)
  · have h := h.2 c9
    refine lv_lload_n hx hb dX9_product_8 rfl (lv_at hl 2 rfl) ?_
    refine lv_lconst (v := 0) hx hb dX9_product_9 (by decide) ?_
    refine jl_ne (tgt := 23) hx hb dX9_product_10 dX9_product_11 (by decide) (fun c9 => ?_) (fun c9 => ?_)
    · have h := h.2 c9
      refine lv_aload_n hx hb dX9_product_23 rfl (lv_at hl 0 rfl) ?_
      refine lv_lload_n hx hb dX9_product_24 rfl (lv_at hl 2 rfl) ?_
      refine cVi (As := [.long x2]) (rest := []) (wc := [(a_t, .inr (7, [.ref a_t_v, .ref a_t_past, .ref a_t_costs, .int t_edits, .int t_thrown, .ref a_t_into, .ref a_t_isNeeded, .ref a_t_depths, .ref a_t_names, .ref a_t_out, .int t_outs, .ref a_t_has])), (a_t_v, .inl (ca 0, 206, .inl f_t_v))]) (wr := [(a_t_costs, .inl (ca 0, 3, .inl f_t_costs))]) (w1 := fun _ : Unit => [(a_t, .inr (7, [.ref a_t_v, .ref a_t_past, .ref a_t_costs, .int t_edits, .int t_thrown, .ref a_t_into, .ref a_t_isNeeded, .ref a_t_depths, .ref a_t_names, .ref a_t_out, .int t_outs, .ref a_t_has])), (a_t_v, .inl (ca 0, 206, .inl f_t_v))]) (ws2 := fun _ : Unit => [(a_t, .inr (7, [.ref a_t_v, .ref a_t_past, .ref a_t_costs, .int t_edits, .int t_thrown, .ref a_t_into, .ref a_t_isNeeded, .ref a_t_depths, .ref a_t_names, .ref a_t_out, .int t_outs, .ref a_t_has])), (a_t_v, .inl (ca 0, 206, .inl f_t_v)), (a_t_costs, .inl (ca 0, 3, .inl f_t_costs))]) ⟨hx, hb, hml, hown, hts⟩ (mX9_lengthOf l D ca a_t a_t_v a_t_past a_t_costs a_t_into a_t_isNeeded a_t_depths a_t_names a_t_out a_t_has _ t_edits t_thrown t_outs f_t_v x2 _ h) (cwV 1 hts (gV q_1054 q_1056 qs_50 q_8 q_1057) rfl rfl rfl (by decide +kernel) ⟨Nat.le_of_ble_eq_true rfl, Nat.le_of_ble_eq_true rfl⟩) hK hP hD hS hA [0, 1] [2] [1, 2, 0] rfl rfl rfl (by decide) (fun _ => rfl) (ci := 7) (q0 := 0) rfl rfl rfl hl.1 rfl (Nat.le_of_ble_eq_true rfl) dX9_product_25 ⟨Nat.le_of_ble_eq_true rfl, Nat.le_of_ble_eq_true rfl⟩ (fun r_25 u9 H locs h hP hD hS => ?_)
      try dsimp only at h
      refine lv_aload_n hx hb dX9_product_28 rfl (lv_at hl 0 rfl) ?_
      refine va_get (D := D) (ci := 7) (v := .ref a_t_costs) (C := RX9) (T := TX9) (N := 12) hx hb hq inX9g hown hK hP 0 rfl rfl 2 (by decide) (hq _ q_883) (fun _ h9 => h9) rfl dX9_product_29 ?_
      refine lv_iconst (v := 2) hx hb dX9_product_32 (by decide) ?_
      obtain ⟨hi9, h⟩ := h
      refine va_iald hx hb hK hP 2 0 rfl rfl hi9 dX9_product_33 ?_
      refine lv_imul hx hb dX9_product_34 ?_
      refine lv_aload_n hx hb dX9_product_35 rfl (lv_at hl 0 rfl) ?_
      refine va_get (D := D) (ci := 7) (v := .ref a_t_costs) (C := RX9) (T := TX9) (N := 12) hx hb hq inX9g hown hK hP 0 rfl rfl 2 (by decide) (hq _ q_883) (fun _ h9 => h9) rfl dX9_product_36 ?_
      refine lv_iconst (v := 0) hx hb dX9_product_39 (by decide) ?_
      obtain ⟨hi9, h⟩ := h
      refine va_iald hx hb hK hP 2 0 rfl rfl hi9 dX9_product_40 ?_
      refine lv_icmp_le (tgt := 52) hx hb dX9_product_41 (by decide) (fun c9 => ?_) (fun c9 => ?_)
      · have h := h.1 c9
        refine lv_iconst (v := (-1)) hx hb dX9_product_52 (by decide) ?_
        refine lv_istore (lv' := [(4, .int ((-1))), (0, .ref a_t), (1, .int x1), (2, .long x2)]) hx hb dX9_product_53 hl (by decide) rfl (fun ls hl => ?_)
        refine lv_iconst (v := 0) hx hb dX9_product_55 (by decide) ?_
        refine lv_istore (lv' := [(5, .int 0), (4, .int ((-1))), (0, .ref a_t), (1, .int x1), (2, .long x2)]) hx hb dX9_product_56 hl (by decide) rfl (fun ls hl => ?_)
        have hL58 : ∀ (n9_58 : Nat) (x4_58 : Int32) (x5_58 : Int32) (f_t_v_58 : Nat → Int32) (H : Heap) (locs : List Loc) (ls : Array Slot), va_P D vwCl [(a_t, .inr (7, [.ref a_t_v, .ref a_t_past, .ref a_t_costs, .int t_edits, .int t_thrown, .ref a_t_into, .ref a_t_isNeeded, .ref a_t_depths, .ref a_t_names, .ref a_t_out, .int t_outs, .ref a_t_has])), (a_t_v, .inl (ca 0, 206, .inl f_t_v_58)), (a_t_costs, .inl (ca 0, 3, .inl f_t_costs))] H → va_D A [(a_t, .inr (7, [.ref a_t_v, .ref a_t_past, .ref a_t_costs, .int t_edits, .int t_thrown, .ref a_t_into, .ref a_t_isNeeded, .ref a_t_depths, .ref a_t_names, .ref a_t_out, .int t_outs, .ref a_t_has])), (a_t_v, .inl (ca 0, 206, .inl f_t_v_58)), (a_t_costs, .inl (ca 0, 3, .inl f_t_costs))] → va_S A s.heap H locs → lv_has ls 8 [(0, .ref a_t), (1, .int x1), (2, .long x2), (4, .int x4_58), (5, .int x5_58)] → wX9_product_58 x1 x2 Q n9_58 x4_58 x5_58 f_t_v_58 → W p l e (headSpec (Cond.code yX9_product cX9_product 8 (some .int) :: wsG) ({ frames := 2, cells := 0, slots := 0, locals := 52 } : Room)).room s m ([.ref a_t, .int x1, .long x2] : List Value).toArray below meth c H locs 0 0 (MQ below (qX9_product D ca a_t a_t_v a_t_past a_t_costs a_t_into a_t_isNeeded a_t_depths a_t_names a_t_out a_t_has t_edits t_thrown t_outs f_t_costs Q A) ([.ref a_t, .int x1, .long x2] : List Value).toArray s 0 0 A) (F0 m 58 ls []) := by
          intro n9_58
          induction n9_58 with
          | zero =>
            intro x4_58 x5_58 f_t_v_58 H locs ls hP hD hS hl h
            exact False.elim h
          | succ n9_58 ih58 =>
            intro x4_58 x5_58 f_t_v_58 H locs ls hP hD hS hl h
            unfold wX9_product_58 at h
            refine lv_iload hx hb dX9_product_58 (lv_at hl 4 rfl) ?_
            refine lv_aload_n hx hb dX9_product_60 rfl (lv_at hl 0 rfl) ?_
            refine va_get (D := D) (ci := 7) (v := .ref a_t_v) (C := RX9) (T := TX9) (N := 12) hx hb hq inX9g hown hK hP 0 rfl rfl 0 (by decide) (hq _ q_881) (fun _ h9 => h9) rfl dX9_product_61 ?_
            refine lv_iconst (v := 0) hx hb dX9_product_64 (by decide) ?_
            obtain ⟨hi9, h⟩ := h
            refine va_iald hx hb hK hP 1 0 rfl rfl hi9 dX9_product_65 ?_
            refine lv_icmp_ge (tgt := 144) hx hb dX9_product_66 (by decide) (fun c9 => ?_) (fun c9 => ?_)
            · have h := h.1 c9
              refine lv_iload hx hb dX9_product_144 (lv_at hl 3 rfl) ?_
              exact W.iret (v := x4_58) hx hb hr (fun t ht hW => ⟨⟨x4_58, f_t_v_58, rfl, h, by rw [ht]; exact hP, va_K.moved hW.alike hK, hD⟩, hS.F ht⟩) hS.2.2 dX9_product_146
            · have h := h.2 c9
              refine lv_lload_n hx hb dX9_product_69 rfl (lv_at hl 2 rfl) ?_
              refine lv_iload hx hb dX9_product_70 (lv_at hl 4 rfl) ?_
              refine cPi (As := [.long x2, .int x5_58]) (rest := []) ⟨hx, hb, hml, hown, hts⟩ (mX9_digitAt l x2 x5_58 _ h) (va_cwS 2 hts (gS q_1014 q_1015 q_8 q_1016) rfl rfl rfl (by decide +kernel) ⟨Nat.le_of_ble_eq_true rfl, Nat.le_of_ble_eq_true rfl⟩) hS rfl hl.1 rfl (Nat.le_of_ble_eq_true rfl) dX9_product_72 ⟨Nat.le_of_ble_eq_true rfl, Nat.le_of_ble_eq_true rfl⟩ (fun r_72 H1 locs h hk1 hS => ?_)
              have hP := s_back hP hk1
              try dsimp only at h
              refine lv_istore (lv' := [(6, .int r_72), (0, .ref a_t), (1, .int x1), (2, .long x2), (4, .int x4_58), (5, .int x5_58)]) hx hb dX9_product_75 hl (by decide) rfl (fun ls hl => ?_)
              refine lv_iload hx hb dX9_product_77 (lv_at hl 0 rfl) ?_
              have hJ138 : ∀ (x4_138 : Int32) (f_t_v_138 : Nat → Int32) (H : Heap) (locs : List Loc) (ls : Array Slot), va_P D vwCl [(a_t, .inr (7, [.ref a_t_v, .ref a_t_past, .ref a_t_costs, .int t_edits, .int t_thrown, .ref a_t_into, .ref a_t_isNeeded, .ref a_t_depths, .ref a_t_names, .ref a_t_out, .int t_outs, .ref a_t_has])), (a_t_v, .inl (ca 0, 206, .inl f_t_v_138)), (a_t_costs, .inl (ca 0, 3, .inl f_t_costs))] H → va_D A [(a_t, .inr (7, [.ref a_t_v, .ref a_t_past, .ref a_t_costs, .int t_edits, .int t_thrown, .ref a_t_into, .ref a_t_isNeeded, .ref a_t_depths, .ref a_t_names, .ref a_t_out, .int t_outs, .ref a_t_has])), (a_t_v, .inl (ca 0, 206, .inl f_t_v_138)), (a_t_costs, .inl (ca 0, 3, .inl f_t_costs))] → va_S A s.heap H locs → lv_has ls 8 [(0, .ref a_t), (1, .int x1), (2, .long x2), (4, .int x4_138), (5, .int x5_58)] → wX9_product_138 x5_58 (wX9_product_58 x1 x2 Q n9_58) x4_138 f_t_v_138 → W p l e (headSpec (Cond.code yX9_product cX9_product 8 (some .int) :: wsG) ({ frames := 2, cells := 0, slots := 0, locals := 52 } : Room)).room s m ([.ref a_t, .int x1, .long x2] : List Value).toArray below meth c H locs 0 0 (MQ below (qX9_product D ca a_t a_t_v a_t_past a_t_costs a_t_into a_t_isNeeded a_t_depths a_t_names a_t_out a_t_has t_edits t_thrown t_outs f_t_costs Q A) ([.ref a_t, .int x1, .long x2] : List Value).toArray s 0 0 A) (F0 m 138 ls []) := by
                intro x4_138 f_t_v_138 H locs ls hP hD hS hl h
                unfold wX9_product_138 at h
                obtain ⟨x5_138, ex5_138⟩ : ∃ y : Int32, y = x5_58 + 1 := ⟨_, rfl⟩
                have h := h x5_138 ex5_138
                refine lv_iinc (v := x5_138) (lv' := [(5, .int x5_138), (0, .ref a_t), (1, .int x1), (2, .long x2), (4, .int x4_138)]) hx hb dX9_product_138 hl (k := 4) rfl (by rw [ex5_138]; rfl) (by decide) rfl (fun ls hl => ?_)
                refine lv_goto (tgt := 58) hx hb dX9_product_141 (by decide) ?_
                exact ih58 x4_138 x5_138 f_t_v_138 _ _ _ hP hD hS (lv_sub hl [1, 2, 3, 4, 0] rfl) h
              refine lv_if_eq (tgt := 138) hx hb dX9_product_79 (by decide) (fun c9 => ?_) (fun c9 => ?_)
              · have h := h.1 c9
                exact hJ138 x4_58 f_t_v_58 _ _ _ hP hD hS (lv_sub hl [1, 2, 3, 4, 5] rfl) h
              · have h := h.2 c9
                refine lv_aload_n hx hb dX9_product_82 rfl (lv_at hl 1 rfl) ?_
                refine lv_iconst (v := 0) hx hb dX9_product_83 (by decide) ?_
                refine lv_iload_n hx hb dX9_product_84 rfl (lv_at hl 2 rfl) ?_
                refine lv_iload hx hb dX9_product_85 (lv_at hl 5 rfl) ?_
                refine cVi (As := [.int 0, .int x1, .int x5_58]) (rest := []) (wc := [(a_t, .inr (7, [.ref a_t_v, .ref a_t_past, .ref a_t_costs, .int t_edits, .int t_thrown, .ref a_t_into, .ref a_t_isNeeded, .ref a_t_depths, .ref a_t_names, .ref a_t_out, .int t_outs, .ref a_t_has])), (a_t_v, .inl (ca 0, 206, .inl f_t_v_58))]) (wr := [(a_t_costs, .inl (ca 0, 3, .inl f_t_costs))]) (w1 := fun u : (Nat → Int32) => [(a_t, .inr (7, [.ref a_t_v, .ref a_t_past, .ref a_t_costs, .int t_edits, .int t_thrown, .ref a_t_into, .ref a_t_isNeeded, .ref a_t_depths, .ref a_t_names, .ref a_t_out, .int t_outs, .ref a_t_has])), (a_t_v, .inl (ca 0, 206, .inl u))]) (ws2 := fun u : (Nat → Int32) => [(a_t, .inr (7, [.ref a_t_v, .ref a_t_past, .ref a_t_costs, .int t_edits, .int t_thrown, .ref a_t_into, .ref a_t_isNeeded, .ref a_t_depths, .ref a_t_names, .ref a_t_out, .int t_outs, .ref a_t_has])), (a_t_v, .inl (ca 0, 206, .inl u)), (a_t_costs, .inl (ca 0, 3, .inl f_t_costs))]) ⟨hx, hb, hml, hown, hts⟩ (mX9_shifts l D ca a_t a_t_v a_t_past a_t_costs a_t_into a_t_isNeeded a_t_depths a_t_names a_t_out a_t_has _ t_edits t_thrown t_outs f_t_v_58 0 x1 x5_58 _ h) (cwV 3 hts (gV q_1034 q_1036 qs_45 q_8 q_1037) rfl rfl rfl (by decide +kernel) ⟨Nat.le_of_ble_eq_true rfl, Nat.le_of_ble_eq_true rfl⟩) hK hP hD hS hA [0, 1] [2] [1, 2, 0] rfl rfl rfl (by decide) (fun _ => rfl) (ci := 7) (q0 := 0) rfl rfl rfl hl.1 rfl (Nat.le_of_ble_eq_true rfl) dX9_product_87 ⟨Nat.le_of_ble_eq_true rfl, Nat.le_of_ble_eq_true rfl⟩ (fun r_87 u9 H locs h hP hD hS => ?_)
                obtain ⟨f_t_v_87, rfl⟩ : ∃ z, z = u9 := ⟨_, rfl⟩
                have hP : va_P D vwCl [(a_t, .inr (7, [.ref a_t_v, .ref a_t_past, .ref a_t_costs, .int t_edits, .int t_thrown, .ref a_t_into, .ref a_t_isNeeded, .ref a_t_depths, .ref a_t_names, .ref a_t_out, .int t_outs, .ref a_t_has])), (a_t_v, .inl (ca 0, 206, .inl f_t_v_87)), (a_t_costs, .inl (ca 0, 3, .inl f_t_costs))] H := hP
                have hD : va_D A [(a_t, .inr (7, [.ref a_t_v, .ref a_t_past, .ref a_t_costs, .int t_edits, .int t_thrown, .ref a_t_into, .ref a_t_isNeeded, .ref a_t_depths, .ref a_t_names, .ref a_t_out, .int t_outs, .ref a_t_has])), (a_t_v, .inl (ca 0, 206, .inl f_t_v_87)), (a_t_costs, .inl (ca 0, 3, .inl f_t_costs))] := hD
                try dsimp only at h
                refine lv_istore (lv' := [(7, .int r_87), (6, .int r_72), (0, .ref a_t), (1, .int x1), (2, .long x2), (4, .int x4_58), (5, .int x5_58)]) hx hb dX9_product_90 hl (by decide) rfl (fun ls hl => ?_)
                refine lv_iload hx hb dX9_product_92 (lv_at hl 5 rfl) ?_
                refine lv_if_ge (tgt := 118) hx hb dX9_product_94 (by decide) (fun c9 => ?_) (fun c9 => ?_)
                · have h := h.1 c9
                  refine lv_aload_n hx hb dX9_product_118 rfl (lv_at hl 2 rfl) ?_
                  refine lv_iload hx hb dX9_product_119 (lv_at hl 1 rfl) ?_
                  have hJ129 : ∀ (y1_129 : Int32) (H : Heap) (locs : List Loc) (ls : Array Slot), va_P D vwCl [(a_t, .inr (7, [.ref a_t_v, .ref a_t_past, .ref a_t_costs, .int t_edits, .int t_thrown, .ref a_t_into, .ref a_t_isNeeded, .ref a_t_depths, .ref a_t_names, .ref a_t_out, .int t_outs, .ref a_t_has])), (a_t_v, .inl (ca 0, 206, .inl f_t_v_87)), (a_t_costs, .inl (ca 0, 3, .inl f_t_costs))] H → va_D A [(a_t, .inr (7, [.ref a_t_v, .ref a_t_past, .ref a_t_costs, .int t_edits, .int t_thrown, .ref a_t_into, .ref a_t_isNeeded, .ref a_t_depths, .ref a_t_names, .ref a_t_out, .int t_outs, .ref a_t_has])), (a_t_v, .inl (ca 0, 206, .inl f_t_v_87)), (a_t_costs, .inl (ca 0, 3, .inl f_t_costs))] → va_S A s.heap H locs → lv_has ls 8 [(0, .ref a_t), (1, .int x1), (2, .long x2), (4, .int x4_58), (5, .int x5_58), (7, .int r_87)] → wX9_product_129 x4_58 x5_58 (wX9_product_58 x1 x2 Q n9_58) r_87 f_t_v_87 y1_129 → W p l e (headSpec (Cond.code yX9_product cX9_product 8 (some .int) :: wsG) ({ frames := 2, cells := 0, slots := 0, locals := 52 } : Room)).room s m ([.ref a_t, .int x1, .long x2] : List Value).toArray below meth c H locs 0 0 (MQ below (qX9_product D ca a_t a_t_v a_t_past a_t_costs a_t_into a_t_isNeeded a_t_depths a_t_names a_t_out a_t_has t_edits t_thrown t_outs f_t_costs Q A) ([.ref a_t, .int x1, .long x2] : List Value).toArray s 0 0 A) (F0 m 129 ls [.int y1_129, .ref a_t]) := by
                    intro y1_129 H locs ls hP hD hS hl h
                    unfold wX9_product_129 at h
                    refine lv_iload hx hb dX9_product_129 (lv_at hl 3 rfl) ?_
                    refine lv_iload hx hb dX9_product_131 (lv_at hl 5 rfl) ?_
                    refine cVi (As := [.int y1_129, .int x4_58, .int r_87]) (rest := []) (wc := [(a_t, .inr (7, [.ref a_t_v, .ref a_t_past, .ref a_t_costs, .int t_edits, .int t_thrown, .ref a_t_into, .ref a_t_isNeeded, .ref a_t_depths, .ref a_t_names, .ref a_t_out, .int t_outs, .ref a_t_has])), (a_t_v, .inl (ca 0, 206, .inl f_t_v_87))]) (wr := [(a_t_costs, .inl (ca 0, 3, .inl f_t_costs))]) (w1 := fun u : (Nat → Int32) => [(a_t, .inr (7, [.ref a_t_v, .ref a_t_past, .ref a_t_costs, .int t_edits, .int t_thrown, .ref a_t_into, .ref a_t_isNeeded, .ref a_t_depths, .ref a_t_names, .ref a_t_out, .int t_outs, .ref a_t_has])), (a_t_v, .inl (ca 0, 206, .inl u))]) (ws2 := fun u : (Nat → Int32) => [(a_t, .inr (7, [.ref a_t_v, .ref a_t_past, .ref a_t_costs, .int t_edits, .int t_thrown, .ref a_t_into, .ref a_t_isNeeded, .ref a_t_depths, .ref a_t_names, .ref a_t_out, .int t_outs, .ref a_t_has])), (a_t_v, .inl (ca 0, 206, .inl u)), (a_t_costs, .inl (ca 0, 3, .inl f_t_costs))]) ⟨hx, hb, hml, hown, hts⟩ (mX9_both l D ca a_t a_t_v a_t_past a_t_costs a_t_into a_t_isNeeded a_t_depths a_t_names a_t_out a_t_has _ t_edits t_thrown t_outs f_t_v_87 y1_129 x4_58 r_87 _ h) (cwV 3 hts (gV q_1046 q_1048 qs_48 q_8 q_1049) rfl rfl rfl (by decide +kernel) ⟨Nat.le_of_ble_eq_true rfl, Nat.le_of_ble_eq_true rfl⟩) hK hP hD hS hA [0, 1] [2] [1, 2, 0] rfl rfl rfl (by decide) (fun _ => rfl) (ci := 7) (q0 := 0) rfl rfl rfl hl.1 rfl (Nat.le_of_ble_eq_true rfl) dX9_product_133 ⟨Nat.le_of_ble_eq_true rfl, Nat.le_of_ble_eq_true rfl⟩ (fun r_133 u9 H locs h hP hD hS => ?_)
                    obtain ⟨f_t_v_133, rfl⟩ : ∃ z, z = u9 := ⟨_, rfl⟩
                    have hP : va_P D vwCl [(a_t, .inr (7, [.ref a_t_v, .ref a_t_past, .ref a_t_costs, .int t_edits, .int t_thrown, .ref a_t_into, .ref a_t_isNeeded, .ref a_t_depths, .ref a_t_names, .ref a_t_out, .int t_outs, .ref a_t_has])), (a_t_v, .inl (ca 0, 206, .inl f_t_v_133)), (a_t_costs, .inl (ca 0, 3, .inl f_t_costs))] H := hP
                    have hD : va_D A [(a_t, .inr (7, [.ref a_t_v, .ref a_t_past, .ref a_t_costs, .int t_edits, .int t_thrown, .ref a_t_into, .ref a_t_isNeeded, .ref a_t_depths, .ref a_t_names, .ref a_t_out, .int t_outs, .ref a_t_has])), (a_t_v, .inl (ca 0, 206, .inl f_t_v_133)), (a_t_costs, .inl (ca 0, 3, .inl f_t_costs))] := hD
                    try dsimp only at h
                    refine lv_istore (lv' := [(4, .int r_133), (0, .ref a_t), (1, .int x1), (2, .long x2), (5, .int x5_58), (7, .int r_87)]) hx hb dX9_product_136 hl (by decide) rfl (fun ls hl => ?_)
                    exact hJ138 r_133 f_t_v_133 _ _ _ hP hD hS (lv_sub hl [1, 2, 3, 0, 4] rfl) h
                  refine lv_if_le (tgt := 128) hx hb dX9_product_121 (by decide) (fun c9 => ?_) (fun c9 => ?_)
                  · have h := h.1 c9
                    refine lv_iconst (v := 4) hx hb dX9_product_128 (by decide) ?_
                    exact hJ129 4 _ _ _ hP hD hS (lv_sub hl [2, 3, 4, 5, 6, 0] rfl) h
                  · have h := h.2 c9
                    refine lv_iconst (v := 3) hx hb dX9_product_124 (by decide) ?_
                    refine lv_goto (tgt := 129) hx hb dX9_product_125 (by decide) ?_
                    exact hJ129 3 _ _ _ hP hD hS (lv_sub hl [2, 3, 4, 5, 6, 0] rfl) h
                · have h := h.2 c9
                  refine lv_iload hx hb dX9_product_97 (lv_at hl 1 rfl) ?_
                  have hJ113 : ∀ (f_t_v_113 : Nat → Int32) (y0_113 : Int32) (H : Heap) (locs : List Loc) (ls : Array Slot), va_P D vwCl [(a_t, .inr (7, [.ref a_t_v, .ref a_t_past, .ref a_t_costs, .int t_edits, .int t_thrown, .ref a_t_into, .ref a_t_isNeeded, .ref a_t_depths, .ref a_t_names, .ref a_t_out, .int t_outs, .ref a_t_has])), (a_t_v, .inl (ca 0, 206, .inl f_t_v_113)), (a_t_costs, .inl (ca 0, 3, .inl f_t_costs))] H → va_D A [(a_t, .inr (7, [.ref a_t_v, .ref a_t_past, .ref a_t_costs, .int t_edits, .int t_thrown, .ref a_t_into, .ref a_t_isNeeded, .ref a_t_depths, .ref a_t_names, .ref a_t_out, .int t_outs, .ref a_t_has])), (a_t_v, .inl (ca 0, 206, .inl f_t_v_113)), (a_t_costs, .inl (ca 0, 3, .inl f_t_costs))] → va_S A s.heap H locs → lv_has ls 8 [(0, .ref a_t), (1, .int x1), (2, .long x2), (5, .int x5_58)] → wX9_product_113 x5_58 (wX9_product_58 x1 x2 Q n9_58) f_t_v_113 y0_113 → W p l e (headSpec (Cond.code yX9_product cX9_product 8 (some .int) :: wsG) ({ frames := 2, cells := 0, slots := 0, locals := 52 } : Room)).room s m ([.ref a_t, .int x1, .long x2] : List Value).toArray below meth c H locs 0 0 (MQ below (qX9_product D ca a_t a_t_v a_t_past a_t_costs a_t_into a_t_isNeeded a_t_depths a_t_names a_t_out a_t_has t_edits t_thrown t_outs f_t_costs Q A) ([.ref a_t, .int x1, .long x2] : List Value).toArray s 0 0 A) (F0 m 113 ls [.int y0_113]) := by
                    intro f_t_v_113 y0_113 H locs ls hP hD hS hl h
                    unfold wX9_product_113 at h
                    refine lv_istore (lv' := [(4, .int y0_113), (0, .ref a_t), (1, .int x1), (2, .long x2), (5, .int x5_58)]) hx hb dX9_product_113 hl (by decide) rfl (fun ls hl => ?_)
                    refine lv_goto (tgt := 138) hx hb dX9_product_115 (by decide) ?_
                    exact hJ138 y0_113 f_t_v_113 _ _ _ hP hD hS (lv_sub hl [1, 2, 3, 0, 4] rfl) h
                  refine lv_if_le (tgt := 107) hx hb dX9_product_99 (by decide) (fun c9 => ?_) (fun c9 => ?_)
                  · have h := h.1 c9
                    refine lv_aload_n hx hb dX9_product_107 rfl (lv_at hl 2 rfl) ?_
                    refine lv_iload hx hb dX9_product_108 (lv_at hl 0 rfl) ?_
                    refine cVi (As := [.int r_87]) (rest := []) (wc := [(a_t, .inr (7, [.ref a_t_v, .ref a_t_past, .ref a_t_costs, .int t_edits, .int t_thrown, .ref a_t_into, .ref a_t_isNeeded, .ref a_t_depths, .ref a_t_names, .ref a_t_out, .int t_outs, .ref a_t_has])), (a_t_v, .inl (ca 0, 206, .inl f_t_v_87))]) (wr := [(a_t_costs, .inl (ca 0, 3, .inl f_t_costs))]) (w1 := fun u : (Nat → Int32) => [(a_t, .inr (7, [.ref a_t_v, .ref a_t_past, .ref a_t_costs, .int t_edits, .int t_thrown, .ref a_t_into, .ref a_t_isNeeded, .ref a_t_depths, .ref a_t_names, .ref a_t_out, .int t_outs, .ref a_t_has])), (a_t_v, .inl (ca 0, 206, .inl u))]) (ws2 := fun u : (Nat → Int32) => [(a_t, .inr (7, [.ref a_t_v, .ref a_t_past, .ref a_t_costs, .int t_edits, .int t_thrown, .ref a_t_into, .ref a_t_isNeeded, .ref a_t_depths, .ref a_t_names, .ref a_t_out, .int t_outs, .ref a_t_has])), (a_t_v, .inl (ca 0, 206, .inl u)), (a_t_costs, .inl (ca 0, 3, .inl f_t_costs))]) ⟨hx, hb, hml, hown, hts⟩ (mX9_negative l D ca a_t a_t_v a_t_past a_t_costs a_t_into a_t_isNeeded a_t_depths a_t_names a_t_out a_t_has _ t_edits t_thrown t_outs f_t_v_87 r_87 _ h) (cwV 1 hts (gV q_1058 q_1060 qs_51 q_8 q_1061) rfl rfl rfl (by decide +kernel) ⟨Nat.le_of_ble_eq_true rfl, Nat.le_of_ble_eq_true rfl⟩) hK hP hD hS hA [0, 1] [2] [1, 2, 0] rfl rfl rfl (by decide) (fun _ => rfl) (ci := 7) (q0 := 0) rfl rfl rfl hl.1 rfl (Nat.le_of_ble_eq_true rfl) dX9_product_110 ⟨Nat.le_of_ble_eq_true rfl, Nat.le_of_ble_eq_true rfl⟩ (fun r_110 u9 H locs h hP hD hS => ?_)
                    obtain ⟨f_t_v_110, rfl⟩ : ∃ z, z = u9 := ⟨_, rfl⟩
                    have hP : va_P D vwCl [(a_t, .inr (7, [.ref a_t_v, .ref a_t_past, .ref a_t_costs, .int t_edits, .int t_thrown, .ref a_t_into, .ref a_t_isNeeded, .ref a_t_depths, .ref a_t_names, .ref a_t_out, .int t_outs, .ref a_t_has])), (a_t_v, .inl (ca 0, 206, .inl f_t_v_110)), (a_t_costs, .inl (ca 0, 3, .inl f_t_costs))] H := hP
                    have hD : va_D A [(a_t, .inr (7, [.ref a_t_v, .ref a_t_past, .ref a_t_costs, .int t_edits, .int t_thrown, .ref a_t_into, .ref a_t_isNeeded, .ref a_t_depths, .ref a_t_names, .ref a_t_out, .int t_outs, .ref a_t_has])), (a_t_v, .inl (ca 0, 206, .inl f_t_v_110)), (a_t_costs, .inl (ca 0, 3, .inl f_t_costs))] := hD
                    try dsimp only at h
                    exact hJ113 f_t_v_110 r_110 _ _ _ hP hD hS (lv_sub hl [2, 3, 4, 6] rfl) h
                  · have h := h.2 c9
                    refine lv_iload hx hb dX9_product_102 (lv_at hl 0 rfl) ?_
                    refine lv_goto (tgt := 113) hx hb dX9_product_104 (by decide) ?_
                    exact hJ113 f_t_v_87 r_87 _ _ _ hP hD hS (lv_sub hl [2, 3, 4, 6] rfl) h
        obtain ⟨k9, h⟩ := h
        exact hL58 k9 ((-1)) 0 f_t_v _ _ _ hP hD hS (lv_sub hl [2, 3, 4, 1, 0] rfl) h
      · have h := h.2 c9
        refine lv_aload_n hx hb dX9_product_44 rfl (lv_at hl 0 rfl) ?_
        refine lv_iconst (v := 5) hx hb dX9_product_45 (by decide) ?_
        refine lv_iload_n hx hb dX9_product_46 rfl (lv_at hl 1 rfl) ?_
        refine lv_lload_n hx hb dX9_product_47 rfl (lv_at hl 2 rfl) ?_
        refine cVi (As := [.int 5, .int x1, .long x2]) (rest := []) (wc := [(a_t, .inr (7, [.ref a_t_v, .ref a_t_past, .ref a_t_costs, .int t_edits, .int t_thrown, .ref a_t_into, .ref a_t_isNeeded, .ref a_t_depths, .ref a_t_names, .ref a_t_out, .int t_outs, .ref a_t_has])), (a_t_v, .inl (ca 0, 206, .inl f_t_v))]) (wr := [(a_t_costs, .inl (ca 0, 3, .inl f_t_costs))]) (w1 := fun u : (Nat → Int32) => [(a_t, .inr (7, [.ref a_t_v, .ref a_t_past, .ref a_t_costs, .int t_edits, .int t_thrown, .ref a_t_into, .ref a_t_isNeeded, .ref a_t_depths, .ref a_t_names, .ref a_t_out, .int t_outs, .ref a_t_has])), (a_t_v, .inl (ca 0, 206, .inl u))]) (ws2 := fun u : (Nat → Int32) => [(a_t, .inr (7, [.ref a_t_v, .ref a_t_past, .ref a_t_costs, .int t_edits, .int t_thrown, .ref a_t_into, .ref a_t_isNeeded, .ref a_t_depths, .ref a_t_names, .ref a_t_out, .int t_outs, .ref a_t_has])), (a_t_v, .inl (ca 0, 206, .inl u)), (a_t_costs, .inl (ca 0, 3, .inl f_t_costs))]) ⟨hx, hb, hml, hown, hts⟩ (mX9_constant l D ca a_t a_t_v a_t_past a_t_costs a_t_into a_t_isNeeded a_t_depths a_t_names a_t_out a_t_has _ t_edits t_thrown t_outs f_t_v 5 x1 x2 _ h) (cwV 3 hts (gV q_1042 q_1044 qs_47 q_8 q_1045) rfl rfl rfl (by decide +kernel) ⟨Nat.le_of_ble_eq_true rfl, Nat.le_of_ble_eq_true rfl⟩) hK hP hD hS hA [0, 1] [2] [1, 2, 0] rfl rfl rfl (by decide) (fun _ => rfl) (ci := 7) (q0 := 0) rfl rfl rfl hl.1 rfl (Nat.le_of_ble_eq_true rfl) dX9_product_48 ⟨Nat.le_of_ble_eq_true rfl, Nat.le_of_ble_eq_true rfl⟩ (fun r_48 u9 H locs h hP hD hS => ?_)
        obtain ⟨f_t_v_48, rfl⟩ : ∃ z, z = u9 := ⟨_, rfl⟩
        have hP : va_P D vwCl [(a_t, .inr (7, [.ref a_t_v, .ref a_t_past, .ref a_t_costs, .int t_edits, .int t_thrown, .ref a_t_into, .ref a_t_isNeeded, .ref a_t_depths, .ref a_t_names, .ref a_t_out, .int t_outs, .ref a_t_has])), (a_t_v, .inl (ca 0, 206, .inl f_t_v_48)), (a_t_costs, .inl (ca 0, 3, .inl f_t_costs))] H := hP
        have hD : va_D A [(a_t, .inr (7, [.ref a_t_v, .ref a_t_past, .ref a_t_costs, .int t_edits, .int t_thrown, .ref a_t_into, .ref a_t_isNeeded, .ref a_t_depths, .ref a_t_names, .ref a_t_out, .int t_outs, .ref a_t_has])), (a_t_v, .inl (ca 0, 206, .inl f_t_v_48)), (a_t_costs, .inl (ca 0, 3, .inl f_t_costs))] := hD
        try dsimp only at h
        exact W.iret (v := r_48) hx hb hr (fun t ht hW => ⟨⟨r_48, f_t_v_48, rfl, h, by rw [ht]; exact hP, va_K.moved hW.alike hK, hD⟩, hS.F ht⟩) hS.2.2 dX9_product_51
    · have h := h.1 c9
      refine lv_aload_n hx hb dX9_product_14 rfl (lv_at hl 0 rfl) ?_
      refine lv_bipush (v := 8) hx hb dX9_product_15 (by decide) ?_
      refine lv_iload_n hx hb dX9_product_17 rfl (lv_at hl 1 rfl) ?_
      refine lv_lconst (v := 0) hx hb dX9_product_18 (by decide) ?_
      refine cVi (As := [.int 8, .int x1, .long 0]) (rest := []) (wc := [(a_t, .inr (7, [.ref a_t_v, .ref a_t_past, .ref a_t_costs, .int t_edits, .int t_thrown, .ref a_t_into, .ref a_t_isNeeded, .ref a_t_depths, .ref a_t_names, .ref a_t_out, .int t_outs, .ref a_t_has])), (a_t_v, .inl (ca 0, 206, .inl f_t_v))]) (wr := [(a_t_costs, .inl (ca 0, 3, .inl f_t_costs))]) (w1 := fun u : (Nat → Int32) => [(a_t, .inr (7, [.ref a_t_v, .ref a_t_past, .ref a_t_costs, .int t_edits, .int t_thrown, .ref a_t_into, .ref a_t_isNeeded, .ref a_t_depths, .ref a_t_names, .ref a_t_out, .int t_outs, .ref a_t_has])), (a_t_v, .inl (ca 0, 206, .inl u))]) (ws2 := fun u : (Nat → Int32) => [(a_t, .inr (7, [.ref a_t_v, .ref a_t_past, .ref a_t_costs, .int t_edits, .int t_thrown, .ref a_t_into, .ref a_t_isNeeded, .ref a_t_depths, .ref a_t_names, .ref a_t_out, .int t_outs, .ref a_t_has])), (a_t_v, .inl (ca 0, 206, .inl u)), (a_t_costs, .inl (ca 0, 3, .inl f_t_costs))]) ⟨hx, hb, hml, hown, hts⟩ (mX9_constant l D ca a_t a_t_v a_t_past a_t_costs a_t_into a_t_isNeeded a_t_depths a_t_names a_t_out a_t_has _ t_edits t_thrown t_outs f_t_v 8 x1 0 _ h) (cwV 3 hts (gV q_1042 q_1044 qs_47 q_8 q_1045) rfl rfl rfl (by decide +kernel) ⟨Nat.le_of_ble_eq_true rfl, Nat.le_of_ble_eq_true rfl⟩) hK hP hD hS hA [0, 1] [2] [1, 2, 0] rfl rfl rfl (by decide) (fun _ => rfl) (ci := 7) (q0 := 0) rfl rfl rfl hl.1 rfl (Nat.le_of_ble_eq_true rfl) dX9_product_19 ⟨Nat.le_of_ble_eq_true rfl, Nat.le_of_ble_eq_true rfl⟩ (fun r_19 u9 H locs h hP hD hS => ?_)
      obtain ⟨f_t_v_19, rfl⟩ : ∃ z, z = u9 := ⟨_, rfl⟩
      have hP : va_P D vwCl [(a_t, .inr (7, [.ref a_t_v, .ref a_t_past, .ref a_t_costs, .int t_edits, .int t_thrown, .ref a_t_into, .ref a_t_isNeeded, .ref a_t_depths, .ref a_t_names, .ref a_t_out, .int t_outs, .ref a_t_has])), (a_t_v, .inl (ca 0, 206, .inl f_t_v_19)), (a_t_costs, .inl (ca 0, 3, .inl f_t_costs))] H := hP
      have hD : va_D A [(a_t, .inr (7, [.ref a_t_v, .ref a_t_past, .ref a_t_costs, .int t_edits, .int t_thrown, .ref a_t_into, .ref a_t_isNeeded, .ref a_t_depths, .ref a_t_names, .ref a_t_out, .int t_outs, .ref a_t_has])), (a_t_v, .inl (ca 0, 206, .inl f_t_v_19)), (a_t_costs, .inl (ca 0, 3, .inl f_t_costs))] := hD
      try dsimp only at h
      exact W.iret (v := r_19) hx hb hr (fun t ht hW => ⟨⟨r_19, f_t_v_19, rfl, h, by rw [ht]; exact hP, va_K.moved hW.alike hK, hD⟩, hS.F ht⟩) hS.2.2 dX9_product_22
  · have h := h.1 c9
    refine lv_iload_n hx hb dX9_product_6 rfl (lv_at hl 1 rfl) ?_
    exact W.iret (v := x1) hx hb hr (fun t ht hW => ⟨⟨x1, f_t_v, rfl, h, by rw [ht]; exact hP, va_K.moved hW.alike hK, hD⟩, hS.F ht⟩) hS.2.2 dX9_product_7

abbrev qX9_quotient (D : va_G) (ca : Nat → ClassId) (a_t a_t_v a_t_past a_t_costs a_t_into a_t_isNeeded a_t_depths a_t_names a_t_out a_t_has : Nat) (t_edits : Int32) (t_thrown : Int32) (t_outs : Int32) (Q : Int32 → (Nat → Int32) → Prop) (A : Nat → Prop) : Array Value → State → Outcome → State → Prop := va_Qi (fun (r : Int32) (u : (Nat → Int32)) => Q r u) (wEnd D ca (fun u : (Nat → Int32) => [(a_t, .inr (7, [.ref a_t_v, .ref a_t_past, .ref a_t_costs, .int t_edits, .int t_thrown, .ref a_t_into, .ref a_t_isNeeded, .ref a_t_depths, .ref a_t_names, .ref a_t_out, .int t_outs, .ref a_t_has])), (a_t_v, .inl (ca 0, 206, .inl u))]) A) A
def wX9_quotient (f_t_v : Nat → Int32) (x1 : Int32) (x2 : Int64) (Q : Int32 → (Nat → Int32) → Prop) : Prop :=
  wX9_twos x2 (fun r_1 => wX9_isPower x2 (fun r_7 => ((r_7 = 0 → wX9_shiftFor f_t_v x2 0 (fun r_25 => wX9_multiplierFor f_t_v x2 r_25 (fun r_34 => wX9_all f_t_v (fun r_42 => ((r_42 ≤ r_34 → ((r_1 ≤ 0 → wX9_all f_t_v (fun r_124 => wX9_constant f_t_v 6 x1 (r_34 - r_124) (fun r_128 f_t_v_128 => wX9_both f_t_v_128 4 x1 r_128 (fun r_140 f_t_v_140 => wX9_shifts f_t_v_140 1 r_140 1 (fun r_144 f_t_v_144 => wX9_both f_t_v_144 3 r_144 r_128 (fun r_157 f_t_v_157 => wX9_shifts f_t_v_157 1 r_157 (r_25 - 1) (fun r_164 f_t_v_164 => Q r_164 f_t_v_164))))))) ∧ (¬ r_1 ≤ 0 → (∀ x8_75 : Int64, x8_75 = x2 >>> (r_1.toInt64 &&& 63) → wX9_shiftFor f_t_v x8_75 r_1 (fun r_82 => wX9_shifts f_t_v 1 x1 r_1 (fun r_97 f_t_v_97 => wX9_multiplierFor f_t_v_97 x8_75 r_82 (fun r_105 => wX9_constant f_t_v_97 6 r_97 r_105 (fun r_108 f_t_v_108 => wX9_shifts f_t_v_108 1 r_108 r_82 (fun r_113 f_t_v_113 => Q r_113 f_t_v_113))))))))) ∧ (¬ r_42 ≤ r_34 → wX9_constant f_t_v 6 x1 r_34 (fun r_57 f_t_v_57 => wX9_shifts f_t_v_57 1 r_57 r_25 (fun r_62 f_t_v_62 => Q r_62 f_t_v_62)))))))) ∧ (¬ r_7 = 0 → wX9_shifts f_t_v 1 x1 r_1 (fun r_18 f_t_v_18 => Q r_18 f_t_v_18)))))
set_option maxHeartbeats 4000000 in
set_option maxRecDepth 100000 in
theorem mX9_quotient (l : Launch) (D : va_G) (ca : Nat → ClassId) (a_t a_t_v a_t_past a_t_costs a_t_into a_t_isNeeded a_t_depths a_t_names a_t_out a_t_has : Nat) (sz : Nat) (t_edits : Int32) (t_thrown : Int32) (t_outs : Int32) (f_t_v : Nat → Int32) (x1 : Int32) (x2 : Int64) (Q : Int32 → (Nat → Int32) → Prop) (h : wX9_quotient f_t_v x1 x2 Q) : Met l yX9_quotient (Cond.code yX9_quotient cX9_quotient 11 (some .int) :: wsG) ({ frames := 2, cells := 0, slots := 0, locals := 52 } : Room) (va_Pc [.ref a_t, .int x1, .long x2] (wPre D ca [(a_t, .inr (7, [.ref a_t_v, .ref a_t_past, .ref a_t_costs, .int t_edits, .int t_thrown, .ref a_t_into, .ref a_t_isNeeded, .ref a_t_depths, .ref a_t_names, .ref a_t_out, .int t_outs, .ref a_t_has])), (a_t_v, .inl (ca 0, 206, .inl f_t_v))] sz)) (qX9_quotient D ca a_t a_t_v a_t_past a_t_costs a_t_into a_t_isNeeded a_t_depths a_t_names a_t_out a_t_has t_edits t_thrown t_outs Q (va_A [(a_t, .inr (7, [.ref a_t_v, .ref a_t_past, .ref a_t_costs, .int t_edits, .int t_thrown, .ref a_t_into, .ref a_t_isNeeded, .ref a_t_depths, .ref a_t_names, .ref a_t_out, .int t_outs, .ref a_t_has])), (a_t_v, .inl (ca 0, 206, .inl f_t_v))] sz)) 0 0 (va_A [(a_t, .inr (7, [.ref a_t_v, .ref a_t_past, .ref a_t_costs, .int t_edits, .int t_thrown, .ref a_t_into, .ref a_t_isNeeded, .ref a_t_depths, .ref a_t_names, .ref a_t_out, .int t_outs, .ref a_t_has])), (a_t_v, .inl (ca 0, 206, .inl f_t_v))] sz) := by
  refine Met.ofW (cc := cX9_quotient) (maxL := 11) (ret := (some .int)) (by decide) rfl ?_
  intro p e s m args below meth c s₁ B hml hv
  obtain ⟨rfl, hsz, hP, hK, hD0⟩ := hv
  have hx := B.exec
  have hb := B.bytes
  have hr := B.returns
  have hts := atoms_spec (ws := (Cond.code yX9_quotient cX9_quotient 11 (some .int) :: wsG)) B.pre
  have hq : ∀ w ∈ wsG, w.before _ s = true := fun w hw => hts w (List.mem_cons_of_mem _ hw)
  have hown : s.vm.findClass RX9 = some m.cls := findClass_of_methodNamed B.named
  have hlocks := B.notSynchronized
  subst hsz
  have hD := hD0.self (sz := s.heap.size)
  generalize hAe : va_A [(a_t, .inr (7, [.ref a_t_v, .ref a_t_past, .ref a_t_costs, .int t_edits, .int t_thrown, .ref a_t_into, .ref a_t_isNeeded, .ref a_t_depths, .ref a_t_names, .ref a_t_out, .int t_outs, .ref a_t_has])), (a_t_v, .inl (ca 0, 206, .inl f_t_v))] s.heap.size = A at hD ⊢
  have hA : ∀ q : Nat, s.heap.size ≤ q → A q := fun q h => by rw [← hAe]; exact Or.inr h
  have hS : va_S A s.heap s.heap [] := va_S.rf
  have hP : va_P D vwCl [(a_t, .inr (7, [.ref a_t_v, .ref a_t_past, .ref a_t_costs, .int t_edits, .int t_thrown, .ref a_t_into, .ref a_t_isNeeded, .ref a_t_depths, .ref a_t_names, .ref a_t_out, .int t_outs, .ref a_t_has])), (a_t_v, .inl (ca 0, 206, .inl f_t_v))] s.heap := hP
  have hl := lv_entry ([.ref a_t, .int x1, .long x2]) (n := 11) (Nat.le_of_ble_eq_true rfl)
  rw [lg_entry_eq]
  generalize (lg_sl ([.ref a_t, .int x1, .long x2]) ++ List.replicate (11 - (lg_sl ([.ref a_t, .int x1, .long x2])).length) Slot.unset).toArray = ls at hl ⊢
  have hl : lv_has ls 11 [(0, .ref a_t), (1, .int x1), (2, .long x2)] := hl
  unfold wX9_quotient at h
  refine lv_lload_n hx hb dX9_quotient_0 rfl (lv_at hl 2 rfl) ?_
  refine cPi (As := [.long x2]) (rest := []) ⟨hx, hb, hml, hown, hts⟩ (mX9_twos l x2 _ h) (va_cwS 1 hts (gS q_980 q_981 q_8 q_982) rfl rfl rfl (by decide +kernel) ⟨Nat.le_of_ble_eq_true rfl, Nat.le_of_ble_eq_true rfl⟩) hS rfl hl.1 rfl (Nat.le_of_ble_eq_true rfl) dX9_quotient_1 ⟨Nat.le_of_ble_eq_true rfl, Nat.le_of_ble_eq_true rfl⟩ (fun r_1 H1 locs h hk1 hS => ?_)
  have hP := s_back hP hk1
  try dsimp only at h
  refine lv_istore (lv' := [(4, .int r_1), (0, .ref a_t), (1, .int x1), (2, .long x2)]) hx hb dX9_quotient_4 hl (by decide) rfl (fun ls hl => ?_)
  refine lv_lload_n hx hb dX9_quotient_6 rfl (lv_at hl 3 rfl) ?_
  refine cPi (As := [.long x2]) (rest := []) ⟨hx, hb, hml, hown, hts⟩ (mX9_isPower l x2 _ h) (va_cwS 1 hts (gS q_962 q_963 q_8 q_964) rfl rfl rfl (by decide +kernel) ⟨Nat.le_of_ble_eq_true rfl, Nat.le_of_ble_eq_true rfl⟩) hS rfl hl.1 rfl (Nat.le_of_ble_eq_true rfl) dX9_quotient_7 ⟨Nat.le_of_ble_eq_true rfl, Nat.le_of_ble_eq_true rfl⟩ (fun r_7 H1 locs h hk1 hS => ?_)
  have hP := s_back hP hk1
  try dsimp only at h
  refine lv_if_eq (tgt := 22) hx hb dX9_quotient_10 (by decide) (fun c9 => ?_) (fun c9 => ?_)
  · have h := h.1 c9
    refine lv_aload_n hx hb dX9_quotient_22 rfl (lv_at hl 1 rfl) ?_
    refine lv_lload_n hx hb dX9_quotient_23 rfl (lv_at hl 3 rfl) ?_
    refine lv_iconst (v := 0) hx hb dX9_quotient_24 (by decide) ?_
    refine cVi (As := [.long x2, .int 0]) (rest := []) (wc := [(a_t, .inr (7, [.ref a_t_v, .ref a_t_past, .ref a_t_costs, .int t_edits, .int t_thrown, .ref a_t_into, .ref a_t_isNeeded, .ref a_t_depths, .ref a_t_names, .ref a_t_out, .int t_outs, .ref a_t_has])), (a_t_v, .inl (ca 0, 206, .inl f_t_v))]) (wr := []) (w1 := fun _ : Unit => [(a_t, .inr (7, [.ref a_t_v, .ref a_t_past, .ref a_t_costs, .int t_edits, .int t_thrown, .ref a_t_into, .ref a_t_isNeeded, .ref a_t_depths, .ref a_t_names, .ref a_t_out, .int t_outs, .ref a_t_has])), (a_t_v, .inl (ca 0, 206, .inl f_t_v))]) (ws2 := fun _ : Unit => [(a_t, .inr (7, [.ref a_t_v, .ref a_t_past, .ref a_t_costs, .int t_edits, .int t_thrown, .ref a_t_into, .ref a_t_isNeeded, .ref a_t_depths, .ref a_t_names, .ref a_t_out, .int t_outs, .ref a_t_has])), (a_t_v, .inl (ca 0, 206, .inl f_t_v))]) ⟨hx, hb, hml, hown, hts⟩ (mX9_shiftFor l D ca a_t a_t_v a_t_past a_t_costs a_t_into a_t_isNeeded a_t_depths a_t_names a_t_out a_t_has _ t_edits t_thrown t_outs f_t_v x2 0 _ h) (cwV 2 hts (gV q_965 q_967 qs_36 q_8 q_968) rfl rfl rfl (by decide +kernel) ⟨Nat.le_of_ble_eq_true rfl, Nat.le_of_ble_eq_true rfl⟩) hK hP hD hS hA [0, 1] [] [0, 1] rfl rfl rfl (by decide) (fun _ => rfl) (ci := 7) (q0 := 0) rfl rfl rfl hl.1 rfl (Nat.le_of_ble_eq_true rfl) dX9_quotient_25 ⟨Nat.le_of_ble_eq_true rfl, Nat.le_of_ble_eq_true rfl⟩ (fun r_25 u9 H locs h hP hD hS => ?_)
    try dsimp only at h
    refine lv_istore (lv' := [(5, .int r_25), (4, .int r_1), (0, .ref a_t), (1, .int x1), (2, .long x2)]) hx hb dX9_quotient_28 hl (by decide) rfl (fun ls hl => ?_)
    refine lv_aload_n hx hb dX9_quotient_30 rfl (lv_at hl 2 rfl) ?_
    refine lv_lload_n hx hb dX9_quotient_31 rfl (lv_at hl 4 rfl) ?_
    refine lv_iload hx hb dX9_quotient_32 (lv_at hl 0 rfl) ?_
    refine cVl (As := [.long x2, .int r_25]) (rest := []) (wc := [(a_t, .inr (7, [.ref a_t_v, .ref a_t_past, .ref a_t_costs, .int t_edits, .int t_thrown, .ref a_t_into, .ref a_t_isNeeded, .ref a_t_depths, .ref a_t_names, .ref a_t_out, .int t_outs, .ref a_t_has])), (a_t_v, .inl (ca 0, 206, .inl f_t_v))]) (wr := []) (w1 := fun _ : Unit => [(a_t, .inr (7, [.ref a_t_v, .ref a_t_past, .ref a_t_costs, .int t_edits, .int t_thrown, .ref a_t_into, .ref a_t_isNeeded, .ref a_t_depths, .ref a_t_names, .ref a_t_out, .int t_outs, .ref a_t_has])), (a_t_v, .inl (ca 0, 206, .inl f_t_v))]) (ws2 := fun _ : Unit => [(a_t, .inr (7, [.ref a_t_v, .ref a_t_past, .ref a_t_costs, .int t_edits, .int t_thrown, .ref a_t_into, .ref a_t_isNeeded, .ref a_t_depths, .ref a_t_names, .ref a_t_out, .int t_outs, .ref a_t_has])), (a_t_v, .inl (ca 0, 206, .inl f_t_v))]) ⟨hx, hb, hml, hown, hts⟩ (mX9_multiplierFor l D ca a_t a_t_v a_t_past a_t_costs a_t_into a_t_isNeeded a_t_depths a_t_names a_t_out a_t_has _ t_edits t_thrown t_outs f_t_v x2 r_25 _ h) (cwV 2 hts (gV q_972 q_974 qs_37 q_8 q_975) rfl rfl rfl (by decide +kernel) ⟨Nat.le_of_ble_eq_true rfl, Nat.le_of_ble_eq_true rfl⟩) hK hP hD hS hA [0, 1] [] [0, 1] rfl rfl rfl (by decide) (fun _ => rfl) (ci := 7) (q0 := 0) rfl rfl rfl hl.1 rfl (Nat.le_of_ble_eq_true rfl) dX9_quotient_34 ⟨Nat.le_of_ble_eq_true rfl, Nat.le_of_ble_eq_true rfl⟩ (fun r_34 u9 H locs h hP hD hS => ?_)
    try dsimp only at h
    refine lv_lstore (lv' := [(6, .long r_34), (5, .int r_25), (4, .int r_1), (0, .ref a_t), (1, .int x1), (2, .long x2)]) hx hb dX9_quotient_37 hl (by decide) rfl (fun ls hl => ?_)
    refine lv_lload hx hb dX9_quotient_39 (lv_at hl 0 rfl) ?_
    refine lv_aload_n hx hb dX9_quotient_41 rfl (lv_at hl 3 rfl) ?_
    refine cVl (As := []) (rest := [.long r_34]) (wc := [(a_t, .inr (7, [.ref a_t_v, .ref a_t_past, .ref a_t_costs, .int t_edits, .int t_thrown, .ref a_t_into, .ref a_t_isNeeded, .ref a_t_depths, .ref a_t_names, .ref a_t_out, .int t_outs, .ref a_t_has])), (a_t_v, .inl (ca 0, 206, .inl f_t_v))]) (wr := []) (w1 := fun _ : Unit => [(a_t, .inr (7, [.ref a_t_v, .ref a_t_past, .ref a_t_costs, .int t_edits, .int t_thrown, .ref a_t_into, .ref a_t_isNeeded, .ref a_t_depths, .ref a_t_names, .ref a_t_out, .int t_outs, .ref a_t_has])), (a_t_v, .inl (ca 0, 206, .inl f_t_v))]) (ws2 := fun _ : Unit => [(a_t, .inr (7, [.ref a_t_v, .ref a_t_past, .ref a_t_costs, .int t_edits, .int t_thrown, .ref a_t_into, .ref a_t_isNeeded, .ref a_t_depths, .ref a_t_names, .ref a_t_out, .int t_outs, .ref a_t_has])), (a_t_v, .inl (ca 0, 206, .inl f_t_v))]) ⟨hx, hb, hml, hown, hts⟩ (mX9_all l D ca a_t a_t_v a_t_past a_t_costs a_t_into a_t_isNeeded a_t_depths a_t_names a_t_out a_t_has _ t_edits t_thrown t_outs f_t_v _ h) (cwV 0 hts (gV q_955 q_957 qs_35 q_8 q_958) rfl rfl rfl (by decide +kernel) ⟨Nat.le_of_ble_eq_true rfl, Nat.le_of_ble_eq_true rfl⟩) hK hP hD hS hA [0, 1] [] [0, 1] rfl rfl rfl (by decide) (fun _ => rfl) (ci := 7) (q0 := 0) rfl rfl rfl hl.1 rfl (Nat.le_of_ble_eq_true rfl) dX9_quotient_42 ⟨Nat.le_of_ble_eq_true rfl, Nat.le_of_ble_eq_true rfl⟩ (fun r_42 u9 H locs h hP hD hS => ?_)
    try dsimp only at h
    refine jl_ge (tgt := 66) hx hb dX9_quotient_45 dX9_quotient_46 (by decide) (fun c9 => ?_) (fun c9 => ?_)
    · have h := h.1 c9
      refine lv_iload hx hb dX9_quotient_66 (lv_at hl 2 rfl) ?_
      refine lv_if_le (tgt := 117) hx hb dX9_quotient_68 (by decide) (fun c9 => ?_) (fun c9 => ?_)
      · have h := h.1 c9
        refine lv_aload_n hx hb dX9_quotient_117 rfl (lv_at hl 3 rfl) ?_
        refine lv_bipush (v := 6) hx hb dX9_quotient_118 (by decide) ?_
        refine lv_iload_n hx hb dX9_quotient_120 rfl (lv_at hl 4 rfl) ?_
        refine lv_lload hx hb dX9_quotient_121 (lv_at hl 0 rfl) ?_
        refine lv_aload_n hx hb dX9_quotient_123 rfl (lv_at hl 3 rfl) ?_
        refine cVl (As := []) (rest := [.long r_34, .int x1, .int 6, .ref a_t]) (wc := [(a_t, .inr (7, [.ref a_t_v, .ref a_t_past, .ref a_t_costs, .int t_edits, .int t_thrown, .ref a_t_into, .ref a_t_isNeeded, .ref a_t_depths, .ref a_t_names, .ref a_t_out, .int t_outs, .ref a_t_has])), (a_t_v, .inl (ca 0, 206, .inl f_t_v))]) (wr := []) (w1 := fun _ : Unit => [(a_t, .inr (7, [.ref a_t_v, .ref a_t_past, .ref a_t_costs, .int t_edits, .int t_thrown, .ref a_t_into, .ref a_t_isNeeded, .ref a_t_depths, .ref a_t_names, .ref a_t_out, .int t_outs, .ref a_t_has])), (a_t_v, .inl (ca 0, 206, .inl f_t_v))]) (ws2 := fun _ : Unit => [(a_t, .inr (7, [.ref a_t_v, .ref a_t_past, .ref a_t_costs, .int t_edits, .int t_thrown, .ref a_t_into, .ref a_t_isNeeded, .ref a_t_depths, .ref a_t_names, .ref a_t_out, .int t_outs, .ref a_t_has])), (a_t_v, .inl (ca 0, 206, .inl f_t_v))]) ⟨hx, hb, hml, hown, hts⟩ (mX9_all l D ca a_t a_t_v a_t_past a_t_costs a_t_into a_t_isNeeded a_t_depths a_t_names a_t_out a_t_has _ t_edits t_thrown t_outs f_t_v _ h) (cwV 0 hts (gV q_955 q_957 qs_35 q_8 q_958) rfl rfl rfl (by decide +kernel) ⟨Nat.le_of_ble_eq_true rfl, Nat.le_of_ble_eq_true rfl⟩) hK hP hD hS hA [0, 1] [] [0, 1] rfl rfl rfl (by decide) (fun _ => rfl) (ci := 7) (q0 := 0) rfl rfl rfl hl.1 rfl (Nat.le_of_ble_eq_true rfl) dX9_quotient_124 ⟨Nat.le_of_ble_eq_true rfl, Nat.le_of_ble_eq_true rfl⟩ (fun r_124 u9 H locs h hP hD hS => ?_)
        try dsimp only at h
        refine lv_lsub hx hb dX9_quotient_127 ?_
        refine cVi (As := [.int 6, .int x1, .long (r_34 - r_124)]) (rest := []) (wc := [(a_t, .inr (7, [.ref a_t_v, .ref a_t_past, .ref a_t_costs, .int t_edits, .int t_thrown, .ref a_t_into, .ref a_t_isNeeded, .ref a_t_depths, .ref a_t_names, .ref a_t_out, .int t_outs, .ref a_t_has])), (a_t_v, .inl (ca 0, 206, .inl f_t_v))]) (wr := []) (w1 := fun u : (Nat → Int32) => [(a_t, .inr (7, [.ref a_t_v, .ref a_t_past, .ref a_t_costs, .int t_edits, .int t_thrown, .ref a_t_into, .ref a_t_isNeeded, .ref a_t_depths, .ref a_t_names, .ref a_t_out, .int t_outs, .ref a_t_has])), (a_t_v, .inl (ca 0, 206, .inl u))]) (ws2 := fun u : (Nat → Int32) => [(a_t, .inr (7, [.ref a_t_v, .ref a_t_past, .ref a_t_costs, .int t_edits, .int t_thrown, .ref a_t_into, .ref a_t_isNeeded, .ref a_t_depths, .ref a_t_names, .ref a_t_out, .int t_outs, .ref a_t_has])), (a_t_v, .inl (ca 0, 206, .inl u))]) ⟨hx, hb, hml, hown, hts⟩ (mX9_constant l D ca a_t a_t_v a_t_past a_t_costs a_t_into a_t_isNeeded a_t_depths a_t_names a_t_out a_t_has _ t_edits t_thrown t_outs f_t_v 6 x1 (r_34 - r_124) _ h) (cwV 3 hts (gV q_1042 q_1044 qs_47 q_8 q_1045) rfl rfl rfl (by decide +kernel) ⟨Nat.le_of_ble_eq_true rfl, Nat.le_of_ble_eq_true rfl⟩) hK hP hD hS hA [0, 1] [] [0, 1] rfl rfl rfl (by decide) (fun _ => rfl) (ci := 7) (q0 := 0) rfl rfl rfl hl.1 rfl (Nat.le_of_ble_eq_true rfl) dX9_quotient_128 ⟨Nat.le_of_ble_eq_true rfl, Nat.le_of_ble_eq_true rfl⟩ (fun r_128 u9 H locs h hP hD hS => ?_)
        obtain ⟨f_t_v_128, rfl⟩ : ∃ z, z = u9 := ⟨_, rfl⟩
        have hP : va_P D vwCl [(a_t, .inr (7, [.ref a_t_v, .ref a_t_past, .ref a_t_costs, .int t_edits, .int t_thrown, .ref a_t_into, .ref a_t_isNeeded, .ref a_t_depths, .ref a_t_names, .ref a_t_out, .int t_outs, .ref a_t_has])), (a_t_v, .inl (ca 0, 206, .inl f_t_v_128))] H := hP
        have hD : va_D A [(a_t, .inr (7, [.ref a_t_v, .ref a_t_past, .ref a_t_costs, .int t_edits, .int t_thrown, .ref a_t_into, .ref a_t_isNeeded, .ref a_t_depths, .ref a_t_names, .ref a_t_out, .int t_outs, .ref a_t_has])), (a_t_v, .inl (ca 0, 206, .inl f_t_v_128))] := hD
        try dsimp only at h
        refine lv_istore (lv' := [(8, .int r_128), (6, .long r_34), (5, .int r_25), (4, .int r_1), (0, .ref a_t), (1, .int x1), (2, .long x2)]) hx hb dX9_quotient_131 hl (by decide) rfl (fun ls hl => ?_)
        refine lv_aload_n hx hb dX9_quotient_133 rfl (lv_at hl 4 rfl) ?_
        refine lv_iconst (v := 1) hx hb dX9_quotient_134 (by decide) ?_
        refine lv_aload_n hx hb dX9_quotient_135 rfl (lv_at hl 4 rfl) ?_
        refine lv_iconst (v := 4) hx hb dX9_quotient_136 (by decide) ?_
        refine lv_iload_n hx hb dX9_quotient_137 rfl (lv_at hl 5 rfl) ?_
        refine lv_iload hx hb dX9_quotient_138 (lv_at hl 0 rfl) ?_
        refine cVi (As := [.int 4, .int x1, .int r_128]) (rest := [.int 1, .ref a_t]) (wc := [(a_t, .inr (7, [.ref a_t_v, .ref a_t_past, .ref a_t_costs, .int t_edits, .int t_thrown, .ref a_t_into, .ref a_t_isNeeded, .ref a_t_depths, .ref a_t_names, .ref a_t_out, .int t_outs, .ref a_t_has])), (a_t_v, .inl (ca 0, 206, .inl f_t_v_128))]) (wr := []) (w1 := fun u : (Nat → Int32) => [(a_t, .inr (7, [.ref a_t_v, .ref a_t_past, .ref a_t_costs, .int t_edits, .int t_thrown, .ref a_t_into, .ref a_t_isNeeded, .ref a_t_depths, .ref a_t_names, .ref a_t_out, .int t_outs, .ref a_t_has])), (a_t_v, .inl (ca 0, 206, .inl u))]) (ws2 := fun u : (Nat → Int32) => [(a_t, .inr (7, [.ref a_t_v, .ref a_t_past, .ref a_t_costs, .int t_edits, .int t_thrown, .ref a_t_into, .ref a_t_isNeeded, .ref a_t_depths, .ref a_t_names, .ref a_t_out, .int t_outs, .ref a_t_has])), (a_t_v, .inl (ca 0, 206, .inl u))]) ⟨hx, hb, hml, hown, hts⟩ (mX9_both l D ca a_t a_t_v a_t_past a_t_costs a_t_into a_t_isNeeded a_t_depths a_t_names a_t_out a_t_has _ t_edits t_thrown t_outs f_t_v_128 4 x1 r_128 _ h) (cwV 3 hts (gV q_1046 q_1048 qs_48 q_8 q_1049) rfl rfl rfl (by decide +kernel) ⟨Nat.le_of_ble_eq_true rfl, Nat.le_of_ble_eq_true rfl⟩) hK hP hD hS hA [0, 1] [] [0, 1] rfl rfl rfl (by decide) (fun _ => rfl) (ci := 7) (q0 := 0) rfl rfl rfl hl.1 rfl (Nat.le_of_ble_eq_true rfl) dX9_quotient_140 ⟨Nat.le_of_ble_eq_true rfl, Nat.le_of_ble_eq_true rfl⟩ (fun r_140 u9 H locs h hP hD hS => ?_)
        obtain ⟨f_t_v_140, rfl⟩ : ∃ z, z = u9 := ⟨_, rfl⟩
        have hP : va_P D vwCl [(a_t, .inr (7, [.ref a_t_v, .ref a_t_past, .ref a_t_costs, .int t_edits, .int t_thrown, .ref a_t_into, .ref a_t_isNeeded, .ref a_t_depths, .ref a_t_names, .ref a_t_out, .int t_outs, .ref a_t_has])), (a_t_v, .inl (ca 0, 206, .inl f_t_v_140))] H := hP
        have hD : va_D A [(a_t, .inr (7, [.ref a_t_v, .ref a_t_past, .ref a_t_costs, .int t_edits, .int t_thrown, .ref a_t_into, .ref a_t_isNeeded, .ref a_t_depths, .ref a_t_names, .ref a_t_out, .int t_outs, .ref a_t_has])), (a_t_v, .inl (ca 0, 206, .inl f_t_v_140))] := hD
        try dsimp only at h
        refine lv_iconst (v := 1) hx hb dX9_quotient_143 (by decide) ?_
        refine cVi (As := [.int 1, .int r_140, .int 1]) (rest := []) (wc := [(a_t, .inr (7, [.ref a_t_v, .ref a_t_past, .ref a_t_costs, .int t_edits, .int t_thrown, .ref a_t_into, .ref a_t_isNeeded, .ref a_t_depths, .ref a_t_names, .ref a_t_out, .int t_outs, .ref a_t_has])), (a_t_v, .inl (ca 0, 206, .inl f_t_v_140))]) (wr := []) (w1 := fun u : (Nat → Int32) => [(a_t, .inr (7, [.ref a_t_v, .ref a_t_past, .ref a_t_costs, .int t_edits, .int t_thrown, .ref a_t_into, .ref a_t_isNeeded, .ref a_t_depths, .ref a_t_names, .ref a_t_out, .int t_outs, .ref a_t_has])), (a_t_v, .inl (ca 0, 206, .inl u))]) (ws2 := fun u : (Nat → Int32) => [(a_t, .inr (7, [.ref a_t_v, .ref a_t_past, .ref a_t_costs, .int t_edits, .int t_thrown, .ref a_t_into, .ref a_t_isNeeded, .ref a_t_depths, .ref a_t_names, .ref a_t_out, .int t_outs, .ref a_t_has])), (a_t_v, .inl (ca 0, 206, .inl u))]) ⟨hx, hb, hml, hown, hts⟩ (mX9_shifts l D ca a_t a_t_v a_t_past a_t_costs a_t_into a_t_isNeeded a_t_depths a_t_names a_t_out a_t_has _ t_edits t_thrown t_outs f_t_v_140 1 r_140 1 _ h) (cwV 3 hts (gV q_1034 q_1036 qs_45 q_8 q_1037) rfl rfl rfl (by decide +kernel) ⟨Nat.le_of_ble_eq_true rfl, Nat.le_of_ble_eq_true rfl⟩) hK hP hD hS hA [0, 1] [] [0, 1] rfl rfl rfl (by decide) (fun _ => rfl) (ci := 7) (q0 := 0) rfl rfl rfl hl.1 rfl (Nat.le_of_ble_eq_true rfl) dX9_quotient_144 ⟨Nat.le_of_ble_eq_true rfl, Nat.le_of_ble_eq_true rfl⟩ (fun r_144 u9 H locs h hP hD hS => ?_)
        obtain ⟨f_t_v_144, rfl⟩ : ∃ z, z = u9 := ⟨_, rfl⟩
        have hP : va_P D vwCl [(a_t, .inr (7, [.ref a_t_v, .ref a_t_past, .ref a_t_costs, .int t_edits, .int t_thrown, .ref a_t_into, .ref a_t_isNeeded, .ref a_t_depths, .ref a_t_names, .ref a_t_out, .int t_outs, .ref a_t_has])), (a_t_v, .inl (ca 0, 206, .inl f_t_v_144))] H := hP
        have hD : va_D A [(a_t, .inr (7, [.ref a_t_v, .ref a_t_past, .ref a_t_costs, .int t_edits, .int t_thrown, .ref a_t_into, .ref a_t_isNeeded, .ref a_t_depths, .ref a_t_names, .ref a_t_out, .int t_outs, .ref a_t_has])), (a_t_v, .inl (ca 0, 206, .inl f_t_v_144))] := hD
        try dsimp only at h
        refine lv_istore (lv' := [(9, .int r_144), (8, .int r_128), (6, .long r_34), (5, .int r_25), (4, .int r_1), (0, .ref a_t), (1, .int x1), (2, .long x2)]) hx hb dX9_quotient_147 hl (by decide) rfl (fun ls hl => ?_)
        refine lv_aload_n hx hb dX9_quotient_149 rfl (lv_at hl 5 rfl) ?_
        refine lv_iconst (v := 1) hx hb dX9_quotient_150 (by decide) ?_
        refine lv_aload_n hx hb dX9_quotient_151 rfl (lv_at hl 5 rfl) ?_
        refine lv_iconst (v := 3) hx hb dX9_quotient_152 (by decide) ?_
        refine lv_iload hx hb dX9_quotient_153 (lv_at hl 0 rfl) ?_
        refine lv_iload hx hb dX9_quotient_155 (lv_at hl 1 rfl) ?_
        refine cVi (As := [.int 3, .int r_144, .int r_128]) (rest := [.int 1, .ref a_t]) (wc := [(a_t, .inr (7, [.ref a_t_v, .ref a_t_past, .ref a_t_costs, .int t_edits, .int t_thrown, .ref a_t_into, .ref a_t_isNeeded, .ref a_t_depths, .ref a_t_names, .ref a_t_out, .int t_outs, .ref a_t_has])), (a_t_v, .inl (ca 0, 206, .inl f_t_v_144))]) (wr := []) (w1 := fun u : (Nat → Int32) => [(a_t, .inr (7, [.ref a_t_v, .ref a_t_past, .ref a_t_costs, .int t_edits, .int t_thrown, .ref a_t_into, .ref a_t_isNeeded, .ref a_t_depths, .ref a_t_names, .ref a_t_out, .int t_outs, .ref a_t_has])), (a_t_v, .inl (ca 0, 206, .inl u))]) (ws2 := fun u : (Nat → Int32) => [(a_t, .inr (7, [.ref a_t_v, .ref a_t_past, .ref a_t_costs, .int t_edits, .int t_thrown, .ref a_t_into, .ref a_t_isNeeded, .ref a_t_depths, .ref a_t_names, .ref a_t_out, .int t_outs, .ref a_t_has])), (a_t_v, .inl (ca 0, 206, .inl u))]) ⟨hx, hb, hml, hown, hts⟩ (mX9_both l D ca a_t a_t_v a_t_past a_t_costs a_t_into a_t_isNeeded a_t_depths a_t_names a_t_out a_t_has _ t_edits t_thrown t_outs f_t_v_144 3 r_144 r_128 _ h) (cwV 3 hts (gV q_1046 q_1048 qs_48 q_8 q_1049) rfl rfl rfl (by decide +kernel) ⟨Nat.le_of_ble_eq_true rfl, Nat.le_of_ble_eq_true rfl⟩) hK hP hD hS hA [0, 1] [] [0, 1] rfl rfl rfl (by decide) (fun _ => rfl) (ci := 7) (q0 := 0) rfl rfl rfl hl.1 rfl (Nat.le_of_ble_eq_true rfl) dX9_quotient_157 ⟨Nat.le_of_ble_eq_true rfl, Nat.le_of_ble_eq_true rfl⟩ (fun r_157 u9 H locs h hP hD hS => ?_)
        obtain ⟨f_t_v_157, rfl⟩ : ∃ z, z = u9 := ⟨_, rfl⟩
        have hP : va_P D vwCl [(a_t, .inr (7, [.ref a_t_v, .ref a_t_past, .ref a_t_costs, .int t_edits, .int t_thrown, .ref a_t_into, .ref a_t_isNeeded, .ref a_t_depths, .ref a_t_names, .ref a_t_out, .int t_outs, .ref a_t_has])), (a_t_v, .inl (ca 0, 206, .inl f_t_v_157))] H := hP
        have hD : va_D A [(a_t, .inr (7, [.ref a_t_v, .ref a_t_past, .ref a_t_costs, .int t_edits, .int t_thrown, .ref a_t_into, .ref a_t_isNeeded, .ref a_t_depths, .ref a_t_names, .ref a_t_out, .int t_outs, .ref a_t_has])), (a_t_v, .inl (ca 0, 206, .inl f_t_v_157))] := hD
        try dsimp only at h
        refine lv_iload hx hb dX9_quotient_160 (lv_at hl 3 rfl) ?_
        refine lv_iconst (v := 1) hx hb dX9_quotient_162 (by decide) ?_
        refine lv_isub hx hb dX9_quotient_163 ?_
        refine cVi (As := [.int 1, .int r_157, .int (r_25 - 1)]) (rest := []) (wc := [(a_t, .inr (7, [.ref a_t_v, .ref a_t_past, .ref a_t_costs, .int t_edits, .int t_thrown, .ref a_t_into, .ref a_t_isNeeded, .ref a_t_depths, .ref a_t_names, .ref a_t_out, .int t_outs, .ref a_t_has])), (a_t_v, .inl (ca 0, 206, .inl f_t_v_157))]) (wr := []) (w1 := fun u : (Nat → Int32) => [(a_t, .inr (7, [.ref a_t_v, .ref a_t_past, .ref a_t_costs, .int t_edits, .int t_thrown, .ref a_t_into, .ref a_t_isNeeded, .ref a_t_depths, .ref a_t_names, .ref a_t_out, .int t_outs, .ref a_t_has])), (a_t_v, .inl (ca 0, 206, .inl u))]) (ws2 := fun u : (Nat → Int32) => [(a_t, .inr (7, [.ref a_t_v, .ref a_t_past, .ref a_t_costs, .int t_edits, .int t_thrown, .ref a_t_into, .ref a_t_isNeeded, .ref a_t_depths, .ref a_t_names, .ref a_t_out, .int t_outs, .ref a_t_has])), (a_t_v, .inl (ca 0, 206, .inl u))]) ⟨hx, hb, hml, hown, hts⟩ (mX9_shifts l D ca a_t a_t_v a_t_past a_t_costs a_t_into a_t_isNeeded a_t_depths a_t_names a_t_out a_t_has _ t_edits t_thrown t_outs f_t_v_157 1 r_157 (r_25 - 1) _ h) (cwV 3 hts (gV q_1034 q_1036 qs_45 q_8 q_1037) rfl rfl rfl (by decide +kernel) ⟨Nat.le_of_ble_eq_true rfl, Nat.le_of_ble_eq_true rfl⟩) hK hP hD hS hA [0, 1] [] [0, 1] rfl rfl rfl (by decide) (fun _ => rfl) (ci := 7) (q0 := 0) rfl rfl rfl hl.1 rfl (Nat.le_of_ble_eq_true rfl) dX9_quotient_164 ⟨Nat.le_of_ble_eq_true rfl, Nat.le_of_ble_eq_true rfl⟩ (fun r_164 u9 H locs h hP hD hS => ?_)
        obtain ⟨f_t_v_164, rfl⟩ : ∃ z, z = u9 := ⟨_, rfl⟩
        have hP : va_P D vwCl [(a_t, .inr (7, [.ref a_t_v, .ref a_t_past, .ref a_t_costs, .int t_edits, .int t_thrown, .ref a_t_into, .ref a_t_isNeeded, .ref a_t_depths, .ref a_t_names, .ref a_t_out, .int t_outs, .ref a_t_has])), (a_t_v, .inl (ca 0, 206, .inl f_t_v_164))] H := hP
        have hD : va_D A [(a_t, .inr (7, [.ref a_t_v, .ref a_t_past, .ref a_t_costs, .int t_edits, .int t_thrown, .ref a_t_into, .ref a_t_isNeeded, .ref a_t_depths, .ref a_t_names, .ref a_t_out, .int t_outs, .ref a_t_has])), (a_t_v, .inl (ca 0, 206, .inl f_t_v_164))] := hD
        try dsimp only at h
        exact W.iret (v := r_164) hx hb hr (fun t ht hW => ⟨⟨r_164, f_t_v_164, rfl, h, by rw [ht]; exact hP, va_K.moved hW.alike hK, hD⟩, hS.F ht⟩) hS.2.2 dX9_quotient_167
      · have h := h.2 c9
        refine lv_lload_n hx hb dX9_quotient_71 rfl (lv_at hl 5 rfl) ?_
        refine lv_iload hx hb dX9_quotient_72 (lv_at hl 2 rfl) ?_
        refine lv_lshr hx hb dX9_quotient_74 rfl ?_
        refine lv_topl (fun x8_75 ex8_75 => ?_)
        have h := h x8_75 ex8_75
        refine lv_lstore (lv' := [(8, .long x8_75), (6, .long r_34), (5, .int r_25), (4, .int r_1), (0, .ref a_t), (1, .int x1), (2, .long x2)]) hx hb dX9_quotient_75 hl (by decide) rfl (fun ls hl => ?_)
        refine lv_aload_n hx hb dX9_quotient_77 rfl (lv_at hl 4 rfl) ?_
        refine lv_lload hx hb dX9_quotient_78 (lv_at hl 0 rfl) ?_
        refine lv_iload hx hb dX9_quotient_80 (lv_at hl 3 rfl) ?_
        refine cVi (As := [.long x8_75, .int r_1]) (rest := []) (wc := [(a_t, .inr (7, [.ref a_t_v, .ref a_t_past, .ref a_t_costs, .int t_edits, .int t_thrown, .ref a_t_into, .ref a_t_isNeeded, .ref a_t_depths, .ref a_t_names, .ref a_t_out, .int t_outs, .ref a_t_has])), (a_t_v, .inl (ca 0, 206, .inl f_t_v))]) (wr := []) (w1 := fun _ : Unit => [(a_t, .inr (7, [.ref a_t_v, .ref a_t_past, .ref a_t_costs, .int t_edits, .int t_thrown, .ref a_t_into, .ref a_t_isNeeded, .ref a_t_depths, .ref a_t_names, .ref a_t_out, .int t_outs, .ref a_t_has])), (a_t_v, .inl (ca 0, 206, .inl f_t_v))]) (ws2 := fun _ : Unit => [(a_t, .inr (7, [.ref a_t_v, .ref a_t_past, .ref a_t_costs, .int t_edits, .int t_thrown, .ref a_t_into, .ref a_t_isNeeded, .ref a_t_depths, .ref a_t_names, .ref a_t_out, .int t_outs, .ref a_t_has])), (a_t_v, .inl (ca 0, 206, .inl f_t_v))]) ⟨hx, hb, hml, hown, hts⟩ (mX9_shiftFor l D ca a_t a_t_v a_t_past a_t_costs a_t_into a_t_isNeeded a_t_depths a_t_names a_t_out a_t_has _ t_edits t_thrown t_outs f_t_v x8_75 r_1 _ h) (cwV 2 hts (gV q_965 q_967 qs_36 q_8 q_968) rfl rfl rfl (by decide +kernel) ⟨Nat.le_of_ble_eq_true rfl, Nat.le_of_ble_eq_true rfl⟩) hK hP hD hS hA [0, 1] [] [0, 1] rfl rfl rfl (by decide) (fun _ => rfl) (ci := 7) (q0 := 0) rfl rfl rfl hl.1 rfl (Nat.le_of_ble_eq_true rfl) dX9_quotient_82 ⟨Nat.le_of_ble_eq_true rfl, Nat.le_of_ble_eq_true rfl⟩ (fun r_82 u9 H locs h hP hD hS => ?_)
        try dsimp only at h
        refine lv_istore (lv' := [(10, .int r_82), (8, .long x8_75), (6, .long r_34), (5, .int r_25), (4, .int r_1), (0, .ref a_t), (1, .int x1), (2, .long x2)]) hx hb dX9_quotient_85 hl (by decide) rfl (fun ls hl => ?_)
        refine lv_aload_n hx hb dX9_quotient_87 rfl (lv_at hl 5 rfl) ?_
        refine lv_iconst (v := 1) hx hb dX9_quotient_88 (by decide) ?_
        refine lv_aload_n hx hb dX9_quotient_89 rfl (lv_at hl 5 rfl) ?_
        refine lv_bipush (v := 6) hx hb dX9_quotient_90 (by decide) ?_
        refine lv_aload_n hx hb dX9_quotient_92 rfl (lv_at hl 5 rfl) ?_
        refine lv_iconst (v := 1) hx hb dX9_quotient_93 (by decide) ?_
        refine lv_iload_n hx hb dX9_quotient_94 rfl (lv_at hl 6 rfl) ?_
        refine lv_iload hx hb dX9_quotient_95 (lv_at hl 4 rfl) ?_
        refine cVi (As := [.int 1, .int x1, .int r_1]) (rest := [.int 6, .ref a_t, .int 1, .ref a_t]) (wc := [(a_t, .inr (7, [.ref a_t_v, .ref a_t_past, .ref a_t_costs, .int t_edits, .int t_thrown, .ref a_t_into, .ref a_t_isNeeded, .ref a_t_depths, .ref a_t_names, .ref a_t_out, .int t_outs, .ref a_t_has])), (a_t_v, .inl (ca 0, 206, .inl f_t_v))]) (wr := []) (w1 := fun u : (Nat → Int32) => [(a_t, .inr (7, [.ref a_t_v, .ref a_t_past, .ref a_t_costs, .int t_edits, .int t_thrown, .ref a_t_into, .ref a_t_isNeeded, .ref a_t_depths, .ref a_t_names, .ref a_t_out, .int t_outs, .ref a_t_has])), (a_t_v, .inl (ca 0, 206, .inl u))]) (ws2 := fun u : (Nat → Int32) => [(a_t, .inr (7, [.ref a_t_v, .ref a_t_past, .ref a_t_costs, .int t_edits, .int t_thrown, .ref a_t_into, .ref a_t_isNeeded, .ref a_t_depths, .ref a_t_names, .ref a_t_out, .int t_outs, .ref a_t_has])), (a_t_v, .inl (ca 0, 206, .inl u))]) ⟨hx, hb, hml, hown, hts⟩ (mX9_shifts l D ca a_t a_t_v a_t_past a_t_costs a_t_into a_t_isNeeded a_t_depths a_t_names a_t_out a_t_has _ t_edits t_thrown t_outs f_t_v 1 x1 r_1 _ h) (cwV 3 hts (gV q_1034 q_1036 qs_45 q_8 q_1037) rfl rfl rfl (by decide +kernel) ⟨Nat.le_of_ble_eq_true rfl, Nat.le_of_ble_eq_true rfl⟩) hK hP hD hS hA [0, 1] [] [0, 1] rfl rfl rfl (by decide) (fun _ => rfl) (ci := 7) (q0 := 0) rfl rfl rfl hl.1 rfl (Nat.le_of_ble_eq_true rfl) dX9_quotient_97 ⟨Nat.le_of_ble_eq_true rfl, Nat.le_of_ble_eq_true rfl⟩ (fun r_97 u9 H locs h hP hD hS => ?_)
        obtain ⟨f_t_v_97, rfl⟩ : ∃ z, z = u9 := ⟨_, rfl⟩
        have hP : va_P D vwCl [(a_t, .inr (7, [.ref a_t_v, .ref a_t_past, .ref a_t_costs, .int t_edits, .int t_thrown, .ref a_t_into, .ref a_t_isNeeded, .ref a_t_depths, .ref a_t_names, .ref a_t_out, .int t_outs, .ref a_t_has])), (a_t_v, .inl (ca 0, 206, .inl f_t_v_97))] H := hP
        have hD : va_D A [(a_t, .inr (7, [.ref a_t_v, .ref a_t_past, .ref a_t_costs, .int t_edits, .int t_thrown, .ref a_t_into, .ref a_t_isNeeded, .ref a_t_depths, .ref a_t_names, .ref a_t_out, .int t_outs, .ref a_t_has])), (a_t_v, .inl (ca 0, 206, .inl f_t_v_97))] := hD
        try dsimp only at h
        refine lv_aload_n hx hb dX9_quotient_100 rfl (lv_at hl 5 rfl) ?_
        refine lv_lload hx hb dX9_quotient_101 (lv_at hl 1 rfl) ?_
        refine lv_iload hx hb dX9_quotient_103 (lv_at hl 0 rfl) ?_
        refine cVl (As := [.long x8_75, .int r_82]) (rest := [.int r_97, .int 6, .ref a_t, .int 1, .ref a_t]) (wc := [(a_t, .inr (7, [.ref a_t_v, .ref a_t_past, .ref a_t_costs, .int t_edits, .int t_thrown, .ref a_t_into, .ref a_t_isNeeded, .ref a_t_depths, .ref a_t_names, .ref a_t_out, .int t_outs, .ref a_t_has])), (a_t_v, .inl (ca 0, 206, .inl f_t_v_97))]) (wr := []) (w1 := fun _ : Unit => [(a_t, .inr (7, [.ref a_t_v, .ref a_t_past, .ref a_t_costs, .int t_edits, .int t_thrown, .ref a_t_into, .ref a_t_isNeeded, .ref a_t_depths, .ref a_t_names, .ref a_t_out, .int t_outs, .ref a_t_has])), (a_t_v, .inl (ca 0, 206, .inl f_t_v_97))]) (ws2 := fun _ : Unit => [(a_t, .inr (7, [.ref a_t_v, .ref a_t_past, .ref a_t_costs, .int t_edits, .int t_thrown, .ref a_t_into, .ref a_t_isNeeded, .ref a_t_depths, .ref a_t_names, .ref a_t_out, .int t_outs, .ref a_t_has])), (a_t_v, .inl (ca 0, 206, .inl f_t_v_97))]) ⟨hx, hb, hml, hown, hts⟩ (mX9_multiplierFor l D ca a_t a_t_v a_t_past a_t_costs a_t_into a_t_isNeeded a_t_depths a_t_names a_t_out a_t_has _ t_edits t_thrown t_outs f_t_v_97 x8_75 r_82 _ h) (cwV 2 hts (gV q_972 q_974 qs_37 q_8 q_975) rfl rfl rfl (by decide +kernel) ⟨Nat.le_of_ble_eq_true rfl, Nat.le_of_ble_eq_true rfl⟩) hK hP hD hS hA [0, 1] [] [0, 1] rfl rfl rfl (by decide) (fun _ => rfl) (ci := 7) (q0 := 0) rfl rfl rfl hl.1 rfl (Nat.le_of_ble_eq_true rfl) dX9_quotient_105 ⟨Nat.le_of_ble_eq_true rfl, Nat.le_of_ble_eq_true rfl⟩ (fun r_105 u9 H locs h hP hD hS => ?_)
        try dsimp only at h
        refine cVi (As := [.int 6, .int r_97, .long r_105]) (rest := [.int 1, .ref a_t]) (wc := [(a_t, .inr (7, [.ref a_t_v, .ref a_t_past, .ref a_t_costs, .int t_edits, .int t_thrown, .ref a_t_into, .ref a_t_isNeeded, .ref a_t_depths, .ref a_t_names, .ref a_t_out, .int t_outs, .ref a_t_has])), (a_t_v, .inl (ca 0, 206, .inl f_t_v_97))]) (wr := []) (w1 := fun u : (Nat → Int32) => [(a_t, .inr (7, [.ref a_t_v, .ref a_t_past, .ref a_t_costs, .int t_edits, .int t_thrown, .ref a_t_into, .ref a_t_isNeeded, .ref a_t_depths, .ref a_t_names, .ref a_t_out, .int t_outs, .ref a_t_has])), (a_t_v, .inl (ca 0, 206, .inl u))]) (ws2 := fun u : (Nat → Int32) => [(a_t, .inr (7, [.ref a_t_v, .ref a_t_past, .ref a_t_costs, .int t_edits, .int t_thrown, .ref a_t_into, .ref a_t_isNeeded, .ref a_t_depths, .ref a_t_names, .ref a_t_out, .int t_outs, .ref a_t_has])), (a_t_v, .inl (ca 0, 206, .inl u))]) ⟨hx, hb, hml, hown, hts⟩ (mX9_constant l D ca a_t a_t_v a_t_past a_t_costs a_t_into a_t_isNeeded a_t_depths a_t_names a_t_out a_t_has _ t_edits t_thrown t_outs f_t_v_97 6 r_97 r_105 _ h) (cwV 3 hts (gV q_1042 q_1044 qs_47 q_8 q_1045) rfl rfl rfl (by decide +kernel) ⟨Nat.le_of_ble_eq_true rfl, Nat.le_of_ble_eq_true rfl⟩) hK hP hD hS hA [0, 1] [] [0, 1] rfl rfl rfl (by decide) (fun _ => rfl) (ci := 7) (q0 := 0) rfl rfl rfl hl.1 rfl (Nat.le_of_ble_eq_true rfl) dX9_quotient_108 ⟨Nat.le_of_ble_eq_true rfl, Nat.le_of_ble_eq_true rfl⟩ (fun r_108 u9 H locs h hP hD hS => ?_)
        obtain ⟨f_t_v_108, rfl⟩ : ∃ z, z = u9 := ⟨_, rfl⟩
        have hP : va_P D vwCl [(a_t, .inr (7, [.ref a_t_v, .ref a_t_past, .ref a_t_costs, .int t_edits, .int t_thrown, .ref a_t_into, .ref a_t_isNeeded, .ref a_t_depths, .ref a_t_names, .ref a_t_out, .int t_outs, .ref a_t_has])), (a_t_v, .inl (ca 0, 206, .inl f_t_v_108))] H := hP
        have hD : va_D A [(a_t, .inr (7, [.ref a_t_v, .ref a_t_past, .ref a_t_costs, .int t_edits, .int t_thrown, .ref a_t_into, .ref a_t_isNeeded, .ref a_t_depths, .ref a_t_names, .ref a_t_out, .int t_outs, .ref a_t_has])), (a_t_v, .inl (ca 0, 206, .inl f_t_v_108))] := hD
        try dsimp only at h
        refine lv_iload hx hb dX9_quotient_111 (lv_at hl 0 rfl) ?_
        refine cVi (As := [.int 1, .int r_108, .int r_82]) (rest := []) (wc := [(a_t, .inr (7, [.ref a_t_v, .ref a_t_past, .ref a_t_costs, .int t_edits, .int t_thrown, .ref a_t_into, .ref a_t_isNeeded, .ref a_t_depths, .ref a_t_names, .ref a_t_out, .int t_outs, .ref a_t_has])), (a_t_v, .inl (ca 0, 206, .inl f_t_v_108))]) (wr := []) (w1 := fun u : (Nat → Int32) => [(a_t, .inr (7, [.ref a_t_v, .ref a_t_past, .ref a_t_costs, .int t_edits, .int t_thrown, .ref a_t_into, .ref a_t_isNeeded, .ref a_t_depths, .ref a_t_names, .ref a_t_out, .int t_outs, .ref a_t_has])), (a_t_v, .inl (ca 0, 206, .inl u))]) (ws2 := fun u : (Nat → Int32) => [(a_t, .inr (7, [.ref a_t_v, .ref a_t_past, .ref a_t_costs, .int t_edits, .int t_thrown, .ref a_t_into, .ref a_t_isNeeded, .ref a_t_depths, .ref a_t_names, .ref a_t_out, .int t_outs, .ref a_t_has])), (a_t_v, .inl (ca 0, 206, .inl u))]) ⟨hx, hb, hml, hown, hts⟩ (mX9_shifts l D ca a_t a_t_v a_t_past a_t_costs a_t_into a_t_isNeeded a_t_depths a_t_names a_t_out a_t_has _ t_edits t_thrown t_outs f_t_v_108 1 r_108 r_82 _ h) (cwV 3 hts (gV q_1034 q_1036 qs_45 q_8 q_1037) rfl rfl rfl (by decide +kernel) ⟨Nat.le_of_ble_eq_true rfl, Nat.le_of_ble_eq_true rfl⟩) hK hP hD hS hA [0, 1] [] [0, 1] rfl rfl rfl (by decide) (fun _ => rfl) (ci := 7) (q0 := 0) rfl rfl rfl hl.1 rfl (Nat.le_of_ble_eq_true rfl) dX9_quotient_113 ⟨Nat.le_of_ble_eq_true rfl, Nat.le_of_ble_eq_true rfl⟩ (fun r_113 u9 H locs h hP hD hS => ?_)
        obtain ⟨f_t_v_113, rfl⟩ : ∃ z, z = u9 := ⟨_, rfl⟩
        have hP : va_P D vwCl [(a_t, .inr (7, [.ref a_t_v, .ref a_t_past, .ref a_t_costs, .int t_edits, .int t_thrown, .ref a_t_into, .ref a_t_isNeeded, .ref a_t_depths, .ref a_t_names, .ref a_t_out, .int t_outs, .ref a_t_has])), (a_t_v, .inl (ca 0, 206, .inl f_t_v_113))] H := hP
        have hD : va_D A [(a_t, .inr (7, [.ref a_t_v, .ref a_t_past, .ref a_t_costs, .int t_edits, .int t_thrown, .ref a_t_into, .ref a_t_isNeeded, .ref a_t_depths, .ref a_t_names, .ref a_t_out, .int t_outs, .ref a_t_has])), (a_t_v, .inl (ca 0, 206, .inl f_t_v_113))] := hD
        try dsimp only at h
        exact W.iret (v := r_113) hx hb hr (fun t ht hW => ⟨⟨r_113, f_t_v_113, rfl, h, by rw [ht]; exact hP, va_K.moved hW.alike hK, hD⟩, hS.F ht⟩) hS.2.2 dX9_quotient_116
    · have h := h.2 c9
      refine lv_aload_n hx hb dX9_quotient_49 rfl (lv_at hl 3 rfl) ?_
      refine lv_iconst (v := 1) hx hb dX9_quotient_50 (by decide) ?_
      refine lv_aload_n hx hb dX9_quotient_51 rfl (lv_at hl 3 rfl) ?_
      refine lv_bipush (v := 6) hx hb dX9_quotient_52 (by decide) ?_
      refine lv_iload_n hx hb dX9_quotient_54 rfl (lv_at hl 4 rfl) ?_
      refine lv_lload hx hb dX9_quotient_55 (lv_at hl 0 rfl) ?_
      refine cVi (As := [.int 6, .int x1, .long r_34]) (rest := [.int 1, .ref a_t]) (wc := [(a_t, .inr (7, [.ref a_t_v, .ref a_t_past, .ref a_t_costs, .int t_edits, .int t_thrown, .ref a_t_into, .ref a_t_isNeeded, .ref a_t_depths, .ref a_t_names, .ref a_t_out, .int t_outs, .ref a_t_has])), (a_t_v, .inl (ca 0, 206, .inl f_t_v))]) (wr := []) (w1 := fun u : (Nat → Int32) => [(a_t, .inr (7, [.ref a_t_v, .ref a_t_past, .ref a_t_costs, .int t_edits, .int t_thrown, .ref a_t_into, .ref a_t_isNeeded, .ref a_t_depths, .ref a_t_names, .ref a_t_out, .int t_outs, .ref a_t_has])), (a_t_v, .inl (ca 0, 206, .inl u))]) (ws2 := fun u : (Nat → Int32) => [(a_t, .inr (7, [.ref a_t_v, .ref a_t_past, .ref a_t_costs, .int t_edits, .int t_thrown, .ref a_t_into, .ref a_t_isNeeded, .ref a_t_depths, .ref a_t_names, .ref a_t_out, .int t_outs, .ref a_t_has])), (a_t_v, .inl (ca 0, 206, .inl u))]) ⟨hx, hb, hml, hown, hts⟩ (mX9_constant l D ca a_t a_t_v a_t_past a_t_costs a_t_into a_t_isNeeded a_t_depths a_t_names a_t_out a_t_has _ t_edits t_thrown t_outs f_t_v 6 x1 r_34 _ h) (cwV 3 hts (gV q_1042 q_1044 qs_47 q_8 q_1045) rfl rfl rfl (by decide +kernel) ⟨Nat.le_of_ble_eq_true rfl, Nat.le_of_ble_eq_true rfl⟩) hK hP hD hS hA [0, 1] [] [0, 1] rfl rfl rfl (by decide) (fun _ => rfl) (ci := 7) (q0 := 0) rfl rfl rfl hl.1 rfl (Nat.le_of_ble_eq_true rfl) dX9_quotient_57 ⟨Nat.le_of_ble_eq_true rfl, Nat.le_of_ble_eq_true rfl⟩ (fun r_57 u9 H locs h hP hD hS => ?_)
      obtain ⟨f_t_v_57, rfl⟩ : ∃ z, z = u9 := ⟨_, rfl⟩
      have hP : va_P D vwCl [(a_t, .inr (7, [.ref a_t_v, .ref a_t_past, .ref a_t_costs, .int t_edits, .int t_thrown, .ref a_t_into, .ref a_t_isNeeded, .ref a_t_depths, .ref a_t_names, .ref a_t_out, .int t_outs, .ref a_t_has])), (a_t_v, .inl (ca 0, 206, .inl f_t_v_57))] H := hP
      have hD : va_D A [(a_t, .inr (7, [.ref a_t_v, .ref a_t_past, .ref a_t_costs, .int t_edits, .int t_thrown, .ref a_t_into, .ref a_t_isNeeded, .ref a_t_depths, .ref a_t_names, .ref a_t_out, .int t_outs, .ref a_t_has])), (a_t_v, .inl (ca 0, 206, .inl f_t_v_57))] := hD
      try dsimp only at h
      refine lv_iload hx hb dX9_quotient_60 (lv_at hl 1 rfl) ?_
      refine cVi (As := [.int 1, .int r_57, .int r_25]) (rest := []) (wc := [(a_t, .inr (7, [.ref a_t_v, .ref a_t_past, .ref a_t_costs, .int t_edits, .int t_thrown, .ref a_t_into, .ref a_t_isNeeded, .ref a_t_depths, .ref a_t_names, .ref a_t_out, .int t_outs, .ref a_t_has])), (a_t_v, .inl (ca 0, 206, .inl f_t_v_57))]) (wr := []) (w1 := fun u : (Nat → Int32) => [(a_t, .inr (7, [.ref a_t_v, .ref a_t_past, .ref a_t_costs, .int t_edits, .int t_thrown, .ref a_t_into, .ref a_t_isNeeded, .ref a_t_depths, .ref a_t_names, .ref a_t_out, .int t_outs, .ref a_t_has])), (a_t_v, .inl (ca 0, 206, .inl u))]) (ws2 := fun u : (Nat → Int32) => [(a_t, .inr (7, [.ref a_t_v, .ref a_t_past, .ref a_t_costs, .int t_edits, .int t_thrown, .ref a_t_into, .ref a_t_isNeeded, .ref a_t_depths, .ref a_t_names, .ref a_t_out, .int t_outs, .ref a_t_has])), (a_t_v, .inl (ca 0, 206, .inl u))]) ⟨hx, hb, hml, hown, hts⟩ (mX9_shifts l D ca a_t a_t_v a_t_past a_t_costs a_t_into a_t_isNeeded a_t_depths a_t_names a_t_out a_t_has _ t_edits t_thrown t_outs f_t_v_57 1 r_57 r_25 _ h) (cwV 3 hts (gV q_1034 q_1036 qs_45 q_8 q_1037) rfl rfl rfl (by decide +kernel) ⟨Nat.le_of_ble_eq_true rfl, Nat.le_of_ble_eq_true rfl⟩) hK hP hD hS hA [0, 1] [] [0, 1] rfl rfl rfl (by decide) (fun _ => rfl) (ci := 7) (q0 := 0) rfl rfl rfl hl.1 rfl (Nat.le_of_ble_eq_true rfl) dX9_quotient_62 ⟨Nat.le_of_ble_eq_true rfl, Nat.le_of_ble_eq_true rfl⟩ (fun r_62 u9 H locs h hP hD hS => ?_)
      obtain ⟨f_t_v_62, rfl⟩ : ∃ z, z = u9 := ⟨_, rfl⟩
      have hP : va_P D vwCl [(a_t, .inr (7, [.ref a_t_v, .ref a_t_past, .ref a_t_costs, .int t_edits, .int t_thrown, .ref a_t_into, .ref a_t_isNeeded, .ref a_t_depths, .ref a_t_names, .ref a_t_out, .int t_outs, .ref a_t_has])), (a_t_v, .inl (ca 0, 206, .inl f_t_v_62))] H := hP
      have hD : va_D A [(a_t, .inr (7, [.ref a_t_v, .ref a_t_past, .ref a_t_costs, .int t_edits, .int t_thrown, .ref a_t_into, .ref a_t_isNeeded, .ref a_t_depths, .ref a_t_names, .ref a_t_out, .int t_outs, .ref a_t_has])), (a_t_v, .inl (ca 0, 206, .inl f_t_v_62))] := hD
      try dsimp only at h
      exact W.iret (v := r_62) hx hb hr (fun t ht hW => ⟨⟨r_62, f_t_v_62, rfl, h, by rw [ht]; exact hP, va_K.moved hW.alike hK, hD⟩, hS.F ht⟩) hS.2.2 dX9_quotient_65
  · have h := h.2 c9
    refine lv_aload_n hx hb dX9_quotient_13 rfl (lv_at hl 1 rfl) ?_
    refine lv_iconst (v := 1) hx hb dX9_quotient_14 (by decide) ?_
    refine lv_iload_n hx hb dX9_quotient_15 rfl (lv_at hl 2 rfl) ?_
    refine lv_iload hx hb dX9_quotient_16 (lv_at hl 0 rfl) ?_
    refine cVi (As := [.int 1, .int x1, .int r_1]) (rest := []) (wc := [(a_t, .inr (7, [.ref a_t_v, .ref a_t_past, .ref a_t_costs, .int t_edits, .int t_thrown, .ref a_t_into, .ref a_t_isNeeded, .ref a_t_depths, .ref a_t_names, .ref a_t_out, .int t_outs, .ref a_t_has])), (a_t_v, .inl (ca 0, 206, .inl f_t_v))]) (wr := []) (w1 := fun u : (Nat → Int32) => [(a_t, .inr (7, [.ref a_t_v, .ref a_t_past, .ref a_t_costs, .int t_edits, .int t_thrown, .ref a_t_into, .ref a_t_isNeeded, .ref a_t_depths, .ref a_t_names, .ref a_t_out, .int t_outs, .ref a_t_has])), (a_t_v, .inl (ca 0, 206, .inl u))]) (ws2 := fun u : (Nat → Int32) => [(a_t, .inr (7, [.ref a_t_v, .ref a_t_past, .ref a_t_costs, .int t_edits, .int t_thrown, .ref a_t_into, .ref a_t_isNeeded, .ref a_t_depths, .ref a_t_names, .ref a_t_out, .int t_outs, .ref a_t_has])), (a_t_v, .inl (ca 0, 206, .inl u))]) ⟨hx, hb, hml, hown, hts⟩ (mX9_shifts l D ca a_t a_t_v a_t_past a_t_costs a_t_into a_t_isNeeded a_t_depths a_t_names a_t_out a_t_has _ t_edits t_thrown t_outs f_t_v 1 x1 r_1 _ h) (cwV 3 hts (gV q_1034 q_1036 qs_45 q_8 q_1037) rfl rfl rfl (by decide +kernel) ⟨Nat.le_of_ble_eq_true rfl, Nat.le_of_ble_eq_true rfl⟩) hK hP hD hS hA [0, 1] [] [0, 1] rfl rfl rfl (by decide) (fun _ => rfl) (ci := 7) (q0 := 0) rfl rfl rfl hl.1 rfl (Nat.le_of_ble_eq_true rfl) dX9_quotient_18 ⟨Nat.le_of_ble_eq_true rfl, Nat.le_of_ble_eq_true rfl⟩ (fun r_18 u9 H locs h hP hD hS => ?_)
    obtain ⟨f_t_v_18, rfl⟩ : ∃ z, z = u9 := ⟨_, rfl⟩
    have hP : va_P D vwCl [(a_t, .inr (7, [.ref a_t_v, .ref a_t_past, .ref a_t_costs, .int t_edits, .int t_thrown, .ref a_t_into, .ref a_t_isNeeded, .ref a_t_depths, .ref a_t_names, .ref a_t_out, .int t_outs, .ref a_t_has])), (a_t_v, .inl (ca 0, 206, .inl f_t_v_18))] H := hP
    have hD : va_D A [(a_t, .inr (7, [.ref a_t_v, .ref a_t_past, .ref a_t_costs, .int t_edits, .int t_thrown, .ref a_t_into, .ref a_t_isNeeded, .ref a_t_depths, .ref a_t_names, .ref a_t_out, .int t_outs, .ref a_t_has])), (a_t_v, .inl (ca 0, 206, .inl f_t_v_18))] := hD
    try dsimp only at h
    exact W.iret (v := r_18) hx hb hr (fun t ht hW => ⟨⟨r_18, f_t_v_18, rfl, h, by rw [ht]; exact hP, va_K.moved hW.alike hK, hD⟩, hS.F ht⟩) hS.2.2 dX9_quotient_21

abbrev qX9_signedQuotient (D : va_G) (ca : Nat → ClassId) (a_t a_t_v a_t_past a_t_costs a_t_into a_t_isNeeded a_t_depths a_t_names a_t_out a_t_has : Nat) (t_edits : Int32) (t_thrown : Int32) (t_outs : Int32) (Q : Int32 → (Nat → Int32) → Prop) (A : Nat → Prop) : Array Value → State → Outcome → State → Prop := va_Qi (fun (r : Int32) (u : (Nat → Int32)) => Q r u) (wEnd D ca (fun u : (Nat → Int32) => [(a_t, .inr (7, [.ref a_t_v, .ref a_t_past, .ref a_t_costs, .int t_edits, .int t_thrown, .ref a_t_into, .ref a_t_isNeeded, .ref a_t_depths, .ref a_t_names, .ref a_t_out, .int t_outs, .ref a_t_has])), (a_t_v, .inl (ca 0, 206, .inl u))]) A) A
def wX9_signedQuotient_175 (x1 : Int64) (Q : Int32 → (Nat → Int32) → Prop) (x6_175 : Int32) (f_t_v_175 : Nat → Int32) : Prop :=
  ((x1 ≤ 0 → wX9_negative f_t_v_175 x6_175 (fun r_189 f_t_v_189 => Q r_189 f_t_v_189)) ∧ (¬ x1 ≤ 0 → Q x6_175 f_t_v_175))
def wX9_signedQuotient_143 (x1 : Int64) (Q : Int32 → (Nat → Int32) → Prop) (x5_20 : Int32) (r_95 : Int32) (f_t_v_143 : Nat → Int32) (y0_143 : Int32) : Prop :=
  wX9_shifts f_t_v_143 2 y0_143 r_95 (fun r_151 f_t_v_151 => wX9_shifts f_t_v_151 1 0 (x5_20 - 1) (fun r_167 f_t_v_167 => wX9_both f_t_v_167 3 r_151 r_167 (fun r_170 f_t_v_170 => wX9_signedQuotient_175 x1 Q r_170 f_t_v_170)))
def wX9_signedQuotient_86 (f_t_v : Nat → Int32) (x1 : Int64) (Q : Int32 → (Nat → Int32) → Prop) (y0_13 : Int64) (x5_20 : Int32) : Prop :=
  ((y0_13 ≤ 1 → wX9_signedQuotient_175 x1 Q 0 f_t_v) ∧ (¬ y0_13 ≤ 1 → wX9_shiftFor f_t_v y0_13 1 (fun r_95 => wX9_multiplierFor f_t_v y0_13 r_95 (fun r_104 => wX9_constant f_t_v 7 0 r_104 (fun r_115 f_t_v_115 => wX9_half f_t_v_115 (fun r_123 => ((r_104 < r_123 → wX9_signedQuotient_143 x1 Q x5_20 r_95 f_t_v_115 r_115) ∧ (¬ r_104 < r_123 → wX9_both f_t_v_115 3 r_115 0 (fun r_135 f_t_v_135 => wX9_signedQuotient_143 x1 Q x5_20 r_95 f_t_v_135 r_135)))))))))
def wX9_signedQuotient_13 (f_t_v : Nat → Int32) (x1 : Int64) (Q : Int32 → (Nat → Int32) → Prop) (y0_13 : Int64) : Prop :=
  (vp_in 0 206 ∧ (∀ x5_20 : Int32, x5_20 = f_t_v (0 : Int32).toNatClampNeg → wX9_isPower y0_13 (fun r_26 => ((r_26 = 0 → wX9_signedQuotient_86 f_t_v x1 Q y0_13 x5_20) ∧ (¬ r_26 = 0 → ((y0_13 ≤ 1 → wX9_signedQuotient_86 f_t_v x1 Q y0_13 x5_20) ∧ (¬ y0_13 ≤ 1 → wX9_twos y0_13 (fun r_39 => wX9_shifts f_t_v 2 0 (r_39 - 1) (fun r_53 f_t_v_53 => wX9_shifts f_t_v_53 1 r_53 (x5_20 - r_39) (fun r_61 f_t_v_61 => wX9_both f_t_v_61 3 0 r_61 (fun r_73 f_t_v_73 => wX9_shifts f_t_v_73 2 r_73 r_39 (fun r_78 f_t_v_78 => wX9_signedQuotient_175 x1 Q r_78 f_t_v_78))))))))))))
def wX9_signedQuotient (f_t_v : Nat → Int32) (x1 : Int64) (Q : Int32 → (Nat → Int32) → Prop) : Prop :=
  ((0 ≤ x1 → wX9_signedQuotient_13 f_t_v x1 Q x1) ∧ (¬ 0 ≤ x1 → wX9_signedQuotient_13 f_t_v x1 Q (0 - x1)))
set_option maxHeartbeats 4000000 in
set_option maxRecDepth 100000 in
theorem mX9_signedQuotient (l : Launch) (D : va_G) (ca : Nat → ClassId) (a_t a_t_v a_t_past a_t_costs a_t_into a_t_isNeeded a_t_depths a_t_names a_t_out a_t_has : Nat) (sz : Nat) (t_edits : Int32) (t_thrown : Int32) (t_outs : Int32) (f_t_v : Nat → Int32) (x1 : Int64) (Q : Int32 → (Nat → Int32) → Prop) (h : wX9_signedQuotient f_t_v x1 Q) : Met l yX9_signedQuotient (Cond.code yX9_signedQuotient cX9_signedQuotient 11 (some .int) :: wsG) ({ frames := 2, cells := 0, slots := 0, locals := 52 } : Room) (va_Pc [.ref a_t, .long x1] (wPre D ca [(a_t, .inr (7, [.ref a_t_v, .ref a_t_past, .ref a_t_costs, .int t_edits, .int t_thrown, .ref a_t_into, .ref a_t_isNeeded, .ref a_t_depths, .ref a_t_names, .ref a_t_out, .int t_outs, .ref a_t_has])), (a_t_v, .inl (ca 0, 206, .inl f_t_v))] sz)) (qX9_signedQuotient D ca a_t a_t_v a_t_past a_t_costs a_t_into a_t_isNeeded a_t_depths a_t_names a_t_out a_t_has t_edits t_thrown t_outs Q (va_A [(a_t, .inr (7, [.ref a_t_v, .ref a_t_past, .ref a_t_costs, .int t_edits, .int t_thrown, .ref a_t_into, .ref a_t_isNeeded, .ref a_t_depths, .ref a_t_names, .ref a_t_out, .int t_outs, .ref a_t_has])), (a_t_v, .inl (ca 0, 206, .inl f_t_v))] sz)) 0 0 (va_A [(a_t, .inr (7, [.ref a_t_v, .ref a_t_past, .ref a_t_costs, .int t_edits, .int t_thrown, .ref a_t_into, .ref a_t_isNeeded, .ref a_t_depths, .ref a_t_names, .ref a_t_out, .int t_outs, .ref a_t_has])), (a_t_v, .inl (ca 0, 206, .inl f_t_v))] sz) := by
  refine Met.ofW (cc := cX9_signedQuotient) (maxL := 11) (ret := (some .int)) (by decide) rfl ?_
  intro p e s m args below meth c s₁ B hml hv
  obtain ⟨rfl, hsz, hP, hK, hD0⟩ := hv
  have hx := B.exec
  have hb := B.bytes
  have hr := B.returns
  have hts := atoms_spec (ws := (Cond.code yX9_signedQuotient cX9_signedQuotient 11 (some .int) :: wsG)) B.pre
  have hq : ∀ w ∈ wsG, w.before _ s = true := fun w hw => hts w (List.mem_cons_of_mem _ hw)
  have hown : s.vm.findClass RX9 = some m.cls := findClass_of_methodNamed B.named
  have hlocks := B.notSynchronized
  subst hsz
  have hD := hD0.self (sz := s.heap.size)
  generalize hAe : va_A [(a_t, .inr (7, [.ref a_t_v, .ref a_t_past, .ref a_t_costs, .int t_edits, .int t_thrown, .ref a_t_into, .ref a_t_isNeeded, .ref a_t_depths, .ref a_t_names, .ref a_t_out, .int t_outs, .ref a_t_has])), (a_t_v, .inl (ca 0, 206, .inl f_t_v))] s.heap.size = A at hD ⊢
  have hA : ∀ q : Nat, s.heap.size ≤ q → A q := fun q h => by rw [← hAe]; exact Or.inr h
  have hS : va_S A s.heap s.heap [] := va_S.rf
  have hP : va_P D vwCl [(a_t, .inr (7, [.ref a_t_v, .ref a_t_past, .ref a_t_costs, .int t_edits, .int t_thrown, .ref a_t_into, .ref a_t_isNeeded, .ref a_t_depths, .ref a_t_names, .ref a_t_out, .int t_outs, .ref a_t_has])), (a_t_v, .inl (ca 0, 206, .inl f_t_v))] s.heap := hP
  have hl := lv_entry ([.ref a_t, .long x1]) (n := 11) (Nat.le_of_ble_eq_true rfl)
  rw [lg_entry_eq]
  generalize (lg_sl ([.ref a_t, .long x1]) ++ List.replicate (11 - (lg_sl ([.ref a_t, .long x1])).length) Slot.unset).toArray = ls at hl ⊢
  have hl : lv_has ls 11 [(0, .ref a_t), (1, .long x1)] := hl
  unfold wX9_signedQuotient at h
  refine lv_lload_n hx hb dX9_signedQuotient_0 rfl (lv_at hl 1 rfl) ?_
  refine lv_lconst (v := 0) hx hb dX9_signedQuotient_1 (by decide) ?_
  have hJ13 : ∀ (y0_13 : Int64) (H : Heap) (locs : List Loc) (ls : Array Slot), va_P D vwCl [(a_t, .inr (7, [.ref a_t_v, .ref a_t_past, .ref a_t_costs, .int t_edits, .int t_thrown, .ref a_t_into, .ref a_t_isNeeded, .ref a_t_depths, .ref a_t_names, .ref a_t_out, .int t_outs, .ref a_t_has])), (a_t_v, .inl (ca 0, 206, .inl f_t_v))] H → va_D A [(a_t, .inr (7, [.ref a_t_v, .ref a_t_past, .ref a_t_costs, .int t_edits, .int t_thrown, .ref a_t_into, .ref a_t_isNeeded, .ref a_t_depths, .ref a_t_names, .ref a_t_out, .int t_outs, .ref a_t_has])), (a_t_v, .inl (ca 0, 206, .inl f_t_v))] → va_S A s.heap H locs → lv_has ls 11 [(0, .ref a_t), (1, .long x1)] → wX9_signedQuotient_13 f_t_v x1 Q y0_13 → W p l e (headSpec (Cond.code yX9_signedQuotient cX9_signedQuotient 11 (some .int) :: wsG) ({ frames := 2, cells := 0, slots := 0, locals := 52 } : Room)).room s m ([.ref a_t, .long x1] : List Value).toArray below meth c H locs 0 0 (MQ below (qX9_signedQuotient D ca a_t a_t_v a_t_past a_t_costs a_t_into a_t_isNeeded a_t_depths a_t_names a_t_out a_t_has t_edits t_thrown t_outs Q A) ([.ref a_t, .long x1] : List Value).toArray s 0 0 A) (F0 m 13 ls [.long y0_13]) := by
    intro y0_13 H locs ls hP hD hS hl h
    unfold wX9_signedQuotient_13 at h
    refine lv_lstore_n (lv' := [(3, .long y0_13), (0, .ref a_t), (1, .long x1)]) hx hb dX9_signedQuotient_13 rfl hl (by decide) rfl (fun ls hl => ?_)
    refine lv_aload_n hx hb dX9_signedQuotient_14 rfl (lv_at hl 1 rfl) ?_
    refine va_get (D := D) (ci := 7) (v := .ref a_t_v) (C := RX9) (T := TX9) (N := 12) hx hb hq inX9g hown hK hP 0 rfl rfl 0 (by decide) (hq _ q_881) (fun _ h9 => h9) rfl dX9_signedQuotient_15 ?_
    refine lv_iconst (v := 0) hx hb dX9_signedQuotient_18 (by decide) ?_
    obtain ⟨hi9, h⟩ := h
    refine va_iald hx hb hK hP 1 0 rfl rfl hi9 dX9_signedQuotient_19 ?_
    refine lv_topi (fun x5_20 ex5_20 => ?_)
    have h := h x5_20 ex5_20
    refine lv_istore (lv' := [(5, .int x5_20), (3, .long y0_13), (0, .ref a_t), (1, .long x1)]) hx hb dX9_signedQuotient_20 hl (by decide) rfl (fun ls hl => ?_)
    refine lv_iconst (v := 0) hx hb dX9_signedQuotient_22 (by decide) ?_
    refine lv_istore (lv' := [(6, .int 0), (5, .int x5_20), (3, .long y0_13), (0, .ref a_t), (1, .long x1)]) hx hb dX9_signedQuotient_23 hl (by decide) rfl (fun ls hl => ?_)
    refine lv_lload_n hx hb dX9_signedQuotient_25 rfl (lv_at hl 2 rfl) ?_
    refine cPi (As := [.long y0_13]) (rest := []) ⟨hx, hb, hml, hown, hts⟩ (mX9_isPower l y0_13 _ h) (va_cwS 1 hts (gS q_962 q_963 q_8 q_964) rfl rfl rfl (by decide +kernel) ⟨Nat.le_of_ble_eq_true rfl, Nat.le_of_ble_eq_true rfl⟩) hS rfl hl.1 rfl (Nat.le_of_ble_eq_true rfl) dX9_signedQuotient_26 ⟨Nat.le_of_ble_eq_true rfl, Nat.le_of_ble_eq_true rfl⟩ (fun r_26 H1 locs h hk1 hS => ?_)
    have hP := s_back hP hk1
    try dsimp only at h
    have hJ175 : ∀ (x6_175 : Int32) (f_t_v_175 : Nat → Int32) (H : Heap) (locs : List Loc) (ls : Array Slot), va_P D vwCl [(a_t, .inr (7, [.ref a_t_v, .ref a_t_past, .ref a_t_costs, .int t_edits, .int t_thrown, .ref a_t_into, .ref a_t_isNeeded, .ref a_t_depths, .ref a_t_names, .ref a_t_out, .int t_outs, .ref a_t_has])), (a_t_v, .inl (ca 0, 206, .inl f_t_v_175))] H → va_D A [(a_t, .inr (7, [.ref a_t_v, .ref a_t_past, .ref a_t_costs, .int t_edits, .int t_thrown, .ref a_t_into, .ref a_t_isNeeded, .ref a_t_depths, .ref a_t_names, .ref a_t_out, .int t_outs, .ref a_t_has])), (a_t_v, .inl (ca 0, 206, .inl f_t_v_175))] → va_S A s.heap H locs → lv_has ls 11 [(0, .ref a_t), (1, .long x1), (6, .int x6_175)] → wX9_signedQuotient_175 x1 Q x6_175 f_t_v_175 → W p l e (headSpec (Cond.code yX9_signedQuotient cX9_signedQuotient 11 (some .int) :: wsG) ({ frames := 2, cells := 0, slots := 0, locals := 52 } : Room)).room s m ([.ref a_t, .long x1] : List Value).toArray below meth c H locs 0 0 (MQ below (qX9_signedQuotient D ca a_t a_t_v a_t_past a_t_costs a_t_into a_t_isNeeded a_t_depths a_t_names a_t_out a_t_has t_edits t_thrown t_outs Q A) ([.ref a_t, .long x1] : List Value).toArray s 0 0 A) (F0 m 175 ls []) := by
      intro x6_175 f_t_v_175 H locs ls hP hD hS hl h
      unfold wX9_signedQuotient_175 at h
      refine lv_lload_n hx hb dX9_signedQuotient_175 rfl (lv_at hl 1 rfl) ?_
      refine lv_lconst (v := 0) hx hb dX9_signedQuotient_176 (by decide) ?_
      refine jl_le (tgt := 186) hx hb dX9_signedQuotient_177 dX9_signedQuotient_178 (by decide) (fun c9 => ?_) (fun c9 => ?_)
      · have h := h.1 c9
        refine lv_aload_n hx hb dX9_signedQuotient_186 rfl (lv_at hl 0 rfl) ?_
        refine lv_iload hx hb dX9_signedQuotient_187 (lv_at hl 2 rfl) ?_
        refine cVi (As := [.int x6_175]) (rest := []) (wc := [(a_t, .inr (7, [.ref a_t_v, .ref a_t_past, .ref a_t_costs, .int t_edits, .int t_thrown, .ref a_t_into, .ref a_t_isNeeded, .ref a_t_depths, .ref a_t_names, .ref a_t_out, .int t_outs, .ref a_t_has])), (a_t_v, .inl (ca 0, 206, .inl f_t_v_175))]) (wr := []) (w1 := fun u : (Nat → Int32) => [(a_t, .inr (7, [.ref a_t_v, .ref a_t_past, .ref a_t_costs, .int t_edits, .int t_thrown, .ref a_t_into, .ref a_t_isNeeded, .ref a_t_depths, .ref a_t_names, .ref a_t_out, .int t_outs, .ref a_t_has])), (a_t_v, .inl (ca 0, 206, .inl u))]) (ws2 := fun u : (Nat → Int32) => [(a_t, .inr (7, [.ref a_t_v, .ref a_t_past, .ref a_t_costs, .int t_edits, .int t_thrown, .ref a_t_into, .ref a_t_isNeeded, .ref a_t_depths, .ref a_t_names, .ref a_t_out, .int t_outs, .ref a_t_has])), (a_t_v, .inl (ca 0, 206, .inl u))]) ⟨hx, hb, hml, hown, hts⟩ (mX9_negative l D ca a_t a_t_v a_t_past a_t_costs a_t_into a_t_isNeeded a_t_depths a_t_names a_t_out a_t_has _ t_edits t_thrown t_outs f_t_v_175 x6_175 _ h) (cwV 1 hts (gV q_1058 q_1060 qs_51 q_8 q_1061) rfl rfl rfl (by decide +kernel) ⟨Nat.le_of_ble_eq_true rfl, Nat.le_of_ble_eq_true rfl⟩) hK hP hD hS hA [0, 1] [] [0, 1] rfl rfl rfl (by decide) (fun _ => rfl) (ci := 7) (q0 := 0) rfl rfl rfl hl.1 rfl (Nat.le_of_ble_eq_true rfl) dX9_signedQuotient_189 ⟨Nat.le_of_ble_eq_true rfl, Nat.le_of_ble_eq_true rfl⟩ (fun r_189 u9 H locs h hP hD hS => ?_)
        obtain ⟨f_t_v_189, rfl⟩ : ∃ z, z = u9 := ⟨_, rfl⟩
        have hP : va_P D vwCl [(a_t, .inr (7, [.ref a_t_v, .ref a_t_past, .ref a_t_costs, .int t_edits, .int t_thrown, .ref a_t_into, .ref a_t_isNeeded, .ref a_t_depths, .ref a_t_names, .ref a_t_out, .int t_outs, .ref a_t_has])), (a_t_v, .inl (ca 0, 206, .inl f_t_v_189))] H := hP
        have hD : va_D A [(a_t, .inr (7, [.ref a_t_v, .ref a_t_past, .ref a_t_costs, .int t_edits, .int t_thrown, .ref a_t_into, .ref a_t_isNeeded, .ref a_t_depths, .ref a_t_names, .ref a_t_out, .int t_outs, .ref a_t_has])), (a_t_v, .inl (ca 0, 206, .inl f_t_v_189))] := hD
        try dsimp only at h
        exact W.iret (v := r_189) hx hb hr (fun t ht hW => ⟨⟨r_189, f_t_v_189, rfl, h, by rw [ht]; exact hP, va_K.moved hW.alike hK, hD⟩, hS.F ht⟩) hS.2.2 dX9_signedQuotient_192
      · have h := h.2 c9
        refine lv_iload hx hb dX9_signedQuotient_181 (lv_at hl 2 rfl) ?_
        refine lv_goto (tgt := 192) hx hb dX9_signedQuotient_183 (by decide) ?_
        exact W.iret (v := x6_175) hx hb hr (fun t ht hW => ⟨⟨x6_175, f_t_v_175, rfl, h, by rw [ht]; exact hP, va_K.moved hW.alike hK, hD⟩, hS.F ht⟩) hS.2.2 dX9_signedQuotient_192
    have hJ86 : ∀ (H : Heap) (locs : List Loc) (ls : Array Slot), va_P D vwCl [(a_t, .inr (7, [.ref a_t_v, .ref a_t_past, .ref a_t_costs, .int t_edits, .int t_thrown, .ref a_t_into, .ref a_t_isNeeded, .ref a_t_depths, .ref a_t_names, .ref a_t_out, .int t_outs, .ref a_t_has])), (a_t_v, .inl (ca 0, 206, .inl f_t_v))] H → va_D A [(a_t, .inr (7, [.ref a_t_v, .ref a_t_past, .ref a_t_costs, .int t_edits, .int t_thrown, .ref a_t_into, .ref a_t_isNeeded, .ref a_t_depths, .ref a_t_names, .ref a_t_out, .int t_outs, .ref a_t_has])), (a_t_v, .inl (ca 0, 206, .inl f_t_v))] → va_S A s.heap H locs → lv_has ls 11 [(0, .ref a_t), (1, .long x1), (3, .long y0_13), (5, .int x5_20), (6, .int 0)] → wX9_signedQuotient_86 f_t_v x1 Q y0_13 x5_20 → W p l e (headSpec (Cond.code yX9_signedQuotient cX9_signedQuotient 11 (some .int) :: wsG) ({ frames := 2, cells := 0, slots := 0, locals := 52 } : Room)).room s m ([.ref a_t, .long x1] : List Value).toArray below meth c H locs 0 0 (MQ below (qX9_signedQuotient D ca a_t a_t_v a_t_past a_t_costs a_t_into a_t_isNeeded a_t_depths a_t_names a_t_out a_t_has t_edits t_thrown t_outs Q A) ([.ref a_t, .long x1] : List Value).toArray s 0 0 A) (F0 m 86 ls []) := by
      intro  H locs ls hP hD hS hl h
      unfold wX9_signedQuotient_86 at h
      refine lv_lload_n hx hb dX9_signedQuotient_86 rfl (lv_at hl 2 rfl) ?_
      refine lv_lconst (v := 1) hx hb dX9_signedQuotient_87 (by decide) ?_
      refine jl_le (tgt := 175) hx hb dX9_signedQuotient_88 dX9_signedQuotient_89 (by decide) (fun c9 => ?_) (fun c9 => ?_)
      · have h := h.1 c9
        exact hJ175 0 f_t_v _ _ _ hP hD hS (lv_sub hl [0, 1, 4] rfl) h
      · have h := h.2 c9
        refine lv_aload_n hx hb dX9_signedQuotient_92 rfl (lv_at hl 0 rfl) ?_
        refine lv_lload_n hx hb dX9_signedQuotient_93 rfl (lv_at hl 2 rfl) ?_
        refine lv_iconst (v := 1) hx hb dX9_signedQuotient_94 (by decide) ?_
        refine cVi (As := [.long y0_13, .int 1]) (rest := []) (wc := [(a_t, .inr (7, [.ref a_t_v, .ref a_t_past, .ref a_t_costs, .int t_edits, .int t_thrown, .ref a_t_into, .ref a_t_isNeeded, .ref a_t_depths, .ref a_t_names, .ref a_t_out, .int t_outs, .ref a_t_has])), (a_t_v, .inl (ca 0, 206, .inl f_t_v))]) (wr := []) (w1 := fun _ : Unit => [(a_t, .inr (7, [.ref a_t_v, .ref a_t_past, .ref a_t_costs, .int t_edits, .int t_thrown, .ref a_t_into, .ref a_t_isNeeded, .ref a_t_depths, .ref a_t_names, .ref a_t_out, .int t_outs, .ref a_t_has])), (a_t_v, .inl (ca 0, 206, .inl f_t_v))]) (ws2 := fun _ : Unit => [(a_t, .inr (7, [.ref a_t_v, .ref a_t_past, .ref a_t_costs, .int t_edits, .int t_thrown, .ref a_t_into, .ref a_t_isNeeded, .ref a_t_depths, .ref a_t_names, .ref a_t_out, .int t_outs, .ref a_t_has])), (a_t_v, .inl (ca 0, 206, .inl f_t_v))]) ⟨hx, hb, hml, hown, hts⟩ (mX9_shiftFor l D ca a_t a_t_v a_t_past a_t_costs a_t_into a_t_isNeeded a_t_depths a_t_names a_t_out a_t_has _ t_edits t_thrown t_outs f_t_v y0_13 1 _ h) (cwV 2 hts (gV q_965 q_967 qs_36 q_8 q_968) rfl rfl rfl (by decide +kernel) ⟨Nat.le_of_ble_eq_true rfl, Nat.le_of_ble_eq_true rfl⟩) hK hP hD hS hA [0, 1] [] [0, 1] rfl rfl rfl (by decide) (fun _ => rfl) (ci := 7) (q0 := 0) rfl rfl rfl hl.1 rfl (Nat.le_of_ble_eq_true rfl) dX9_signedQuotient_95 ⟨Nat.le_of_ble_eq_true rfl, Nat.le_of_ble_eq_true rfl⟩ (fun r_95 u9 H locs h hP hD hS => ?_)
        try dsimp only at h
        refine lv_istore (lv' := [(7, .int r_95), (0, .ref a_t), (1, .long x1), (3, .long y0_13), (5, .int x5_20), (6, .int 0)]) hx hb dX9_signedQuotient_98 hl (by decide) rfl (fun ls hl => ?_)
        refine lv_aload_n hx hb dX9_signedQuotient_100 rfl (lv_at hl 1 rfl) ?_
        refine lv_lload_n hx hb dX9_signedQuotient_101 rfl (lv_at hl 3 rfl) ?_
        refine lv_iload hx hb dX9_signedQuotient_102 (lv_at hl 0 rfl) ?_
        refine cVl (As := [.long y0_13, .int r_95]) (rest := []) (wc := [(a_t, .inr (7, [.ref a_t_v, .ref a_t_past, .ref a_t_costs, .int t_edits, .int t_thrown, .ref a_t_into, .ref a_t_isNeeded, .ref a_t_depths, .ref a_t_names, .ref a_t_out, .int t_outs, .ref a_t_has])), (a_t_v, .inl (ca 0, 206, .inl f_t_v))]) (wr := []) (w1 := fun _ : Unit => [(a_t, .inr (7, [.ref a_t_v, .ref a_t_past, .ref a_t_costs, .int t_edits, .int t_thrown, .ref a_t_into, .ref a_t_isNeeded, .ref a_t_depths, .ref a_t_names, .ref a_t_out, .int t_outs, .ref a_t_has])), (a_t_v, .inl (ca 0, 206, .inl f_t_v))]) (ws2 := fun _ : Unit => [(a_t, .inr (7, [.ref a_t_v, .ref a_t_past, .ref a_t_costs, .int t_edits, .int t_thrown, .ref a_t_into, .ref a_t_isNeeded, .ref a_t_depths, .ref a_t_names, .ref a_t_out, .int t_outs, .ref a_t_has])), (a_t_v, .inl (ca 0, 206, .inl f_t_v))]) ⟨hx, hb, hml, hown, hts⟩ (mX9_multiplierFor l D ca a_t a_t_v a_t_past a_t_costs a_t_into a_t_isNeeded a_t_depths a_t_names a_t_out a_t_has _ t_edits t_thrown t_outs f_t_v y0_13 r_95 _ h) (cwV 2 hts (gV q_972 q_974 qs_37 q_8 q_975) rfl rfl rfl (by decide +kernel) ⟨Nat.le_of_ble_eq_true rfl, Nat.le_of_ble_eq_true rfl⟩) hK hP hD hS hA [0, 1] [] [0, 1] rfl rfl rfl (by decide) (fun _ => rfl) (ci := 7) (q0 := 0) rfl rfl rfl hl.1 rfl (Nat.le_of_ble_eq_true rfl) dX9_signedQuotient_104 ⟨Nat.le_of_ble_eq_true rfl, Nat.le_of_ble_eq_true rfl⟩ (fun r_104 u9 H locs h hP hD hS => ?_)
        try dsimp only at h
        refine lv_lstore (lv' := [(8, .long r_104), (7, .int r_95), (0, .ref a_t), (1, .long x1), (3, .long y0_13), (5, .int x5_20), (6, .int 0)]) hx hb dX9_signedQuotient_107 hl (by decide) rfl (fun ls hl => ?_)
        refine lv_aload_n hx hb dX9_signedQuotient_109 rfl (lv_at hl 2 rfl) ?_
        refine lv_bipush (v := 7) hx hb dX9_signedQuotient_110 (by decide) ?_
        refine lv_iconst (v := 0) hx hb dX9_signedQuotient_112 (by decide) ?_
        refine lv_lload hx hb dX9_signedQuotient_113 (lv_at hl 0 rfl) ?_
        refine cVi (As := [.int 7, .int 0, .long r_104]) (rest := []) (wc := [(a_t, .inr (7, [.ref a_t_v, .ref a_t_past, .ref a_t_costs, .int t_edits, .int t_thrown, .ref a_t_into, .ref a_t_isNeeded, .ref a_t_depths, .ref a_t_names, .ref a_t_out, .int t_outs, .ref a_t_has])), (a_t_v, .inl (ca 0, 206, .inl f_t_v))]) (wr := []) (w1 := fun u : (Nat → Int32) => [(a_t, .inr (7, [.ref a_t_v, .ref a_t_past, .ref a_t_costs, .int t_edits, .int t_thrown, .ref a_t_into, .ref a_t_isNeeded, .ref a_t_depths, .ref a_t_names, .ref a_t_out, .int t_outs, .ref a_t_has])), (a_t_v, .inl (ca 0, 206, .inl u))]) (ws2 := fun u : (Nat → Int32) => [(a_t, .inr (7, [.ref a_t_v, .ref a_t_past, .ref a_t_costs, .int t_edits, .int t_thrown, .ref a_t_into, .ref a_t_isNeeded, .ref a_t_depths, .ref a_t_names, .ref a_t_out, .int t_outs, .ref a_t_has])), (a_t_v, .inl (ca 0, 206, .inl u))]) ⟨hx, hb, hml, hown, hts⟩ (mX9_constant l D ca a_t a_t_v a_t_past a_t_costs a_t_into a_t_isNeeded a_t_depths a_t_names a_t_out a_t_has _ t_edits t_thrown t_outs f_t_v 7 0 r_104 _ h) (cwV 3 hts (gV q_1042 q_1044 qs_47 q_8 q_1045) rfl rfl rfl (by decide +kernel) ⟨Nat.le_of_ble_eq_true rfl, Nat.le_of_ble_eq_true rfl⟩) hK hP hD hS hA [0, 1] [] [0, 1] rfl rfl rfl (by decide) (fun _ => rfl) (ci := 7) (q0 := 0) rfl rfl rfl hl.1 rfl (Nat.le_of_ble_eq_true rfl) dX9_signedQuotient_115 ⟨Nat.le_of_ble_eq_true rfl, Nat.le_of_ble_eq_true rfl⟩ (fun r_115 u9 H locs h hP hD hS => ?_)
        obtain ⟨f_t_v_115, rfl⟩ : ∃ z, z = u9 := ⟨_, rfl⟩
        have hP : va_P D vwCl [(a_t, .inr (7, [.ref a_t_v, .ref a_t_past, .ref a_t_costs, .int t_edits, .int t_thrown, .ref a_t_into, .ref a_t_isNeeded, .ref a_t_depths, .ref a_t_names, .ref a_t_out, .int t_outs, .ref a_t_has])), (a_t_v, .inl (ca 0, 206, .inl f_t_v_115))] H := hP
        have hD : va_D A [(a_t, .inr (7, [.ref a_t_v, .ref a_t_past, .ref a_t_costs, .int t_edits, .int t_thrown, .ref a_t_into, .ref a_t_isNeeded, .ref a_t_depths, .ref a_t_names, .ref a_t_out, .int t_outs, .ref a_t_has])), (a_t_v, .inl (ca 0, 206, .inl f_t_v_115))] := hD
        try dsimp only at h
        refine lv_istore (lv' := [(10, .int r_115), (8, .long r_104), (7, .int r_95), (0, .ref a_t), (1, .long x1), (3, .long y0_13), (5, .int x5_20), (6, .int 0)]) hx hb dX9_signedQuotient_118 hl (by decide) rfl (fun ls hl => ?_)
        refine lv_lload hx hb dX9_signedQuotient_120 (lv_at hl 1 rfl) ?_
        refine lv_aload_n hx hb dX9_signedQuotient_122 rfl (lv_at hl 3 rfl) ?_
        refine cVl (As := []) (rest := [.long r_104]) (wc := [(a_t, .inr (7, [.ref a_t_v, .ref a_t_past, .ref a_t_costs, .int t_edits, .int t_thrown, .ref a_t_into, .ref a_t_isNeeded, .ref a_t_depths, .ref a_t_names, .ref a_t_out, .int t_outs, .ref a_t_has])), (a_t_v, .inl (ca 0, 206, .inl f_t_v_115))]) (wr := []) (w1 := fun _ : Unit => [(a_t, .inr (7, [.ref a_t_v, .ref a_t_past, .ref a_t_costs, .int t_edits, .int t_thrown, .ref a_t_into, .ref a_t_isNeeded, .ref a_t_depths, .ref a_t_names, .ref a_t_out, .int t_outs, .ref a_t_has])), (a_t_v, .inl (ca 0, 206, .inl f_t_v_115))]) (ws2 := fun _ : Unit => [(a_t, .inr (7, [.ref a_t_v, .ref a_t_past, .ref a_t_costs, .int t_edits, .int t_thrown, .ref a_t_into, .ref a_t_isNeeded, .ref a_t_depths, .ref a_t_names, .ref a_t_out, .int t_outs, .ref a_t_has])), (a_t_v, .inl (ca 0, 206, .inl f_t_v_115))]) ⟨hx, hb, hml, hown, hts⟩ (mX9_half l D ca a_t a_t_v a_t_past a_t_costs a_t_into a_t_isNeeded a_t_depths a_t_names a_t_out a_t_has _ t_edits t_thrown t_outs f_t_v_115 _ h) (cwV 0 hts (gV q_987 q_989 qs_38 q_8 q_990) rfl rfl rfl (by decide +kernel) ⟨Nat.le_of_ble_eq_true rfl, Nat.le_of_ble_eq_true rfl⟩) hK hP hD hS hA [0, 1] [] [0, 1] rfl rfl rfl (by decide) (fun _ => rfl) (ci := 7) (q0 := 0) rfl rfl rfl hl.1 rfl (Nat.le_of_ble_eq_true rfl) dX9_signedQuotient_123 ⟨Nat.le_of_ble_eq_true rfl, Nat.le_of_ble_eq_true rfl⟩ (fun r_123 u9 H locs h hP hD hS => ?_)
        try dsimp only at h
        have hJ143 : ∀ (f_t_v_143 : Nat → Int32) (y0_143 : Int32) (H : Heap) (locs : List Loc) (ls : Array Slot), va_P D vwCl [(a_t, .inr (7, [.ref a_t_v, .ref a_t_past, .ref a_t_costs, .int t_edits, .int t_thrown, .ref a_t_into, .ref a_t_isNeeded, .ref a_t_depths, .ref a_t_names, .ref a_t_out, .int t_outs, .ref a_t_has])), (a_t_v, .inl (ca 0, 206, .inl f_t_v_143))] H → va_D A [(a_t, .inr (7, [.ref a_t_v, .ref a_t_past, .ref a_t_costs, .int t_edits, .int t_thrown, .ref a_t_into, .ref a_t_isNeeded, .ref a_t_depths, .ref a_t_names, .ref a_t_out, .int t_outs, .ref a_t_has])), (a_t_v, .inl (ca 0, 206, .inl f_t_v_143))] → va_S A s.heap H locs → lv_has ls 11 [(0, .ref a_t), (1, .long x1), (5, .int x5_20), (7, .int r_95)] → wX9_signedQuotient_143 x1 Q x5_20 r_95 f_t_v_143 y0_143 → W p l e (headSpec (Cond.code yX9_signedQuotient cX9_signedQuotient 11 (some .int) :: wsG) ({ frames := 2, cells := 0, slots := 0, locals := 52 } : Room)).room s m ([.ref a_t, .long x1] : List Value).toArray below meth c H locs 0 0 (MQ below (qX9_signedQuotient D ca a_t a_t_v a_t_past a_t_costs a_t_into a_t_isNeeded a_t_depths a_t_names a_t_out a_t_has t_edits t_thrown t_outs Q A) ([.ref a_t, .long x1] : List Value).toArray s 0 0 A) (F0 m 143 ls [.int y0_143]) := by
          intro f_t_v_143 y0_143 H locs ls hP hD hS hl h
          unfold wX9_signedQuotient_143 at h
          refine lv_istore (lv' := [(10, .int y0_143), (0, .ref a_t), (1, .long x1), (5, .int x5_20), (7, .int r_95)]) hx hb dX9_signedQuotient_143 hl (by decide) rfl (fun ls hl => ?_)
          refine lv_aload_n hx hb dX9_signedQuotient_145 rfl (lv_at hl 1 rfl) ?_
          refine lv_iconst (v := 2) hx hb dX9_signedQuotient_146 (by decide) ?_
          refine lv_iload hx hb dX9_signedQuotient_147 (lv_at hl 0 rfl) ?_
          refine lv_iload hx hb dX9_signedQuotient_149 (lv_at hl 4 rfl) ?_
          refine cVi (As := [.int 2, .int y0_143, .int r_95]) (rest := []) (wc := [(a_t, .inr (7, [.ref a_t_v, .ref a_t_past, .ref a_t_costs, .int t_edits, .int t_thrown, .ref a_t_into, .ref a_t_isNeeded, .ref a_t_depths, .ref a_t_names, .ref a_t_out, .int t_outs, .ref a_t_has])), (a_t_v, .inl (ca 0, 206, .inl f_t_v_143))]) (wr := []) (w1 := fun u : (Nat → Int32) => [(a_t, .inr (7, [.ref a_t_v, .ref a_t_past, .ref a_t_costs, .int t_edits, .int t_thrown, .ref a_t_into, .ref a_t_isNeeded, .ref a_t_depths, .ref a_t_names, .ref a_t_out, .int t_outs, .ref a_t_has])), (a_t_v, .inl (ca 0, 206, .inl u))]) (ws2 := fun u : (Nat → Int32) => [(a_t, .inr (7, [.ref a_t_v, .ref a_t_past, .ref a_t_costs, .int t_edits, .int t_thrown, .ref a_t_into, .ref a_t_isNeeded, .ref a_t_depths, .ref a_t_names, .ref a_t_out, .int t_outs, .ref a_t_has])), (a_t_v, .inl (ca 0, 206, .inl u))]) ⟨hx, hb, hml, hown, hts⟩ (mX9_shifts l D ca a_t a_t_v a_t_past a_t_costs a_t_into a_t_isNeeded a_t_depths a_t_names a_t_out a_t_has _ t_edits t_thrown t_outs f_t_v_143 2 y0_143 r_95 _ h) (cwV 3 hts (gV q_1034 q_1036 qs_45 q_8 q_1037) rfl rfl rfl (by decide +kernel) ⟨Nat.le_of_ble_eq_true rfl, Nat.le_of_ble_eq_true rfl⟩) hK hP hD hS hA [0, 1] [] [0, 1] rfl rfl rfl (by decide) (fun _ => rfl) (ci := 7) (q0 := 0) rfl rfl rfl hl.1 rfl (Nat.le_of_ble_eq_true rfl) dX9_signedQuotient_151 ⟨Nat.le_of_ble_eq_true rfl, Nat.le_of_ble_eq_true rfl⟩ (fun r_151 u9 H locs h hP hD hS => ?_)
          obtain ⟨f_t_v_151, rfl⟩ : ∃ z, z = u9 := ⟨_, rfl⟩
          have hP : va_P D vwCl [(a_t, .inr (7, [.ref a_t_v, .ref a_t_past, .ref a_t_costs, .int t_edits, .int t_thrown, .ref a_t_into, .ref a_t_isNeeded, .ref a_t_depths, .ref a_t_names, .ref a_t_out, .int t_outs, .ref a_t_has])), (a_t_v, .inl (ca 0, 206, .inl f_t_v_151))] H := hP
          have hD : va_D A [(a_t, .inr (7, [.ref a_t_v, .ref a_t_past, .ref a_t_costs, .int t_edits, .int t_thrown, .ref a_t_into, .ref a_t_isNeeded, .ref a_t_depths, .ref a_t_names, .ref a_t_out, .int t_outs, .ref a_t_has])), (a_t_v, .inl (ca 0, 206, .inl f_t_v_151))] := hD
          try dsimp only at h
          refine lv_istore (lv' := [(10, .int r_151), (0, .ref a_t), (1, .long x1), (5, .int x5_20), (7, .int r_95)]) hx hb dX9_signedQuotient_154 hl (by decide) rfl (fun ls hl => ?_)
          refine lv_aload_n hx hb dX9_signedQuotient_156 rfl (lv_at hl 1 rfl) ?_
          refine lv_iconst (v := 3) hx hb dX9_signedQuotient_157 (by decide) ?_
          refine lv_iload hx hb dX9_signedQuotient_158 (lv_at hl 0 rfl) ?_
          refine lv_aload_n hx hb dX9_signedQuotient_160 rfl (lv_at hl 1 rfl) ?_
          refine lv_iconst (v := 1) hx hb dX9_signedQuotient_161 (by decide) ?_
          refine lv_iconst (v := 0) hx hb dX9_signedQuotient_162 (by decide) ?_
          refine lv_iload hx hb dX9_signedQuotient_163 (lv_at hl 3 rfl) ?_
          refine lv_iconst (v := 1) hx hb dX9_signedQuotient_165 (by decide) ?_
          refine lv_isub hx hb dX9_signedQuotient_166 ?_
          refine cVi (As := [.int 1, .int 0, .int (x5_20 - 1)]) (rest := [.int r_151, .int 3, .ref a_t]) (wc := [(a_t, .inr (7, [.ref a_t_v, .ref a_t_past, .ref a_t_costs, .int t_edits, .int t_thrown, .ref a_t_into, .ref a_t_isNeeded, .ref a_t_depths, .ref a_t_names, .ref a_t_out, .int t_outs, .ref a_t_has])), (a_t_v, .inl (ca 0, 206, .inl f_t_v_151))]) (wr := []) (w1 := fun u : (Nat → Int32) => [(a_t, .inr (7, [.ref a_t_v, .ref a_t_past, .ref a_t_costs, .int t_edits, .int t_thrown, .ref a_t_into, .ref a_t_isNeeded, .ref a_t_depths, .ref a_t_names, .ref a_t_out, .int t_outs, .ref a_t_has])), (a_t_v, .inl (ca 0, 206, .inl u))]) (ws2 := fun u : (Nat → Int32) => [(a_t, .inr (7, [.ref a_t_v, .ref a_t_past, .ref a_t_costs, .int t_edits, .int t_thrown, .ref a_t_into, .ref a_t_isNeeded, .ref a_t_depths, .ref a_t_names, .ref a_t_out, .int t_outs, .ref a_t_has])), (a_t_v, .inl (ca 0, 206, .inl u))]) ⟨hx, hb, hml, hown, hts⟩ (mX9_shifts l D ca a_t a_t_v a_t_past a_t_costs a_t_into a_t_isNeeded a_t_depths a_t_names a_t_out a_t_has _ t_edits t_thrown t_outs f_t_v_151 1 0 (x5_20 - 1) _ h) (cwV 3 hts (gV q_1034 q_1036 qs_45 q_8 q_1037) rfl rfl rfl (by decide +kernel) ⟨Nat.le_of_ble_eq_true rfl, Nat.le_of_ble_eq_true rfl⟩) hK hP hD hS hA [0, 1] [] [0, 1] rfl rfl rfl (by decide) (fun _ => rfl) (ci := 7) (q0 := 0) rfl rfl rfl hl.1 rfl (Nat.le_of_ble_eq_true rfl) dX9_signedQuotient_167 ⟨Nat.le_of_ble_eq_true rfl, Nat.le_of_ble_eq_true rfl⟩ (fun r_167 u9 H locs h hP hD hS => ?_)
          obtain ⟨f_t_v_167, rfl⟩ : ∃ z, z = u9 := ⟨_, rfl⟩
          have hP : va_P D vwCl [(a_t, .inr (7, [.ref a_t_v, .ref a_t_past, .ref a_t_costs, .int t_edits, .int t_thrown, .ref a_t_into, .ref a_t_isNeeded, .ref a_t_depths, .ref a_t_names, .ref a_t_out, .int t_outs, .ref a_t_has])), (a_t_v, .inl (ca 0, 206, .inl f_t_v_167))] H := hP
          have hD : va_D A [(a_t, .inr (7, [.ref a_t_v, .ref a_t_past, .ref a_t_costs, .int t_edits, .int t_thrown, .ref a_t_into, .ref a_t_isNeeded, .ref a_t_depths, .ref a_t_names, .ref a_t_out, .int t_outs, .ref a_t_has])), (a_t_v, .inl (ca 0, 206, .inl f_t_v_167))] := hD
          try dsimp only at h
          refine cVi (As := [.int 3, .int r_151, .int r_167]) (rest := []) (wc := [(a_t, .inr (7, [.ref a_t_v, .ref a_t_past, .ref a_t_costs, .int t_edits, .int t_thrown, .ref a_t_into, .ref a_t_isNeeded, .ref a_t_depths, .ref a_t_names, .ref a_t_out, .int t_outs, .ref a_t_has])), (a_t_v, .inl (ca 0, 206, .inl f_t_v_167))]) (wr := []) (w1 := fun u : (Nat → Int32) => [(a_t, .inr (7, [.ref a_t_v, .ref a_t_past, .ref a_t_costs, .int t_edits, .int t_thrown, .ref a_t_into, .ref a_t_isNeeded, .ref a_t_depths, .ref a_t_names, .ref a_t_out, .int t_outs, .ref a_t_has])), (a_t_v, .inl (ca 0, 206, .inl u))]) (ws2 := fun u : (Nat → Int32) => [(a_t, .inr (7, [.ref a_t_v, .ref a_t_past, .ref a_t_costs, .int t_edits, .int t_thrown, .ref a_t_into, .ref a_t_isNeeded, .ref a_t_depths, .ref a_t_names, .ref a_t_out, .int t_outs, .ref a_t_has])), (a_t_v, .inl (ca 0, 206, .inl u))]) ⟨hx, hb, hml, hown, hts⟩ (mX9_both l D ca a_t a_t_v a_t_past a_t_costs a_t_into a_t_isNeeded a_t_depths a_t_names a_t_out a_t_has _ t_edits t_thrown t_outs f_t_v_167 3 r_151 r_167 _ h) (cwV 3 hts (gV q_1046 q_1048 qs_48 q_8 q_1049) rfl rfl rfl (by decide +kernel) ⟨Nat.le_of_ble_eq_true rfl, Nat.le_of_ble_eq_true rfl⟩) hK hP hD hS hA [0, 1] [] [0, 1] rfl rfl rfl (by decide) (fun _ => rfl) (ci := 7) (q0 := 0) rfl rfl rfl hl.1 rfl (Nat.le_of_ble_eq_true rfl) dX9_signedQuotient_170 ⟨Nat.le_of_ble_eq_true rfl, Nat.le_of_ble_eq_true rfl⟩ (fun r_170 u9 H locs h hP hD hS => ?_)
          obtain ⟨f_t_v_170, rfl⟩ : ∃ z, z = u9 := ⟨_, rfl⟩
          have hP : va_P D vwCl [(a_t, .inr (7, [.ref a_t_v, .ref a_t_past, .ref a_t_costs, .int t_edits, .int t_thrown, .ref a_t_into, .ref a_t_isNeeded, .ref a_t_depths, .ref a_t_names, .ref a_t_out, .int t_outs, .ref a_t_has])), (a_t_v, .inl (ca 0, 206, .inl f_t_v_170))] H := hP
          have hD : va_D A [(a_t, .inr (7, [.ref a_t_v, .ref a_t_past, .ref a_t_costs, .int t_edits, .int t_thrown, .ref a_t_into, .ref a_t_isNeeded, .ref a_t_depths, .ref a_t_names, .ref a_t_out, .int t_outs, .ref a_t_has])), (a_t_v, .inl (ca 0, 206, .inl f_t_v_170))] := hD
          try dsimp only at h
          refine lv_istore (lv' := [(6, .int r_170), (10, .int r_151), (0, .ref a_t), (1, .long x1), (5, .int x5_20), (7, .int r_95)]) hx hb dX9_signedQuotient_173 hl (by decide) rfl (fun ls hl => ?_)
          exact hJ175 r_170 f_t_v_170 _ _ _ hP hD hS (lv_sub hl [2, 3, 0] rfl) h
        refine jl_lt (tgt := 141) hx hb dX9_signedQuotient_126 dX9_signedQuotient_127 (by decide) (fun c9 => ?_) (fun c9 => ?_)
        · have h := h.1 c9
          refine lv_iload hx hb dX9_signedQuotient_141 (lv_at hl 0 rfl) ?_
          exact hJ143 f_t_v_115 r_115 _ _ _ hP hD hS (lv_sub hl [3, 4, 6, 2] rfl) h
        · have h := h.2 c9
          refine lv_aload_n hx hb dX9_signedQuotient_130 rfl (lv_at hl 3 rfl) ?_
          refine lv_iconst (v := 3) hx hb dX9_signedQuotient_131 (by decide) ?_
          refine lv_iload hx hb dX9_signedQuotient_132 (lv_at hl 0 rfl) ?_
          refine lv_iconst (v := 0) hx hb dX9_signedQuotient_134 (by decide) ?_
          refine cVi (As := [.int 3, .int r_115, .int 0]) (rest := []) (wc := [(a_t, .inr (7, [.ref a_t_v, .ref a_t_past, .ref a_t_costs, .int t_edits, .int t_thrown, .ref a_t_into, .ref a_t_isNeeded, .ref a_t_depths, .ref a_t_names, .ref a_t_out, .int t_outs, .ref a_t_has])), (a_t_v, .inl (ca 0, 206, .inl f_t_v_115))]) (wr := []) (w1 := fun u : (Nat → Int32) => [(a_t, .inr (7, [.ref a_t_v, .ref a_t_past, .ref a_t_costs, .int t_edits, .int t_thrown, .ref a_t_into, .ref a_t_isNeeded, .ref a_t_depths, .ref a_t_names, .ref a_t_out, .int t_outs, .ref a_t_has])), (a_t_v, .inl (ca 0, 206, .inl u))]) (ws2 := fun u : (Nat → Int32) => [(a_t, .inr (7, [.ref a_t_v, .ref a_t_past, .ref a_t_costs, .int t_edits, .int t_thrown, .ref a_t_into, .ref a_t_isNeeded, .ref a_t_depths, .ref a_t_names, .ref a_t_out, .int t_outs, .ref a_t_has])), (a_t_v, .inl (ca 0, 206, .inl u))]) ⟨hx, hb, hml, hown, hts⟩ (mX9_both l D ca a_t a_t_v a_t_past a_t_costs a_t_into a_t_isNeeded a_t_depths a_t_names a_t_out a_t_has _ t_edits t_thrown t_outs f_t_v_115 3 r_115 0 _ h) (cwV 3 hts (gV q_1046 q_1048 qs_48 q_8 q_1049) rfl rfl rfl (by decide +kernel) ⟨Nat.le_of_ble_eq_true rfl, Nat.le_of_ble_eq_true rfl⟩) hK hP hD hS hA [0, 1] [] [0, 1] rfl rfl rfl (by decide) (fun _ => rfl) (ci := 7) (q0 := 0) rfl rfl rfl hl.1 rfl (Nat.le_of_ble_eq_true rfl) dX9_signedQuotient_135 ⟨Nat.le_of_ble_eq_true rfl, Nat.le_of_ble_eq_true rfl⟩ (fun r_135 u9 H locs h hP hD hS => ?_)
          obtain ⟨f_t_v_135, rfl⟩ : ∃ z, z = u9 := ⟨_, rfl⟩
          have hP : va_P D vwCl [(a_t, .inr (7, [.ref a_t_v, .ref a_t_past, .ref a_t_costs, .int t_edits, .int t_thrown, .ref a_t_into, .ref a_t_isNeeded, .ref a_t_depths, .ref a_t_names, .ref a_t_out, .int t_outs, .ref a_t_has])), (a_t_v, .inl (ca 0, 206, .inl f_t_v_135))] H := hP
          have hD : va_D A [(a_t, .inr (7, [.ref a_t_v, .ref a_t_past, .ref a_t_costs, .int t_edits, .int t_thrown, .ref a_t_into, .ref a_t_isNeeded, .ref a_t_depths, .ref a_t_names, .ref a_t_out, .int t_outs, .ref a_t_has])), (a_t_v, .inl (ca 0, 206, .inl f_t_v_135))] := hD
          try dsimp only at h
          refine lv_goto (tgt := 143) hx hb dX9_signedQuotient_138 (by decide) ?_
          exact hJ143 f_t_v_135 r_135 _ _ _ hP hD hS (lv_sub hl [3, 4, 6, 2] rfl) h
    refine lv_if_eq (tgt := 86) hx hb dX9_signedQuotient_29 (by decide) (fun c9 => ?_) (fun c9 => ?_)
    · have h := h.1 c9
      exact hJ86 _ _ _ hP hD hS (lv_sub hl [3, 4, 2, 1, 0] rfl) h
    · have h := h.2 c9
      refine lv_lload_n hx hb dX9_signedQuotient_32 rfl (lv_at hl 2 rfl) ?_
      refine lv_lconst (v := 1) hx hb dX9_signedQuotient_33 (by decide) ?_
      refine jl_le (tgt := 86) hx hb dX9_signedQuotient_34 dX9_signedQuotient_35 (by decide) (fun c9 => ?_) (fun c9 => ?_)
      · have h := h.1 c9
        exact hJ86 _ _ _ hP hD hS (lv_sub hl [3, 4, 2, 1, 0] rfl) h
      · have h := h.2 c9
        refine lv_lload_n hx hb dX9_signedQuotient_38 rfl (lv_at hl 2 rfl) ?_
        refine cPi (As := [.long y0_13]) (rest := []) ⟨hx, hb, hml, hown, hts⟩ (mX9_twos l y0_13 _ h) (va_cwS 1 hts (gS q_980 q_981 q_8 q_982) rfl rfl rfl (by decide +kernel) ⟨Nat.le_of_ble_eq_true rfl, Nat.le_of_ble_eq_true rfl⟩) hS rfl hl.1 rfl (Nat.le_of_ble_eq_true rfl) dX9_signedQuotient_39 ⟨Nat.le_of_ble_eq_true rfl, Nat.le_of_ble_eq_true rfl⟩ (fun r_39 H1 locs h hk1 hS => ?_)
        have hP := s_back hP hk1
        try dsimp only at h
        refine lv_istore (lv' := [(7, .int r_39), (6, .int 0), (5, .int x5_20), (3, .long y0_13), (0, .ref a_t), (1, .long x1)]) hx hb dX9_signedQuotient_42 hl (by decide) rfl (fun ls hl => ?_)
        refine lv_aload_n hx hb dX9_signedQuotient_44 rfl (lv_at hl 4 rfl) ?_
        refine lv_iconst (v := 1) hx hb dX9_signedQuotient_45 (by decide) ?_
        refine lv_aload_n hx hb dX9_signedQuotient_46 rfl (lv_at hl 4 rfl) ?_
        refine lv_iconst (v := 2) hx hb dX9_signedQuotient_47 (by decide) ?_
        refine lv_iconst (v := 0) hx hb dX9_signedQuotient_48 (by decide) ?_
        refine lv_iload hx hb dX9_signedQuotient_49 (lv_at hl 0 rfl) ?_
        refine lv_iconst (v := 1) hx hb dX9_signedQuotient_51 (by decide) ?_
        refine lv_isub hx hb dX9_signedQuotient_52 ?_
        refine cVi (As := [.int 2, .int 0, .int (r_39 - 1)]) (rest := [.int 1, .ref a_t]) (wc := [(a_t, .inr (7, [.ref a_t_v, .ref a_t_past, .ref a_t_costs, .int t_edits, .int t_thrown, .ref a_t_into, .ref a_t_isNeeded, .ref a_t_depths, .ref a_t_names, .ref a_t_out, .int t_outs, .ref a_t_has])), (a_t_v, .inl (ca 0, 206, .inl f_t_v))]) (wr := []) (w1 := fun u : (Nat → Int32) => [(a_t, .inr (7, [.ref a_t_v, .ref a_t_past, .ref a_t_costs, .int t_edits, .int t_thrown, .ref a_t_into, .ref a_t_isNeeded, .ref a_t_depths, .ref a_t_names, .ref a_t_out, .int t_outs, .ref a_t_has])), (a_t_v, .inl (ca 0, 206, .inl u))]) (ws2 := fun u : (Nat → Int32) => [(a_t, .inr (7, [.ref a_t_v, .ref a_t_past, .ref a_t_costs, .int t_edits, .int t_thrown, .ref a_t_into, .ref a_t_isNeeded, .ref a_t_depths, .ref a_t_names, .ref a_t_out, .int t_outs, .ref a_t_has])), (a_t_v, .inl (ca 0, 206, .inl u))]) ⟨hx, hb, hml, hown, hts⟩ (mX9_shifts l D ca a_t a_t_v a_t_past a_t_costs a_t_into a_t_isNeeded a_t_depths a_t_names a_t_out a_t_has _ t_edits t_thrown t_outs f_t_v 2 0 (r_39 - 1) _ h) (cwV 3 hts (gV q_1034 q_1036 qs_45 q_8 q_1037) rfl rfl rfl (by decide +kernel) ⟨Nat.le_of_ble_eq_true rfl, Nat.le_of_ble_eq_true rfl⟩) hK hP hD hS hA [0, 1] [] [0, 1] rfl rfl rfl (by decide) (fun _ => rfl) (ci := 7) (q0 := 0) rfl rfl rfl hl.1 rfl (Nat.le_of_ble_eq_true rfl) dX9_signedQuotient_53 ⟨Nat.le_of_ble_eq_true rfl, Nat.le_of_ble_eq_true rfl⟩ (fun r_53 u9 H locs h hP hD hS => ?_)
        obtain ⟨f_t_v_53, rfl⟩ : ∃ z, z = u9 := ⟨_, rfl⟩
        have hP : va_P D vwCl [(a_t, .inr (7, [.ref a_t_v, .ref a_t_past, .ref a_t_costs, .int t_edits, .int t_thrown, .ref a_t_into, .ref a_t_isNeeded, .ref a_t_depths, .ref a_t_names, .ref a_t_out, .int t_outs, .ref a_t_has])), (a_t_v, .inl (ca 0, 206, .inl f_t_v_53))] H := hP
        have hD : va_D A [(a_t, .inr (7, [.ref a_t_v, .ref a_t_past, .ref a_t_costs, .int t_edits, .int t_thrown, .ref a_t_into, .ref a_t_isNeeded, .ref a_t_depths, .ref a_t_names, .ref a_t_out, .int t_outs, .ref a_t_has])), (a_t_v, .inl (ca 0, 206, .inl f_t_v_53))] := hD
        try dsimp only at h
        refine lv_iload hx hb dX9_signedQuotient_56 (lv_at hl 2 rfl) ?_
        refine lv_iload hx hb dX9_signedQuotient_58 (lv_at hl 0 rfl) ?_
        refine lv_isub hx hb dX9_signedQuotient_60 ?_
        refine cVi (As := [.int 1, .int r_53, .int (x5_20 - r_39)]) (rest := []) (wc := [(a_t, .inr (7, [.ref a_t_v, .ref a_t_past, .ref a_t_costs, .int t_edits, .int t_thrown, .ref a_t_into, .ref a_t_isNeeded, .ref a_t_depths, .ref a_t_names, .ref a_t_out, .int t_outs, .ref a_t_has])), (a_t_v, .inl (ca 0, 206, .inl f_t_v_53))]) (wr := []) (w1 := fun u : (Nat → Int32) => [(a_t, .inr (7, [.ref a_t_v, .ref a_t_past, .ref a_t_costs, .int t_edits, .int t_thrown, .ref a_t_into, .ref a_t_isNeeded, .ref a_t_depths, .ref a_t_names, .ref a_t_out, .int t_outs, .ref a_t_has])), (a_t_v, .inl (ca 0, 206, .inl u))]) (ws2 := fun u : (Nat → Int32) => [(a_t, .inr (7, [.ref a_t_v, .ref a_t_past, .ref a_t_costs, .int t_edits, .int t_thrown, .ref a_t_into, .ref a_t_isNeeded, .ref a_t_depths, .ref a_t_names, .ref a_t_out, .int t_outs, .ref a_t_has])), (a_t_v, .inl (ca 0, 206, .inl u))]) ⟨hx, hb, hml, hown, hts⟩ (mX9_shifts l D ca a_t a_t_v a_t_past a_t_costs a_t_into a_t_isNeeded a_t_depths a_t_names a_t_out a_t_has _ t_edits t_thrown t_outs f_t_v_53 1 r_53 (x5_20 - r_39) _ h) (cwV 3 hts (gV q_1034 q_1036 qs_45 q_8 q_1037) rfl rfl rfl (by decide +kernel) ⟨Nat.le_of_ble_eq_true rfl, Nat.le_of_ble_eq_true rfl⟩) hK hP hD hS hA [0, 1] [] [0, 1] rfl rfl rfl (by decide) (fun _ => rfl) (ci := 7) (q0 := 0) rfl rfl rfl hl.1 rfl (Nat.le_of_ble_eq_true rfl) dX9_signedQuotient_61 ⟨Nat.le_of_ble_eq_true rfl, Nat.le_of_ble_eq_true rfl⟩ (fun r_61 u9 H locs h hP hD hS => ?_)
        obtain ⟨f_t_v_61, rfl⟩ : ∃ z, z = u9 := ⟨_, rfl⟩
        have hP : va_P D vwCl [(a_t, .inr (7, [.ref a_t_v, .ref a_t_past, .ref a_t_costs, .int t_edits, .int t_thrown, .ref a_t_into, .ref a_t_isNeeded, .ref a_t_depths, .ref a_t_names, .ref a_t_out, .int t_outs, .ref a_t_has])), (a_t_v, .inl (ca 0, 206, .inl f_t_v_61))] H := hP
        have hD : va_D A [(a_t, .inr (7, [.ref a_t_v, .ref a_t_past, .ref a_t_costs, .int t_edits, .int t_thrown, .ref a_t_into, .ref a_t_isNeeded, .ref a_t_depths, .ref a_t_names, .ref a_t_out, .int t_outs, .ref a_t_has])), (a_t_v, .inl (ca 0, 206, .inl f_t_v_61))] := hD
        try dsimp only at h
        refine lv_istore (lv' := [(8, .int r_61), (7, .int r_39), (6, .int 0), (5, .int x5_20), (3, .long y0_13), (0, .ref a_t), (1, .long x1)]) hx hb dX9_signedQuotient_64 hl (by decide) rfl (fun ls hl => ?_)
        refine lv_aload_n hx hb dX9_signedQuotient_66 rfl (lv_at hl 5 rfl) ?_
        refine lv_iconst (v := 2) hx hb dX9_signedQuotient_67 (by decide) ?_
        refine lv_aload_n hx hb dX9_signedQuotient_68 rfl (lv_at hl 5 rfl) ?_
        refine lv_iconst (v := 3) hx hb dX9_signedQuotient_69 (by decide) ?_
        refine lv_iconst (v := 0) hx hb dX9_signedQuotient_70 (by decide) ?_
        refine lv_iload hx hb dX9_signedQuotient_71 (lv_at hl 0 rfl) ?_
        refine cVi (As := [.int 3, .int 0, .int r_61]) (rest := [.int 2, .ref a_t]) (wc := [(a_t, .inr (7, [.ref a_t_v, .ref a_t_past, .ref a_t_costs, .int t_edits, .int t_thrown, .ref a_t_into, .ref a_t_isNeeded, .ref a_t_depths, .ref a_t_names, .ref a_t_out, .int t_outs, .ref a_t_has])), (a_t_v, .inl (ca 0, 206, .inl f_t_v_61))]) (wr := []) (w1 := fun u : (Nat → Int32) => [(a_t, .inr (7, [.ref a_t_v, .ref a_t_past, .ref a_t_costs, .int t_edits, .int t_thrown, .ref a_t_into, .ref a_t_isNeeded, .ref a_t_depths, .ref a_t_names, .ref a_t_out, .int t_outs, .ref a_t_has])), (a_t_v, .inl (ca 0, 206, .inl u))]) (ws2 := fun u : (Nat → Int32) => [(a_t, .inr (7, [.ref a_t_v, .ref a_t_past, .ref a_t_costs, .int t_edits, .int t_thrown, .ref a_t_into, .ref a_t_isNeeded, .ref a_t_depths, .ref a_t_names, .ref a_t_out, .int t_outs, .ref a_t_has])), (a_t_v, .inl (ca 0, 206, .inl u))]) ⟨hx, hb, hml, hown, hts⟩ (mX9_both l D ca a_t a_t_v a_t_past a_t_costs a_t_into a_t_isNeeded a_t_depths a_t_names a_t_out a_t_has _ t_edits t_thrown t_outs f_t_v_61 3 0 r_61 _ h) (cwV 3 hts (gV q_1046 q_1048 qs_48 q_8 q_1049) rfl rfl rfl (by decide +kernel) ⟨Nat.le_of_ble_eq_true rfl, Nat.le_of_ble_eq_true rfl⟩) hK hP hD hS hA [0, 1] [] [0, 1] rfl rfl rfl (by decide) (fun _ => rfl) (ci := 7) (q0 := 0) rfl rfl rfl hl.1 rfl (Nat.le_of_ble_eq_true rfl) dX9_signedQuotient_73 ⟨Nat.le_of_ble_eq_true rfl, Nat.le_of_ble_eq_true rfl⟩ (fun r_73 u9 H locs h hP hD hS => ?_)
        obtain ⟨f_t_v_73, rfl⟩ : ∃ z, z = u9 := ⟨_, rfl⟩
        have hP : va_P D vwCl [(a_t, .inr (7, [.ref a_t_v, .ref a_t_past, .ref a_t_costs, .int t_edits, .int t_thrown, .ref a_t_into, .ref a_t_isNeeded, .ref a_t_depths, .ref a_t_names, .ref a_t_out, .int t_outs, .ref a_t_has])), (a_t_v, .inl (ca 0, 206, .inl f_t_v_73))] H := hP
        have hD : va_D A [(a_t, .inr (7, [.ref a_t_v, .ref a_t_past, .ref a_t_costs, .int t_edits, .int t_thrown, .ref a_t_into, .ref a_t_isNeeded, .ref a_t_depths, .ref a_t_names, .ref a_t_out, .int t_outs, .ref a_t_has])), (a_t_v, .inl (ca 0, 206, .inl f_t_v_73))] := hD
        try dsimp only at h
        refine lv_iload hx hb dX9_signedQuotient_76 (lv_at hl 1 rfl) ?_
        refine cVi (As := [.int 2, .int r_73, .int r_39]) (rest := []) (wc := [(a_t, .inr (7, [.ref a_t_v, .ref a_t_past, .ref a_t_costs, .int t_edits, .int t_thrown, .ref a_t_into, .ref a_t_isNeeded, .ref a_t_depths, .ref a_t_names, .ref a_t_out, .int t_outs, .ref a_t_has])), (a_t_v, .inl (ca 0, 206, .inl f_t_v_73))]) (wr := []) (w1 := fun u : (Nat → Int32) => [(a_t, .inr (7, [.ref a_t_v, .ref a_t_past, .ref a_t_costs, .int t_edits, .int t_thrown, .ref a_t_into, .ref a_t_isNeeded, .ref a_t_depths, .ref a_t_names, .ref a_t_out, .int t_outs, .ref a_t_has])), (a_t_v, .inl (ca 0, 206, .inl u))]) (ws2 := fun u : (Nat → Int32) => [(a_t, .inr (7, [.ref a_t_v, .ref a_t_past, .ref a_t_costs, .int t_edits, .int t_thrown, .ref a_t_into, .ref a_t_isNeeded, .ref a_t_depths, .ref a_t_names, .ref a_t_out, .int t_outs, .ref a_t_has])), (a_t_v, .inl (ca 0, 206, .inl u))]) ⟨hx, hb, hml, hown, hts⟩ (mX9_shifts l D ca a_t a_t_v a_t_past a_t_costs a_t_into a_t_isNeeded a_t_depths a_t_names a_t_out a_t_has _ t_edits t_thrown t_outs f_t_v_73 2 r_73 r_39 _ h) (cwV 3 hts (gV q_1034 q_1036 qs_45 q_8 q_1037) rfl rfl rfl (by decide +kernel) ⟨Nat.le_of_ble_eq_true rfl, Nat.le_of_ble_eq_true rfl⟩) hK hP hD hS hA [0, 1] [] [0, 1] rfl rfl rfl (by decide) (fun _ => rfl) (ci := 7) (q0 := 0) rfl rfl rfl hl.1 rfl (Nat.le_of_ble_eq_true rfl) dX9_signedQuotient_78 ⟨Nat.le_of_ble_eq_true rfl, Nat.le_of_ble_eq_true rfl⟩ (fun r_78 u9 H locs h hP hD hS => ?_)
        obtain ⟨f_t_v_78, rfl⟩ : ∃ z, z = u9 := ⟨_, rfl⟩
        have hP : va_P D vwCl [(a_t, .inr (7, [.ref a_t_v, .ref a_t_past, .ref a_t_costs, .int t_edits, .int t_thrown, .ref a_t_into, .ref a_t_isNeeded, .ref a_t_depths, .ref a_t_names, .ref a_t_out, .int t_outs, .ref a_t_has])), (a_t_v, .inl (ca 0, 206, .inl f_t_v_78))] H := hP
        have hD : va_D A [(a_t, .inr (7, [.ref a_t_v, .ref a_t_past, .ref a_t_costs, .int t_edits, .int t_thrown, .ref a_t_into, .ref a_t_isNeeded, .ref a_t_depths, .ref a_t_names, .ref a_t_out, .int t_outs, .ref a_t_has])), (a_t_v, .inl (ca 0, 206, .inl f_t_v_78))] := hD
        try dsimp only at h
        refine lv_istore (lv' := [(6, .int r_78), (8, .int r_61), (7, .int r_39), (5, .int x5_20), (3, .long y0_13), (0, .ref a_t), (1, .long x1)]) hx hb dX9_signedQuotient_81 hl (by decide) rfl (fun ls hl => ?_)
        refine lv_goto (tgt := 175) hx hb dX9_signedQuotient_83 (by decide) ?_
        exact hJ175 r_78 f_t_v_78 _ _ _ hP hD hS (lv_sub hl [5, 6, 0] rfl) h
  refine jl_ge (tgt := 12) hx hb dX9_signedQuotient_2 dX9_signedQuotient_3 (by decide) (fun c9 => ?_) (fun c9 => ?_)
  · have h := h.1 c9
    refine lv_lload_n hx hb dX9_signedQuotient_12 rfl (lv_at hl 1 rfl) ?_
    exact hJ13 x1 _ _ _ hP hD hS (lv_sub hl [0, 1] rfl) h
  · have h := h.2 c9
    refine lv_lconst (v := 0) hx hb dX9_signedQuotient_6 (by decide) ?_
    refine lv_lload_n hx hb dX9_signedQuotient_7 rfl (lv_at hl 1 rfl) ?_
    refine lv_lsub hx hb dX9_signedQuotient_8 ?_
    refine lv_goto (tgt := 13) hx hb dX9_signedQuotient_9 (by decide) ?_
    exact hJ13 (0 - x1) _ _ _ hP hD hS (lv_sub hl [0, 1] rfl) h

abbrev qX9_floors (D : va_G) (ca : Nat → ClassId) (a_t a_t_v a_t_past a_t_costs a_t_into a_t_isNeeded a_t_depths a_t_names a_t_out a_t_has : Nat) (t_edits : Int32) (t_thrown : Int32) (t_outs : Int32) (Q : Int32 → (Nat → Int32) → Prop) (A : Nat → Prop) : Array Value → State → Outcome → State → Prop := va_Qi (fun (r : Int32) (u : (Nat → Int32)) => Q r u) (wEnd D ca (fun u : (Nat → Int32) => [(a_t, .inr (7, [.ref a_t_v, .ref a_t_past, .ref a_t_costs, .int t_edits, .int t_thrown, .ref a_t_into, .ref a_t_isNeeded, .ref a_t_depths, .ref a_t_names, .ref a_t_out, .int t_outs, .ref a_t_has])), (a_t_v, .inl (ca 0, 206, .inl u))]) A) A
def wX9_floors (f_t_v : Nat → Int32) (x1 : Int64) (x3 : Int32) (Q : Int32 → (Nat → Int32) → Prop) : Prop :=
  wX9_isPower x1 (fun r_1 => ((r_1 = 0 → wX9_shifts f_t_v 2 0 (x3 - 1) (fun r_24 f_t_v_24 => wX9_both f_t_v_24 9 0 r_24 (fun r_36 f_t_v_36 => wX9_quotient f_t_v_36 r_36 x1 (fun r_40 f_t_v_40 => wX9_both f_t_v_40 9 r_40 r_24 (fun r_52 f_t_v_52 => Q r_52 f_t_v_52))))) ∧ (¬ r_1 = 0 → wX9_twos x1 (fun r_11 => wX9_shifts f_t_v 2 0 r_11 (fun r_14 f_t_v_14 => Q r_14 f_t_v_14)))))
set_option maxHeartbeats 4000000 in
set_option maxRecDepth 100000 in
theorem mX9_floors (l : Launch) (D : va_G) (ca : Nat → ClassId) (a_t a_t_v a_t_past a_t_costs a_t_into a_t_isNeeded a_t_depths a_t_names a_t_out a_t_has : Nat) (sz : Nat) (t_edits : Int32) (t_thrown : Int32) (t_outs : Int32) (f_t_v : Nat → Int32) (x1 : Int64) (x3 : Int32) (Q : Int32 → (Nat → Int32) → Prop) (h : wX9_floors f_t_v x1 x3 Q) : Met l yX9_floors (Cond.code yX9_floors cX9_floors 6 (some .int) :: wsG) ({ frames := 3, cells := 0, slots := 0, locals := 82 } : Room) (va_Pc [.ref a_t, .long x1, .int x3] (wPre D ca [(a_t, .inr (7, [.ref a_t_v, .ref a_t_past, .ref a_t_costs, .int t_edits, .int t_thrown, .ref a_t_into, .ref a_t_isNeeded, .ref a_t_depths, .ref a_t_names, .ref a_t_out, .int t_outs, .ref a_t_has])), (a_t_v, .inl (ca 0, 206, .inl f_t_v))] sz)) (qX9_floors D ca a_t a_t_v a_t_past a_t_costs a_t_into a_t_isNeeded a_t_depths a_t_names a_t_out a_t_has t_edits t_thrown t_outs Q (va_A [(a_t, .inr (7, [.ref a_t_v, .ref a_t_past, .ref a_t_costs, .int t_edits, .int t_thrown, .ref a_t_into, .ref a_t_isNeeded, .ref a_t_depths, .ref a_t_names, .ref a_t_out, .int t_outs, .ref a_t_has])), (a_t_v, .inl (ca 0, 206, .inl f_t_v))] sz)) 0 0 (va_A [(a_t, .inr (7, [.ref a_t_v, .ref a_t_past, .ref a_t_costs, .int t_edits, .int t_thrown, .ref a_t_into, .ref a_t_isNeeded, .ref a_t_depths, .ref a_t_names, .ref a_t_out, .int t_outs, .ref a_t_has])), (a_t_v, .inl (ca 0, 206, .inl f_t_v))] sz) := by
  refine Met.ofW (cc := cX9_floors) (maxL := 6) (ret := (some .int)) (by decide) rfl ?_
  intro p e s m args below meth c s₁ B hml hv
  obtain ⟨rfl, hsz, hP, hK, hD0⟩ := hv
  have hx := B.exec
  have hb := B.bytes
  have hr := B.returns
  have hts := atoms_spec (ws := (Cond.code yX9_floors cX9_floors 6 (some .int) :: wsG)) B.pre
  have hq : ∀ w ∈ wsG, w.before _ s = true := fun w hw => hts w (List.mem_cons_of_mem _ hw)
  have hown : s.vm.findClass RX9 = some m.cls := findClass_of_methodNamed B.named
  have hlocks := B.notSynchronized
  subst hsz
  have hD := hD0.self (sz := s.heap.size)
  generalize hAe : va_A [(a_t, .inr (7, [.ref a_t_v, .ref a_t_past, .ref a_t_costs, .int t_edits, .int t_thrown, .ref a_t_into, .ref a_t_isNeeded, .ref a_t_depths, .ref a_t_names, .ref a_t_out, .int t_outs, .ref a_t_has])), (a_t_v, .inl (ca 0, 206, .inl f_t_v))] s.heap.size = A at hD ⊢
  have hA : ∀ q : Nat, s.heap.size ≤ q → A q := fun q h => by rw [← hAe]; exact Or.inr h
  have hS : va_S A s.heap s.heap [] := va_S.rf
  have hP : va_P D vwCl [(a_t, .inr (7, [.ref a_t_v, .ref a_t_past, .ref a_t_costs, .int t_edits, .int t_thrown, .ref a_t_into, .ref a_t_isNeeded, .ref a_t_depths, .ref a_t_names, .ref a_t_out, .int t_outs, .ref a_t_has])), (a_t_v, .inl (ca 0, 206, .inl f_t_v))] s.heap := hP
  have hl := lv_entry ([.ref a_t, .long x1, .int x3]) (n := 6) (Nat.le_of_ble_eq_true rfl)
  rw [lg_entry_eq]
  generalize (lg_sl ([.ref a_t, .long x1, .int x3]) ++ List.replicate (6 - (lg_sl ([.ref a_t, .long x1, .int x3])).length) Slot.unset).toArray = ls at hl ⊢
  have hl : lv_has ls 6 [(0, .ref a_t), (1, .long x1), (3, .int x3)] := hl
  unfold wX9_floors at h
  refine lv_lload_n hx hb dX9_floors_0 rfl (lv_at hl 1 rfl) ?_
  refine cPi (As := [.long x1]) (rest := []) ⟨hx, hb, hml, hown, hts⟩ (mX9_isPower l x1 _ h) (va_cwS 1 hts (gS q_962 q_963 q_8 q_964) rfl rfl rfl (by decide +kernel) ⟨Nat.le_of_ble_eq_true rfl, Nat.le_of_ble_eq_true rfl⟩) hS rfl hl.1 rfl (Nat.le_of_ble_eq_true rfl) dX9_floors_1 ⟨Nat.le_of_ble_eq_true rfl, Nat.le_of_ble_eq_true rfl⟩ (fun r_1 H1 locs h hk1 hS => ?_)
  have hP := s_back hP hk1
  try dsimp only at h
  refine lv_if_eq (tgt := 18) hx hb dX9_floors_4 (by decide) (fun c9 => ?_) (fun c9 => ?_)
  · have h := h.1 c9
    refine lv_aload_n hx hb dX9_floors_18 rfl (lv_at hl 0 rfl) ?_
    refine lv_iconst (v := 2) hx hb dX9_floors_19 (by decide) ?_
    refine lv_iconst (v := 0) hx hb dX9_floors_20 (by decide) ?_
    refine lv_iload_n hx hb dX9_floors_21 rfl (lv_at hl 2 rfl) ?_
    refine lv_iconst (v := 1) hx hb dX9_floors_22 (by decide) ?_
    refine lv_isub hx hb dX9_floors_23 ?_
    refine cVi (As := [.int 2, .int 0, .int (x3 - 1)]) (rest := []) (wc := [(a_t, .inr (7, [.ref a_t_v, .ref a_t_past, .ref a_t_costs, .int t_edits, .int t_thrown, .ref a_t_into, .ref a_t_isNeeded, .ref a_t_depths, .ref a_t_names, .ref a_t_out, .int t_outs, .ref a_t_has])), (a_t_v, .inl (ca 0, 206, .inl f_t_v))]) (wr := []) (w1 := fun u : (Nat → Int32) => [(a_t, .inr (7, [.ref a_t_v, .ref a_t_past, .ref a_t_costs, .int t_edits, .int t_thrown, .ref a_t_into, .ref a_t_isNeeded, .ref a_t_depths, .ref a_t_names, .ref a_t_out, .int t_outs, .ref a_t_has])), (a_t_v, .inl (ca 0, 206, .inl u))]) (ws2 := fun u : (Nat → Int32) => [(a_t, .inr (7, [.ref a_t_v, .ref a_t_past, .ref a_t_costs, .int t_edits, .int t_thrown, .ref a_t_into, .ref a_t_isNeeded, .ref a_t_depths, .ref a_t_names, .ref a_t_out, .int t_outs, .ref a_t_has])), (a_t_v, .inl (ca 0, 206, .inl u))]) ⟨hx, hb, hml, hown, hts⟩ (mX9_shifts l D ca a_t a_t_v a_t_past a_t_costs a_t_into a_t_isNeeded a_t_depths a_t_names a_t_out a_t_has _ t_edits t_thrown t_outs f_t_v 2 0 (x3 - 1) _ h) (cwV 3 hts (gV q_1034 q_1036 qs_45 q_8 q_1037) rfl rfl rfl (by decide +kernel) ⟨Nat.le_of_ble_eq_true rfl, Nat.le_of_ble_eq_true rfl⟩) hK hP hD hS hA [0, 1] [] [0, 1] rfl rfl rfl (by decide) (fun _ => rfl) (ci := 7) (q0 := 0) rfl rfl rfl hl.1 rfl (Nat.le_of_ble_eq_true rfl) dX9_floors_24 ⟨Nat.le_of_ble_eq_true rfl, Nat.le_of_ble_eq_true rfl⟩ (fun r_24 u9 H locs h hP hD hS => ?_)
    obtain ⟨f_t_v_24, rfl⟩ : ∃ z, z = u9 := ⟨_, rfl⟩
    have hP : va_P D vwCl [(a_t, .inr (7, [.ref a_t_v, .ref a_t_past, .ref a_t_costs, .int t_edits, .int t_thrown, .ref a_t_into, .ref a_t_isNeeded, .ref a_t_depths, .ref a_t_names, .ref a_t_out, .int t_outs, .ref a_t_has])), (a_t_v, .inl (ca 0, 206, .inl f_t_v_24))] H := hP
    have hD : va_D A [(a_t, .inr (7, [.ref a_t_v, .ref a_t_past, .ref a_t_costs, .int t_edits, .int t_thrown, .ref a_t_into, .ref a_t_isNeeded, .ref a_t_depths, .ref a_t_names, .ref a_t_out, .int t_outs, .ref a_t_has])), (a_t_v, .inl (ca 0, 206, .inl f_t_v_24))] := hD
    try dsimp only at h
    refine lv_istore (lv' := [(4, .int r_24), (0, .ref a_t), (1, .long x1), (3, .int x3)]) hx hb dX9_floors_27 hl (by decide) rfl (fun ls hl => ?_)
    refine lv_aload_n hx hb dX9_floors_29 rfl (lv_at hl 1 rfl) ?_
    refine lv_aload_n hx hb dX9_floors_30 rfl (lv_at hl 1 rfl) ?_
    refine lv_bipush (v := 9) hx hb dX9_floors_31 (by decide) ?_
    refine lv_iconst (v := 0) hx hb dX9_floors_33 (by decide) ?_
    refine lv_iload hx hb dX9_floors_34 (lv_at hl 0 rfl) ?_
    refine cVi (As := [.int 9, .int 0, .int r_24]) (rest := [.ref a_t]) (wc := [(a_t, .inr (7, [.ref a_t_v, .ref a_t_past, .ref a_t_costs, .int t_edits, .int t_thrown, .ref a_t_into, .ref a_t_isNeeded, .ref a_t_depths, .ref a_t_names, .ref a_t_out, .int t_outs, .ref a_t_has])), (a_t_v, .inl (ca 0, 206, .inl f_t_v_24))]) (wr := []) (w1 := fun u : (Nat → Int32) => [(a_t, .inr (7, [.ref a_t_v, .ref a_t_past, .ref a_t_costs, .int t_edits, .int t_thrown, .ref a_t_into, .ref a_t_isNeeded, .ref a_t_depths, .ref a_t_names, .ref a_t_out, .int t_outs, .ref a_t_has])), (a_t_v, .inl (ca 0, 206, .inl u))]) (ws2 := fun u : (Nat → Int32) => [(a_t, .inr (7, [.ref a_t_v, .ref a_t_past, .ref a_t_costs, .int t_edits, .int t_thrown, .ref a_t_into, .ref a_t_isNeeded, .ref a_t_depths, .ref a_t_names, .ref a_t_out, .int t_outs, .ref a_t_has])), (a_t_v, .inl (ca 0, 206, .inl u))]) ⟨hx, hb, hml, hown, hts⟩ (mX9_both l D ca a_t a_t_v a_t_past a_t_costs a_t_into a_t_isNeeded a_t_depths a_t_names a_t_out a_t_has _ t_edits t_thrown t_outs f_t_v_24 9 0 r_24 _ h) (cwV 3 hts (gV q_1046 q_1048 qs_48 q_8 q_1049) rfl rfl rfl (by decide +kernel) ⟨Nat.le_of_ble_eq_true rfl, Nat.le_of_ble_eq_true rfl⟩) hK hP hD hS hA [0, 1] [] [0, 1] rfl rfl rfl (by decide) (fun _ => rfl) (ci := 7) (q0 := 0) rfl rfl rfl hl.1 rfl (Nat.le_of_ble_eq_true rfl) dX9_floors_36 ⟨Nat.le_of_ble_eq_true rfl, Nat.le_of_ble_eq_true rfl⟩ (fun r_36 u9 H locs h hP hD hS => ?_)
    obtain ⟨f_t_v_36, rfl⟩ : ∃ z, z = u9 := ⟨_, rfl⟩
    have hP : va_P D vwCl [(a_t, .inr (7, [.ref a_t_v, .ref a_t_past, .ref a_t_costs, .int t_edits, .int t_thrown, .ref a_t_into, .ref a_t_isNeeded, .ref a_t_depths, .ref a_t_names, .ref a_t_out, .int t_outs, .ref a_t_has])), (a_t_v, .inl (ca 0, 206, .inl f_t_v_36))] H := hP
    have hD : va_D A [(a_t, .inr (7, [.ref a_t_v, .ref a_t_past, .ref a_t_costs, .int t_edits, .int t_thrown, .ref a_t_into, .ref a_t_isNeeded, .ref a_t_depths, .ref a_t_names, .ref a_t_out, .int t_outs, .ref a_t_has])), (a_t_v, .inl (ca 0, 206, .inl f_t_v_36))] := hD
    try dsimp only at h
    refine lv_lload_n hx hb dX9_floors_39 rfl (lv_at hl 2 rfl) ?_
    refine cVi (As := [.int r_36, .long x1]) (rest := []) (wc := [(a_t, .inr (7, [.ref a_t_v, .ref a_t_past, .ref a_t_costs, .int t_edits, .int t_thrown, .ref a_t_into, .ref a_t_isNeeded, .ref a_t_depths, .ref a_t_names, .ref a_t_out, .int t_outs, .ref a_t_has])), (a_t_v, .inl (ca 0, 206, .inl f_t_v_36))]) (wr := []) (w1 := fun u : (Nat → Int32) => [(a_t, .inr (7, [.ref a_t_v, .ref a_t_past, .ref a_t_costs, .int t_edits, .int t_thrown, .ref a_t_into, .ref a_t_isNeeded, .ref a_t_depths, .ref a_t_names, .ref a_t_out, .int t_outs, .ref a_t_has])), (a_t_v, .inl (ca 0, 206, .inl u))]) (ws2 := fun u : (Nat → Int32) => [(a_t, .inr (7, [.ref a_t_v, .ref a_t_past, .ref a_t_costs, .int t_edits, .int t_thrown, .ref a_t_into, .ref a_t_isNeeded, .ref a_t_depths, .ref a_t_names, .ref a_t_out, .int t_outs, .ref a_t_has])), (a_t_v, .inl (ca 0, 206, .inl u))]) ⟨hx, hb, hml, hown, hts⟩ (mX9_quotient l D ca a_t a_t_v a_t_past a_t_costs a_t_into a_t_isNeeded a_t_depths a_t_names a_t_out a_t_has _ t_edits t_thrown t_outs f_t_v_36 r_36 x1 _ h) (cwV 2 hts (gV q_1030 q_1032 qs_44 q_8 q_1033) rfl rfl rfl (by decide +kernel) ⟨Nat.le_of_ble_eq_true rfl, Nat.le_of_ble_eq_true rfl⟩) hK hP hD hS hA [0, 1] [] [0, 1] rfl rfl rfl (by decide) (fun _ => rfl) (ci := 7) (q0 := 0) rfl rfl rfl hl.1 rfl (Nat.le_of_ble_eq_true rfl) dX9_floors_40 ⟨Nat.le_of_ble_eq_true rfl, Nat.le_of_ble_eq_true rfl⟩ (fun r_40 u9 H locs h hP hD hS => ?_)
    obtain ⟨f_t_v_40, rfl⟩ : ∃ z, z = u9 := ⟨_, rfl⟩
    have hP : va_P D vwCl [(a_t, .inr (7, [.ref a_t_v, .ref a_t_past, .ref a_t_costs, .int t_edits, .int t_thrown, .ref a_t_into, .ref a_t_isNeeded, .ref a_t_depths, .ref a_t_names, .ref a_t_out, .int t_outs, .ref a_t_has])), (a_t_v, .inl (ca 0, 206, .inl f_t_v_40))] H := hP
    have hD : va_D A [(a_t, .inr (7, [.ref a_t_v, .ref a_t_past, .ref a_t_costs, .int t_edits, .int t_thrown, .ref a_t_into, .ref a_t_isNeeded, .ref a_t_depths, .ref a_t_names, .ref a_t_out, .int t_outs, .ref a_t_has])), (a_t_v, .inl (ca 0, 206, .inl f_t_v_40))] := hD
    try dsimp only at h
    refine lv_istore (lv' := [(5, .int r_40), (4, .int r_24), (0, .ref a_t), (1, .long x1), (3, .int x3)]) hx hb dX9_floors_43 hl (by decide) rfl (fun ls hl => ?_)
    refine lv_aload_n hx hb dX9_floors_45 rfl (lv_at hl 2 rfl) ?_
    refine lv_bipush (v := 9) hx hb dX9_floors_46 (by decide) ?_
    refine lv_iload hx hb dX9_floors_48 (lv_at hl 0 rfl) ?_
    refine lv_iload hx hb dX9_floors_50 (lv_at hl 1 rfl) ?_
    refine cVi (As := [.int 9, .int r_40, .int r_24]) (rest := []) (wc := [(a_t, .inr (7, [.ref a_t_v, .ref a_t_past, .ref a_t_costs, .int t_edits, .int t_thrown, .ref a_t_into, .ref a_t_isNeeded, .ref a_t_depths, .ref a_t_names, .ref a_t_out, .int t_outs, .ref a_t_has])), (a_t_v, .inl (ca 0, 206, .inl f_t_v_40))]) (wr := []) (w1 := fun u : (Nat → Int32) => [(a_t, .inr (7, [.ref a_t_v, .ref a_t_past, .ref a_t_costs, .int t_edits, .int t_thrown, .ref a_t_into, .ref a_t_isNeeded, .ref a_t_depths, .ref a_t_names, .ref a_t_out, .int t_outs, .ref a_t_has])), (a_t_v, .inl (ca 0, 206, .inl u))]) (ws2 := fun u : (Nat → Int32) => [(a_t, .inr (7, [.ref a_t_v, .ref a_t_past, .ref a_t_costs, .int t_edits, .int t_thrown, .ref a_t_into, .ref a_t_isNeeded, .ref a_t_depths, .ref a_t_names, .ref a_t_out, .int t_outs, .ref a_t_has])), (a_t_v, .inl (ca 0, 206, .inl u))]) ⟨hx, hb, hml, hown, hts⟩ (mX9_both l D ca a_t a_t_v a_t_past a_t_costs a_t_into a_t_isNeeded a_t_depths a_t_names a_t_out a_t_has _ t_edits t_thrown t_outs f_t_v_40 9 r_40 r_24 _ h) (cwV 3 hts (gV q_1046 q_1048 qs_48 q_8 q_1049) rfl rfl rfl (by decide +kernel) ⟨Nat.le_of_ble_eq_true rfl, Nat.le_of_ble_eq_true rfl⟩) hK hP hD hS hA [0, 1] [] [0, 1] rfl rfl rfl (by decide) (fun _ => rfl) (ci := 7) (q0 := 0) rfl rfl rfl hl.1 rfl (Nat.le_of_ble_eq_true rfl) dX9_floors_52 ⟨Nat.le_of_ble_eq_true rfl, Nat.le_of_ble_eq_true rfl⟩ (fun r_52 u9 H locs h hP hD hS => ?_)
    obtain ⟨f_t_v_52, rfl⟩ : ∃ z, z = u9 := ⟨_, rfl⟩
    have hP : va_P D vwCl [(a_t, .inr (7, [.ref a_t_v, .ref a_t_past, .ref a_t_costs, .int t_edits, .int t_thrown, .ref a_t_into, .ref a_t_isNeeded, .ref a_t_depths, .ref a_t_names, .ref a_t_out, .int t_outs, .ref a_t_has])), (a_t_v, .inl (ca 0, 206, .inl f_t_v_52))] H := hP
    have hD : va_D A [(a_t, .inr (7, [.ref a_t_v, .ref a_t_past, .ref a_t_costs, .int t_edits, .int t_thrown, .ref a_t_into, .ref a_t_isNeeded, .ref a_t_depths, .ref a_t_names, .ref a_t_out, .int t_outs, .ref a_t_has])), (a_t_v, .inl (ca 0, 206, .inl f_t_v_52))] := hD
    try dsimp only at h
    exact W.iret (v := r_52) hx hb hr (fun t ht hW => ⟨⟨r_52, f_t_v_52, rfl, h, by rw [ht]; exact hP, va_K.moved hW.alike hK, hD⟩, hS.F ht⟩) hS.2.2 dX9_floors_55
  · have h := h.2 c9
    refine lv_aload_n hx hb dX9_floors_7 rfl (lv_at hl 0 rfl) ?_
    refine lv_iconst (v := 2) hx hb dX9_floors_8 (by decide) ?_
    refine lv_iconst (v := 0) hx hb dX9_floors_9 (by decide) ?_
    refine lv_lload_n hx hb dX9_floors_10 rfl (lv_at hl 1 rfl) ?_
    refine cPi (As := [.long x1]) (rest := [.int 0, .int 2, .ref a_t]) ⟨hx, hb, hml, hown, hts⟩ (mX9_twos l x1 _ h) (va_cwS 1 hts (gS q_980 q_981 q_8 q_982) rfl rfl rfl (by decide +kernel) ⟨Nat.le_of_ble_eq_true rfl, Nat.le_of_ble_eq_true rfl⟩) hS rfl hl.1 rfl (Nat.le_of_ble_eq_true rfl) dX9_floors_11 ⟨Nat.le_of_ble_eq_true rfl, Nat.le_of_ble_eq_true rfl⟩ (fun r_11 H1 locs h hk1 hS => ?_)
    have hP := s_back hP hk1
    try dsimp only at h
    refine cVi (As := [.int 2, .int 0, .int r_11]) (rest := []) (wc := [(a_t, .inr (7, [.ref a_t_v, .ref a_t_past, .ref a_t_costs, .int t_edits, .int t_thrown, .ref a_t_into, .ref a_t_isNeeded, .ref a_t_depths, .ref a_t_names, .ref a_t_out, .int t_outs, .ref a_t_has])), (a_t_v, .inl (ca 0, 206, .inl f_t_v))]) (wr := []) (w1 := fun u : (Nat → Int32) => [(a_t, .inr (7, [.ref a_t_v, .ref a_t_past, .ref a_t_costs, .int t_edits, .int t_thrown, .ref a_t_into, .ref a_t_isNeeded, .ref a_t_depths, .ref a_t_names, .ref a_t_out, .int t_outs, .ref a_t_has])), (a_t_v, .inl (ca 0, 206, .inl u))]) (ws2 := fun u : (Nat → Int32) => [(a_t, .inr (7, [.ref a_t_v, .ref a_t_past, .ref a_t_costs, .int t_edits, .int t_thrown, .ref a_t_into, .ref a_t_isNeeded, .ref a_t_depths, .ref a_t_names, .ref a_t_out, .int t_outs, .ref a_t_has])), (a_t_v, .inl (ca 0, 206, .inl u))]) ⟨hx, hb, hml, hown, hts⟩ (mX9_shifts l D ca a_t a_t_v a_t_past a_t_costs a_t_into a_t_isNeeded a_t_depths a_t_names a_t_out a_t_has _ t_edits t_thrown t_outs f_t_v 2 0 r_11 _ h) (cwV 3 hts (gV q_1034 q_1036 qs_45 q_8 q_1037) rfl rfl rfl (by decide +kernel) ⟨Nat.le_of_ble_eq_true rfl, Nat.le_of_ble_eq_true rfl⟩) hK hP hD hS hA [0, 1] [] [0, 1] rfl rfl rfl (by decide) (fun _ => rfl) (ci := 7) (q0 := 0) rfl rfl rfl hl.1 rfl (Nat.le_of_ble_eq_true rfl) dX9_floors_14 ⟨Nat.le_of_ble_eq_true rfl, Nat.le_of_ble_eq_true rfl⟩ (fun r_14 u9 H locs h hP hD hS => ?_)
    obtain ⟨f_t_v_14, rfl⟩ : ∃ z, z = u9 := ⟨_, rfl⟩
    have hP : va_P D vwCl [(a_t, .inr (7, [.ref a_t_v, .ref a_t_past, .ref a_t_costs, .int t_edits, .int t_thrown, .ref a_t_into, .ref a_t_isNeeded, .ref a_t_depths, .ref a_t_names, .ref a_t_out, .int t_outs, .ref a_t_has])), (a_t_v, .inl (ca 0, 206, .inl f_t_v_14))] H := hP
    have hD : va_D A [(a_t, .inr (7, [.ref a_t_v, .ref a_t_past, .ref a_t_costs, .int t_edits, .int t_thrown, .ref a_t_into, .ref a_t_isNeeded, .ref a_t_depths, .ref a_t_names, .ref a_t_out, .int t_outs, .ref a_t_has])), (a_t_v, .inl (ca 0, 206, .inl f_t_v_14))] := hD
    try dsimp only at h
    exact W.iret (v := r_14) hx hb hr (fun t ht hW => ⟨⟨r_14, f_t_v_14, rfl, h, by rw [ht]; exact hP, va_K.moved hW.alike hK, hD⟩, hS.F ht⟩) hS.2.2 dX9_floors_17

abbrev qX9_writesKind (D : va_G) (ca : Nat → ClassId) (a_t a_t_v a_t_past a_t_costs a_t_into a_t_isNeeded a_t_depths a_t_names a_t_out a_t_has : Nat) (t_edits : Int32) (t_thrown : Int32) (t_outs : Int32) (f_t_costs : Nat → Int32) (Q : Int32 → (Nat → Int32) → Prop) (A : Nat → Prop) : Array Value → State → Outcome → State → Prop := va_Qi (fun (r : Int32) (u : (Nat → Int32)) => Q r u) (wEnd D ca (fun u : (Nat → Int32) => [(a_t, .inr (7, [.ref a_t_v, .ref a_t_past, .ref a_t_costs, .int t_edits, .int t_thrown, .ref a_t_into, .ref a_t_isNeeded, .ref a_t_depths, .ref a_t_names, .ref a_t_out, .int t_outs, .ref a_t_has])), (a_t_v, .inl (ca 0, 206, .inl u)), (a_t_costs, .inl (ca 0, 3, .inl f_t_costs))]) A) A
def wX9_writesKind (f_t_v : Nat → Int32) (f_t_costs : Nat → Int32) (x1 : Int32) (x2 : Int64) (Q : Int32 → (Nat → Int32) → Prop) : Prop :=
  (vp_in 0 206 ∧ (∀ x4_6 : Int32, x4_6 = f_t_v (0 : Int32).toNatClampNeg → ((x1 = 0 → wX9_quotient f_t_v 0 x2 (fun r_55 f_t_v_55 => Q r_55 f_t_v_55)) ∧ (¬ (x1 = 0) → ((x1 = 1 → wX9_isPower x2 (fun r_60 => ((r_60 = 0 → wX9_quotient f_t_v 0 x2 (fun r_86 f_t_v_86 => wX9_product f_t_v_86 f_t_costs r_86 x2 (fun r_90 f_t_v_90 => wX9_both f_t_v_90 4 0 r_90 (fun r_93 f_t_v_93 => Q r_93 f_t_v_93)))) ∧ (¬ r_60 = 0 → wX9_constant f_t_v 8 0 (x2 - 1) (fun r_73 f_t_v_73 => Q r_73 f_t_v_73))))) ∧ (¬ (x1 = 1) → ((x1 = 2 → wX9_signedQuotient f_t_v x2 (fun r_99 f_t_v_99 => Q r_99 f_t_v_99)) ∧ (¬ (x1 = 2) → ((x1 = 3 → wX9_signedQuotient f_t_v x2 (fun r_109 f_t_v_109 => wX9_value f_t_v_109 x2 (fun r_114 => wX9_product f_t_v_109 f_t_costs r_109 r_114 (fun r_117 f_t_v_117 => wX9_both f_t_v_117 4 0 r_117 (fun r_120 f_t_v_120 => Q r_120 f_t_v_120))))) ∧ (¬ (x1 = 3) → ((x1 = 4 → wX9_floors f_t_v x2 x4_6 (fun r_128 f_t_v_128 => Q r_128 f_t_v_128)) ∧ (¬ (x1 = 4) → ((x1 = 5 → wX9_twos x2 (fun r_137 => wX9_shifts f_t_v 1 0 r_137 (fun r_140 f_t_v_140 => wX9_twos x2 (fun r_146 => wX9_inverseOf f_t_v_140 (x2 >>> (r_146.toInt64 &&& 63)) (fun r_150 => wX9_product f_t_v_140 f_t_costs r_140 r_150 (fun r_153 f_t_v_153 => Q r_153 f_t_v_153)))))) ∧ (¬ (x1 = 5) → ((x1 = 6 → wX9_twos x2 (fun r_168 => wX9_inverseOf f_t_v (x2 >>> (r_168.toInt64 &&& 63)) (fun r_172 => wX9_product f_t_v f_t_costs 0 r_172 (fun r_175 f_t_v_175 => wX9_twos x2 (fun r_179 => wX9_shifts f_t_v_175 10 r_175 r_179 (fun r_182 f_t_v_182 => wX9_all f_t_v_182 (fun r_186 => (¬ x2 = 0 ∧ wX9_constant f_t_v_182 11 r_182 ((r_186 - 1) / x2) (fun r_193 f_t_v_193 => Q r_193 f_t_v_193))))))))) ∧ (¬ (x1 = 6) → wX9_product f_t_v f_t_costs 0 x2 (fun r_200 f_t_v_200 => Q r_200 f_t_v_200)))))))))))))))))
set_option maxHeartbeats 4000000 in
set_option maxRecDepth 100000 in
theorem mX9_writesKind (l : Launch) (D : va_G) (ca : Nat → ClassId) (a_t a_t_v a_t_past a_t_costs a_t_into a_t_isNeeded a_t_depths a_t_names a_t_out a_t_has : Nat) (sz : Nat) (t_edits : Int32) (t_thrown : Int32) (t_outs : Int32) (f_t_v : Nat → Int32) (f_t_costs : Nat → Int32) (x1 : Int32) (x2 : Int64) (Q : Int32 → (Nat → Int32) → Prop) (h : wX9_writesKind f_t_v f_t_costs x1 x2 Q) : Met l yX9_writesKind (Cond.code yX9_writesKind cX9_writesKind 5 (some .int) :: wsG) ({ frames := 4, cells := 0, slots := 0, locals := 115 } : Room) (va_Pc [.ref a_t, .int x1, .long x2] (wPre D ca [(a_t, .inr (7, [.ref a_t_v, .ref a_t_past, .ref a_t_costs, .int t_edits, .int t_thrown, .ref a_t_into, .ref a_t_isNeeded, .ref a_t_depths, .ref a_t_names, .ref a_t_out, .int t_outs, .ref a_t_has])), (a_t_v, .inl (ca 0, 206, .inl f_t_v)), (a_t_costs, .inl (ca 0, 3, .inl f_t_costs))] sz)) (qX9_writesKind D ca a_t a_t_v a_t_past a_t_costs a_t_into a_t_isNeeded a_t_depths a_t_names a_t_out a_t_has t_edits t_thrown t_outs f_t_costs Q (va_A [(a_t, .inr (7, [.ref a_t_v, .ref a_t_past, .ref a_t_costs, .int t_edits, .int t_thrown, .ref a_t_into, .ref a_t_isNeeded, .ref a_t_depths, .ref a_t_names, .ref a_t_out, .int t_outs, .ref a_t_has])), (a_t_v, .inl (ca 0, 206, .inl f_t_v)), (a_t_costs, .inl (ca 0, 3, .inl f_t_costs))] sz)) 0 0 (va_A [(a_t, .inr (7, [.ref a_t_v, .ref a_t_past, .ref a_t_costs, .int t_edits, .int t_thrown, .ref a_t_into, .ref a_t_isNeeded, .ref a_t_depths, .ref a_t_names, .ref a_t_out, .int t_outs, .ref a_t_has])), (a_t_v, .inl (ca 0, 206, .inl f_t_v)), (a_t_costs, .inl (ca 0, 3, .inl f_t_costs))] sz) := by
  refine Met.ofW (cc := cX9_writesKind) (maxL := 5) (ret := (some .int)) (by decide) rfl ?_
  intro p e s m args below meth c s₁ B hml hv
  obtain ⟨rfl, hsz, hP, hK, hD0⟩ := hv
  have hx := B.exec
  have hb := B.bytes
  have hr := B.returns
  have hts := atoms_spec (ws := (Cond.code yX9_writesKind cX9_writesKind 5 (some .int) :: wsG)) B.pre
  have hq : ∀ w ∈ wsG, w.before _ s = true := fun w hw => hts w (List.mem_cons_of_mem _ hw)
  have hown : s.vm.findClass RX9 = some m.cls := findClass_of_methodNamed B.named
  have hlocks := B.notSynchronized
  subst hsz
  have hD := hD0.self (sz := s.heap.size)
  generalize hAe : va_A [(a_t, .inr (7, [.ref a_t_v, .ref a_t_past, .ref a_t_costs, .int t_edits, .int t_thrown, .ref a_t_into, .ref a_t_isNeeded, .ref a_t_depths, .ref a_t_names, .ref a_t_out, .int t_outs, .ref a_t_has])), (a_t_v, .inl (ca 0, 206, .inl f_t_v)), (a_t_costs, .inl (ca 0, 3, .inl f_t_costs))] s.heap.size = A at hD ⊢
  have hA : ∀ q : Nat, s.heap.size ≤ q → A q := fun q h => by rw [← hAe]; exact Or.inr h
  have hS : va_S A s.heap s.heap [] := va_S.rf
  have hP : va_P D vwCl [(a_t, .inr (7, [.ref a_t_v, .ref a_t_past, .ref a_t_costs, .int t_edits, .int t_thrown, .ref a_t_into, .ref a_t_isNeeded, .ref a_t_depths, .ref a_t_names, .ref a_t_out, .int t_outs, .ref a_t_has])), (a_t_v, .inl (ca 0, 206, .inl f_t_v)), (a_t_costs, .inl (ca 0, 3, .inl f_t_costs))] s.heap := hP
  have hl := lv_entry ([.ref a_t, .int x1, .long x2]) (n := 5) (Nat.le_of_ble_eq_true rfl)
  rw [lg_entry_eq]
  generalize (lg_sl ([.ref a_t, .int x1, .long x2]) ++ List.replicate (5 - (lg_sl ([.ref a_t, .int x1, .long x2])).length) Slot.unset).toArray = ls at hl ⊢
  have hl : lv_has ls 5 [(0, .ref a_t), (1, .int x1), (2, .long x2)] := hl
  unfold wX9_writesKind at h
  refine lv_aload_n hx hb dX9_writesKind_0 rfl (lv_at hl 0 rfl) ?_
  refine va_get (D := D) (ci := 7) (v := .ref a_t_v) (C := RX9) (T := TX9) (N := 12) hx hb hq inX9g hown hK hP 0 rfl rfl 0 (by decide) (hq _ q_881) (fun _ h9 => h9) rfl dX9_writesKind_1 ?_
  refine lv_iconst (v := 0) hx hb dX9_writesKind_4 (by decide) ?_
  obtain ⟨hi9, h⟩ := h
  refine va_iald hx hb hK hP 1 0 rfl rfl hi9 dX9_writesKind_5 ?_
  refine lv_topi (fun x4_6 ex4_6 => ?_)
  have h := h x4_6 ex4_6
  refine lv_istore (lv' := [(4, .int x4_6), (0, .ref a_t), (1, .int x1), (2, .long x2)]) hx hb dX9_writesKind_6 hl (by decide) rfl (fun ls hl => ?_)
  refine lv_iload_n hx hb dX9_writesKind_8 rfl (lv_at hl 2 rfl) ?_
  by_cases c9 : x1 = 0
  · have h := h.1 c9
    refine lv_tableIn (tgt := 52) hx hb dX9_writesKind_9 (by rw [c9]; decide) (by rw [c9]; decide) (off := 43) (by rw [c9]; decide) (by decide) ?_
    refine lv_aload_n hx hb dX9_writesKind_52 rfl (lv_at hl 1 rfl) ?_
    refine lv_iconst (v := 0) hx hb dX9_writesKind_53 (by decide) ?_
    refine lv_lload_n hx hb dX9_writesKind_54 rfl (lv_at hl 3 rfl) ?_
    refine cVi (As := [.int 0, .long x2]) (rest := []) (wc := [(a_t, .inr (7, [.ref a_t_v, .ref a_t_past, .ref a_t_costs, .int t_edits, .int t_thrown, .ref a_t_into, .ref a_t_isNeeded, .ref a_t_depths, .ref a_t_names, .ref a_t_out, .int t_outs, .ref a_t_has])), (a_t_v, .inl (ca 0, 206, .inl f_t_v))]) (wr := [(a_t_costs, .inl (ca 0, 3, .inl f_t_costs))]) (w1 := fun u : (Nat → Int32) => [(a_t, .inr (7, [.ref a_t_v, .ref a_t_past, .ref a_t_costs, .int t_edits, .int t_thrown, .ref a_t_into, .ref a_t_isNeeded, .ref a_t_depths, .ref a_t_names, .ref a_t_out, .int t_outs, .ref a_t_has])), (a_t_v, .inl (ca 0, 206, .inl u))]) (ws2 := fun u : (Nat → Int32) => [(a_t, .inr (7, [.ref a_t_v, .ref a_t_past, .ref a_t_costs, .int t_edits, .int t_thrown, .ref a_t_into, .ref a_t_isNeeded, .ref a_t_depths, .ref a_t_names, .ref a_t_out, .int t_outs, .ref a_t_has])), (a_t_v, .inl (ca 0, 206, .inl u)), (a_t_costs, .inl (ca 0, 3, .inl f_t_costs))]) ⟨hx, hb, hml, hown, hts⟩ (mX9_quotient l D ca a_t a_t_v a_t_past a_t_costs a_t_into a_t_isNeeded a_t_depths a_t_names a_t_out a_t_has _ t_edits t_thrown t_outs f_t_v 0 x2 _ h) (cwV 2 hts (gV q_1030 q_1032 qs_44 q_8 q_1033) rfl rfl rfl (by decide +kernel) ⟨Nat.le_of_ble_eq_true rfl, Nat.le_of_ble_eq_true rfl⟩) hK hP hD hS hA [0, 1] [2] [1, 2, 0] rfl rfl rfl (by decide) (fun _ => rfl) (ci := 7) (q0 := 0) rfl rfl rfl hl.1 rfl (Nat.le_of_ble_eq_true rfl) dX9_writesKind_55 ⟨Nat.le_of_ble_eq_true rfl, Nat.le_of_ble_eq_true rfl⟩ (fun r_55 u9 H locs h hP hD hS => ?_)
    obtain ⟨f_t_v_55, rfl⟩ : ∃ z, z = u9 := ⟨_, rfl⟩
    have hP : va_P D vwCl [(a_t, .inr (7, [.ref a_t_v, .ref a_t_past, .ref a_t_costs, .int t_edits, .int t_thrown, .ref a_t_into, .ref a_t_isNeeded, .ref a_t_depths, .ref a_t_names, .ref a_t_out, .int t_outs, .ref a_t_has])), (a_t_v, .inl (ca 0, 206, .inl f_t_v_55)), (a_t_costs, .inl (ca 0, 3, .inl f_t_costs))] H := hP
    have hD : va_D A [(a_t, .inr (7, [.ref a_t_v, .ref a_t_past, .ref a_t_costs, .int t_edits, .int t_thrown, .ref a_t_into, .ref a_t_isNeeded, .ref a_t_depths, .ref a_t_names, .ref a_t_out, .int t_outs, .ref a_t_has])), (a_t_v, .inl (ca 0, 206, .inl f_t_v_55)), (a_t_costs, .inl (ca 0, 3, .inl f_t_costs))] := hD
    try dsimp only at h
    exact W.iret (v := r_55) hx hb hr (fun t ht hW => ⟨⟨r_55, f_t_v_55, rfl, h, by rw [ht]; exact hP, va_K.moved hW.alike hK, hD⟩, hS.F ht⟩) hS.2.2 dX9_writesKind_58
  have h := h.2 c9
  have cs_0 := c9
  by_cases c9 : x1 = 1
  · have h := h.1 c9
    refine lv_tableIn (tgt := 59) hx hb dX9_writesKind_9 (by rw [c9]; decide) (by rw [c9]; decide) (off := 50) (by rw [c9]; decide) (by decide) ?_
    refine lv_lload_n hx hb dX9_writesKind_59 rfl (lv_at hl 3 rfl) ?_
    refine cPi (As := [.long x2]) (rest := []) ⟨hx, hb, hml, hown, hts⟩ (mX9_isPower l x2 _ h) (va_cwS 1 hts (gS q_962 q_963 q_8 q_964) rfl rfl rfl (by decide +kernel) ⟨Nat.le_of_ble_eq_true rfl, Nat.le_of_ble_eq_true rfl⟩) hS rfl hl.1 rfl (Nat.le_of_ble_eq_true rfl) dX9_writesKind_60 ⟨Nat.le_of_ble_eq_true rfl, Nat.le_of_ble_eq_true rfl⟩ (fun r_60 H1 locs h hk1 hS => ?_)
    have hP := s_back hP hk1
    try dsimp only at h
    refine lv_if_eq (tgt := 79) hx hb dX9_writesKind_63 (by decide) (fun c9 => ?_) (fun c9 => ?_)
    · have h := h.1 c9
      refine lv_aload_n hx hb dX9_writesKind_79 rfl (lv_at hl 1 rfl) ?_
      refine lv_iconst (v := 4) hx hb dX9_writesKind_80 (by decide) ?_
      refine lv_iconst (v := 0) hx hb dX9_writesKind_81 (by decide) ?_
      refine lv_aload_n hx hb dX9_writesKind_82 rfl (lv_at hl 1 rfl) ?_
      refine lv_aload_n hx hb dX9_writesKind_83 rfl (lv_at hl 1 rfl) ?_
      refine lv_iconst (v := 0) hx hb dX9_writesKind_84 (by decide) ?_
      refine lv_lload_n hx hb dX9_writesKind_85 rfl (lv_at hl 3 rfl) ?_
      refine cVi (As := [.int 0, .long x2]) (rest := [.ref a_t, .int 0, .int 4, .ref a_t]) (wc := [(a_t, .inr (7, [.ref a_t_v, .ref a_t_past, .ref a_t_costs, .int t_edits, .int t_thrown, .ref a_t_into, .ref a_t_isNeeded, .ref a_t_depths, .ref a_t_names, .ref a_t_out, .int t_outs, .ref a_t_has])), (a_t_v, .inl (ca 0, 206, .inl f_t_v))]) (wr := [(a_t_costs, .inl (ca 0, 3, .inl f_t_costs))]) (w1 := fun u : (Nat → Int32) => [(a_t, .inr (7, [.ref a_t_v, .ref a_t_past, .ref a_t_costs, .int t_edits, .int t_thrown, .ref a_t_into, .ref a_t_isNeeded, .ref a_t_depths, .ref a_t_names, .ref a_t_out, .int t_outs, .ref a_t_has])), (a_t_v, .inl (ca 0, 206, .inl u))]) (ws2 := fun u : (Nat → Int32) => [(a_t, .inr (7, [.ref a_t_v, .ref a_t_past, .ref a_t_costs, .int t_edits, .int t_thrown, .ref a_t_into, .ref a_t_isNeeded, .ref a_t_depths, .ref a_t_names, .ref a_t_out, .int t_outs, .ref a_t_has])), (a_t_v, .inl (ca 0, 206, .inl u)), (a_t_costs, .inl (ca 0, 3, .inl f_t_costs))]) ⟨hx, hb, hml, hown, hts⟩ (mX9_quotient l D ca a_t a_t_v a_t_past a_t_costs a_t_into a_t_isNeeded a_t_depths a_t_names a_t_out a_t_has _ t_edits t_thrown t_outs f_t_v 0 x2 _ h) (cwV 2 hts (gV q_1030 q_1032 qs_44 q_8 q_1033) rfl rfl rfl (by decide +kernel) ⟨Nat.le_of_ble_eq_true rfl, Nat.le_of_ble_eq_true rfl⟩) hK hP hD hS hA [0, 1] [2] [1, 2, 0] rfl rfl rfl (by decide) (fun _ => rfl) (ci := 7) (q0 := 0) rfl rfl rfl hl.1 rfl (Nat.le_of_ble_eq_true rfl) dX9_writesKind_86 ⟨Nat.le_of_ble_eq_true rfl, Nat.le_of_ble_eq_true rfl⟩ (fun r_86 u9 H locs h hP hD hS => ?_)
      obtain ⟨f_t_v_86, rfl⟩ : ∃ z, z = u9 := ⟨_, rfl⟩
      have hP : va_P D vwCl [(a_t, .inr (7, [.ref a_t_v, .ref a_t_past, .ref a_t_costs, .int t_edits, .int t_thrown, .ref a_t_into, .ref a_t_isNeeded, .ref a_t_depths, .ref a_t_names, .ref a_t_out, .int t_outs, .ref a_t_has])), (a_t_v, .inl (ca 0, 206, .inl f_t_v_86)), (a_t_costs, .inl (ca 0, 3, .inl f_t_costs))] H := hP
      have hD : va_D A [(a_t, .inr (7, [.ref a_t_v, .ref a_t_past, .ref a_t_costs, .int t_edits, .int t_thrown, .ref a_t_into, .ref a_t_isNeeded, .ref a_t_depths, .ref a_t_names, .ref a_t_out, .int t_outs, .ref a_t_has])), (a_t_v, .inl (ca 0, 206, .inl f_t_v_86)), (a_t_costs, .inl (ca 0, 3, .inl f_t_costs))] := hD
      try dsimp only at h
      refine lv_lload_n hx hb dX9_writesKind_89 rfl (lv_at hl 3 rfl) ?_
      refine cVi (As := [.int r_86, .long x2]) (rest := [.int 0, .int 4, .ref a_t]) (wc := [(a_t, .inr (7, [.ref a_t_v, .ref a_t_past, .ref a_t_costs, .int t_edits, .int t_thrown, .ref a_t_into, .ref a_t_isNeeded, .ref a_t_depths, .ref a_t_names, .ref a_t_out, .int t_outs, .ref a_t_has])), (a_t_v, .inl (ca 0, 206, .inl f_t_v_86)), (a_t_costs, .inl (ca 0, 3, .inl f_t_costs))]) (wr := []) (w1 := fun u : (Nat → Int32) => [(a_t, .inr (7, [.ref a_t_v, .ref a_t_past, .ref a_t_costs, .int t_edits, .int t_thrown, .ref a_t_into, .ref a_t_isNeeded, .ref a_t_depths, .ref a_t_names, .ref a_t_out, .int t_outs, .ref a_t_has])), (a_t_v, .inl (ca 0, 206, .inl u)), (a_t_costs, .inl (ca 0, 3, .inl f_t_costs))]) (ws2 := fun u : (Nat → Int32) => [(a_t, .inr (7, [.ref a_t_v, .ref a_t_past, .ref a_t_costs, .int t_edits, .int t_thrown, .ref a_t_into, .ref a_t_isNeeded, .ref a_t_depths, .ref a_t_names, .ref a_t_out, .int t_outs, .ref a_t_has])), (a_t_v, .inl (ca 0, 206, .inl u)), (a_t_costs, .inl (ca 0, 3, .inl f_t_costs))]) ⟨hx, hb, hml, hown, hts⟩ (mX9_product l D ca a_t a_t_v a_t_past a_t_costs a_t_into a_t_isNeeded a_t_depths a_t_names a_t_out a_t_has _ t_edits t_thrown t_outs f_t_v_86 f_t_costs r_86 x2 _ h) (cwV 2 hts (gV q_1050 q_1052 qs_49 q_8 q_1053) rfl rfl rfl (by decide +kernel) ⟨Nat.le_of_ble_eq_true rfl, Nat.le_of_ble_eq_true rfl⟩) hK hP hD hS hA [0, 1, 2] [] [0, 1, 2] rfl rfl rfl (by decide) (fun _ => rfl) (ci := 7) (q0 := 0) rfl rfl rfl hl.1 rfl (Nat.le_of_ble_eq_true rfl) dX9_writesKind_90 ⟨Nat.le_of_ble_eq_true rfl, Nat.le_of_ble_eq_true rfl⟩ (fun r_90 u9 H locs h hP hD hS => ?_)
      obtain ⟨f_t_v_90, rfl⟩ : ∃ z, z = u9 := ⟨_, rfl⟩
      have hP : va_P D vwCl [(a_t, .inr (7, [.ref a_t_v, .ref a_t_past, .ref a_t_costs, .int t_edits, .int t_thrown, .ref a_t_into, .ref a_t_isNeeded, .ref a_t_depths, .ref a_t_names, .ref a_t_out, .int t_outs, .ref a_t_has])), (a_t_v, .inl (ca 0, 206, .inl f_t_v_90)), (a_t_costs, .inl (ca 0, 3, .inl f_t_costs))] H := hP
      have hD : va_D A [(a_t, .inr (7, [.ref a_t_v, .ref a_t_past, .ref a_t_costs, .int t_edits, .int t_thrown, .ref a_t_into, .ref a_t_isNeeded, .ref a_t_depths, .ref a_t_names, .ref a_t_out, .int t_outs, .ref a_t_has])), (a_t_v, .inl (ca 0, 206, .inl f_t_v_90)), (a_t_costs, .inl (ca 0, 3, .inl f_t_costs))] := hD
      try dsimp only at h
      refine cVi (As := [.int 4, .int 0, .int r_90]) (rest := []) (wc := [(a_t, .inr (7, [.ref a_t_v, .ref a_t_past, .ref a_t_costs, .int t_edits, .int t_thrown, .ref a_t_into, .ref a_t_isNeeded, .ref a_t_depths, .ref a_t_names, .ref a_t_out, .int t_outs, .ref a_t_has])), (a_t_v, .inl (ca 0, 206, .inl f_t_v_90))]) (wr := [(a_t_costs, .inl (ca 0, 3, .inl f_t_costs))]) (w1 := fun u : (Nat → Int32) => [(a_t, .inr (7, [.ref a_t_v, .ref a_t_past, .ref a_t_costs, .int t_edits, .int t_thrown, .ref a_t_into, .ref a_t_isNeeded, .ref a_t_depths, .ref a_t_names, .ref a_t_out, .int t_outs, .ref a_t_has])), (a_t_v, .inl (ca 0, 206, .inl u))]) (ws2 := fun u : (Nat → Int32) => [(a_t, .inr (7, [.ref a_t_v, .ref a_t_past, .ref a_t_costs, .int t_edits, .int t_thrown, .ref a_t_into, .ref a_t_isNeeded, .ref a_t_depths, .ref a_t_names, .ref a_t_out, .int t_outs, .ref a_t_has])), (a_t_v, .inl (ca 0, 206, .inl u)), (a_t_costs, .inl (ca 0, 3, .inl f_t_costs))]) ⟨hx, hb, hml, hown, hts⟩ (mX9_both l D ca a_t a_t_v a_t_past a_t_costs a_t_into a_t_isNeeded a_t_depths a_t_names a_t_out a_t_has _ t_edits t_thrown t_outs f_t_v_90 4 0 r_90 _ h) (cwV 3 hts (gV q_1046 q_1048 qs_48 q_8 q_1049) rfl rfl rfl (by decide +kernel) ⟨Nat.le_of_ble_eq_true rfl, Nat.le_of_ble_eq_true rfl⟩) hK hP hD hS hA [0, 1] [2] [1, 2, 0] rfl rfl rfl (by decide) (fun _ => rfl) (ci := 7) (q0 := 0) rfl rfl rfl hl.1 rfl (Nat.le_of_ble_eq_true rfl) dX9_writesKind_93 ⟨Nat.le_of_ble_eq_true rfl, Nat.le_of_ble_eq_true rfl⟩ (fun r_93 u9 H locs h hP hD hS => ?_)
      obtain ⟨f_t_v_93, rfl⟩ : ∃ z, z = u9 := ⟨_, rfl⟩
      have hP : va_P D vwCl [(a_t, .inr (7, [.ref a_t_v, .ref a_t_past, .ref a_t_costs, .int t_edits, .int t_thrown, .ref a_t_into, .ref a_t_isNeeded, .ref a_t_depths, .ref a_t_names, .ref a_t_out, .int t_outs, .ref a_t_has])), (a_t_v, .inl (ca 0, 206, .inl f_t_v_93)), (a_t_costs, .inl (ca 0, 3, .inl f_t_costs))] H := hP
      have hD : va_D A [(a_t, .inr (7, [.ref a_t_v, .ref a_t_past, .ref a_t_costs, .int t_edits, .int t_thrown, .ref a_t_into, .ref a_t_isNeeded, .ref a_t_depths, .ref a_t_names, .ref a_t_out, .int t_outs, .ref a_t_has])), (a_t_v, .inl (ca 0, 206, .inl f_t_v_93)), (a_t_costs, .inl (ca 0, 3, .inl f_t_costs))] := hD
      try dsimp only at h
      exact W.iret (v := r_93) hx hb hr (fun t ht hW => ⟨⟨r_93, f_t_v_93, rfl, h, by rw [ht]; exact hP, va_K.moved hW.alike hK, hD⟩, hS.F ht⟩) hS.2.2 dX9_writesKind_96
    · have h := h.2 c9
      refine lv_aload_n hx hb dX9_writesKind_66 rfl (lv_at hl 1 rfl) ?_
      refine lv_bipush (v := 8) hx hb dX9_writesKind_67 (by decide) ?_
      refine lv_iconst (v := 0) hx hb dX9_writesKind_69 (by decide) ?_
      refine lv_lload_n hx hb dX9_writesKind_70 rfl (lv_at hl 3 rfl) ?_
      refine lv_lconst (v := 1) hx hb dX9_writesKind_71 (by decide) ?_
      refine lv_lsub hx hb dX9_writesKind_72 ?_
      refine cVi (As := [.int 8, .int 0, .long (x2 - 1)]) (rest := []) (wc := [(a_t, .inr (7, [.ref a_t_v, .ref a_t_past, .ref a_t_costs, .int t_edits, .int t_thrown, .ref a_t_into, .ref a_t_isNeeded, .ref a_t_depths, .ref a_t_names, .ref a_t_out, .int t_outs, .ref a_t_has])), (a_t_v, .inl (ca 0, 206, .inl f_t_v))]) (wr := [(a_t_costs, .inl (ca 0, 3, .inl f_t_costs))]) (w1 := fun u : (Nat → Int32) => [(a_t, .inr (7, [.ref a_t_v, .ref a_t_past, .ref a_t_costs, .int t_edits, .int t_thrown, .ref a_t_into, .ref a_t_isNeeded, .ref a_t_depths, .ref a_t_names, .ref a_t_out, .int t_outs, .ref a_t_has])), (a_t_v, .inl (ca 0, 206, .inl u))]) (ws2 := fun u : (Nat → Int32) => [(a_t, .inr (7, [.ref a_t_v, .ref a_t_past, .ref a_t_costs, .int t_edits, .int t_thrown, .ref a_t_into, .ref a_t_isNeeded, .ref a_t_depths, .ref a_t_names, .ref a_t_out, .int t_outs, .ref a_t_has])), (a_t_v, .inl (ca 0, 206, .inl u)), (a_t_costs, .inl (ca 0, 3, .inl f_t_costs))]) ⟨hx, hb, hml, hown, hts⟩ (mX9_constant l D ca a_t a_t_v a_t_past a_t_costs a_t_into a_t_isNeeded a_t_depths a_t_names a_t_out a_t_has _ t_edits t_thrown t_outs f_t_v 8 0 (x2 - 1) _ h) (cwV 3 hts (gV q_1042 q_1044 qs_47 q_8 q_1045) rfl rfl rfl (by decide +kernel) ⟨Nat.le_of_ble_eq_true rfl, Nat.le_of_ble_eq_true rfl⟩) hK hP hD hS hA [0, 1] [2] [1, 2, 0] rfl rfl rfl (by decide) (fun _ => rfl) (ci := 7) (q0 := 0) rfl rfl rfl hl.1 rfl (Nat.le_of_ble_eq_true rfl) dX9_writesKind_73 ⟨Nat.le_of_ble_eq_true rfl, Nat.le_of_ble_eq_true rfl⟩ (fun r_73 u9 H locs h hP hD hS => ?_)
      obtain ⟨f_t_v_73, rfl⟩ : ∃ z, z = u9 := ⟨_, rfl⟩
      have hP : va_P D vwCl [(a_t, .inr (7, [.ref a_t_v, .ref a_t_past, .ref a_t_costs, .int t_edits, .int t_thrown, .ref a_t_into, .ref a_t_isNeeded, .ref a_t_depths, .ref a_t_names, .ref a_t_out, .int t_outs, .ref a_t_has])), (a_t_v, .inl (ca 0, 206, .inl f_t_v_73)), (a_t_costs, .inl (ca 0, 3, .inl f_t_costs))] H := hP
      have hD : va_D A [(a_t, .inr (7, [.ref a_t_v, .ref a_t_past, .ref a_t_costs, .int t_edits, .int t_thrown, .ref a_t_into, .ref a_t_isNeeded, .ref a_t_depths, .ref a_t_names, .ref a_t_out, .int t_outs, .ref a_t_has])), (a_t_v, .inl (ca 0, 206, .inl f_t_v_73)), (a_t_costs, .inl (ca 0, 3, .inl f_t_costs))] := hD
      try dsimp only at h
      refine lv_goto (tgt := 96) hx hb dX9_writesKind_76 (by decide) ?_
      exact W.iret (v := r_73) hx hb hr (fun t ht hW => ⟨⟨r_73, f_t_v_73, rfl, h, by rw [ht]; exact hP, va_K.moved hW.alike hK, hD⟩, hS.F ht⟩) hS.2.2 dX9_writesKind_96
  have h := h.2 c9
  have cs_1 := c9
  by_cases c9 : x1 = 2
  · have h := h.1 c9
    refine lv_tableIn (tgt := 97) hx hb dX9_writesKind_9 (by rw [c9]; decide) (by rw [c9]; decide) (off := 88) (by rw [c9]; decide) (by decide) ?_
    refine lv_aload_n hx hb dX9_writesKind_97 rfl (lv_at hl 1 rfl) ?_
    refine lv_lload_n hx hb dX9_writesKind_98 rfl (lv_at hl 3 rfl) ?_
    refine cVi (As := [.long x2]) (rest := []) (wc := [(a_t, .inr (7, [.ref a_t_v, .ref a_t_past, .ref a_t_costs, .int t_edits, .int t_thrown, .ref a_t_into, .ref a_t_isNeeded, .ref a_t_depths, .ref a_t_names, .ref a_t_out, .int t_outs, .ref a_t_has])), (a_t_v, .inl (ca 0, 206, .inl f_t_v))]) (wr := [(a_t_costs, .inl (ca 0, 3, .inl f_t_costs))]) (w1 := fun u : (Nat → Int32) => [(a_t, .inr (7, [.ref a_t_v, .ref a_t_past, .ref a_t_costs, .int t_edits, .int t_thrown, .ref a_t_into, .ref a_t_isNeeded, .ref a_t_depths, .ref a_t_names, .ref a_t_out, .int t_outs, .ref a_t_has])), (a_t_v, .inl (ca 0, 206, .inl u))]) (ws2 := fun u : (Nat → Int32) => [(a_t, .inr (7, [.ref a_t_v, .ref a_t_past, .ref a_t_costs, .int t_edits, .int t_thrown, .ref a_t_into, .ref a_t_isNeeded, .ref a_t_depths, .ref a_t_names, .ref a_t_out, .int t_outs, .ref a_t_has])), (a_t_v, .inl (ca 0, 206, .inl u)), (a_t_costs, .inl (ca 0, 3, .inl f_t_costs))]) ⟨hx, hb, hml, hown, hts⟩ (mX9_signedQuotient l D ca a_t a_t_v a_t_past a_t_costs a_t_into a_t_isNeeded a_t_depths a_t_names a_t_out a_t_has _ t_edits t_thrown t_outs f_t_v x2 _ h) (cwV 1 hts (gV q_1062 q_1064 qs_52 q_8 q_1065) rfl rfl rfl (by decide +kernel) ⟨Nat.le_of_ble_eq_true rfl, Nat.le_of_ble_eq_true rfl⟩) hK hP hD hS hA [0, 1] [2] [1, 2, 0] rfl rfl rfl (by decide) (fun _ => rfl) (ci := 7) (q0 := 0) rfl rfl rfl hl.1 rfl (Nat.le_of_ble_eq_true rfl) dX9_writesKind_99 ⟨Nat.le_of_ble_eq_true rfl, Nat.le_of_ble_eq_true rfl⟩ (fun r_99 u9 H locs h hP hD hS => ?_)
    obtain ⟨f_t_v_99, rfl⟩ : ∃ z, z = u9 := ⟨_, rfl⟩
    have hP : va_P D vwCl [(a_t, .inr (7, [.ref a_t_v, .ref a_t_past, .ref a_t_costs, .int t_edits, .int t_thrown, .ref a_t_into, .ref a_t_isNeeded, .ref a_t_depths, .ref a_t_names, .ref a_t_out, .int t_outs, .ref a_t_has])), (a_t_v, .inl (ca 0, 206, .inl f_t_v_99)), (a_t_costs, .inl (ca 0, 3, .inl f_t_costs))] H := hP
    have hD : va_D A [(a_t, .inr (7, [.ref a_t_v, .ref a_t_past, .ref a_t_costs, .int t_edits, .int t_thrown, .ref a_t_into, .ref a_t_isNeeded, .ref a_t_depths, .ref a_t_names, .ref a_t_out, .int t_outs, .ref a_t_has])), (a_t_v, .inl (ca 0, 206, .inl f_t_v_99)), (a_t_costs, .inl (ca 0, 3, .inl f_t_costs))] := hD
    try dsimp only at h
    exact W.iret (v := r_99) hx hb hr (fun t ht hW => ⟨⟨r_99, f_t_v_99, rfl, h, by rw [ht]; exact hP, va_K.moved hW.alike hK, hD⟩, hS.F ht⟩) hS.2.2 dX9_writesKind_102
  have h := h.2 c9
  have cs_2 := c9
  by_cases c9 : x1 = 3
  · have h := h.1 c9
    refine lv_tableIn (tgt := 103) hx hb dX9_writesKind_9 (by rw [c9]; decide) (by rw [c9]; decide) (off := 94) (by rw [c9]; decide) (by decide) ?_
    refine lv_aload_n hx hb dX9_writesKind_103 rfl (lv_at hl 1 rfl) ?_
    refine lv_iconst (v := 4) hx hb dX9_writesKind_104 (by decide) ?_
    refine lv_iconst (v := 0) hx hb dX9_writesKind_105 (by decide) ?_
    refine lv_aload_n hx hb dX9_writesKind_106 rfl (lv_at hl 1 rfl) ?_
    refine lv_aload_n hx hb dX9_writesKind_107 rfl (lv_at hl 1 rfl) ?_
    refine lv_lload_n hx hb dX9_writesKind_108 rfl (lv_at hl 3 rfl) ?_
    refine cVi (As := [.long x2]) (rest := [.ref a_t, .int 0, .int 4, .ref a_t]) (wc := [(a_t, .inr (7, [.ref a_t_v, .ref a_t_past, .ref a_t_costs, .int t_edits, .int t_thrown, .ref a_t_into, .ref a_t_isNeeded, .ref a_t_depths, .ref a_t_names, .ref a_t_out, .int t_outs, .ref a_t_has])), (a_t_v, .inl (ca 0, 206, .inl f_t_v))]) (wr := [(a_t_costs, .inl (ca 0, 3, .inl f_t_costs))]) (w1 := fun u : (Nat → Int32) => [(a_t, .inr (7, [.ref a_t_v, .ref a_t_past, .ref a_t_costs, .int t_edits, .int t_thrown, .ref a_t_into, .ref a_t_isNeeded, .ref a_t_depths, .ref a_t_names, .ref a_t_out, .int t_outs, .ref a_t_has])), (a_t_v, .inl (ca 0, 206, .inl u))]) (ws2 := fun u : (Nat → Int32) => [(a_t, .inr (7, [.ref a_t_v, .ref a_t_past, .ref a_t_costs, .int t_edits, .int t_thrown, .ref a_t_into, .ref a_t_isNeeded, .ref a_t_depths, .ref a_t_names, .ref a_t_out, .int t_outs, .ref a_t_has])), (a_t_v, .inl (ca 0, 206, .inl u)), (a_t_costs, .inl (ca 0, 3, .inl f_t_costs))]) ⟨hx, hb, hml, hown, hts⟩ (mX9_signedQuotient l D ca a_t a_t_v a_t_past a_t_costs a_t_into a_t_isNeeded a_t_depths a_t_names a_t_out a_t_has _ t_edits t_thrown t_outs f_t_v x2 _ h) (cwV 1 hts (gV q_1062 q_1064 qs_52 q_8 q_1065) rfl rfl rfl (by decide +kernel) ⟨Nat.le_of_ble_eq_true rfl, Nat.le_of_ble_eq_true rfl⟩) hK hP hD hS hA [0, 1] [2] [1, 2, 0] rfl rfl rfl (by decide) (fun _ => rfl) (ci := 7) (q0 := 0) rfl rfl rfl hl.1 rfl (Nat.le_of_ble_eq_true rfl) dX9_writesKind_109 ⟨Nat.le_of_ble_eq_true rfl, Nat.le_of_ble_eq_true rfl⟩ (fun r_109 u9 H locs h hP hD hS => ?_)
    obtain ⟨f_t_v_109, rfl⟩ : ∃ z, z = u9 := ⟨_, rfl⟩
    have hP : va_P D vwCl [(a_t, .inr (7, [.ref a_t_v, .ref a_t_past, .ref a_t_costs, .int t_edits, .int t_thrown, .ref a_t_into, .ref a_t_isNeeded, .ref a_t_depths, .ref a_t_names, .ref a_t_out, .int t_outs, .ref a_t_has])), (a_t_v, .inl (ca 0, 206, .inl f_t_v_109)), (a_t_costs, .inl (ca 0, 3, .inl f_t_costs))] H := hP
    have hD : va_D A [(a_t, .inr (7, [.ref a_t_v, .ref a_t_past, .ref a_t_costs, .int t_edits, .int t_thrown, .ref a_t_into, .ref a_t_isNeeded, .ref a_t_depths, .ref a_t_names, .ref a_t_out, .int t_outs, .ref a_t_has])), (a_t_v, .inl (ca 0, 206, .inl f_t_v_109)), (a_t_costs, .inl (ca 0, 3, .inl f_t_costs))] := hD
    try dsimp only at h
    refine lv_aload_n hx hb dX9_writesKind_112 rfl (lv_at hl 1 rfl) ?_
    refine lv_lload_n hx hb dX9_writesKind_113 rfl (lv_at hl 3 rfl) ?_
    refine cVl (As := [.long x2]) (rest := [.int r_109, .ref a_t, .int 0, .int 4, .ref a_t]) (wc := [(a_t, .inr (7, [.ref a_t_v, .ref a_t_past, .ref a_t_costs, .int t_edits, .int t_thrown, .ref a_t_into, .ref a_t_isNeeded, .ref a_t_depths, .ref a_t_names, .ref a_t_out, .int t_outs, .ref a_t_has])), (a_t_v, .inl (ca 0, 206, .inl f_t_v_109))]) (wr := [(a_t_costs, .inl (ca 0, 3, .inl f_t_costs))]) (w1 := fun _ : Unit => [(a_t, .inr (7, [.ref a_t_v, .ref a_t_past, .ref a_t_costs, .int t_edits, .int t_thrown, .ref a_t_into, .ref a_t_isNeeded, .ref a_t_depths, .ref a_t_names, .ref a_t_out, .int t_outs, .ref a_t_has])), (a_t_v, .inl (ca 0, 206, .inl f_t_v_109))]) (ws2 := fun _ : Unit => [(a_t, .inr (7, [.ref a_t_v, .ref a_t_past, .ref a_t_costs, .int t_edits, .int t_thrown, .ref a_t_into, .ref a_t_isNeeded, .ref a_t_depths, .ref a_t_names, .ref a_t_out, .int t_outs, .ref a_t_has])), (a_t_v, .inl (ca 0, 206, .inl f_t_v_109)), (a_t_costs, .inl (ca 0, 3, .inl f_t_costs))]) ⟨hx, hb, hml, hown, hts⟩ (mX9_value l D ca a_t a_t_v a_t_past a_t_costs a_t_into a_t_isNeeded a_t_depths a_t_names a_t_out a_t_has _ t_edits t_thrown t_outs f_t_v_109 x2 _ h) (cwV 1 hts (gV q_999 q_1001 qs_40 q_8 q_1002) rfl rfl rfl (by decide +kernel) ⟨Nat.le_of_ble_eq_true rfl, Nat.le_of_ble_eq_true rfl⟩) hK hP hD hS hA [0, 1] [2] [1, 2, 0] rfl rfl rfl (by decide) (fun _ => rfl) (ci := 7) (q0 := 0) rfl rfl rfl hl.1 rfl (Nat.le_of_ble_eq_true rfl) dX9_writesKind_114 ⟨Nat.le_of_ble_eq_true rfl, Nat.le_of_ble_eq_true rfl⟩ (fun r_114 u9 H locs h hP hD hS => ?_)
    try dsimp only at h
    refine cVi (As := [.int r_109, .long r_114]) (rest := [.int 0, .int 4, .ref a_t]) (wc := [(a_t, .inr (7, [.ref a_t_v, .ref a_t_past, .ref a_t_costs, .int t_edits, .int t_thrown, .ref a_t_into, .ref a_t_isNeeded, .ref a_t_depths, .ref a_t_names, .ref a_t_out, .int t_outs, .ref a_t_has])), (a_t_v, .inl (ca 0, 206, .inl f_t_v_109)), (a_t_costs, .inl (ca 0, 3, .inl f_t_costs))]) (wr := []) (w1 := fun u : (Nat → Int32) => [(a_t, .inr (7, [.ref a_t_v, .ref a_t_past, .ref a_t_costs, .int t_edits, .int t_thrown, .ref a_t_into, .ref a_t_isNeeded, .ref a_t_depths, .ref a_t_names, .ref a_t_out, .int t_outs, .ref a_t_has])), (a_t_v, .inl (ca 0, 206, .inl u)), (a_t_costs, .inl (ca 0, 3, .inl f_t_costs))]) (ws2 := fun u : (Nat → Int32) => [(a_t, .inr (7, [.ref a_t_v, .ref a_t_past, .ref a_t_costs, .int t_edits, .int t_thrown, .ref a_t_into, .ref a_t_isNeeded, .ref a_t_depths, .ref a_t_names, .ref a_t_out, .int t_outs, .ref a_t_has])), (a_t_v, .inl (ca 0, 206, .inl u)), (a_t_costs, .inl (ca 0, 3, .inl f_t_costs))]) ⟨hx, hb, hml, hown, hts⟩ (mX9_product l D ca a_t a_t_v a_t_past a_t_costs a_t_into a_t_isNeeded a_t_depths a_t_names a_t_out a_t_has _ t_edits t_thrown t_outs f_t_v_109 f_t_costs r_109 r_114 _ h) (cwV 2 hts (gV q_1050 q_1052 qs_49 q_8 q_1053) rfl rfl rfl (by decide +kernel) ⟨Nat.le_of_ble_eq_true rfl, Nat.le_of_ble_eq_true rfl⟩) hK hP hD hS hA [0, 1, 2] [] [0, 1, 2] rfl rfl rfl (by decide) (fun _ => rfl) (ci := 7) (q0 := 0) rfl rfl rfl hl.1 rfl (Nat.le_of_ble_eq_true rfl) dX9_writesKind_117 ⟨Nat.le_of_ble_eq_true rfl, Nat.le_of_ble_eq_true rfl⟩ (fun r_117 u9 H locs h hP hD hS => ?_)
    obtain ⟨f_t_v_117, rfl⟩ : ∃ z, z = u9 := ⟨_, rfl⟩
    have hP : va_P D vwCl [(a_t, .inr (7, [.ref a_t_v, .ref a_t_past, .ref a_t_costs, .int t_edits, .int t_thrown, .ref a_t_into, .ref a_t_isNeeded, .ref a_t_depths, .ref a_t_names, .ref a_t_out, .int t_outs, .ref a_t_has])), (a_t_v, .inl (ca 0, 206, .inl f_t_v_117)), (a_t_costs, .inl (ca 0, 3, .inl f_t_costs))] H := hP
    have hD : va_D A [(a_t, .inr (7, [.ref a_t_v, .ref a_t_past, .ref a_t_costs, .int t_edits, .int t_thrown, .ref a_t_into, .ref a_t_isNeeded, .ref a_t_depths, .ref a_t_names, .ref a_t_out, .int t_outs, .ref a_t_has])), (a_t_v, .inl (ca 0, 206, .inl f_t_v_117)), (a_t_costs, .inl (ca 0, 3, .inl f_t_costs))] := hD
    try dsimp only at h
    refine cVi (As := [.int 4, .int 0, .int r_117]) (rest := []) (wc := [(a_t, .inr (7, [.ref a_t_v, .ref a_t_past, .ref a_t_costs, .int t_edits, .int t_thrown, .ref a_t_into, .ref a_t_isNeeded, .ref a_t_depths, .ref a_t_names, .ref a_t_out, .int t_outs, .ref a_t_has])), (a_t_v, .inl (ca 0, 206, .inl f_t_v_117))]) (wr := [(a_t_costs, .inl (ca 0, 3, .inl f_t_costs))]) (w1 := fun u : (Nat → Int32) => [(a_t, .inr (7, [.ref a_t_v, .ref a_t_past, .ref a_t_costs, .int t_edits, .int t_thrown, .ref a_t_into, .ref a_t_isNeeded, .ref a_t_depths, .ref a_t_names, .ref a_t_out, .int t_outs, .ref a_t_has])), (a_t_v, .inl (ca 0, 206, .inl u))]) (ws2 := fun u : (Nat → Int32) => [(a_t, .inr (7, [.ref a_t_v, .ref a_t_past, .ref a_t_costs, .int t_edits, .int t_thrown, .ref a_t_into, .ref a_t_isNeeded, .ref a_t_depths, .ref a_t_names, .ref a_t_out, .int t_outs, .ref a_t_has])), (a_t_v, .inl (ca 0, 206, .inl u)), (a_t_costs, .inl (ca 0, 3, .inl f_t_costs))]) ⟨hx, hb, hml, hown, hts⟩ (mX9_both l D ca a_t a_t_v a_t_past a_t_costs a_t_into a_t_isNeeded a_t_depths a_t_names a_t_out a_t_has _ t_edits t_thrown t_outs f_t_v_117 4 0 r_117 _ h) (cwV 3 hts (gV q_1046 q_1048 qs_48 q_8 q_1049) rfl rfl rfl (by decide +kernel) ⟨Nat.le_of_ble_eq_true rfl, Nat.le_of_ble_eq_true rfl⟩) hK hP hD hS hA [0, 1] [2] [1, 2, 0] rfl rfl rfl (by decide) (fun _ => rfl) (ci := 7) (q0 := 0) rfl rfl rfl hl.1 rfl (Nat.le_of_ble_eq_true rfl) dX9_writesKind_120 ⟨Nat.le_of_ble_eq_true rfl, Nat.le_of_ble_eq_true rfl⟩ (fun r_120 u9 H locs h hP hD hS => ?_)
    obtain ⟨f_t_v_120, rfl⟩ : ∃ z, z = u9 := ⟨_, rfl⟩
    have hP : va_P D vwCl [(a_t, .inr (7, [.ref a_t_v, .ref a_t_past, .ref a_t_costs, .int t_edits, .int t_thrown, .ref a_t_into, .ref a_t_isNeeded, .ref a_t_depths, .ref a_t_names, .ref a_t_out, .int t_outs, .ref a_t_has])), (a_t_v, .inl (ca 0, 206, .inl f_t_v_120)), (a_t_costs, .inl (ca 0, 3, .inl f_t_costs))] H := hP
    have hD : va_D A [(a_t, .inr (7, [.ref a_t_v, .ref a_t_past, .ref a_t_costs, .int t_edits, .int t_thrown, .ref a_t_into, .ref a_t_isNeeded, .ref a_t_depths, .ref a_t_names, .ref a_t_out, .int t_outs, .ref a_t_has])), (a_t_v, .inl (ca 0, 206, .inl f_t_v_120)), (a_t_costs, .inl (ca 0, 3, .inl f_t_costs))] := hD
    try dsimp only at h
    exact W.iret (v := r_120) hx hb hr (fun t ht hW => ⟨⟨r_120, f_t_v_120, rfl, h, by rw [ht]; exact hP, va_K.moved hW.alike hK, hD⟩, hS.F ht⟩) hS.2.2 dX9_writesKind_123
  have h := h.2 c9
  have cs_3 := c9
  by_cases c9 : x1 = 4
  · have h := h.1 c9
    refine lv_tableIn (tgt := 124) hx hb dX9_writesKind_9 (by rw [c9]; decide) (by rw [c9]; decide) (off := 115) (by rw [c9]; decide) (by decide) ?_
    refine lv_aload_n hx hb dX9_writesKind_124 rfl (lv_at hl 1 rfl) ?_
    refine lv_lload_n hx hb dX9_writesKind_125 rfl (lv_at hl 3 rfl) ?_
    refine lv_iload hx hb dX9_writesKind_126 (lv_at hl 0 rfl) ?_
    refine cVi (As := [.long x2, .int x4_6]) (rest := []) (wc := [(a_t, .inr (7, [.ref a_t_v, .ref a_t_past, .ref a_t_costs, .int t_edits, .int t_thrown, .ref a_t_into, .ref a_t_isNeeded, .ref a_t_depths, .ref a_t_names, .ref a_t_out, .int t_outs, .ref a_t_has])), (a_t_v, .inl (ca 0, 206, .inl f_t_v))]) (wr := [(a_t_costs, .inl (ca 0, 3, .inl f_t_costs))]) (w1 := fun u : (Nat → Int32) => [(a_t, .inr (7, [.ref a_t_v, .ref a_t_past, .ref a_t_costs, .int t_edits, .int t_thrown, .ref a_t_into, .ref a_t_isNeeded, .ref a_t_depths, .ref a_t_names, .ref a_t_out, .int t_outs, .ref a_t_has])), (a_t_v, .inl (ca 0, 206, .inl u))]) (ws2 := fun u : (Nat → Int32) => [(a_t, .inr (7, [.ref a_t_v, .ref a_t_past, .ref a_t_costs, .int t_edits, .int t_thrown, .ref a_t_into, .ref a_t_isNeeded, .ref a_t_depths, .ref a_t_names, .ref a_t_out, .int t_outs, .ref a_t_has])), (a_t_v, .inl (ca 0, 206, .inl u)), (a_t_costs, .inl (ca 0, 3, .inl f_t_costs))]) ⟨hx, hb, hml, hown, hts⟩ (mX9_floors l D ca a_t a_t_v a_t_past a_t_costs a_t_into a_t_isNeeded a_t_depths a_t_names a_t_out a_t_has _ t_edits t_thrown t_outs f_t_v x2 x4_6 _ h) (cwV 2 hts (gV q_1066 q_1068 qs_53 q_8 q_1069) rfl rfl rfl (by decide +kernel) ⟨Nat.le_of_ble_eq_true rfl, Nat.le_of_ble_eq_true rfl⟩) hK hP hD hS hA [0, 1] [2] [1, 2, 0] rfl rfl rfl (by decide) (fun _ => rfl) (ci := 7) (q0 := 0) rfl rfl rfl hl.1 rfl (Nat.le_of_ble_eq_true rfl) dX9_writesKind_128 ⟨Nat.le_of_ble_eq_true rfl, Nat.le_of_ble_eq_true rfl⟩ (fun r_128 u9 H locs h hP hD hS => ?_)
    obtain ⟨f_t_v_128, rfl⟩ : ∃ z, z = u9 := ⟨_, rfl⟩
    have hP : va_P D vwCl [(a_t, .inr (7, [.ref a_t_v, .ref a_t_past, .ref a_t_costs, .int t_edits, .int t_thrown, .ref a_t_into, .ref a_t_isNeeded, .ref a_t_depths, .ref a_t_names, .ref a_t_out, .int t_outs, .ref a_t_has])), (a_t_v, .inl (ca 0, 206, .inl f_t_v_128)), (a_t_costs, .inl (ca 0, 3, .inl f_t_costs))] H := hP
    have hD : va_D A [(a_t, .inr (7, [.ref a_t_v, .ref a_t_past, .ref a_t_costs, .int t_edits, .int t_thrown, .ref a_t_into, .ref a_t_isNeeded, .ref a_t_depths, .ref a_t_names, .ref a_t_out, .int t_outs, .ref a_t_has])), (a_t_v, .inl (ca 0, 206, .inl f_t_v_128)), (a_t_costs, .inl (ca 0, 3, .inl f_t_costs))] := hD
    try dsimp only at h
    exact W.iret (v := r_128) hx hb hr (fun t ht hW => ⟨⟨r_128, f_t_v_128, rfl, h, by rw [ht]; exact hP, va_K.moved hW.alike hK, hD⟩, hS.F ht⟩) hS.2.2 dX9_writesKind_131
  have h := h.2 c9
  have cs_4 := c9
  by_cases c9 : x1 = 5
  · have h := h.1 c9
    refine lv_tableIn (tgt := 132) hx hb dX9_writesKind_9 (by rw [c9]; decide) (by rw [c9]; decide) (off := 123) (by rw [c9]; decide) (by decide) ?_
    refine lv_aload_n hx hb dX9_writesKind_132 rfl (lv_at hl 1 rfl) ?_
    refine lv_aload_n hx hb dX9_writesKind_133 rfl (lv_at hl 1 rfl) ?_
    refine lv_iconst (v := 1) hx hb dX9_writesKind_134 (by decide) ?_
    refine lv_iconst (v := 0) hx hb dX9_writesKind_135 (by decide) ?_
    refine lv_lload_n hx hb dX9_writesKind_136 rfl (lv_at hl 3 rfl) ?_
    refine cPi (As := [.long x2]) (rest := [.int 0, .int 1, .ref a_t, .ref a_t]) ⟨hx, hb, hml, hown, hts⟩ (mX9_twos l x2 _ h) (va_cwS 1 hts (gS q_980 q_981 q_8 q_982) rfl rfl rfl (by decide +kernel) ⟨Nat.le_of_ble_eq_true rfl, Nat.le_of_ble_eq_true rfl⟩) hS rfl hl.1 rfl (Nat.le_of_ble_eq_true rfl) dX9_writesKind_137 ⟨Nat.le_of_ble_eq_true rfl, Nat.le_of_ble_eq_true rfl⟩ (fun r_137 H1 locs h hk1 hS => ?_)
    have hP := s_back hP hk1
    try dsimp only at h
    refine cVi (As := [.int 1, .int 0, .int r_137]) (rest := [.ref a_t]) (wc := [(a_t, .inr (7, [.ref a_t_v, .ref a_t_past, .ref a_t_costs, .int t_edits, .int t_thrown, .ref a_t_into, .ref a_t_isNeeded, .ref a_t_depths, .ref a_t_names, .ref a_t_out, .int t_outs, .ref a_t_has])), (a_t_v, .inl (ca 0, 206, .inl f_t_v))]) (wr := [(a_t_costs, .inl (ca 0, 3, .inl f_t_costs))]) (w1 := fun u : (Nat → Int32) => [(a_t, .inr (7, [.ref a_t_v, .ref a_t_past, .ref a_t_costs, .int t_edits, .int t_thrown, .ref a_t_into, .ref a_t_isNeeded, .ref a_t_depths, .ref a_t_names, .ref a_t_out, .int t_outs, .ref a_t_has])), (a_t_v, .inl (ca 0, 206, .inl u))]) (ws2 := fun u : (Nat → Int32) => [(a_t, .inr (7, [.ref a_t_v, .ref a_t_past, .ref a_t_costs, .int t_edits, .int t_thrown, .ref a_t_into, .ref a_t_isNeeded, .ref a_t_depths, .ref a_t_names, .ref a_t_out, .int t_outs, .ref a_t_has])), (a_t_v, .inl (ca 0, 206, .inl u)), (a_t_costs, .inl (ca 0, 3, .inl f_t_costs))]) ⟨hx, hb, hml, hown, hts⟩ (mX9_shifts l D ca a_t a_t_v a_t_past a_t_costs a_t_into a_t_isNeeded a_t_depths a_t_names a_t_out a_t_has _ t_edits t_thrown t_outs f_t_v 1 0 r_137 _ h) (cwV 3 hts (gV q_1034 q_1036 qs_45 q_8 q_1037) rfl rfl rfl (by decide +kernel) ⟨Nat.le_of_ble_eq_true rfl, Nat.le_of_ble_eq_true rfl⟩) hK hP hD hS hA [0, 1] [2] [1, 2, 0] rfl rfl rfl (by decide) (fun _ => rfl) (ci := 7) (q0 := 0) rfl rfl rfl hl.1 rfl (Nat.le_of_ble_eq_true rfl) dX9_writesKind_140 ⟨Nat.le_of_ble_eq_true rfl, Nat.le_of_ble_eq_true rfl⟩ (fun r_140 u9 H locs h hP hD hS => ?_)
    obtain ⟨f_t_v_140, rfl⟩ : ∃ z, z = u9 := ⟨_, rfl⟩
    have hP : va_P D vwCl [(a_t, .inr (7, [.ref a_t_v, .ref a_t_past, .ref a_t_costs, .int t_edits, .int t_thrown, .ref a_t_into, .ref a_t_isNeeded, .ref a_t_depths, .ref a_t_names, .ref a_t_out, .int t_outs, .ref a_t_has])), (a_t_v, .inl (ca 0, 206, .inl f_t_v_140)), (a_t_costs, .inl (ca 0, 3, .inl f_t_costs))] H := hP
    have hD : va_D A [(a_t, .inr (7, [.ref a_t_v, .ref a_t_past, .ref a_t_costs, .int t_edits, .int t_thrown, .ref a_t_into, .ref a_t_isNeeded, .ref a_t_depths, .ref a_t_names, .ref a_t_out, .int t_outs, .ref a_t_has])), (a_t_v, .inl (ca 0, 206, .inl f_t_v_140)), (a_t_costs, .inl (ca 0, 3, .inl f_t_costs))] := hD
    try dsimp only at h
    refine lv_aload_n hx hb dX9_writesKind_143 rfl (lv_at hl 1 rfl) ?_
    refine lv_lload_n hx hb dX9_writesKind_144 rfl (lv_at hl 3 rfl) ?_
    refine lv_lload_n hx hb dX9_writesKind_145 rfl (lv_at hl 3 rfl) ?_
    refine cPi (As := [.long x2]) (rest := [.long x2, .ref a_t, .int r_140, .ref a_t]) ⟨hx, hb, hml, hown, hts⟩ (mX9_twos l x2 _ h) (va_cwS 1 hts (gS q_980 q_981 q_8 q_982) rfl rfl rfl (by decide +kernel) ⟨Nat.le_of_ble_eq_true rfl, Nat.le_of_ble_eq_true rfl⟩) hS rfl hl.1 rfl (Nat.le_of_ble_eq_true rfl) dX9_writesKind_146 ⟨Nat.le_of_ble_eq_true rfl, Nat.le_of_ble_eq_true rfl⟩ (fun r_146 H1 locs h hk1 hS => ?_)
    have hP := s_back hP hk1
    try dsimp only at h
    refine lv_lshr hx hb dX9_writesKind_149 rfl ?_
    refine cVl (As := [.long (x2 >>> (r_146.toInt64 &&& 63))]) (rest := [.int r_140, .ref a_t]) (wc := [(a_t, .inr (7, [.ref a_t_v, .ref a_t_past, .ref a_t_costs, .int t_edits, .int t_thrown, .ref a_t_into, .ref a_t_isNeeded, .ref a_t_depths, .ref a_t_names, .ref a_t_out, .int t_outs, .ref a_t_has])), (a_t_v, .inl (ca 0, 206, .inl f_t_v_140))]) (wr := [(a_t_costs, .inl (ca 0, 3, .inl f_t_costs))]) (w1 := fun _ : Unit => [(a_t, .inr (7, [.ref a_t_v, .ref a_t_past, .ref a_t_costs, .int t_edits, .int t_thrown, .ref a_t_into, .ref a_t_isNeeded, .ref a_t_depths, .ref a_t_names, .ref a_t_out, .int t_outs, .ref a_t_has])), (a_t_v, .inl (ca 0, 206, .inl f_t_v_140))]) (ws2 := fun _ : Unit => [(a_t, .inr (7, [.ref a_t_v, .ref a_t_past, .ref a_t_costs, .int t_edits, .int t_thrown, .ref a_t_into, .ref a_t_isNeeded, .ref a_t_depths, .ref a_t_names, .ref a_t_out, .int t_outs, .ref a_t_has])), (a_t_v, .inl (ca 0, 206, .inl f_t_v_140)), (a_t_costs, .inl (ca 0, 3, .inl f_t_costs))]) ⟨hx, hb, hml, hown, hts⟩ (mX9_inverseOf l D ca a_t a_t_v a_t_past a_t_costs a_t_into a_t_isNeeded a_t_depths a_t_names a_t_out a_t_has _ t_edits t_thrown t_outs f_t_v_140 (x2 >>> (r_146.toInt64 &&& 63)) _ h) (cwV 1 hts (gV q_995 q_997 qs_39 q_8 q_998) rfl rfl rfl (by decide +kernel) ⟨Nat.le_of_ble_eq_true rfl, Nat.le_of_ble_eq_true rfl⟩) hK hP hD hS hA [0, 1] [2] [1, 2, 0] rfl rfl rfl (by decide) (fun _ => rfl) (ci := 7) (q0 := 0) rfl rfl rfl hl.1 rfl (Nat.le_of_ble_eq_true rfl) dX9_writesKind_150 ⟨Nat.le_of_ble_eq_true rfl, Nat.le_of_ble_eq_true rfl⟩ (fun r_150 u9 H locs h hP hD hS => ?_)
    try dsimp only at h
    refine cVi (As := [.int r_140, .long r_150]) (rest := []) (wc := [(a_t, .inr (7, [.ref a_t_v, .ref a_t_past, .ref a_t_costs, .int t_edits, .int t_thrown, .ref a_t_into, .ref a_t_isNeeded, .ref a_t_depths, .ref a_t_names, .ref a_t_out, .int t_outs, .ref a_t_has])), (a_t_v, .inl (ca 0, 206, .inl f_t_v_140)), (a_t_costs, .inl (ca 0, 3, .inl f_t_costs))]) (wr := []) (w1 := fun u : (Nat → Int32) => [(a_t, .inr (7, [.ref a_t_v, .ref a_t_past, .ref a_t_costs, .int t_edits, .int t_thrown, .ref a_t_into, .ref a_t_isNeeded, .ref a_t_depths, .ref a_t_names, .ref a_t_out, .int t_outs, .ref a_t_has])), (a_t_v, .inl (ca 0, 206, .inl u)), (a_t_costs, .inl (ca 0, 3, .inl f_t_costs))]) (ws2 := fun u : (Nat → Int32) => [(a_t, .inr (7, [.ref a_t_v, .ref a_t_past, .ref a_t_costs, .int t_edits, .int t_thrown, .ref a_t_into, .ref a_t_isNeeded, .ref a_t_depths, .ref a_t_names, .ref a_t_out, .int t_outs, .ref a_t_has])), (a_t_v, .inl (ca 0, 206, .inl u)), (a_t_costs, .inl (ca 0, 3, .inl f_t_costs))]) ⟨hx, hb, hml, hown, hts⟩ (mX9_product l D ca a_t a_t_v a_t_past a_t_costs a_t_into a_t_isNeeded a_t_depths a_t_names a_t_out a_t_has _ t_edits t_thrown t_outs f_t_v_140 f_t_costs r_140 r_150 _ h) (cwV 2 hts (gV q_1050 q_1052 qs_49 q_8 q_1053) rfl rfl rfl (by decide +kernel) ⟨Nat.le_of_ble_eq_true rfl, Nat.le_of_ble_eq_true rfl⟩) hK hP hD hS hA [0, 1, 2] [] [0, 1, 2] rfl rfl rfl (by decide) (fun _ => rfl) (ci := 7) (q0 := 0) rfl rfl rfl hl.1 rfl (Nat.le_of_ble_eq_true rfl) dX9_writesKind_153 ⟨Nat.le_of_ble_eq_true rfl, Nat.le_of_ble_eq_true rfl⟩ (fun r_153 u9 H locs h hP hD hS => ?_)
    obtain ⟨f_t_v_153, rfl⟩ : ∃ z, z = u9 := ⟨_, rfl⟩
    have hP : va_P D vwCl [(a_t, .inr (7, [.ref a_t_v, .ref a_t_past, .ref a_t_costs, .int t_edits, .int t_thrown, .ref a_t_into, .ref a_t_isNeeded, .ref a_t_depths, .ref a_t_names, .ref a_t_out, .int t_outs, .ref a_t_has])), (a_t_v, .inl (ca 0, 206, .inl f_t_v_153)), (a_t_costs, .inl (ca 0, 3, .inl f_t_costs))] H := hP
    have hD : va_D A [(a_t, .inr (7, [.ref a_t_v, .ref a_t_past, .ref a_t_costs, .int t_edits, .int t_thrown, .ref a_t_into, .ref a_t_isNeeded, .ref a_t_depths, .ref a_t_names, .ref a_t_out, .int t_outs, .ref a_t_has])), (a_t_v, .inl (ca 0, 206, .inl f_t_v_153)), (a_t_costs, .inl (ca 0, 3, .inl f_t_costs))] := hD
    try dsimp only at h
    exact W.iret (v := r_153) hx hb hr (fun t ht hW => ⟨⟨r_153, f_t_v_153, rfl, h, by rw [ht]; exact hP, va_K.moved hW.alike hK, hD⟩, hS.F ht⟩) hS.2.2 dX9_writesKind_156
  have h := h.2 c9
  have cs_5 := c9
  by_cases c9 : x1 = 6
  · have h := h.1 c9
    refine lv_tableIn (tgt := 157) hx hb dX9_writesKind_9 (by rw [c9]; decide) (by rw [c9]; decide) (off := 148) (by rw [c9]; decide) (by decide) ?_
    refine lv_aload_n hx hb dX9_writesKind_157 rfl (lv_at hl 1 rfl) ?_
    refine lv_bipush (v := 11) hx hb dX9_writesKind_158 (by decide) ?_
    refine lv_aload_n hx hb dX9_writesKind_160 rfl (lv_at hl 1 rfl) ?_
    refine lv_bipush (v := 10) hx hb dX9_writesKind_161 (by decide) ?_
    refine lv_aload_n hx hb dX9_writesKind_163 rfl (lv_at hl 1 rfl) ?_
    refine lv_iconst (v := 0) hx hb dX9_writesKind_164 (by decide) ?_
    refine lv_aload_n hx hb dX9_writesKind_165 rfl (lv_at hl 1 rfl) ?_
    refine lv_lload_n hx hb dX9_writesKind_166 rfl (lv_at hl 3 rfl) ?_
    refine lv_lload_n hx hb dX9_writesKind_167 rfl (lv_at hl 3 rfl) ?_
    refine cP16i (As := [.long x2]) (rest := [.long x2, .ref a_t, .int 0, .ref a_t, .int 10, .ref a_t, .int 11, .ref a_t]) ⟨hx, hb, hml, hown, hts⟩ (mX9_twos l x2 _ h) (va_cwS 1 hts (gS q_980 q_981 q_8 q_982) rfl rfl rfl (by decide +kernel) ⟨Nat.le_of_ble_eq_true rfl, Nat.le_of_ble_eq_true rfl⟩) (Nat.le_of_ble_eq_true rfl) hS rfl hl.1 rfl (Nat.le_of_ble_eq_true rfl) dX9_writesKind_168 ⟨Nat.le_of_ble_eq_true rfl, Nat.le_of_ble_eq_true rfl⟩ (fun r_168 H1 locs h hk1 hS => ?_)
    have hP := s_back hP hk1
    try dsimp only at h
    refine lv_lshr hx hb dX9_writesKind_171 rfl ?_
    refine cVl (As := [.long (x2 >>> (r_168.toInt64 &&& 63))]) (rest := [.int 0, .ref a_t, .int 10, .ref a_t, .int 11, .ref a_t]) (wc := [(a_t, .inr (7, [.ref a_t_v, .ref a_t_past, .ref a_t_costs, .int t_edits, .int t_thrown, .ref a_t_into, .ref a_t_isNeeded, .ref a_t_depths, .ref a_t_names, .ref a_t_out, .int t_outs, .ref a_t_has])), (a_t_v, .inl (ca 0, 206, .inl f_t_v))]) (wr := [(a_t_costs, .inl (ca 0, 3, .inl f_t_costs))]) (w1 := fun _ : Unit => [(a_t, .inr (7, [.ref a_t_v, .ref a_t_past, .ref a_t_costs, .int t_edits, .int t_thrown, .ref a_t_into, .ref a_t_isNeeded, .ref a_t_depths, .ref a_t_names, .ref a_t_out, .int t_outs, .ref a_t_has])), (a_t_v, .inl (ca 0, 206, .inl f_t_v))]) (ws2 := fun _ : Unit => [(a_t, .inr (7, [.ref a_t_v, .ref a_t_past, .ref a_t_costs, .int t_edits, .int t_thrown, .ref a_t_into, .ref a_t_isNeeded, .ref a_t_depths, .ref a_t_names, .ref a_t_out, .int t_outs, .ref a_t_has])), (a_t_v, .inl (ca 0, 206, .inl f_t_v)), (a_t_costs, .inl (ca 0, 3, .inl f_t_costs))]) ⟨hx, hb, hml, hown, hts⟩ (mX9_inverseOf l D ca a_t a_t_v a_t_past a_t_costs a_t_into a_t_isNeeded a_t_depths a_t_names a_t_out a_t_has _ t_edits t_thrown t_outs f_t_v (x2 >>> (r_168.toInt64 &&& 63)) _ h) (cwV 1 hts (gV q_995 q_997 qs_39 q_8 q_998) rfl rfl rfl (by decide +kernel) ⟨Nat.le_of_ble_eq_true rfl, Nat.le_of_ble_eq_true rfl⟩) hK hP hD hS hA [0, 1] [2] [1, 2, 0] rfl rfl rfl (by decide) (fun _ => rfl) (ci := 7) (q0 := 0) rfl rfl rfl hl.1 rfl (Nat.le_of_ble_eq_true rfl) dX9_writesKind_172 ⟨Nat.le_of_ble_eq_true rfl, Nat.le_of_ble_eq_true rfl⟩ (fun r_172 u9 H locs h hP hD hS => ?_)
    try dsimp only at h
    refine cVi (As := [.int 0, .long r_172]) (rest := [.int 10, .ref a_t, .int 11, .ref a_t]) (wc := [(a_t, .inr (7, [.ref a_t_v, .ref a_t_past, .ref a_t_costs, .int t_edits, .int t_thrown, .ref a_t_into, .ref a_t_isNeeded, .ref a_t_depths, .ref a_t_names, .ref a_t_out, .int t_outs, .ref a_t_has])), (a_t_v, .inl (ca 0, 206, .inl f_t_v)), (a_t_costs, .inl (ca 0, 3, .inl f_t_costs))]) (wr := []) (w1 := fun u : (Nat → Int32) => [(a_t, .inr (7, [.ref a_t_v, .ref a_t_past, .ref a_t_costs, .int t_edits, .int t_thrown, .ref a_t_into, .ref a_t_isNeeded, .ref a_t_depths, .ref a_t_names, .ref a_t_out, .int t_outs, .ref a_t_has])), (a_t_v, .inl (ca 0, 206, .inl u)), (a_t_costs, .inl (ca 0, 3, .inl f_t_costs))]) (ws2 := fun u : (Nat → Int32) => [(a_t, .inr (7, [.ref a_t_v, .ref a_t_past, .ref a_t_costs, .int t_edits, .int t_thrown, .ref a_t_into, .ref a_t_isNeeded, .ref a_t_depths, .ref a_t_names, .ref a_t_out, .int t_outs, .ref a_t_has])), (a_t_v, .inl (ca 0, 206, .inl u)), (a_t_costs, .inl (ca 0, 3, .inl f_t_costs))]) ⟨hx, hb, hml, hown, hts⟩ (mX9_product l D ca a_t a_t_v a_t_past a_t_costs a_t_into a_t_isNeeded a_t_depths a_t_names a_t_out a_t_has _ t_edits t_thrown t_outs f_t_v f_t_costs 0 r_172 _ h) (cwV 2 hts (gV q_1050 q_1052 qs_49 q_8 q_1053) rfl rfl rfl (by decide +kernel) ⟨Nat.le_of_ble_eq_true rfl, Nat.le_of_ble_eq_true rfl⟩) hK hP hD hS hA [0, 1, 2] [] [0, 1, 2] rfl rfl rfl (by decide) (fun _ => rfl) (ci := 7) (q0 := 0) rfl rfl rfl hl.1 rfl (Nat.le_of_ble_eq_true rfl) dX9_writesKind_175 ⟨Nat.le_of_ble_eq_true rfl, Nat.le_of_ble_eq_true rfl⟩ (fun r_175 u9 H locs h hP hD hS => ?_)
    obtain ⟨f_t_v_175, rfl⟩ : ∃ z, z = u9 := ⟨_, rfl⟩
    have hP : va_P D vwCl [(a_t, .inr (7, [.ref a_t_v, .ref a_t_past, .ref a_t_costs, .int t_edits, .int t_thrown, .ref a_t_into, .ref a_t_isNeeded, .ref a_t_depths, .ref a_t_names, .ref a_t_out, .int t_outs, .ref a_t_has])), (a_t_v, .inl (ca 0, 206, .inl f_t_v_175)), (a_t_costs, .inl (ca 0, 3, .inl f_t_costs))] H := hP
    have hD : va_D A [(a_t, .inr (7, [.ref a_t_v, .ref a_t_past, .ref a_t_costs, .int t_edits, .int t_thrown, .ref a_t_into, .ref a_t_isNeeded, .ref a_t_depths, .ref a_t_names, .ref a_t_out, .int t_outs, .ref a_t_has])), (a_t_v, .inl (ca 0, 206, .inl f_t_v_175)), (a_t_costs, .inl (ca 0, 3, .inl f_t_costs))] := hD
    try dsimp only at h
    refine lv_lload_n hx hb dX9_writesKind_178 rfl (lv_at hl 3 rfl) ?_
    refine cPi (As := [.long x2]) (rest := [.int r_175, .int 10, .ref a_t, .int 11, .ref a_t]) ⟨hx, hb, hml, hown, hts⟩ (mX9_twos l x2 _ h) (va_cwS 1 hts (gS q_980 q_981 q_8 q_982) rfl rfl rfl (by decide +kernel) ⟨Nat.le_of_ble_eq_true rfl, Nat.le_of_ble_eq_true rfl⟩) hS rfl hl.1 rfl (Nat.le_of_ble_eq_true rfl) dX9_writesKind_179 ⟨Nat.le_of_ble_eq_true rfl, Nat.le_of_ble_eq_true rfl⟩ (fun r_179 H1 locs h hk1 hS => ?_)
    have hP := s_back hP hk1
    try dsimp only at h
    refine cVi (As := [.int 10, .int r_175, .int r_179]) (rest := [.int 11, .ref a_t]) (wc := [(a_t, .inr (7, [.ref a_t_v, .ref a_t_past, .ref a_t_costs, .int t_edits, .int t_thrown, .ref a_t_into, .ref a_t_isNeeded, .ref a_t_depths, .ref a_t_names, .ref a_t_out, .int t_outs, .ref a_t_has])), (a_t_v, .inl (ca 0, 206, .inl f_t_v_175))]) (wr := [(a_t_costs, .inl (ca 0, 3, .inl f_t_costs))]) (w1 := fun u : (Nat → Int32) => [(a_t, .inr (7, [.ref a_t_v, .ref a_t_past, .ref a_t_costs, .int t_edits, .int t_thrown, .ref a_t_into, .ref a_t_isNeeded, .ref a_t_depths, .ref a_t_names, .ref a_t_out, .int t_outs, .ref a_t_has])), (a_t_v, .inl (ca 0, 206, .inl u))]) (ws2 := fun u : (Nat → Int32) => [(a_t, .inr (7, [.ref a_t_v, .ref a_t_past, .ref a_t_costs, .int t_edits, .int t_thrown, .ref a_t_into, .ref a_t_isNeeded, .ref a_t_depths, .ref a_t_names, .ref a_t_out, .int t_outs, .ref a_t_has])), (a_t_v, .inl (ca 0, 206, .inl u)), (a_t_costs, .inl (ca 0, 3, .inl f_t_costs))]) ⟨hx, hb, hml, hown, hts⟩ (mX9_shifts l D ca a_t a_t_v a_t_past a_t_costs a_t_into a_t_isNeeded a_t_depths a_t_names a_t_out a_t_has _ t_edits t_thrown t_outs f_t_v_175 10 r_175 r_179 _ h) (cwV 3 hts (gV q_1034 q_1036 qs_45 q_8 q_1037) rfl rfl rfl (by decide +kernel) ⟨Nat.le_of_ble_eq_true rfl, Nat.le_of_ble_eq_true rfl⟩) hK hP hD hS hA [0, 1] [2] [1, 2, 0] rfl rfl rfl (by decide) (fun _ => rfl) (ci := 7) (q0 := 0) rfl rfl rfl hl.1 rfl (Nat.le_of_ble_eq_true rfl) dX9_writesKind_182 ⟨Nat.le_of_ble_eq_true rfl, Nat.le_of_ble_eq_true rfl⟩ (fun r_182 u9 H locs h hP hD hS => ?_)
    obtain ⟨f_t_v_182, rfl⟩ : ∃ z, z = u9 := ⟨_, rfl⟩
    have hP : va_P D vwCl [(a_t, .inr (7, [.ref a_t_v, .ref a_t_past, .ref a_t_costs, .int t_edits, .int t_thrown, .ref a_t_into, .ref a_t_isNeeded, .ref a_t_depths, .ref a_t_names, .ref a_t_out, .int t_outs, .ref a_t_has])), (a_t_v, .inl (ca 0, 206, .inl f_t_v_182)), (a_t_costs, .inl (ca 0, 3, .inl f_t_costs))] H := hP
    have hD : va_D A [(a_t, .inr (7, [.ref a_t_v, .ref a_t_past, .ref a_t_costs, .int t_edits, .int t_thrown, .ref a_t_into, .ref a_t_isNeeded, .ref a_t_depths, .ref a_t_names, .ref a_t_out, .int t_outs, .ref a_t_has])), (a_t_v, .inl (ca 0, 206, .inl f_t_v_182)), (a_t_costs, .inl (ca 0, 3, .inl f_t_costs))] := hD
    try dsimp only at h
    refine lv_aload_n hx hb dX9_writesKind_185 rfl (lv_at hl 1 rfl) ?_
    refine cVl (As := []) (rest := [.int r_182, .int 11, .ref a_t]) (wc := [(a_t, .inr (7, [.ref a_t_v, .ref a_t_past, .ref a_t_costs, .int t_edits, .int t_thrown, .ref a_t_into, .ref a_t_isNeeded, .ref a_t_depths, .ref a_t_names, .ref a_t_out, .int t_outs, .ref a_t_has])), (a_t_v, .inl (ca 0, 206, .inl f_t_v_182))]) (wr := [(a_t_costs, .inl (ca 0, 3, .inl f_t_costs))]) (w1 := fun _ : Unit => [(a_t, .inr (7, [.ref a_t_v, .ref a_t_past, .ref a_t_costs, .int t_edits, .int t_thrown, .ref a_t_into, .ref a_t_isNeeded, .ref a_t_depths, .ref a_t_names, .ref a_t_out, .int t_outs, .ref a_t_has])), (a_t_v, .inl (ca 0, 206, .inl f_t_v_182))]) (ws2 := fun _ : Unit => [(a_t, .inr (7, [.ref a_t_v, .ref a_t_past, .ref a_t_costs, .int t_edits, .int t_thrown, .ref a_t_into, .ref a_t_isNeeded, .ref a_t_depths, .ref a_t_names, .ref a_t_out, .int t_outs, .ref a_t_has])), (a_t_v, .inl (ca 0, 206, .inl f_t_v_182)), (a_t_costs, .inl (ca 0, 3, .inl f_t_costs))]) ⟨hx, hb, hml, hown, hts⟩ (mX9_all l D ca a_t a_t_v a_t_past a_t_costs a_t_into a_t_isNeeded a_t_depths a_t_names a_t_out a_t_has _ t_edits t_thrown t_outs f_t_v_182 _ h) (cwV 0 hts (gV q_955 q_957 qs_35 q_8 q_958) rfl rfl rfl (by decide +kernel) ⟨Nat.le_of_ble_eq_true rfl, Nat.le_of_ble_eq_true rfl⟩) hK hP hD hS hA [0, 1] [2] [1, 2, 0] rfl rfl rfl (by decide) (fun _ => rfl) (ci := 7) (q0 := 0) rfl rfl rfl hl.1 rfl (Nat.le_of_ble_eq_true rfl) dX9_writesKind_186 ⟨Nat.le_of_ble_eq_true rfl, Nat.le_of_ble_eq_true rfl⟩ (fun r_186 u9 H locs h hP hD hS => ?_)
    try dsimp only at h
    refine lv_lconst (v := 1) hx hb dX9_writesKind_189 (by decide) ?_
    refine lv_lsub hx hb dX9_writesKind_190 ?_
    refine lv_lload_n hx hb dX9_writesKind_191 rfl (lv_at hl 3 rfl) ?_
    obtain ⟨hne9, h⟩ := h
    refine lv_ldiv hx hb dX9_writesKind_192 hne9 ?_
    refine cVi (As := [.int 11, .int r_182, .long ((r_186 - 1) / x2)]) (rest := []) (wc := [(a_t, .inr (7, [.ref a_t_v, .ref a_t_past, .ref a_t_costs, .int t_edits, .int t_thrown, .ref a_t_into, .ref a_t_isNeeded, .ref a_t_depths, .ref a_t_names, .ref a_t_out, .int t_outs, .ref a_t_has])), (a_t_v, .inl (ca 0, 206, .inl f_t_v_182))]) (wr := [(a_t_costs, .inl (ca 0, 3, .inl f_t_costs))]) (w1 := fun u : (Nat → Int32) => [(a_t, .inr (7, [.ref a_t_v, .ref a_t_past, .ref a_t_costs, .int t_edits, .int t_thrown, .ref a_t_into, .ref a_t_isNeeded, .ref a_t_depths, .ref a_t_names, .ref a_t_out, .int t_outs, .ref a_t_has])), (a_t_v, .inl (ca 0, 206, .inl u))]) (ws2 := fun u : (Nat → Int32) => [(a_t, .inr (7, [.ref a_t_v, .ref a_t_past, .ref a_t_costs, .int t_edits, .int t_thrown, .ref a_t_into, .ref a_t_isNeeded, .ref a_t_depths, .ref a_t_names, .ref a_t_out, .int t_outs, .ref a_t_has])), (a_t_v, .inl (ca 0, 206, .inl u)), (a_t_costs, .inl (ca 0, 3, .inl f_t_costs))]) ⟨hx, hb, hml, hown, hts⟩ (mX9_constant l D ca a_t a_t_v a_t_past a_t_costs a_t_into a_t_isNeeded a_t_depths a_t_names a_t_out a_t_has _ t_edits t_thrown t_outs f_t_v_182 11 r_182 ((r_186 - 1) / x2) _ h) (cwV 3 hts (gV q_1042 q_1044 qs_47 q_8 q_1045) rfl rfl rfl (by decide +kernel) ⟨Nat.le_of_ble_eq_true rfl, Nat.le_of_ble_eq_true rfl⟩) hK hP hD hS hA [0, 1] [2] [1, 2, 0] rfl rfl rfl (by decide) (fun _ => rfl) (ci := 7) (q0 := 0) rfl rfl rfl hl.1 rfl (Nat.le_of_ble_eq_true rfl) dX9_writesKind_193 ⟨Nat.le_of_ble_eq_true rfl, Nat.le_of_ble_eq_true rfl⟩ (fun r_193 u9 H locs h hP hD hS => ?_)
    obtain ⟨f_t_v_193, rfl⟩ : ∃ z, z = u9 := ⟨_, rfl⟩
    have hP : va_P D vwCl [(a_t, .inr (7, [.ref a_t_v, .ref a_t_past, .ref a_t_costs, .int t_edits, .int t_thrown, .ref a_t_into, .ref a_t_isNeeded, .ref a_t_depths, .ref a_t_names, .ref a_t_out, .int t_outs, .ref a_t_has])), (a_t_v, .inl (ca 0, 206, .inl f_t_v_193)), (a_t_costs, .inl (ca 0, 3, .inl f_t_costs))] H := hP
    have hD : va_D A [(a_t, .inr (7, [.ref a_t_v, .ref a_t_past, .ref a_t_costs, .int t_edits, .int t_thrown, .ref a_t_into, .ref a_t_isNeeded, .ref a_t_depths, .ref a_t_names, .ref a_t_out, .int t_outs, .ref a_t_has])), (a_t_v, .inl (ca 0, 206, .inl f_t_v_193)), (a_t_costs, .inl (ca 0, 3, .inl f_t_costs))] := hD
    try dsimp only at h
    exact W.iret (v := r_193) hx hb hr (fun t ht hW => ⟨⟨r_193, f_t_v_193, rfl, h, by rw [ht]; exact hP, va_K.moved hW.alike hK, hD⟩, hS.F ht⟩) hS.2.2 dX9_writesKind_196
  have h := h.2 c9
  have cs_6 := c9
  refine lv_tableOut (tgt := 197) hx hb dX9_writesKind_9 (sw_out (fun j9 h1 h2 hj => ?_)) (by decide) ?_
  · rcases (show j9 = 0 ∨ j9 = 1 ∨ j9 = 2 ∨ j9 = 3 ∨ j9 = 4 ∨ j9 = 5 ∨ j9 = 6 by omega) with rfl | rfl | rfl | rfl | rfl | rfl | rfl
    · exact cs_0 hj
    · exact cs_1 hj
    · exact cs_2 hj
    · exact cs_3 hj
    · exact cs_4 hj
    · exact cs_5 hj
    · exact cs_6 hj
  refine lv_aload_n hx hb dX9_writesKind_197 rfl (lv_at hl 1 rfl) ?_
  refine lv_iconst (v := 0) hx hb dX9_writesKind_198 (by decide) ?_
  refine lv_lload_n hx hb dX9_writesKind_199 rfl (lv_at hl 3 rfl) ?_
  refine cVi (As := [.int 0, .long x2]) (rest := []) (wc := [(a_t, .inr (7, [.ref a_t_v, .ref a_t_past, .ref a_t_costs, .int t_edits, .int t_thrown, .ref a_t_into, .ref a_t_isNeeded, .ref a_t_depths, .ref a_t_names, .ref a_t_out, .int t_outs, .ref a_t_has])), (a_t_v, .inl (ca 0, 206, .inl f_t_v)), (a_t_costs, .inl (ca 0, 3, .inl f_t_costs))]) (wr := []) (w1 := fun u : (Nat → Int32) => [(a_t, .inr (7, [.ref a_t_v, .ref a_t_past, .ref a_t_costs, .int t_edits, .int t_thrown, .ref a_t_into, .ref a_t_isNeeded, .ref a_t_depths, .ref a_t_names, .ref a_t_out, .int t_outs, .ref a_t_has])), (a_t_v, .inl (ca 0, 206, .inl u)), (a_t_costs, .inl (ca 0, 3, .inl f_t_costs))]) (ws2 := fun u : (Nat → Int32) => [(a_t, .inr (7, [.ref a_t_v, .ref a_t_past, .ref a_t_costs, .int t_edits, .int t_thrown, .ref a_t_into, .ref a_t_isNeeded, .ref a_t_depths, .ref a_t_names, .ref a_t_out, .int t_outs, .ref a_t_has])), (a_t_v, .inl (ca 0, 206, .inl u)), (a_t_costs, .inl (ca 0, 3, .inl f_t_costs))]) ⟨hx, hb, hml, hown, hts⟩ (mX9_product l D ca a_t a_t_v a_t_past a_t_costs a_t_into a_t_isNeeded a_t_depths a_t_names a_t_out a_t_has _ t_edits t_thrown t_outs f_t_v f_t_costs 0 x2 _ h) (cwV 2 hts (gV q_1050 q_1052 qs_49 q_8 q_1053) rfl rfl rfl (by decide +kernel) ⟨Nat.le_of_ble_eq_true rfl, Nat.le_of_ble_eq_true rfl⟩) hK hP hD hS hA [0, 1, 2] [] [0, 1, 2] rfl rfl rfl (by decide) (fun _ => rfl) (ci := 7) (q0 := 0) rfl rfl rfl hl.1 rfl (Nat.le_of_ble_eq_true rfl) dX9_writesKind_200 ⟨Nat.le_of_ble_eq_true rfl, Nat.le_of_ble_eq_true rfl⟩ (fun r_200 u9 H locs h hP hD hS => ?_)
  obtain ⟨f_t_v_200, rfl⟩ : ∃ z, z = u9 := ⟨_, rfl⟩
  have hP : va_P D vwCl [(a_t, .inr (7, [.ref a_t_v, .ref a_t_past, .ref a_t_costs, .int t_edits, .int t_thrown, .ref a_t_into, .ref a_t_isNeeded, .ref a_t_depths, .ref a_t_names, .ref a_t_out, .int t_outs, .ref a_t_has])), (a_t_v, .inl (ca 0, 206, .inl f_t_v_200)), (a_t_costs, .inl (ca 0, 3, .inl f_t_costs))] H := hP
  have hD : va_D A [(a_t, .inr (7, [.ref a_t_v, .ref a_t_past, .ref a_t_costs, .int t_edits, .int t_thrown, .ref a_t_into, .ref a_t_isNeeded, .ref a_t_depths, .ref a_t_names, .ref a_t_out, .int t_outs, .ref a_t_has])), (a_t_v, .inl (ca 0, 206, .inl f_t_v_200)), (a_t_costs, .inl (ca 0, 3, .inl f_t_costs))] := hD
  try dsimp only at h
  exact W.iret (v := r_200) hx hb hr (fun t ht hW => ⟨⟨r_200, f_t_v_200, rfl, h, by rw [ht]; exact hP, va_K.moved hW.alike hK, hD⟩, hS.F ht⟩) hS.2.2 dX9_writesKind_203
