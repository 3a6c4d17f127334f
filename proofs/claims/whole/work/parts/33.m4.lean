abbrev qX9_areLike (D : va_G) (ca : Nat → ClassId) (a_t a_t_v a_t_past a_t_costs a_t_into a_t_isNeeded a_t_depths a_t_names a_t_out a_t_has : Nat) (t_edits : Int32) (t_thrown : Int32) (t_outs : Int32) (f_t_v : Nat → Int32) (Q : Int32 → Prop) (A : Nat → Prop) : Array Value → State → Outcome → State → Prop := va_Qi (fun (r : Int32) (_ : Unit) => Q r) (wEnd D ca (fun _ : Unit => [(a_t, .inr (7, [.ref a_t_v, .ref a_t_past, .ref a_t_costs, .int t_edits, .int t_thrown, .ref a_t_into, .ref a_t_isNeeded, .ref a_t_depths, .ref a_t_names, .ref a_t_out, .int t_outs, .ref a_t_has])), (a_t_v, .inl (ca 0, 206, .inl f_t_v))]) A) A
def wX9_areLike_49 (x4_5 : Int32) (K5 : Int32 → Int32 → Prop) (y0_49 : Int32) : Prop :=
  (∀ x4_50 : Int32, x4_50 = x4_5 + 1 → K5 y0_49 x4_50)
def wX9_areLike_48 (x4_5 : Int32) (K5 : Int32 → Int32 → Prop) : Prop :=
  wX9_areLike_49 x4_5 K5 0
def wX9_areLike_5 (f_t_v : Nat → Int32) (x1 : Int32) (x2 : Int32) (Q : Int32 → Prop) : Nat → Int32 → Int32 → Prop
  | 0, _, _ => False
  | n9 + 1, x3_5, x4_5 =>
  ((5 ≤ x4_5 → (narrow .boolean (.int x3_5) = .int x3_5 ∧ Q x3_5)) ∧ (¬ 5 ≤ x4_5 → ((x3_5 = 0 → wX9_areLike_48 x4_5 (wX9_areLike_5 f_t_v x1 x2 Q n9)) ∧ (¬ x3_5 = 0 → (vp_in ((5 + (5 * x1)) + x4_5) 206 ∧ (vp_in ((5 + (5 * x2)) + x4_5) 206 ∧ (((f_t_v ((5 + (5 * x1)) + x4_5).toNatClampNeg) = (f_t_v ((5 + (5 * x2)) + x4_5).toNatClampNeg) → wX9_areLike_49 x4_5 (wX9_areLike_5 f_t_v x1 x2 Q n9) 1) ∧ (¬ (f_t_v ((5 + (5 * x1)) + x4_5).toNatClampNeg) = (f_t_v ((5 + (5 * x2)) + x4_5).toNatClampNeg) → wX9_areLike_48 x4_5 (wX9_areLike_5 f_t_v x1 x2 Q n9)))))))))
def wX9_areLike (f_t_v : Nat → Int32) (x1 : Int32) (x2 : Int32) (Q : Int32 → Prop) : Prop :=
  (∃ k9, wX9_areLike_5 f_t_v x1 x2 Q k9 1 0)
set_option maxHeartbeats 4000000 in
set_option maxRecDepth 100000 in
theorem mX9_areLike (l : Launch) (D : va_G) (ca : Nat → ClassId) (a_t a_t_v a_t_past a_t_costs a_t_into a_t_isNeeded a_t_depths a_t_names a_t_out a_t_has : Nat) (sz : Nat) (t_edits : Int32) (t_thrown : Int32) (t_outs : Int32) (f_t_v : Nat → Int32) (x1 : Int32) (x2 : Int32) (Q : Int32 → Prop) (h : wX9_areLike f_t_v x1 x2 Q) : Met l yX9_areLike (Cond.code yX9_areLike cX9_areLike 5 (some .boolean) :: wsG) ({ frames := 0, cells := 0, slots := 0, locals := 0 } : Room) (va_Pc [.ref a_t, .int x1, .int x2] (wPre D ca [(a_t, .inr (7, [.ref a_t_v, .ref a_t_past, .ref a_t_costs, .int t_edits, .int t_thrown, .ref a_t_into, .ref a_t_isNeeded, .ref a_t_depths, .ref a_t_names, .ref a_t_out, .int t_outs, .ref a_t_has])), (a_t_v, .inl (ca 0, 206, .inl f_t_v))] sz)) (qX9_areLike D ca a_t a_t_v a_t_past a_t_costs a_t_into a_t_isNeeded a_t_depths a_t_names a_t_out a_t_has t_edits t_thrown t_outs f_t_v Q (va_A [(a_t, .inr (7, [.ref a_t_v, .ref a_t_past, .ref a_t_costs, .int t_edits, .int t_thrown, .ref a_t_into, .ref a_t_isNeeded, .ref a_t_depths, .ref a_t_names, .ref a_t_out, .int t_outs, .ref a_t_has])), (a_t_v, .inl (ca 0, 206, .inl f_t_v))] sz)) 0 0 (va_A [(a_t, .inr (7, [.ref a_t_v, .ref a_t_past, .ref a_t_costs, .int t_edits, .int t_thrown, .ref a_t_into, .ref a_t_isNeeded, .ref a_t_depths, .ref a_t_names, .ref a_t_out, .int t_outs, .ref a_t_has])), (a_t_v, .inl (ca 0, 206, .inl f_t_v))] sz) := by
  refine Met.ofW (cc := cX9_areLike) (maxL := 5) (ret := (some .boolean)) (by decide) rfl ?_
  intro p e s m args below meth c s₁ B hml hv
  obtain ⟨rfl, hsz, hP, hK, hD0⟩ := hv
  have hx := B.exec
  have hb := B.bytes
  have hr := B.returns
  have hts := atoms_spec (ws := (Cond.code yX9_areLike cX9_areLike 5 (some .boolean) :: wsG)) B.pre
  have hq : ∀ w ∈ wsG, w.before _ s = true := fun w hw => hts w (List.mem_cons_of_mem _ hw)
  have hown : s.vm.findClass RX9 = some m.cls := findClass_of_methodNamed B.named
  have hlocks := B.notSynchronized
  subst hsz
  have hD := hD0.self (sz := s.heap.size)
  generalize hAe : va_A [(a_t, .inr (7, [.ref a_t_v, .ref a_t_past, .ref a_t_costs, .int t_edits, .int t_thrown, .ref a_t_into, .ref a_t_isNeeded, .ref a_t_depths, .ref a_t_names, .ref a_t_out, .int t_outs, .ref a_t_has])), (a_t_v, .inl (ca 0, 206, .inl f_t_v))] s.heap.size = A at hD ⊢
  have hA : ∀ q : Nat, s.heap.size ≤ q → A q := fun q h => by rw [← hAe]; exact Or.inr h
  have hS : va_S A s.heap s.heap [] := va_S.rf
  have hP : va_P D vwCl [(a_t, .inr (7, [.ref a_t_v, .ref a_t_past, .ref a_t_costs, .int t_edits, .int t_thrown, .ref a_t_into, .ref a_t_isNeeded, .ref a_t_depths, .ref a_t_names, .ref a_t_out, .int t_outs, .ref a_t_has])), (a_t_v, .inl (ca 0, 206, .inl f_t_v))] s.heap := hP
  have hl := lv_entry ([.ref a_t, .int x1, .int x2]) (n := 5) (Nat.le_of_ble_eq_true rfl)
  rw [lg_entry_eq]
  generalize (lg_sl ([.ref a_t, .int x1, .int x2]) ++ List.replicate (5 - (lg_sl ([.ref a_t, .int x1, .int x2])).length) Slot.unset).toArray = ls at hl ⊢
  have hl : lv_has ls 5 [(0, .ref a_t), (1, .int x1), (2, .int x2)] := hl
  unfold wX9_areLike at h
  refine lv_iconst (v := 1) hx hb dX9_areLike_0 (by decide) ?_
  refine lv_istore_n (lv' := [(3, .int 1), (0, .ref a_t), (1, .int x1), (2, .int x2)]) hx hb dX9_areLike_1 rfl hl (by decide) rfl (fun ls hl => ?_)
  refine lv_iconst (v := 0) hx hb dX9_areLike_2 (by decide) ?_
  refine lv_istore (lv' := [(4, .int 0), (3, .int 1), (0, .ref a_t), (1, .int x1), (2, .int x2)]) hx hb dX9_areLike_3 hl (by decide) rfl (fun ls hl => ?_)
  have hL5 : ∀ (n9_5 : Nat) (x3_5 : Int32) (x4_5 : Int32) (H : Heap) (locs : List Loc) (ls : Array Slot), va_P D vwCl [(a_t, .inr (7, [.ref a_t_v, .ref a_t_past, .ref a_t_costs, .int t_edits, .int t_thrown, .ref a_t_into, .ref a_t_isNeeded, .ref a_t_depths, .ref a_t_names, .ref a_t_out, .int t_outs, .ref a_t_has])), (a_t_v, .inl (ca 0, 206, .inl f_t_v))] H → va_D A [(a_t, .inr (7, [.ref a_t_v, .ref a_t_past, .ref a_t_costs, .int t_edits, .int t_thrown, .ref a_t_into, .ref a_t_isNeeded, .ref a_t_depths, .ref a_t_names, .ref a_t_out, .int t_outs, .ref a_t_has])), (a_t_v, .inl (ca 0, 206, .inl f_t_v))] → va_S A s.heap H locs → lv_has ls 5 [(0, .ref a_t), (1, .int x1), (2, .int x2), (3, .int x3_5), (4, .int x4_5)] → wX9_areLike_5 f_t_v x1 x2 Q n9_5 x3_5 x4_5 → W p l e (headSpec (Cond.code yX9_areLike cX9_areLike 5 (some .boolean) :: wsG) ({ frames := 0, cells := 0, slots := 0, locals := 0 } : Room)).room s m ([.ref a_t, .int x1, .int x2] : List Value).toArray below meth c H locs 0 0 (MQ below (qX9_areLike D ca a_t a_t_v a_t_past a_t_costs a_t_into a_t_isNeeded a_t_depths a_t_names a_t_out a_t_has t_edits t_thrown t_outs f_t_v Q A) ([.ref a_t, .int x1, .int x2] : List Value).toArray s 0 0 A) (F0 m 5 ls []) := by
    intro n9_5
    induction n9_5 with
    | zero =>
      intro x3_5 x4_5 H locs ls hP hD hS hl h
      exact False.elim h
    | succ n9_5 ih5 =>
      intro x3_5 x4_5 H locs ls hP hD hS hl h
      unfold wX9_areLike_5 at h
      refine lv_iload hx hb dX9_areLike_5 (lv_at hl 4 rfl) ?_
      refine lv_iconst (v := 5) hx hb dX9_areLike_7 (by decide) ?_
      refine lv_icmp_ge (tgt := 56) hx hb dX9_areLike_8 (by decide) (fun c9 => ?_) (fun c9 => ?_)
      · have h := h.1 c9
        refine lv_iload_n hx hb dX9_areLike_56 rfl (lv_at hl 3 rfl) ?_
        obtain ⟨hn9, h⟩ := h
        exact W.zret (v := x3_5) hx hb hr hn9 (fun t ht hW => ⟨⟨x3_5, (), rfl, h, by rw [ht]; exact hP, va_K.moved hW.alike hK, hD⟩, hS.F ht⟩) hS.2.2 dX9_areLike_57
      · have h := h.2 c9
        refine lv_iload_n hx hb dX9_areLike_11 rfl (lv_at hl 3 rfl) ?_
        have hJ49 : ∀ (y0_49 : Int32) (H : Heap) (locs : List Loc) (ls : Array Slot), va_P D vwCl [(a_t, .inr (7, [.ref a_t_v, .ref a_t_past, .ref a_t_costs, .int t_edits, .int t_thrown, .ref a_t_into, .ref a_t_isNeeded, .ref a_t_depths, .ref a_t_names, .ref a_t_out, .int t_outs, .ref a_t_has])), (a_t_v, .inl (ca 0, 206, .inl f_t_v))] H → va_D A [(a_t, .inr (7, [.ref a_t_v, .ref a_t_past, .ref a_t_costs, .int t_edits, .int t_thrown, .ref a_t_into, .ref a_t_isNeeded, .ref a_t_depths, .ref a_t_names, .ref a_t_out, .int t_outs, .ref a_t_has])), (a_t_v, .inl (ca 0, 206, .inl f_t_v))] → va_S A s.heap H locs → lv_has ls 5 [(0, .ref a_t), (1, .int x1), (2, .int x2), (4, .int x4_5)] → wX9_areLike_49 x4_5 (wX9_areLike_5 f_t_v x1 x2 Q n9_5) y0_49 → W p l e (headSpec (Cond.code yX9_areLike cX9_areLike 5 (some .boolean) :: wsG) ({ frames := 0, cells := 0, slots := 0, locals := 0 } : Room)).room s m ([.ref a_t, .int x1, .int x2] : List Value).toArray below meth c H locs 0 0 (MQ below (qX9_areLike D ca a_t a_t_v a_t_past a_t_costs a_t_into a_t_isNeeded a_t_depths a_t_names a_t_out a_t_has t_edits t_thrown t_outs f_t_v Q A) ([.ref a_t, .int x1, .int x2] : List Value).toArray s 0 0 A) (F0 m 49 ls [.int y0_49]) := by
          intro y0_49 H locs ls hP hD hS hl h
          unfold wX9_areLike_49 at h
          refine lv_istore_n (lv' := [(3, .int y0_49), (0, .ref a_t), (1, .int x1), (2, .int x2), (4, .int x4_5)]) hx hb dX9_areLike_49 rfl hl (by decide) rfl (fun ls hl => ?_)
          obtain ⟨x4_50, ex4_50⟩ : ∃ y : Int32, y = x4_5 + 1 := ⟨_, rfl⟩
          have h := h x4_50 ex4_50
          refine lv_iinc (v := x4_50) (lv' := [(4, .int x4_50), (3, .int y0_49), (0, .ref a_t), (1, .int x1), (2, .int x2)]) hx hb dX9_areLike_50 hl (k := 4) rfl (by rw [ex4_50]; rfl) (by decide) rfl (fun ls hl => ?_)
          refine lv_goto (tgt := 5) hx hb dX9_areLike_53 (by decide) ?_
          exact ih5 y0_49 x4_50 _ _ _ hP hD hS (lv_sub hl [2, 3, 4, 1, 0] rfl) h
        have hJ48 : ∀ (H : Heap) (locs : List Loc) (ls : Array Slot), va_P D vwCl [(a_t, .inr (7, [.ref a_t_v, .ref a_t_past, .ref a_t_costs, .int t_edits, .int t_thrown, .ref a_t_into, .ref a_t_isNeeded, .ref a_t_depths, .ref a_t_names, .ref a_t_out, .int t_outs, .ref a_t_has])), (a_t_v, .inl (ca 0, 206, .inl f_t_v))] H → va_D A [(a_t, .inr (7, [.ref a_t_v, .ref a_t_past, .ref a_t_costs, .int t_edits, .int t_thrown, .ref a_t_into, .ref a_t_isNeeded, .ref a_t_depths, .ref a_t_names, .ref a_t_out, .int t_outs, .ref a_t_has])), (a_t_v, .inl (ca 0, 206, .inl f_t_v))] → va_S A s.heap H locs → lv_has ls 5 [(0, .ref a_t), (1, .int x1), (2, .int x2), (4, .int x4_5)] → wX9_areLike_48 x4_5 (wX9_areLike_5 f_t_v x1 x2 Q n9_5) → W p l e (headSpec (Cond.code yX9_areLike cX9_areLike 5 (some .boolean) :: wsG) ({ frames := 0, cells := 0, slots := 0, locals := 0 } : Room)).room s m ([.ref a_t, .int x1, .int x2] : List Value).toArray below meth c H locs 0 0 (MQ below (qX9_areLike D ca a_t a_t_v a_t_past a_t_costs a_t_into a_t_isNeeded a_t_depths a_t_names a_t_out a_t_has t_edits t_thrown t_outs f_t_v Q A) ([.ref a_t, .int x1, .int x2] : List Value).toArray s 0 0 A) (F0 m 48 ls []) := by
          intro  H locs ls hP hD hS hl h
          unfold wX9_areLike_48 at h
          refine lv_iconst (v := 0) hx hb dX9_areLike_48 (by decide) ?_
          exact hJ49 0 _ _ _ hP hD hS (lv_sub hl [0, 1, 2, 3] rfl) h
        refine lv_if_eq (tgt := 48) hx hb dX9_areLike_12 (by decide) (fun c9 => ?_) (fun c9 => ?_)
        · have h := h.1 c9
          exact hJ48 _ _ _ hP hD hS (lv_sub hl [0, 1, 2, 4] rfl) h
        · have h := h.2 c9
          refine lv_aload_n hx hb dX9_areLike_15 rfl (lv_at hl 0 rfl) ?_
          refine va_get (D := D) (ci := 7) (v := .ref a_t_v) (C := RX9) (T := TX9) (N := 12) hx hb hq inX9g hown hK hP 0 rfl rfl 0 (by decide) (hq _ q_881) (fun _ h9 => h9) rfl dX9_areLike_16 ?_
          refine lv_iconst (v := 5) hx hb dX9_areLike_19 (by decide) ?_
          refine lv_iconst (v := 5) hx hb dX9_areLike_20 (by decide) ?_
          refine lv_iload_n hx hb dX9_areLike_21 rfl (lv_at hl 1 rfl) ?_
          refine lv_imul hx hb dX9_areLike_22 ?_
          refine lv_iadd hx hb dX9_areLike_23 ?_
          refine lv_iload hx hb dX9_areLike_24 (lv_at hl 4 rfl) ?_
          refine lv_iadd hx hb dX9_areLike_26 ?_
          obtain ⟨hi9, h⟩ := h
          refine va_iald hx hb hK hP 1 0 rfl rfl hi9 dX9_areLike_27 ?_
          refine lv_aload_n hx hb dX9_areLike_28 rfl (lv_at hl 0 rfl) ?_
          refine va_get (D := D) (ci := 7) (v := .ref a_t_v) (C := RX9) (T := TX9) (N := 12) hx hb hq inX9g hown hK hP 0 rfl rfl 0 (by decide) (hq _ q_881) (fun _ h9 => h9) rfl dX9_areLike_29 ?_
          refine lv_iconst (v := 5) hx hb dX9_areLike_32 (by decide) ?_
          refine lv_iconst (v := 5) hx hb dX9_areLike_33 (by decide) ?_
          refine lv_iload_n hx hb dX9_areLike_34 rfl (lv_at hl 2 rfl) ?_
          refine lv_imul hx hb dX9_areLike_35 ?_
          refine lv_iadd hx hb dX9_areLike_36 ?_
          refine lv_iload hx hb dX9_areLike_37 (lv_at hl 4 rfl) ?_
          refine lv_iadd hx hb dX9_areLike_39 ?_
          obtain ⟨hi9, h⟩ := h
          refine va_iald hx hb hK hP 1 0 rfl rfl hi9 dX9_areLike_40 ?_
          refine lv_icmp_ne (tgt := 48) hx hb dX9_areLike_41 (by decide) (fun c9 => ?_) (fun c9 => ?_)
          · have h := h.2 c9
            exact hJ48 _ _ _ hP hD hS (lv_sub hl [0, 1, 2, 4] rfl) h
          · have h := h.1 c9
            refine lv_iconst (v := 1) hx hb dX9_areLike_44 (by decide) ?_
            refine lv_goto (tgt := 49) hx hb dX9_areLike_45 (by decide) ?_
            exact hJ49 1 _ _ _ hP hD hS (lv_sub hl [0, 1, 2, 4] rfl) h
  obtain ⟨k9, h⟩ := h
  exact hL5 k9 1 0 _ _ _ hP hD hS (lv_sub hl [2, 3, 4, 1, 0] rfl) h

abbrev qX9_replaces (D : va_G) (ca : Nat → ClassId) (a_t a_t_v a_t_past a_t_costs a_t_into a_t_isNeeded a_t_depths a_t_names a_t_out a_t_has : Nat) (t_edits : Int32) (t_thrown : Int32) (t_outs : Int32) (f_t_into : Nat → Int32) (Q : (Nat → Int32) → Prop) (A : Nat → Prop) : Array Value → State → Outcome → State → Prop := va_Qv (fun (u : (Nat → Int32)) => Q u) (wEnd D ca (fun u : (Nat → Int32) => [(a_t, .inr (7, [.ref a_t_v, .ref a_t_past, .ref a_t_costs, .int t_edits, .int t_thrown, .ref a_t_into, .ref a_t_isNeeded, .ref a_t_depths, .ref a_t_names, .ref a_t_out, .int t_outs, .ref a_t_has])), (a_t_v, .inl (ca 0, 206, .inl u)), (a_t_into, .inl (ca 0, 41, .inl f_t_into))]) A) A
def wX9_replaces_93 (f_t_v : Nat → Int32) (Q : (Nat → Int32) → Prop) (x2_5 : Int32) (y2_49 : Int32) (y2_93 : Int32) : Prop :=
  (vp_in (x2_5 + 4) 206 ∧ Q (upd (upd f_t_v (x2_5 + 2).toNatClampNeg y2_49) (x2_5 + 4).toNatClampNeg y2_93))
def wX9_replaces_49 (f_t_v : Nat → Int32) (f_t_into : Nat → Int32) (Q : (Nat → Int32) → Prop) (x2_5 : Int32) (y2_49 : Int32) : Prop :=
  (vp_in (x2_5 + 2) 206 ∧ (vp_in (x2_5 + 3) 206 ∧ ((((upd f_t_v (x2_5 + 2).toNatClampNeg y2_49) (x2_5 + 3).toNatClampNeg) = 1 → (vp_in (x2_5 + 4) 206 ∧ wX9_replaces_93 f_t_v Q x2_5 y2_49 ((upd f_t_v (x2_5 + 2).toNatClampNeg y2_49) (x2_5 + 4).toNatClampNeg))) ∧ (¬ ((upd f_t_v (x2_5 + 2).toNatClampNeg y2_49) (x2_5 + 3).toNatClampNeg) = 1 → (vp_in (x2_5 + 4) 206 ∧ (vp_in ((upd f_t_v (x2_5 + 2).toNatClampNeg y2_49) (x2_5 + 4).toNatClampNeg) 41 ∧ wX9_replaces_93 f_t_v Q x2_5 y2_49 (f_t_into ((upd f_t_v (x2_5 + 2).toNatClampNeg y2_49) (x2_5 + 4).toNatClampNeg).toNatClampNeg)))))))
def wX9_replaces (f_t_v : Nat → Int32) (f_t_into : Nat → Int32) (x1 : Int32) (Q : (Nat → Int32) → Prop) : Prop :=
  (∀ x2_5 : Int32, x2_5 = 5 + (5 * x1) → (vp_in (x2_5 + 1) 206 ∧ (((f_t_v (x2_5 + 1).toNatClampNeg) = 1 → (vp_in (x2_5 + 2) 206 ∧ wX9_replaces_49 f_t_v f_t_into Q x2_5 (f_t_v (x2_5 + 2).toNatClampNeg))) ∧ (¬ (f_t_v (x2_5 + 1).toNatClampNeg) = 1 → (vp_in (x2_5 + 2) 206 ∧ (vp_in (f_t_v (x2_5 + 2).toNatClampNeg) 41 ∧ wX9_replaces_49 f_t_v f_t_into Q x2_5 (f_t_into (f_t_v (x2_5 + 2).toNatClampNeg).toNatClampNeg)))))))
set_option maxHeartbeats 4000000 in
set_option maxRecDepth 100000 in
theorem mX9_replaces (l : Launch) (D : va_G) (ca : Nat → ClassId) (a_t a_t_v a_t_past a_t_costs a_t_into a_t_isNeeded a_t_depths a_t_names a_t_out a_t_has : Nat) (sz : Nat) (t_edits : Int32) (t_thrown : Int32) (t_outs : Int32) (f_t_v : Nat → Int32) (f_t_into : Nat → Int32) (x1 : Int32) (Q : (Nat → Int32) → Prop) (h : wX9_replaces f_t_v f_t_into x1 Q) : Met l yX9_replaces (Cond.code yX9_replaces cX9_replaces 3 none :: wsG) ({ frames := 0, cells := 0, slots := 0, locals := 0 } : Room) (va_Pc [.ref a_t, .int x1] (wPre D ca [(a_t, .inr (7, [.ref a_t_v, .ref a_t_past, .ref a_t_costs, .int t_edits, .int t_thrown, .ref a_t_into, .ref a_t_isNeeded, .ref a_t_depths, .ref a_t_names, .ref a_t_out, .int t_outs, .ref a_t_has])), (a_t_v, .inl (ca 0, 206, .inl f_t_v)), (a_t_into, .inl (ca 0, 41, .inl f_t_into))] sz)) (qX9_replaces D ca a_t a_t_v a_t_past a_t_costs a_t_into a_t_isNeeded a_t_depths a_t_names a_t_out a_t_has t_edits t_thrown t_outs f_t_into Q (va_A [(a_t, .inr (7, [.ref a_t_v, .ref a_t_past, .ref a_t_costs, .int t_edits, .int t_thrown, .ref a_t_into, .ref a_t_isNeeded, .ref a_t_depths, .ref a_t_names, .ref a_t_out, .int t_outs, .ref a_t_has])), (a_t_v, .inl (ca 0, 206, .inl f_t_v)), (a_t_into, .inl (ca 0, 41, .inl f_t_into))] sz)) 0 0 (va_A [(a_t, .inr (7, [.ref a_t_v, .ref a_t_past, .ref a_t_costs, .int t_edits, .int t_thrown, .ref a_t_into, .ref a_t_isNeeded, .ref a_t_depths, .ref a_t_names, .ref a_t_out, .int t_outs, .ref a_t_has])), (a_t_v, .inl (ca 0, 206, .inl f_t_v)), (a_t_into, .inl (ca 0, 41, .inl f_t_into))] sz) := by
  refine Met.ofW (cc := cX9_replaces) (maxL := 3) (ret := none) (by decide) rfl ?_
  intro p e s m args below meth c s₁ B hml hv
  obtain ⟨rfl, hsz, hP, hK, hD0⟩ := hv
  have hx := B.exec
  have hb := B.bytes
  have hr := B.returns
  have hts := atoms_spec (ws := (Cond.code yX9_replaces cX9_replaces 3 none :: wsG)) B.pre
  have hq : ∀ w ∈ wsG, w.before _ s = true := fun w hw => hts w (List.mem_cons_of_mem _ hw)
  have hown : s.vm.findClass RX9 = some m.cls := findClass_of_methodNamed B.named
  have hlocks := B.notSynchronized
  subst hsz
  have hD := hD0.self (sz := s.heap.size)
  generalize hAe : va_A [(a_t, .inr (7, [.ref a_t_v, .ref a_t_past, .ref a_t_costs, .int t_edits, .int t_thrown, .ref a_t_into, .ref a_t_isNeeded, .ref a_t_depths, .ref a_t_names, .ref a_t_out, .int t_outs, .ref a_t_has])), (a_t_v, .inl (ca 0, 206, .inl f_t_v)), (a_t_into, .inl (ca 0, 41, .inl f_t_into))] s.heap.size = A at hD ⊢
  have hA : ∀ q : Nat, s.heap.size ≤ q → A q := fun q h => by rw [← hAe]; exact Or.inr h
  have hS : va_S A s.heap s.heap [] := va_S.rf
  have hP : va_P D vwCl [(a_t, .inr (7, [.ref a_t_v, .ref a_t_past, .ref a_t_costs, .int t_edits, .int t_thrown, .ref a_t_into, .ref a_t_isNeeded, .ref a_t_depths, .ref a_t_names, .ref a_t_out, .int t_outs, .ref a_t_has])), (a_t_v, .inl (ca 0, 206, .inl f_t_v)), (a_t_into, .inl (ca 0, 41, .inl f_t_into))] s.heap := hP
  have hl := lv_entry ([.ref a_t, .int x1]) (n := 3) (Nat.le_of_ble_eq_true rfl)
  rw [lg_entry_eq]
  generalize (lg_sl ([.ref a_t, .int x1]) ++ List.replicate (3 - (lg_sl ([.ref a_t, .int x1])).length) Slot.unset).toArray = ls at hl ⊢
  have hl : lv_has ls 3 [(0, .ref a_t), (1, .int x1)] := hl
  unfold wX9_replaces at h
  refine lv_iconst (v := 5) hx hb dX9_replaces_0 (by decide) ?_
  refine lv_iconst (v := 5) hx hb dX9_replaces_1 (by decide) ?_
  refine lv_iload_n hx hb dX9_replaces_2 rfl (lv_at hl 1 rfl) ?_
  refine lv_imul hx hb dX9_replaces_3 ?_
  refine lv_iadd hx hb dX9_replaces_4 ?_
  refine lv_topi (fun x2_5 ex2_5 => ?_)
  have h := h x2_5 ex2_5
  refine lv_istore_n (lv' := [(2, .int x2_5), (0, .ref a_t), (1, .int x1)]) hx hb dX9_replaces_5 rfl hl (by decide) rfl (fun ls hl => ?_)
  refine lv_aload_n hx hb dX9_replaces_6 rfl (lv_at hl 1 rfl) ?_
  refine va_get (D := D) (ci := 7) (v := .ref a_t_v) (C := RX9) (T := TX9) (N := 12) hx hb hq inX9g hown hK hP 0 rfl rfl 0 (by decide) (hq _ q_881) (fun _ h9 => h9) rfl dX9_replaces_7 ?_
  refine lv_iload_n hx hb dX9_replaces_10 rfl (lv_at hl 0 rfl) ?_
  refine lv_iconst (v := 2) hx hb dX9_replaces_11 (by decide) ?_
  refine lv_iadd hx hb dX9_replaces_12 ?_
  refine lv_aload_n hx hb dX9_replaces_13 rfl (lv_at hl 1 rfl) ?_
  refine va_get (D := D) (ci := 7) (v := .ref a_t_v) (C := RX9) (T := TX9) (N := 12) hx hb hq inX9g hown hK hP 0 rfl rfl 0 (by decide) (hq _ q_881) (fun _ h9 => h9) rfl dX9_replaces_14 ?_
  refine lv_iload_n hx hb dX9_replaces_17 rfl (lv_at hl 0 rfl) ?_
  refine lv_iconst (v := 1) hx hb dX9_replaces_18 (by decide) ?_
  refine lv_iadd hx hb dX9_replaces_19 ?_
  obtain ⟨hi9, h⟩ := h
  refine va_iald hx hb hK hP 1 0 rfl rfl hi9 dX9_replaces_20 ?_
  refine lv_iconst (v := 1) hx hb dX9_replaces_21 (by decide) ?_
  have hJ49 : ∀ (y2_49 : Int32) (H : Heap) (locs : List Loc) (ls : Array Slot), va_P D vwCl [(a_t, .inr (7, [.ref a_t_v, .ref a_t_past, .ref a_t_costs, .int t_edits, .int t_thrown, .ref a_t_into, .ref a_t_isNeeded, .ref a_t_depths, .ref a_t_names, .ref a_t_out, .int t_outs, .ref a_t_has])), (a_t_v, .inl (ca 0, 206, .inl f_t_v)), (a_t_into, .inl (ca 0, 41, .inl f_t_into))] H → va_D A [(a_t, .inr (7, [.ref a_t_v, .ref a_t_past, .ref a_t_costs, .int t_edits, .int t_thrown, .ref a_t_into, .ref a_t_isNeeded, .ref a_t_depths, .ref a_t_names, .ref a_t_out, .int t_outs, .ref a_t_has])), (a_t_v, .inl (ca 0, 206, .inl f_t_v)), (a_t_into, .inl (ca 0, 41, .inl f_t_into))] → va_S A s.heap H locs → lv_has ls 3 [(0, .ref a_t), (2, .int x2_5)] → wX9_replaces_49 f_t_v f_t_into Q x2_5 y2_49 → W p l e (headSpec (Cond.code yX9_replaces cX9_replaces 3 none :: wsG) ({ frames := 0, cells := 0, slots := 0, locals := 0 } : Room)).room s m ([.ref a_t, .int x1] : List Value).toArray below meth c H locs 0 0 (MQ below (qX9_replaces D ca a_t a_t_v a_t_past a_t_costs a_t_into a_t_isNeeded a_t_depths a_t_names a_t_out a_t_has t_edits t_thrown t_outs f_t_into Q A) ([.ref a_t, .int x1] : List Value).toArray s 0 0 A) (F0 m 49 ls [.int y2_49, .int (x2_5 + 2), .ref a_t_v]) := by
    intro y2_49 H locs ls hP hD hS hl h
    unfold wX9_replaces_49 at h
    obtain ⟨hi9, h⟩ := h
    refine va_iast hx hb hK hP hD hS 1 0 rfl rfl hi9 dX9_replaces_49 (fun H locs hP hD hS => ?_)
    have hP : va_P D vwCl [(a_t, .inr (7, [.ref a_t_v, .ref a_t_past, .ref a_t_costs, .int t_edits, .int t_thrown, .ref a_t_into, .ref a_t_isNeeded, .ref a_t_depths, .ref a_t_names, .ref a_t_out, .int t_outs, .ref a_t_has])), (a_t_v, .inl (ca 0, 206, .inl (upd f_t_v (x2_5 + 2).toNatClampNeg y2_49))), (a_t_into, .inl (ca 0, 41, .inl f_t_into))] H := hP
    have hD : va_D A [(a_t, .inr (7, [.ref a_t_v, .ref a_t_past, .ref a_t_costs, .int t_edits, .int t_thrown, .ref a_t_into, .ref a_t_isNeeded, .ref a_t_depths, .ref a_t_names, .ref a_t_out, .int t_outs, .ref a_t_has])), (a_t_v, .inl (ca 0, 206, .inl (upd f_t_v (x2_5 + 2).toNatClampNeg y2_49))), (a_t_into, .inl (ca 0, 41, .inl f_t_into))] := hD
    refine lv_aload_n hx hb dX9_replaces_50 rfl (lv_at hl 0 rfl) ?_
    refine va_get (D := D) (ci := 7) (v := .ref a_t_v) (C := RX9) (T := TX9) (N := 12) hx hb hq inX9g hown hK hP 0 rfl rfl 0 (by decide) (hq _ q_881) (fun _ h9 => h9) rfl dX9_replaces_51 ?_
    refine lv_iload_n hx hb dX9_replaces_54 rfl (lv_at hl 1 rfl) ?_
    refine lv_iconst (v := 4) hx hb dX9_replaces_55 (by decide) ?_
    refine lv_iadd hx hb dX9_replaces_56 ?_
    refine lv_aload_n hx hb dX9_replaces_57 rfl (lv_at hl 0 rfl) ?_
    refine va_get (D := D) (ci := 7) (v := .ref a_t_v) (C := RX9) (T := TX9) (N := 12) hx hb hq inX9g hown hK hP 0 rfl rfl 0 (by decide) (hq _ q_881) (fun _ h9 => h9) rfl dX9_replaces_58 ?_
    refine lv_iload_n hx hb dX9_replaces_61 rfl (lv_at hl 1 rfl) ?_
    refine lv_iconst (v := 3) hx hb dX9_replaces_62 (by decide) ?_
    refine lv_iadd hx hb dX9_replaces_63 ?_
    obtain ⟨hi9, h⟩ := h
    refine va_iald hx hb hK hP 1 0 rfl rfl hi9 dX9_replaces_64 ?_
    refine lv_iconst (v := 1) hx hb dX9_replaces_65 (by decide) ?_
    have hJ93 : ∀ (y2_93 : Int32) (H : Heap) (locs : List Loc) (ls : Array Slot), va_P D vwCl [(a_t, .inr (7, [.ref a_t_v, .ref a_t_past, .ref a_t_costs, .int t_edits, .int t_thrown, .ref a_t_into, .ref a_t_isNeeded, .ref a_t_depths, .ref a_t_names, .ref a_t_out, .int t_outs, .ref a_t_has])), (a_t_v, .inl (ca 0, 206, .inl (upd f_t_v (x2_5 + 2).toNatClampNeg y2_49))), (a_t_into, .inl (ca 0, 41, .inl f_t_into))] H → va_D A [(a_t, .inr (7, [.ref a_t_v, .ref a_t_past, .ref a_t_costs, .int t_edits, .int t_thrown, .ref a_t_into, .ref a_t_isNeeded, .ref a_t_depths, .ref a_t_names, .ref a_t_out, .int t_outs, .ref a_t_has])), (a_t_v, .inl (ca 0, 206, .inl (upd f_t_v (x2_5 + 2).toNatClampNeg y2_49))), (a_t_into, .inl (ca 0, 41, .inl f_t_into))] → va_S A s.heap H locs → lv_has ls 3 [] → wX9_replaces_93 f_t_v Q x2_5 y2_49 y2_93 → W p l e (headSpec (Cond.code yX9_replaces cX9_replaces 3 none :: wsG) ({ frames := 0, cells := 0, slots := 0, locals := 0 } : Room)).room s m ([.ref a_t, .int x1] : List Value).toArray below meth c H locs 0 0 (MQ below (qX9_replaces D ca a_t a_t_v a_t_past a_t_costs a_t_into a_t_isNeeded a_t_depths a_t_names a_t_out a_t_has t_edits t_thrown t_outs f_t_into Q A) ([.ref a_t, .int x1] : List Value).toArray s 0 0 A) (F0 m 93 ls [.int y2_93, .int (x2_5 + 4), .ref a_t_v]) := by
      intro y2_93 H locs ls hP hD hS hl h
      unfold wX9_replaces_93 at h
      obtain ⟨hi9, h⟩ := h
      refine va_iast hx hb hK hP hD hS 1 0 rfl rfl hi9 dX9_replaces_93 (fun H locs hP hD hS => ?_)
      have hP : va_P D vwCl [(a_t, .inr (7, [.ref a_t_v, .ref a_t_past, .ref a_t_costs, .int t_edits, .int t_thrown, .ref a_t_into, .ref a_t_isNeeded, .ref a_t_depths, .ref a_t_names, .ref a_t_out, .int t_outs, .ref a_t_has])), (a_t_v, .inl (ca 0, 206, .inl (upd (upd f_t_v (x2_5 + 2).toNatClampNeg y2_49) (x2_5 + 4).toNatClampNeg y2_93))), (a_t_into, .inl (ca 0, 41, .inl f_t_into))] H := hP
      have hD : va_D A [(a_t, .inr (7, [.ref a_t_v, .ref a_t_past, .ref a_t_costs, .int t_edits, .int t_thrown, .ref a_t_into, .ref a_t_isNeeded, .ref a_t_depths, .ref a_t_names, .ref a_t_out, .int t_outs, .ref a_t_has])), (a_t_v, .inl (ca 0, 206, .inl (upd (upd f_t_v (x2_5 + 2).toNatClampNeg y2_49) (x2_5 + 4).toNatClampNeg y2_93))), (a_t_into, .inl (ca 0, 41, .inl f_t_into))] := hD
      exact W.vret hx hb hr (fun t ht hW => ⟨⟨upd (upd f_t_v (x2_5 + 2).toNatClampNeg y2_49) (x2_5 + 4).toNatClampNeg y2_93, rfl, h, by rw [ht]; exact hP, va_K.moved hW.alike hK, hD⟩, hS.F ht⟩) hS.2.2 dX9_replaces_94
    refine lv_icmp_ne (tgt := 80) hx hb dX9_replaces_66 (by decide) (fun c9 => ?_) (fun c9 => ?_)
    · have h := h.2 c9
      refine lv_aload_n hx hb dX9_replaces_80 rfl (lv_at hl 0 rfl) ?_
      refine va_get (D := D) (ci := 7) (v := .ref a_t_into) (C := RX9) (T := TX9) (N := 12) hx hb hq inX9g hown hK hP 0 rfl rfl 5 (by decide) (hq _ q_886) (fun _ h9 => h9) rfl dX9_replaces_81 ?_
      refine lv_aload_n hx hb dX9_replaces_84 rfl (lv_at hl 0 rfl) ?_
      refine va_get (D := D) (ci := 7) (v := .ref a_t_v) (C := RX9) (T := TX9) (N := 12) hx hb hq inX9g hown hK hP 0 rfl rfl 0 (by decide) (hq _ q_881) (fun _ h9 => h9) rfl dX9_replaces_85 ?_
      refine lv_iload_n hx hb dX9_replaces_88 rfl (lv_at hl 1 rfl) ?_
      refine lv_iconst (v := 4) hx hb dX9_replaces_89 (by decide) ?_
      refine lv_iadd hx hb dX9_replaces_90 ?_
      obtain ⟨hi9, h⟩ := h
      refine va_iald hx hb hK hP 1 0 rfl rfl hi9 dX9_replaces_91 ?_
      obtain ⟨hi9, h⟩ := h
      refine va_iald hx hb hK hP 2 0 rfl rfl hi9 dX9_replaces_92 ?_
      exact hJ93 (f_t_into ((upd f_t_v (x2_5 + 2).toNatClampNeg y2_49) (x2_5 + 4).toNatClampNeg).toNatClampNeg) _ _ _ hP hD hS (lv_sub hl [] rfl) h
    · have h := h.1 c9
      refine lv_aload_n hx hb dX9_replaces_69 rfl (lv_at hl 0 rfl) ?_
      refine va_get (D := D) (ci := 7) (v := .ref a_t_v) (C := RX9) (T := TX9) (N := 12) hx hb hq inX9g hown hK hP 0 rfl rfl 0 (by decide) (hq _ q_881) (fun _ h9 => h9) rfl dX9_replaces_70 ?_
      refine lv_iload_n hx hb dX9_replaces_73 rfl (lv_at hl 1 rfl) ?_
      refine lv_iconst (v := 4) hx hb dX9_replaces_74 (by decide) ?_
      refine lv_iadd hx hb dX9_replaces_75 ?_
      obtain ⟨hi9, h⟩ := h
      refine va_iald hx hb hK hP 1 0 rfl rfl hi9 dX9_replaces_76 ?_
      refine lv_goto (tgt := 93) hx hb dX9_replaces_77 (by decide) ?_
      exact hJ93 ((upd f_t_v (x2_5 + 2).toNatClampNeg y2_49) (x2_5 + 4).toNatClampNeg) _ _ _ hP hD hS (lv_sub hl [] rfl) h
  refine lv_icmp_ne (tgt := 36) hx hb dX9_replaces_22 (by decide) (fun c9 => ?_) (fun c9 => ?_)
  · have h := h.2 c9
    refine lv_aload_n hx hb dX9_replaces_36 rfl (lv_at hl 1 rfl) ?_
    refine va_get (D := D) (ci := 7) (v := .ref a_t_into) (C := RX9) (T := TX9) (N := 12) hx hb hq inX9g hown hK hP 0 rfl rfl 5 (by decide) (hq _ q_886) (fun _ h9 => h9) rfl dX9_replaces_37 ?_
    refine lv_aload_n hx hb dX9_replaces_40 rfl (lv_at hl 1 rfl) ?_
    refine va_get (D := D) (ci := 7) (v := .ref a_t_v) (C := RX9) (T := TX9) (N := 12) hx hb hq inX9g hown hK hP 0 rfl rfl 0 (by decide) (hq _ q_881) (fun _ h9 => h9) rfl dX9_replaces_41 ?_
    refine lv_iload_n hx hb dX9_replaces_44 rfl (lv_at hl 0 rfl) ?_
    refine lv_iconst (v := 2) hx hb dX9_replaces_45 (by decide) ?_
    refine lv_iadd hx hb dX9_replaces_46 ?_
    obtain ⟨hi9, h⟩ := h
    refine va_iald hx hb hK hP 1 0 rfl rfl hi9 dX9_replaces_47 ?_
    obtain ⟨hi9, h⟩ := h
    refine va_iald hx hb hK hP 2 0 rfl rfl hi9 dX9_replaces_48 ?_
    exact hJ49 (f_t_into (f_t_v (x2_5 + 2).toNatClampNeg).toNatClampNeg) _ _ _ hP hD hS (lv_sub hl [1, 0] rfl) h
  · have h := h.1 c9
    refine lv_aload_n hx hb dX9_replaces_25 rfl (lv_at hl 1 rfl) ?_
    refine va_get (D := D) (ci := 7) (v := .ref a_t_v) (C := RX9) (T := TX9) (N := 12) hx hb hq inX9g hown hK hP 0 rfl rfl 0 (by decide) (hq _ q_881) (fun _ h9 => h9) rfl dX9_replaces_26 ?_
    refine lv_iload_n hx hb dX9_replaces_29 rfl (lv_at hl 0 rfl) ?_
    refine lv_iconst (v := 2) hx hb dX9_replaces_30 (by decide) ?_
    refine lv_iadd hx hb dX9_replaces_31 ?_
    obtain ⟨hi9, h⟩ := h
    refine va_iald hx hb hK hP 1 0 rfl rfl hi9 dX9_replaces_32 ?_
    refine lv_goto (tgt := 49) hx hb dX9_replaces_33 (by decide) ?_
    exact hJ49 (f_t_v (x2_5 + 2).toNatClampNeg) _ _ _ hP hD hS (lv_sub hl [1, 0] rfl) h

abbrev qX9_joins (D : va_G) (ca : Nat → ClassId) (a_t a_t_v a_t_past a_t_costs a_t_into a_t_isNeeded a_t_depths a_t_names a_t_out a_t_has : Nat) (t_edits : Int32) (t_thrown : Int32) (t_outs : Int32) (Q : (Nat → Int32) → (Nat → Int32) → Prop) (A : Nat → Prop) : Array Value → State → Outcome → State → Prop := va_Qv (fun (u : (Nat → Int32) × (Nat → Int32)) => Q u.1 u.2) (wEnd D ca (fun u : (Nat → Int32) × (Nat → Int32) => [(a_t, .inr (7, [.ref a_t_v, .ref a_t_past, .ref a_t_costs, .int t_edits, .int t_thrown, .ref a_t_into, .ref a_t_isNeeded, .ref a_t_depths, .ref a_t_names, .ref a_t_out, .int t_outs, .ref a_t_has])), (a_t_v, .inl (ca 0, 206, .inl u.1)), (a_t_into, .inl (ca 0, 41, .inl u.2))]) A) A
def wX9_joins_87 (x1_9 : Int32) (x2_39 : Int32) (f_t_into_39 : Nat → Int32) (K39 : Int32 → (Nat → Int32) → Prop) (y2_87 : Int32) : Prop :=
  (vp_in (x1_9 + 1) 41 ∧ (∀ x2_88 : Int32, x2_88 = x2_39 + (-1) → K39 x2_88 (upd f_t_into_39 (x1_9 + 1).toNatClampNeg y2_87)))
def wX9_joins_79 (x1_9 : Int32) (x2_39 : Int32) (f_t_into_39 : Nat → Int32) (K39 : Int32 → (Nat → Int32) → Prop) : Prop :=
  (vp_in (x1_9 + 1) 41 ∧ wX9_joins_87 x1_9 x2_39 f_t_into_39 K39 (f_t_into_39 (x1_9 + 1).toNatClampNeg))
def wX9_joins_39 (x1_9 : Int32) (K9 : Int32 → (Nat → Int32) → (Nat → Int32) → Prop) (f_t_v_21 : Nat → Int32) : Nat → Int32 → (Nat → Int32) → Prop
  | 0, _, _ => False
  | n9 + 1, x2_39, f_t_into_39 =>
  ((x2_39 < 0 → (∀ x1_94 : Int32, x1_94 = x1_9 + 1 → K9 x1_94 f_t_v_21 f_t_into_39)) ∧ (¬ x2_39 < 0 → (vp_in (x2_39 + 1) 41 ∧ (((f_t_into_39 (x2_39 + 1).toNatClampNeg) = (x2_39 + 1) → wX9_areLike f_t_v_21 x1_9 x2_39 (fun r_67 => ((r_67 = 0 → wX9_joins_79 x1_9 x2_39 f_t_into_39 (wX9_joins_39 x1_9 K9 f_t_v_21 n9)) ∧ (¬ r_67 = 0 → wX9_joins_87 x1_9 x2_39 f_t_into_39 (wX9_joins_39 x1_9 K9 f_t_v_21 n9) (x2_39 + 1))))) ∧ (¬ (f_t_into_39 (x2_39 + 1).toNatClampNeg) = (x2_39 + 1) → wX9_joins_79 x1_9 x2_39 f_t_into_39 (wX9_joins_39 x1_9 K9 f_t_v_21 n9))))))
def wX9_joins_9 (Q : (Nat → Int32) → (Nat → Int32) → Prop) : Nat → Int32 → (Nat → Int32) → (Nat → Int32) → Prop
  | 0, _, _, _ => False
  | n9 + 1, x1_9, f_t_v_9, f_t_into_9 =>
  (vp_in 3 206 ∧ (((f_t_v_9 (3 : Int32).toNatClampNeg) ≤ x1_9 → (vp_in 4 206 ∧ (vp_in (f_t_v_9 (4 : Int32).toNatClampNeg) 41 ∧ (vp_in 4 206 ∧ Q (upd f_t_v_9 (4 : Int32).toNatClampNeg (f_t_into_9 (f_t_v_9 (4 : Int32).toNatClampNeg).toNatClampNeg)) f_t_into_9)))) ∧ (¬ (f_t_v_9 (3 : Int32).toNatClampNeg) ≤ x1_9 → wX9_replaces f_t_v_9 f_t_into_9 x1_9 (fun f_t_v_21 => (vp_in (x1_9 + 1) 41 ∧ (∀ x2_38 : Int32, x2_38 = x1_9 - 1 → (∃ k9, wX9_joins_39 x1_9 (wX9_joins_9 Q n9) f_t_v_21 k9 x2_38 (upd f_t_into_9 (x1_9 + 1).toNatClampNeg (x1_9 + 1)))))))))
def wX9_joins (f_t_v : Nat → Int32) (f_t_into : Nat → Int32) (Q : (Nat → Int32) → (Nat → Int32) → Prop) : Prop :=
  (vp_in 0 41 ∧ (∃ k9, wX9_joins_9 Q k9 0 f_t_v (upd f_t_into (0 : Int32).toNatClampNeg 0)))
set_option maxHeartbeats 4000000 in
set_option maxRecDepth 100000 in
theorem mX9_joins (l : Launch) (D : va_G) (ca : Nat → ClassId) (a_t a_t_v a_t_past a_t_costs a_t_into a_t_isNeeded a_t_depths a_t_names a_t_out a_t_has : Nat) (sz : Nat) (t_edits : Int32) (t_thrown : Int32) (t_outs : Int32) (f_t_v : Nat → Int32) (f_t_into : Nat → Int32) (Q : (Nat → Int32) → (Nat → Int32) → Prop) (h : wX9_joins f_t_v f_t_into Q) : Met l yX9_joins (Cond.code yX9_joins cX9_joins 3 none :: wsG) ({ frames := 1, cells := 0, slots := 0, locals := 24 } : Room) (va_Pc [.ref a_t] (wPre D ca [(a_t, .inr (7, [.ref a_t_v, .ref a_t_past, .ref a_t_costs, .int t_edits, .int t_thrown, .ref a_t_into, .ref a_t_isNeeded, .ref a_t_depths, .ref a_t_names, .ref a_t_out, .int t_outs, .ref a_t_has])), (a_t_v, .inl (ca 0, 206, .inl f_t_v)), (a_t_into, .inl (ca 0, 41, .inl f_t_into))] sz)) (qX9_joins D ca a_t a_t_v a_t_past a_t_costs a_t_into a_t_isNeeded a_t_depths a_t_names a_t_out a_t_has t_edits t_thrown t_outs Q (va_A [(a_t, .inr (7, [.ref a_t_v, .ref a_t_past, .ref a_t_costs, .int t_edits, .int t_thrown, .ref a_t_into, .ref a_t_isNeeded, .ref a_t_depths, .ref a_t_names, .ref a_t_out, .int t_outs, .ref a_t_has])), (a_t_v, .inl (ca 0, 206, .inl f_t_v)), (a_t_into, .inl (ca 0, 41, .inl f_t_into))] sz)) 0 0 (va_A [(a_t, .inr (7, [.ref a_t_v, .ref a_t_past, .ref a_t_costs, .int t_edits, .int t_thrown, .ref a_t_into, .ref a_t_isNeeded, .ref a_t_depths, .ref a_t_names, .ref a_t_out, .int t_outs, .ref a_t_has])), (a_t_v, .inl (ca 0, 206, .inl f_t_v)), (a_t_into, .inl (ca 0, 41, .inl f_t_into))] sz) := by
  refine Met.ofW (cc := cX9_joins) (maxL := 3) (ret := none) (by decide) rfl ?_
  intro p e s m args below meth c s₁ B hml hv
  obtain ⟨rfl, hsz, hP, hK, hD0⟩ := hv
  have hx := B.exec
  have hb := B.bytes
  have hr := B.returns
  have hts := atoms_spec (ws := (Cond.code yX9_joins cX9_joins 3 none :: wsG)) B.pre
  have hq : ∀ w ∈ wsG, w.before _ s = true := fun w hw => hts w (List.mem_cons_of_mem _ hw)
  have hown : s.vm.findClass RX9 = some m.cls := findClass_of_methodNamed B.named
  have hlocks := B.notSynchronized
  subst hsz
  have hD := hD0.self (sz := s.heap.size)
  generalize hAe : va_A [(a_t, .inr (7, [.ref a_t_v, .ref a_t_past, .ref a_t_costs, .int t_edits, .int t_thrown, .ref a_t_into, .ref a_t_isNeeded, .ref a_t_depths, .ref a_t_names, .ref a_t_out, .int t_outs, .ref a_t_has])), (a_t_v, .inl (ca 0, 206, .inl f_t_v)), (a_t_into, .inl (ca 0, 41, .inl f_t_into))] s.heap.size = A at hD ⊢
  have hA : ∀ q : Nat, s.heap.size ≤ q → A q := fun q h => by rw [← hAe]; exact Or.inr h
  have hS : va_S A s.heap s.heap [] := va_S.rf
  have hP : va_P D vwCl [(a_t, .inr (7, [.ref a_t_v, .ref a_t_past, .ref a_t_costs, .int t_edits, .int t_thrown, .ref a_t_into, .ref a_t_isNeeded, .ref a_t_depths, .ref a_t_names, .ref a_t_out, .int t_outs, .ref a_t_has])), (a_t_v, .inl (ca 0, 206, .inl f_t_v)), (a_t_into, .inl (ca 0, 41, .inl f_t_into))] s.heap := hP
  have hl := lv_entry ([.ref a_t]) (n := 3) (Nat.le_of_ble_eq_true rfl)
  rw [lg_entry_eq]
  generalize (lg_sl ([.ref a_t]) ++ List.replicate (3 - (lg_sl ([.ref a_t])).length) Slot.unset).toArray = ls at hl ⊢
  have hl : lv_has ls 3 [(0, .ref a_t)] := hl
  unfold wX9_joins at h
  refine lv_aload_n hx hb dX9_joins_0 rfl (lv_at hl 0 rfl) ?_
  refine va_get (D := D) (ci := 7) (v := .ref a_t_into) (C := RX9) (T := TX9) (N := 12) hx hb hq inX9g hown hK hP 0 rfl rfl 5 (by decide) (hq _ q_886) (fun _ h9 => h9) rfl dX9_joins_1 ?_
  refine lv_iconst (v := 0) hx hb dX9_joins_4 (by decide) ?_
  refine lv_iconst (v := 0) hx hb dX9_joins_5 (by decide) ?_
  obtain ⟨hi9, h⟩ := h
  refine va_iast hx hb hK hP hD hS 2 0 rfl rfl hi9 dX9_joins_6 (fun H locs hP hD hS => ?_)
  have hP : va_P D vwCl [(a_t, .inr (7, [.ref a_t_v, .ref a_t_past, .ref a_t_costs, .int t_edits, .int t_thrown, .ref a_t_into, .ref a_t_isNeeded, .ref a_t_depths, .ref a_t_names, .ref a_t_out, .int t_outs, .ref a_t_has])), (a_t_v, .inl (ca 0, 206, .inl f_t_v)), (a_t_into, .inl (ca 0, 41, .inl (upd f_t_into (0 : Int32).toNatClampNeg 0)))] H := hP
  have hD : va_D A [(a_t, .inr (7, [.ref a_t_v, .ref a_t_past, .ref a_t_costs, .int t_edits, .int t_thrown, .ref a_t_into, .ref a_t_isNeeded, .ref a_t_depths, .ref a_t_names, .ref a_t_out, .int t_outs, .ref a_t_has])), (a_t_v, .inl (ca 0, 206, .inl f_t_v)), (a_t_into, .inl (ca 0, 41, .inl (upd f_t_into (0 : Int32).toNatClampNeg 0)))] := hD
  refine lv_iconst (v := 0) hx hb dX9_joins_7 (by decide) ?_
  refine lv_istore_n (lv' := [(1, .int 0), (0, .ref a_t)]) hx hb dX9_joins_8 rfl hl (by decide) rfl (fun ls hl => ?_)
  have hL9 : ∀ (n9_9 : Nat) (x1_9 : Int32) (f_t_v_9 : Nat → Int32) (f_t_into_9 : Nat → Int32) (H : Heap) (locs : List Loc) (ls : Array Slot), va_P D vwCl [(a_t, .inr (7, [.ref a_t_v, .ref a_t_past, .ref a_t_costs, .int t_edits, .int t_thrown, .ref a_t_into, .ref a_t_isNeeded, .ref a_t_depths, .ref a_t_names, .ref a_t_out, .int t_outs, .ref a_t_has])), (a_t_v, .inl (ca 0, 206, .inl f_t_v_9)), (a_t_into, .inl (ca 0, 41, .inl f_t_into_9))] H → va_D A [(a_t, .inr (7, [.ref a_t_v, .ref a_t_past, .ref a_t_costs, .int t_edits, .int t_thrown, .ref a_t_into, .ref a_t_isNeeded, .ref a_t_depths, .ref a_t_names, .ref a_t_out, .int t_outs, .ref a_t_has])), (a_t_v, .inl (ca 0, 206, .inl f_t_v_9)), (a_t_into, .inl (ca 0, 41, .inl f_t_into_9))] → va_S A s.heap H locs → lv_has ls 3 [(0, .ref a_t), (1, .int x1_9)] → wX9_joins_9 Q n9_9 x1_9 f_t_v_9 f_t_into_9 → W p l e (headSpec (Cond.code yX9_joins cX9_joins 3 none :: wsG) ({ frames := 1, cells := 0, slots := 0, locals := 24 } : Room)).room s m ([.ref a_t] : List Value).toArray below meth c H locs 0 0 (MQ below (qX9_joins D ca a_t a_t_v a_t_past a_t_costs a_t_into a_t_isNeeded a_t_depths a_t_names a_t_out a_t_has t_edits t_thrown t_outs Q A) ([.ref a_t] : List Value).toArray s 0 0 A) (F0 m 9 ls []) := by
    intro n9_9
    induction n9_9 with
    | zero =>
      intro x1_9 f_t_v_9 f_t_into_9 H locs ls hP hD hS hl h
      exact False.elim h
    | succ n9_9 ih9 =>
      intro x1_9 f_t_v_9 f_t_into_9 H locs ls hP hD hS hl h
      unfold wX9_joins_9 at h
      refine lv_iload_n hx hb dX9_joins_9 rfl (lv_at hl 1 rfl) ?_
      refine lv_aload_n hx hb dX9_joins_10 rfl (lv_at hl 0 rfl) ?_
      refine va_get (D := D) (ci := 7) (v := .ref a_t_v) (C := RX9) (T := TX9) (N := 12) hx hb hq inX9g hown hK hP 0 rfl rfl 0 (by decide) (hq _ q_881) (fun _ h9 => h9) rfl dX9_joins_11 ?_
      refine lv_iconst (v := 3) hx hb dX9_joins_14 (by decide) ?_
      obtain ⟨hi9, h⟩ := h
      refine va_iald hx hb hK hP 1 0 rfl rfl hi9 dX9_joins_15 ?_
      refine lv_icmp_ge (tgt := 100) hx hb dX9_joins_16 (by decide) (fun c9 => ?_) (fun c9 => ?_)
      · have h := h.1 c9
        refine lv_aload_n hx hb dX9_joins_100 rfl (lv_at hl 0 rfl) ?_
        refine va_get (D := D) (ci := 7) (v := .ref a_t_v) (C := RX9) (T := TX9) (N := 12) hx hb hq inX9g hown hK hP 0 rfl rfl 0 (by decide) (hq _ q_881) (fun _ h9 => h9) rfl dX9_joins_101 ?_
        refine lv_iconst (v := 4) hx hb dX9_joins_104 (by decide) ?_
        refine lv_aload_n hx hb dX9_joins_105 rfl (lv_at hl 0 rfl) ?_
        refine va_get (D := D) (ci := 7) (v := .ref a_t_into) (C := RX9) (T := TX9) (N := 12) hx hb hq inX9g hown hK hP 0 rfl rfl 5 (by decide) (hq _ q_886) (fun _ h9 => h9) rfl dX9_joins_106 ?_
        refine lv_aload_n hx hb dX9_joins_109 rfl (lv_at hl 0 rfl) ?_
        refine va_get (D := D) (ci := 7) (v := .ref a_t_v) (C := RX9) (T := TX9) (N := 12) hx hb hq inX9g hown hK hP 0 rfl rfl 0 (by decide) (hq _ q_881) (fun _ h9 => h9) rfl dX9_joins_110 ?_
        refine lv_iconst (v := 4) hx hb dX9_joins_113 (by decide) ?_
        obtain ⟨hi9, h⟩ := h
        refine va_iald hx hb hK hP 1 0 rfl rfl hi9 dX9_joins_114 ?_
        obtain ⟨hi9, h⟩ := h
        refine va_iald hx hb hK hP 2 0 rfl rfl hi9 dX9_joins_115 ?_
        obtain ⟨hi9, h⟩ := h
        refine va_iast hx hb hK hP hD hS 1 0 rfl rfl hi9 dX9_joins_116 (fun H locs hP hD hS => ?_)
        have hP : va_P D vwCl [(a_t, .inr (7, [.ref a_t_v, .ref a_t_past, .ref a_t_costs, .int t_edits, .int t_thrown, .ref a_t_into, .ref a_t_isNeeded, .ref a_t_depths, .ref a_t_names, .ref a_t_out, .int t_outs, .ref a_t_has])), (a_t_v, .inl (ca 0, 206, .inl (upd f_t_v_9 (4 : Int32).toNatClampNeg (f_t_into_9 (f_t_v_9 (4 : Int32).toNatClampNeg).toNatClampNeg)))), (a_t_into, .inl (ca 0, 41, .inl f_t_into_9))] H := hP
        have hD : va_D A [(a_t, .inr (7, [.ref a_t_v, .ref a_t_past, .ref a_t_costs, .int t_edits, .int t_thrown, .ref a_t_into, .ref a_t_isNeeded, .ref a_t_depths, .ref a_t_names, .ref a_t_out, .int t_outs, .ref a_t_has])), (a_t_v, .inl (ca 0, 206, .inl (upd f_t_v_9 (4 : Int32).toNatClampNeg (f_t_into_9 (f_t_v_9 (4 : Int32).toNatClampNeg).toNatClampNeg)))), (a_t_into, .inl (ca 0, 41, .inl f_t_into_9))] := hD
        exact W.vret hx hb hr (fun t ht hW => ⟨⟨(upd f_t_v_9 (4 : Int32).toNatClampNeg (f_t_into_9 (f_t_v_9 (4 : Int32).toNatClampNeg).toNatClampNeg), f_t_into_9), rfl, h, by rw [ht]; exact hP, va_K.moved hW.alike hK, hD⟩, hS.F ht⟩) hS.2.2 dX9_joins_117
      · have h := h.2 c9
        refine lv_aload_n hx hb dX9_joins_19 rfl (lv_at hl 0 rfl) ?_
        refine lv_iload_n hx hb dX9_joins_20 rfl (lv_at hl 1 rfl) ?_
        refine cVv (As := [.int x1_9]) (rest := []) (wc := [(a_t, .inr (7, [.ref a_t_v, .ref a_t_past, .ref a_t_costs, .int t_edits, .int t_thrown, .ref a_t_into, .ref a_t_isNeeded, .ref a_t_depths, .ref a_t_names, .ref a_t_out, .int t_outs, .ref a_t_has])), (a_t_v, .inl (ca 0, 206, .inl f_t_v_9)), (a_t_into, .inl (ca 0, 41, .inl f_t_into_9))]) (wr := []) (w1 := fun u : (Nat → Int32) => [(a_t, .inr (7, [.ref a_t_v, .ref a_t_past, .ref a_t_costs, .int t_edits, .int t_thrown, .ref a_t_into, .ref a_t_isNeeded, .ref a_t_depths, .ref a_t_names, .ref a_t_out, .int t_outs, .ref a_t_has])), (a_t_v, .inl (ca 0, 206, .inl u)), (a_t_into, .inl (ca 0, 41, .inl f_t_into_9))]) (ws2 := fun u : (Nat → Int32) => [(a_t, .inr (7, [.ref a_t_v, .ref a_t_past, .ref a_t_costs, .int t_edits, .int t_thrown, .ref a_t_into, .ref a_t_isNeeded, .ref a_t_depths, .ref a_t_names, .ref a_t_out, .int t_outs, .ref a_t_has])), (a_t_v, .inl (ca 0, 206, .inl u)), (a_t_into, .inl (ca 0, 41, .inl f_t_into_9))]) ⟨hx, hb, hml, hown, hts⟩ (mX9_replaces l D ca a_t a_t_v a_t_past a_t_costs a_t_into a_t_isNeeded a_t_depths a_t_names a_t_out a_t_has _ t_edits t_thrown t_outs f_t_v_9 f_t_into_9 x1_9 _ h) (cwV 1 hts (gV q_1102 q_1104 qs_56 q_8 q_1105) rfl rfl rfl (by decide +kernel) ⟨Nat.le_of_ble_eq_true rfl, Nat.le_of_ble_eq_true rfl⟩) hK hP hD hS hA [0, 1, 2] [] [0, 1, 2] rfl rfl rfl (by decide) (fun _ => rfl) (ci := 7) (q0 := 0) rfl rfl rfl hl.1 rfl (Nat.le_of_ble_eq_true rfl) dX9_joins_21 ⟨Nat.le_of_ble_eq_true rfl, Nat.le_of_ble_eq_true rfl⟩ (fun u9 H locs h hP hD hS => ?_)
        obtain ⟨f_t_v_21, rfl⟩ : ∃ z, z = u9 := ⟨_, rfl⟩
        have hP : va_P D vwCl [(a_t, .inr (7, [.ref a_t_v, .ref a_t_past, .ref a_t_costs, .int t_edits, .int t_thrown, .ref a_t_into, .ref a_t_isNeeded, .ref a_t_depths, .ref a_t_names, .ref a_t_out, .int t_outs, .ref a_t_has])), (a_t_v, .inl (ca 0, 206, .inl f_t_v_21)), (a_t_into, .inl (ca 0, 41, .inl f_t_into_9))] H := hP
        have hD : va_D A [(a_t, .inr (7, [.ref a_t_v, .ref a_t_past, .ref a_t_costs, .int t_edits, .int t_thrown, .ref a_t_into, .ref a_t_isNeeded, .ref a_t_depths, .ref a_t_names, .ref a_t_out, .int t_outs, .ref a_t_has])), (a_t_v, .inl (ca 0, 206, .inl f_t_v_21)), (a_t_into, .inl (ca 0, 41, .inl f_t_into_9))] := hD
        try dsimp only at h
        refine lv_aload_n hx hb dX9_joins_24 rfl (lv_at hl 0 rfl) ?_
        refine va_get (D := D) (ci := 7) (v := .ref a_t_into) (C := RX9) (T := TX9) (N := 12) hx hb hq inX9g hown hK hP 0 rfl rfl 5 (by decide) (hq _ q_886) (fun _ h9 => h9) rfl dX9_joins_25 ?_
        refine lv_iload_n hx hb dX9_joins_28 rfl (lv_at hl 1 rfl) ?_
        refine lv_iconst (v := 1) hx hb dX9_joins_29 (by decide) ?_
        refine lv_iadd hx hb dX9_joins_30 ?_
        refine lv_iload_n hx hb dX9_joins_31 rfl (lv_at hl 1 rfl) ?_
        refine lv_iconst (v := 1) hx hb dX9_joins_32 (by decide) ?_
        refine lv_iadd hx hb dX9_joins_33 ?_
        obtain ⟨hi9, h⟩ := h
        refine va_iast hx hb hK hP hD hS 2 0 rfl rfl hi9 dX9_joins_34 (fun H locs hP hD hS => ?_)
        have hP : va_P D vwCl [(a_t, .inr (7, [.ref a_t_v, .ref a_t_past, .ref a_t_costs, .int t_edits, .int t_thrown, .ref a_t_into, .ref a_t_isNeeded, .ref a_t_depths, .ref a_t_names, .ref a_t_out, .int t_outs, .ref a_t_has])), (a_t_v, .inl (ca 0, 206, .inl f_t_v_21)), (a_t_into, .inl (ca 0, 41, .inl (upd f_t_into_9 (x1_9 + 1).toNatClampNeg (x1_9 + 1))))] H := hP
        have hD : va_D A [(a_t, .inr (7, [.ref a_t_v, .ref a_t_past, .ref a_t_costs, .int t_edits, .int t_thrown, .ref a_t_into, .ref a_t_isNeeded, .ref a_t_depths, .ref a_t_names, .ref a_t_out, .int t_outs, .ref a_t_has])), (a_t_v, .inl (ca 0, 206, .inl f_t_v_21)), (a_t_into, .inl (ca 0, 41, .inl (upd f_t_into_9 (x1_9 + 1).toNatClampNeg (x1_9 + 1))))] := hD
        refine lv_iload_n hx hb dX9_joins_35 rfl (lv_at hl 1 rfl) ?_
        refine lv_iconst (v := 1) hx hb dX9_joins_36 (by decide) ?_
        refine lv_isub hx hb dX9_joins_37 ?_
        refine lv_topi (fun x2_38 ex2_38 => ?_)
        have h := h x2_38 ex2_38
        refine lv_istore_n (lv' := [(2, .int x2_38), (0, .ref a_t), (1, .int x1_9)]) hx hb dX9_joins_38 rfl hl (by decide) rfl (fun ls hl => ?_)
        have hL39 : ∀ (n9_39 : Nat) (x2_39 : Int32) (f_t_into_39 : Nat → Int32) (H : Heap) (locs : List Loc) (ls : Array Slot), va_P D vwCl [(a_t, .inr (7, [.ref a_t_v, .ref a_t_past, .ref a_t_costs, .int t_edits, .int t_thrown, .ref a_t_into, .ref a_t_isNeeded, .ref a_t_depths, .ref a_t_names, .ref a_t_out, .int t_outs, .ref a_t_has])), (a_t_v, .inl (ca 0, 206, .inl f_t_v_21)), (a_t_into, .inl (ca 0, 41, .inl f_t_into_39))] H → va_D A [(a_t, .inr (7, [.ref a_t_v, .ref a_t_past, .ref a_t_costs, .int t_edits, .int t_thrown, .ref a_t_into, .ref a_t_isNeeded, .ref a_t_depths, .ref a_t_names, .ref a_t_out, .int t_outs, .ref a_t_has])), (a_t_v, .inl (ca 0, 206, .inl f_t_v_21)), (a_t_into, .inl (ca 0, 41, .inl f_t_into_39))] → va_S A s.heap H locs → lv_has ls 3 [(0, .ref a_t), (1, .int x1_9), (2, .int x2_39)] → wX9_joins_39 x1_9 (wX9_joins_9 Q n9_9) f_t_v_21 n9_39 x2_39 f_t_into_39 → W p l e (headSpec (Cond.code yX9_joins cX9_joins 3 none :: wsG) ({ frames := 1, cells := 0, slots := 0, locals := 24 } : Room)).room s m ([.ref a_t] : List Value).toArray below meth c H locs 0 0 (MQ below (qX9_joins D ca a_t a_t_v a_t_past a_t_costs a_t_into a_t_isNeeded a_t_depths a_t_names a_t_out a_t_has t_edits t_thrown t_outs Q A) ([.ref a_t] : List Value).toArray s 0 0 A) (F0 m 39 ls []) := by
          intro n9_39
          induction n9_39 with
          | zero =>
            intro x2_39 f_t_into_39 H locs ls hP hD hS hl h
            exact False.elim h
          | succ n9_39 ih39 =>
            intro x2_39 f_t_into_39 H locs ls hP hD hS hl h
            unfold wX9_joins_39 at h
            refine lv_iload_n hx hb dX9_joins_39 rfl (lv_at hl 2 rfl) ?_
            refine lv_if_lt (tgt := 94) hx hb dX9_joins_40 (by decide) (fun c9 => ?_) (fun c9 => ?_)
            · have h := h.1 c9
              obtain ⟨x1_94, ex1_94⟩ : ∃ y : Int32, y = x1_9 + 1 := ⟨_, rfl⟩
              have h := h x1_94 ex1_94
              refine lv_iinc (v := x1_94) (lv' := [(1, .int x1_94), (0, .ref a_t), (2, .int x2_39)]) hx hb dX9_joins_94 hl (k := 1) rfl (by rw [ex1_94]; rfl) (by decide) rfl (fun ls hl => ?_)
              refine lv_goto (tgt := 9) hx hb dX9_joins_97 (by decide) ?_
              exact ih9 x1_94 f_t_v_21 f_t_into_39 _ _ _ hP hD hS (lv_sub hl [1, 0] rfl) h
            · have h := h.2 c9
              refine lv_aload_n hx hb dX9_joins_43 rfl (lv_at hl 0 rfl) ?_
              refine va_get (D := D) (ci := 7) (v := .ref a_t_into) (C := RX9) (T := TX9) (N := 12) hx hb hq inX9g hown hK hP 0 rfl rfl 5 (by decide) (hq _ q_886) (fun _ h9 => h9) rfl dX9_joins_44 ?_
              refine lv_iload_n hx hb dX9_joins_47 rfl (lv_at hl 1 rfl) ?_
              refine lv_iconst (v := 1) hx hb dX9_joins_48 (by decide) ?_
              refine lv_iadd hx hb dX9_joins_49 ?_
              refine lv_aload_n hx hb dX9_joins_50 rfl (lv_at hl 0 rfl) ?_
              refine va_get (D := D) (ci := 7) (v := .ref a_t_into) (C := RX9) (T := TX9) (N := 12) hx hb hq inX9g hown hK hP 0 rfl rfl 5 (by decide) (hq _ q_886) (fun _ h9 => h9) rfl dX9_joins_51 ?_
              refine lv_iload_n hx hb dX9_joins_54 rfl (lv_at hl 2 rfl) ?_
              refine lv_iconst (v := 1) hx hb dX9_joins_55 (by decide) ?_
              refine lv_iadd hx hb dX9_joins_56 ?_
              obtain ⟨hi9, h⟩ := h
              refine va_iald hx hb hK hP 2 0 rfl rfl hi9 dX9_joins_57 ?_
              refine lv_iload_n hx hb dX9_joins_58 rfl (lv_at hl 2 rfl) ?_
              refine lv_iconst (v := 1) hx hb dX9_joins_59 (by decide) ?_
              refine lv_iadd hx hb dX9_joins_60 ?_
              have hJ87 : ∀ (y2_87 : Int32) (H : Heap) (locs : List Loc) (ls : Array Slot), va_P D vwCl [(a_t, .inr (7, [.ref a_t_v, .ref a_t_past, .ref a_t_costs, .int t_edits, .int t_thrown, .ref a_t_into, .ref a_t_isNeeded, .ref a_t_depths, .ref a_t_names, .ref a_t_out, .int t_outs, .ref a_t_has])), (a_t_v, .inl (ca 0, 206, .inl f_t_v_21)), (a_t_into, .inl (ca 0, 41, .inl f_t_into_39))] H → va_D A [(a_t, .inr (7, [.ref a_t_v, .ref a_t_past, .ref a_t_costs, .int t_edits, .int t_thrown, .ref a_t_into, .ref a_t_isNeeded, .ref a_t_depths, .ref a_t_names, .ref a_t_out, .int t_outs, .ref a_t_has])), (a_t_v, .inl (ca 0, 206, .inl f_t_v_21)), (a_t_into, .inl (ca 0, 41, .inl f_t_into_39))] → va_S A s.heap H locs → lv_has ls 3 [(0, .ref a_t), (1, .int x1_9), (2, .int x2_39)] → wX9_joins_87 x1_9 x2_39 f_t_into_39 (wX9_joins_39 x1_9 (wX9_joins_9 Q n9_9) f_t_v_21 n9_39) y2_87 → W p l e (headSpec (Cond.code yX9_joins cX9_joins 3 none :: wsG) ({ frames := 1, cells := 0, slots := 0, locals := 24 } : Room)).room s m ([.ref a_t] : List Value).toArray below meth c H locs 0 0 (MQ below (qX9_joins D ca a_t a_t_v a_t_past a_t_costs a_t_into a_t_isNeeded a_t_depths a_t_names a_t_out a_t_has t_edits t_thrown t_outs Q A) ([.ref a_t] : List Value).toArray s 0 0 A) (F0 m 87 ls [.int y2_87, .int (x1_9 + 1), .ref a_t_into]) := by
                intro y2_87 H locs ls hP hD hS hl h
                unfold wX9_joins_87 at h
                obtain ⟨hi9, h⟩ := h
                refine va_iast hx hb hK hP hD hS 2 0 rfl rfl hi9 dX9_joins_87 (fun H locs hP hD hS => ?_)
                have hP : va_P D vwCl [(a_t, .inr (7, [.ref a_t_v, .ref a_t_past, .ref a_t_costs, .int t_edits, .int t_thrown, .ref a_t_into, .ref a_t_isNeeded, .ref a_t_depths, .ref a_t_names, .ref a_t_out, .int t_outs, .ref a_t_has])), (a_t_v, .inl (ca 0, 206, .inl f_t_v_21)), (a_t_into, .inl (ca 0, 41, .inl (upd f_t_into_39 (x1_9 + 1).toNatClampNeg y2_87)))] H := hP
                have hD : va_D A [(a_t, .inr (7, [.ref a_t_v, .ref a_t_past, .ref a_t_costs, .int t_edits, .int t_thrown, .ref a_t_into, .ref a_t_isNeeded, .ref a_t_depths, .ref a_t_names, .ref a_t_out, .int t_outs, .ref a_t_has])), (a_t_v, .inl (ca 0, 206, .inl f_t_v_21)), (a_t_into, .inl (ca 0, 41, .inl (upd f_t_into_39 (x1_9 + 1).toNatClampNeg y2_87)))] := hD
                obtain ⟨x2_88, ex2_88⟩ : ∃ y : Int32, y = x2_39 + (-1) := ⟨_, rfl⟩
                have h := h x2_88 ex2_88
                refine lv_iinc (v := x2_88) (lv' := [(2, .int x2_88), (0, .ref a_t), (1, .int x1_9)]) hx hb dX9_joins_88 hl (k := 2) rfl (by rw [ex2_88]; rfl) (by decide) rfl (fun ls hl => ?_)
                refine lv_goto (tgt := 39) hx hb dX9_joins_91 (by decide) ?_
                exact ih39 x2_88 (upd f_t_into_39 (x1_9 + 1).toNatClampNeg y2_87) _ _ _ hP hD hS (lv_sub hl [1, 2, 0] rfl) h
              have hJ79 : ∀ (H : Heap) (locs : List Loc) (ls : Array Slot), va_P D vwCl [(a_t, .inr (7, [.ref a_t_v, .ref a_t_past, .ref a_t_costs, .int t_edits, .int t_thrown, .ref a_t_into, .ref a_t_isNeeded, .ref a_t_depths, .ref a_t_names, .ref a_t_out, .int t_outs, .ref a_t_has])), (a_t_v, .inl (ca 0, 206, .inl f_t_v_21)), (a_t_into, .inl (ca 0, 41, .inl f_t_into_39))] H → va_D A [(a_t, .inr (7, [.ref a_t_v, .ref a_t_past, .ref a_t_costs, .int t_edits, .int t_thrown, .ref a_t_into, .ref a_t_isNeeded, .ref a_t_depths, .ref a_t_names, .ref a_t_out, .int t_outs, .ref a_t_has])), (a_t_v, .inl (ca 0, 206, .inl f_t_v_21)), (a_t_into, .inl (ca 0, 41, .inl f_t_into_39))] → va_S A s.heap H locs → lv_has ls 3 [(0, .ref a_t), (1, .int x1_9), (2, .int x2_39)] → wX9_joins_79 x1_9 x2_39 f_t_into_39 (wX9_joins_39 x1_9 (wX9_joins_9 Q n9_9) f_t_v_21 n9_39) → W p l e (headSpec (Cond.code yX9_joins cX9_joins 3 none :: wsG) ({ frames := 1, cells := 0, slots := 0, locals := 24 } : Room)).room s m ([.ref a_t] : List Value).toArray below meth c H locs 0 0 (MQ below (qX9_joins D ca a_t a_t_v a_t_past a_t_costs a_t_into a_t_isNeeded a_t_depths a_t_names a_t_out a_t_has t_edits t_thrown t_outs Q A) ([.ref a_t] : List Value).toArray s 0 0 A) (F0 m 79 ls [.int (x1_9 + 1), .ref a_t_into]) := by
                intro  H locs ls hP hD hS hl h
                unfold wX9_joins_79 at h
                refine lv_aload_n hx hb dX9_joins_79 rfl (lv_at hl 0 rfl) ?_
                refine va_get (D := D) (ci := 7) (v := .ref a_t_into) (C := RX9) (T := TX9) (N := 12) hx hb hq inX9g hown hK hP 0 rfl rfl 5 (by decide) (hq _ q_886) (fun _ h9 => h9) rfl dX9_joins_80 ?_
                refine lv_iload_n hx hb dX9_joins_83 rfl (lv_at hl 1 rfl) ?_
                refine lv_iconst (v := 1) hx hb dX9_joins_84 (by decide) ?_
                refine lv_iadd hx hb dX9_joins_85 ?_
                obtain ⟨hi9, h⟩ := h
                refine va_iald hx hb hK hP 2 0 rfl rfl hi9 dX9_joins_86 ?_
                exact hJ87 (f_t_into_39 (x1_9 + 1).toNatClampNeg) _ _ _ hP hD hS (lv_sub hl [0, 1, 2] rfl) h
              refine lv_icmp_ne (tgt := 79) hx hb dX9_joins_61 (by decide) (fun c9 => ?_) (fun c9 => ?_)
              · have h := h.2 c9
                exact hJ79 _ _ _ hP hD hS (lv_sub hl [0, 1, 2] rfl) h
              · have h := h.1 c9
                refine lv_aload_n hx hb dX9_joins_64 rfl (lv_at hl 0 rfl) ?_
                refine lv_iload_n hx hb dX9_joins_65 rfl (lv_at hl 1 rfl) ?_
                refine lv_iload_n hx hb dX9_joins_66 rfl (lv_at hl 2 rfl) ?_
                refine cVi (As := [.int x1_9, .int x2_39]) (rest := [.int (x1_9 + 1), .ref a_t_into]) (wc := [(a_t, .inr (7, [.ref a_t_v, .ref a_t_past, .ref a_t_costs, .int t_edits, .int t_thrown, .ref a_t_into, .ref a_t_isNeeded, .ref a_t_depths, .ref a_t_names, .ref a_t_out, .int t_outs, .ref a_t_has])), (a_t_v, .inl (ca 0, 206, .inl f_t_v_21))]) (wr := [(a_t_into, .inl (ca 0, 41, .inl f_t_into_39))]) (w1 := fun _ : Unit => [(a_t, .inr (7, [.ref a_t_v, .ref a_t_past, .ref a_t_costs, .int t_edits, .int t_thrown, .ref a_t_into, .ref a_t_isNeeded, .ref a_t_depths, .ref a_t_names, .ref a_t_out, .int t_outs, .ref a_t_has])), (a_t_v, .inl (ca 0, 206, .inl f_t_v_21))]) (ws2 := fun _ : Unit => [(a_t, .inr (7, [.ref a_t_v, .ref a_t_past, .ref a_t_costs, .int t_edits, .int t_thrown, .ref a_t_into, .ref a_t_isNeeded, .ref a_t_depths, .ref a_t_names, .ref a_t_out, .int t_outs, .ref a_t_has])), (a_t_v, .inl (ca 0, 206, .inl f_t_v_21)), (a_t_into, .inl (ca 0, 41, .inl f_t_into_39))]) ⟨hx, hb, hml, hown, hts⟩ (mX9_areLike l D ca a_t a_t_v a_t_past a_t_costs a_t_into a_t_isNeeded a_t_depths a_t_names a_t_out a_t_has _ t_edits t_thrown t_outs f_t_v_21 x1_9 x2_39 _ h) (cwV 2 hts (gV q_1106 q_1108 qs_57 q_8 q_1109) rfl rfl rfl (by decide +kernel) ⟨Nat.le_of_ble_eq_true rfl, Nat.le_of_ble_eq_true rfl⟩) hK hP hD hS hA [0, 1] [2] [1, 2, 0] rfl rfl rfl (by decide) (fun _ => rfl) (ci := 7) (q0 := 0) rfl rfl rfl hl.1 rfl (Nat.le_of_ble_eq_true rfl) dX9_joins_67 ⟨Nat.le_of_ble_eq_true rfl, Nat.le_of_ble_eq_true rfl⟩ (fun r_67 u9 H locs h hP hD hS => ?_)
                try dsimp only at h
                refine lv_if_eq (tgt := 79) hx hb dX9_joins_70 (by decide) (fun c9 => ?_) (fun c9 => ?_)
                · have h := h.1 c9
                  exact hJ79 _ _ _ hP hD hS (lv_sub hl [0, 1, 2] rfl) h
                · have h := h.2 c9
                  refine lv_iload_n hx hb dX9_joins_73 rfl (lv_at hl 2 rfl) ?_
                  refine lv_iconst (v := 1) hx hb dX9_joins_74 (by decide) ?_
                  refine lv_iadd hx hb dX9_joins_75 ?_
                  refine lv_goto (tgt := 87) hx hb dX9_joins_76 (by decide) ?_
                  exact hJ87 (x2_39 + 1) _ _ _ hP hD hS (lv_sub hl [0, 1, 2] rfl) h
        obtain ⟨k9, h⟩ := h
        exact hL39 k9 x2_38 (upd f_t_into_9 (x1_9 + 1).toNatClampNeg (x1_9 + 1)) _ _ _ hP hD hS (lv_sub hl [1, 2, 0] rfl) h
  obtain ⟨k9, h⟩ := h
  exact hL9 k9 0 f_t_v (upd f_t_into (0 : Int32).toNatClampNeg 0) _ _ _ hP hD hS (lv_sub hl [1, 0] rfl) h

abbrev qX9_needs (D : va_G) (ca : Nat → ClassId) (a_t a_t_v a_t_past a_t_costs a_t_into a_t_isNeeded a_t_depths a_t_names a_t_out a_t_has : Nat) (t_edits : Int32) (t_thrown : Int32) (t_outs : Int32) (f_t_v : Nat → Int32) (Q : (Nat → Int32) → Prop) (A : Nat → Prop) : Array Value → State → Outcome → State → Prop := va_Qv (fun (u : (Nat → Int32)) => Q u) (wEnd D ca (fun u : (Nat → Int32) => [(a_t, .inr (7, [.ref a_t_v, .ref a_t_past, .ref a_t_costs, .int t_edits, .int t_thrown, .ref a_t_into, .ref a_t_isNeeded, .ref a_t_depths, .ref a_t_names, .ref a_t_out, .int t_outs, .ref a_t_has])), (a_t_v, .inl (ca 0, 206, .inl f_t_v)), (a_t_isNeeded, .inl (ca 3, 41, .inl u))]) A) A
def wX9_needs_105 (x1_44 : Int32) (K44 : Int32 → (Nat → Int32) → Prop) (f_t_isNeeded_56 : Nat → Int32) : Prop :=
  (∀ x1_105 : Int32, x1_105 = x1_44 + (-1) → K44 x1_105 f_t_isNeeded_56)
def wX9_needs_99 (x3_56 : Int32) (K56 : Int32 → (Nat → Int32) → Prop) (f_t_isNeeded_99 : Nat → Int32) : Prop :=
  (∀ x3_99 : Int32, x3_99 = x3_56 + 2 → K56 x3_99 f_t_isNeeded_99)
def wX9_needs_56 (f_t_v : Nat → Int32) (x1_44 : Int32) (K44 : Int32 → (Nat → Int32) → Prop) (x2_53 : Int32) : Nat → Int32 → (Nat → Int32) → Prop
  | 0, _, _ => False
  | n9 + 1, x3_56, f_t_isNeeded_56 =>
  ((5 ≤ x3_56 → wX9_needs_105 x1_44 K44 f_t_isNeeded_56) ∧ (¬ 5 ≤ x3_56 → (vp_in (x1_44 + 1) 41 ∧ (((f_t_isNeeded_56 (x1_44 + 1).toNatClampNeg) = 0 → wX9_needs_105 x1_44 K44 f_t_isNeeded_56) ∧ (¬ (f_t_isNeeded_56 (x1_44 + 1).toNatClampNeg) = 0 → (vp_in (x2_53 + x3_56) 206 ∧ (((f_t_v (x2_53 + x3_56).toNatClampNeg) = 0 → (vp_in ((x2_53 + x3_56) + 1) 206 ∧ (vp_in (f_t_v ((x2_53 + x3_56) + 1).toNatClampNeg) 41 ∧ wX9_needs_99 x3_56 (wX9_needs_56 f_t_v x1_44 K44 x2_53 n9) (upd f_t_isNeeded_56 (f_t_v ((x2_53 + x3_56) + 1).toNatClampNeg).toNatClampNeg (vp_nar .boolean 1))))) ∧ (¬ (f_t_v (x2_53 + x3_56).toNatClampNeg) = 0 → wX9_needs_99 x3_56 (wX9_needs_56 f_t_v x1_44 K44 x2_53 n9) f_t_isNeeded_56))))))))
def wX9_needs_44 (f_t_v : Nat → Int32) (Q : (Nat → Int32) → Prop) : Nat → Int32 → (Nat → Int32) → Prop
  | 0, _, _ => False
  | n9 + 1, x1_44, f_t_isNeeded_44 =>
  ((x1_44 < 0 → Q f_t_isNeeded_44) ∧ (¬ x1_44 < 0 → (∀ x2_53 : Int32, x2_53 = 5 + (5 * x1_44) → (∃ k9, wX9_needs_56 f_t_v x1_44 (wX9_needs_44 f_t_v Q n9) x2_53 k9 1 f_t_isNeeded_44))))
def wX9_needs_28 (x1_2 : Int32) (f_t_isNeeded_2 : Nat → Int32) (K2 : Int32 → (Nat → Int32) → Prop) (y2_28 : Int32) : Prop :=
  (vp_in x1_2 41 ∧ (∀ x1_29 : Int32, x1_29 = x1_2 + 1 → K2 x1_29 (upd f_t_isNeeded_2 x1_2.toNatClampNeg (vp_nar .boolean y2_28))))
def wX9_needs_2 (f_t_v : Nat → Int32) (Q : (Nat → Int32) → Prop) : Nat → Int32 → (Nat → Int32) → Prop
  | 0, _, _ => False
  | n9 + 1, x1_2, f_t_isNeeded_2 =>
  ((40 < x1_2 → (vp_in 3 206 ∧ (∀ x1_43 : Int32, x1_43 = (f_t_v (3 : Int32).toNatClampNeg) - 1 → (∃ k9, wX9_needs_44 f_t_v Q k9 x1_43 f_t_isNeeded_2)))) ∧ (¬ 40 < x1_2 → (vp_in 4 206 ∧ ((x1_2 = (f_t_v (4 : Int32).toNatClampNeg) → wX9_needs_28 x1_2 f_t_isNeeded_2 (wX9_needs_2 f_t_v Q n9) 1) ∧ (¬ x1_2 = (f_t_v (4 : Int32).toNatClampNeg) → wX9_needs_28 x1_2 f_t_isNeeded_2 (wX9_needs_2 f_t_v Q n9) 0)))))
def wX9_needs (f_t_v : Nat → Int32) (f_t_isNeeded : Nat → Int32) (Q : (Nat → Int32) → Prop) : Prop :=
  (∃ k9, wX9_needs_2 f_t_v Q k9 0 f_t_isNeeded)
set_option maxHeartbeats 4000000 in
set_option maxRecDepth 100000 in
theorem mX9_needs (l : Launch) (D : va_G) (ca : Nat → ClassId) (a_t a_t_v a_t_past a_t_costs a_t_into a_t_isNeeded a_t_depths a_t_names a_t_out a_t_has : Nat) (sz : Nat) (t_edits : Int32) (t_thrown : Int32) (t_outs : Int32) (f_t_v : Nat → Int32) (f_t_isNeeded : Nat → Int32) (Q : (Nat → Int32) → Prop) (h : wX9_needs f_t_v f_t_isNeeded Q) : Met l yX9_needs (Cond.code yX9_needs cX9_needs 4 none :: wsG) ({ frames := 0, cells := 0, slots := 0, locals := 0 } : Room) (va_Pc [.ref a_t] (wPre D ca [(a_t, .inr (7, [.ref a_t_v, .ref a_t_past, .ref a_t_costs, .int t_edits, .int t_thrown, .ref a_t_into, .ref a_t_isNeeded, .ref a_t_depths, .ref a_t_names, .ref a_t_out, .int t_outs, .ref a_t_has])), (a_t_v, .inl (ca 0, 206, .inl f_t_v)), (a_t_isNeeded, .inl (ca 3, 41, .inl f_t_isNeeded))] sz)) (qX9_needs D ca a_t a_t_v a_t_past a_t_costs a_t_into a_t_isNeeded a_t_depths a_t_names a_t_out a_t_has t_edits t_thrown t_outs f_t_v Q (va_A [(a_t, .inr (7, [.ref a_t_v, .ref a_t_past, .ref a_t_costs, .int t_edits, .int t_thrown, .ref a_t_into, .ref a_t_isNeeded, .ref a_t_depths, .ref a_t_names, .ref a_t_out, .int t_outs, .ref a_t_has])), (a_t_v, .inl (ca 0, 206, .inl f_t_v)), (a_t_isNeeded, .inl (ca 3, 41, .inl f_t_isNeeded))] sz)) 0 0 (va_A [(a_t, .inr (7, [.ref a_t_v, .ref a_t_past, .ref a_t_costs, .int t_edits, .int t_thrown, .ref a_t_into, .ref a_t_isNeeded, .ref a_t_depths, .ref a_t_names, .ref a_t_out, .int t_outs, .ref a_t_has])), (a_t_v, .inl (ca 0, 206, .inl f_t_v)), (a_t_isNeeded, .inl (ca 3, 41, .inl f_t_isNeeded))] sz) := by
  refine Met.ofW (cc := cX9_needs) (maxL := 4) (ret := none) (by decide) rfl ?_
  intro p e s m args below meth c s₁ B hml hv
  obtain ⟨rfl, hsz, hP, hK, hD0⟩ := hv
  have hx := B.exec
  have hb := B.bytes
  have hr := B.returns
  have hts := atoms_spec (ws := (Cond.code yX9_needs cX9_needs 4 none :: wsG)) B.pre
  have hq : ∀ w ∈ wsG, w.before _ s = true := fun w hw => hts w (List.mem_cons_of_mem _ hw)
  have hown : s.vm.findClass RX9 = some m.cls := findClass_of_methodNamed B.named
  have hlocks := B.notSynchronized
  subst hsz
  have hD := hD0.self (sz := s.heap.size)
  generalize hAe : va_A [(a_t, .inr (7, [.ref a_t_v, .ref a_t_past, .ref a_t_costs, .int t_edits, .int t_thrown, .ref a_t_into, .ref a_t_isNeeded, .ref a_t_depths, .ref a_t_names, .ref a_t_out, .int t_outs, .ref a_t_has])), (a_t_v, .inl (ca 0, 206, .inl f_t_v)), (a_t_isNeeded, .inl (ca 3, 41, .inl f_t_isNeeded))] s.heap.size = A at hD ⊢
  have hA : ∀ q : Nat, s.heap.size ≤ q → A q := fun q h => by rw [← hAe]; exact Or.inr h
  have hS : va_S A s.heap s.heap [] := va_S.rf
  have hP : va_P D vwCl [(a_t, .inr (7, [.ref a_t_v, .ref a_t_past, .ref a_t_costs, .int t_edits, .int t_thrown, .ref a_t_into, .ref a_t_isNeeded, .ref a_t_depths, .ref a_t_names, .ref a_t_out, .int t_outs, .ref a_t_has])), (a_t_v, .inl (ca 0, 206, .inl f_t_v)), (a_t_isNeeded, .inl (ca 3, 41, .inl f_t_isNeeded))] s.heap := hP
  have hl := lv_entry ([.ref a_t]) (n := 4) (Nat.le_of_ble_eq_true rfl)
  rw [lg_entry_eq]
  generalize (lg_sl ([.ref a_t]) ++ List.replicate (4 - (lg_sl ([.ref a_t])).length) Slot.unset).toArray = ls at hl ⊢
  have hl : lv_has ls 4 [(0, .ref a_t)] := hl
  unfold wX9_needs at h
  refine lv_iconst (v := 0) hx hb dX9_needs_0 (by decide) ?_
  refine lv_istore_n (lv' := [(1, .int 0), (0, .ref a_t)]) hx hb dX9_needs_1 rfl hl (by decide) rfl (fun ls hl => ?_)
  have hL2 : ∀ (n9_2 : Nat) (x1_2 : Int32) (f_t_isNeeded_2 : Nat → Int32) (H : Heap) (locs : List Loc) (ls : Array Slot), va_P D vwCl [(a_t, .inr (7, [.ref a_t_v, .ref a_t_past, .ref a_t_costs, .int t_edits, .int t_thrown, .ref a_t_into, .ref a_t_isNeeded, .ref a_t_depths, .ref a_t_names, .ref a_t_out, .int t_outs, .ref a_t_has])), (a_t_v, .inl (ca 0, 206, .inl f_t_v)), (a_t_isNeeded, .inl (ca 3, 41, .inl f_t_isNeeded_2))] H → va_D A [(a_t, .inr (7, [.ref a_t_v, .ref a_t_past, .ref a_t_costs, .int t_edits, .int t_thrown, .ref a_t_into, .ref a_t_isNeeded, .ref a_t_depths, .ref a_t_names, .ref a_t_out, .int t_outs, .ref a_t_has])), (a_t_v, .inl (ca 0, 206, .inl f_t_v)), (a_t_isNeeded, .inl (ca 3, 41, .inl f_t_isNeeded_2))] → va_S A s.heap H locs → lv_has ls 4 [(0, .ref a_t), (1, .int x1_2)] → wX9_needs_2 f_t_v Q n9_2 x1_2 f_t_isNeeded_2 → W p l e (headSpec (Cond.code yX9_needs cX9_needs 4 none :: wsG) ({ frames := 0, cells := 0, slots := 0, locals := 0 } : Room)).room s m ([.ref a_t] : List Value).toArray below meth c H locs 0 0 (MQ below (qX9_needs D ca a_t a_t_v a_t_past a_t_costs a_t_into a_t_isNeeded a_t_depths a_t_names a_t_out a_t_has t_edits t_thrown t_outs f_t_v Q A) ([.ref a_t] : List Value).toArray s 0 0 A) (F0 m 2 ls []) := by
    intro n9_2
    induction n9_2 with
    | zero =>
      intro x1_2 f_t_isNeeded_2 H locs ls hP hD hS hl h
      exact False.elim h
    | succ n9_2 ih2 =>
      intro x1_2 f_t_isNeeded_2 H locs ls hP hD hS hl h
      unfold wX9_needs_2 at h
      refine lv_iload_n hx hb dX9_needs_2 rfl (lv_at hl 1 rfl) ?_
      refine lv_bipush (v := 40) hx hb dX9_needs_3 (by decide) ?_
      refine lv_icmp_gt (tgt := 35) hx hb dX9_needs_5 (by decide) (fun c9 => ?_) (fun c9 => ?_)
      · have h := h.1 c9
        refine lv_aload_n hx hb dX9_needs_35 rfl (lv_at hl 0 rfl) ?_
        refine va_get (D := D) (ci := 7) (v := .ref a_t_v) (C := RX9) (T := TX9) (N := 12) hx hb hq inX9g hown hK hP 0 rfl rfl 0 (by decide) (hq _ q_881) (fun _ h9 => h9) rfl dX9_needs_36 ?_
        refine lv_iconst (v := 3) hx hb dX9_needs_39 (by decide) ?_
        obtain ⟨hi9, h⟩ := h
        refine va_iald hx hb hK hP 1 0 rfl rfl hi9 dX9_needs_40 ?_
        refine lv_iconst (v := 1) hx hb dX9_needs_41 (by decide) ?_
        refine lv_isub hx hb dX9_needs_42 ?_
        refine lv_topi (fun x1_43 ex1_43 => ?_)
        have h := h x1_43 ex1_43
        refine lv_istore_n (lv' := [(1, .int x1_43), (0, .ref a_t)]) hx hb dX9_needs_43 rfl hl (by decide) rfl (fun ls hl => ?_)
        have hL44 : ∀ (n9_44 : Nat) (x1_44 : Int32) (f_t_isNeeded_44 : Nat → Int32) (H : Heap) (locs : List Loc) (ls : Array Slot), va_P D vwCl [(a_t, .inr (7, [.ref a_t_v, .ref a_t_past, .ref a_t_costs, .int t_edits, .int t_thrown, .ref a_t_into, .ref a_t_isNeeded, .ref a_t_depths, .ref a_t_names, .ref a_t_out, .int t_outs, .ref a_t_has])), (a_t_v, .inl (ca 0, 206, .inl f_t_v)), (a_t_isNeeded, .inl (ca 3, 41, .inl f_t_isNeeded_44))] H → va_D A [(a_t, .inr (7, [.ref a_t_v, .ref a_t_past, .ref a_t_costs, .int t_edits, .int t_thrown, .ref a_t_into, .ref a_t_isNeeded, .ref a_t_depths, .ref a_t_names, .ref a_t_out, .int t_outs, .ref a_t_has])), (a_t_v, .inl (ca 0, 206, .inl f_t_v)), (a_t_isNeeded, .inl (ca 3, 41, .inl f_t_isNeeded_44))] → va_S A s.heap H locs → lv_has ls 4 [(0, .ref a_t), (1, .int x1_44)] → wX9_needs_44 f_t_v Q n9_44 x1_44 f_t_isNeeded_44 → W p l e (headSpec (Cond.code yX9_needs cX9_needs 4 none :: wsG) ({ frames := 0, cells := 0, slots := 0, locals := 0 } : Room)).room s m ([.ref a_t] : List Value).toArray below meth c H locs 0 0 (MQ below (qX9_needs D ca a_t a_t_v a_t_past a_t_costs a_t_into a_t_isNeeded a_t_depths a_t_names a_t_out a_t_has t_edits t_thrown t_outs f_t_v Q A) ([.ref a_t] : List Value).toArray s 0 0 A) (F0 m 44 ls []) := by
          intro n9_44
          induction n9_44 with
          | zero =>
            intro x1_44 f_t_isNeeded_44 H locs ls hP hD hS hl h
            exact False.elim h
          | succ n9_44 ih44 =>
            intro x1_44 f_t_isNeeded_44 H locs ls hP hD hS hl h
            unfold wX9_needs_44 at h
            refine lv_iload_n hx hb dX9_needs_44 rfl (lv_at hl 1 rfl) ?_
            refine lv_if_lt (tgt := 111) hx hb dX9_needs_45 (by decide) (fun c9 => ?_) (fun c9 => ?_)
            · have h := h.1 c9
              exact W.vret hx hb hr (fun t ht hW => ⟨⟨f_t_isNeeded_44, rfl, h, by rw [ht]; exact hP, va_K.moved hW.alike hK, hD⟩, hS.F ht⟩) hS.2.2 dX9_needs_111
            · have h := h.2 c9
              refine lv_iconst (v := 5) hx hb dX9_needs_48 (by decide) ?_
              refine lv_iconst (v := 5) hx hb dX9_needs_49 (by decide) ?_
              refine lv_iload_n hx hb dX9_needs_50 rfl (lv_at hl 1 rfl) ?_
              refine lv_imul hx hb dX9_needs_51 ?_
              refine lv_iadd hx hb dX9_needs_52 ?_
              refine lv_topi (fun x2_53 ex2_53 => ?_)
              have h := h x2_53 ex2_53
              refine lv_istore_n (lv' := [(2, .int x2_53), (0, .ref a_t), (1, .int x1_44)]) hx hb dX9_needs_53 rfl hl (by decide) rfl (fun ls hl => ?_)
              refine lv_iconst (v := 1) hx hb dX9_needs_54 (by decide) ?_
              refine lv_istore_n (lv' := [(3, .int 1), (2, .int x2_53), (0, .ref a_t), (1, .int x1_44)]) hx hb dX9_needs_55 rfl hl (by decide) rfl (fun ls hl => ?_)
              have hL56 : ∀ (n9_56 : Nat) (x3_56 : Int32) (f_t_isNeeded_56 : Nat → Int32) (H : Heap) (locs : List Loc) (ls : Array Slot), va_P D vwCl [(a_t, .inr (7, [.ref a_t_v, .ref a_t_past, .ref a_t_costs, .int t_edits, .int t_thrown, .ref a_t_into, .ref a_t_isNeeded, .ref a_t_depths, .ref a_t_names, .ref a_t_out, .int t_outs, .ref a_t_has])), (a_t_v, .inl (ca 0, 206, .inl f_t_v)), (a_t_isNeeded, .inl (ca 3, 41, .inl f_t_isNeeded_56))] H → va_D A [(a_t, .inr (7, [.ref a_t_v, .ref a_t_past, .ref a_t_costs, .int t_edits, .int t_thrown, .ref a_t_into, .ref a_t_isNeeded, .ref a_t_depths, .ref a_t_names, .ref a_t_out, .int t_outs, .ref a_t_has])), (a_t_v, .inl (ca 0, 206, .inl f_t_v)), (a_t_isNeeded, .inl (ca 3, 41, .inl f_t_isNeeded_56))] → va_S A s.heap H locs → lv_has ls 4 [(0, .ref a_t), (1, .int x1_44), (2, .int x2_53), (3, .int x3_56)] → wX9_needs_56 f_t_v x1_44 (wX9_needs_44 f_t_v Q n9_44) x2_53 n9_56 x3_56 f_t_isNeeded_56 → W p l e (headSpec (Cond.code yX9_needs cX9_needs 4 none :: wsG) ({ frames := 0, cells := 0, slots := 0, locals := 0 } : Room)).room s m ([.ref a_t] : List Value).toArray below meth c H locs 0 0 (MQ below (qX9_needs D ca a_t a_t_v a_t_past a_t_costs a_t_into a_t_isNeeded a_t_depths a_t_names a_t_out a_t_has t_edits t_thrown t_outs f_t_v Q A) ([.ref a_t] : List Value).toArray s 0 0 A) (F0 m 56 ls []) := by
                intro n9_56
                induction n9_56 with
                | zero =>
                  intro x3_56 f_t_isNeeded_56 H locs ls hP hD hS hl h
                  exact False.elim h
                | succ n9_56 ih56 =>
                  intro x3_56 f_t_isNeeded_56 H locs ls hP hD hS hl h
                  unfold wX9_needs_56 at h
                  refine lv_iload_n hx hb dX9_needs_56 rfl (lv_at hl 3 rfl) ?_
                  refine lv_iconst (v := 5) hx hb dX9_needs_57 (by decide) ?_
                  have hJ105 : ∀ (H : Heap) (locs : List Loc) (ls : Array Slot), va_P D vwCl [(a_t, .inr (7, [.ref a_t_v, .ref a_t_past, .ref a_t_costs, .int t_edits, .int t_thrown, .ref a_t_into, .ref a_t_isNeeded, .ref a_t_depths, .ref a_t_names, .ref a_t_out, .int t_outs, .ref a_t_has])), (a_t_v, .inl (ca 0, 206, .inl f_t_v)), (a_t_isNeeded, .inl (ca 3, 41, .inl f_t_isNeeded_56))] H → va_D A [(a_t, .inr (7, [.ref a_t_v, .ref a_t_past, .ref a_t_costs, .int t_edits, .int t_thrown, .ref a_t_into, .ref a_t_isNeeded, .ref a_t_depths, .ref a_t_names, .ref a_t_out, .int t_outs, .ref a_t_has])), (a_t_v, .inl (ca 0, 206, .inl f_t_v)), (a_t_isNeeded, .inl (ca 3, 41, .inl f_t_isNeeded_56))] → va_S A s.heap H locs → lv_has ls 4 [(0, .ref a_t), (1, .int x1_44)] → wX9_needs_105 x1_44 (wX9_needs_44 f_t_v Q n9_44) f_t_isNeeded_56 → W p l e (headSpec (Cond.code yX9_needs cX9_needs 4 none :: wsG) ({ frames := 0, cells := 0, slots := 0, locals := 0 } : Room)).room s m ([.ref a_t] : List Value).toArray below meth c H locs 0 0 (MQ below (qX9_needs D ca a_t a_t_v a_t_past a_t_costs a_t_into a_t_isNeeded a_t_depths a_t_names a_t_out a_t_has t_edits t_thrown t_outs f_t_v Q A) ([.ref a_t] : List Value).toArray s 0 0 A) (F0 m 105 ls []) := by
                    intro  H locs ls hP hD hS hl h
                    unfold wX9_needs_105 at h
                    obtain ⟨x1_105, ex1_105⟩ : ∃ y : Int32, y = x1_44 + (-1) := ⟨_, rfl⟩
                    have h := h x1_105 ex1_105
                    refine lv_iinc (v := x1_105) (lv' := [(1, .int x1_105), (0, .ref a_t)]) hx hb dX9_needs_105 hl (k := 1) rfl (by rw [ex1_105]; rfl) (by decide) rfl (fun ls hl => ?_)
                    refine lv_goto (tgt := 44) hx hb dX9_needs_108 (by decide) ?_
                    exact ih44 x1_105 f_t_isNeeded_56 _ _ _ hP hD hS (lv_sub hl [1, 0] rfl) h
                  refine lv_icmp_ge (tgt := 105) hx hb dX9_needs_58 (by decide) (fun c9 => ?_) (fun c9 => ?_)
                  · have h := h.1 c9
                    exact hJ105 _ _ _ hP hD hS (lv_sub hl [0, 1] rfl) h
                  · have h := h.2 c9
                    refine lv_aload_n hx hb dX9_needs_61 rfl (lv_at hl 0 rfl) ?_
                    refine va_get (D := D) (ci := 7) (v := .ref a_t_isNeeded) (C := RX9) (T := TX9) (N := 12) hx hb hq inX9g hown hK hP 0 rfl rfl 6 (by decide) (hq _ q_887) (fun _ h9 => h9) rfl dX9_needs_62 ?_
                    refine lv_iload_n hx hb dX9_needs_65 rfl (lv_at hl 1 rfl) ?_
                    refine lv_iconst (v := 1) hx hb dX9_needs_66 (by decide) ?_
                    refine lv_iadd hx hb dX9_needs_67 ?_
                    obtain ⟨hi9, h⟩ := h
                    refine va_zald hx hb hK hP 2 3 rfl rfl hi9 dX9_needs_68 ?_
                    refine lv_if_eq (tgt := 105) hx hb dX9_needs_69 (by decide) (fun c9 => ?_) (fun c9 => ?_)
                    · have h := h.1 c9
                      exact hJ105 _ _ _ hP hD hS (lv_sub hl [0, 1] rfl) h
                    · have h := h.2 c9
                      refine lv_aload_n hx hb dX9_needs_72 rfl (lv_at hl 0 rfl) ?_
                      refine va_get (D := D) (ci := 7) (v := .ref a_t_v) (C := RX9) (T := TX9) (N := 12) hx hb hq inX9g hown hK hP 0 rfl rfl 0 (by decide) (hq _ q_881) (fun _ h9 => h9) rfl dX9_needs_73 ?_
                      refine lv_iload_n hx hb dX9_needs_76 rfl (lv_at hl 2 rfl) ?_
                      refine lv_iload_n hx hb dX9_needs_77 rfl (lv_at hl 3 rfl) ?_
                      refine lv_iadd hx hb dX9_needs_78 ?_
                      obtain ⟨hi9, h⟩ := h
                      refine va_iald hx hb hK hP 1 0 rfl rfl hi9 dX9_needs_79 ?_
                      have hJ99 : ∀ (f_t_isNeeded_99 : Nat → Int32) (H : Heap) (locs : List Loc) (ls : Array Slot), va_P D vwCl [(a_t, .inr (7, [.ref a_t_v, .ref a_t_past, .ref a_t_costs, .int t_edits, .int t_thrown, .ref a_t_into, .ref a_t_isNeeded, .ref a_t_depths, .ref a_t_names, .ref a_t_out, .int t_outs, .ref a_t_has])), (a_t_v, .inl (ca 0, 206, .inl f_t_v)), (a_t_isNeeded, .inl (ca 3, 41, .inl f_t_isNeeded_99))] H → va_D A [(a_t, .inr (7, [.ref a_t_v, .ref a_t_past, .ref a_t_costs, .int t_edits, .int t_thrown, .ref a_t_into, .ref a_t_isNeeded, .ref a_t_depths, .ref a_t_names, .ref a_t_out, .int t_outs, .ref a_t_has])), (a_t_v, .inl (ca 0, 206, .inl f_t_v)), (a_t_isNeeded, .inl (ca 3, 41, .inl f_t_isNeeded_99))] → va_S A s.heap H locs → lv_has ls 4 [(0, .ref a_t), (1, .int x1_44), (2, .int x2_53), (3, .int x3_56)] → wX9_needs_99 x3_56 (wX9_needs_56 f_t_v x1_44 (wX9_needs_44 f_t_v Q n9_44) x2_53 n9_56) f_t_isNeeded_99 → W p l e (headSpec (Cond.code yX9_needs cX9_needs 4 none :: wsG) ({ frames := 0, cells := 0, slots := 0, locals := 0 } : Room)).room s m ([.ref a_t] : List Value).toArray below meth c H locs 0 0 (MQ below (qX9_needs D ca a_t a_t_v a_t_past a_t_costs a_t_into a_t_isNeeded a_t_depths a_t_names a_t_out a_t_has t_edits t_thrown t_outs f_t_v Q A) ([.ref a_t] : List Value).toArray s 0 0 A) (F0 m 99 ls []) := by
                        intro f_t_isNeeded_99 H locs ls hP hD hS hl h
                        unfold wX9_needs_99 at h
                        obtain ⟨x3_99, ex3_99⟩ : ∃ y : Int32, y = x3_56 + 2 := ⟨_, rfl⟩
                        have h := h x3_99 ex3_99
                        refine lv_iinc (v := x3_99) (lv' := [(3, .int x3_99), (0, .ref a_t), (1, .int x1_44), (2, .int x2_53)]) hx hb dX9_needs_99 hl (k := 3) rfl (by rw [ex3_99]; rfl) (by decide) rfl (fun ls hl => ?_)
                        refine lv_goto (tgt := 56) hx hb dX9_needs_102 (by decide) ?_
                        exact ih56 x3_99 f_t_isNeeded_99 _ _ _ hP hD hS (lv_sub hl [1, 2, 3, 0] rfl) h
                      refine lv_if_ne (tgt := 99) hx hb dX9_needs_80 (by decide) (fun c9 => ?_) (fun c9 => ?_)
                      · have h := h.2 c9
                        exact hJ99 f_t_isNeeded_56 _ _ _ hP hD hS (lv_sub hl [0, 1, 2, 3] rfl) h
                      · have h := h.1 c9
                        refine lv_aload_n hx hb dX9_needs_83 rfl (lv_at hl 0 rfl) ?_
                        refine va_get (D := D) (ci := 7) (v := .ref a_t_isNeeded) (C := RX9) (T := TX9) (N := 12) hx hb hq inX9g hown hK hP 0 rfl rfl 6 (by decide) (hq _ q_887) (fun _ h9 => h9) rfl dX9_needs_84 ?_
                        refine lv_aload_n hx hb dX9_needs_87 rfl (lv_at hl 0 rfl) ?_
                        refine va_get (D := D) (ci := 7) (v := .ref a_t_v) (C := RX9) (T := TX9) (N := 12) hx hb hq inX9g hown hK hP 0 rfl rfl 0 (by decide) (hq _ q_881) (fun _ h9 => h9) rfl dX9_needs_88 ?_
                        refine lv_iload_n hx hb dX9_needs_91 rfl (lv_at hl 2 rfl) ?_
                        refine lv_iload_n hx hb dX9_needs_92 rfl (lv_at hl 3 rfl) ?_
                        refine lv_iadd hx hb dX9_needs_93 ?_
                        refine lv_iconst (v := 1) hx hb dX9_needs_94 (by decide) ?_
                        refine lv_iadd hx hb dX9_needs_95 ?_
                        obtain ⟨hi9, h⟩ := h
                        refine va_iald hx hb hK hP 1 0 rfl rfl hi9 dX9_needs_96 ?_
                        refine lv_iconst (v := 1) hx hb dX9_needs_97 (by decide) ?_
                        obtain ⟨hi9, h⟩ := h
                        refine va_zast hx hb hK hP hD hS 2 3 rfl rfl hi9 dX9_needs_98 (fun H locs hP hD hS => ?_)
                        have hP : va_P D vwCl [(a_t, .inr (7, [.ref a_t_v, .ref a_t_past, .ref a_t_costs, .int t_edits, .int t_thrown, .ref a_t_into, .ref a_t_isNeeded, .ref a_t_depths, .ref a_t_names, .ref a_t_out, .int t_outs, .ref a_t_has])), (a_t_v, .inl (ca 0, 206, .inl f_t_v)), (a_t_isNeeded, .inl (ca 3, 41, .inl (upd f_t_isNeeded_56 (f_t_v ((x2_53 + x3_56) + 1).toNatClampNeg).toNatClampNeg (vp_nar .boolean 1))))] H := hP
                        have hD : va_D A [(a_t, .inr (7, [.ref a_t_v, .ref a_t_past, .ref a_t_costs, .int t_edits, .int t_thrown, .ref a_t_into, .ref a_t_isNeeded, .ref a_t_depths, .ref a_t_names, .ref a_t_out, .int t_outs, .ref a_t_has])), (a_t_v, .inl (ca 0, 206, .inl f_t_v)), (a_t_isNeeded, .inl (ca 3, 41, .inl (upd f_t_isNeeded_56 (f_t_v ((x2_53 + x3_56) + 1).toNatClampNeg).toNatClampNeg (vp_nar .boolean 1))))] := hD
                        exact hJ99 (upd f_t_isNeeded_56 (f_t_v ((x2_53 + x3_56) + 1).toNatClampNeg).toNatClampNeg (vp_nar .boolean 1)) _ _ _ hP hD hS (lv_sub hl [0, 1, 2, 3] rfl) h
              obtain ⟨k9, h⟩ := h
              exact hL56 k9 1 f_t_isNeeded_44 _ _ _ hP hD hS (lv_sub hl [2, 3, 1, 0] rfl) h
        obtain ⟨k9, h⟩ := h
        exact hL44 k9 x1_43 f_t_isNeeded_2 _ _ _ hP hD hS (lv_sub hl [1, 0] rfl) h
      · have h := h.2 c9
        refine lv_aload_n hx hb dX9_needs_8 rfl (lv_at hl 0 rfl) ?_
        refine va_get (D := D) (ci := 7) (v := .ref a_t_isNeeded) (C := RX9) (T := TX9) (N := 12) hx hb hq inX9g hown hK hP 0 rfl rfl 6 (by decide) (hq _ q_887) (fun _ h9 => h9) rfl dX9_needs_9 ?_
        refine lv_iload_n hx hb dX9_needs_12 rfl (lv_at hl 1 rfl) ?_
        refine lv_iload_n hx hb dX9_needs_13 rfl (lv_at hl 1 rfl) ?_
        refine lv_aload_n hx hb dX9_needs_14 rfl (lv_at hl 0 rfl) ?_
        refine va_get (D := D) (ci := 7) (v := .ref a_t_v) (C := RX9) (T := TX9) (N := 12) hx hb hq inX9g hown hK hP 0 rfl rfl 0 (by decide) (hq _ q_881) (fun _ h9 => h9) rfl dX9_needs_15 ?_
        refine lv_iconst (v := 4) hx hb dX9_needs_18 (by decide) ?_
        obtain ⟨hi9, h⟩ := h
        refine va_iald hx hb hK hP 1 0 rfl rfl hi9 dX9_needs_19 ?_
        have hJ28 : ∀ (y2_28 : Int32) (H : Heap) (locs : List Loc) (ls : Array Slot), va_P D vwCl [(a_t, .inr (7, [.ref a_t_v, .ref a_t_past, .ref a_t_costs, .int t_edits, .int t_thrown, .ref a_t_into, .ref a_t_isNeeded, .ref a_t_depths, .ref a_t_names, .ref a_t_out, .int t_outs, .ref a_t_has])), (a_t_v, .inl (ca 0, 206, .inl f_t_v)), (a_t_isNeeded, .inl (ca 3, 41, .inl f_t_isNeeded_2))] H → va_D A [(a_t, .inr (7, [.ref a_t_v, .ref a_t_past, .ref a_t_costs, .int t_edits, .int t_thrown, .ref a_t_into, .ref a_t_isNeeded, .ref a_t_depths, .ref a_t_names, .ref a_t_out, .int t_outs, .ref a_t_has])), (a_t_v, .inl (ca 0, 206, .inl f_t_v)), (a_t_isNeeded, .inl (ca 3, 41, .inl f_t_isNeeded_2))] → va_S A s.heap H locs → lv_has ls 4 [(0, .ref a_t), (1, .int x1_2)] → wX9_needs_28 x1_2 f_t_isNeeded_2 (wX9_needs_2 f_t_v Q n9_2) y2_28 → W p l e (headSpec (Cond.code yX9_needs cX9_needs 4 none :: wsG) ({ frames := 0, cells := 0, slots := 0, locals := 0 } : Room)).room s m ([.ref a_t] : List Value).toArray below meth c H locs 0 0 (MQ below (qX9_needs D ca a_t a_t_v a_t_past a_t_costs a_t_into a_t_isNeeded a_t_depths a_t_names a_t_out a_t_has t_edits t_thrown t_outs f_t_v Q A) ([.ref a_t] : List Value).toArray s 0 0 A) (F0 m 28 ls [.int y2_28, .int x1_2, .ref a_t_isNeeded]) := by
          intro y2_28 H locs ls hP hD hS hl h
          unfold wX9_needs_28 at h
          obtain ⟨hi9, h⟩ := h
          refine va_zast hx hb hK hP hD hS 2 3 rfl rfl hi9 dX9_needs_28 (fun H locs hP hD hS => ?_)
          have hP : va_P D vwCl [(a_t, .inr (7, [.ref a_t_v, .ref a_t_past, .ref a_t_costs, .int t_edits, .int t_thrown, .ref a_t_into, .ref a_t_isNeeded, .ref a_t_depths, .ref a_t_names, .ref a_t_out, .int t_outs, .ref a_t_has])), (a_t_v, .inl (ca 0, 206, .inl f_t_v)), (a_t_isNeeded, .inl (ca 3, 41, .inl (upd f_t_isNeeded_2 x1_2.toNatClampNeg (vp_nar .boolean y2_28))))] H := hP
          have hD : va_D A [(a_t, .inr (7, [.ref a_t_v, .ref a_t_past, .ref a_t_costs, .int t_edits, .int t_thrown, .ref a_t_into, .ref a_t_isNeeded, .ref a_t_depths, .ref a_t_names, .ref a_t_out, .int t_outs, .ref a_t_has])), (a_t_v, .inl (ca 0, 206, .inl f_t_v)), (a_t_isNeeded, .inl (ca 3, 41, .inl (upd f_t_isNeeded_2 x1_2.toNatClampNeg (vp_nar .boolean y2_28))))] := hD
          obtain ⟨x1_29, ex1_29⟩ : ∃ y : Int32, y = x1_2 + 1 := ⟨_, rfl⟩
          have h := h x1_29 ex1_29
          refine lv_iinc (v := x1_29) (lv' := [(1, .int x1_29), (0, .ref a_t)]) hx hb dX9_needs_29 hl (k := 1) rfl (by rw [ex1_29]; rfl) (by decide) rfl (fun ls hl => ?_)
          refine lv_goto (tgt := 2) hx hb dX9_needs_32 (by decide) ?_
          exact ih2 x1_29 (upd f_t_isNeeded_2 x1_2.toNatClampNeg (vp_nar .boolean y2_28)) _ _ _ hP hD hS (lv_sub hl [1, 0] rfl) h
        refine lv_icmp_ne (tgt := 27) hx hb dX9_needs_20 (by decide) (fun c9 => ?_) (fun c9 => ?_)
        · have h := h.2 c9
          refine lv_iconst (v := 0) hx hb dX9_needs_27 (by decide) ?_
          exact hJ28 0 _ _ _ hP hD hS (lv_sub hl [0, 1] rfl) h
        · have h := h.1 c9
          refine lv_iconst (v := 1) hx hb dX9_needs_23 (by decide) ?_
          refine lv_goto (tgt := 28) hx hb dX9_needs_24 (by decide) ?_
          exact hJ28 1 _ _ _ hP hD hS (lv_sub hl [0, 1] rfl) h
  obtain ⟨k9, h⟩ := h
  exact hL2 k9 0 f_t_isNeeded _ _ _ hP hD hS (lv_sub hl [1, 0] rfl) h

abbrev qX9_tidy (D : va_G) (ca : Nat → ClassId) (a_t a_t_v a_t_past a_t_costs a_t_into a_t_isNeeded a_t_depths a_t_names a_t_out a_t_has : Nat) (t_outs : Int32) (Q : Int32 → Int32 → Int32 → (Nat → Int32) → (Nat → Int32) → (Nat → Int32) → (Nat → Int32) → Prop) (A : Nat → Prop) : Array Value → State → Outcome → State → Prop := va_Qi (fun (r : Int32) (u : Int32 × Int32 × (Nat → Int32) × (Nat → Int32) × (Nat → Int32) × (Nat → Int32)) => Q r u.1 u.2.1 u.2.2.1 u.2.2.2.1 u.2.2.2.2.1 u.2.2.2.2.2) (wEnd D ca (fun u : Int32 × Int32 × (Nat → Int32) × (Nat → Int32) × (Nat → Int32) × (Nat → Int32) => [(a_t, .inr (7, [.ref a_t_v, .ref a_t_past, .ref a_t_costs, .int u.1, .int u.2.1, .ref a_t_into, .ref a_t_isNeeded, .ref a_t_depths, .ref a_t_names, .ref a_t_out, .int t_outs, .ref a_t_has])), (a_t_v, .inl (ca 0, 206, .inl u.2.2.1)), (a_t_past, .inl (ca 0, 1648, .inl u.2.2.2.1)), (a_t_into, .inl (ca 0, 41, .inl u.2.2.2.2.1)), (a_t_isNeeded, .inl (ca 3, 41, .inl u.2.2.2.2.2))]) A) A
def wX9_tidy_109 (x3_35 : Int32) (K35 : Int32 → Int32 → (Nat → Int32) → (Nat → Int32) → Prop) (x2_109 : Int32) (f_t_v_109 : Nat → Int32) (f_t_into_109 : Nat → Int32) : Prop :=
  (∀ x3_109 : Int32, x3_109 = x3_35 + 1 → K35 x2_109 x3_109 f_t_v_109 f_t_into_109)
def wX9_tidy_59 (x2_35 : Int32) (x3_35 : Int32) (f_t_into_35 : Nat → Int32) (K35 : Int32 → Int32 → (Nat → Int32) → (Nat → Int32) → Prop) : Nat → Int32 → (Nat → Int32) → Prop
  | 0, _, _ => False
  | n9 + 1, x4_59, f_t_v_59 =>
  ((5 ≤ x4_59 → (∀ x2_97 : Int32, x2_97 = x2_35 + 1 → (vp_in (x3_35 + 1) 41 ∧ wX9_tidy_109 x3_35 K35 x2_97 f_t_v_59 (upd f_t_into_35 (x3_35 + 1).toNatClampNeg x2_97)))) ∧ (¬ 5 ≤ x4_59 → (vp_in ((5 + (5 * x3_35)) + x4_59) 206 ∧ (vp_in ((5 + (5 * x2_35)) + x4_59) 206 ∧ (∀ x4_91 : Int32, x4_91 = x4_59 + 1 → (wX9_tidy_59 x2_35 x3_35 f_t_into_35 K35 n9) x4_91 (upd f_t_v_59 ((5 + (5 * x2_35)) + x4_59).toNatClampNeg (f_t_v_59 ((5 + (5 * x3_35)) + x4_59).toNatClampNeg)))))))
def wX9_tidy_35 (Q : Int32 → Int32 → Int32 → (Nat → Int32) → (Nat → Int32) → (Nat → Int32) → (Nat → Int32) → Prop) (t_edits_6 : Int32) (f_t_past_6 : Nat → Int32) (f_t_isNeeded_14 : Nat → Int32) (x1_23 : Int32) : Nat → Int32 → Int32 → (Nat → Int32) → (Nat → Int32) → Prop
  | 0, _, _, _, _ => False
  | n9 + 1, x2_35, x3_35, f_t_v_35, f_t_into_35 =>
  ((x1_23 ≤ x3_35 → (vp_in 3 206 ∧ (vp_in 4 206 ∧ (vp_in ((upd f_t_v_35 (3 : Int32).toNatClampNeg x2_35) (4 : Int32).toNatClampNeg) 41 ∧ (vp_in 4 206 ∧ Q (x1_23 - x2_35) t_edits_6 0 (upd (upd f_t_v_35 (3 : Int32).toNatClampNeg x2_35) (4 : Int32).toNatClampNeg (f_t_into_35 ((upd f_t_v_35 (3 : Int32).toNatClampNeg x2_35) (4 : Int32).toNatClampNeg).toNatClampNeg)) f_t_past_6 f_t_into_35 f_t_isNeeded_14))))) ∧ (¬ x1_23 ≤ x3_35 → (vp_in (x3_35 + 1) 41 ∧ (((f_t_isNeeded_14 (x3_35 + 1).toNatClampNeg) = 0 → wX9_tidy_109 x3_35 (wX9_tidy_35 Q t_edits_6 f_t_past_6 f_t_isNeeded_14 x1_23 n9) x2_35 f_t_v_35 f_t_into_35) ∧ (¬ (f_t_isNeeded_14 (x3_35 + 1).toNatClampNeg) = 0 → wX9_replaces f_t_v_35 f_t_into_35 x3_35 (fun f_t_v_53 => (∃ k9, wX9_tidy_59 x2_35 x3_35 f_t_into_35 (wX9_tidy_35 Q t_edits_6 f_t_past_6 f_t_isNeeded_14 x1_23 n9) k9 0 f_t_v_53)))))))
def wX9_tidy (t_edits : Int32) (t_thrown : Int32) (f_t_v : Nat → Int32) (f_t_past : Nat → Int32) (f_t_into : Nat → Int32) (f_t_isNeeded : Nat → Int32) (Q : Int32 → Int32 → Int32 → (Nat → Int32) → (Nat → Int32) → (Nat → Int32) → (Nat → Int32) → Prop) : Prop :=
  wX9_edits t_edits f_t_v f_t_past (fun t_edits_6 f_t_past_6 => wX9_joins f_t_v f_t_into (fun f_t_v_10 f_t_into_10 => wX9_needs f_t_v_10 f_t_isNeeded (fun f_t_isNeeded_14 => (vp_in 3 206 ∧ (∀ x1_23 : Int32, x1_23 = f_t_v_10 (3 : Int32).toNatClampNeg → (vp_in 0 41 ∧ (∃ k9, wX9_tidy_35 Q t_edits_6 f_t_past_6 f_t_isNeeded_14 x1_23 k9 0 0 f_t_v_10 (upd f_t_into_10 (0 : Int32).toNatClampNeg 0))))))))
set_option maxHeartbeats 4000000 in
set_option maxRecDepth 100000 in
theorem mX9_tidy (l : Launch) (D : va_G) (ca : Nat → ClassId) (a_t a_t_v a_t_past a_t_costs a_t_into a_t_isNeeded a_t_depths a_t_names a_t_out a_t_has : Nat) (sz : Nat) (t_edits : Int32) (t_thrown : Int32) (t_outs : Int32) (f_t_v : Nat → Int32) (f_t_past : Nat → Int32) (f_t_into : Nat → Int32) (f_t_isNeeded : Nat → Int32) (Q : Int32 → Int32 → Int32 → (Nat → Int32) → (Nat → Int32) → (Nat → Int32) → (Nat → Int32) → Prop) (h : wX9_tidy t_edits t_thrown f_t_v f_t_past f_t_into f_t_isNeeded Q) : Met l yX9_tidy (Cond.code yX9_tidy cX9_tidy 5 (some .int) :: wsG) ({ frames := 2, cells := 0, slots := 0, locals := 46 } : Room) (va_Pc [.ref a_t] (wPre D ca [(a_t, .inr (7, [.ref a_t_v, .ref a_t_past, .ref a_t_costs, .int t_edits, .int t_thrown, .ref a_t_into, .ref a_t_isNeeded, .ref a_t_depths, .ref a_t_names, .ref a_t_out, .int t_outs, .ref a_t_has])), (a_t_v, .inl (ca 0, 206, .inl f_t_v)), (a_t_past, .inl (ca 0, 1648, .inl f_t_past)), (a_t_into, .inl (ca 0, 41, .inl f_t_into)), (a_t_isNeeded, .inl (ca 3, 41, .inl f_t_isNeeded))] sz)) (qX9_tidy D ca a_t a_t_v a_t_past a_t_costs a_t_into a_t_isNeeded a_t_depths a_t_names a_t_out a_t_has t_outs Q (va_A [(a_t, .inr (7, [.ref a_t_v, .ref a_t_past, .ref a_t_costs, .int t_edits, .int t_thrown, .ref a_t_into, .ref a_t_isNeeded, .ref a_t_depths, .ref a_t_names, .ref a_t_out, .int t_outs, .ref a_t_has])), (a_t_v, .inl (ca 0, 206, .inl f_t_v)), (a_t_past, .inl (ca 0, 1648, .inl f_t_past)), (a_t_into, .inl (ca 0, 41, .inl f_t_into)), (a_t_isNeeded, .inl (ca 3, 41, .inl f_t_isNeeded))] sz)) 0 0 (va_A [(a_t, .inr (7, [.ref a_t_v, .ref a_t_past, .ref a_t_costs, .int t_edits, .int t_thrown, .ref a_t_into, .ref a_t_isNeeded, .ref a_t_depths, .ref a_t_names, .ref a_t_out, .int t_outs, .ref a_t_has])), (a_t_v, .inl (ca 0, 206, .inl f_t_v)), (a_t_past, .inl (ca 0, 1648, .inl f_t_past)), (a_t_into, .inl (ca 0, 41, .inl f_t_into)), (a_t_isNeeded, .inl (ca 3, 41, .inl f_t_isNeeded))] sz) := by
  refine Met.ofW (cc := cX9_tidy) (maxL := 5) (ret := (some .int)) (by decide) rfl ?_
  intro p e s m args below meth c s₁ B hml hv
  obtain ⟨rfl, hsz, hP, hK, hD0⟩ := hv
  have hx := B.exec
  have hb := B.bytes
  have hr := B.returns
  have hts := atoms_spec (ws := (Cond.code yX9_tidy cX9_tidy 5 (some .int) :: wsG)) B.pre
  have hq : ∀ w ∈ wsG, w.before _ s = true := fun w hw => hts w (List.mem_cons_of_mem _ hw)
  have hown : s.vm.findClass RX9 = some m.cls := findClass_of_methodNamed B.named
  have hlocks := B.notSynchronized
  subst hsz
  have hD := hD0.self (sz := s.heap.size)
  generalize hAe : va_A [(a_t, .inr (7, [.ref a_t_v, .ref a_t_past, .ref a_t_costs, .int t_edits, .int t_thrown, .ref a_t_into, .ref a_t_isNeeded, .ref a_t_depths, .ref a_t_names, .ref a_t_out, .int t_outs, .ref a_t_has])), (a_t_v, .inl (ca 0, 206, .inl f_t_v)), (a_t_past, .inl (ca 0, 1648, .inl f_t_past)), (a_t_into, .inl (ca 0, 41, .inl f_t_into)), (a_t_isNeeded, .inl (ca 3, 41, .inl f_t_isNeeded))] s.heap.size = A at hD ⊢
  have hA : ∀ q : Nat, s.heap.size ≤ q → A q := fun q h => by rw [← hAe]; exact Or.inr h
  have hS : va_S A s.heap s.heap [] := va_S.rf
  have hP : va_P D vwCl [(a_t, .inr (7, [.ref a_t_v, .ref a_t_past, .ref a_t_costs, .int t_edits, .int t_thrown, .ref a_t_into, .ref a_t_isNeeded, .ref a_t_depths, .ref a_t_names, .ref a_t_out, .int t_outs, .ref a_t_has])), (a_t_v, .inl (ca 0, 206, .inl f_t_v)), (a_t_past, .inl (ca 0, 1648, .inl f_t_past)), (a_t_into, .inl (ca 0, 41, .inl f_t_into)), (a_t_isNeeded, .inl (ca 3, 41, .inl f_t_isNeeded))] s.heap := hP
  have hl := lv_entry ([.ref a_t]) (n := 5) (Nat.le_of_ble_eq_true rfl)
  rw [lg_entry_eq]
  generalize (lg_sl ([.ref a_t]) ++ List.replicate (5 - (lg_sl ([.ref a_t])).length) Slot.unset).toArray = ls at hl ⊢
  have hl : lv_has ls 5 [(0, .ref a_t)] := hl
  unfold wX9_tidy at h
  refine lv_aload_n hx hb dX9_tidy_0 rfl (lv_at hl 0 rfl) ?_
  refine lv_iconst (v := 0) hx hb dX9_tidy_1 (by decide) ?_
  refine va_put (D := D) (ci := 7) (v := .int 0) (ty := .int) (C := RX9) (T := TX9) (N := 12) hx hb hq inX9g tyX9 tyX9_ok nmX9 hown hK hP hD hS 0 rfl rfl 4 (by decide) (hq _ q_885) (fun _ h9 => h9) rfl (by decide +kernel) rfl rfl (Nat.le_of_ble_eq_true rfl) dX9_tidy_2 (fun H locs hP hD hS => ?_)
  have hP : va_P D vwCl [(a_t, .inr (7, [.ref a_t_v, .ref a_t_past, .ref a_t_costs, .int t_edits, .int 0, .ref a_t_into, .ref a_t_isNeeded, .ref a_t_depths, .ref a_t_names, .ref a_t_out, .int t_outs, .ref a_t_has])), (a_t_v, .inl (ca 0, 206, .inl f_t_v)), (a_t_past, .inl (ca 0, 1648, .inl f_t_past)), (a_t_into, .inl (ca 0, 41, .inl f_t_into)), (a_t_isNeeded, .inl (ca 3, 41, .inl f_t_isNeeded))] H := hP
  have hD : va_D A [(a_t, .inr (7, [.ref a_t_v, .ref a_t_past, .ref a_t_costs, .int t_edits, .int 0, .ref a_t_into, .ref a_t_isNeeded, .ref a_t_depths, .ref a_t_names, .ref a_t_out, .int t_outs, .ref a_t_has])), (a_t_v, .inl (ca 0, 206, .inl f_t_v)), (a_t_past, .inl (ca 0, 1648, .inl f_t_past)), (a_t_into, .inl (ca 0, 41, .inl f_t_into)), (a_t_isNeeded, .inl (ca 3, 41, .inl f_t_isNeeded))] := hD
  refine lv_aload_n hx hb dX9_tidy_5 rfl (lv_at hl 0 rfl) ?_
  refine cVv (As := []) (rest := []) (wc := [(a_t, .inr (7, [.ref a_t_v, .ref a_t_past, .ref a_t_costs, .int t_edits, .int 0, .ref a_t_into, .ref a_t_isNeeded, .ref a_t_depths, .ref a_t_names, .ref a_t_out, .int t_outs, .ref a_t_has])), (a_t_v, .inl (ca 0, 206, .inl f_t_v)), (a_t_past, .inl (ca 0, 1648, .inl f_t_past))]) (wr := [(a_t_into, .inl (ca 0, 41, .inl f_t_into)), (a_t_isNeeded, .inl (ca 3, 41, .inl f_t_isNeeded))]) (w1 := fun u : Int32 × (Nat → Int32) => [(a_t, .inr (7, [.ref a_t_v, .ref a_t_past, .ref a_t_costs, .int u.1, .int 0, .ref a_t_into, .ref a_t_isNeeded, .ref a_t_depths, .ref a_t_names, .ref a_t_out, .int t_outs, .ref a_t_has])), (a_t_v, .inl (ca 0, 206, .inl f_t_v)), (a_t_past, .inl (ca 0, 1648, .inl u.2))]) (ws2 := fun u : Int32 × (Nat → Int32) => [(a_t, .inr (7, [.ref a_t_v, .ref a_t_past, .ref a_t_costs, .int u.1, .int 0, .ref a_t_into, .ref a_t_isNeeded, .ref a_t_depths, .ref a_t_names, .ref a_t_out, .int t_outs, .ref a_t_has])), (a_t_v, .inl (ca 0, 206, .inl f_t_v)), (a_t_past, .inl (ca 0, 1648, .inl u.2)), (a_t_into, .inl (ca 0, 41, .inl f_t_into)), (a_t_isNeeded, .inl (ca 3, 41, .inl f_t_isNeeded))]) ⟨hx, hb, hml, hown, hts⟩ (mX9_edits l D ca a_t a_t_v a_t_past a_t_costs a_t_into a_t_isNeeded a_t_depths a_t_names a_t_out a_t_has _ t_edits 0 t_outs f_t_v f_t_past _ h) (cwV 0 hts (gV q_937 q_939 qs_34 q_8 q_940) rfl rfl rfl (by decide +kernel) ⟨Nat.le_of_ble_eq_true rfl, Nat.le_of_ble_eq_true rfl⟩) hK hP hD hS hA [0, 1, 2] [3, 4] [2, 3, 4, 0, 1] rfl rfl rfl (by decide) (fun _ => rfl) (ci := 7) (q0 := 0) rfl rfl rfl hl.1 rfl (Nat.le_of_ble_eq_true rfl) dX9_tidy_6 ⟨Nat.le_of_ble_eq_true rfl, Nat.le_of_ble_eq_true rfl⟩ (fun u9 H locs h hP hD hS => ?_)
  obtain ⟨t_edits_6, f_t_past_6⟩ := u9
  have hP : va_P D vwCl [(a_t, .inr (7, [.ref a_t_v, .ref a_t_past, .ref a_t_costs, .int t_edits_6, .int 0, .ref a_t_into, .ref a_t_isNeeded, .ref a_t_depths, .ref a_t_names, .ref a_t_out, .int t_outs, .ref a_t_has])), (a_t_v, .inl (ca 0, 206, .inl f_t_v)), (a_t_past, .inl (ca 0, 1648, .inl f_t_past_6)), (a_t_into, .inl (ca 0, 41, .inl f_t_into)), (a_t_isNeeded, .inl (ca 3, 41, .inl f_t_isNeeded))] H := hP
  have hD : va_D A [(a_t, .inr (7, [.ref a_t_v, .ref a_t_past, .ref a_t_costs, .int t_edits_6, .int 0, .ref a_t_into, .ref a_t_isNeeded, .ref a_t_depths, .ref a_t_names, .ref a_t_out, .int t_outs, .ref a_t_has])), (a_t_v, .inl (ca 0, 206, .inl f_t_v)), (a_t_past, .inl (ca 0, 1648, .inl f_t_past_6)), (a_t_into, .inl (ca 0, 41, .inl f_t_into)), (a_t_isNeeded, .inl (ca 3, 41, .inl f_t_isNeeded))] := hD
  try dsimp only at h
  refine lv_aload_n hx hb dX9_tidy_9 rfl (lv_at hl 0 rfl) ?_
  refine cVv (As := []) (rest := []) (wc := [(a_t, .inr (7, [.ref a_t_v, .ref a_t_past, .ref a_t_costs, .int t_edits_6, .int 0, .ref a_t_into, .ref a_t_isNeeded, .ref a_t_depths, .ref a_t_names, .ref a_t_out, .int t_outs, .ref a_t_has])), (a_t_v, .inl (ca 0, 206, .inl f_t_v)), (a_t_into, .inl (ca 0, 41, .inl f_t_into))]) (wr := [(a_t_past, .inl (ca 0, 1648, .inl f_t_past_6)), (a_t_isNeeded, .inl (ca 3, 41, .inl f_t_isNeeded))]) (w1 := fun u : (Nat → Int32) × (Nat → Int32) => [(a_t, .inr (7, [.ref a_t_v, .ref a_t_past, .ref a_t_costs, .int t_edits_6, .int 0, .ref a_t_into, .ref a_t_isNeeded, .ref a_t_depths, .ref a_t_names, .ref a_t_out, .int t_outs, .ref a_t_has])), (a_t_v, .inl (ca 0, 206, .inl u.1)), (a_t_into, .inl (ca 0, 41, .inl u.2))]) (ws2 := fun u : (Nat → Int32) × (Nat → Int32) => [(a_t, .inr (7, [.ref a_t_v, .ref a_t_past, .ref a_t_costs, .int t_edits_6, .int 0, .ref a_t_into, .ref a_t_isNeeded, .ref a_t_depths, .ref a_t_names, .ref a_t_out, .int t_outs, .ref a_t_has])), (a_t_v, .inl (ca 0, 206, .inl u.1)), (a_t_past, .inl (ca 0, 1648, .inl f_t_past_6)), (a_t_into, .inl (ca 0, 41, .inl u.2)), (a_t_isNeeded, .inl (ca 3, 41, .inl f_t_isNeeded))]) ⟨hx, hb, hml, hown, hts⟩ (mX9_joins l D ca a_t a_t_v a_t_past a_t_costs a_t_into a_t_isNeeded a_t_depths a_t_names a_t_out a_t_has _ t_edits_6 0 t_outs f_t_v f_t_into _ h) (cwV 0 hts (gV q_1098 q_1100 qs_55 q_8 q_1101) rfl rfl rfl (by decide +kernel) ⟨Nat.le_of_ble_eq_true rfl, Nat.le_of_ble_eq_true rfl⟩) hK hP hD hS hA [0, 1, 3] [2, 4] [2, 3, 0, 4, 1] rfl rfl rfl (by decide) (fun _ => rfl) (ci := 7) (q0 := 0) rfl rfl rfl hl.1 rfl (Nat.le_of_ble_eq_true rfl) dX9_tidy_10 ⟨Nat.le_of_ble_eq_true rfl, Nat.le_of_ble_eq_true rfl⟩ (fun u9 H locs h hP hD hS => ?_)
  obtain ⟨f_t_v_10, f_t_into_10⟩ := u9
  have hP : va_P D vwCl [(a_t, .inr (7, [.ref a_t_v, .ref a_t_past, .ref a_t_costs, .int t_edits_6, .int 0, .ref a_t_into, .ref a_t_isNeeded, .ref a_t_depths, .ref a_t_names, .ref a_t_out, .int t_outs, .ref a_t_has])), (a_t_v, .inl (ca 0, 206, .inl f_t_v_10)), (a_t_past, .inl (ca 0, 1648, .inl f_t_past_6)), (a_t_into, .inl (ca 0, 41, .inl f_t_into_10)), (a_t_isNeeded, .inl (ca 3, 41, .inl f_t_isNeeded))] H := hP
  have hD : va_D A [(a_t, .inr (7, [.ref a_t_v, .ref a_t_past, .ref a_t_costs, .int t_edits_6, .int 0, .ref a_t_into, .ref a_t_isNeeded, .ref a_t_depths, .ref a_t_names, .ref a_t_out, .int t_outs, .ref a_t_has])), (a_t_v, .inl (ca 0, 206, .inl f_t_v_10)), (a_t_past, .inl (ca 0, 1648, .inl f_t_past_6)), (a_t_into, .inl (ca 0, 41, .inl f_t_into_10)), (a_t_isNeeded, .inl (ca 3, 41, .inl f_t_isNeeded))] := hD
  try dsimp only at h
  refine lv_aload_n hx hb dX9_tidy_13 rfl (lv_at hl 0 rfl) ?_
  refine cVv (As := []) (rest := []) (wc := [(a_t, .inr (7, [.ref a_t_v, .ref a_t_past, .ref a_t_costs, .int t_edits_6, .int 0, .ref a_t_into, .ref a_t_isNeeded, .ref a_t_depths, .ref a_t_names, .ref a_t_out, .int t_outs, .ref a_t_has])), (a_t_v, .inl (ca 0, 206, .inl f_t_v_10)), (a_t_isNeeded, .inl (ca 3, 41, .inl f_t_isNeeded))]) (wr := [(a_t_past, .inl (ca 0, 1648, .inl f_t_past_6)), (a_t_into, .inl (ca 0, 41, .inl f_t_into_10))]) (w1 := fun u : (Nat → Int32) => [(a_t, .inr (7, [.ref a_t_v, .ref a_t_past, .ref a_t_costs, .int t_edits_6, .int 0, .ref a_t_into, .ref a_t_isNeeded, .ref a_t_depths, .ref a_t_names, .ref a_t_out, .int t_outs, .ref a_t_has])), (a_t_v, .inl (ca 0, 206, .inl f_t_v_10)), (a_t_isNeeded, .inl (ca 3, 41, .inl u))]) (ws2 := fun u : (Nat → Int32) => [(a_t, .inr (7, [.ref a_t_v, .ref a_t_past, .ref a_t_costs, .int t_edits_6, .int 0, .ref a_t_into, .ref a_t_isNeeded, .ref a_t_depths, .ref a_t_names, .ref a_t_out, .int t_outs, .ref a_t_has])), (a_t_v, .inl (ca 0, 206, .inl f_t_v_10)), (a_t_past, .inl (ca 0, 1648, .inl f_t_past_6)), (a_t_into, .inl (ca 0, 41, .inl f_t_into_10)), (a_t_isNeeded, .inl (ca 3, 41, .inl u))]) ⟨hx, hb, hml, hown, hts⟩ (mX9_needs l D ca a_t a_t_v a_t_past a_t_costs a_t_into a_t_isNeeded a_t_depths a_t_names a_t_out a_t_has _ t_edits_6 0 t_outs f_t_v_10 f_t_isNeeded _ h) (cwV 0 hts (gV q_1110 q_1112 qs_58 q_8 q_1113) rfl rfl rfl (by decide +kernel) ⟨Nat.le_of_ble_eq_true rfl, Nat.le_of_ble_eq_true rfl⟩) hK hP hD hS hA [0, 1, 4] [2, 3] [2, 3, 0, 1, 4] rfl rfl rfl (by decide) (fun _ => rfl) (ci := 7) (q0 := 0) rfl rfl rfl hl.1 rfl (Nat.le_of_ble_eq_true rfl) dX9_tidy_14 ⟨Nat.le_of_ble_eq_true rfl, Nat.le_of_ble_eq_true rfl⟩ (fun u9 H locs h hP hD hS => ?_)
  obtain ⟨f_t_isNeeded_14, rfl⟩ : ∃ z, z = u9 := ⟨_, rfl⟩
  have hP : va_P D vwCl [(a_t, .inr (7, [.ref a_t_v, .ref a_t_past, .ref a_t_costs, .int t_edits_6, .int 0, .ref a_t_into, .ref a_t_isNeeded, .ref a_t_depths, .ref a_t_names, .ref a_t_out, .int t_outs, .ref a_t_has])), (a_t_v, .inl (ca 0, 206, .inl f_t_v_10)), (a_t_past, .inl (ca 0, 1648, .inl f_t_past_6)), (a_t_into, .inl (ca 0, 41, .inl f_t_into_10)), (a_t_isNeeded, .inl (ca 3, 41, .inl f_t_isNeeded_14))] H := hP
  have hD : va_D A [(a_t, .inr (7, [.ref a_t_v, .ref a_t_past, .ref a_t_costs, .int t_edits_6, .int 0, .ref a_t_into, .ref a_t_isNeeded, .ref a_t_depths, .ref a_t_names, .ref a_t_out, .int t_outs, .ref a_t_has])), (a_t_v, .inl (ca 0, 206, .inl f_t_v_10)), (a_t_past, .inl (ca 0, 1648, .inl f_t_past_6)), (a_t_into, .inl (ca 0, 41, .inl f_t_into_10)), (a_t_isNeeded, .inl (ca 3, 41, .inl f_t_isNeeded_14))] := hD
  try dsimp only at h
  refine lv_aload_n hx hb dX9_tidy_17 rfl (lv_at hl 0 rfl) ?_
  refine va_get (D := D) (ci := 7) (v := .ref a_t_v) (C := RX9) (T := TX9) (N := 12) hx hb hq inX9g hown hK hP 0 rfl rfl 0 (by decide) (hq _ q_881) (fun _ h9 => h9) rfl dX9_tidy_18 ?_
  refine lv_iconst (v := 3) hx hb dX9_tidy_21 (by decide) ?_
  obtain ⟨hi9, h⟩ := h
  refine va_iald hx hb hK hP 1 0 rfl rfl hi9 dX9_tidy_22 ?_
  refine lv_topi (fun x1_23 ex1_23 => ?_)
  have h := h x1_23 ex1_23
  refine lv_istore_n (lv' := [(1, .int x1_23), (0, .ref a_t)]) hx hb dX9_tidy_23 rfl hl (by decide) rfl (fun ls hl => ?_)
  refine lv_iconst (v := 0) hx hb dX9_tidy_24 (by decide) ?_
  refine lv_istore_n (lv' := [(2, .int 0), (1, .int x1_23), (0, .ref a_t)]) hx hb dX9_tidy_25 rfl hl (by decide) rfl (fun ls hl => ?_)
  refine lv_aload_n hx hb dX9_tidy_26 rfl (lv_at hl 2 rfl) ?_
  refine va_get (D := D) (ci := 7) (v := .ref a_t_into) (C := RX9) (T := TX9) (N := 12) hx hb hq inX9g hown hK hP 0 rfl rfl 5 (by decide) (hq _ q_886) (fun _ h9 => h9) rfl dX9_tidy_27 ?_
  refine lv_iconst (v := 0) hx hb dX9_tidy_30 (by decide) ?_
  refine lv_iconst (v := 0) hx hb dX9_tidy_31 (by decide) ?_
  obtain ⟨hi9, h⟩ := h
  refine va_iast hx hb hK hP hD hS 3 0 rfl rfl hi9 dX9_tidy_32 (fun H locs hP hD hS => ?_)
  have hP : va_P D vwCl [(a_t, .inr (7, [.ref a_t_v, .ref a_t_past, .ref a_t_costs, .int t_edits_6, .int 0, .ref a_t_into, .ref a_t_isNeeded, .ref a_t_depths, .ref a_t_names, .ref a_t_out, .int t_outs, .ref a_t_has])), (a_t_v, .inl (ca 0, 206, .inl f_t_v_10)), (a_t_past, .inl (ca 0, 1648, .inl f_t_past_6)), (a_t_into, .inl (ca 0, 41, .inl (upd f_t_into_10 (0 : Int32).toNatClampNeg 0))), (a_t_isNeeded, .inl (ca 3, 41, .inl f_t_isNeeded_14))] H := hP
  have hD : va_D A [(a_t, .inr (7, [.ref a_t_v, .ref a_t_past, .ref a_t_costs, .int t_edits_6, .int 0, .ref a_t_into, .ref a_t_isNeeded, .ref a_t_depths, .ref a_t_names, .ref a_t_out, .int t_outs, .ref a_t_has])), (a_t_v, .inl (ca 0, 206, .inl f_t_v_10)), (a_t_past, .inl (ca 0, 1648, .inl f_t_past_6)), (a_t_into, .inl (ca 0, 41, .inl (upd f_t_into_10 (0 : Int32).toNatClampNeg 0))), (a_t_isNeeded, .inl (ca 3, 41, .inl f_t_isNeeded_14))] := hD
  refine lv_iconst (v := 0) hx hb dX9_tidy_33 (by decide) ?_
  refine lv_istore_n (lv' := [(3, .int 0), (2, .int 0), (1, .int x1_23), (0, .ref a_t)]) hx hb dX9_tidy_34 rfl hl (by decide) rfl (fun ls hl => ?_)
  have hL35 : ∀ (n9_35 : Nat) (x2_35 : Int32) (x3_35 : Int32) (f_t_v_35 : Nat → Int32) (f_t_into_35 : Nat → Int32) (H : Heap) (locs : List Loc) (ls : Array Slot), va_P D vwCl [(a_t, .inr (7, [.ref a_t_v, .ref a_t_past, .ref a_t_costs, .int t_edits_6, .int 0, .ref a_t_into, .ref a_t_isNeeded, .ref a_t_depths, .ref a_t_names, .ref a_t_out, .int t_outs, .ref a_t_has])), (a_t_v, .inl (ca 0, 206, .inl f_t_v_35)), (a_t_past, .inl (ca 0, 1648, .inl f_t_past_6)), (a_t_into, .inl (ca 0, 41, .inl f_t_into_35)), (a_t_isNeeded, .inl (ca 3, 41, .inl f_t_isNeeded_14))] H → va_D A [(a_t, .inr (7, [.ref a_t_v, .ref a_t_past, .ref a_t_costs, .int t_edits_6, .int 0, .ref a_t_into, .ref a_t_isNeeded, .ref a_t_depths, .ref a_t_names, .ref a_t_out, .int t_outs, .ref a_t_has])), (a_t_v, .inl (ca 0, 206, .inl f_t_v_35)), (a_t_past, .inl (ca 0, 1648, .inl f_t_past_6)), (a_t_into, .inl (ca 0, 41, .inl f_t_into_35)), (a_t_isNeeded, .inl (ca 3, 41, .inl f_t_isNeeded_14))] → va_S A s.heap H locs → lv_has ls 5 [(0, .ref a_t), (1, .int x1_23), (2, .int x2_35), (3, .int x3_35)] → wX9_tidy_35 Q t_edits_6 f_t_past_6 f_t_isNeeded_14 x1_23 n9_35 x2_35 x3_35 f_t_v_35 f_t_into_35 → W p l e (headSpec (Cond.code yX9_tidy cX9_tidy 5 (some .int) :: wsG) ({ frames := 2, cells := 0, slots := 0, locals := 46 } : Room)).room s m ([.ref a_t] : List Value).toArray below meth c H locs 0 0 (MQ below (qX9_tidy D ca a_t a_t_v a_t_past a_t_costs a_t_into a_t_isNeeded a_t_depths a_t_names a_t_out a_t_has t_outs Q A) ([.ref a_t] : List Value).toArray s 0 0 A) (F0 m 35 ls []) := by
    intro n9_35
    induction n9_35 with
    | zero =>
      intro x2_35 x3_35 f_t_v_35 f_t_into_35 H locs ls hP hD hS hl h
      exact False.elim h
    | succ n9_35 ih35 =>
      intro x2_35 x3_35 f_t_v_35 f_t_into_35 H locs ls hP hD hS hl h
      unfold wX9_tidy_35 at h
      refine lv_iload_n hx hb dX9_tidy_35 rfl (lv_at hl 3 rfl) ?_
      refine lv_iload_n hx hb dX9_tidy_36 rfl (lv_at hl 1 rfl) ?_
      refine lv_icmp_ge (tgt := 115) hx hb dX9_tidy_37 (by decide) (fun c9 => ?_) (fun c9 => ?_)
      · have h := h.1 c9
        refine lv_aload_n hx hb dX9_tidy_115 rfl (lv_at hl 0 rfl) ?_
        refine va_get (D := D) (ci := 7) (v := .ref a_t_v) (C := RX9) (T := TX9) (N := 12) hx hb hq inX9g hown hK hP 0 rfl rfl 0 (by decide) (hq _ q_881) (fun _ h9 => h9) rfl dX9_tidy_116 ?_
        refine lv_iconst (v := 3) hx hb dX9_tidy_119 (by decide) ?_
        refine lv_iload_n hx hb dX9_tidy_120 rfl (lv_at hl 2 rfl) ?_
        obtain ⟨hi9, h⟩ := h
        refine va_iast hx hb hK hP hD hS 1 0 rfl rfl hi9 dX9_tidy_121 (fun H locs hP hD hS => ?_)
        have hP : va_P D vwCl [(a_t, .inr (7, [.ref a_t_v, .ref a_t_past, .ref a_t_costs, .int t_edits_6, .int 0, .ref a_t_into, .ref a_t_isNeeded, .ref a_t_depths, .ref a_t_names, .ref a_t_out, .int t_outs, .ref a_t_has])), (a_t_v, .inl (ca 0, 206, .inl (upd f_t_v_35 (3 : Int32).toNatClampNeg x2_35))), (a_t_past, .inl (ca 0, 1648, .inl f_t_past_6)), (a_t_into, .inl (ca 0, 41, .inl f_t_into_35)), (a_t_isNeeded, .inl (ca 3, 41, .inl f_t_isNeeded_14))] H := hP
        have hD : va_D A [(a_t, .inr (7, [.ref a_t_v, .ref a_t_past, .ref a_t_costs, .int t_edits_6, .int 0, .ref a_t_into, .ref a_t_isNeeded, .ref a_t_depths, .ref a_t_names, .ref a_t_out, .int t_outs, .ref a_t_has])), (a_t_v, .inl (ca 0, 206, .inl (upd f_t_v_35 (3 : Int32).toNatClampNeg x2_35))), (a_t_past, .inl (ca 0, 1648, .inl f_t_past_6)), (a_t_into, .inl (ca 0, 41, .inl f_t_into_35)), (a_t_isNeeded, .inl (ca 3, 41, .inl f_t_isNeeded_14))] := hD
        refine lv_aload_n hx hb dX9_tidy_122 rfl (lv_at hl 0 rfl) ?_
        refine va_get (D := D) (ci := 7) (v := .ref a_t_v) (C := RX9) (T := TX9) (N := 12) hx hb hq inX9g hown hK hP 0 rfl rfl 0 (by decide) (hq _ q_881) (fun _ h9 => h9) rfl dX9_tidy_123 ?_
        refine lv_iconst (v := 4) hx hb dX9_tidy_126 (by decide) ?_
        refine lv_aload_n hx hb dX9_tidy_127 rfl (lv_at hl 0 rfl) ?_
        refine va_get (D := D) (ci := 7) (v := .ref a_t_into) (C := RX9) (T := TX9) (N := 12) hx hb hq inX9g hown hK hP 0 rfl rfl 5 (by decide) (hq _ q_886) (fun _ h9 => h9) rfl dX9_tidy_128 ?_
        refine lv_aload_n hx hb dX9_tidy_131 rfl (lv_at hl 0 rfl) ?_
        refine va_get (D := D) (ci := 7) (v := .ref a_t_v) (C := RX9) (T := TX9) (N := 12) hx hb hq inX9g hown hK hP 0 rfl rfl 0 (by decide) (hq _ q_881) (fun _ h9 => h9) rfl dX9_tidy_132 ?_
        refine lv_iconst (v := 4) hx hb dX9_tidy_135 (by decide) ?_
        obtain ⟨hi9, h⟩ := h
        refine va_iald hx hb hK hP 1 0 rfl rfl hi9 dX9_tidy_136 ?_
        obtain ⟨hi9, h⟩ := h
        refine va_iald hx hb hK hP 3 0 rfl rfl hi9 dX9_tidy_137 ?_
        obtain ⟨hi9, h⟩ := h
        refine va_iast hx hb hK hP hD hS 1 0 rfl rfl hi9 dX9_tidy_138 (fun H locs hP hD hS => ?_)
        have hP : va_P D vwCl [(a_t, .inr (7, [.ref a_t_v, .ref a_t_past, .ref a_t_costs, .int t_edits_6, .int 0, .ref a_t_into, .ref a_t_isNeeded, .ref a_t_depths, .ref a_t_names, .ref a_t_out, .int t_outs, .ref a_t_has])), (a_t_v, .inl (ca 0, 206, .inl (upd (upd f_t_v_35 (3 : Int32).toNatClampNeg x2_35) (4 : Int32).toNatClampNeg (f_t_into_35 ((upd f_t_v_35 (3 : Int32).toNatClampNeg x2_35) (4 : Int32).toNatClampNeg).toNatClampNeg)))), (a_t_past, .inl (ca 0, 1648, .inl f_t_past_6)), (a_t_into, .inl (ca 0, 41, .inl f_t_into_35)), (a_t_isNeeded, .inl (ca 3, 41, .inl f_t_isNeeded_14))] H := hP
        have hD : va_D A [(a_t, .inr (7, [.ref a_t_v, .ref a_t_past, .ref a_t_costs, .int t_edits_6, .int 0, .ref a_t_into, .ref a_t_isNeeded, .ref a_t_depths, .ref a_t_names, .ref a_t_out, .int t_outs, .ref a_t_has])), (a_t_v, .inl (ca 0, 206, .inl (upd (upd f_t_v_35 (3 : Int32).toNatClampNeg x2_35) (4 : Int32).toNatClampNeg (f_t_into_35 ((upd f_t_v_35 (3 : Int32).toNatClampNeg x2_35) (4 : Int32).toNatClampNeg).toNatClampNeg)))), (a_t_past, .inl (ca 0, 1648, .inl f_t_past_6)), (a_t_into, .inl (ca 0, 41, .inl f_t_into_35)), (a_t_isNeeded, .inl (ca 3, 41, .inl f_t_isNeeded_14))] := hD
        refine lv_iload_n hx hb dX9_tidy_139 rfl (lv_at hl 1 rfl) ?_
        refine lv_iload_n hx hb dX9_tidy_140 rfl (lv_at hl 2 rfl) ?_
        refine lv_isub hx hb dX9_tidy_141 ?_
        exact W.iret (v := x1_23 - x2_35) hx hb hr (fun t ht hW => ⟨⟨x1_23 - x2_35, (t_edits_6, 0, upd (upd f_t_v_35 (3 : Int32).toNatClampNeg x2_35) (4 : Int32).toNatClampNeg (f_t_into_35 ((upd f_t_v_35 (3 : Int32).toNatClampNeg x2_35) (4 : Int32).toNatClampNeg).toNatClampNeg), f_t_past_6, f_t_into_35, f_t_isNeeded_14), rfl, h, by rw [ht]; exact hP, va_K.moved hW.alike hK, hD⟩, hS.F ht⟩) hS.2.2 dX9_tidy_142
      · have h := h.2 c9
        refine lv_aload_n hx hb dX9_tidy_40 rfl (lv_at hl 0 rfl) ?_
        refine va_get (D := D) (ci := 7) (v := .ref a_t_isNeeded) (C := RX9) (T := TX9) (N := 12) hx hb hq inX9g hown hK hP 0 rfl rfl 6 (by decide) (hq _ q_887) (fun _ h9 => h9) rfl dX9_tidy_41 ?_
        refine lv_iload_n hx hb dX9_tidy_44 rfl (lv_at hl 3 rfl) ?_
        refine lv_iconst (v := 1) hx hb dX9_tidy_45 (by decide) ?_
        refine lv_iadd hx hb dX9_tidy_46 ?_
        obtain ⟨hi9, h⟩ := h
        refine va_zald hx hb hK hP 4 3 rfl rfl hi9 dX9_tidy_47 ?_
        have hJ109 : ∀ (x2_109 : Int32) (f_t_v_109 : Nat → Int32) (f_t_into_109 : Nat → Int32) (H : Heap) (locs : List Loc) (ls : Array Slot), va_P D vwCl [(a_t, .inr (7, [.ref a_t_v, .ref a_t_past, .ref a_t_costs, .int t_edits_6, .int 0, .ref a_t_into, .ref a_t_isNeeded, .ref a_t_depths, .ref a_t_names, .ref a_t_out, .int t_outs, .ref a_t_has])), (a_t_v, .inl (ca 0, 206, .inl f_t_v_109)), (a_t_past, .inl (ca 0, 1648, .inl f_t_past_6)), (a_t_into, .inl (ca 0, 41, .inl f_t_into_109)), (a_t_isNeeded, .inl (ca 3, 41, .inl f_t_isNeeded_14))] H → va_D A [(a_t, .inr (7, [.ref a_t_v, .ref a_t_past, .ref a_t_costs, .int t_edits_6, .int 0, .ref a_t_into, .ref a_t_isNeeded, .ref a_t_depths, .ref a_t_names, .ref a_t_out, .int t_outs, .ref a_t_has])), (a_t_v, .inl (ca 0, 206, .inl f_t_v_109)), (a_t_past, .inl (ca 0, 1648, .inl f_t_past_6)), (a_t_into, .inl (ca 0, 41, .inl f_t_into_109)), (a_t_isNeeded, .inl (ca 3, 41, .inl f_t_isNeeded_14))] → va_S A s.heap H locs → lv_has ls 5 [(0, .ref a_t), (1, .int x1_23), (2, .int x2_109), (3, .int x3_35)] → wX9_tidy_109 x3_35 (wX9_tidy_35 Q t_edits_6 f_t_past_6 f_t_isNeeded_14 x1_23 n9_35) x2_109 f_t_v_109 f_t_into_109 → W p l e (headSpec (Cond.code yX9_tidy cX9_tidy 5 (some .int) :: wsG) ({ frames := 2, cells := 0, slots := 0, locals := 46 } : Room)).room s m ([.ref a_t] : List Value).toArray below meth c H locs 0 0 (MQ below (qX9_tidy D ca a_t a_t_v a_t_past a_t_costs a_t_into a_t_isNeeded a_t_depths a_t_names a_t_out a_t_has t_outs Q A) ([.ref a_t] : List Value).toArray s 0 0 A) (F0 m 109 ls []) := by
          intro x2_109 f_t_v_109 f_t_into_109 H locs ls hP hD hS hl h
          unfold wX9_tidy_109 at h
          obtain ⟨x3_109, ex3_109⟩ : ∃ y : Int32, y = x3_35 + 1 := ⟨_, rfl⟩
          have h := h x3_109 ex3_109
          refine lv_iinc (v := x3_109) (lv' := [(3, .int x3_109), (0, .ref a_t), (1, .int x1_23), (2, .int x2_109)]) hx hb dX9_tidy_109 hl (k := 3) rfl (by rw [ex3_109]; rfl) (by decide) rfl (fun ls hl => ?_)
          refine lv_goto (tgt := 35) hx hb dX9_tidy_112 (by decide) ?_
          exact ih35 x2_109 x3_109 f_t_v_109 f_t_into_109 _ _ _ hP hD hS (lv_sub hl [1, 2, 3, 0] rfl) h
        refine lv_if_eq (tgt := 109) hx hb dX9_tidy_48 (by decide) (fun c9 => ?_) (fun c9 => ?_)
        · have h := h.1 c9
          exact hJ109 x2_35 f_t_v_35 f_t_into_35 _ _ _ hP hD hS (lv_sub hl [0, 1, 2, 3] rfl) h
        · have h := h.2 c9
          refine lv_aload_n hx hb dX9_tidy_51 rfl (lv_at hl 0 rfl) ?_
          refine lv_iload_n hx hb dX9_tidy_52 rfl (lv_at hl 3 rfl) ?_
          refine cVv (As := [.int x3_35]) (rest := []) (wc := [(a_t, .inr (7, [.ref a_t_v, .ref a_t_past, .ref a_t_costs, .int t_edits_6, .int 0, .ref a_t_into, .ref a_t_isNeeded, .ref a_t_depths, .ref a_t_names, .ref a_t_out, .int t_outs, .ref a_t_has])), (a_t_v, .inl (ca 0, 206, .inl f_t_v_35)), (a_t_into, .inl (ca 0, 41, .inl f_t_into_35))]) (wr := [(a_t_past, .inl (ca 0, 1648, .inl f_t_past_6)), (a_t_isNeeded, .inl (ca 3, 41, .inl f_t_isNeeded_14))]) (w1 := fun u : (Nat → Int32) => [(a_t, .inr (7, [.ref a_t_v, .ref a_t_past, .ref a_t_costs, .int t_edits_6, .int 0, .ref a_t_into, .ref a_t_isNeeded, .ref a_t_depths, .ref a_t_names, .ref a_t_out, .int t_outs, .ref a_t_has])), (a_t_v, .inl (ca 0, 206, .inl u)), (a_t_into, .inl (ca 0, 41, .inl f_t_into_35))]) (ws2 := fun u : (Nat → Int32) => [(a_t, .inr (7, [.ref a_t_v, .ref a_t_past, .ref a_t_costs, .int t_edits_6, .int 0, .ref a_t_into, .ref a_t_isNeeded, .ref a_t_depths, .ref a_t_names, .ref a_t_out, .int t_outs, .ref a_t_has])), (a_t_v, .inl (ca 0, 206, .inl u)), (a_t_past, .inl (ca 0, 1648, .inl f_t_past_6)), (a_t_into, .inl (ca 0, 41, .inl f_t_into_35)), (a_t_isNeeded, .inl (ca 3, 41, .inl f_t_isNeeded_14))]) ⟨hx, hb, hml, hown, hts⟩ (mX9_replaces l D ca a_t a_t_v a_t_past a_t_costs a_t_into a_t_isNeeded a_t_depths a_t_names a_t_out a_t_has _ t_edits_6 0 t_outs f_t_v_35 f_t_into_35 x3_35 _ h) (cwV 1 hts (gV q_1102 q_1104 qs_56 q_8 q_1105) rfl rfl rfl (by decide +kernel) ⟨Nat.le_of_ble_eq_true rfl, Nat.le_of_ble_eq_true rfl⟩) hK hP hD hS hA [0, 1, 3] [2, 4] [2, 3, 0, 4, 1] rfl rfl rfl (by decide) (fun _ => rfl) (ci := 7) (q0 := 0) rfl rfl rfl hl.1 rfl (Nat.le_of_ble_eq_true rfl) dX9_tidy_53 ⟨Nat.le_of_ble_eq_true rfl, Nat.le_of_ble_eq_true rfl⟩ (fun u9 H locs h hP hD hS => ?_)
          obtain ⟨f_t_v_53, rfl⟩ : ∃ z, z = u9 := ⟨_, rfl⟩
          have hP : va_P D vwCl [(a_t, .inr (7, [.ref a_t_v, .ref a_t_past, .ref a_t_costs, .int t_edits_6, .int 0, .ref a_t_into, .ref a_t_isNeeded, .ref a_t_depths, .ref a_t_names, .ref a_t_out, .int t_outs, .ref a_t_has])), (a_t_v, .inl (ca 0, 206, .inl f_t_v_53)), (a_t_past, .inl (ca 0, 1648, .inl f_t_past_6)), (a_t_into, .inl (ca 0, 41, .inl f_t_into_35)), (a_t_isNeeded, .inl (ca 3, 41, .inl f_t_isNeeded_14))] H := hP
          have hD : va_D A [(a_t, .inr (7, [.ref a_t_v, .ref a_t_past, .ref a_t_costs, .int t_edits_6, .int 0, .ref a_t_into, .ref a_t_isNeeded, .ref a_t_depths, .ref a_t_names, .ref a_t_out, .int t_outs, .ref a_t_has])), (a_t_v, .inl (ca 0, 206, .inl f_t_v_53)), (a_t_past, .inl (ca 0, 1648, .inl f_t_past_6)), (a_t_into, .inl (ca 0, 41, .inl f_t_into_35)), (a_t_isNeeded, .inl (ca 3, 41, .inl f_t_isNeeded_14))] := hD
          try dsimp only at h
          refine lv_iconst (v := 0) hx hb dX9_tidy_56 (by decide) ?_
          refine lv_istore (lv' := [(4, .int 0), (0, .ref a_t), (1, .int x1_23), (2, .int x2_35), (3, .int x3_35)]) hx hb dX9_tidy_57 hl (by decide) rfl (fun ls hl => ?_)
          have hL59 : ∀ (n9_59 : Nat) (x4_59 : Int32) (f_t_v_59 : Nat → Int32) (H : Heap) (locs : List Loc) (ls : Array Slot), va_P D vwCl [(a_t, .inr (7, [.ref a_t_v, .ref a_t_past, .ref a_t_costs, .int t_edits_6, .int 0, .ref a_t_into, .ref a_t_isNeeded, .ref a_t_depths, .ref a_t_names, .ref a_t_out, .int t_outs, .ref a_t_has])), (a_t_v, .inl (ca 0, 206, .inl f_t_v_59)), (a_t_past, .inl (ca 0, 1648, .inl f_t_past_6)), (a_t_into, .inl (ca 0, 41, .inl f_t_into_35)), (a_t_isNeeded, .inl (ca 3, 41, .inl f_t_isNeeded_14))] H → va_D A [(a_t, .inr (7, [.ref a_t_v, .ref a_t_past, .ref a_t_costs, .int t_edits_6, .int 0, .ref a_t_into, .ref a_t_isNeeded, .ref a_t_depths, .ref a_t_names, .ref a_t_out, .int t_outs, .ref a_t_has])), (a_t_v, .inl (ca 0, 206, .inl f_t_v_59)), (a_t_past, .inl (ca 0, 1648, .inl f_t_past_6)), (a_t_into, .inl (ca 0, 41, .inl f_t_into_35)), (a_t_isNeeded, .inl (ca 3, 41, .inl f_t_isNeeded_14))] → va_S A s.heap H locs → lv_has ls 5 [(0, .ref a_t), (1, .int x1_23), (2, .int x2_35), (3, .int x3_35), (4, .int x4_59)] → wX9_tidy_59 x2_35 x3_35 f_t_into_35 (wX9_tidy_35 Q t_edits_6 f_t_past_6 f_t_isNeeded_14 x1_23 n9_35) n9_59 x4_59 f_t_v_59 → W p l e (headSpec (Cond.code yX9_tidy cX9_tidy 5 (some .int) :: wsG) ({ frames := 2, cells := 0, slots := 0, locals := 46 } : Room)).room s m ([.ref a_t] : List Value).toArray below meth c H locs 0 0 (MQ below (qX9_tidy D ca a_t a_t_v a_t_past a_t_costs a_t_into a_t_isNeeded a_t_depths a_t_names a_t_out a_t_has t_outs Q A) ([.ref a_t] : List Value).toArray s 0 0 A) (F0 m 59 ls []) := by
            intro n9_59
            induction n9_59 with
            | zero =>
              intro x4_59 f_t_v_59 H locs ls hP hD hS hl h
              exact False.elim h
            | succ n9_59 ih59 =>
              intro x4_59 f_t_v_59 H locs ls hP hD hS hl h
              unfold wX9_tidy_59 at h
              refine lv_iload hx hb dX9_tidy_59 (lv_at hl 4 rfl) ?_
              refine lv_iconst (v := 5) hx hb dX9_tidy_61 (by decide) ?_
              refine lv_icmp_ge (tgt := 97) hx hb dX9_tidy_62 (by decide) (fun c9 => ?_) (fun c9 => ?_)
              · have h := h.1 c9
                obtain ⟨x2_97, ex2_97⟩ : ∃ y : Int32, y = x2_35 + 1 := ⟨_, rfl⟩
                have h := h x2_97 ex2_97
                refine lv_iinc (v := x2_97) (lv' := [(2, .int x2_97), (0, .ref a_t), (1, .int x1_23), (3, .int x3_35), (4, .int x4_59)]) hx hb dX9_tidy_97 hl (k := 2) rfl (by rw [ex2_97]; rfl) (by decide) rfl (fun ls hl => ?_)
                refine lv_aload_n hx hb dX9_tidy_100 rfl (lv_at hl 1 rfl) ?_
                refine va_get (D := D) (ci := 7) (v := .ref a_t_into) (C := RX9) (T := TX9) (N := 12) hx hb hq inX9g hown hK hP 0 rfl rfl 5 (by decide) (hq _ q_886) (fun _ h9 => h9) rfl dX9_tidy_101 ?_
                refine lv_iload_n hx hb dX9_tidy_104 rfl (lv_at hl 3 rfl) ?_
                refine lv_iconst (v := 1) hx hb dX9_tidy_105 (by decide) ?_
                refine lv_iadd hx hb dX9_tidy_106 ?_
                refine lv_iload_n hx hb dX9_tidy_107 rfl (lv_at hl 0 rfl) ?_
                obtain ⟨hi9, h⟩ := h
                refine va_iast hx hb hK hP hD hS 3 0 rfl rfl hi9 dX9_tidy_108 (fun H locs hP hD hS => ?_)
                have hP : va_P D vwCl [(a_t, .inr (7, [.ref a_t_v, .ref a_t_past, .ref a_t_costs, .int t_edits_6, .int 0, .ref a_t_into, .ref a_t_isNeeded, .ref a_t_depths, .ref a_t_names, .ref a_t_out, .int t_outs, .ref a_t_has])), (a_t_v, .inl (ca 0, 206, .inl f_t_v_59)), (a_t_past, .inl (ca 0, 1648, .inl f_t_past_6)), (a_t_into, .inl (ca 0, 41, .inl (upd f_t_into_35 (x3_35 + 1).toNatClampNeg x2_97))), (a_t_isNeeded, .inl (ca 3, 41, .inl f_t_isNeeded_14))] H := hP
                have hD : va_D A [(a_t, .inr (7, [.ref a_t_v, .ref a_t_past, .ref a_t_costs, .int t_edits_6, .int 0, .ref a_t_into, .ref a_t_isNeeded, .ref a_t_depths, .ref a_t_names, .ref a_t_out, .int t_outs, .ref a_t_has])), (a_t_v, .inl (ca 0, 206, .inl f_t_v_59)), (a_t_past, .inl (ca 0, 1648, .inl f_t_past_6)), (a_t_into, .inl (ca 0, 41, .inl (upd f_t_into_35 (x3_35 + 1).toNatClampNeg x2_97))), (a_t_isNeeded, .inl (ca 3, 41, .inl f_t_isNeeded_14))] := hD
                exact hJ109 x2_97 f_t_v_59 (upd f_t_into_35 (x3_35 + 1).toNatClampNeg x2_97) _ _ _ hP hD hS (lv_sub hl [1, 2, 0, 3] rfl) h
              · have h := h.2 c9
                refine lv_aload_n hx hb dX9_tidy_65 rfl (lv_at hl 0 rfl) ?_
                refine va_get (D := D) (ci := 7) (v := .ref a_t_v) (C := RX9) (T := TX9) (N := 12) hx hb hq inX9g hown hK hP 0 rfl rfl 0 (by decide) (hq _ q_881) (fun _ h9 => h9) rfl dX9_tidy_66 ?_
                refine lv_iconst (v := 5) hx hb dX9_tidy_69 (by decide) ?_
                refine lv_iconst (v := 5) hx hb dX9_tidy_70 (by decide) ?_
                refine lv_iload_n hx hb dX9_tidy_71 rfl (lv_at hl 2 rfl) ?_
                refine lv_imul hx hb dX9_tidy_72 ?_
                refine lv_iadd hx hb dX9_tidy_73 ?_
                refine lv_iload hx hb dX9_tidy_74 (lv_at hl 4 rfl) ?_
                refine lv_iadd hx hb dX9_tidy_76 ?_
                refine lv_aload_n hx hb dX9_tidy_77 rfl (lv_at hl 0 rfl) ?_
                refine va_get (D := D) (ci := 7) (v := .ref a_t_v) (C := RX9) (T := TX9) (N := 12) hx hb hq inX9g hown hK hP 0 rfl rfl 0 (by decide) (hq _ q_881) (fun _ h9 => h9) rfl dX9_tidy_78 ?_
                refine lv_iconst (v := 5) hx hb dX9_tidy_81 (by decide) ?_
                refine lv_iconst (v := 5) hx hb dX9_tidy_82 (by decide) ?_
                refine lv_iload_n hx hb dX9_tidy_83 rfl (lv_at hl 3 rfl) ?_
                refine lv_imul hx hb dX9_tidy_84 ?_
                refine lv_iadd hx hb dX9_tidy_85 ?_
                refine lv_iload hx hb dX9_tidy_86 (lv_at hl 4 rfl) ?_
                refine lv_iadd hx hb dX9_tidy_88 ?_
                obtain ⟨hi9, h⟩ := h
                refine va_iald hx hb hK hP 1 0 rfl rfl hi9 dX9_tidy_89 ?_
                obtain ⟨hi9, h⟩ := h
                refine va_iast hx hb hK hP hD hS 1 0 rfl rfl hi9 dX9_tidy_90 (fun H locs hP hD hS => ?_)
                have hP : va_P D vwCl [(a_t, .inr (7, [.ref a_t_v, .ref a_t_past, .ref a_t_costs, .int t_edits_6, .int 0, .ref a_t_into, .ref a_t_isNeeded, .ref a_t_depths, .ref a_t_names, .ref a_t_out, .int t_outs, .ref a_t_has])), (a_t_v, .inl (ca 0, 206, .inl (upd f_t_v_59 ((5 + (5 * x2_35)) + x4_59).toNatClampNeg (f_t_v_59 ((5 + (5 * x3_35)) + x4_59).toNatClampNeg)))), (a_t_past, .inl (ca 0, 1648, .inl f_t_past_6)), (a_t_into, .inl (ca 0, 41, .inl f_t_into_35)), (a_t_isNeeded, .inl (ca 3, 41, .inl f_t_isNeeded_14))] H := hP
                have hD : va_D A [(a_t, .inr (7, [.ref a_t_v, .ref a_t_past, .ref a_t_costs, .int t_edits_6, .int 0, .ref a_t_into, .ref a_t_isNeeded, .ref a_t_depths, .ref a_t_names, .ref a_t_out, .int t_outs, .ref a_t_has])), (a_t_v, .inl (ca 0, 206, .inl (upd f_t_v_59 ((5 + (5 * x2_35)) + x4_59).toNatClampNeg (f_t_v_59 ((5 + (5 * x3_35)) + x4_59).toNatClampNeg)))), (a_t_past, .inl (ca 0, 1648, .inl f_t_past_6)), (a_t_into, .inl (ca 0, 41, .inl f_t_into_35)), (a_t_isNeeded, .inl (ca 3, 41, .inl f_t_isNeeded_14))] := hD
                obtain ⟨x4_91, ex4_91⟩ : ∃ y : Int32, y = x4_59 + 1 := ⟨_, rfl⟩
                have h := h x4_91 ex4_91
                refine lv_iinc (v := x4_91) (lv' := [(4, .int x4_91), (0, .ref a_t), (1, .int x1_23), (2, .int x2_35), (3, .int x3_35)]) hx hb dX9_tidy_91 hl (k := 4) rfl (by rw [ex4_91]; rfl) (by decide) rfl (fun ls hl => ?_)
                refine lv_goto (tgt := 59) hx hb dX9_tidy_94 (by decide) ?_
                exact ih59 x4_91 (upd f_t_v_59 ((5 + (5 * x2_35)) + x4_59).toNatClampNeg (f_t_v_59 ((5 + (5 * x3_35)) + x4_59).toNatClampNeg)) _ _ _ hP hD hS (lv_sub hl [1, 2, 3, 4, 0] rfl) h
          obtain ⟨k9, h⟩ := h
          exact hL59 k9 0 f_t_v_53 _ _ _ hP hD hS (lv_sub hl [1, 2, 3, 4, 0] rfl) h
  obtain ⟨k9, h⟩ := h
  exact hL35 k9 0 0 f_t_v_10 (upd f_t_into_10 (0 : Int32).toNatClampNeg 0) _ _ _ hP hD hS (lv_sub hl [3, 2, 1, 0] rfl) h

abbrev qX9_undo (D : va_G) (ca : Nat → ClassId) (a_t a_t_v a_t_past a_t_costs a_t_into a_t_isNeeded a_t_depths a_t_names a_t_out a_t_has : Nat) (t_outs : Int32) (f_t_past : Nat → Int32) (Q : Int32 → Int32 → Int32 → (Nat → Int32) → Prop) (A : Nat → Prop) : Array Value → State → Outcome → State → Prop := va_Qi (fun (r : Int32) (u : Int32 × Int32 × (Nat → Int32)) => Q r u.1 u.2.1 u.2.2) (wEnd D ca (fun u : Int32 × Int32 × (Nat → Int32) => [(a_t, .inr (7, [.ref a_t_v, .ref a_t_past, .ref a_t_costs, .int u.1, .int u.2.1, .ref a_t_into, .ref a_t_isNeeded, .ref a_t_depths, .ref a_t_names, .ref a_t_out, .int t_outs, .ref a_t_has])), (a_t_v, .inl (ca 0, 206, .inl u.2.2)), (a_t_past, .inl (ca 0, 1648, .inl f_t_past))]) A) A
def wX9_undo_30 (t_edits : Int32) (f_t_past : Nat → Int32) (Q : Int32 → Int32 → Int32 → (Nat → Int32) → Prop) : Nat → Int32 → (Nat → Int32) → Prop
  | 0, _, _ => False
  | n9 + 1, x1_30, f_t_v_30 =>
  ((206 ≤ x1_30 → Q (t_edits - 1) (t_edits - 1) 0 f_t_v_30) ∧ (¬ 206 ≤ x1_30 → (vp_in ((206 * (t_edits - 1)) + x1_30) 1648 ∧ (vp_in x1_30 206 ∧ (∀ x1_58 : Int32, x1_58 = x1_30 + 1 → (wX9_undo_30 t_edits f_t_past Q n9) x1_58 (upd f_t_v_30 x1_30.toNatClampNeg (f_t_past ((206 * (t_edits - 1)) + x1_30).toNatClampNeg)))))))
def wX9_undo (t_edits : Int32) (t_thrown : Int32) (f_t_v : Nat → Int32) (f_t_past : Nat → Int32) (Q : Int32 → Int32 → Int32 → (Nat → Int32) → Prop) : Prop :=
  ((t_edits = 0 → wX9_fails 0 1 (fun r_14 t_thrown_14 => Q r_14 t_edits t_thrown_14 f_t_v)) ∧ (¬ t_edits = 0 → (∃ k9, wX9_undo_30 t_edits f_t_past Q k9 0 f_t_v)))
set_option maxHeartbeats 4000000 in
set_option maxRecDepth 100000 in
theorem mX9_undo (l : Launch) (D : va_G) (ca : Nat → ClassId) (a_t a_t_v a_t_past a_t_costs a_t_into a_t_isNeeded a_t_depths a_t_names a_t_out a_t_has : Nat) (sz : Nat) (t_edits : Int32) (t_thrown : Int32) (t_outs : Int32) (f_t_v : Nat → Int32) (f_t_past : Nat → Int32) (Q : Int32 → Int32 → Int32 → (Nat → Int32) → Prop) (h : wX9_undo t_edits t_thrown f_t_v f_t_past Q) : Met l yX9_undo (Cond.code yX9_undo cX9_undo 2 (some .int) :: wsG) ({ frames := 1, cells := 0, slots := 0, locals := 21 } : Room) (va_Pc [.ref a_t] (wPre D ca [(a_t, .inr (7, [.ref a_t_v, .ref a_t_past, .ref a_t_costs, .int t_edits, .int t_thrown, .ref a_t_into, .ref a_t_isNeeded, .ref a_t_depths, .ref a_t_names, .ref a_t_out, .int t_outs, .ref a_t_has])), (a_t_v, .inl (ca 0, 206, .inl f_t_v)), (a_t_past, .inl (ca 0, 1648, .inl f_t_past))] sz)) (qX9_undo D ca a_t a_t_v a_t_past a_t_costs a_t_into a_t_isNeeded a_t_depths a_t_names a_t_out a_t_has t_outs f_t_past Q (va_A [(a_t, .inr (7, [.ref a_t_v, .ref a_t_past, .ref a_t_costs, .int t_edits, .int t_thrown, .ref a_t_into, .ref a_t_isNeeded, .ref a_t_depths, .ref a_t_names, .ref a_t_out, .int t_outs, .ref a_t_has])), (a_t_v, .inl (ca 0, 206, .inl f_t_v)), (a_t_past, .inl (ca 0, 1648, .inl f_t_past))] sz)) 0 0 (va_A [(a_t, .inr (7, [.ref a_t_v, .ref a_t_past, .ref a_t_costs, .int t_edits, .int t_thrown, .ref a_t_into, .ref a_t_isNeeded, .ref a_t_depths, .ref a_t_names, .ref a_t_out, .int t_outs, .ref a_t_has])), (a_t_v, .inl (ca 0, 206, .inl f_t_v)), (a_t_past, .inl (ca 0, 1648, .inl f_t_past))] sz) := by
  refine Met.ofW (cc := cX9_undo) (maxL := 2) (ret := (some .int)) (by decide) rfl ?_
  intro p e s m args below meth c s₁ B hml hv
  obtain ⟨rfl, hsz, hP, hK, hD0⟩ := hv
  have hx := B.exec
  have hb := B.bytes
  have hr := B.returns
  have hts := atoms_spec (ws := (Cond.code yX9_undo cX9_undo 2 (some .int) :: wsG)) B.pre
  have hq : ∀ w ∈ wsG, w.before _ s = true := fun w hw => hts w (List.mem_cons_of_mem _ hw)
  have hown : s.vm.findClass RX9 = some m.cls := findClass_of_methodNamed B.named
  have hlocks := B.notSynchronized
  subst hsz
  have hD := hD0.self (sz := s.heap.size)
  generalize hAe : va_A [(a_t, .inr (7, [.ref a_t_v, .ref a_t_past, .ref a_t_costs, .int t_edits, .int t_thrown, .ref a_t_into, .ref a_t_isNeeded, .ref a_t_depths, .ref a_t_names, .ref a_t_out, .int t_outs, .ref a_t_has])), (a_t_v, .inl (ca 0, 206, .inl f_t_v)), (a_t_past, .inl (ca 0, 1648, .inl f_t_past))] s.heap.size = A at hD ⊢
  have hA : ∀ q : Nat, s.heap.size ≤ q → A q := fun q h => by rw [← hAe]; exact Or.inr h
  have hS : va_S A s.heap s.heap [] := va_S.rf
  have hP : va_P D vwCl [(a_t, .inr (7, [.ref a_t_v, .ref a_t_past, .ref a_t_costs, .int t_edits, .int t_thrown, .ref a_t_into, .ref a_t_isNeeded, .ref a_t_depths, .ref a_t_names, .ref a_t_out, .int t_outs, .ref a_t_has])), (a_t_v, .inl (ca 0, 206, .inl f_t_v)), (a_t_past, .inl (ca 0, 1648, .inl f_t_past))] s.heap := hP
  have hl := lv_entry ([.ref a_t]) (n := 2) (Nat.le_of_ble_eq_true rfl)
  rw [lg_entry_eq]
  generalize (lg_sl ([.ref a_t]) ++ List.replicate (2 - (lg_sl ([.ref a_t])).length) Slot.unset).toArray = ls at hl ⊢
  have hl : lv_has ls 2 [(0, .ref a_t)] := hl
  unfold wX9_undo at h
  refine lv_aload_n hx hb dX9_undo_0 rfl (lv_at hl 0 rfl) ?_
  refine lv_iconst (v := 0) hx hb dX9_undo_1 (by decide) ?_
  refine va_put (D := D) (ci := 7) (v := .int 0) (ty := .int) (C := RX9) (T := TX9) (N := 12) hx hb hq inX9g tyX9 tyX9_ok nmX9 hown hK hP hD hS 0 rfl rfl 4 (by decide) (hq _ q_885) (fun _ h9 => h9) rfl (by decide +kernel) rfl rfl (Nat.le_of_ble_eq_true rfl) dX9_undo_2 (fun H locs hP hD hS => ?_)
  have hP : va_P D vwCl [(a_t, .inr (7, [.ref a_t_v, .ref a_t_past, .ref a_t_costs, .int t_edits, .int 0, .ref a_t_into, .ref a_t_isNeeded, .ref a_t_depths, .ref a_t_names, .ref a_t_out, .int t_outs, .ref a_t_has])), (a_t_v, .inl (ca 0, 206, .inl f_t_v)), (a_t_past, .inl (ca 0, 1648, .inl f_t_past))] H := hP
  have hD : va_D A [(a_t, .inr (7, [.ref a_t_v, .ref a_t_past, .ref a_t_costs, .int t_edits, .int 0, .ref a_t_into, .ref a_t_isNeeded, .ref a_t_depths, .ref a_t_names, .ref a_t_out, .int t_outs, .ref a_t_has])), (a_t_v, .inl (ca 0, 206, .inl f_t_v)), (a_t_past, .inl (ca 0, 1648, .inl f_t_past))] := hD
  refine lv_aload_n hx hb dX9_undo_5 rfl (lv_at hl 0 rfl) ?_
  refine va_get (D := D) (ci := 7) (v := .int t_edits) (C := RX9) (T := TX9) (N := 12) hx hb hq inX9g hown hK hP 0 rfl rfl 3 (by decide) (hq _ q_884) (fun _ h9 => h9) rfl dX9_undo_6 ?_
  refine lv_if_ne (tgt := 18) hx hb dX9_undo_9 (by decide) (fun c9 => ?_) (fun c9 => ?_)
  · have h := h.2 c9
    refine lv_aload_n hx hb dX9_undo_18 rfl (lv_at hl 0 rfl) ?_
    refine lv_dup hx hb dX9_undo_19 rfl ?_
    refine va_get (D := D) (ci := 7) (v := .int t_edits) (C := RX9) (T := TX9) (N := 12) hx hb hq inX9g hown hK hP 0 rfl rfl 3 (by decide) (hq _ q_884) (fun _ h9 => h9) rfl dX9_undo_20 ?_
    refine lv_iconst (v := 1) hx hb dX9_undo_23 (by decide) ?_
    refine lv_isub hx hb dX9_undo_24 ?_
    refine va_put (D := D) (ci := 7) (v := .int (t_edits - 1)) (ty := .int) (C := RX9) (T := TX9) (N := 12) hx hb hq inX9g tyX9 tyX9_ok nmX9 hown hK hP hD hS 0 rfl rfl 3 (by decide) (hq _ q_884) (fun _ h9 => h9) rfl (by decide +kernel) rfl rfl (Nat.le_of_ble_eq_true rfl) dX9_undo_25 (fun H locs hP hD hS => ?_)
    have hP : va_P D vwCl [(a_t, .inr (7, [.ref a_t_v, .ref a_t_past, .ref a_t_costs, .int (t_edits - 1), .int 0, .ref a_t_into, .ref a_t_isNeeded, .ref a_t_depths, .ref a_t_names, .ref a_t_out, .int t_outs, .ref a_t_has])), (a_t_v, .inl (ca 0, 206, .inl f_t_v)), (a_t_past, .inl (ca 0, 1648, .inl f_t_past))] H := hP
    have hD : va_D A [(a_t, .inr (7, [.ref a_t_v, .ref a_t_past, .ref a_t_costs, .int (t_edits - 1), .int 0, .ref a_t_into, .ref a_t_isNeeded, .ref a_t_depths, .ref a_t_names, .ref a_t_out, .int t_outs, .ref a_t_has])), (a_t_v, .inl (ca 0, 206, .inl f_t_v)), (a_t_past, .inl (ca 0, 1648, .inl f_t_past))] := hD
    refine lv_iconst (v := 0) hx hb dX9_undo_28 (by decide) ?_
    refine lv_istore_n (lv' := [(1, .int 0), (0, .ref a_t)]) hx hb dX9_undo_29 rfl hl (by decide) rfl (fun ls hl => ?_)
    have hL30 : ∀ (n9_30 : Nat) (x1_30 : Int32) (f_t_v_30 : Nat → Int32) (H : Heap) (locs : List Loc) (ls : Array Slot), va_P D vwCl [(a_t, .inr (7, [.ref a_t_v, .ref a_t_past, .ref a_t_costs, .int (t_edits - 1), .int 0, .ref a_t_into, .ref a_t_isNeeded, .ref a_t_depths, .ref a_t_names, .ref a_t_out, .int t_outs, .ref a_t_has])), (a_t_v, .inl (ca 0, 206, .inl f_t_v_30)), (a_t_past, .inl (ca 0, 1648, .inl f_t_past))] H → va_D A [(a_t, .inr (7, [.ref a_t_v, .ref a_t_past, .ref a_t_costs, .int (t_edits - 1), .int 0, .ref a_t_into, .ref a_t_isNeeded, .ref a_t_depths, .ref a_t_names, .ref a_t_out, .int t_outs, .ref a_t_has])), (a_t_v, .inl (ca 0, 206, .inl f_t_v_30)), (a_t_past, .inl (ca 0, 1648, .inl f_t_past))] → va_S A s.heap H locs → lv_has ls 2 [(0, .ref a_t), (1, .int x1_30)] → wX9_undo_30 t_edits f_t_past Q n9_30 x1_30 f_t_v_30 → W p l e (headSpec (Cond.code yX9_undo cX9_undo 2 (some .int) :: wsG) ({ frames := 1, cells := 0, slots := 0, locals := 21 } : Room)).room s m ([.ref a_t] : List Value).toArray below meth c H locs 0 0 (MQ below (qX9_undo D ca a_t a_t_v a_t_past a_t_costs a_t_into a_t_isNeeded a_t_depths a_t_names a_t_out a_t_has t_outs f_t_past Q A) ([.ref a_t] : List Value).toArray s 0 0 A) (F0 m 30 ls []) := by
      intro n9_30
      induction n9_30 with
      | zero =>
        intro x1_30 f_t_v_30 H locs ls hP hD hS hl h
        exact False.elim h
      | succ n9_30 ih30 =>
        intro x1_30 f_t_v_30 H locs ls hP hD hS hl h
        unfold wX9_undo_30 at h
        refine lv_iload_n hx hb dX9_undo_30 rfl (lv_at hl 1 rfl) ?_
        refine lv_sipush (v := 206) hx hb dX9_undo_31 (by decide) ?_
        refine lv_icmp_ge (tgt := 64) hx hb dX9_undo_34 (by decide) (fun c9 => ?_) (fun c9 => ?_)
        · have h := h.1 c9
          refine lv_aload_n hx hb dX9_undo_64 rfl (lv_at hl 0 rfl) ?_
          refine va_get (D := D) (ci := 7) (v := .int (t_edits - 1)) (C := RX9) (T := TX9) (N := 12) hx hb hq inX9g hown hK hP 0 rfl rfl 3 (by decide) (hq _ q_884) (fun _ h9 => h9) rfl dX9_undo_65 ?_
          exact W.iret (v := t_edits - 1) hx hb hr (fun t ht hW => ⟨⟨t_edits - 1, (t_edits - 1, 0, f_t_v_30), rfl, h, by rw [ht]; exact hP, va_K.moved hW.alike hK, hD⟩, hS.F ht⟩) hS.2.2 dX9_undo_68
        · have h := h.2 c9
          refine lv_aload_n hx hb dX9_undo_37 rfl (lv_at hl 0 rfl) ?_
          refine va_get (D := D) (ci := 7) (v := .ref a_t_v) (C := RX9) (T := TX9) (N := 12) hx hb hq inX9g hown hK hP 0 rfl rfl 0 (by decide) (hq _ q_881) (fun _ h9 => h9) rfl dX9_undo_38 ?_
          refine lv_iload_n hx hb dX9_undo_41 rfl (lv_at hl 1 rfl) ?_
          refine lv_aload_n hx hb dX9_undo_42 rfl (lv_at hl 0 rfl) ?_
          refine va_get (D := D) (ci := 7) (v := .ref a_t_past) (C := RX9) (T := TX9) (N := 12) hx hb hq inX9g hown hK hP 0 rfl rfl 1 (by decide) (hq _ q_882) (fun _ h9 => h9) rfl dX9_undo_43 ?_
          refine lv_sipush (v := 206) hx hb dX9_undo_46 (by decide) ?_
          refine lv_aload_n hx hb dX9_undo_49 rfl (lv_at hl 0 rfl) ?_
          refine va_get (D := D) (ci := 7) (v := .int (t_edits - 1)) (C := RX9) (T := TX9) (N := 12) hx hb hq inX9g hown hK hP 0 rfl rfl 3 (by decide) (hq _ q_884) (fun _ h9 => h9) rfl dX9_undo_50 ?_
          refine lv_imul hx hb dX9_undo_53 ?_
          refine lv_iload_n hx hb dX9_undo_54 rfl (lv_at hl 1 rfl) ?_
          refine lv_iadd hx hb dX9_undo_55 ?_
          obtain ⟨hi9, h⟩ := h
          refine va_iald hx hb hK hP 2 0 rfl rfl hi9 dX9_undo_56 ?_
          obtain ⟨hi9, h⟩ := h
          refine va_iast hx hb hK hP hD hS 1 0 rfl rfl hi9 dX9_undo_57 (fun H locs hP hD hS => ?_)
          have hP : va_P D vwCl [(a_t, .inr (7, [.ref a_t_v, .ref a_t_past, .ref a_t_costs, .int (t_edits - 1), .int 0, .ref a_t_into, .ref a_t_isNeeded, .ref a_t_depths, .ref a_t_names, .ref a_t_out, .int t_outs, .ref a_t_has])), (a_t_v, .inl (ca 0, 206, .inl (upd f_t_v_30 x1_30.toNatClampNeg (f_t_past ((206 * (t_edits - 1)) + x1_30).toNatClampNeg)))), (a_t_past, .inl (ca 0, 1648, .inl f_t_past))] H := hP
          have hD : va_D A [(a_t, .inr (7, [.ref a_t_v, .ref a_t_past, .ref a_t_costs, .int (t_edits - 1), .int 0, .ref a_t_into, .ref a_t_isNeeded, .ref a_t_depths, .ref a_t_names, .ref a_t_out, .int t_outs, .ref a_t_has])), (a_t_v, .inl (ca 0, 206, .inl (upd f_t_v_30 x1_30.toNatClampNeg (f_t_past ((206 * (t_edits - 1)) + x1_30).toNatClampNeg)))), (a_t_past, .inl (ca 0, 1648, .inl f_t_past))] := hD
          obtain ⟨x1_58, ex1_58⟩ : ∃ y : Int32, y = x1_30 + 1 := ⟨_, rfl⟩
          have h := h x1_58 ex1_58
          refine lv_iinc (v := x1_58) (lv' := [(1, .int x1_58), (0, .ref a_t)]) hx hb dX9_undo_58 hl (k := 1) rfl (by rw [ex1_58]; rfl) (by decide) rfl (fun ls hl => ?_)
          refine lv_goto (tgt := 30) hx hb dX9_undo_61 (by decide) ?_
          exact ih30 x1_58 (upd f_t_v_30 x1_30.toNatClampNeg (f_t_past ((206 * (t_edits - 1)) + x1_30).toNatClampNeg)) _ _ _ hP hD hS (lv_sub hl [1, 0] rfl) h
    obtain ⟨k9, h⟩ := h
    exact hL30 k9 0 f_t_v _ _ _ hP hD hS (lv_sub hl [1, 0] rfl) h
  · have h := h.1 c9
    refine lv_aload_n hx hb dX9_undo_12 rfl (lv_at hl 0 rfl) ?_
    refine lv_iconst (v := 1) hx hb dX9_undo_13 (by decide) ?_
    refine cVi (As := [.int 1]) (rest := []) (wc := [(a_t, .inr (7, [.ref a_t_v, .ref a_t_past, .ref a_t_costs, .int t_edits, .int 0, .ref a_t_into, .ref a_t_isNeeded, .ref a_t_depths, .ref a_t_names, .ref a_t_out, .int t_outs, .ref a_t_has]))]) (wr := [(a_t_v, .inl (ca 0, 206, .inl f_t_v)), (a_t_past, .inl (ca 0, 1648, .inl f_t_past))]) (w1 := fun u : Int32 => [(a_t, .inr (7, [.ref a_t_v, .ref a_t_past, .ref a_t_costs, .int t_edits, .int u, .ref a_t_into, .ref a_t_isNeeded, .ref a_t_depths, .ref a_t_names, .ref a_t_out, .int t_outs, .ref a_t_has]))]) (ws2 := fun u : Int32 => [(a_t, .inr (7, [.ref a_t_v, .ref a_t_past, .ref a_t_costs, .int t_edits, .int u, .ref a_t_into, .ref a_t_isNeeded, .ref a_t_depths, .ref a_t_names, .ref a_t_out, .int t_outs, .ref a_t_has])), (a_t_v, .inl (ca 0, 206, .inl f_t_v)), (a_t_past, .inl (ca 0, 1648, .inl f_t_past))]) ⟨hx, hb, hml, hown, hts⟩ (mX9_fails l D ca a_t a_t_v a_t_past a_t_costs a_t_into a_t_isNeeded a_t_depths a_t_names a_t_out a_t_has _ t_edits 0 t_outs 1 _ h) (cwV 1 hts (gV q_933 q_935 qs_33 q_8 q_936) rfl rfl rfl (by decide +kernel) ⟨Nat.le_of_ble_eq_true rfl, Nat.le_of_ble_eq_true rfl⟩) hK hP hD hS hA [0] [1, 2] [2, 0, 1] rfl rfl rfl (by decide) (fun _ => rfl) (ci := 7) (q0 := 0) rfl rfl rfl hl.1 rfl (Nat.le_of_ble_eq_true rfl) dX9_undo_14 ⟨Nat.le_of_ble_eq_true rfl, Nat.le_of_ble_eq_true rfl⟩ (fun r_14 u9 H locs h hP hD hS => ?_)
    obtain ⟨t_thrown_14, rfl⟩ : ∃ z, z = u9 := ⟨_, rfl⟩
    have hP : va_P D vwCl [(a_t, .inr (7, [.ref a_t_v, .ref a_t_past, .ref a_t_costs, .int t_edits, .int t_thrown_14, .ref a_t_into, .ref a_t_isNeeded, .ref a_t_depths, .ref a_t_names, .ref a_t_out, .int t_outs, .ref a_t_has])), (a_t_v, .inl (ca 0, 206, .inl f_t_v)), (a_t_past, .inl (ca 0, 1648, .inl f_t_past))] H := hP
    have hD : va_D A [(a_t, .inr (7, [.ref a_t_v, .ref a_t_past, .ref a_t_costs, .int t_edits, .int t_thrown_14, .ref a_t_into, .ref a_t_isNeeded, .ref a_t_depths, .ref a_t_names, .ref a_t_out, .int t_outs, .ref a_t_has])), (a_t_v, .inl (ca 0, 206, .inl f_t_v)), (a_t_past, .inl (ca 0, 1648, .inl f_t_past))] := hD
    try dsimp only at h
    exact W.iret (v := r_14) hx hb hr (fun t ht hW => ⟨⟨r_14, (t_edits, t_thrown_14, f_t_v), rfl, h, by rw [ht]; exact hP, va_K.moved hW.alike hK, hD⟩, hS.F ht⟩) hS.2.2 dX9_undo_17

abbrev qX9_instructions (D : va_G) (ca : Nat → ClassId) (a_t a_t_v a_t_past a_t_costs a_t_into a_t_isNeeded a_t_depths a_t_names a_t_out a_t_has : Nat) (t_edits : Int32) (t_outs : Int32) (f_t_v : Nat → Int32) (Q : Int32 → Int32 → Prop) (A : Nat → Prop) : Array Value → State → Outcome → State → Prop := va_Qi (fun (r : Int32) (u : Int32) => Q r u) (wEnd D ca (fun u : Int32 => [(a_t, .inr (7, [.ref a_t_v, .ref a_t_past, .ref a_t_costs, .int t_edits, .int u, .ref a_t_into, .ref a_t_isNeeded, .ref a_t_depths, .ref a_t_names, .ref a_t_out, .int t_outs, .ref a_t_has])), (a_t_v, .inl (ca 0, 206, .inl f_t_v))]) A) A
def wX9_instructions (t_thrown : Int32) (f_t_v : Nat → Int32) (Q : Int32 → Int32 → Prop) : Prop :=
  (vp_in 3 206 ∧ Q (f_t_v (3 : Int32).toNatClampNeg) 0)
set_option maxHeartbeats 4000000 in
set_option maxRecDepth 100000 in
theorem mX9_instructions (l : Launch) (D : va_G) (ca : Nat → ClassId) (a_t a_t_v a_t_past a_t_costs a_t_into a_t_isNeeded a_t_depths a_t_names a_t_out a_t_has : Nat) (sz : Nat) (t_edits : Int32) (t_thrown : Int32) (t_outs : Int32) (f_t_v : Nat → Int32) (Q : Int32 → Int32 → Prop) (h : wX9_instructions t_thrown f_t_v Q) : Met l yX9_instructions (Cond.code yX9_instructions cX9_instructions 1 (some .int) :: wsG) ({ frames := 0, cells := 0, slots := 0, locals := 0 } : Room) (va_Pc [.ref a_t] (wPre D ca [(a_t, .inr (7, [.ref a_t_v, .ref a_t_past, .ref a_t_costs, .int t_edits, .int t_thrown, .ref a_t_into, .ref a_t_isNeeded, .ref a_t_depths, .ref a_t_names, .ref a_t_out, .int t_outs, .ref a_t_has])), (a_t_v, .inl (ca 0, 206, .inl f_t_v))] sz)) (qX9_instructions D ca a_t a_t_v a_t_past a_t_costs a_t_into a_t_isNeeded a_t_depths a_t_names a_t_out a_t_has t_edits t_outs f_t_v Q (va_A [(a_t, .inr (7, [.ref a_t_v, .ref a_t_past, .ref a_t_costs, .int t_edits, .int t_thrown, .ref a_t_into, .ref a_t_isNeeded, .ref a_t_depths, .ref a_t_names, .ref a_t_out, .int t_outs, .ref a_t_has])), (a_t_v, .inl (ca 0, 206, .inl f_t_v))] sz)) 0 0 (va_A [(a_t, .inr (7, [.ref a_t_v, .ref a_t_past, .ref a_t_costs, .int t_edits, .int t_thrown, .ref a_t_into, .ref a_t_isNeeded, .ref a_t_depths, .ref a_t_names, .ref a_t_out, .int t_outs, .ref a_t_has])), (a_t_v, .inl (ca 0, 206, .inl f_t_v))] sz) := by
  refine Met.ofW (cc := cX9_instructions) (maxL := 1) (ret := (some .int)) (by decide) rfl ?_
  intro p e s m args below meth c s₁ B hml hv
  obtain ⟨rfl, hsz, hP, hK, hD0⟩ := hv
  have hx := B.exec
  have hb := B.bytes
  have hr := B.returns
  have hts := atoms_spec (ws := (Cond.code yX9_instructions cX9_instructions 1 (some .int) :: wsG)) B.pre
  have hq : ∀ w ∈ wsG, w.before _ s = true := fun w hw => hts w (List.mem_cons_of_mem _ hw)
  have hown : s.vm.findClass RX9 = some m.cls := findClass_of_methodNamed B.named
  have hlocks := B.notSynchronized
  subst hsz
  have hD := hD0.self (sz := s.heap.size)
  generalize hAe : va_A [(a_t, .inr (7, [.ref a_t_v, .ref a_t_past, .ref a_t_costs, .int t_edits, .int t_thrown, .ref a_t_into, .ref a_t_isNeeded, .ref a_t_depths, .ref a_t_names, .ref a_t_out, .int t_outs, .ref a_t_has])), (a_t_v, .inl (ca 0, 206, .inl f_t_v))] s.heap.size = A at hD ⊢
  have hA : ∀ q : Nat, s.heap.size ≤ q → A q := fun q h => by rw [← hAe]; exact Or.inr h
  have hS : va_S A s.heap s.heap [] := va_S.rf
  have hP : va_P D vwCl [(a_t, .inr (7, [.ref a_t_v, .ref a_t_past, .ref a_t_costs, .int t_edits, .int t_thrown, .ref a_t_into, .ref a_t_isNeeded, .ref a_t_depths, .ref a_t_names, .ref a_t_out, .int t_outs, .ref a_t_has])), (a_t_v, .inl (ca 0, 206, .inl f_t_v))] s.heap := hP
  have hl := lv_entry ([.ref a_t]) (n := 1) (Nat.le_of_ble_eq_true rfl)
  rw [lg_entry_eq]
  generalize (lg_sl ([.ref a_t]) ++ List.replicate (1 - (lg_sl ([.ref a_t])).length) Slot.unset).toArray = ls at hl ⊢
  have hl : lv_has ls 1 [(0, .ref a_t)] := hl
  unfold wX9_instructions at h
  refine lv_aload_n hx hb dX9_instructions_0 rfl (lv_at hl 0 rfl) ?_
  refine lv_iconst (v := 0) hx hb dX9_instructions_1 (by decide) ?_
  refine va_put (D := D) (ci := 7) (v := .int 0) (ty := .int) (C := RX9) (T := TX9) (N := 12) hx hb hq inX9g tyX9 tyX9_ok nmX9 hown hK hP hD hS 0 rfl rfl 4 (by decide) (hq _ q_885) (fun _ h9 => h9) rfl (by decide +kernel) rfl rfl (Nat.le_of_ble_eq_true rfl) dX9_instructions_2 (fun H locs hP hD hS => ?_)
  have hP : va_P D vwCl [(a_t, .inr (7, [.ref a_t_v, .ref a_t_past, .ref a_t_costs, .int t_edits, .int 0, .ref a_t_into, .ref a_t_isNeeded, .ref a_t_depths, .ref a_t_names, .ref a_t_out, .int t_outs, .ref a_t_has])), (a_t_v, .inl (ca 0, 206, .inl f_t_v))] H := hP
  have hD : va_D A [(a_t, .inr (7, [.ref a_t_v, .ref a_t_past, .ref a_t_costs, .int t_edits, .int 0, .ref a_t_into, .ref a_t_isNeeded, .ref a_t_depths, .ref a_t_names, .ref a_t_out, .int t_outs, .ref a_t_has])), (a_t_v, .inl (ca 0, 206, .inl f_t_v))] := hD
  refine lv_aload_n hx hb dX9_instructions_5 rfl (lv_at hl 0 rfl) ?_
  refine va_get (D := D) (ci := 7) (v := .ref a_t_v) (C := RX9) (T := TX9) (N := 12) hx hb hq inX9g hown hK hP 0 rfl rfl 0 (by decide) (hq _ q_881) (fun _ h9 => h9) rfl dX9_instructions_6 ?_
  refine lv_iconst (v := 3) hx hb dX9_instructions_9 (by decide) ?_
  obtain ⟨hi9, h⟩ := h
  refine va_iald hx hb hK hP 1 0 rfl rfl hi9 dX9_instructions_10 ?_
  exact W.iret (v := f_t_v (3 : Int32).toNatClampNeg) hx hb hr (fun t ht hW => ⟨⟨f_t_v (3 : Int32).toNatClampNeg, 0, rfl, h, by rw [ht]; exact hP, va_K.moved hW.alike hK, hD⟩, hS.F ht⟩) hS.2.2 dX9_instructions_11

abbrev qX9_operation (D : va_G) (ca : Nat → ClassId) (a_t a_t_v a_t_past a_t_costs a_t_into a_t_isNeeded a_t_depths a_t_names a_t_out a_t_has : Nat) (t_edits : Int32) (t_outs : Int32) (f_t_v : Nat → Int32) (Q : Int32 → Int32 → Prop) (A : Nat → Prop) : Array Value → State → Outcome → State → Prop := va_Qi (fun (r : Int32) (u : Int32) => Q r u) (wEnd D ca (fun u : Int32 => [(a_t, .inr (7, [.ref a_t_v, .ref a_t_past, .ref a_t_costs, .int t_edits, .int u, .ref a_t_into, .ref a_t_isNeeded, .ref a_t_depths, .ref a_t_names, .ref a_t_out, .int t_outs, .ref a_t_has])), (a_t_v, .inl (ca 0, 206, .inl f_t_v))]) A) A
def wX9_operation (t_thrown : Int32) (f_t_v : Nat → Int32) (x1 : Int32) (Q : Int32 → Int32 → Prop) : Prop :=
  (vp_in 3 206 ∧ wX9_in x1.toInt64 0 (((f_t_v (3 : Int32).toNatClampNeg) - 1).toInt64) (fun r_17 => ((r_17 = 0 → wX9_fails 0 1 (fun r_38 t_thrown_38 => Q r_38 t_thrown_38)) ∧ (¬ r_17 = 0 → (vp_in (5 + (5 * x1)) 206 ∧ Q (f_t_v (5 + (5 * x1)).toNatClampNeg) 0)))))
set_option maxHeartbeats 4000000 in
set_option maxRecDepth 100000 in
theorem mX9_operation (l : Launch) (D : va_G) (ca : Nat → ClassId) (a_t a_t_v a_t_past a_t_costs a_t_into a_t_isNeeded a_t_depths a_t_names a_t_out a_t_has : Nat) (sz : Nat) (t_edits : Int32) (t_thrown : Int32) (t_outs : Int32) (f_t_v : Nat → Int32) (x1 : Int32) (Q : Int32 → Int32 → Prop) (h : wX9_operation t_thrown f_t_v x1 Q) : Met l yX9_operation (Cond.code yX9_operation cX9_operation 2 (some .int) :: wsG) ({ frames := 1, cells := 0, slots := 0, locals := 25 } : Room) (va_Pc [.ref a_t, .int x1] (wPre D ca [(a_t, .inr (7, [.ref a_t_v, .ref a_t_past, .ref a_t_costs, .int t_edits, .int t_thrown, .ref a_t_into, .ref a_t_isNeeded, .ref a_t_depths, .ref a_t_names, .ref a_t_out, .int t_outs, .ref a_t_has])), (a_t_v, .inl (ca 0, 206, .inl f_t_v))] sz)) (qX9_operation D ca a_t a_t_v a_t_past a_t_costs a_t_into a_t_isNeeded a_t_depths a_t_names a_t_out a_t_has t_edits t_outs f_t_v Q (va_A [(a_t, .inr (7, [.ref a_t_v, .ref a_t_past, .ref a_t_costs, .int t_edits, .int t_thrown, .ref a_t_into, .ref a_t_isNeeded, .ref a_t_depths, .ref a_t_names, .ref a_t_out, .int t_outs, .ref a_t_has])), (a_t_v, .inl (ca 0, 206, .inl f_t_v))] sz)) 0 0 (va_A [(a_t, .inr (7, [.ref a_t_v, .ref a_t_past, .ref a_t_costs, .int t_edits, .int t_thrown, .ref a_t_into, .ref a_t_isNeeded, .ref a_t_depths, .ref a_t_names, .ref a_t_out, .int t_outs, .ref a_t_has])), (a_t_v, .inl (ca 0, 206, .inl f_t_v))] sz) := by
  refine Met.ofW (cc := cX9_operation) (maxL := 2) (ret := (some .int)) (by decide) rfl ?_
  intro p e s m args below meth c s₁ B hml hv
  obtain ⟨rfl, hsz, hP, hK, hD0⟩ := hv
  have hx := B.exec
  have hb := B.bytes
  have hr := B.returns
  have hts := atoms_spec (ws := (Cond.code yX9_operation cX9_operation 2 (some .int) :: wsG)) B.pre
  have hq : ∀ w ∈ wsG, w.before _ s = true := fun w hw => hts w (List.mem_cons_of_mem _ hw)
  have hown : s.vm.findClass RX9 = some m.cls := findClass_of_methodNamed B.named
  have hlocks := B.notSynchronized
  subst hsz
  have hD := hD0.self (sz := s.heap.size)
  generalize hAe : va_A [(a_t, .inr (7, [.ref a_t_v, .ref a_t_past, .ref a_t_costs, .int t_edits, .int t_thrown, .ref a_t_into, .ref a_t_isNeeded, .ref a_t_depths, .ref a_t_names, .ref a_t_out, .int t_outs, .ref a_t_has])), (a_t_v, .inl (ca 0, 206, .inl f_t_v))] s.heap.size = A at hD ⊢
  have hA : ∀ q : Nat, s.heap.size ≤ q → A q := fun q h => by rw [← hAe]; exact Or.inr h
  have hS : va_S A s.heap s.heap [] := va_S.rf
  have hP : va_P D vwCl [(a_t, .inr (7, [.ref a_t_v, .ref a_t_past, .ref a_t_costs, .int t_edits, .int t_thrown, .ref a_t_into, .ref a_t_isNeeded, .ref a_t_depths, .ref a_t_names, .ref a_t_out, .int t_outs, .ref a_t_has])), (a_t_v, .inl (ca 0, 206, .inl f_t_v))] s.heap := hP
  have hl := lv_entry ([.ref a_t, .int x1]) (n := 2) (Nat.le_of_ble_eq_true rfl)
  rw [lg_entry_eq]
  generalize (lg_sl ([.ref a_t, .int x1]) ++ List.replicate (2 - (lg_sl ([.ref a_t, .int x1])).length) Slot.unset).toArray = ls at hl ⊢
  have hl : lv_has ls 2 [(0, .ref a_t), (1, .int x1)] := hl
  unfold wX9_operation at h
  refine lv_aload_n hx hb dX9_operation_0 rfl (lv_at hl 0 rfl) ?_
  refine lv_iconst (v := 0) hx hb dX9_operation_1 (by decide) ?_
  refine va_put (D := D) (ci := 7) (v := .int 0) (ty := .int) (C := RX9) (T := TX9) (N := 12) hx hb hq inX9g tyX9 tyX9_ok nmX9 hown hK hP hD hS 0 rfl rfl 4 (by decide) (hq _ q_885) (fun _ h9 => h9) rfl (by decide +kernel) rfl rfl (Nat.le_of_ble_eq_true rfl) dX9_operation_2 (fun H locs hP hD hS => ?_)
  have hP : va_P D vwCl [(a_t, .inr (7, [.ref a_t_v, .ref a_t_past, .ref a_t_costs, .int t_edits, .int 0, .ref a_t_into, .ref a_t_isNeeded, .ref a_t_depths, .ref a_t_names, .ref a_t_out, .int t_outs, .ref a_t_has])), (a_t_v, .inl (ca 0, 206, .inl f_t_v))] H := hP
  have hD : va_D A [(a_t, .inr (7, [.ref a_t_v, .ref a_t_past, .ref a_t_costs, .int t_edits, .int 0, .ref a_t_into, .ref a_t_isNeeded, .ref a_t_depths, .ref a_t_names, .ref a_t_out, .int t_outs, .ref a_t_has])), (a_t_v, .inl (ca 0, 206, .inl f_t_v))] := hD
  refine lv_iload_n hx hb dX9_operation_5 rfl (lv_at hl 1 rfl) ?_
  refine lv_i2l hx hb dX9_operation_6 rfl ?_
  refine lv_lconst (v := 0) hx hb dX9_operation_7 (by decide) ?_
  refine lv_aload_n hx hb dX9_operation_8 rfl (lv_at hl 0 rfl) ?_
  refine va_get (D := D) (ci := 7) (v := .ref a_t_v) (C := RX9) (T := TX9) (N := 12) hx hb hq inX9g hown hK hP 0 rfl rfl 0 (by decide) (hq _ q_881) (fun _ h9 => h9) rfl dX9_operation_9 ?_
  refine lv_iconst (v := 3) hx hb dX9_operation_12 (by decide) ?_
  obtain ⟨hi9, h⟩ := h
  refine va_iald hx hb hK hP 1 0 rfl rfl hi9 dX9_operation_13 ?_
  refine lv_iconst (v := 1) hx hb dX9_operation_14 (by decide) ?_
  refine lv_isub hx hb dX9_operation_15 ?_
  refine lv_i2l hx hb dX9_operation_16 rfl ?_
  refine cPi (As := [.long x1.toInt64, .long 0, .long (((f_t_v (3 : Int32).toNatClampNeg) - 1).toInt64)]) (rest := []) ⟨hx, hb, hml, hown, hts⟩ (mX9_in l x1.toInt64 0 (((f_t_v (3 : Int32).toNatClampNeg) - 1).toInt64) _ h) (va_cwS 3 hts (gS q_930 q_931 q_8 q_932) rfl rfl rfl (by decide +kernel) ⟨Nat.le_of_ble_eq_true rfl, Nat.le_of_ble_eq_true rfl⟩) hS rfl hl.1 rfl (Nat.le_of_ble_eq_true rfl) dX9_operation_17 ⟨Nat.le_of_ble_eq_true rfl, Nat.le_of_ble_eq_true rfl⟩ (fun r_17 H1 locs h hk1 hS => ?_)
  have hP := s_back hP hk1
  try dsimp only at h
  refine lv_if_eq (tgt := 36) hx hb dX9_operation_20 (by decide) (fun c9 => ?_) (fun c9 => ?_)
  · have h := h.1 c9
    refine lv_aload_n hx hb dX9_operation_36 rfl (lv_at hl 0 rfl) ?_
    refine lv_iconst (v := 1) hx hb dX9_operation_37 (by decide) ?_
    refine cVi (As := [.int 1]) (rest := []) (wc := [(a_t, .inr (7, [.ref a_t_v, .ref a_t_past, .ref a_t_costs, .int t_edits, .int 0, .ref a_t_into, .ref a_t_isNeeded, .ref a_t_depths, .ref a_t_names, .ref a_t_out, .int t_outs, .ref a_t_has]))]) (wr := [(a_t_v, .inl (ca 0, 206, .inl f_t_v))]) (w1 := fun u : Int32 => [(a_t, .inr (7, [.ref a_t_v, .ref a_t_past, .ref a_t_costs, .int t_edits, .int u, .ref a_t_into, .ref a_t_isNeeded, .ref a_t_depths, .ref a_t_names, .ref a_t_out, .int t_outs, .ref a_t_has]))]) (ws2 := fun u : Int32 => [(a_t, .inr (7, [.ref a_t_v, .ref a_t_past, .ref a_t_costs, .int t_edits, .int u, .ref a_t_into, .ref a_t_isNeeded, .ref a_t_depths, .ref a_t_names, .ref a_t_out, .int t_outs, .ref a_t_has])), (a_t_v, .inl (ca 0, 206, .inl f_t_v))]) ⟨hx, hb, hml, hown, hts⟩ (mX9_fails l D ca a_t a_t_v a_t_past a_t_costs a_t_into a_t_isNeeded a_t_depths a_t_names a_t_out a_t_has _ t_edits 0 t_outs 1 _ h) (cwV 1 hts (gV q_933 q_935 qs_33 q_8 q_936) rfl rfl rfl (by decide +kernel) ⟨Nat.le_of_ble_eq_true rfl, Nat.le_of_ble_eq_true rfl⟩) hK hP hD hS hA [0] [1] [1, 0] rfl rfl rfl (by decide) (fun _ => rfl) (ci := 7) (q0 := 0) rfl rfl rfl hl.1 rfl (Nat.le_of_ble_eq_true rfl) dX9_operation_38 ⟨Nat.le_of_ble_eq_true rfl, Nat.le_of_ble_eq_true rfl⟩ (fun r_38 u9 H locs h hP hD hS => ?_)
    obtain ⟨t_thrown_38, rfl⟩ : ∃ z, z = u9 := ⟨_, rfl⟩
    have hP : va_P D vwCl [(a_t, .inr (7, [.ref a_t_v, .ref a_t_past, .ref a_t_costs, .int t_edits, .int t_thrown_38, .ref a_t_into, .ref a_t_isNeeded, .ref a_t_depths, .ref a_t_names, .ref a_t_out, .int t_outs, .ref a_t_has])), (a_t_v, .inl (ca 0, 206, .inl f_t_v))] H := hP
    have hD : va_D A [(a_t, .inr (7, [.ref a_t_v, .ref a_t_past, .ref a_t_costs, .int t_edits, .int t_thrown_38, .ref a_t_into, .ref a_t_isNeeded, .ref a_t_depths, .ref a_t_names, .ref a_t_out, .int t_outs, .ref a_t_has])), (a_t_v, .inl (ca 0, 206, .inl f_t_v))] := hD
    try dsimp only at h
    exact W.iret (v := r_38) hx hb hr (fun t ht hW => ⟨⟨r_38, t_thrown_38, rfl, h, by rw [ht]; exact hP, va_K.moved hW.alike hK, hD⟩, hS.F ht⟩) hS.2.2 dX9_operation_41
  · have h := h.2 c9
    refine lv_aload_n hx hb dX9_operation_23 rfl (lv_at hl 0 rfl) ?_
    refine va_get (D := D) (ci := 7) (v := .ref a_t_v) (C := RX9) (T := TX9) (N := 12) hx hb hq inX9g hown hK hP 0 rfl rfl 0 (by decide) (hq _ q_881) (fun _ h9 => h9) rfl dX9_operation_24 ?_
    refine lv_iconst (v := 5) hx hb dX9_operation_27 (by decide) ?_
    refine lv_iconst (v := 5) hx hb dX9_operation_28 (by decide) ?_
    refine lv_iload_n hx hb dX9_operation_29 rfl (lv_at hl 1 rfl) ?_
    refine lv_imul hx hb dX9_operation_30 ?_
    refine lv_iadd hx hb dX9_operation_31 ?_
    obtain ⟨hi9, h⟩ := h
    refine va_iald hx hb hK hP 1 0 rfl rfl hi9 dX9_operation_32 ?_
    refine lv_goto (tgt := 41) hx hb dX9_operation_33 (by decide) ?_
    exact W.iret (v := f_t_v (5 + (5 * x1)).toNatClampNeg) hx hb hr (fun t ht hW => ⟨⟨f_t_v (5 + (5 * x1)).toNatClampNeg, 0, rfl, h, by rw [ht]; exact hP, va_K.moved hW.alike hK, hD⟩, hS.F ht⟩) hS.2.2 dX9_operation_41

abbrev qX9_operand (D : va_G) (ca : Nat → ClassId) (a_t a_t_v a_t_past a_t_costs a_t_into a_t_isNeeded a_t_depths a_t_names a_t_out a_t_has : Nat) (t_edits : Int32) (t_outs : Int32) (f_t_v : Nat → Int32) (Q : Int32 → Int32 → Prop) (A : Nat → Prop) : Array Value → State → Outcome → State → Prop := va_Qi (fun (r : Int32) (u : Int32) => Q r u) (wEnd D ca (fun u : Int32 => [(a_t, .inr (7, [.ref a_t_v, .ref a_t_past, .ref a_t_costs, .int t_edits, .int u, .ref a_t_into, .ref a_t_isNeeded, .ref a_t_depths, .ref a_t_names, .ref a_t_out, .int t_outs, .ref a_t_has])), (a_t_v, .inl (ca 0, 206, .inl f_t_v))]) A) A
def wX9_operand_52 (Q : Int32 → Int32 → Prop) : Prop :=
  wX9_fails 0 1 (fun r_54 t_thrown_54 => Q r_54 t_thrown_54)
def wX9_operand (t_thrown : Int32) (f_t_v : Nat → Int32) (x1 : Int32) (x2 : Int32) (Q : Int32 → Int32 → Prop) : Prop :=
  (vp_in 3 206 ∧ wX9_in x1.toInt64 0 (((f_t_v (3 : Int32).toNatClampNeg) - 1).toInt64) (fun r_17 => ((r_17 = 0 → wX9_operand_52 Q) ∧ (¬ r_17 = 0 → wX9_in x2.toInt64 0 1 (fun r_27 => ((r_27 = 0 → wX9_operand_52 Q) ∧ (¬ r_27 = 0 → (vp_in (((5 + (5 * x1)) + 2) + (2 * x2)) 206 ∧ Q (f_t_v (((5 + (5 * x1)) + 2) + (2 * x2)).toNatClampNeg) 0))))))))
set_option maxHeartbeats 4000000 in
set_option maxRecDepth 100000 in
theorem mX9_operand (l : Launch) (D : va_G) (ca : Nat → ClassId) (a_t a_t_v a_t_past a_t_costs a_t_into a_t_isNeeded a_t_depths a_t_names a_t_out a_t_has : Nat) (sz : Nat) (t_edits : Int32) (t_thrown : Int32) (t_outs : Int32) (f_t_v : Nat → Int32) (x1 : Int32) (x2 : Int32) (Q : Int32 → Int32 → Prop) (h : wX9_operand t_thrown f_t_v x1 x2 Q) : Met l yX9_operand (Cond.code yX9_operand cX9_operand 3 (some .int) :: wsG) ({ frames := 1, cells := 0, slots := 0, locals := 25 } : Room) (va_Pc [.ref a_t, .int x1, .int x2] (wPre D ca [(a_t, .inr (7, [.ref a_t_v, .ref a_t_past, .ref a_t_costs, .int t_edits, .int t_thrown, .ref a_t_into, .ref a_t_isNeeded, .ref a_t_depths, .ref a_t_names, .ref a_t_out, .int t_outs, .ref a_t_has])), (a_t_v, .inl (ca 0, 206, .inl f_t_v))] sz)) (qX9_operand D ca a_t a_t_v a_t_past a_t_costs a_t_into a_t_isNeeded a_t_depths a_t_names a_t_out a_t_has t_edits t_outs f_t_v Q (va_A [(a_t, .inr (7, [.ref a_t_v, .ref a_t_past, .ref a_t_costs, .int t_edits, .int t_thrown, .ref a_t_into, .ref a_t_isNeeded, .ref a_t_depths, .ref a_t_names, .ref a_t_out, .int t_outs, .ref a_t_has])), (a_t_v, .inl (ca 0, 206, .inl f_t_v))] sz)) 0 0 (va_A [(a_t, .inr (7, [.ref a_t_v, .ref a_t_past, .ref a_t_costs, .int t_edits, .int t_thrown, .ref a_t_into, .ref a_t_isNeeded, .ref a_t_depths, .ref a_t_names, .ref a_t_out, .int t_outs, .ref a_t_has])), (a_t_v, .inl (ca 0, 206, .inl f_t_v))] sz) := by
  refine Met.ofW (cc := cX9_operand) (maxL := 3) (ret := (some .int)) (by decide) rfl ?_
  intro p e s m args below meth c s₁ B hml hv
  obtain ⟨rfl, hsz, hP, hK, hD0⟩ := hv
  have hx := B.exec
  have hb := B.bytes
  have hr := B.returns
  have hts := atoms_spec (ws := (Cond.code yX9_operand cX9_operand 3 (some .int) :: wsG)) B.pre
  have hq : ∀ w ∈ wsG, w.before _ s = true := fun w hw => hts w (List.mem_cons_of_mem _ hw)
  have hown : s.vm.findClass RX9 = some m.cls := findClass_of_methodNamed B.named
  have hlocks := B.notSynchronized
  subst hsz
  have hD := hD0.self (sz := s.heap.size)
  generalize hAe : va_A [(a_t, .inr (7, [.ref a_t_v, .ref a_t_past, .ref a_t_costs, .int t_edits, .int t_thrown, .ref a_t_into, .ref a_t_isNeeded, .ref a_t_depths, .ref a_t_names, .ref a_t_out, .int t_outs, .ref a_t_has])), (a_t_v, .inl (ca 0, 206, .inl f_t_v))] s.heap.size = A at hD ⊢
  have hA : ∀ q : Nat, s.heap.size ≤ q → A q := fun q h => by rw [← hAe]; exact Or.inr h
  have hS : va_S A s.heap s.heap [] := va_S.rf
  have hP : va_P D vwCl [(a_t, .inr (7, [.ref a_t_v, .ref a_t_past, .ref a_t_costs, .int t_edits, .int t_thrown, .ref a_t_into, .ref a_t_isNeeded, .ref a_t_depths, .ref a_t_names, .ref a_t_out, .int t_outs, .ref a_t_has])), (a_t_v, .inl (ca 0, 206, .inl f_t_v))] s.heap := hP
  have hl := lv_entry ([.ref a_t, .int x1, .int x2]) (n := 3) (Nat.le_of_ble_eq_true rfl)
  rw [lg_entry_eq]
  generalize (lg_sl ([.ref a_t, .int x1, .int x2]) ++ List.replicate (3 - (lg_sl ([.ref a_t, .int x1, .int x2])).length) Slot.unset).toArray = ls at hl ⊢
  have hl : lv_has ls 3 [(0, .ref a_t), (1, .int x1), (2, .int x2)] := hl
  unfold wX9_operand at h
  refine lv_aload_n hx hb dX9_operand_0 rfl (lv_at hl 0 rfl) ?_
  refine lv_iconst (v := 0) hx hb dX9_operand_1 (by decide) ?_
  refine va_put (D := D) (ci := 7) (v := .int 0) (ty := .int) (C := RX9) (T := TX9) (N := 12) hx hb hq inX9g tyX9 tyX9_ok nmX9 hown hK hP hD hS 0 rfl rfl 4 (by decide) (hq _ q_885) (fun _ h9 => h9) rfl (by decide +kernel) rfl rfl (Nat.le_of_ble_eq_true rfl) dX9_operand_2 (fun H locs hP hD hS => ?_)
  have hP : va_P D vwCl [(a_t, .inr (7, [.ref a_t_v, .ref a_t_past, .ref a_t_costs, .int t_edits, .int 0, .ref a_t_into, .ref a_t_isNeeded, .ref a_t_depths, .ref a_t_names, .ref a_t_out, .int t_outs, .ref a_t_has])), (a_t_v, .inl (ca 0, 206, .inl f_t_v))] H := hP
  have hD : va_D A [(a_t, .inr (7, [.ref a_t_v, .ref a_t_past, .ref a_t_costs, .int t_edits, .int 0, .ref a_t_into, .ref a_t_isNeeded, .ref a_t_depths, .ref a_t_names, .ref a_t_out, .int t_outs, .ref a_t_has])), (a_t_v, .inl (ca 0, 206, .inl f_t_v))] := hD
  refine lv_iload_n hx hb dX9_operand_5 rfl (lv_at hl 1 rfl) ?_
  refine lv_i2l hx hb dX9_operand_6 rfl ?_
  refine lv_lconst (v := 0) hx hb dX9_operand_7 (by decide) ?_
  refine lv_aload_n hx hb dX9_operand_8 rfl (lv_at hl 0 rfl) ?_
  refine va_get (D := D) (ci := 7) (v := .ref a_t_v) (C := RX9) (T := TX9) (N := 12) hx hb hq inX9g hown hK hP 0 rfl rfl 0 (by decide) (hq _ q_881) (fun _ h9 => h9) rfl dX9_operand_9 ?_
  refine lv_iconst (v := 3) hx hb dX9_operand_12 (by decide) ?_
  obtain ⟨hi9, h⟩ := h
  refine va_iald hx hb hK hP 1 0 rfl rfl hi9 dX9_operand_13 ?_
  refine lv_iconst (v := 1) hx hb dX9_operand_14 (by decide) ?_
  refine lv_isub hx hb dX9_operand_15 ?_
  refine lv_i2l hx hb dX9_operand_16 rfl ?_
  refine cPi (As := [.long x1.toInt64, .long 0, .long (((f_t_v (3 : Int32).toNatClampNeg) - 1).toInt64)]) (rest := []) ⟨hx, hb, hml, hown, hts⟩ (mX9_in l x1.toInt64 0 (((f_t_v (3 : Int32).toNatClampNeg) - 1).toInt64) _ h) (va_cwS 3 hts (gS q_930 q_931 q_8 q_932) rfl rfl rfl (by decide +kernel) ⟨Nat.le_of_ble_eq_true rfl, Nat.le_of_ble_eq_true rfl⟩) hS rfl hl.1 rfl (Nat.le_of_ble_eq_true rfl) dX9_operand_17 ⟨Nat.le_of_ble_eq_true rfl, Nat.le_of_ble_eq_true rfl⟩ (fun r_17 H1 locs h hk1 hS => ?_)
  have hP := s_back hP hk1
  try dsimp only at h
  have hJ52 : ∀ (H : Heap) (locs : List Loc) (ls : Array Slot), va_P D vwCl [(a_t, .inr (7, [.ref a_t_v, .ref a_t_past, .ref a_t_costs, .int t_edits, .int 0, .ref a_t_into, .ref a_t_isNeeded, .ref a_t_depths, .ref a_t_names, .ref a_t_out, .int t_outs, .ref a_t_has])), (a_t_v, .inl (ca 0, 206, .inl f_t_v))] H → va_D A [(a_t, .inr (7, [.ref a_t_v, .ref a_t_past, .ref a_t_costs, .int t_edits, .int 0, .ref a_t_into, .ref a_t_isNeeded, .ref a_t_depths, .ref a_t_names, .ref a_t_out, .int t_outs, .ref a_t_has])), (a_t_v, .inl (ca 0, 206, .inl f_t_v))] → va_S A s.heap H locs → lv_has ls 3 [(0, .ref a_t)] → wX9_operand_52 Q → W p l e (headSpec (Cond.code yX9_operand cX9_operand 3 (some .int) :: wsG) ({ frames := 1, cells := 0, slots := 0, locals := 25 } : Room)).room s m ([.ref a_t, .int x1, .int x2] : List Value).toArray below meth c H locs 0 0 (MQ below (qX9_operand D ca a_t a_t_v a_t_past a_t_costs a_t_into a_t_isNeeded a_t_depths a_t_names a_t_out a_t_has t_edits t_outs f_t_v Q A) ([.ref a_t, .int x1, .int x2] : List Value).toArray s 0 0 A) (F0 m 52 ls []) := by
    intro  H locs ls hP hD hS hl h
    unfold wX9_operand_52 at h
    refine lv_aload_n hx hb dX9_operand_52 rfl (lv_at hl 0 rfl) ?_
    refine lv_iconst (v := 1) hx hb dX9_operand_53 (by decide) ?_
    refine cVi (As := [.int 1]) (rest := []) (wc := [(a_t, .inr (7, [.ref a_t_v, .ref a_t_past, .ref a_t_costs, .int t_edits, .int 0, .ref a_t_into, .ref a_t_isNeeded, .ref a_t_depths, .ref a_t_names, .ref a_t_out, .int t_outs, .ref a_t_has]))]) (wr := [(a_t_v, .inl (ca 0, 206, .inl f_t_v))]) (w1 := fun u : Int32 => [(a_t, .inr (7, [.ref a_t_v, .ref a_t_past, .ref a_t_costs, .int t_edits, .int u, .ref a_t_into, .ref a_t_isNeeded, .ref a_t_depths, .ref a_t_names, .ref a_t_out, .int t_outs, .ref a_t_has]))]) (ws2 := fun u : Int32 => [(a_t, .inr (7, [.ref a_t_v, .ref a_t_past, .ref a_t_costs, .int t_edits, .int u, .ref a_t_into, .ref a_t_isNeeded, .ref a_t_depths, .ref a_t_names, .ref a_t_out, .int t_outs, .ref a_t_has])), (a_t_v, .inl (ca 0, 206, .inl f_t_v))]) ⟨hx, hb, hml, hown, hts⟩ (mX9_fails l D ca a_t a_t_v a_t_past a_t_costs a_t_into a_t_isNeeded a_t_depths a_t_names a_t_out a_t_has _ t_edits 0 t_outs 1 _ h) (cwV 1 hts (gV q_933 q_935 qs_33 q_8 q_936) rfl rfl rfl (by decide +kernel) ⟨Nat.le_of_ble_eq_true rfl, Nat.le_of_ble_eq_true rfl⟩) hK hP hD hS hA [0] [1] [1, 0] rfl rfl rfl (by decide) (fun _ => rfl) (ci := 7) (q0 := 0) rfl rfl rfl hl.1 rfl (Nat.le_of_ble_eq_true rfl) dX9_operand_54 ⟨Nat.le_of_ble_eq_true rfl, Nat.le_of_ble_eq_true rfl⟩ (fun r_54 u9 H locs h hP hD hS => ?_)
    obtain ⟨t_thrown_54, rfl⟩ : ∃ z, z = u9 := ⟨_, rfl⟩
    have hP : va_P D vwCl [(a_t, .inr (7, [.ref a_t_v, .ref a_t_past, .ref a_t_costs, .int t_edits, .int t_thrown_54, .ref a_t_into, .ref a_t_isNeeded, .ref a_t_depths, .ref a_t_names, .ref a_t_out, .int t_outs, .ref a_t_has])), (a_t_v, .inl (ca 0, 206, .inl f_t_v))] H := hP
    have hD : va_D A [(a_t, .inr (7, [.ref a_t_v, .ref a_t_past, .ref a_t_costs, .int t_edits, .int t_thrown_54, .ref a_t_into, .ref a_t_isNeeded, .ref a_t_depths, .ref a_t_names, .ref a_t_out, .int t_outs, .ref a_t_has])), (a_t_v, .inl (ca 0, 206, .inl f_t_v))] := hD
    try dsimp only at h
    exact W.iret (v := r_54) hx hb hr (fun t ht hW => ⟨⟨r_54, t_thrown_54, rfl, h, by rw [ht]; exact hP, va_K.moved hW.alike hK, hD⟩, hS.F ht⟩) hS.2.2 dX9_operand_57
  refine lv_if_eq (tgt := 52) hx hb dX9_operand_20 (by decide) (fun c9 => ?_) (fun c9 => ?_)
  · have h := h.1 c9
    exact hJ52 _ _ _ hP hD hS (lv_sub hl [0] rfl) h
  · have h := h.2 c9
    refine lv_iload_n hx hb dX9_operand_23 rfl (lv_at hl 2 rfl) ?_
    refine lv_i2l hx hb dX9_operand_24 rfl ?_
    refine lv_lconst (v := 0) hx hb dX9_operand_25 (by decide) ?_
    refine lv_lconst (v := 1) hx hb dX9_operand_26 (by decide) ?_
    refine cPi (As := [.long x2.toInt64, .long 0, .long 1]) (rest := []) ⟨hx, hb, hml, hown, hts⟩ (mX9_in l x2.toInt64 0 1 _ h) (va_cwS 3 hts (gS q_930 q_931 q_8 q_932) rfl rfl rfl (by decide +kernel) ⟨Nat.le_of_ble_eq_true rfl, Nat.le_of_ble_eq_true rfl⟩) hS rfl hl.1 rfl (Nat.le_of_ble_eq_true rfl) dX9_operand_27 ⟨Nat.le_of_ble_eq_true rfl, Nat.le_of_ble_eq_true rfl⟩ (fun r_27 H1 locs h hk1 hS => ?_)
    have hP := s_back hP hk1
    try dsimp only at h
    refine lv_if_eq (tgt := 52) hx hb dX9_operand_30 (by decide) (fun c9 => ?_) (fun c9 => ?_)
    · have h := h.1 c9
      exact hJ52 _ _ _ hP hD hS (lv_sub hl [0] rfl) h
    · have h := h.2 c9
      refine lv_aload_n hx hb dX9_operand_33 rfl (lv_at hl 0 rfl) ?_
      refine va_get (D := D) (ci := 7) (v := .ref a_t_v) (C := RX9) (T := TX9) (N := 12) hx hb hq inX9g hown hK hP 0 rfl rfl 0 (by decide) (hq _ q_881) (fun _ h9 => h9) rfl dX9_operand_34 ?_
      refine lv_iconst (v := 5) hx hb dX9_operand_37 (by decide) ?_
      refine lv_iconst (v := 5) hx hb dX9_operand_38 (by decide) ?_
      refine lv_iload_n hx hb dX9_operand_39 rfl (lv_at hl 1 rfl) ?_
      refine lv_imul hx hb dX9_operand_40 ?_
      refine lv_iadd hx hb dX9_operand_41 ?_
      refine lv_iconst (v := 2) hx hb dX9_operand_42 (by decide) ?_
      refine lv_iadd hx hb dX9_operand_43 ?_
      refine lv_iconst (v := 2) hx hb dX9_operand_44 (by decide) ?_
      refine lv_iload_n hx hb dX9_operand_45 rfl (lv_at hl 2 rfl) ?_
      refine lv_imul hx hb dX9_operand_46 ?_
      refine lv_iadd hx hb dX9_operand_47 ?_
      obtain ⟨hi9, h⟩ := h
      refine va_iald hx hb hK hP 1 0 rfl rfl hi9 dX9_operand_48 ?_
      refine lv_goto (tgt := 57) hx hb dX9_operand_49 (by decide) ?_
      exact W.iret (v := f_t_v (((5 + (5 * x1)) + 2) + (2 * x2)).toNatClampNeg) hx hb hr (fun t ht hW => ⟨⟨f_t_v (((5 + (5 * x1)) + 2) + (2 * x2)).toNatClampNeg, 0, rfl, h, by rw [ht]; exact hP, va_K.moved hW.alike hK, hD⟩, hS.F ht⟩) hS.2.2 dX9_operand_57

abbrev qX9_isConstant (D : va_G) (ca : Nat → ClassId) (a_t a_t_v a_t_past a_t_costs a_t_into a_t_isNeeded a_t_depths a_t_names a_t_out a_t_has : Nat) (t_edits : Int32) (t_outs : Int32) (f_t_v : Nat → Int32) (Q : Int32 → Int32 → Prop) (A : Nat → Prop) : Array Value → State → Outcome → State → Prop := va_Qi (fun (r : Int32) (u : Int32) => Q r u) (wEnd D ca (fun u : Int32 => [(a_t, .inr (7, [.ref a_t_v, .ref a_t_past, .ref a_t_costs, .int t_edits, .int u, .ref a_t_into, .ref a_t_isNeeded, .ref a_t_depths, .ref a_t_names, .ref a_t_out, .int t_outs, .ref a_t_has])), (a_t_v, .inl (ca 0, 206, .inl f_t_v))]) A) A
def wX9_isConstant_34 (f_t_v : Nat → Int32) (x1 : Int32) (x2 : Int32) (Q : Int32 → Int32 → Prop) (y1_34 : Int32) : Prop :=
  ((y1_34 = 0 → (vp_in (((5 + (5 * x1)) + 1) + (2 * x2)) 206 ∧ (((f_t_v (((5 + (5 * x1)) + 1) + (2 * x2)).toNatClampNeg) = 1 → Q 1 y1_34) ∧ (¬ (f_t_v (((5 + (5 * x1)) + 1) + (2 * x2)).toNatClampNeg) = 1 → Q 0 y1_34)))) ∧ (¬ y1_34 = 0 → Q 0 y1_34))
def wX9_isConstant_33 (f_t_v : Nat → Int32) (x1 : Int32) (x2 : Int32) (Q : Int32 → Int32 → Prop) : Prop :=
  wX9_isConstant_34 f_t_v x1 x2 Q 1
def wX9_isConstant (t_thrown : Int32) (f_t_v : Nat → Int32) (x1 : Int32) (x2 : Int32) (Q : Int32 → Int32 → Prop) : Prop :=
  (vp_in 3 206 ∧ wX9_in x1.toInt64 0 (((f_t_v (3 : Int32).toNatClampNeg) - 1).toInt64) (fun r_13 => ((r_13 = 0 → wX9_isConstant_33 f_t_v x1 x2 Q) ∧ (¬ r_13 = 0 → wX9_in x2.toInt64 0 1 (fun r_23 => ((r_23 = 0 → wX9_isConstant_33 f_t_v x1 x2 Q) ∧ (¬ r_23 = 0 → wX9_isConstant_34 f_t_v x1 x2 Q 0)))))))
set_option maxHeartbeats 4000000 in
set_option maxRecDepth 100000 in
theorem mX9_isConstant (l : Launch) (D : va_G) (ca : Nat → ClassId) (a_t a_t_v a_t_past a_t_costs a_t_into a_t_isNeeded a_t_depths a_t_names a_t_out a_t_has : Nat) (sz : Nat) (t_edits : Int32) (t_thrown : Int32) (t_outs : Int32) (f_t_v : Nat → Int32) (x1 : Int32) (x2 : Int32) (Q : Int32 → Int32 → Prop) (h : wX9_isConstant t_thrown f_t_v x1 x2 Q) : Met l yX9_isConstant (Cond.code yX9_isConstant cX9_isConstant 3 (some .boolean) :: wsG) ({ frames := 1, cells := 0, slots := 0, locals := 25 } : Room) (va_Pc [.ref a_t, .int x1, .int x2] (wPre D ca [(a_t, .inr (7, [.ref a_t_v, .ref a_t_past, .ref a_t_costs, .int t_edits, .int t_thrown, .ref a_t_into, .ref a_t_isNeeded, .ref a_t_depths, .ref a_t_names, .ref a_t_out, .int t_outs, .ref a_t_has])), (a_t_v, .inl (ca 0, 206, .inl f_t_v))] sz)) (qX9_isConstant D ca a_t a_t_v a_t_past a_t_costs a_t_into a_t_isNeeded a_t_depths a_t_names a_t_out a_t_has t_edits t_outs f_t_v Q (va_A [(a_t, .inr (7, [.ref a_t_v, .ref a_t_past, .ref a_t_costs, .int t_edits, .int t_thrown, .ref a_t_into, .ref a_t_isNeeded, .ref a_t_depths, .ref a_t_names, .ref a_t_out, .int t_outs, .ref a_t_has])), (a_t_v, .inl (ca 0, 206, .inl f_t_v))] sz)) 0 0 (va_A [(a_t, .inr (7, [.ref a_t_v, .ref a_t_past, .ref a_t_costs, .int t_edits, .int t_thrown, .ref a_t_into, .ref a_t_isNeeded, .ref a_t_depths, .ref a_t_names, .ref a_t_out, .int t_outs, .ref a_t_has])), (a_t_v, .inl (ca 0, 206, .inl f_t_v))] sz) := by
  refine Met.ofW (cc := cX9_isConstant) (maxL := 3) (ret := (some .boolean)) (by decide) rfl ?_
  intro p e s m args below meth c s₁ B hml hv
  obtain ⟨rfl, hsz, hP, hK, hD0⟩ := hv
  have hx := B.exec
  have hb := B.bytes
  have hr := B.returns
  have hts := atoms_spec (ws := (Cond.code yX9_isConstant cX9_isConstant 3 (some .boolean) :: wsG)) B.pre
  have hq : ∀ w ∈ wsG, w.before _ s = true := fun w hw => hts w (List.mem_cons_of_mem _ hw)
  have hown : s.vm.findClass RX9 = some m.cls := findClass_of_methodNamed B.named
  have hlocks := B.notSynchronized
  subst hsz
  have hD := hD0.self (sz := s.heap.size)
  generalize hAe : va_A [(a_t, .inr (7, [.ref a_t_v, .ref a_t_past, .ref a_t_costs, .int t_edits, .int t_thrown, .ref a_t_into, .ref a_t_isNeeded, .ref a_t_depths, .ref a_t_names, .ref a_t_out, .int t_outs, .ref a_t_has])), (a_t_v, .inl (ca 0, 206, .inl f_t_v))] s.heap.size = A at hD ⊢
  have hA : ∀ q : Nat, s.heap.size ≤ q → A q := fun q h => by rw [← hAe]; exact Or.inr h
  have hS : va_S A s.heap s.heap [] := va_S.rf
  have hP : va_P D vwCl [(a_t, .inr (7, [.ref a_t_v, .ref a_t_past, .ref a_t_costs, .int t_edits, .int t_thrown, .ref a_t_into, .ref a_t_isNeeded, .ref a_t_depths, .ref a_t_names, .ref a_t_out, .int t_outs, .ref a_t_has])), (a_t_v, .inl (ca 0, 206, .inl f_t_v))] s.heap := hP
  have hl := lv_entry ([.ref a_t, .int x1, .int x2]) (n := 3) (Nat.le_of_ble_eq_true rfl)
  rw [lg_entry_eq]
  generalize (lg_sl ([.ref a_t, .int x1, .int x2]) ++ List.replicate (3 - (lg_sl ([.ref a_t, .int x1, .int x2])).length) Slot.unset).toArray = ls at hl ⊢
  have hl : lv_has ls 3 [(0, .ref a_t), (1, .int x1), (2, .int x2)] := hl
  unfold wX9_isConstant at h
  refine lv_aload_n hx hb dX9_isConstant_0 rfl (lv_at hl 0 rfl) ?_
  refine lv_iload_n hx hb dX9_isConstant_1 rfl (lv_at hl 1 rfl) ?_
  refine lv_i2l hx hb dX9_isConstant_2 rfl ?_
  refine lv_lconst (v := 0) hx hb dX9_isConstant_3 (by decide) ?_
  refine lv_aload_n hx hb dX9_isConstant_4 rfl (lv_at hl 0 rfl) ?_
  refine va_get (D := D) (ci := 7) (v := .ref a_t_v) (C := RX9) (T := TX9) (N := 12) hx hb hq inX9g hown hK hP 0 rfl rfl 0 (by decide) (hq _ q_881) (fun _ h9 => h9) rfl dX9_isConstant_5 ?_
  refine lv_iconst (v := 3) hx hb dX9_isConstant_8 (by decide) ?_
  obtain ⟨hi9, h⟩ := h
  refine va_iald hx hb hK hP 1 0 rfl rfl hi9 dX9_isConstant_9 ?_
  refine lv_iconst (v := 1) hx hb dX9_isConstant_10 (by decide) ?_
  refine lv_isub hx hb dX9_isConstant_11 ?_
  refine lv_i2l hx hb dX9_isConstant_12 rfl ?_
  refine cPi (As := [.long x1.toInt64, .long 0, .long (((f_t_v (3 : Int32).toNatClampNeg) - 1).toInt64)]) (rest := [.ref a_t]) ⟨hx, hb, hml, hown, hts⟩ (mX9_in l x1.toInt64 0 (((f_t_v (3 : Int32).toNatClampNeg) - 1).toInt64) _ h) (va_cwS 3 hts (gS q_930 q_931 q_8 q_932) rfl rfl rfl (by decide +kernel) ⟨Nat.le_of_ble_eq_true rfl, Nat.le_of_ble_eq_true rfl⟩) hS rfl hl.1 rfl (Nat.le_of_ble_eq_true rfl) dX9_isConstant_13 ⟨Nat.le_of_ble_eq_true rfl, Nat.le_of_ble_eq_true rfl⟩ (fun r_13 H1 locs h hk1 hS => ?_)
  have hP := s_back hP hk1
  try dsimp only at h
  have hJ34 : ∀ (y1_34 : Int32) (H : Heap) (locs : List Loc) (ls : Array Slot), va_P D vwCl [(a_t, .inr (7, [.ref a_t_v, .ref a_t_past, .ref a_t_costs, .int t_edits, .int t_thrown, .ref a_t_into, .ref a_t_isNeeded, .ref a_t_depths, .ref a_t_names, .ref a_t_out, .int t_outs, .ref a_t_has])), (a_t_v, .inl (ca 0, 206, .inl f_t_v))] H → va_D A [(a_t, .inr (7, [.ref a_t_v, .ref a_t_past, .ref a_t_costs, .int t_edits, .int t_thrown, .ref a_t_into, .ref a_t_isNeeded, .ref a_t_depths, .ref a_t_names, .ref a_t_out, .int t_outs, .ref a_t_has])), (a_t_v, .inl (ca 0, 206, .inl f_t_v))] → va_S A s.heap H locs → lv_has ls 3 [(0, .ref a_t), (1, .int x1), (2, .int x2)] → wX9_isConstant_34 f_t_v x1 x2 Q y1_34 → W p l e (headSpec (Cond.code yX9_isConstant cX9_isConstant 3 (some .boolean) :: wsG) ({ frames := 1, cells := 0, slots := 0, locals := 25 } : Room)).room s m ([.ref a_t, .int x1, .int x2] : List Value).toArray below meth c H locs 0 0 (MQ below (qX9_isConstant D ca a_t a_t_v a_t_past a_t_costs a_t_into a_t_isNeeded a_t_depths a_t_names a_t_out a_t_has t_edits t_outs f_t_v Q A) ([.ref a_t, .int x1, .int x2] : List Value).toArray s 0 0 A) (F0 m 34 ls [.int y1_34, .ref a_t]) := by
    intro y1_34 H locs ls hP hD hS hl h
    unfold wX9_isConstant_34 at h
    refine va_put (D := D) (ci := 7) (v := .int y1_34) (ty := .int) (C := RX9) (T := TX9) (N := 12) hx hb hq inX9g tyX9 tyX9_ok nmX9 hown hK hP hD hS 0 rfl rfl 4 (by decide) (hq _ q_885) (fun _ h9 => h9) rfl (by decide +kernel) rfl rfl (Nat.le_of_ble_eq_true rfl) dX9_isConstant_34 (fun H locs hP hD hS => ?_)
    have hP : va_P D vwCl [(a_t, .inr (7, [.ref a_t_v, .ref a_t_past, .ref a_t_costs, .int t_edits, .int y1_34, .ref a_t_into, .ref a_t_isNeeded, .ref a_t_depths, .ref a_t_names, .ref a_t_out, .int t_outs, .ref a_t_has])), (a_t_v, .inl (ca 0, 206, .inl f_t_v))] H := hP
    have hD : va_D A [(a_t, .inr (7, [.ref a_t_v, .ref a_t_past, .ref a_t_costs, .int t_edits, .int y1_34, .ref a_t_into, .ref a_t_isNeeded, .ref a_t_depths, .ref a_t_names, .ref a_t_out, .int t_outs, .ref a_t_has])), (a_t_v, .inl (ca 0, 206, .inl f_t_v))] := hD
    refine lv_aload_n hx hb dX9_isConstant_37 rfl (lv_at hl 0 rfl) ?_
    refine va_get (D := D) (ci := 7) (v := .int y1_34) (C := RX9) (T := TX9) (N := 12) hx hb hq inX9g hown hK hP 0 rfl rfl 4 (by decide) (hq _ q_885) (fun _ h9 => h9) rfl dX9_isConstant_38 ?_
    refine lv_if_ne (tgt := 68) hx hb dX9_isConstant_41 (by decide) (fun c9 => ?_) (fun c9 => ?_)
    · have h := h.2 c9
      refine lv_iconst (v := 0) hx hb dX9_isConstant_68 (by decide) ?_
      exact W.zret (v := 0) hx hb hr rfl (fun t ht hW => ⟨⟨0, y1_34, rfl, h, by rw [ht]; exact hP, va_K.moved hW.alike hK, hD⟩, hS.F ht⟩) hS.2.2 dX9_isConstant_69
    · have h := h.1 c9
      refine lv_aload_n hx hb dX9_isConstant_44 rfl (lv_at hl 0 rfl) ?_
      refine va_get (D := D) (ci := 7) (v := .ref a_t_v) (C := RX9) (T := TX9) (N := 12) hx hb hq inX9g hown hK hP 0 rfl rfl 0 (by decide) (hq _ q_881) (fun _ h9 => h9) rfl dX9_isConstant_45 ?_
      refine lv_iconst (v := 5) hx hb dX9_isConstant_48 (by decide) ?_
      refine lv_iconst (v := 5) hx hb dX9_isConstant_49 (by decide) ?_
      refine lv_iload_n hx hb dX9_isConstant_50 rfl (lv_at hl 1 rfl) ?_
      refine lv_imul hx hb dX9_isConstant_51 ?_
      refine lv_iadd hx hb dX9_isConstant_52 ?_
      refine lv_iconst (v := 1) hx hb dX9_isConstant_53 (by decide) ?_
      refine lv_iadd hx hb dX9_isConstant_54 ?_
      refine lv_iconst (v := 2) hx hb dX9_isConstant_55 (by decide) ?_
      refine lv_iload_n hx hb dX9_isConstant_56 rfl (lv_at hl 2 rfl) ?_
      refine lv_imul hx hb dX9_isConstant_57 ?_
      refine lv_iadd hx hb dX9_isConstant_58 ?_
      obtain ⟨hi9, h⟩ := h
      refine va_iald hx hb hK hP 1 0 rfl rfl hi9 dX9_isConstant_59 ?_
      refine lv_iconst (v := 1) hx hb dX9_isConstant_60 (by decide) ?_
      refine lv_icmp_ne (tgt := 68) hx hb dX9_isConstant_61 (by decide) (fun c9 => ?_) (fun c9 => ?_)
      · have h := h.2 c9
        refine lv_iconst (v := 0) hx hb dX9_isConstant_68 (by decide) ?_
        exact W.zret (v := 0) hx hb hr rfl (fun t ht hW => ⟨⟨0, y1_34, rfl, h, by rw [ht]; exact hP, va_K.moved hW.alike hK, hD⟩, hS.F ht⟩) hS.2.2 dX9_isConstant_69
      · have h := h.1 c9
        refine lv_iconst (v := 1) hx hb dX9_isConstant_64 (by decide) ?_
        refine lv_goto (tgt := 69) hx hb dX9_isConstant_65 (by decide) ?_
        exact W.zret (v := 1) hx hb hr rfl (fun t ht hW => ⟨⟨1, y1_34, rfl, h, by rw [ht]; exact hP, va_K.moved hW.alike hK, hD⟩, hS.F ht⟩) hS.2.2 dX9_isConstant_69
  have hJ33 : ∀ (H : Heap) (locs : List Loc) (ls : Array Slot), va_P D vwCl [(a_t, .inr (7, [.ref a_t_v, .ref a_t_past, .ref a_t_costs, .int t_edits, .int t_thrown, .ref a_t_into, .ref a_t_isNeeded, .ref a_t_depths, .ref a_t_names, .ref a_t_out, .int t_outs, .ref a_t_has])), (a_t_v, .inl (ca 0, 206, .inl f_t_v))] H → va_D A [(a_t, .inr (7, [.ref a_t_v, .ref a_t_past, .ref a_t_costs, .int t_edits, .int t_thrown, .ref a_t_into, .ref a_t_isNeeded, .ref a_t_depths, .ref a_t_names, .ref a_t_out, .int t_outs, .ref a_t_has])), (a_t_v, .inl (ca 0, 206, .inl f_t_v))] → va_S A s.heap H locs → lv_has ls 3 [(0, .ref a_t), (1, .int x1), (2, .int x2)] → wX9_isConstant_33 f_t_v x1 x2 Q → W p l e (headSpec (Cond.code yX9_isConstant cX9_isConstant 3 (some .boolean) :: wsG) ({ frames := 1, cells := 0, slots := 0, locals := 25 } : Room)).room s m ([.ref a_t, .int x1, .int x2] : List Value).toArray below meth c H locs 0 0 (MQ below (qX9_isConstant D ca a_t a_t_v a_t_past a_t_costs a_t_into a_t_isNeeded a_t_depths a_t_names a_t_out a_t_has t_edits t_outs f_t_v Q A) ([.ref a_t, .int x1, .int x2] : List Value).toArray s 0 0 A) (F0 m 33 ls [.ref a_t]) := by
    intro  H locs ls hP hD hS hl h
    unfold wX9_isConstant_33 at h
    refine lv_iconst (v := 1) hx hb dX9_isConstant_33 (by decide) ?_
    exact hJ34 1 _ _ _ hP hD hS (lv_sub hl [0, 1, 2] rfl) h
  refine lv_if_eq (tgt := 33) hx hb dX9_isConstant_16 (by decide) (fun c9 => ?_) (fun c9 => ?_)
  · have h := h.1 c9
    exact hJ33 _ _ _ hP hD hS (lv_sub hl [0, 1, 2] rfl) h
  · have h := h.2 c9
    refine lv_iload_n hx hb dX9_isConstant_19 rfl (lv_at hl 2 rfl) ?_
    refine lv_i2l hx hb dX9_isConstant_20 rfl ?_
    refine lv_lconst (v := 0) hx hb dX9_isConstant_21 (by decide) ?_
    refine lv_lconst (v := 1) hx hb dX9_isConstant_22 (by decide) ?_
    refine cPi (As := [.long x2.toInt64, .long 0, .long 1]) (rest := [.ref a_t]) ⟨hx, hb, hml, hown, hts⟩ (mX9_in l x2.toInt64 0 1 _ h) (va_cwS 3 hts (gS q_930 q_931 q_8 q_932) rfl rfl rfl (by decide +kernel) ⟨Nat.le_of_ble_eq_true rfl, Nat.le_of_ble_eq_true rfl⟩) hS rfl hl.1 rfl (Nat.le_of_ble_eq_true rfl) dX9_isConstant_23 ⟨Nat.le_of_ble_eq_true rfl, Nat.le_of_ble_eq_true rfl⟩ (fun r_23 H1 locs h hk1 hS => ?_)
    have hP := s_back hP hk1
    try dsimp only at h
    refine lv_if_eq (tgt := 33) hx hb dX9_isConstant_26 (by decide) (fun c9 => ?_) (fun c9 => ?_)
    · have h := h.1 c9
      exact hJ33 _ _ _ hP hD hS (lv_sub hl [0, 1, 2] rfl) h
    · have h := h.2 c9
      refine lv_iconst (v := 0) hx hb dX9_isConstant_29 (by decide) ?_
      refine lv_goto (tgt := 34) hx hb dX9_isConstant_30 (by decide) ?_
      exact hJ34 0 _ _ _ hP hD hS (lv_sub hl [0, 1, 2] rfl) h

abbrev qX9_result (D : va_G) (ca : Nat → ClassId) (a_t a_t_v a_t_past a_t_costs a_t_into a_t_isNeeded a_t_depths a_t_names a_t_out a_t_has : Nat) (t_edits : Int32) (t_outs : Int32) (f_t_v : Nat → Int32) (Q : Int32 → Int32 → Prop) (A : Nat → Prop) : Array Value → State → Outcome → State → Prop := va_Qi (fun (r : Int32) (u : Int32) => Q r u) (wEnd D ca (fun u : Int32 => [(a_t, .inr (7, [.ref a_t_v, .ref a_t_past, .ref a_t_costs, .int t_edits, .int u, .ref a_t_into, .ref a_t_isNeeded, .ref a_t_depths, .ref a_t_names, .ref a_t_out, .int t_outs, .ref a_t_has])), (a_t_v, .inl (ca 0, 206, .inl f_t_v))]) A) A
def wX9_result (t_thrown : Int32) (f_t_v : Nat → Int32) (Q : Int32 → Int32 → Prop) : Prop :=
  (vp_in 4 206 ∧ Q (f_t_v (4 : Int32).toNatClampNeg) 0)
set_option maxHeartbeats 4000000 in
set_option maxRecDepth 100000 in
theorem mX9_result (l : Launch) (D : va_G) (ca : Nat → ClassId) (a_t a_t_v a_t_past a_t_costs a_t_into a_t_isNeeded a_t_depths a_t_names a_t_out a_t_has : Nat) (sz : Nat) (t_edits : Int32) (t_thrown : Int32) (t_outs : Int32) (f_t_v : Nat → Int32) (Q : Int32 → Int32 → Prop) (h : wX9_result t_thrown f_t_v Q) : Met l yX9_result (Cond.code yX9_result cX9_result 1 (some .int) :: wsG) ({ frames := 0, cells := 0, slots := 0, locals := 0 } : Room) (va_Pc [.ref a_t] (wPre D ca [(a_t, .inr (7, [.ref a_t_v, .ref a_t_past, .ref a_t_costs, .int t_edits, .int t_thrown, .ref a_t_into, .ref a_t_isNeeded, .ref a_t_depths, .ref a_t_names, .ref a_t_out, .int t_outs, .ref a_t_has])), (a_t_v, .inl (ca 0, 206, .inl f_t_v))] sz)) (qX9_result D ca a_t a_t_v a_t_past a_t_costs a_t_into a_t_isNeeded a_t_depths a_t_names a_t_out a_t_has t_edits t_outs f_t_v Q (va_A [(a_t, .inr (7, [.ref a_t_v, .ref a_t_past, .ref a_t_costs, .int t_edits, .int t_thrown, .ref a_t_into, .ref a_t_isNeeded, .ref a_t_depths, .ref a_t_names, .ref a_t_out, .int t_outs, .ref a_t_has])), (a_t_v, .inl (ca 0, 206, .inl f_t_v))] sz)) 0 0 (va_A [(a_t, .inr (7, [.ref a_t_v, .ref a_t_past, .ref a_t_costs, .int t_edits, .int t_thrown, .ref a_t_into, .ref a_t_isNeeded, .ref a_t_depths, .ref a_t_names, .ref a_t_out, .int t_outs, .ref a_t_has])), (a_t_v, .inl (ca 0, 206, .inl f_t_v))] sz) := by
  refine Met.ofW (cc := cX9_result) (maxL := 1) (ret := (some .int)) (by decide) rfl ?_
  intro p e s m args below meth c s₁ B hml hv
  obtain ⟨rfl, hsz, hP, hK, hD0⟩ := hv
  have hx := B.exec
  have hb := B.bytes
  have hr := B.returns
  have hts := atoms_spec (ws := (Cond.code yX9_result cX9_result 1 (some .int) :: wsG)) B.pre
  have hq : ∀ w ∈ wsG, w.before _ s = true := fun w hw => hts w (List.mem_cons_of_mem _ hw)
  have hown : s.vm.findClass RX9 = some m.cls := findClass_of_methodNamed B.named
  have hlocks := B.notSynchronized
  subst hsz
  have hD := hD0.self (sz := s.heap.size)
  generalize hAe : va_A [(a_t, .inr (7, [.ref a_t_v, .ref a_t_past, .ref a_t_costs, .int t_edits, .int t_thrown, .ref a_t_into, .ref a_t_isNeeded, .ref a_t_depths, .ref a_t_names, .ref a_t_out, .int t_outs, .ref a_t_has])), (a_t_v, .inl (ca 0, 206, .inl f_t_v))] s.heap.size = A at hD ⊢
  have hA : ∀ q : Nat, s.heap.size ≤ q → A q := fun q h => by rw [← hAe]; exact Or.inr h
  have hS : va_S A s.heap s.heap [] := va_S.rf
  have hP : va_P D vwCl [(a_t, .inr (7, [.ref a_t_v, .ref a_t_past, .ref a_t_costs, .int t_edits, .int t_thrown, .ref a_t_into, .ref a_t_isNeeded, .ref a_t_depths, .ref a_t_names, .ref a_t_out, .int t_outs, .ref a_t_has])), (a_t_v, .inl (ca 0, 206, .inl f_t_v))] s.heap := hP
  have hl := lv_entry ([.ref a_t]) (n := 1) (Nat.le_of_ble_eq_true rfl)
  rw [lg_entry_eq]
  generalize (lg_sl ([.ref a_t]) ++ List.replicate (1 - (lg_sl ([.ref a_t])).length) Slot.unset).toArray = ls at hl ⊢
  have hl : lv_has ls 1 [(0, .ref a_t)] := hl
  unfold wX9_result at h
  refine lv_aload_n hx hb dX9_result_0 rfl (lv_at hl 0 rfl) ?_
  refine lv_iconst (v := 0) hx hb dX9_result_1 (by decide) ?_
  refine va_put (D := D) (ci := 7) (v := .int 0) (ty := .int) (C := RX9) (T := TX9) (N := 12) hx hb hq inX9g tyX9 tyX9_ok nmX9 hown hK hP hD hS 0 rfl rfl 4 (by decide) (hq _ q_885) (fun _ h9 => h9) rfl (by decide +kernel) rfl rfl (Nat.le_of_ble_eq_true rfl) dX9_result_2 (fun H locs hP hD hS => ?_)
  have hP : va_P D vwCl [(a_t, .inr (7, [.ref a_t_v, .ref a_t_past, .ref a_t_costs, .int t_edits, .int 0, .ref a_t_into, .ref a_t_isNeeded, .ref a_t_depths, .ref a_t_names, .ref a_t_out, .int t_outs, .ref a_t_has])), (a_t_v, .inl (ca 0, 206, .inl f_t_v))] H := hP
  have hD : va_D A [(a_t, .inr (7, [.ref a_t_v, .ref a_t_past, .ref a_t_costs, .int t_edits, .int 0, .ref a_t_into, .ref a_t_isNeeded, .ref a_t_depths, .ref a_t_names, .ref a_t_out, .int t_outs, .ref a_t_has])), (a_t_v, .inl (ca 0, 206, .inl f_t_v))] := hD
  refine lv_aload_n hx hb dX9_result_5 rfl (lv_at hl 0 rfl) ?_
  refine va_get (D := D) (ci := 7) (v := .ref a_t_v) (C := RX9) (T := TX9) (N := 12) hx hb hq inX9g hown hK hP 0 rfl rfl 0 (by decide) (hq _ q_881) (fun _ h9 => h9) rfl dX9_result_6 ?_
  refine lv_iconst (v := 4) hx hb dX9_result_9 (by decide) ?_
  obtain ⟨hi9, h⟩ := h
  refine va_iald hx hb hK hP 1 0 rfl rfl hi9 dX9_result_10 ?_
  exact W.iret (v := f_t_v (4 : Int32).toNatClampNeg) hx hb hr (fun t ht hW => ⟨⟨f_t_v (4 : Int32).toNatClampNeg, 0, rfl, h, by rw [ht]; exact hP, va_K.moved hW.alike hK, hD⟩, hS.F ht⟩) hS.2.2 dX9_result_11

abbrev qX9_cost (D : va_G) (ca : Nat → ClassId) (a_t a_t_v a_t_past a_t_costs a_t_into a_t_isNeeded a_t_depths a_t_names a_t_out a_t_has : Nat) (t_edits : Int32) (t_outs : Int32) (f_t_v : Nat → Int32) (f_t_costs : Nat → Int32) (Q : Int32 → Int32 → Prop) (A : Nat → Prop) : Array Value → State → Outcome → State → Prop := va_Qi (fun (r : Int32) (u : Int32) => Q r u) (wEnd D ca (fun u : Int32 => [(a_t, .inr (7, [.ref a_t_v, .ref a_t_past, .ref a_t_costs, .int t_edits, .int u, .ref a_t_into, .ref a_t_isNeeded, .ref a_t_depths, .ref a_t_names, .ref a_t_out, .int t_outs, .ref a_t_has])), (a_t_v, .inl (ca 0, 206, .inl f_t_v)), (a_t_costs, .inl (ca 0, 3, .inl f_t_costs))]) A) A
def wX9_cost_72 (x1_9 : Int32) (x2_9 : Int32) (K9 : Int32 → Int32 → Prop) (y1_72 : Int32) : Prop :=
  (∀ x1_73 : Int32, x1_73 = x1_9 + y1_72 → (∀ x2_74 : Int32, x2_74 = x2_9 + 1 → K9 x1_73 x2_74))
def wX9_cost_57 (f_t_costs : Nat → Int32) (x1_9 : Int32) (x2_9 : Int32) (K9 : Int32 → Int32 → Prop) : Prop :=
  (vp_in 1 3 ∧ wX9_cost_72 x1_9 x2_9 K9 (f_t_costs (1 : Int32).toNatClampNeg))
def wX9_cost_9 (f_t_v : Nat → Int32) (f_t_costs : Nat → Int32) (Q : Int32 → Int32 → Prop) : Nat → Int32 → Int32 → Prop
  | 0, _, _ => False
  | n9 + 1, x1_9, x2_9 =>
  (vp_in 3 206 ∧ (((f_t_v (3 : Int32).toNatClampNeg) ≤ x2_9 → Q x1_9 0) ∧ (¬ (f_t_v (3 : Int32).toNatClampNeg) ≤ x2_9 → (vp_in (5 + (5 * x2_9)) 206 ∧ (∀ x3_29 : Int32, x3_29 = f_t_v (5 + (5 * x2_9)).toNatClampNeg → ((x3_29 = 5 → (vp_in 0 3 ∧ wX9_cost_72 x1_9 x2_9 (wX9_cost_9 f_t_v f_t_costs Q n9) (f_t_costs (0 : Int32).toNatClampNeg))) ∧ (¬ x3_29 = 5 → ((x3_29 = 6 → wX9_cost_57 f_t_costs x1_9 x2_9 (wX9_cost_9 f_t_v f_t_costs Q n9)) ∧ (¬ x3_29 = 6 → ((x3_29 = 7 → wX9_cost_57 f_t_costs x1_9 x2_9 (wX9_cost_9 f_t_v f_t_costs Q n9)) ∧ (¬ x3_29 = 7 → (vp_in 2 3 ∧ wX9_cost_72 x1_9 x2_9 (wX9_cost_9 f_t_v f_t_costs Q n9) (f_t_costs (2 : Int32).toNatClampNeg)))))))))))))
def wX9_cost (t_thrown : Int32) (f_t_v : Nat → Int32) (f_t_costs : Nat → Int32) (Q : Int32 → Int32 → Prop) : Prop :=
  (∃ k9, wX9_cost_9 f_t_v f_t_costs Q k9 0 0)
set_option maxHeartbeats 4000000 in
set_option maxRecDepth 100000 in
theorem mX9_cost (l : Launch) (D : va_G) (ca : Nat → ClassId) (a_t a_t_v a_t_past a_t_costs a_t_into a_t_isNeeded a_t_depths a_t_names a_t_out a_t_has : Nat) (sz : Nat) (t_edits : Int32) (t_thrown : Int32) (t_outs : Int32) (f_t_v : Nat → Int32) (f_t_costs : Nat → Int32) (Q : Int32 → Int32 → Prop) (h : wX9_cost t_thrown f_t_v f_t_costs Q) : Met l yX9_cost (Cond.code yX9_cost cX9_cost 4 (some .int) :: wsG) ({ frames := 0, cells := 0, slots := 0, locals := 0 } : Room) (va_Pc [.ref a_t] (wPre D ca [(a_t, .inr (7, [.ref a_t_v, .ref a_t_past, .ref a_t_costs, .int t_edits, .int t_thrown, .ref a_t_into, .ref a_t_isNeeded, .ref a_t_depths, .ref a_t_names, .ref a_t_out, .int t_outs, .ref a_t_has])), (a_t_v, .inl (ca 0, 206, .inl f_t_v)), (a_t_costs, .inl (ca 0, 3, .inl f_t_costs))] sz)) (qX9_cost D ca a_t a_t_v a_t_past a_t_costs a_t_into a_t_isNeeded a_t_depths a_t_names a_t_out a_t_has t_edits t_outs f_t_v f_t_costs Q (va_A [(a_t, .inr (7, [.ref a_t_v, .ref a_t_past, .ref a_t_costs, .int t_edits, .int t_thrown, .ref a_t_into, .ref a_t_isNeeded, .ref a_t_depths, .ref a_t_names, .ref a_t_out, .int t_outs, .ref a_t_has])), (a_t_v, .inl (ca 0, 206, .inl f_t_v)), (a_t_costs, .inl (ca 0, 3, .inl f_t_costs))] sz)) 0 0 (va_A [(a_t, .inr (7, [.ref a_t_v, .ref a_t_past, .ref a_t_costs, .int t_edits, .int t_thrown, .ref a_t_into, .ref a_t_isNeeded, .ref a_t_depths, .ref a_t_names, .ref a_t_out, .int t_outs, .ref a_t_has])), (a_t_v, .inl (ca 0, 206, .inl f_t_v)), (a_t_costs, .inl (ca 0, 3, .inl f_t_costs))] sz) := by
  refine Met.ofW (cc := cX9_cost) (maxL := 4) (ret := (some .int)) (by decide) rfl ?_
  intro p e s m args below meth c s₁ B hml hv
  obtain ⟨rfl, hsz, hP, hK, hD0⟩ := hv
  have hx := B.exec
  have hb := B.bytes
  have hr := B.returns
  have hts := atoms_spec (ws := (Cond.code yX9_cost cX9_cost 4 (some .int) :: wsG)) B.pre
  have hq : ∀ w ∈ wsG, w.before _ s = true := fun w hw => hts w (List.mem_cons_of_mem _ hw)
  have hown : s.vm.findClass RX9 = some m.cls := findClass_of_methodNamed B.named
  have hlocks := B.notSynchronized
  subst hsz
  have hD := hD0.self (sz := s.heap.size)
  generalize hAe : va_A [(a_t, .inr (7, [.ref a_t_v, .ref a_t_past, .ref a_t_costs, .int t_edits, .int t_thrown, .ref a_t_into, .ref a_t_isNeeded, .ref a_t_depths, .ref a_t_names, .ref a_t_out, .int t_outs, .ref a_t_has])), (a_t_v, .inl (ca 0, 206, .inl f_t_v)), (a_t_costs, .inl (ca 0, 3, .inl f_t_costs))] s.heap.size = A at hD ⊢
  have hA : ∀ q : Nat, s.heap.size ≤ q → A q := fun q h => by rw [← hAe]; exact Or.inr h
  have hS : va_S A s.heap s.heap [] := va_S.rf
  have hP : va_P D vwCl [(a_t, .inr (7, [.ref a_t_v, .ref a_t_past, .ref a_t_costs, .int t_edits, .int t_thrown, .ref a_t_into, .ref a_t_isNeeded, .ref a_t_depths, .ref a_t_names, .ref a_t_out, .int t_outs, .ref a_t_has])), (a_t_v, .inl (ca 0, 206, .inl f_t_v)), (a_t_costs, .inl (ca 0, 3, .inl f_t_costs))] s.heap := hP
  have hl := lv_entry ([.ref a_t]) (n := 4) (Nat.le_of_ble_eq_true rfl)
  rw [lg_entry_eq]
  generalize (lg_sl ([.ref a_t]) ++ List.replicate (4 - (lg_sl ([.ref a_t])).length) Slot.unset).toArray = ls at hl ⊢
  have hl : lv_has ls 4 [(0, .ref a_t)] := hl
  unfold wX9_cost at h
  refine lv_aload_n hx hb dX9_cost_0 rfl (lv_at hl 0 rfl) ?_
  refine lv_iconst (v := 0) hx hb dX9_cost_1 (by decide) ?_
  refine va_put (D := D) (ci := 7) (v := .int 0) (ty := .int) (C := RX9) (T := TX9) (N := 12) hx hb hq inX9g tyX9 tyX9_ok nmX9 hown hK hP hD hS 0 rfl rfl 4 (by decide) (hq _ q_885) (fun _ h9 => h9) rfl (by decide +kernel) rfl rfl (Nat.le_of_ble_eq_true rfl) dX9_cost_2 (fun H locs hP hD hS => ?_)
  have hP : va_P D vwCl [(a_t, .inr (7, [.ref a_t_v, .ref a_t_past, .ref a_t_costs, .int t_edits, .int 0, .ref a_t_into, .ref a_t_isNeeded, .ref a_t_depths, .ref a_t_names, .ref a_t_out, .int t_outs, .ref a_t_has])), (a_t_v, .inl (ca 0, 206, .inl f_t_v)), (a_t_costs, .inl (ca 0, 3, .inl f_t_costs))] H := hP
  have hD : va_D A [(a_t, .inr (7, [.ref a_t_v, .ref a_t_past, .ref a_t_costs, .int t_edits, .int 0, .ref a_t_into, .ref a_t_isNeeded, .ref a_t_depths, .ref a_t_names, .ref a_t_out, .int t_outs, .ref a_t_has])), (a_t_v, .inl (ca 0, 206, .inl f_t_v)), (a_t_costs, .inl (ca 0, 3, .inl f_t_costs))] := hD
  refine lv_iconst (v := 0) hx hb dX9_cost_5 (by decide) ?_
  refine lv_istore_n (lv' := [(1, .int 0), (0, .ref a_t)]) hx hb dX9_cost_6 rfl hl (by decide) rfl (fun ls hl => ?_)
  refine lv_iconst (v := 0) hx hb dX9_cost_7 (by decide) ?_
  refine lv_istore_n (lv' := [(2, .int 0), (1, .int 0), (0, .ref a_t)]) hx hb dX9_cost_8 rfl hl (by decide) rfl (fun ls hl => ?_)
  have hL9 : ∀ (n9_9 : Nat) (x1_9 : Int32) (x2_9 : Int32) (H : Heap) (locs : List Loc) (ls : Array Slot), va_P D vwCl [(a_t, .inr (7, [.ref a_t_v, .ref a_t_past, .ref a_t_costs, .int t_edits, .int 0, .ref a_t_into, .ref a_t_isNeeded, .ref a_t_depths, .ref a_t_names, .ref a_t_out, .int t_outs, .ref a_t_has])), (a_t_v, .inl (ca 0, 206, .inl f_t_v)), (a_t_costs, .inl (ca 0, 3, .inl f_t_costs))] H → va_D A [(a_t, .inr (7, [.ref a_t_v, .ref a_t_past, .ref a_t_costs, .int t_edits, .int 0, .ref a_t_into, .ref a_t_isNeeded, .ref a_t_depths, .ref a_t_names, .ref a_t_out, .int t_outs, .ref a_t_has])), (a_t_v, .inl (ca 0, 206, .inl f_t_v)), (a_t_costs, .inl (ca 0, 3, .inl f_t_costs))] → va_S A s.heap H locs → lv_has ls 4 [(0, .ref a_t), (1, .int x1_9), (2, .int x2_9)] → wX9_cost_9 f_t_v f_t_costs Q n9_9 x1_9 x2_9 → W p l e (headSpec (Cond.code yX9_cost cX9_cost 4 (some .int) :: wsG) ({ frames := 0, cells := 0, slots := 0, locals := 0 } : Room)).room s m ([.ref a_t] : List Value).toArray below meth c H locs 0 0 (MQ below (qX9_cost D ca a_t a_t_v a_t_past a_t_costs a_t_into a_t_isNeeded a_t_depths a_t_names a_t_out a_t_has t_edits t_outs f_t_v f_t_costs Q A) ([.ref a_t] : List Value).toArray s 0 0 A) (F0 m 9 ls []) := by
    intro n9_9
    induction n9_9 with
    | zero =>
      intro x1_9 x2_9 H locs ls hP hD hS hl h
      exact False.elim h
    | succ n9_9 ih9 =>
      intro x1_9 x2_9 H locs ls hP hD hS hl h
      unfold wX9_cost_9 at h
      refine lv_iload_n hx hb dX9_cost_9 rfl (lv_at hl 2 rfl) ?_
      refine lv_aload_n hx hb dX9_cost_10 rfl (lv_at hl 0 rfl) ?_
      refine va_get (D := D) (ci := 7) (v := .ref a_t_v) (C := RX9) (T := TX9) (N := 12) hx hb hq inX9g hown hK hP 0 rfl rfl 0 (by decide) (hq _ q_881) (fun _ h9 => h9) rfl dX9_cost_11 ?_
      refine lv_iconst (v := 3) hx hb dX9_cost_14 (by decide) ?_
      obtain ⟨hi9, h⟩ := h
      refine va_iald hx hb hK hP 1 0 rfl rfl hi9 dX9_cost_15 ?_
      refine lv_icmp_ge (tgt := 80) hx hb dX9_cost_16 (by decide) (fun c9 => ?_) (fun c9 => ?_)
      · have h := h.1 c9
        refine lv_iload_n hx hb dX9_cost_80 rfl (lv_at hl 1 rfl) ?_
        exact W.iret (v := x1_9) hx hb hr (fun t ht hW => ⟨⟨x1_9, 0, rfl, h, by rw [ht]; exact hP, va_K.moved hW.alike hK, hD⟩, hS.F ht⟩) hS.2.2 dX9_cost_81
      · have h := h.2 c9
        refine lv_aload_n hx hb dX9_cost_19 rfl (lv_at hl 0 rfl) ?_
        refine va_get (D := D) (ci := 7) (v := .ref a_t_v) (C := RX9) (T := TX9) (N := 12) hx hb hq inX9g hown hK hP 0 rfl rfl 0 (by decide) (hq _ q_881) (fun _ h9 => h9) rfl dX9_cost_20 ?_
        refine lv_iconst (v := 5) hx hb dX9_cost_23 (by decide) ?_
        refine lv_iconst (v := 5) hx hb dX9_cost_24 (by decide) ?_
        refine lv_iload_n hx hb dX9_cost_25 rfl (lv_at hl 2 rfl) ?_
        refine lv_imul hx hb dX9_cost_26 ?_
        refine lv_iadd hx hb dX9_cost_27 ?_
        obtain ⟨hi9, h⟩ := h
        refine va_iald hx hb hK hP 1 0 rfl rfl hi9 dX9_cost_28 ?_
        refine lv_topi (fun x3_29 ex3_29 => ?_)
        have h := h x3_29 ex3_29
        refine lv_istore_n (lv' := [(3, .int x3_29), (0, .ref a_t), (1, .int x1_9), (2, .int x2_9)]) hx hb dX9_cost_29 rfl hl (by decide) rfl (fun ls hl => ?_)
        refine lv_iload_n hx hb dX9_cost_30 rfl (lv_at hl 2 rfl) ?_
        refine lv_iload_n hx hb dX9_cost_31 rfl (lv_at hl 0 rfl) ?_
        refine lv_iconst (v := 5) hx hb dX9_cost_32 (by decide) ?_
        have hJ72 : ∀ (y1_72 : Int32) (H : Heap) (locs : List Loc) (ls : Array Slot), va_P D vwCl [(a_t, .inr (7, [.ref a_t_v, .ref a_t_past, .ref a_t_costs, .int t_edits, .int 0, .ref a_t_into, .ref a_t_isNeeded, .ref a_t_depths, .ref a_t_names, .ref a_t_out, .int t_outs, .ref a_t_has])), (a_t_v, .inl (ca 0, 206, .inl f_t_v)), (a_t_costs, .inl (ca 0, 3, .inl f_t_costs))] H → va_D A [(a_t, .inr (7, [.ref a_t_v, .ref a_t_past, .ref a_t_costs, .int t_edits, .int 0, .ref a_t_into, .ref a_t_isNeeded, .ref a_t_depths, .ref a_t_names, .ref a_t_out, .int t_outs, .ref a_t_has])), (a_t_v, .inl (ca 0, 206, .inl f_t_v)), (a_t_costs, .inl (ca 0, 3, .inl f_t_costs))] → va_S A s.heap H locs → lv_has ls 4 [(0, .ref a_t), (2, .int x2_9)] → wX9_cost_72 x1_9 x2_9 (wX9_cost_9 f_t_v f_t_costs Q n9_9) y1_72 → W p l e (headSpec (Cond.code yX9_cost cX9_cost 4 (some .int) :: wsG) ({ frames := 0, cells := 0, slots := 0, locals := 0 } : Room)).room s m ([.ref a_t] : List Value).toArray below meth c H locs 0 0 (MQ below (qX9_cost D ca a_t a_t_v a_t_past a_t_costs a_t_into a_t_isNeeded a_t_depths a_t_names a_t_out a_t_has t_edits t_outs f_t_v f_t_costs Q A) ([.ref a_t] : List Value).toArray s 0 0 A) (F0 m 72 ls [.int y1_72, .int x1_9]) := by
          intro y1_72 H locs ls hP hD hS hl h
          unfold wX9_cost_72 at h
          refine lv_iadd hx hb dX9_cost_72 ?_
          refine lv_topi (fun x1_73 ex1_73 => ?_)
          have h := h x1_73 ex1_73
          refine lv_istore_n (lv' := [(1, .int x1_73), (0, .ref a_t), (2, .int x2_9)]) hx hb dX9_cost_73 rfl hl (by decide) rfl (fun ls hl => ?_)
          obtain ⟨x2_74, ex2_74⟩ : ∃ y : Int32, y = x2_9 + 1 := ⟨_, rfl⟩
          have h := h x2_74 ex2_74
          refine lv_iinc (v := x2_74) (lv' := [(2, .int x2_74), (1, .int x1_73), (0, .ref a_t)]) hx hb dX9_cost_74 hl (k := 2) rfl (by rw [ex2_74]; rfl) (by decide) rfl (fun ls hl => ?_)
          refine lv_goto (tgt := 9) hx hb dX9_cost_77 (by decide) ?_
          exact ih9 x1_73 x2_74 _ _ _ hP hD hS (lv_sub hl [2, 1, 0] rfl) h
        refine lv_icmp_ne (tgt := 45) hx hb dX9_cost_33 (by decide) (fun c9 => ?_) (fun c9 => ?_)
        · have h := h.2 c9
          refine lv_iload_n hx hb dX9_cost_45 rfl (lv_at hl 0 rfl) ?_
          refine lv_bipush (v := 6) hx hb dX9_cost_46 (by decide) ?_
          have hJ57 : ∀ (H : Heap) (locs : List Loc) (ls : Array Slot), va_P D vwCl [(a_t, .inr (7, [.ref a_t_v, .ref a_t_past, .ref a_t_costs, .int t_edits, .int 0, .ref a_t_into, .ref a_t_isNeeded, .ref a_t_depths, .ref a_t_names, .ref a_t_out, .int t_outs, .ref a_t_has])), (a_t_v, .inl (ca 0, 206, .inl f_t_v)), (a_t_costs, .inl (ca 0, 3, .inl f_t_costs))] H → va_D A [(a_t, .inr (7, [.ref a_t_v, .ref a_t_past, .ref a_t_costs, .int t_edits, .int 0, .ref a_t_into, .ref a_t_isNeeded, .ref a_t_depths, .ref a_t_names, .ref a_t_out, .int t_outs, .ref a_t_has])), (a_t_v, .inl (ca 0, 206, .inl f_t_v)), (a_t_costs, .inl (ca 0, 3, .inl f_t_costs))] → va_S A s.heap H locs → lv_has ls 4 [(0, .ref a_t), (2, .int x2_9)] → wX9_cost_57 f_t_costs x1_9 x2_9 (wX9_cost_9 f_t_v f_t_costs Q n9_9) → W p l e (headSpec (Cond.code yX9_cost cX9_cost 4 (some .int) :: wsG) ({ frames := 0, cells := 0, slots := 0, locals := 0 } : Room)).room s m ([.ref a_t] : List Value).toArray below meth c H locs 0 0 (MQ below (qX9_cost D ca a_t a_t_v a_t_past a_t_costs a_t_into a_t_isNeeded a_t_depths a_t_names a_t_out a_t_has t_edits t_outs f_t_v f_t_costs Q A) ([.ref a_t] : List Value).toArray s 0 0 A) (F0 m 57 ls [.int x1_9]) := by
            intro  H locs ls hP hD hS hl h
            unfold wX9_cost_57 at h
            refine lv_aload_n hx hb dX9_cost_57 rfl (lv_at hl 0 rfl) ?_
            refine va_get (D := D) (ci := 7) (v := .ref a_t_costs) (C := RX9) (T := TX9) (N := 12) hx hb hq inX9g hown hK hP 0 rfl rfl 2 (by decide) (hq _ q_883) (fun _ h9 => h9) rfl dX9_cost_58 ?_
            refine lv_iconst (v := 1) hx hb dX9_cost_61 (by decide) ?_
            obtain ⟨hi9, h⟩ := h
            refine va_iald hx hb hK hP 2 0 rfl rfl hi9 dX9_cost_62 ?_
            refine lv_goto (tgt := 72) hx hb dX9_cost_63 (by decide) ?_
            exact hJ72 (f_t_costs (1 : Int32).toNatClampNeg) _ _ _ hP hD hS (lv_sub hl [0, 1] rfl) h
          refine lv_icmp_eq (tgt := 57) hx hb dX9_cost_48 (by decide) (fun c9 => ?_) (fun c9 => ?_)
          · have h := h.1 c9
            exact hJ57 _ _ _ hP hD hS (lv_sub hl [1, 3] rfl) h
          · have h := h.2 c9
            refine lv_iload_n hx hb dX9_cost_51 rfl (lv_at hl 0 rfl) ?_
            refine lv_bipush (v := 7) hx hb dX9_cost_52 (by decide) ?_
            refine lv_icmp_ne (tgt := 66) hx hb dX9_cost_54 (by decide) (fun c9 => ?_) (fun c9 => ?_)
            · have h := h.2 c9
              refine lv_aload_n hx hb dX9_cost_66 rfl (lv_at hl 1 rfl) ?_
              refine va_get (D := D) (ci := 7) (v := .ref a_t_costs) (C := RX9) (T := TX9) (N := 12) hx hb hq inX9g hown hK hP 0 rfl rfl 2 (by decide) (hq _ q_883) (fun _ h9 => h9) rfl dX9_cost_67 ?_
              refine lv_iconst (v := 2) hx hb dX9_cost_70 (by decide) ?_
              obtain ⟨hi9, h⟩ := h
              refine va_iald hx hb hK hP 2 0 rfl rfl hi9 dX9_cost_71 ?_
              exact hJ72 (f_t_costs (2 : Int32).toNatClampNeg) _ _ _ hP hD hS (lv_sub hl [1, 3] rfl) h
            · have h := h.1 c9
              exact hJ57 _ _ _ hP hD hS (lv_sub hl [1, 3] rfl) h
        · have h := h.1 c9
          refine lv_aload_n hx hb dX9_cost_36 rfl (lv_at hl 1 rfl) ?_
          refine va_get (D := D) (ci := 7) (v := .ref a_t_costs) (C := RX9) (T := TX9) (N := 12) hx hb hq inX9g hown hK hP 0 rfl rfl 2 (by decide) (hq _ q_883) (fun _ h9 => h9) rfl dX9_cost_37 ?_
          refine lv_iconst (v := 0) hx hb dX9_cost_40 (by decide) ?_
          obtain ⟨hi9, h⟩ := h
          refine va_iald hx hb hK hP 2 0 rfl rfl hi9 dX9_cost_41 ?_
          refine lv_goto (tgt := 72) hx hb dX9_cost_42 (by decide) ?_
          exact hJ72 (f_t_costs (0 : Int32).toNatClampNeg) _ _ _ hP hD hS (lv_sub hl [1, 3] rfl) h
  obtain ⟨k9, h⟩ := h
  exact hL9 k9 0 0 _ _ _ hP hD hS (lv_sub hl [2, 1, 0] rfl) h

abbrev qX9_depth (D : va_G) (ca : Nat → ClassId) (a_t a_t_v a_t_past a_t_costs a_t_into a_t_isNeeded a_t_depths a_t_names a_t_out a_t_has : Nat) (t_edits : Int32) (t_outs : Int32) (f_t_v : Nat → Int32) (Q : Int32 → Int32 → (Nat → Int32) → Prop) (A : Nat → Prop) : Array Value → State → Outcome → State → Prop := va_Qi (fun (r : Int32) (u : Int32 × (Nat → Int32)) => Q r u.1 u.2) (wEnd D ca (fun u : Int32 × (Nat → Int32) => [(a_t, .inr (7, [.ref a_t_v, .ref a_t_past, .ref a_t_costs, .int t_edits, .int u.1, .ref a_t_into, .ref a_t_isNeeded, .ref a_t_depths, .ref a_t_names, .ref a_t_out, .int t_outs, .ref a_t_has])), (a_t_v, .inl (ca 0, 206, .inl f_t_v)), (a_t_depths, .inl (ca 0, 41, .inl u.2))]) A) A
def wX9_depth_104 (x1_7 : Int32) (f_t_depths_7 : Nat → Int32) (K7 : Int32 → (Nat → Int32) → Prop) (y3_104 : Int32) : Prop :=
  (vp_in (x1_7 + 1) 41 ∧ (∀ x1_106 : Int32, x1_106 = x1_7 + 1 → K7 x1_106 (upd f_t_depths_7 (x1_7 + 1).toNatClampNeg (1 + y3_104))))
def wX9_depth_82 (x1_7 : Int32) (f_t_depths_7 : Nat → Int32) (K7 : Int32 → (Nat → Int32) → Prop) (y0_52 : Int32) (y0_82 : Int32) : Prop :=
  ((y0_52 ≤ y0_82 → wX9_depth_104 x1_7 f_t_depths_7 K7 y0_82) ∧ (¬ y0_52 ≤ y0_82 → wX9_depth_104 x1_7 f_t_depths_7 K7 y0_52))
def wX9_depth_52 (f_t_v : Nat → Int32) (x1_7 : Int32) (f_t_depths_7 : Nat → Int32) (K7 : Int32 → (Nat → Int32) → Prop) (x2_22 : Int32) (y0_52 : Int32) : Prop :=
  (vp_in (x2_22 + 3) 206 ∧ (((f_t_v (x2_22 + 3).toNatClampNeg) = 1 → wX9_depth_82 x1_7 f_t_depths_7 K7 y0_52 0) ∧ (¬ (f_t_v (x2_22 + 3).toNatClampNeg) = 1 → (vp_in (x2_22 + 4) 206 ∧ (vp_in (f_t_v (x2_22 + 4).toNatClampNeg) 41 ∧ wX9_depth_82 x1_7 f_t_depths_7 K7 y0_52 (f_t_depths_7 (f_t_v (x2_22 + 4).toNatClampNeg).toNatClampNeg))))))
def wX9_depth_7 (f_t_v : Nat → Int32) (Q : Int32 → Int32 → (Nat → Int32) → Prop) : Nat → Int32 → (Nat → Int32) → Prop
  | 0, _, _ => False
  | n9 + 1, x1_7, f_t_depths_7 =>
  (vp_in 3 206 ∧ (((f_t_v (3 : Int32).toNatClampNeg) ≤ x1_7 → (vp_in 4 206 ∧ (vp_in (f_t_v (4 : Int32).toNatClampNeg) 41 ∧ Q (f_t_depths_7 (f_t_v (4 : Int32).toNatClampNeg).toNatClampNeg) 0 f_t_depths_7))) ∧ (¬ (f_t_v (3 : Int32).toNatClampNeg) ≤ x1_7 → (∀ x2_22 : Int32, x2_22 = 5 + (5 * x1_7) → (vp_in (x2_22 + 1) 206 ∧ (((f_t_v (x2_22 + 1).toNatClampNeg) = 1 → wX9_depth_52 f_t_v x1_7 f_t_depths_7 (wX9_depth_7 f_t_v Q n9) x2_22 0) ∧ (¬ (f_t_v (x2_22 + 1).toNatClampNeg) = 1 → (vp_in (x2_22 + 2) 206 ∧ (vp_in (f_t_v (x2_22 + 2).toNatClampNeg) 41 ∧ wX9_depth_52 f_t_v x1_7 f_t_depths_7 (wX9_depth_7 f_t_v Q n9) x2_22 (f_t_depths_7 (f_t_v (x2_22 + 2).toNatClampNeg).toNatClampNeg))))))))))
def wX9_depth (t_thrown : Int32) (f_t_v : Nat → Int32) (f_t_depths : Nat → Int32) (Q : Int32 → Int32 → (Nat → Int32) → Prop) : Prop :=
  (∃ k9, wX9_depth_7 f_t_v Q k9 0 f_t_depths)
set_option maxHeartbeats 4000000 in
set_option maxRecDepth 100000 in
theorem mX9_depth (l : Launch) (D : va_G) (ca : Nat → ClassId) (a_t a_t_v a_t_past a_t_costs a_t_into a_t_isNeeded a_t_depths a_t_names a_t_out a_t_has : Nat) (sz : Nat) (t_edits : Int32) (t_thrown : Int32) (t_outs : Int32) (f_t_v : Nat → Int32) (f_t_depths : Nat → Int32) (Q : Int32 → Int32 → (Nat → Int32) → Prop) (h : wX9_depth t_thrown f_t_v f_t_depths Q) : Met l yX9_depth (Cond.code yX9_depth cX9_depth 5 (some .int) :: wsG) ({ frames := 0, cells := 0, slots := 0, locals := 0 } : Room) (va_Pc [.ref a_t] (wPre D ca [(a_t, .inr (7, [.ref a_t_v, .ref a_t_past, .ref a_t_costs, .int t_edits, .int t_thrown, .ref a_t_into, .ref a_t_isNeeded, .ref a_t_depths, .ref a_t_names, .ref a_t_out, .int t_outs, .ref a_t_has])), (a_t_v, .inl (ca 0, 206, .inl f_t_v)), (a_t_depths, .inl (ca 0, 41, .inl f_t_depths))] sz)) (qX9_depth D ca a_t a_t_v a_t_past a_t_costs a_t_into a_t_isNeeded a_t_depths a_t_names a_t_out a_t_has t_edits t_outs f_t_v Q (va_A [(a_t, .inr (7, [.ref a_t_v, .ref a_t_past, .ref a_t_costs, .int t_edits, .int t_thrown, .ref a_t_into, .ref a_t_isNeeded, .ref a_t_depths, .ref a_t_names, .ref a_t_out, .int t_outs, .ref a_t_has])), (a_t_v, .inl (ca 0, 206, .inl f_t_v)), (a_t_depths, .inl (ca 0, 41, .inl f_t_depths))] sz)) 0 0 (va_A [(a_t, .inr (7, [.ref a_t_v, .ref a_t_past, .ref a_t_costs, .int t_edits, .int t_thrown, .ref a_t_into, .ref a_t_isNeeded, .ref a_t_depths, .ref a_t_names, .ref a_t_out, .int t_outs, .ref a_t_has])), (a_t_v, .inl (ca 0, 206, .inl f_t_v)), (a_t_depths, .inl (ca 0, 41, .inl f_t_depths))] sz) := by
  refine Met.ofW (cc := cX9_depth) (maxL := 5) (ret := (some .int)) (by decide) rfl ?_
  intro p e s m args below meth c s₁ B hml hv
  obtain ⟨rfl, hsz, hP, hK, hD0⟩ := hv
  have hx := B.exec
  have hb := B.bytes
  have hr := B.returns
  have hts := atoms_spec (ws := (Cond.code yX9_depth cX9_depth 5 (some .int) :: wsG)) B.pre
  have hq : ∀ w ∈ wsG, w.before _ s = true := fun w hw => hts w (List.mem_cons_of_mem _ hw)
  have hown : s.vm.findClass RX9 = some m.cls := findClass_of_methodNamed B.named
  have hlocks := B.notSynchronized
  subst hsz
  have hD := hD0.self (sz := s.heap.size)
  generalize hAe : va_A [(a_t, .inr (7, [.ref a_t_v, .ref a_t_past, .ref a_t_costs, .int t_edits, .int t_thrown, .ref a_t_into, .ref a_t_isNeeded, .ref a_t_depths, .ref a_t_names, .ref a_t_out, .int t_outs, .ref a_t_has])), (a_t_v, .inl (ca 0, 206, .inl f_t_v)), (a_t_depths, .inl (ca 0, 41, .inl f_t_depths))] s.heap.size = A at hD ⊢
  have hA : ∀ q : Nat, s.heap.size ≤ q → A q := fun q h => by rw [← hAe]; exact Or.inr h
  have hS : va_S A s.heap s.heap [] := va_S.rf
  have hP : va_P D vwCl [(a_t, .inr (7, [.ref a_t_v, .ref a_t_past, .ref a_t_costs, .int t_edits, .int t_thrown, .ref a_t_into, .ref a_t_isNeeded, .ref a_t_depths, .ref a_t_names, .ref a_t_out, .int t_outs, .ref a_t_has])), (a_t_v, .inl (ca 0, 206, .inl f_t_v)), (a_t_depths, .inl (ca 0, 41, .inl f_t_depths))] s.heap := hP
  have hl := lv_entry ([.ref a_t]) (n := 5) (Nat.le_of_ble_eq_true rfl)
  rw [lg_entry_eq]
  generalize (lg_sl ([.ref a_t]) ++ List.replicate (5 - (lg_sl ([.ref a_t])).length) Slot.unset).toArray = ls at hl ⊢
  have hl : lv_has ls 5 [(0, .ref a_t)] := hl
  unfold wX9_depth at h
  refine lv_aload_n hx hb dX9_depth_0 rfl (lv_at hl 0 rfl) ?_
  refine lv_iconst (v := 0) hx hb dX9_depth_1 (by decide) ?_
  refine va_put (D := D) (ci := 7) (v := .int 0) (ty := .int) (C := RX9) (T := TX9) (N := 12) hx hb hq inX9g tyX9 tyX9_ok nmX9 hown hK hP hD hS 0 rfl rfl 4 (by decide) (hq _ q_885) (fun _ h9 => h9) rfl (by decide +kernel) rfl rfl (Nat.le_of_ble_eq_true rfl) dX9_depth_2 (fun H locs hP hD hS => ?_)
  have hP : va_P D vwCl [(a_t, .inr (7, [.ref a_t_v, .ref a_t_past, .ref a_t_costs, .int t_edits, .int 0, .ref a_t_into, .ref a_t_isNeeded, .ref a_t_depths, .ref a_t_names, .ref a_t_out, .int t_outs, .ref a_t_has])), (a_t_v, .inl (ca 0, 206, .inl f_t_v)), (a_t_depths, .inl (ca 0, 41, .inl f_t_depths))] H := hP
  have hD : va_D A [(a_t, .inr (7, [.ref a_t_v, .ref a_t_past, .ref a_t_costs, .int t_edits, .int 0, .ref a_t_into, .ref a_t_isNeeded, .ref a_t_depths, .ref a_t_names, .ref a_t_out, .int t_outs, .ref a_t_has])), (a_t_v, .inl (ca 0, 206, .inl f_t_v)), (a_t_depths, .inl (ca 0, 41, .inl f_t_depths))] := hD
  refine lv_iconst (v := 0) hx hb dX9_depth_5 (by decide) ?_
  refine lv_istore_n (lv' := [(1, .int 0), (0, .ref a_t)]) hx hb dX9_depth_6 rfl hl (by decide) rfl (fun ls hl => ?_)
  have hL7 : ∀ (n9_7 : Nat) (x1_7 : Int32) (f_t_depths_7 : Nat → Int32) (H : Heap) (locs : List Loc) (ls : Array Slot), va_P D vwCl [(a_t, .inr (7, [.ref a_t_v, .ref a_t_past, .ref a_t_costs, .int t_edits, .int 0, .ref a_t_into, .ref a_t_isNeeded, .ref a_t_depths, .ref a_t_names, .ref a_t_out, .int t_outs, .ref a_t_has])), (a_t_v, .inl (ca 0, 206, .inl f_t_v)), (a_t_depths, .inl (ca 0, 41, .inl f_t_depths_7))] H → va_D A [(a_t, .inr (7, [.ref a_t_v, .ref a_t_past, .ref a_t_costs, .int t_edits, .int 0, .ref a_t_into, .ref a_t_isNeeded, .ref a_t_depths, .ref a_t_names, .ref a_t_out, .int t_outs, .ref a_t_has])), (a_t_v, .inl (ca 0, 206, .inl f_t_v)), (a_t_depths, .inl (ca 0, 41, .inl f_t_depths_7))] → va_S A s.heap H locs → lv_has ls 5 [(0, .ref a_t), (1, .int x1_7)] → wX9_depth_7 f_t_v Q n9_7 x1_7 f_t_depths_7 → W p l e (headSpec (Cond.code yX9_depth cX9_depth 5 (some .int) :: wsG) ({ frames := 0, cells := 0, slots := 0, locals := 0 } : Room)).room s m ([.ref a_t] : List Value).toArray below meth c H locs 0 0 (MQ below (qX9_depth D ca a_t a_t_v a_t_past a_t_costs a_t_into a_t_isNeeded a_t_depths a_t_names a_t_out a_t_has t_edits t_outs f_t_v Q A) ([.ref a_t] : List Value).toArray s 0 0 A) (F0 m 7 ls []) := by
    intro n9_7
    induction n9_7 with
    | zero =>
      intro x1_7 f_t_depths_7 H locs ls hP hD hS hl h
      exact False.elim h
    | succ n9_7 ih7 =>
      intro x1_7 f_t_depths_7 H locs ls hP hD hS hl h
      unfold wX9_depth_7 at h
      refine lv_iload_n hx hb dX9_depth_7 rfl (lv_at hl 1 rfl) ?_
      refine lv_aload_n hx hb dX9_depth_8 rfl (lv_at hl 0 rfl) ?_
      refine va_get (D := D) (ci := 7) (v := .ref a_t_v) (C := RX9) (T := TX9) (N := 12) hx hb hq inX9g hown hK hP 0 rfl rfl 0 (by decide) (hq _ q_881) (fun _ h9 => h9) rfl dX9_depth_9 ?_
      refine lv_iconst (v := 3) hx hb dX9_depth_12 (by decide) ?_
      obtain ⟨hi9, h⟩ := h
      refine va_iald hx hb hK hP 1 0 rfl rfl hi9 dX9_depth_13 ?_
      refine lv_icmp_ge (tgt := 112) hx hb dX9_depth_14 (by decide) (fun c9 => ?_) (fun c9 => ?_)
      · have h := h.1 c9
        refine lv_aload_n hx hb dX9_depth_112 rfl (lv_at hl 0 rfl) ?_
        refine va_get (D := D) (ci := 7) (v := .ref a_t_depths) (C := RX9) (T := TX9) (N := 12) hx hb hq inX9g hown hK hP 0 rfl rfl 7 (by decide) (hq _ q_888) (fun _ h9 => h9) rfl dX9_depth_113 ?_
        refine lv_aload_n hx hb dX9_depth_116 rfl (lv_at hl 0 rfl) ?_
        refine va_get (D := D) (ci := 7) (v := .ref a_t_v) (C := RX9) (T := TX9) (N := 12) hx hb hq inX9g hown hK hP 0 rfl rfl 0 (by decide) (hq _ q_881) (fun _ h9 => h9) rfl dX9_depth_117 ?_
        refine lv_iconst (v := 4) hx hb dX9_depth_120 (by decide) ?_
        obtain ⟨hi9, h⟩ := h
        refine va_iald hx hb hK hP 1 0 rfl rfl hi9 dX9_depth_121 ?_
        obtain ⟨hi9, h⟩ := h
        refine va_iald hx hb hK hP 2 0 rfl rfl hi9 dX9_depth_122 ?_
        exact W.iret (v := f_t_depths_7 (f_t_v (4 : Int32).toNatClampNeg).toNatClampNeg) hx hb hr (fun t ht hW => ⟨⟨f_t_depths_7 (f_t_v (4 : Int32).toNatClampNeg).toNatClampNeg, (0, f_t_depths_7), rfl, h, by rw [ht]; exact hP, va_K.moved hW.alike hK, hD⟩, hS.F ht⟩) hS.2.2 dX9_depth_123
      · have h := h.2 c9
        refine lv_iconst (v := 5) hx hb dX9_depth_17 (by decide) ?_
        refine lv_iconst (v := 5) hx hb dX9_depth_18 (by decide) ?_
        refine lv_iload_n hx hb dX9_depth_19 rfl (lv_at hl 1 rfl) ?_
        refine lv_imul hx hb dX9_depth_20 ?_
        refine lv_iadd hx hb dX9_depth_21 ?_
        refine lv_topi (fun x2_22 ex2_22 => ?_)
        have h := h x2_22 ex2_22
        refine lv_istore_n (lv' := [(2, .int x2_22), (0, .ref a_t), (1, .int x1_7)]) hx hb dX9_depth_22 rfl hl (by decide) rfl (fun ls hl => ?_)
        refine lv_aload_n hx hb dX9_depth_23 rfl (lv_at hl 1 rfl) ?_
        refine va_get (D := D) (ci := 7) (v := .ref a_t_v) (C := RX9) (T := TX9) (N := 12) hx hb hq inX9g hown hK hP 0 rfl rfl 0 (by decide) (hq _ q_881) (fun _ h9 => h9) rfl dX9_depth_24 ?_
        refine lv_iload_n hx hb dX9_depth_27 rfl (lv_at hl 0 rfl) ?_
        refine lv_iconst (v := 1) hx hb dX9_depth_28 (by decide) ?_
        refine lv_iadd hx hb dX9_depth_29 ?_
        obtain ⟨hi9, h⟩ := h
        refine va_iald hx hb hK hP 1 0 rfl rfl hi9 dX9_depth_30 ?_
        refine lv_iconst (v := 1) hx hb dX9_depth_31 (by decide) ?_
        have hJ52 : ∀ (y0_52 : Int32) (H : Heap) (locs : List Loc) (ls : Array Slot), va_P D vwCl [(a_t, .inr (7, [.ref a_t_v, .ref a_t_past, .ref a_t_costs, .int t_edits, .int 0, .ref a_t_into, .ref a_t_isNeeded, .ref a_t_depths, .ref a_t_names, .ref a_t_out, .int t_outs, .ref a_t_has])), (a_t_v, .inl (ca 0, 206, .inl f_t_v)), (a_t_depths, .inl (ca 0, 41, .inl f_t_depths_7))] H → va_D A [(a_t, .inr (7, [.ref a_t_v, .ref a_t_past, .ref a_t_costs, .int t_edits, .int 0, .ref a_t_into, .ref a_t_isNeeded, .ref a_t_depths, .ref a_t_names, .ref a_t_out, .int t_outs, .ref a_t_has])), (a_t_v, .inl (ca 0, 206, .inl f_t_v)), (a_t_depths, .inl (ca 0, 41, .inl f_t_depths_7))] → va_S A s.heap H locs → lv_has ls 5 [(0, .ref a_t), (1, .int x1_7), (2, .int x2_22)] → wX9_depth_52 f_t_v x1_7 f_t_depths_7 (wX9_depth_7 f_t_v Q n9_7) x2_22 y0_52 → W p l e (headSpec (Cond.code yX9_depth cX9_depth 5 (some .int) :: wsG) ({ frames := 0, cells := 0, slots := 0, locals := 0 } : Room)).room s m ([.ref a_t] : List Value).toArray below meth c H locs 0 0 (MQ below (qX9_depth D ca a_t a_t_v a_t_past a_t_costs a_t_into a_t_isNeeded a_t_depths a_t_names a_t_out a_t_has t_edits t_outs f_t_v Q A) ([.ref a_t] : List Value).toArray s 0 0 A) (F0 m 52 ls [.int y0_52]) := by
          intro y0_52 H locs ls hP hD hS hl h
          unfold wX9_depth_52 at h
          refine lv_istore_n (lv' := [(3, .int y0_52), (0, .ref a_t), (1, .int x1_7), (2, .int x2_22)]) hx hb dX9_depth_52 rfl hl (by decide) rfl (fun ls hl => ?_)
          refine lv_aload_n hx hb dX9_depth_53 rfl (lv_at hl 1 rfl) ?_
          refine va_get (D := D) (ci := 7) (v := .ref a_t_v) (C := RX9) (T := TX9) (N := 12) hx hb hq inX9g hown hK hP 0 rfl rfl 0 (by decide) (hq _ q_881) (fun _ h9 => h9) rfl dX9_depth_54 ?_
          refine lv_iload_n hx hb dX9_depth_57 rfl (lv_at hl 3 rfl) ?_
          refine lv_iconst (v := 3) hx hb dX9_depth_58 (by decide) ?_
          refine lv_iadd hx hb dX9_depth_59 ?_
          obtain ⟨hi9, h⟩ := h
          refine va_iald hx hb hK hP 1 0 rfl rfl hi9 dX9_depth_60 ?_
          refine lv_iconst (v := 1) hx hb dX9_depth_61 (by decide) ?_
          have hJ82 : ∀ (y0_82 : Int32) (H : Heap) (locs : List Loc) (ls : Array Slot), va_P D vwCl [(a_t, .inr (7, [.ref a_t_v, .ref a_t_past, .ref a_t_costs, .int t_edits, .int 0, .ref a_t_into, .ref a_t_isNeeded, .ref a_t_depths, .ref a_t_names, .ref a_t_out, .int t_outs, .ref a_t_has])), (a_t_v, .inl (ca 0, 206, .inl f_t_v)), (a_t_depths, .inl (ca 0, 41, .inl f_t_depths_7))] H → va_D A [(a_t, .inr (7, [.ref a_t_v, .ref a_t_past, .ref a_t_costs, .int t_edits, .int 0, .ref a_t_into, .ref a_t_isNeeded, .ref a_t_depths, .ref a_t_names, .ref a_t_out, .int t_outs, .ref a_t_has])), (a_t_v, .inl (ca 0, 206, .inl f_t_v)), (a_t_depths, .inl (ca 0, 41, .inl f_t_depths_7))] → va_S A s.heap H locs → lv_has ls 5 [(0, .ref a_t), (1, .int x1_7), (3, .int y0_52)] → wX9_depth_82 x1_7 f_t_depths_7 (wX9_depth_7 f_t_v Q n9_7) y0_52 y0_82 → W p l e (headSpec (Cond.code yX9_depth cX9_depth 5 (some .int) :: wsG) ({ frames := 0, cells := 0, slots := 0, locals := 0 } : Room)).room s m ([.ref a_t] : List Value).toArray below meth c H locs 0 0 (MQ below (qX9_depth D ca a_t a_t_v a_t_past a_t_costs a_t_into a_t_isNeeded a_t_depths a_t_names a_t_out a_t_has t_edits t_outs f_t_v Q A) ([.ref a_t] : List Value).toArray s 0 0 A) (F0 m 82 ls [.int y0_82]) := by
            intro y0_82 H locs ls hP hD hS hl h
            unfold wX9_depth_82 at h
            refine lv_istore (lv' := [(4, .int y0_82), (0, .ref a_t), (1, .int x1_7), (3, .int y0_52)]) hx hb dX9_depth_82 hl (by decide) rfl (fun ls hl => ?_)
            refine lv_aload_n hx hb dX9_depth_84 rfl (lv_at hl 1 rfl) ?_
            refine va_get (D := D) (ci := 7) (v := .ref a_t_depths) (C := RX9) (T := TX9) (N := 12) hx hb hq inX9g hown hK hP 0 rfl rfl 7 (by decide) (hq _ q_888) (fun _ h9 => h9) rfl dX9_depth_85 ?_
            refine lv_iload_n hx hb dX9_depth_88 rfl (lv_at hl 2 rfl) ?_
            refine lv_iconst (v := 1) hx hb dX9_depth_89 (by decide) ?_
            refine lv_iadd hx hb dX9_depth_90 ?_
            refine lv_iconst (v := 1) hx hb dX9_depth_91 (by decide) ?_
            refine lv_iload_n hx hb dX9_depth_92 rfl (lv_at hl 3 rfl) ?_
            refine lv_iload hx hb dX9_depth_93 (lv_at hl 0 rfl) ?_
            have hJ104 : ∀ (y3_104 : Int32) (H : Heap) (locs : List Loc) (ls : Array Slot), va_P D vwCl [(a_t, .inr (7, [.ref a_t_v, .ref a_t_past, .ref a_t_costs, .int t_edits, .int 0, .ref a_t_into, .ref a_t_isNeeded, .ref a_t_depths, .ref a_t_names, .ref a_t_out, .int t_outs, .ref a_t_has])), (a_t_v, .inl (ca 0, 206, .inl f_t_v)), (a_t_depths, .inl (ca 0, 41, .inl f_t_depths_7))] H → va_D A [(a_t, .inr (7, [.ref a_t_v, .ref a_t_past, .ref a_t_costs, .int t_edits, .int 0, .ref a_t_into, .ref a_t_isNeeded, .ref a_t_depths, .ref a_t_names, .ref a_t_out, .int t_outs, .ref a_t_has])), (a_t_v, .inl (ca 0, 206, .inl f_t_v)), (a_t_depths, .inl (ca 0, 41, .inl f_t_depths_7))] → va_S A s.heap H locs → lv_has ls 5 [(0, .ref a_t), (1, .int x1_7)] → wX9_depth_104 x1_7 f_t_depths_7 (wX9_depth_7 f_t_v Q n9_7) y3_104 → W p l e (headSpec (Cond.code yX9_depth cX9_depth 5 (some .int) :: wsG) ({ frames := 0, cells := 0, slots := 0, locals := 0 } : Room)).room s m ([.ref a_t] : List Value).toArray below meth c H locs 0 0 (MQ below (qX9_depth D ca a_t a_t_v a_t_past a_t_costs a_t_into a_t_isNeeded a_t_depths a_t_names a_t_out a_t_has t_edits t_outs f_t_v Q A) ([.ref a_t] : List Value).toArray s 0 0 A) (F0 m 104 ls [.int y3_104, .int 1, .int (x1_7 + 1), .ref a_t_depths]) := by
              intro y3_104 H locs ls hP hD hS hl h
              unfold wX9_depth_104 at h
              refine lv_iadd hx hb dX9_depth_104 ?_
              obtain ⟨hi9, h⟩ := h
              refine va_iast hx hb hK hP hD hS 2 0 rfl rfl hi9 dX9_depth_105 (fun H locs hP hD hS => ?_)
              have hP : va_P D vwCl [(a_t, .inr (7, [.ref a_t_v, .ref a_t_past, .ref a_t_costs, .int t_edits, .int 0, .ref a_t_into, .ref a_t_isNeeded, .ref a_t_depths, .ref a_t_names, .ref a_t_out, .int t_outs, .ref a_t_has])), (a_t_v, .inl (ca 0, 206, .inl f_t_v)), (a_t_depths, .inl (ca 0, 41, .inl (upd f_t_depths_7 (x1_7 + 1).toNatClampNeg (1 + y3_104))))] H := hP
              have hD : va_D A [(a_t, .inr (7, [.ref a_t_v, .ref a_t_past, .ref a_t_costs, .int t_edits, .int 0, .ref a_t_into, .ref a_t_isNeeded, .ref a_t_depths, .ref a_t_names, .ref a_t_out, .int t_outs, .ref a_t_has])), (a_t_v, .inl (ca 0, 206, .inl f_t_v)), (a_t_depths, .inl (ca 0, 41, .inl (upd f_t_depths_7 (x1_7 + 1).toNatClampNeg (1 + y3_104))))] := hD
              obtain ⟨x1_106, ex1_106⟩ : ∃ y : Int32, y = x1_7 + 1 := ⟨_, rfl⟩
              have h := h x1_106 ex1_106
              refine lv_iinc (v := x1_106) (lv' := [(1, .int x1_106), (0, .ref a_t)]) hx hb dX9_depth_106 hl (k := 1) rfl (by rw [ex1_106]; rfl) (by decide) rfl (fun ls hl => ?_)
              refine lv_goto (tgt := 7) hx hb dX9_depth_109 (by decide) ?_
              exact ih7 x1_106 (upd f_t_depths_7 (x1_7 + 1).toNatClampNeg (1 + y3_104)) _ _ _ hP hD hS (lv_sub hl [1, 0] rfl) h
            refine lv_icmp_le (tgt := 102) hx hb dX9_depth_95 (by decide) (fun c9 => ?_) (fun c9 => ?_)
            · have h := h.1 c9
              refine lv_iload hx hb dX9_depth_102 (lv_at hl 0 rfl) ?_
              exact hJ104 y0_82 _ _ _ hP hD hS (lv_sub hl [1, 2] rfl) h
            · have h := h.2 c9
              refine lv_iload_n hx hb dX9_depth_98 rfl (lv_at hl 3 rfl) ?_
              refine lv_goto (tgt := 104) hx hb dX9_depth_99 (by decide) ?_
              exact hJ104 y0_52 _ _ _ hP hD hS (lv_sub hl [1, 2] rfl) h
          refine lv_icmp_ne (tgt := 69) hx hb dX9_depth_62 (by decide) (fun c9 => ?_) (fun c9 => ?_)
          · have h := h.2 c9
            refine lv_aload_n hx hb dX9_depth_69 rfl (lv_at hl 1 rfl) ?_
            refine va_get (D := D) (ci := 7) (v := .ref a_t_depths) (C := RX9) (T := TX9) (N := 12) hx hb hq inX9g hown hK hP 0 rfl rfl 7 (by decide) (hq _ q_888) (fun _ h9 => h9) rfl dX9_depth_70 ?_
            refine lv_aload_n hx hb dX9_depth_73 rfl (lv_at hl 1 rfl) ?_
            refine va_get (D := D) (ci := 7) (v := .ref a_t_v) (C := RX9) (T := TX9) (N := 12) hx hb hq inX9g hown hK hP 0 rfl rfl 0 (by decide) (hq _ q_881) (fun _ h9 => h9) rfl dX9_depth_74 ?_
            refine lv_iload_n hx hb dX9_depth_77 rfl (lv_at hl 3 rfl) ?_
            refine lv_iconst (v := 4) hx hb dX9_depth_78 (by decide) ?_
            refine lv_iadd hx hb dX9_depth_79 ?_
            obtain ⟨hi9, h⟩ := h
            refine va_iald hx hb hK hP 1 0 rfl rfl hi9 dX9_depth_80 ?_
            obtain ⟨hi9, h⟩ := h
            refine va_iald hx hb hK hP 2 0 rfl rfl hi9 dX9_depth_81 ?_
            exact hJ82 (f_t_depths_7 (f_t_v (x2_22 + 4).toNatClampNeg).toNatClampNeg) _ _ _ hP hD hS (lv_sub hl [1, 2, 0] rfl) h
          · have h := h.1 c9
            refine lv_iconst (v := 0) hx hb dX9_depth_65 (by decide) ?_
            refine lv_goto (tgt := 82) hx hb dX9_depth_66 (by decide) ?_
            exact hJ82 0 _ _ _ hP hD hS (lv_sub hl [1, 2, 0] rfl) h
        refine lv_icmp_ne (tgt := 39) hx hb dX9_depth_32 (by decide) (fun c9 => ?_) (fun c9 => ?_)
        · have h := h.2 c9
          refine lv_aload_n hx hb dX9_depth_39 rfl (lv_at hl 1 rfl) ?_
          refine va_get (D := D) (ci := 7) (v := .ref a_t_depths) (C := RX9) (T := TX9) (N := 12) hx hb hq inX9g hown hK hP 0 rfl rfl 7 (by decide) (hq _ q_888) (fun _ h9 => h9) rfl dX9_depth_40 ?_
          refine lv_aload_n hx hb dX9_depth_43 rfl (lv_at hl 1 rfl) ?_
          refine va_get (D := D) (ci := 7) (v := .ref a_t_v) (C := RX9) (T := TX9) (N := 12) hx hb hq inX9g hown hK hP 0 rfl rfl 0 (by decide) (hq _ q_881) (fun _ h9 => h9) rfl dX9_depth_44 ?_
          refine lv_iload_n hx hb dX9_depth_47 rfl (lv_at hl 0 rfl) ?_
          refine lv_iconst (v := 2) hx hb dX9_depth_48 (by decide) ?_
          refine lv_iadd hx hb dX9_depth_49 ?_
          obtain ⟨hi9, h⟩ := h
          refine va_iald hx hb hK hP 1 0 rfl rfl hi9 dX9_depth_50 ?_
          obtain ⟨hi9, h⟩ := h
          refine va_iald hx hb hK hP 2 0 rfl rfl hi9 dX9_depth_51 ?_
          exact hJ52 (f_t_depths_7 (f_t_v (x2_22 + 2).toNatClampNeg).toNatClampNeg) _ _ _ hP hD hS (lv_sub hl [1, 2, 0] rfl) h
        · have h := h.1 c9
          refine lv_iconst (v := 0) hx hb dX9_depth_35 (by decide) ?_
          refine lv_goto (tgt := 52) hx hb dX9_depth_36 (by decide) ?_
          exact hJ52 0 _ _ _ hP hD hS (lv_sub hl [1, 2, 0] rfl) h
  obtain ⟨k9, h⟩ := h
  exact hL7 k9 0 f_t_depths _ _ _ hP hD hS (lv_sub hl [1, 0] rfl) h

abbrev qX9_tells (D : va_G) (ca : Nat → ClassId) (a_t a_t_v a_t_past a_t_costs a_t_into a_t_isNeeded a_t_depths a_t_names a_t_out a_t_has : Nat) (t_edits : Int32) (t_thrown : Int32) (Q : Int32 → (Nat → Int32) → Prop) (A : Nat → Prop) : Array Value → State → Outcome → State → Prop := va_Qv (fun (u : Int32 × (Nat → Int32)) => Q u.1 u.2) (wEnd D ca (fun u : Int32 × (Nat → Int32) => [(a_t, .inr (7, [.ref a_t_v, .ref a_t_past, .ref a_t_costs, .int t_edits, .int t_thrown, .ref a_t_into, .ref a_t_isNeeded, .ref a_t_depths, .ref a_t_names, .ref a_t_out, .int u.1, .ref a_t_has])), (a_t_out, .inl (ca 0, 2000, .inl u.2))]) A) A
def wX9_tells (t_outs : Int32) (f_t_out : Nat → Int32) (x1 : Int32) (Q : Int32 → (Nat → Int32) → Prop) : Prop :=
  (vp_in t_outs 2000 ∧ Q (t_outs + 1) (upd f_t_out t_outs.toNatClampNeg x1))
set_option maxHeartbeats 4000000 in
set_option maxRecDepth 100000 in
theorem mX9_tells (l : Launch) (D : va_G) (ca : Nat → ClassId) (a_t a_t_v a_t_past a_t_costs a_t_into a_t_isNeeded a_t_depths a_t_names a_t_out a_t_has : Nat) (sz : Nat) (t_edits : Int32) (t_thrown : Int32) (t_outs : Int32) (f_t_out : Nat → Int32) (x1 : Int32) (Q : Int32 → (Nat → Int32) → Prop) (h : wX9_tells t_outs f_t_out x1 Q) : Met l yX9_tells (Cond.code yX9_tells cX9_tells 2 none :: wsG) ({ frames := 0, cells := 0, slots := 0, locals := 0 } : Room) (va_Pc [.ref a_t, .int x1] (wPre D ca [(a_t, .inr (7, [.ref a_t_v, .ref a_t_past, .ref a_t_costs, .int t_edits, .int t_thrown, .ref a_t_into, .ref a_t_isNeeded, .ref a_t_depths, .ref a_t_names, .ref a_t_out, .int t_outs, .ref a_t_has])), (a_t_out, .inl (ca 0, 2000, .inl f_t_out))] sz)) (qX9_tells D ca a_t a_t_v a_t_past a_t_costs a_t_into a_t_isNeeded a_t_depths a_t_names a_t_out a_t_has t_edits t_thrown Q (va_A [(a_t, .inr (7, [.ref a_t_v, .ref a_t_past, .ref a_t_costs, .int t_edits, .int t_thrown, .ref a_t_into, .ref a_t_isNeeded, .ref a_t_depths, .ref a_t_names, .ref a_t_out, .int t_outs, .ref a_t_has])), (a_t_out, .inl (ca 0, 2000, .inl f_t_out))] sz)) 0 0 (va_A [(a_t, .inr (7, [.ref a_t_v, .ref a_t_past, .ref a_t_costs, .int t_edits, .int t_thrown, .ref a_t_into, .ref a_t_isNeeded, .ref a_t_depths, .ref a_t_names, .ref a_t_out, .int t_outs, .ref a_t_has])), (a_t_out, .inl (ca 0, 2000, .inl f_t_out))] sz) := by
  refine Met.ofW (cc := cX9_tells) (maxL := 2) (ret := none) (by decide) rfl ?_
  intro p e s m args below meth c s₁ B hml hv
  obtain ⟨rfl, hsz, hP, hK, hD0⟩ := hv
  have hx := B.exec
  have hb := B.bytes
  have hr := B.returns
  have hts := atoms_spec (ws := (Cond.code yX9_tells cX9_tells 2 none :: wsG)) B.pre
  have hq : ∀ w ∈ wsG, w.before _ s = true := fun w hw => hts w (List.mem_cons_of_mem _ hw)
  have hown : s.vm.findClass RX9 = some m.cls := findClass_of_methodNamed B.named
  have hlocks := B.notSynchronized
  subst hsz
  have hD := hD0.self (sz := s.heap.size)
  generalize hAe : va_A [(a_t, .inr (7, [.ref a_t_v, .ref a_t_past, .ref a_t_costs, .int t_edits, .int t_thrown, .ref a_t_into, .ref a_t_isNeeded, .ref a_t_depths, .ref a_t_names, .ref a_t_out, .int t_outs, .ref a_t_has])), (a_t_out, .inl (ca 0, 2000, .inl f_t_out))] s.heap.size = A at hD ⊢
  have hA : ∀ q : Nat, s.heap.size ≤ q → A q := fun q h => by rw [← hAe]; exact Or.inr h
  have hS : va_S A s.heap s.heap [] := va_S.rf
  have hP : va_P D vwCl [(a_t, .inr (7, [.ref a_t_v, .ref a_t_past, .ref a_t_costs, .int t_edits, .int t_thrown, .ref a_t_into, .ref a_t_isNeeded, .ref a_t_depths, .ref a_t_names, .ref a_t_out, .int t_outs, .ref a_t_has])), (a_t_out, .inl (ca 0, 2000, .inl f_t_out))] s.heap := hP
  have hl := lv_entry ([.ref a_t, .int x1]) (n := 2) (Nat.le_of_ble_eq_true rfl)
  rw [lg_entry_eq]
  generalize (lg_sl ([.ref a_t, .int x1]) ++ List.replicate (2 - (lg_sl ([.ref a_t, .int x1])).length) Slot.unset).toArray = ls at hl ⊢
  have hl : lv_has ls 2 [(0, .ref a_t), (1, .int x1)] := hl
  unfold wX9_tells at h
  refine lv_aload_n hx hb dX9_tells_0 rfl (lv_at hl 0 rfl) ?_
  refine va_get (D := D) (ci := 7) (v := .ref a_t_out) (C := RX9) (T := TX9) (N := 12) hx hb hq inX9g hown hK hP 0 rfl rfl 9 (by decide) (hq _ q_890) (fun _ h9 => h9) rfl dX9_tells_1 ?_
  refine lv_aload_n hx hb dX9_tells_4 rfl (lv_at hl 0 rfl) ?_
  refine va_get (D := D) (ci := 7) (v := .int t_outs) (C := RX9) (T := TX9) (N := 12) hx hb hq inX9g hown hK hP 0 rfl rfl 10 (by decide) (hq _ q_891) (fun _ h9 => h9) rfl dX9_tells_5 ?_
  refine lv_iload_n hx hb dX9_tells_8 rfl (lv_at hl 1 rfl) ?_
  obtain ⟨hi9, h⟩ := h
  refine va_iast hx hb hK hP hD hS 1 0 rfl rfl hi9 dX9_tells_9 (fun H locs hP hD hS => ?_)
  have hP : va_P D vwCl [(a_t, .inr (7, [.ref a_t_v, .ref a_t_past, .ref a_t_costs, .int t_edits, .int t_thrown, .ref a_t_into, .ref a_t_isNeeded, .ref a_t_depths, .ref a_t_names, .ref a_t_out, .int t_outs, .ref a_t_has])), (a_t_out, .inl (ca 0, 2000, .inl (upd f_t_out t_outs.toNatClampNeg x1)))] H := hP
  have hD : va_D A [(a_t, .inr (7, [.ref a_t_v, .ref a_t_past, .ref a_t_costs, .int t_edits, .int t_thrown, .ref a_t_into, .ref a_t_isNeeded, .ref a_t_depths, .ref a_t_names, .ref a_t_out, .int t_outs, .ref a_t_has])), (a_t_out, .inl (ca 0, 2000, .inl (upd f_t_out t_outs.toNatClampNeg x1)))] := hD
  refine lv_aload_n hx hb dX9_tells_10 rfl (lv_at hl 0 rfl) ?_
  refine lv_dup hx hb dX9_tells_11 rfl ?_
  refine va_get (D := D) (ci := 7) (v := .int t_outs) (C := RX9) (T := TX9) (N := 12) hx hb hq inX9g hown hK hP 0 rfl rfl 10 (by decide) (hq _ q_891) (fun _ h9 => h9) rfl dX9_tells_12 ?_
  refine lv_iconst (v := 1) hx hb dX9_tells_15 (by decide) ?_
  refine lv_iadd hx hb dX9_tells_16 ?_
  refine va_put (D := D) (ci := 7) (v := .int (t_outs + 1)) (ty := .int) (C := RX9) (T := TX9) (N := 12) hx hb hq inX9g tyX9 tyX9_ok nmX9 hown hK hP hD hS 0 rfl rfl 10 (by decide) (hq _ q_891) (fun _ h9 => h9) rfl (by decide +kernel) rfl rfl (Nat.le_of_ble_eq_true rfl) dX9_tells_17 (fun H locs hP hD hS => ?_)
  have hP : va_P D vwCl [(a_t, .inr (7, [.ref a_t_v, .ref a_t_past, .ref a_t_costs, .int t_edits, .int t_thrown, .ref a_t_into, .ref a_t_isNeeded, .ref a_t_depths, .ref a_t_names, .ref a_t_out, .int (t_outs + 1), .ref a_t_has])), (a_t_out, .inl (ca 0, 2000, .inl (upd f_t_out t_outs.toNatClampNeg x1)))] H := hP
  have hD : va_D A [(a_t, .inr (7, [.ref a_t_v, .ref a_t_past, .ref a_t_costs, .int t_edits, .int t_thrown, .ref a_t_into, .ref a_t_isNeeded, .ref a_t_depths, .ref a_t_names, .ref a_t_out, .int (t_outs + 1), .ref a_t_has])), (a_t_out, .inl (ca 0, 2000, .inl (upd f_t_out t_outs.toNatClampNeg x1)))] := hD
  exact W.vret hx hb hr (fun t ht hW => ⟨⟨(t_outs + 1, upd f_t_out t_outs.toNatClampNeg x1), rfl, h, by rw [ht]; exact hP, va_K.moved hW.alike hK, hD⟩, hS.F ht⟩) hS.2.2 dX9_tells_20

abbrev qX9_tellsWord (D : va_G) (ca : Nat → ClassId) (a_t a_t_v a_t_past a_t_costs a_t_into a_t_isNeeded a_t_depths a_t_names a_t_out a_t_has : Nat) (t_edits : Int32) (t_thrown : Int32) (f_t_names : Nat → Int32) (Q : Int32 → (Nat → Int32) → Prop) (A : Nat → Prop) : Array Value → State → Outcome → State → Prop := va_Qv (fun (u : Int32 × (Nat → Int32)) => Q u.1 u.2) (wEnd D ca (fun u : Int32 × (Nat → Int32) => [(a_t, .inr (7, [.ref a_t_v, .ref a_t_past, .ref a_t_costs, .int t_edits, .int t_thrown, .ref a_t_into, .ref a_t_isNeeded, .ref a_t_depths, .ref a_t_names, .ref a_t_out, .int u.1, .ref a_t_has])), (a_t_names, .inl (ca 2, 68, .inl f_t_names)), (a_t_out, .inl (ca 0, 2000, .inl u.2))]) A) A
def wX9_tellsWord_45 (x3_4 : Int32) (K4 : Int32 → Int32 → Int32 → (Nat → Int32) → Prop) (x2_45 : Int32) (t_outs_45 : Int32) (f_t_out_45 : Nat → Int32) : Prop :=
  (∀ x3_45 : Int32, x3_45 = x3_4 + 1 → K4 x2_45 x3_45 t_outs_45 f_t_out_45)
def wX9_tellsWord_4 (f_t_names : Nat → Int32) (x1 : Int32) (Q : Int32 → (Nat → Int32) → Prop) : Nat → Int32 → Int32 → Int32 → (Nat → Int32) → Prop
  | 0, _, _, _, _ => False
  | n9 + 1, x2_4, x3_4, t_outs_4, f_t_out_4 =>
  ((68 ≤ x3_4 → Q t_outs_4 f_t_out_4) ∧ (¬ 68 ≤ x3_4 → (vp_in x3_4 68 ∧ (((f_t_names x3_4.toNatClampNeg) = 59 → (∀ x2_24 : Int32, x2_24 = x2_4 + 1 → wX9_tellsWord_45 x3_4 (wX9_tellsWord_4 f_t_names x1 Q n9) x2_24 t_outs_4 f_t_out_4)) ∧ (¬ (f_t_names x3_4.toNatClampNeg) = 59 → ((x2_4 = x1 → (vp_in x3_4 68 ∧ wX9_tells t_outs_4 f_t_out_4 (f_t_names x3_4.toNatClampNeg) (fun t_outs_42 f_t_out_42 => wX9_tellsWord_45 x3_4 (wX9_tellsWord_4 f_t_names x1 Q n9) x2_4 t_outs_42 f_t_out_42))) ∧ (¬ x2_4 = x1 → wX9_tellsWord_45 x3_4 (wX9_tellsWord_4 f_t_names x1 Q n9) x2_4 t_outs_4 f_t_out_4)))))))
def wX9_tellsWord (t_outs : Int32) (f_t_names : Nat → Int32) (f_t_out : Nat → Int32) (x1 : Int32) (Q : Int32 → (Nat → Int32) → Prop) : Prop :=
  (∃ k9, wX9_tellsWord_4 f_t_names x1 Q k9 0 0 t_outs f_t_out)
set_option maxHeartbeats 4000000 in
set_option maxRecDepth 100000 in
theorem mX9_tellsWord (l : Launch) (D : va_G) (ca : Nat → ClassId) (a_t a_t_v a_t_past a_t_costs a_t_into a_t_isNeeded a_t_depths a_t_names a_t_out a_t_has : Nat) (sz : Nat) (t_edits : Int32) (t_thrown : Int32) (t_outs : Int32) (f_t_names : Nat → Int32) (f_t_out : Nat → Int32) (x1 : Int32) (Q : Int32 → (Nat → Int32) → Prop) (h : wX9_tellsWord t_outs f_t_names f_t_out x1 Q) : Met l yX9_tellsWord (Cond.code yX9_tellsWord cX9_tellsWord 4 none :: wsG) ({ frames := 1, cells := 0, slots := 0, locals := 21 } : Room) (va_Pc [.ref a_t, .int x1] (wPre D ca [(a_t, .inr (7, [.ref a_t_v, .ref a_t_past, .ref a_t_costs, .int t_edits, .int t_thrown, .ref a_t_into, .ref a_t_isNeeded, .ref a_t_depths, .ref a_t_names, .ref a_t_out, .int t_outs, .ref a_t_has])), (a_t_names, .inl (ca 2, 68, .inl f_t_names)), (a_t_out, .inl (ca 0, 2000, .inl f_t_out))] sz)) (qX9_tellsWord D ca a_t a_t_v a_t_past a_t_costs a_t_into a_t_isNeeded a_t_depths a_t_names a_t_out a_t_has t_edits t_thrown f_t_names Q (va_A [(a_t, .inr (7, [.ref a_t_v, .ref a_t_past, .ref a_t_costs, .int t_edits, .int t_thrown, .ref a_t_into, .ref a_t_isNeeded, .ref a_t_depths, .ref a_t_names, .ref a_t_out, .int t_outs, .ref a_t_has])), (a_t_names, .inl (ca 2, 68, .inl f_t_names)), (a_t_out, .inl (ca 0, 2000, .inl f_t_out))] sz)) 0 0 (va_A [(a_t, .inr (7, [.ref a_t_v, .ref a_t_past, .ref a_t_costs, .int t_edits, .int t_thrown, .ref a_t_into, .ref a_t_isNeeded, .ref a_t_depths, .ref a_t_names, .ref a_t_out, .int t_outs, .ref a_t_has])), (a_t_names, .inl (ca 2, 68, .inl f_t_names)), (a_t_out, .inl (ca 0, 2000, .inl f_t_out))] sz) := by
  refine Met.ofW (cc := cX9_tellsWord) (maxL := 4) (ret := none) (by decide) rfl ?_
  intro p e s m args below meth c s₁ B hml hv
  obtain ⟨rfl, hsz, hP, hK, hD0⟩ := hv
  have hx := B.exec
  have hb := B.bytes
  have hr := B.returns
  have hts := atoms_spec (ws := (Cond.code yX9_tellsWord cX9_tellsWord 4 none :: wsG)) B.pre
  have hq : ∀ w ∈ wsG, w.before _ s = true := fun w hw => hts w (List.mem_cons_of_mem _ hw)
  have hown : s.vm.findClass RX9 = some m.cls := findClass_of_methodNamed B.named
  have hlocks := B.notSynchronized
  subst hsz
  have hD := hD0.self (sz := s.heap.size)
  generalize hAe : va_A [(a_t, .inr (7, [.ref a_t_v, .ref a_t_past, .ref a_t_costs, .int t_edits, .int t_thrown, .ref a_t_into, .ref a_t_isNeeded, .ref a_t_depths, .ref a_t_names, .ref a_t_out, .int t_outs, .ref a_t_has])), (a_t_names, .inl (ca 2, 68, .inl f_t_names)), (a_t_out, .inl (ca 0, 2000, .inl f_t_out))] s.heap.size = A at hD ⊢
  have hA : ∀ q : Nat, s.heap.size ≤ q → A q := fun q h => by rw [← hAe]; exact Or.inr h
  have hS : va_S A s.heap s.heap [] := va_S.rf
  have hP : va_P D vwCl [(a_t, .inr (7, [.ref a_t_v, .ref a_t_past, .ref a_t_costs, .int t_edits, .int t_thrown, .ref a_t_into, .ref a_t_isNeeded, .ref a_t_depths, .ref a_t_names, .ref a_t_out, .int t_outs, .ref a_t_has])), (a_t_names, .inl (ca 2, 68, .inl f_t_names)), (a_t_out, .inl (ca 0, 2000, .inl f_t_out))] s.heap := hP
  have hl := lv_entry ([.ref a_t, .int x1]) (n := 4) (Nat.le_of_ble_eq_true rfl)
  rw [lg_entry_eq]
  generalize (lg_sl ([.ref a_t, .int x1]) ++ List.replicate (4 - (lg_sl ([.ref a_t, .int x1])).length) Slot.unset).toArray = ls at hl ⊢
  have hl : lv_has ls 4 [(0, .ref a_t), (1, .int x1)] := hl
  unfold wX9_tellsWord at h
  refine lv_iconst (v := 0) hx hb dX9_tellsWord_0 (by decide) ?_
  refine lv_istore_n (lv' := [(2, .int 0), (0, .ref a_t), (1, .int x1)]) hx hb dX9_tellsWord_1 rfl hl (by decide) rfl (fun ls hl => ?_)
  refine lv_iconst (v := 0) hx hb dX9_tellsWord_2 (by decide) ?_
  refine lv_istore_n (lv' := [(3, .int 0), (2, .int 0), (0, .ref a_t), (1, .int x1)]) hx hb dX9_tellsWord_3 rfl hl (by decide) rfl (fun ls hl => ?_)
  have hL4 : ∀ (n9_4 : Nat) (x2_4 : Int32) (x3_4 : Int32) (t_outs_4 : Int32) (f_t_out_4 : Nat → Int32) (H : Heap) (locs : List Loc) (ls : Array Slot), va_P D vwCl [(a_t, .inr (7, [.ref a_t_v, .ref a_t_past, .ref a_t_costs, .int t_edits, .int t_thrown, .ref a_t_into, .ref a_t_isNeeded, .ref a_t_depths, .ref a_t_names, .ref a_t_out, .int t_outs_4, .ref a_t_has])), (a_t_names, .inl (ca 2, 68, .inl f_t_names)), (a_t_out, .inl (ca 0, 2000, .inl f_t_out_4))] H → va_D A [(a_t, .inr (7, [.ref a_t_v, .ref a_t_past, .ref a_t_costs, .int t_edits, .int t_thrown, .ref a_t_into, .ref a_t_isNeeded, .ref a_t_depths, .ref a_t_names, .ref a_t_out, .int t_outs_4, .ref a_t_has])), (a_t_names, .inl (ca 2, 68, .inl f_t_names)), (a_t_out, .inl (ca 0, 2000, .inl f_t_out_4))] → va_S A s.heap H locs → lv_has ls 4 [(0, .ref a_t), (1, .int x1), (2, .int x2_4), (3, .int x3_4)] → wX9_tellsWord_4 f_t_names x1 Q n9_4 x2_4 x3_4 t_outs_4 f_t_out_4 → W p l e (headSpec (Cond.code yX9_tellsWord cX9_tellsWord 4 none :: wsG) ({ frames := 1, cells := 0, slots := 0, locals := 21 } : Room)).room s m ([.ref a_t, .int x1] : List Value).toArray below meth c H locs 0 0 (MQ below (qX9_tellsWord D ca a_t a_t_v a_t_past a_t_costs a_t_into a_t_isNeeded a_t_depths a_t_names a_t_out a_t_has t_edits t_thrown f_t_names Q A) ([.ref a_t, .int x1] : List Value).toArray s 0 0 A) (F0 m 4 ls []) := by
    intro n9_4
    induction n9_4 with
    | zero =>
      intro x2_4 x3_4 t_outs_4 f_t_out_4 H locs ls hP hD hS hl h
      exact False.elim h
    | succ n9_4 ih4 =>
      intro x2_4 x3_4 t_outs_4 f_t_out_4 H locs ls hP hD hS hl h
      unfold wX9_tellsWord_4 at h
      refine lv_iload_n hx hb dX9_tellsWord_4 rfl (lv_at hl 3 rfl) ?_
      refine lv_aload_n hx hb dX9_tellsWord_5 rfl (lv_at hl 0 rfl) ?_
      refine va_get (D := D) (ci := 7) (v := .ref a_t_names) (C := RX9) (T := TX9) (N := 12) hx hb hq inX9g hown hK hP 0 rfl rfl 8 (by decide) (hq _ q_889) (fun _ h9 => h9) rfl dX9_tellsWord_6 ?_
      refine va_alen (v := 68) hx hb hK hP 1 2 rfl rfl rfl dX9_tellsWord_9 ?_
      refine lv_icmp_ge (tgt := 51) hx hb dX9_tellsWord_10 (by decide) (fun c9 => ?_) (fun c9 => ?_)
      · have h := h.1 c9
        exact W.vret hx hb hr (fun t ht hW => ⟨⟨(t_outs_4, f_t_out_4), rfl, h, by rw [ht]; exact hP, va_K.moved hW.alike hK, hD⟩, hS.F ht⟩) hS.2.2 dX9_tellsWord_51
      · have h := h.2 c9
        refine lv_aload_n hx hb dX9_tellsWord_13 rfl (lv_at hl 0 rfl) ?_
        refine va_get (D := D) (ci := 7) (v := .ref a_t_names) (C := RX9) (T := TX9) (N := 12) hx hb hq inX9g hown hK hP 0 rfl rfl 8 (by decide) (hq _ q_889) (fun _ h9 => h9) rfl dX9_tellsWord_14 ?_
        refine lv_iload_n hx hb dX9_tellsWord_17 rfl (lv_at hl 3 rfl) ?_
        obtain ⟨hi9, h⟩ := h
        refine va_cald hx hb hK hP 1 2 rfl rfl hi9 dX9_tellsWord_18 ?_
        refine lv_bipush (v := 59) hx hb dX9_tellsWord_19 (by decide) ?_
        have hJ45 : ∀ (x2_45 : Int32) (t_outs_45 : Int32) (f_t_out_45 : Nat → Int32) (H : Heap) (locs : List Loc) (ls : Array Slot), va_P D vwCl [(a_t, .inr (7, [.ref a_t_v, .ref a_t_past, .ref a_t_costs, .int t_edits, .int t_thrown, .ref a_t_into, .ref a_t_isNeeded, .ref a_t_depths, .ref a_t_names, .ref a_t_out, .int t_outs_45, .ref a_t_has])), (a_t_names, .inl (ca 2, 68, .inl f_t_names)), (a_t_out, .inl (ca 0, 2000, .inl f_t_out_45))] H → va_D A [(a_t, .inr (7, [.ref a_t_v, .ref a_t_past, .ref a_t_costs, .int t_edits, .int t_thrown, .ref a_t_into, .ref a_t_isNeeded, .ref a_t_depths, .ref a_t_names, .ref a_t_out, .int t_outs_45, .ref a_t_has])), (a_t_names, .inl (ca 2, 68, .inl f_t_names)), (a_t_out, .inl (ca 0, 2000, .inl f_t_out_45))] → va_S A s.heap H locs → lv_has ls 4 [(0, .ref a_t), (1, .int x1), (2, .int x2_45), (3, .int x3_4)] → wX9_tellsWord_45 x3_4 (wX9_tellsWord_4 f_t_names x1 Q n9_4) x2_45 t_outs_45 f_t_out_45 → W p l e (headSpec (Cond.code yX9_tellsWord cX9_tellsWord 4 none :: wsG) ({ frames := 1, cells := 0, slots := 0, locals := 21 } : Room)).room s m ([.ref a_t, .int x1] : List Value).toArray below meth c H locs 0 0 (MQ below (qX9_tellsWord D ca a_t a_t_v a_t_past a_t_costs a_t_into a_t_isNeeded a_t_depths a_t_names a_t_out a_t_has t_edits t_thrown f_t_names Q A) ([.ref a_t, .int x1] : List Value).toArray s 0 0 A) (F0 m 45 ls []) := by
          intro x2_45 t_outs_45 f_t_out_45 H locs ls hP hD hS hl h
          unfold wX9_tellsWord_45 at h
          obtain ⟨x3_45, ex3_45⟩ : ∃ y : Int32, y = x3_4 + 1 := ⟨_, rfl⟩
          have h := h x3_45 ex3_45
          refine lv_iinc (v := x3_45) (lv' := [(3, .int x3_45), (0, .ref a_t), (1, .int x1), (2, .int x2_45)]) hx hb dX9_tellsWord_45 hl (k := 3) rfl (by rw [ex3_45]; rfl) (by decide) rfl (fun ls hl => ?_)
          refine lv_goto (tgt := 4) hx hb dX9_tellsWord_48 (by decide) ?_
          exact ih4 x2_45 x3_45 t_outs_45 f_t_out_45 _ _ _ hP hD hS (lv_sub hl [1, 2, 3, 0] rfl) h
        refine lv_icmp_ne (tgt := 30) hx hb dX9_tellsWord_21 (by decide) (fun c9 => ?_) (fun c9 => ?_)
        · have h := h.2 c9
          refine lv_iload_n hx hb dX9_tellsWord_30 rfl (lv_at hl 2 rfl) ?_
          refine lv_iload_n hx hb dX9_tellsWord_31 rfl (lv_at hl 1 rfl) ?_
          refine lv_icmp_ne (tgt := 45) hx hb dX9_tellsWord_32 (by decide) (fun c9 => ?_) (fun c9 => ?_)
          · have h := h.2 c9
            exact hJ45 x2_4 t_outs_4 f_t_out_4 _ _ _ hP hD hS (lv_sub hl [0, 1, 2, 3] rfl) h
          · have h := h.1 c9
            refine lv_aload_n hx hb dX9_tellsWord_35 rfl (lv_at hl 0 rfl) ?_
            refine lv_aload_n hx hb dX9_tellsWord_36 rfl (lv_at hl 0 rfl) ?_
            refine va_get (D := D) (ci := 7) (v := .ref a_t_names) (C := RX9) (T := TX9) (N := 12) hx hb hq inX9g hown hK hP 0 rfl rfl 8 (by decide) (hq _ q_889) (fun _ h9 => h9) rfl dX9_tellsWord_37 ?_
            refine lv_iload_n hx hb dX9_tellsWord_40 rfl (lv_at hl 3 rfl) ?_
            obtain ⟨hi9, h⟩ := h
            refine va_cald hx hb hK hP 1 2 rfl rfl hi9 dX9_tellsWord_41 ?_
            refine cVv (As := [.int (f_t_names x3_4.toNatClampNeg)]) (rest := []) (wc := [(a_t, .inr (7, [.ref a_t_v, .ref a_t_past, .ref a_t_costs, .int t_edits, .int t_thrown, .ref a_t_into, .ref a_t_isNeeded, .ref a_t_depths, .ref a_t_names, .ref a_t_out, .int t_outs_4, .ref a_t_has])), (a_t_out, .inl (ca 0, 2000, .inl f_t_out_4))]) (wr := [(a_t_names, .inl (ca 2, 68, .inl f_t_names))]) (w1 := fun u : Int32 × (Nat → Int32) => [(a_t, .inr (7, [.ref a_t_v, .ref a_t_past, .ref a_t_costs, .int t_edits, .int t_thrown, .ref a_t_into, .ref a_t_isNeeded, .ref a_t_depths, .ref a_t_names, .ref a_t_out, .int u.1, .ref a_t_has])), (a_t_out, .inl (ca 0, 2000, .inl u.2))]) (ws2 := fun u : Int32 × (Nat → Int32) => [(a_t, .inr (7, [.ref a_t_v, .ref a_t_past, .ref a_t_costs, .int t_edits, .int t_thrown, .ref a_t_into, .ref a_t_isNeeded, .ref a_t_depths, .ref a_t_names, .ref a_t_out, .int u.1, .ref a_t_has])), (a_t_names, .inl (ca 2, 68, .inl f_t_names)), (a_t_out, .inl (ca 0, 2000, .inl u.2))]) ⟨hx, hb, hml, hown, hts⟩ (mX9_tells l D ca a_t a_t_v a_t_past a_t_costs a_t_into a_t_isNeeded a_t_depths a_t_names a_t_out a_t_has _ t_edits t_thrown t_outs_4 f_t_out_4 (f_t_names x3_4.toNatClampNeg) _ h) (cwV 1 hts (gV q_1154 q_1156 qs_60 q_8 q_1157) rfl rfl rfl (by decide +kernel) ⟨Nat.le_of_ble_eq_true rfl, Nat.le_of_ble_eq_true rfl⟩) hK hP hD hS hA [0, 2] [1] [1, 0, 2] rfl rfl rfl (by decide) (fun _ => rfl) (ci := 7) (q0 := 0) rfl rfl rfl hl.1 rfl (Nat.le_of_ble_eq_true rfl) dX9_tellsWord_42 ⟨Nat.le_of_ble_eq_true rfl, Nat.le_of_ble_eq_true rfl⟩ (fun u9 H locs h hP hD hS => ?_)
            obtain ⟨t_outs_42, f_t_out_42⟩ := u9
            have hP : va_P D vwCl [(a_t, .inr (7, [.ref a_t_v, .ref a_t_past, .ref a_t_costs, .int t_edits, .int t_thrown, .ref a_t_into, .ref a_t_isNeeded, .ref a_t_depths, .ref a_t_names, .ref a_t_out, .int t_outs_42, .ref a_t_has])), (a_t_names, .inl (ca 2, 68, .inl f_t_names)), (a_t_out, .inl (ca 0, 2000, .inl f_t_out_42))] H := hP
            have hD : va_D A [(a_t, .inr (7, [.ref a_t_v, .ref a_t_past, .ref a_t_costs, .int t_edits, .int t_thrown, .ref a_t_into, .ref a_t_isNeeded, .ref a_t_depths, .ref a_t_names, .ref a_t_out, .int t_outs_42, .ref a_t_has])), (a_t_names, .inl (ca 2, 68, .inl f_t_names)), (a_t_out, .inl (ca 0, 2000, .inl f_t_out_42))] := hD
            try dsimp only at h
            exact hJ45 x2_4 t_outs_42 f_t_out_42 _ _ _ hP hD hS (lv_sub hl [0, 1, 2, 3] rfl) h
        · have h := h.1 c9
          obtain ⟨x2_24, ex2_24⟩ : ∃ y : Int32, y = x2_4 + 1 := ⟨_, rfl⟩
          have h := h x2_24 ex2_24
          refine lv_iinc (v := x2_24) (lv' := [(2, .int x2_24), (0, .ref a_t), (1, .int x1), (3, .int x3_4)]) hx hb dX9_tellsWord_24 hl (k := 2) rfl (by rw [ex2_24]; rfl) (by decide) rfl (fun ls hl => ?_)
          refine lv_goto (tgt := 45) hx hb dX9_tellsWord_27 (by decide) ?_
          exact hJ45 x2_24 t_outs_4 f_t_out_4 _ _ _ hP hD hS (lv_sub hl [1, 2, 0, 3] rfl) h
  obtain ⟨k9, h⟩ := h
  exact hL4 k9 0 0 t_outs f_t_out _ _ _ hP hD hS (lv_sub hl [2, 3, 1, 0] rfl) h

abbrev qX9_tellsNumber (D : va_G) (ca : Nat → ClassId) (a_t a_t_v a_t_past a_t_costs a_t_into a_t_isNeeded a_t_depths a_t_names a_t_out a_t_has : Nat) (t_edits : Int32) (t_thrown : Int32) (Q : Int32 → (Nat → Int32) → Prop) (A : Nat → Prop) : Array Value → State → Outcome → State → Prop := va_Qv (fun (u : Int32 × (Nat → Int32)) => Q u.1 u.2) (wEnd D ca (fun u : Int32 × (Nat → Int32) => [(a_t, .inr (7, [.ref a_t_v, .ref a_t_past, .ref a_t_costs, .int t_edits, .int t_thrown, .ref a_t_into, .ref a_t_isNeeded, .ref a_t_depths, .ref a_t_names, .ref a_t_out, .int u.1, .ref a_t_has])), (a_t_out, .inl (ca 0, 2000, .inl u.2))]) A) A
def wX9_tellsNumber_18 (x1 : Int32) (Q : Int32 → (Nat → Int32) → Prop) : Nat → Int32 → Int32 → (Nat → Int32) → Prop
  | 0, _, _, _ => False
  | n9 + 1, x2_18, t_outs_18, f_t_out_18 =>
  ((x2_18 ≤ 0 → Q t_outs_18 f_t_out_18) ∧ (¬ x2_18 ≤ 0 → (¬ x2_18 = 0 ∧ wX9_tells t_outs_18 f_t_out_18 (48 + ((x1 / x2_18) - (x1 / x2_18) / 10 * 10)) (fun t_outs_32 f_t_out_32 => (∀ x2_39 : Int32, x2_39 = x2_18 / 10 → (wX9_tellsNumber_18 x1 Q n9) x2_39 t_outs_32 f_t_out_32)))))
def wX9_tellsNumber_2 (t_outs : Int32) (f_t_out : Nat → Int32) (x1 : Int32) (Q : Int32 → (Nat → Int32) → Prop) : Nat → Int32 → Prop
  | 0, _ => False
  | n9 + 1, x2_2 =>
  (¬ x2_2 = 0 ∧ (((x1 / x2_2) < 10 → (∃ k9, wX9_tellsNumber_18 x1 Q k9 x2_2 t_outs f_t_out)) ∧ (¬ (x1 / x2_2) < 10 → (∀ x2_14 : Int32, x2_14 = x2_2 * 10 → (wX9_tellsNumber_2 t_outs f_t_out x1 Q n9) x2_14))))
def wX9_tellsNumber (t_outs : Int32) (f_t_out : Nat → Int32) (x1 : Int32) (Q : Int32 → (Nat → Int32) → Prop) : Prop :=
  (∃ k9, wX9_tellsNumber_2 t_outs f_t_out x1 Q k9 1)
set_option maxHeartbeats 4000000 in
set_option maxRecDepth 100000 in
theorem mX9_tellsNumber (l : Launch) (D : va_G) (ca : Nat → ClassId) (a_t a_t_v a_t_past a_t_costs a_t_into a_t_isNeeded a_t_depths a_t_names a_t_out a_t_has : Nat) (sz : Nat) (t_edits : Int32) (t_thrown : Int32) (t_outs : Int32) (f_t_out : Nat → Int32) (x1 : Int32) (Q : Int32 → (Nat → Int32) → Prop) (h : wX9_tellsNumber t_outs f_t_out x1 Q) : Met l yX9_tellsNumber (Cond.code yX9_tellsNumber cX9_tellsNumber 3 none :: wsG) ({ frames := 1, cells := 0, slots := 0, locals := 21 } : Room) (va_Pc [.ref a_t, .int x1] (wPre D ca [(a_t, .inr (7, [.ref a_t_v, .ref a_t_past, .ref a_t_costs, .int t_edits, .int t_thrown, .ref a_t_into, .ref a_t_isNeeded, .ref a_t_depths, .ref a_t_names, .ref a_t_out, .int t_outs, .ref a_t_has])), (a_t_out, .inl (ca 0, 2000, .inl f_t_out))] sz)) (qX9_tellsNumber D ca a_t a_t_v a_t_past a_t_costs a_t_into a_t_isNeeded a_t_depths a_t_names a_t_out a_t_has t_edits t_thrown Q (va_A [(a_t, .inr (7, [.ref a_t_v, .ref a_t_past, .ref a_t_costs, .int t_edits, .int t_thrown, .ref a_t_into, .ref a_t_isNeeded, .ref a_t_depths, .ref a_t_names, .ref a_t_out, .int t_outs, .ref a_t_has])), (a_t_out, .inl (ca 0, 2000, .inl f_t_out))] sz)) 0 0 (va_A [(a_t, .inr (7, [.ref a_t_v, .ref a_t_past, .ref a_t_costs, .int t_edits, .int t_thrown, .ref a_t_into, .ref a_t_isNeeded, .ref a_t_depths, .ref a_t_names, .ref a_t_out, .int t_outs, .ref a_t_has])), (a_t_out, .inl (ca 0, 2000, .inl f_t_out))] sz) := by
  refine Met.ofW (cc := cX9_tellsNumber) (maxL := 3) (ret := none) (by decide) rfl ?_
  intro p e s m args below meth c s₁ B hml hv
  obtain ⟨rfl, hsz, hP, hK, hD0⟩ := hv
  have hx := B.exec
  have hb := B.bytes
  have hr := B.returns
  have hts := atoms_spec (ws := (Cond.code yX9_tellsNumber cX9_tellsNumber 3 none :: wsG)) B.pre
  have hq : ∀ w ∈ wsG, w.before _ s = true := fun w hw => hts w (List.mem_cons_of_mem _ hw)
  have hown : s.vm.findClass RX9 = some m.cls := findClass_of_methodNamed B.named
  have hlocks := B.notSynchronized
  subst hsz
  have hD := hD0.self (sz := s.heap.size)
  generalize hAe : va_A [(a_t, .inr (7, [.ref a_t_v, .ref a_t_past, .ref a_t_costs, .int t_edits, .int t_thrown, .ref a_t_into, .ref a_t_isNeeded, .ref a_t_depths, .ref a_t_names, .ref a_t_out, .int t_outs, .ref a_t_has])), (a_t_out, .inl (ca 0, 2000, .inl f_t_out))] s.heap.size = A at hD ⊢
  have hA : ∀ q : Nat, s.heap.size ≤ q → A q := fun q h => by rw [← hAe]; exact Or.inr h
  have hS : va_S A s.heap s.heap [] := va_S.rf
  have hP : va_P D vwCl [(a_t, .inr (7, [.ref a_t_v, .ref a_t_past, .ref a_t_costs, .int t_edits, .int t_thrown, .ref a_t_into, .ref a_t_isNeeded, .ref a_t_depths, .ref a_t_names, .ref a_t_out, .int t_outs, .ref a_t_has])), (a_t_out, .inl (ca 0, 2000, .inl f_t_out))] s.heap := hP
  have hl := lv_entry ([.ref a_t, .int x1]) (n := 3) (Nat.le_of_ble_eq_true rfl)
  rw [lg_entry_eq]
  generalize (lg_sl ([.ref a_t, .int x1]) ++ List.replicate (3 - (lg_sl ([.ref a_t, .int x1])).length) Slot.unset).toArray = ls at hl ⊢
  have hl : lv_has ls 3 [(0, .ref a_t), (1, .int x1)] := hl
  unfold wX9_tellsNumber at h
  refine lv_iconst (v := 1) hx hb dX9_tellsNumber_0 (by decide) ?_
  refine lv_istore_n (lv' := [(2, .int 1), (0, .ref a_t), (1, .int x1)]) hx hb dX9_tellsNumber_1 rfl hl (by decide) rfl (fun ls hl => ?_)
  have hL2 : ∀ (n9_2 : Nat) (x2_2 : Int32) (H : Heap) (locs : List Loc) (ls : Array Slot), va_P D vwCl [(a_t, .inr (7, [.ref a_t_v, .ref a_t_past, .ref a_t_costs, .int t_edits, .int t_thrown, .ref a_t_into, .ref a_t_isNeeded, .ref a_t_depths, .ref a_t_names, .ref a_t_out, .int t_outs, .ref a_t_has])), (a_t_out, .inl (ca 0, 2000, .inl f_t_out))] H → va_D A [(a_t, .inr (7, [.ref a_t_v, .ref a_t_past, .ref a_t_costs, .int t_edits, .int t_thrown, .ref a_t_into, .ref a_t_isNeeded, .ref a_t_depths, .ref a_t_names, .ref a_t_out, .int t_outs, .ref a_t_has])), (a_t_out, .inl (ca 0, 2000, .inl f_t_out))] → va_S A s.heap H locs → lv_has ls 3 [(0, .ref a_t), (1, .int x1), (2, .int x2_2)] → wX9_tellsNumber_2 t_outs f_t_out x1 Q n9_2 x2_2 → W p l e (headSpec (Cond.code yX9_tellsNumber cX9_tellsNumber 3 none :: wsG) ({ frames := 1, cells := 0, slots := 0, locals := 21 } : Room)).room s m ([.ref a_t, .int x1] : List Value).toArray below meth c H locs 0 0 (MQ below (qX9_tellsNumber D ca a_t a_t_v a_t_past a_t_costs a_t_into a_t_isNeeded a_t_depths a_t_names a_t_out a_t_has t_edits t_thrown Q A) ([.ref a_t, .int x1] : List Value).toArray s 0 0 A) (F0 m 2 ls []) := by
    intro n9_2
    induction n9_2 with
    | zero =>
      intro x2_2 H locs ls hP hD hS hl h
      exact False.elim h
    | succ n9_2 ih2 =>
      intro x2_2 H locs ls hP hD hS hl h
      unfold wX9_tellsNumber_2 at h
      refine lv_iload_n hx hb dX9_tellsNumber_2 rfl (lv_at hl 1 rfl) ?_
      refine lv_iload_n hx hb dX9_tellsNumber_3 rfl (lv_at hl 2 rfl) ?_
      obtain ⟨hne9, h⟩ := h
      refine lv_idiv hx hb dX9_tellsNumber_4 hne9 ?_
      refine lv_bipush (v := 10) hx hb dX9_tellsNumber_5 (by decide) ?_
      have hL18 : ∀ (n9_18 : Nat) (x2_18 : Int32) (t_outs_18 : Int32) (f_t_out_18 : Nat → Int32) (H : Heap) (locs : List Loc) (ls : Array Slot), va_P D vwCl [(a_t, .inr (7, [.ref a_t_v, .ref a_t_past, .ref a_t_costs, .int t_edits, .int t_thrown, .ref a_t_into, .ref a_t_isNeeded, .ref a_t_depths, .ref a_t_names, .ref a_t_out, .int t_outs_18, .ref a_t_has])), (a_t_out, .inl (ca 0, 2000, .inl f_t_out_18))] H → va_D A [(a_t, .inr (7, [.ref a_t_v, .ref a_t_past, .ref a_t_costs, .int t_edits, .int t_thrown, .ref a_t_into, .ref a_t_isNeeded, .ref a_t_depths, .ref a_t_names, .ref a_t_out, .int t_outs_18, .ref a_t_has])), (a_t_out, .inl (ca 0, 2000, .inl f_t_out_18))] → va_S A s.heap H locs → lv_has ls 3 [(0, .ref a_t), (1, .int x1), (2, .int x2_18)] → wX9_tellsNumber_18 x1 Q n9_18 x2_18 t_outs_18 f_t_out_18 → W p l e (headSpec (Cond.code yX9_tellsNumber cX9_tellsNumber 3 none :: wsG) ({ frames := 1, cells := 0, slots := 0, locals := 21 } : Room)).room s m ([.ref a_t, .int x1] : List Value).toArray below meth c H locs 0 0 (MQ below (qX9_tellsNumber D ca a_t a_t_v a_t_past a_t_costs a_t_into a_t_isNeeded a_t_depths a_t_names a_t_out a_t_has t_edits t_thrown Q A) ([.ref a_t, .int x1] : List Value).toArray s 0 0 A) (F0 m 18 ls []) := by
        intro n9_18
        induction n9_18 with
        | zero =>
          intro x2_18 t_outs_18 f_t_out_18 H locs ls hP hD hS hl h
          exact False.elim h
        | succ n9_18 ih18 =>
          intro x2_18 t_outs_18 f_t_out_18 H locs ls hP hD hS hl h
          unfold wX9_tellsNumber_18 at h
          refine lv_iload_n hx hb dX9_tellsNumber_18 rfl (lv_at hl 2 rfl) ?_
          refine lv_if_le (tgt := 43) hx hb dX9_tellsNumber_19 (by decide) (fun c9 => ?_) (fun c9 => ?_)
          · have h := h.1 c9
            exact W.vret hx hb hr (fun t ht hW => ⟨⟨(t_outs_18, f_t_out_18), rfl, h, by rw [ht]; exact hP, va_K.moved hW.alike hK, hD⟩, hS.F ht⟩) hS.2.2 dX9_tellsNumber_43
          · have h := h.2 c9
            refine lv_aload_n hx hb dX9_tellsNumber_22 rfl (lv_at hl 0 rfl) ?_
            refine lv_bipush (v := 48) hx hb dX9_tellsNumber_23 (by decide) ?_
            refine lv_iload_n hx hb dX9_tellsNumber_25 rfl (lv_at hl 1 rfl) ?_
            refine lv_iload_n hx hb dX9_tellsNumber_26 rfl (lv_at hl 2 rfl) ?_
            obtain ⟨hne9, h⟩ := h
            refine lv_idiv hx hb dX9_tellsNumber_27 hne9 ?_
            refine lv_bipush (v := 10) hx hb dX9_tellsNumber_28 (by decide) ?_
            refine lv_irem hx hb dX9_tellsNumber_30 (by decide) ?_
            refine lv_iadd hx hb dX9_tellsNumber_31 ?_
            refine cVv (As := [.int (48 + ((x1 / x2_18) - (x1 / x2_18) / 10 * 10))]) (rest := []) (wc := [(a_t, .inr (7, [.ref a_t_v, .ref a_t_past, .ref a_t_costs, .int t_edits, .int t_thrown, .ref a_t_into, .ref a_t_isNeeded, .ref a_t_depths, .ref a_t_names, .ref a_t_out, .int t_outs_18, .ref a_t_has])), (a_t_out, .inl (ca 0, 2000, .inl f_t_out_18))]) (wr := []) (w1 := fun u : Int32 × (Nat → Int32) => [(a_t, .inr (7, [.ref a_t_v, .ref a_t_past, .ref a_t_costs, .int t_edits, .int t_thrown, .ref a_t_into, .ref a_t_isNeeded, .ref a_t_depths, .ref a_t_names, .ref a_t_out, .int u.1, .ref a_t_has])), (a_t_out, .inl (ca 0, 2000, .inl u.2))]) (ws2 := fun u : Int32 × (Nat → Int32) => [(a_t, .inr (7, [.ref a_t_v, .ref a_t_past, .ref a_t_costs, .int t_edits, .int t_thrown, .ref a_t_into, .ref a_t_isNeeded, .ref a_t_depths, .ref a_t_names, .ref a_t_out, .int u.1, .ref a_t_has])), (a_t_out, .inl (ca 0, 2000, .inl u.2))]) ⟨hx, hb, hml, hown, hts⟩ (mX9_tells l D ca a_t a_t_v a_t_past a_t_costs a_t_into a_t_isNeeded a_t_depths a_t_names a_t_out a_t_has _ t_edits t_thrown t_outs_18 f_t_out_18 (48 + ((x1 / x2_18) - (x1 / x2_18) / 10 * 10)) _ h) (cwV 1 hts (gV q_1154 q_1156 qs_60 q_8 q_1157) rfl rfl rfl (by decide +kernel) ⟨Nat.le_of_ble_eq_true rfl, Nat.le_of_ble_eq_true rfl⟩) hK hP hD hS hA [0, 1] [] [0, 1] rfl rfl rfl (by decide) (fun _ => rfl) (ci := 7) (q0 := 0) rfl rfl rfl hl.1 rfl (Nat.le_of_ble_eq_true rfl) dX9_tellsNumber_32 ⟨Nat.le_of_ble_eq_true rfl, Nat.le_of_ble_eq_true rfl⟩ (fun u9 H locs h hP hD hS => ?_)
            obtain ⟨t_outs_32, f_t_out_32⟩ := u9
            have hP : va_P D vwCl [(a_t, .inr (7, [.ref a_t_v, .ref a_t_past, .ref a_t_costs, .int t_edits, .int t_thrown, .ref a_t_into, .ref a_t_isNeeded, .ref a_t_depths, .ref a_t_names, .ref a_t_out, .int t_outs_32, .ref a_t_has])), (a_t_out, .inl (ca 0, 2000, .inl f_t_out_32))] H := hP
            have hD : va_D A [(a_t, .inr (7, [.ref a_t_v, .ref a_t_past, .ref a_t_costs, .int t_edits, .int t_thrown, .ref a_t_into, .ref a_t_isNeeded, .ref a_t_depths, .ref a_t_names, .ref a_t_out, .int t_outs_32, .ref a_t_has])), (a_t_out, .inl (ca 0, 2000, .inl f_t_out_32))] := hD
            try dsimp only at h
            refine lv_iload_n hx hb dX9_tellsNumber_35 rfl (lv_at hl 2 rfl) ?_
            refine lv_bipush (v := 10) hx hb dX9_tellsNumber_36 (by decide) ?_
            refine lv_idiv hx hb dX9_tellsNumber_38 (by decide) ?_
            refine lv_topi (fun x2_39 ex2_39 => ?_)
            have h := h x2_39 ex2_39
            refine lv_istore_n (lv' := [(2, .int x2_39), (0, .ref a_t), (1, .int x1)]) hx hb dX9_tellsNumber_39 rfl hl (by decide) rfl (fun ls hl => ?_)
            refine lv_goto (tgt := 18) hx hb dX9_tellsNumber_40 (by decide) ?_
            exact ih18 x2_39 t_outs_32 f_t_out_32 _ _ _ hP hD hS (lv_sub hl [1, 2, 0] rfl) h
      refine lv_icmp_lt (tgt := 18) hx hb dX9_tellsNumber_7 (by decide) (fun c9 => ?_) (fun c9 => ?_)
      · have h := h.1 c9
        obtain ⟨k9, h⟩ := h
        exact hL18 k9 x2_2 t_outs f_t_out _ _ _ hP hD hS (lv_sub hl [0, 1, 2] rfl) h
      · have h := h.2 c9
        refine lv_iload_n hx hb dX9_tellsNumber_10 rfl (lv_at hl 2 rfl) ?_
        refine lv_bipush (v := 10) hx hb dX9_tellsNumber_11 (by decide) ?_
        refine lv_imul hx hb dX9_tellsNumber_13 ?_
        refine lv_topi (fun x2_14 ex2_14 => ?_)
        have h := h x2_14 ex2_14
        refine lv_istore_n (lv' := [(2, .int x2_14), (0, .ref a_t), (1, .int x1)]) hx hb dX9_tellsNumber_14 rfl hl (by decide) rfl (fun ls hl => ?_)
        refine lv_goto (tgt := 2) hx hb dX9_tellsNumber_15 (by decide) ?_
        exact ih2 x2_14 _ _ _ hP hD hS (lv_sub hl [1, 2, 0] rfl) h
  obtain ⟨k9, h⟩ := h
  exact hL2 k9 1 _ _ _ hP hD hS (lv_sub hl [1, 2, 0] rfl) h

abbrev qX9_tellsOperand (D : va_G) (ca : Nat → ClassId) (a_t a_t_v a_t_past a_t_costs a_t_into a_t_isNeeded a_t_depths a_t_names a_t_out a_t_has : Nat) (t_edits : Int32) (t_thrown : Int32) (Q : Int32 → (Nat → Int32) → Prop) (A : Nat → Prop) : Array Value → State → Outcome → State → Prop := va_Qv (fun (u : Int32 × (Nat → Int32)) => Q u.1 u.2) (wEnd D ca (fun u : Int32 × (Nat → Int32) => [(a_t, .inr (7, [.ref a_t_v, .ref a_t_past, .ref a_t_costs, .int t_edits, .int t_thrown, .ref a_t_into, .ref a_t_isNeeded, .ref a_t_depths, .ref a_t_names, .ref a_t_out, .int u.1, .ref a_t_has])), (a_t_out, .inl (ca 0, 2000, .inl u.2))]) A) A
def wX9_tellsOperand_10 (x2 : Int32) (Q : Int32 → (Nat → Int32) → Prop) (t_outs_10 : Int32) (f_t_out_10 : Nat → Int32) : Prop :=
  wX9_tellsNumber t_outs_10 f_t_out_10 x2 (fun t_outs_12 f_t_out_12 => Q t_outs_12 f_t_out_12)
def wX9_tellsOperand (t_outs : Int32) (f_t_out : Nat → Int32) (x1 : Int32) (x2 : Int32) (Q : Int32 → (Nat → Int32) → Prop) : Prop :=
  ((x1 = 0 → wX9_tells t_outs f_t_out 118 (fun t_outs_7 f_t_out_7 => wX9_tellsOperand_10 x2 Q t_outs_7 f_t_out_7)) ∧ (¬ x1 = 0 → wX9_tellsOperand_10 x2 Q t_outs f_t_out))
set_option maxHeartbeats 4000000 in
set_option maxRecDepth 100000 in
theorem mX9_tellsOperand (l : Launch) (D : va_G) (ca : Nat → ClassId) (a_t a_t_v a_t_past a_t_costs a_t_into a_t_isNeeded a_t_depths a_t_names a_t_out a_t_has : Nat) (sz : Nat) (t_edits : Int32) (t_thrown : Int32) (t_outs : Int32) (f_t_out : Nat → Int32) (x1 : Int32) (x2 : Int32) (Q : Int32 → (Nat → Int32) → Prop) (h : wX9_tellsOperand t_outs f_t_out x1 x2 Q) : Met l yX9_tellsOperand (Cond.code yX9_tellsOperand cX9_tellsOperand 3 none :: wsG) ({ frames := 2, cells := 0, slots := 0, locals := 43 } : Room) (va_Pc [.ref a_t, .int x1, .int x2] (wPre D ca [(a_t, .inr (7, [.ref a_t_v, .ref a_t_past, .ref a_t_costs, .int t_edits, .int t_thrown, .ref a_t_into, .ref a_t_isNeeded, .ref a_t_depths, .ref a_t_names, .ref a_t_out, .int t_outs, .ref a_t_has])), (a_t_out, .inl (ca 0, 2000, .inl f_t_out))] sz)) (qX9_tellsOperand D ca a_t a_t_v a_t_past a_t_costs a_t_into a_t_isNeeded a_t_depths a_t_names a_t_out a_t_has t_edits t_thrown Q (va_A [(a_t, .inr (7, [.ref a_t_v, .ref a_t_past, .ref a_t_costs, .int t_edits, .int t_thrown, .ref a_t_into, .ref a_t_isNeeded, .ref a_t_depths, .ref a_t_names, .ref a_t_out, .int t_outs, .ref a_t_has])), (a_t_out, .inl (ca 0, 2000, .inl f_t_out))] sz)) 0 0 (va_A [(a_t, .inr (7, [.ref a_t_v, .ref a_t_past, .ref a_t_costs, .int t_edits, .int t_thrown, .ref a_t_into, .ref a_t_isNeeded, .ref a_t_depths, .ref a_t_names, .ref a_t_out, .int t_outs, .ref a_t_has])), (a_t_out, .inl (ca 0, 2000, .inl f_t_out))] sz) := by
  refine Met.ofW (cc := cX9_tellsOperand) (maxL := 3) (ret := none) (by decide) rfl ?_
  intro p e s m args below meth c s₁ B hml hv
  obtain ⟨rfl, hsz, hP, hK, hD0⟩ := hv
  have hx := B.exec
  have hb := B.bytes
  have hr := B.returns
  have hts := atoms_spec (ws := (Cond.code yX9_tellsOperand cX9_tellsOperand 3 none :: wsG)) B.pre
  have hq : ∀ w ∈ wsG, w.before _ s = true := fun w hw => hts w (List.mem_cons_of_mem _ hw)
  have hown : s.vm.findClass RX9 = some m.cls := findClass_of_methodNamed B.named
  have hlocks := B.notSynchronized
  subst hsz
  have hD := hD0.self (sz := s.heap.size)
  generalize hAe : va_A [(a_t, .inr (7, [.ref a_t_v, .ref a_t_past, .ref a_t_costs, .int t_edits, .int t_thrown, .ref a_t_into, .ref a_t_isNeeded, .ref a_t_depths, .ref a_t_names, .ref a_t_out, .int t_outs, .ref a_t_has])), (a_t_out, .inl (ca 0, 2000, .inl f_t_out))] s.heap.size = A at hD ⊢
  have hA : ∀ q : Nat, s.heap.size ≤ q → A q := fun q h => by rw [← hAe]; exact Or.inr h
  have hS : va_S A s.heap s.heap [] := va_S.rf
  have hP : va_P D vwCl [(a_t, .inr (7, [.ref a_t_v, .ref a_t_past, .ref a_t_costs, .int t_edits, .int t_thrown, .ref a_t_into, .ref a_t_isNeeded, .ref a_t_depths, .ref a_t_names, .ref a_t_out, .int t_outs, .ref a_t_has])), (a_t_out, .inl (ca 0, 2000, .inl f_t_out))] s.heap := hP
  have hl := lv_entry ([.ref a_t, .int x1, .int x2]) (n := 3) (Nat.le_of_ble_eq_true rfl)
  rw [lg_entry_eq]
  generalize (lg_sl ([.ref a_t, .int x1, .int x2]) ++ List.replicate (3 - (lg_sl ([.ref a_t, .int x1, .int x2])).length) Slot.unset).toArray = ls at hl ⊢
  have hl : lv_has ls 3 [(0, .ref a_t), (1, .int x1), (2, .int x2)] := hl
  unfold wX9_tellsOperand at h
  refine lv_iload_n hx hb dX9_tellsOperand_0 rfl (lv_at hl 1 rfl) ?_
  have hJ10 : ∀ (t_outs_10 : Int32) (f_t_out_10 : Nat → Int32) (H : Heap) (locs : List Loc) (ls : Array Slot), va_P D vwCl [(a_t, .inr (7, [.ref a_t_v, .ref a_t_past, .ref a_t_costs, .int t_edits, .int t_thrown, .ref a_t_into, .ref a_t_isNeeded, .ref a_t_depths, .ref a_t_names, .ref a_t_out, .int t_outs_10, .ref a_t_has])), (a_t_out, .inl (ca 0, 2000, .inl f_t_out_10))] H → va_D A [(a_t, .inr (7, [.ref a_t_v, .ref a_t_past, .ref a_t_costs, .int t_edits, .int t_thrown, .ref a_t_into, .ref a_t_isNeeded, .ref a_t_depths, .ref a_t_names, .ref a_t_out, .int t_outs_10, .ref a_t_has])), (a_t_out, .inl (ca 0, 2000, .inl f_t_out_10))] → va_S A s.heap H locs → lv_has ls 3 [(0, .ref a_t), (2, .int x2)] → wX9_tellsOperand_10 x2 Q t_outs_10 f_t_out_10 → W p l e (headSpec (Cond.code yX9_tellsOperand cX9_tellsOperand 3 none :: wsG) ({ frames := 2, cells := 0, slots := 0, locals := 43 } : Room)).room s m ([.ref a_t, .int x1, .int x2] : List Value).toArray below meth c H locs 0 0 (MQ below (qX9_tellsOperand D ca a_t a_t_v a_t_past a_t_costs a_t_into a_t_isNeeded a_t_depths a_t_names a_t_out a_t_has t_edits t_thrown Q A) ([.ref a_t, .int x1, .int x2] : List Value).toArray s 0 0 A) (F0 m 10 ls []) := by
    intro t_outs_10 f_t_out_10 H locs ls hP hD hS hl h
    unfold wX9_tellsOperand_10 at h
    refine lv_aload_n hx hb dX9_tellsOperand_10 rfl (lv_at hl 0 rfl) ?_
    refine lv_iload_n hx hb dX9_tellsOperand_11 rfl (lv_at hl 1 rfl) ?_
    refine cVv (As := [.int x2]) (rest := []) (wc := [(a_t, .inr (7, [.ref a_t_v, .ref a_t_past, .ref a_t_costs, .int t_edits, .int t_thrown, .ref a_t_into, .ref a_t_isNeeded, .ref a_t_depths, .ref a_t_names, .ref a_t_out, .int t_outs_10, .ref a_t_has])), (a_t_out, .inl (ca 0, 2000, .inl f_t_out_10))]) (wr := []) (w1 := fun u : Int32 × (Nat → Int32) => [(a_t, .inr (7, [.ref a_t_v, .ref a_t_past, .ref a_t_costs, .int t_edits, .int t_thrown, .ref a_t_into, .ref a_t_isNeeded, .ref a_t_depths, .ref a_t_names, .ref a_t_out, .int u.1, .ref a_t_has])), (a_t_out, .inl (ca 0, 2000, .inl u.2))]) (ws2 := fun u : Int32 × (Nat → Int32) => [(a_t, .inr (7, [.ref a_t_v, .ref a_t_past, .ref a_t_costs, .int t_edits, .int t_thrown, .ref a_t_into, .ref a_t_isNeeded, .ref a_t_depths, .ref a_t_names, .ref a_t_out, .int u.1, .ref a_t_has])), (a_t_out, .inl (ca 0, 2000, .inl u.2))]) ⟨hx, hb, hml, hown, hts⟩ (mX9_tellsNumber l D ca a_t a_t_v a_t_past a_t_costs a_t_into a_t_isNeeded a_t_depths a_t_names a_t_out a_t_has _ t_edits t_thrown t_outs_10 f_t_out_10 x2 _ h) (cwV 1 hts (gV q_1158 q_1160 qs_61 q_8 q_1161) rfl rfl rfl (by decide +kernel) ⟨Nat.le_of_ble_eq_true rfl, Nat.le_of_ble_eq_true rfl⟩) hK hP hD hS hA [0, 1] [] [0, 1] rfl rfl rfl (by decide) (fun _ => rfl) (ci := 7) (q0 := 0) rfl rfl rfl hl.1 rfl (Nat.le_of_ble_eq_true rfl) dX9_tellsOperand_12 ⟨Nat.le_of_ble_eq_true rfl, Nat.le_of_ble_eq_true rfl⟩ (fun u9 H locs h hP hD hS => ?_)
    obtain ⟨t_outs_12, f_t_out_12⟩ := u9
    have hP : va_P D vwCl [(a_t, .inr (7, [.ref a_t_v, .ref a_t_past, .ref a_t_costs, .int t_edits, .int t_thrown, .ref a_t_into, .ref a_t_isNeeded, .ref a_t_depths, .ref a_t_names, .ref a_t_out, .int t_outs_12, .ref a_t_has])), (a_t_out, .inl (ca 0, 2000, .inl f_t_out_12))] H := hP
    have hD : va_D A [(a_t, .inr (7, [.ref a_t_v, .ref a_t_past, .ref a_t_costs, .int t_edits, .int t_thrown, .ref a_t_into, .ref a_t_isNeeded, .ref a_t_depths, .ref a_t_names, .ref a_t_out, .int t_outs_12, .ref a_t_has])), (a_t_out, .inl (ca 0, 2000, .inl f_t_out_12))] := hD
    try dsimp only at h
    exact W.vret hx hb hr (fun t ht hW => ⟨⟨(t_outs_12, f_t_out_12), rfl, h, by rw [ht]; exact hP, va_K.moved hW.alike hK, hD⟩, hS.F ht⟩) hS.2.2 dX9_tellsOperand_15
  refine lv_if_ne (tgt := 10) hx hb dX9_tellsOperand_1 (by decide) (fun c9 => ?_) (fun c9 => ?_)
  · have h := h.2 c9
    exact hJ10 t_outs f_t_out _ _ _ hP hD hS (lv_sub hl [0, 2] rfl) h
  · have h := h.1 c9
    refine lv_aload_n hx hb dX9_tellsOperand_4 rfl (lv_at hl 0 rfl) ?_
    refine lv_bipush (v := 118) hx hb dX9_tellsOperand_5 (by decide) ?_
    refine cVv (As := [.int 118]) (rest := []) (wc := [(a_t, .inr (7, [.ref a_t_v, .ref a_t_past, .ref a_t_costs, .int t_edits, .int t_thrown, .ref a_t_into, .ref a_t_isNeeded, .ref a_t_depths, .ref a_t_names, .ref a_t_out, .int t_outs, .ref a_t_has])), (a_t_out, .inl (ca 0, 2000, .inl f_t_out))]) (wr := []) (w1 := fun u : Int32 × (Nat → Int32) => [(a_t, .inr (7, [.ref a_t_v, .ref a_t_past, .ref a_t_costs, .int t_edits, .int t_thrown, .ref a_t_into, .ref a_t_isNeeded, .ref a_t_depths, .ref a_t_names, .ref a_t_out, .int u.1, .ref a_t_has])), (a_t_out, .inl (ca 0, 2000, .inl u.2))]) (ws2 := fun u : Int32 × (Nat → Int32) => [(a_t, .inr (7, [.ref a_t_v, .ref a_t_past, .ref a_t_costs, .int t_edits, .int t_thrown, .ref a_t_into, .ref a_t_isNeeded, .ref a_t_depths, .ref a_t_names, .ref a_t_out, .int u.1, .ref a_t_has])), (a_t_out, .inl (ca 0, 2000, .inl u.2))]) ⟨hx, hb, hml, hown, hts⟩ (mX9_tells l D ca a_t a_t_v a_t_past a_t_costs a_t_into a_t_isNeeded a_t_depths a_t_names a_t_out a_t_has _ t_edits t_thrown t_outs f_t_out 118 _ h) (cwV 1 hts (gV q_1154 q_1156 qs_60 q_8 q_1157) rfl rfl rfl (by decide +kernel) ⟨Nat.le_of_ble_eq_true rfl, Nat.le_of_ble_eq_true rfl⟩) hK hP hD hS hA [0, 1] [] [0, 1] rfl rfl rfl (by decide) (fun _ => rfl) (ci := 7) (q0 := 0) rfl rfl rfl hl.1 rfl (Nat.le_of_ble_eq_true rfl) dX9_tellsOperand_7 ⟨Nat.le_of_ble_eq_true rfl, Nat.le_of_ble_eq_true rfl⟩ (fun u9 H locs h hP hD hS => ?_)
    obtain ⟨t_outs_7, f_t_out_7⟩ := u9
    have hP : va_P D vwCl [(a_t, .inr (7, [.ref a_t_v, .ref a_t_past, .ref a_t_costs, .int t_edits, .int t_thrown, .ref a_t_into, .ref a_t_isNeeded, .ref a_t_depths, .ref a_t_names, .ref a_t_out, .int t_outs_7, .ref a_t_has])), (a_t_out, .inl (ca 0, 2000, .inl f_t_out_7))] H := hP
    have hD : va_D A [(a_t, .inr (7, [.ref a_t_v, .ref a_t_past, .ref a_t_costs, .int t_edits, .int t_thrown, .ref a_t_into, .ref a_t_isNeeded, .ref a_t_depths, .ref a_t_names, .ref a_t_out, .int t_outs_7, .ref a_t_has])), (a_t_out, .inl (ca 0, 2000, .inl f_t_out_7))] := hD
    try dsimp only at h
    exact hJ10 t_outs_7 f_t_out_7 _ _ _ hP hD hS (lv_sub hl [0, 2] rfl) h

abbrev qX9_listingChar (D : va_G) (ca : Nat → ClassId) (a_t a_t_v a_t_past a_t_costs a_t_into a_t_isNeeded a_t_depths a_t_names a_t_out a_t_has : Nat) (t_edits : Int32) (f_t_v : Nat → Int32) (f_t_names : Nat → Int32) (Q : Int32 → Int32 → Int32 → (Nat → Int32) → Prop) (A : Nat → Prop) : Array Value → State → Outcome → State → Prop := va_Qi (fun (r : Int32) (u : Int32 × Int32 × (Nat → Int32)) => Q r u.1 u.2.1 u.2.2) (wEnd D ca (fun u : Int32 × Int32 × (Nat → Int32) => [(a_t, .inr (7, [.ref a_t_v, .ref a_t_past, .ref a_t_costs, .int t_edits, .int u.1, .ref a_t_into, .ref a_t_isNeeded, .ref a_t_depths, .ref a_t_names, .ref a_t_out, .int u.2.1, .ref a_t_has])), (a_t_v, .inl (ca 0, 206, .inl f_t_v)), (a_t_names, .inl (ca 2, 68, .inl f_t_names)), (a_t_out, .inl (ca 0, 2000, .inl u.2.2))]) A) A
def wX9_listingChar_22 (f_t_v : Nat → Int32) (f_t_names : Nat → Int32) (x1 : Int32) (Q : Int32 → Int32 → Int32 → (Nat → Int32) → Prop) : Nat → Int32 → Int32 → (Nat → Int32) → Prop
  | 0, _, _, _ => False
  | n9 + 1, x2_22, t_outs_22, f_t_out_22 =>
  (vp_in 3 206 ∧ (((f_t_v (3 : Int32).toNatClampNeg) ≤ x2_22 → wX9_tellsWord t_outs_22 f_t_names f_t_out_22 14 (fun t_outs_129 f_t_out_129 => (vp_in 4 206 ∧ wX9_tellsNumber t_outs_129 f_t_out_129 (f_t_v (4 : Int32).toNatClampNeg) (fun t_outs_139 f_t_out_139 => wX9_tells t_outs_139 f_t_out_139 10 (fun t_outs_145 f_t_out_145 => ((t_outs_145 ≤ x1 → Q ((-1)) 0 t_outs_145 f_t_out_145) ∧ (¬ t_outs_145 ≤ x1 → (vp_in x1 2000 ∧ Q (f_t_out_145 x1.toNatClampNeg) 0 t_outs_145 f_t_out_145)))))))) ∧ (¬ (f_t_v (3 : Int32).toNatClampNeg) ≤ x2_22 → (∀ x3_37 : Int32, x3_37 = 5 + (5 * x2_22) → wX9_tellsOperand t_outs_22 f_t_out_22 0 (x2_22 + 1) (fun t_outs_43 f_t_out_43 => wX9_tellsWord t_outs_43 f_t_names f_t_out_43 12 (fun t_outs_49 f_t_out_49 => (vp_in x3_37 206 ∧ wX9_tellsWord t_outs_49 f_t_names f_t_out_49 (f_t_v x3_37.toNatClampNeg) (fun t_outs_59 f_t_out_59 => wX9_tells t_outs_59 f_t_out_59 32 (fun t_outs_65 f_t_out_65 => (vp_in (x3_37 + 1) 206 ∧ (vp_in (x3_37 + 2) 206 ∧ wX9_tellsOperand t_outs_65 f_t_out_65 (f_t_v (x3_37 + 1).toNatClampNeg) (f_t_v (x3_37 + 2).toNatClampNeg) (fun t_outs_85 f_t_out_85 => wX9_tellsWord t_outs_85 f_t_names f_t_out_85 13 (fun t_outs_91 f_t_out_91 => (vp_in (x3_37 + 3) 206 ∧ (vp_in (x3_37 + 4) 206 ∧ wX9_tellsOperand t_outs_91 f_t_out_91 (f_t_v (x3_37 + 3).toNatClampNeg) (f_t_v (x3_37 + 4).toNatClampNeg) (fun t_outs_111 f_t_out_111 => wX9_tells t_outs_111 f_t_out_111 10 (fun t_outs_117 f_t_out_117 => (∀ x2_120 : Int32, x2_120 = x2_22 + 1 → (wX9_listingChar_22 f_t_v f_t_names x1 Q n9) x2_120 t_outs_117 f_t_out_117))))))))))))))))))
def wX9_listingChar (t_thrown : Int32) (t_outs : Int32) (f_t_v : Nat → Int32) (f_t_names : Nat → Int32) (f_t_out : Nat → Int32) (x1 : Int32) (Q : Int32 → Int32 → Int32 → (Nat → Int32) → Prop) : Prop :=
  ((0 ≤ x1 → (∃ k9, wX9_listingChar_22 f_t_v f_t_names x1 Q k9 0 0 f_t_out)) ∧ (¬ 0 ≤ x1 → wX9_fails 0 1 (fun r_11 t_thrown_11 => Q r_11 t_thrown_11 t_outs f_t_out)))
set_option maxHeartbeats 4000000 in
set_option maxRecDepth 100000 in
theorem mX9_listingChar (l : Launch) (D : va_G) (ca : Nat → ClassId) (a_t a_t_v a_t_past a_t_costs a_t_into a_t_isNeeded a_t_depths a_t_names a_t_out a_t_has : Nat) (sz : Nat) (t_edits : Int32) (t_thrown : Int32) (t_outs : Int32) (f_t_v : Nat → Int32) (f_t_names : Nat → Int32) (f_t_out : Nat → Int32) (x1 : Int32) (Q : Int32 → Int32 → Int32 → (Nat → Int32) → Prop) (h : wX9_listingChar t_thrown t_outs f_t_v f_t_names f_t_out x1 Q) : Met l yX9_listingChar (Cond.code yX9_listingChar cX9_listingChar 4 (some .int) :: wsG) ({ frames := 3, cells := 0, slots := 0, locals := 65 } : Room) (va_Pc [.ref a_t, .int x1] (wPre D ca [(a_t, .inr (7, [.ref a_t_v, .ref a_t_past, .ref a_t_costs, .int t_edits, .int t_thrown, .ref a_t_into, .ref a_t_isNeeded, .ref a_t_depths, .ref a_t_names, .ref a_t_out, .int t_outs, .ref a_t_has])), (a_t_v, .inl (ca 0, 206, .inl f_t_v)), (a_t_names, .inl (ca 2, 68, .inl f_t_names)), (a_t_out, .inl (ca 0, 2000, .inl f_t_out))] sz)) (qX9_listingChar D ca a_t a_t_v a_t_past a_t_costs a_t_into a_t_isNeeded a_t_depths a_t_names a_t_out a_t_has t_edits f_t_v f_t_names Q (va_A [(a_t, .inr (7, [.ref a_t_v, .ref a_t_past, .ref a_t_costs, .int t_edits, .int t_thrown, .ref a_t_into, .ref a_t_isNeeded, .ref a_t_depths, .ref a_t_names, .ref a_t_out, .int t_outs, .ref a_t_has])), (a_t_v, .inl (ca 0, 206, .inl f_t_v)), (a_t_names, .inl (ca 2, 68, .inl f_t_names)), (a_t_out, .inl (ca 0, 2000, .inl f_t_out))] sz)) 0 0 (va_A [(a_t, .inr (7, [.ref a_t_v, .ref a_t_past, .ref a_t_costs, .int t_edits, .int t_thrown, .ref a_t_into, .ref a_t_isNeeded, .ref a_t_depths, .ref a_t_names, .ref a_t_out, .int t_outs, .ref a_t_has])), (a_t_v, .inl (ca 0, 206, .inl f_t_v)), (a_t_names, .inl (ca 2, 68, .inl f_t_names)), (a_t_out, .inl (ca 0, 2000, .inl f_t_out))] sz) := by
  refine Met.ofW (cc := cX9_listingChar) (maxL := 4) (ret := (some .int)) (by decide) rfl ?_
  intro p e s m args below meth c s₁ B hml hv
  obtain ⟨rfl, hsz, hP, hK, hD0⟩ := hv
  have hx := B.exec
  have hb := B.bytes
  have hr := B.returns
  have hts := atoms_spec (ws := (Cond.code yX9_listingChar cX9_listingChar 4 (some .int) :: wsG)) B.pre
  have hq : ∀ w ∈ wsG, w.before _ s = true := fun w hw => hts w (List.mem_cons_of_mem _ hw)
  have hown : s.vm.findClass RX9 = some m.cls := findClass_of_methodNamed B.named
  have hlocks := B.notSynchronized
  subst hsz
  have hD := hD0.self (sz := s.heap.size)
  generalize hAe : va_A [(a_t, .inr (7, [.ref a_t_v, .ref a_t_past, .ref a_t_costs, .int t_edits, .int t_thrown, .ref a_t_into, .ref a_t_isNeeded, .ref a_t_depths, .ref a_t_names, .ref a_t_out, .int t_outs, .ref a_t_has])), (a_t_v, .inl (ca 0, 206, .inl f_t_v)), (a_t_names, .inl (ca 2, 68, .inl f_t_names)), (a_t_out, .inl (ca 0, 2000, .inl f_t_out))] s.heap.size = A at hD ⊢
  have hA : ∀ q : Nat, s.heap.size ≤ q → A q := fun q h => by rw [← hAe]; exact Or.inr h
  have hS : va_S A s.heap s.heap [] := va_S.rf
  have hP : va_P D vwCl [(a_t, .inr (7, [.ref a_t_v, .ref a_t_past, .ref a_t_costs, .int t_edits, .int t_thrown, .ref a_t_into, .ref a_t_isNeeded, .ref a_t_depths, .ref a_t_names, .ref a_t_out, .int t_outs, .ref a_t_has])), (a_t_v, .inl (ca 0, 206, .inl f_t_v)), (a_t_names, .inl (ca 2, 68, .inl f_t_names)), (a_t_out, .inl (ca 0, 2000, .inl f_t_out))] s.heap := hP
  have hl := lv_entry ([.ref a_t, .int x1]) (n := 4) (Nat.le_of_ble_eq_true rfl)
  rw [lg_entry_eq]
  generalize (lg_sl ([.ref a_t, .int x1]) ++ List.replicate (4 - (lg_sl ([.ref a_t, .int x1])).length) Slot.unset).toArray = ls at hl ⊢
  have hl : lv_has ls 4 [(0, .ref a_t), (1, .int x1)] := hl
  unfold wX9_listingChar at h
  refine lv_aload_n hx hb dX9_listingChar_0 rfl (lv_at hl 0 rfl) ?_
  refine lv_iconst (v := 0) hx hb dX9_listingChar_1 (by decide) ?_
  refine va_put (D := D) (ci := 7) (v := .int 0) (ty := .int) (C := RX9) (T := TX9) (N := 12) hx hb hq inX9g tyX9 tyX9_ok nmX9 hown hK hP hD hS 0 rfl rfl 4 (by decide) (hq _ q_885) (fun _ h9 => h9) rfl (by decide +kernel) rfl rfl (Nat.le_of_ble_eq_true rfl) dX9_listingChar_2 (fun H locs hP hD hS => ?_)
  have hP : va_P D vwCl [(a_t, .inr (7, [.ref a_t_v, .ref a_t_past, .ref a_t_costs, .int t_edits, .int 0, .ref a_t_into, .ref a_t_isNeeded, .ref a_t_depths, .ref a_t_names, .ref a_t_out, .int t_outs, .ref a_t_has])), (a_t_v, .inl (ca 0, 206, .inl f_t_v)), (a_t_names, .inl (ca 2, 68, .inl f_t_names)), (a_t_out, .inl (ca 0, 2000, .inl f_t_out))] H := hP
  have hD : va_D A [(a_t, .inr (7, [.ref a_t_v, .ref a_t_past, .ref a_t_costs, .int t_edits, .int 0, .ref a_t_into, .ref a_t_isNeeded, .ref a_t_depths, .ref a_t_names, .ref a_t_out, .int t_outs, .ref a_t_has])), (a_t_v, .inl (ca 0, 206, .inl f_t_v)), (a_t_names, .inl (ca 2, 68, .inl f_t_names)), (a_t_out, .inl (ca 0, 2000, .inl f_t_out))] := hD
  refine lv_iload_n hx hb dX9_listingChar_5 rfl (lv_at hl 1 rfl) ?_
  refine lv_if_ge (tgt := 15) hx hb dX9_listingChar_6 (by decide) (fun c9 => ?_) (fun c9 => ?_)
  · have h := h.1 c9
    refine lv_aload_n hx hb dX9_listingChar_15 rfl (lv_at hl 0 rfl) ?_
    refine lv_iconst (v := 0) hx hb dX9_listingChar_16 (by decide) ?_
    refine va_put (D := D) (ci := 7) (v := .int 0) (ty := .int) (C := RX9) (T := TX9) (N := 12) hx hb hq inX9g tyX9 tyX9_ok nmX9 hown hK hP hD hS 0 rfl rfl 10 (by decide) (hq _ q_891) (fun _ h9 => h9) rfl (by decide +kernel) rfl rfl (Nat.le_of_ble_eq_true rfl) dX9_listingChar_17 (fun H locs hP hD hS => ?_)
    have hP : va_P D vwCl [(a_t, .inr (7, [.ref a_t_v, .ref a_t_past, .ref a_t_costs, .int t_edits, .int 0, .ref a_t_into, .ref a_t_isNeeded, .ref a_t_depths, .ref a_t_names, .ref a_t_out, .int 0, .ref a_t_has])), (a_t_v, .inl (ca 0, 206, .inl f_t_v)), (a_t_names, .inl (ca 2, 68, .inl f_t_names)), (a_t_out, .inl (ca 0, 2000, .inl f_t_out))] H := hP
    have hD : va_D A [(a_t, .inr (7, [.ref a_t_v, .ref a_t_past, .ref a_t_costs, .int t_edits, .int 0, .ref a_t_into, .ref a_t_isNeeded, .ref a_t_depths, .ref a_t_names, .ref a_t_out, .int 0, .ref a_t_has])), (a_t_v, .inl (ca 0, 206, .inl f_t_v)), (a_t_names, .inl (ca 2, 68, .inl f_t_names)), (a_t_out, .inl (ca 0, 2000, .inl f_t_out))] := hD
    refine lv_iconst (v := 0) hx hb dX9_listingChar_20 (by decide) ?_
    refine lv_istore_n (lv' := [(2, .int 0), (0, .ref a_t), (1, .int x1)]) hx hb dX9_listingChar_21 rfl hl (by decide) rfl (fun ls hl => ?_)
    have hL22 : ∀ (n9_22 : Nat) (x2_22 : Int32) (t_outs_22 : Int32) (f_t_out_22 : Nat → Int32) (H : Heap) (locs : List Loc) (ls : Array Slot), va_P D vwCl [(a_t, .inr (7, [.ref a_t_v, .ref a_t_past, .ref a_t_costs, .int t_edits, .int 0, .ref a_t_into, .ref a_t_isNeeded, .ref a_t_depths, .ref a_t_names, .ref a_t_out, .int t_outs_22, .ref a_t_has])), (a_t_v, .inl (ca 0, 206, .inl f_t_v)), (a_t_names, .inl (ca 2, 68, .inl f_t_names)), (a_t_out, .inl (ca 0, 2000, .inl f_t_out_22))] H → va_D A [(a_t, .inr (7, [.ref a_t_v, .ref a_t_past, .ref a_t_costs, .int t_edits, .int 0, .ref a_t_into, .ref a_t_isNeeded, .ref a_t_depths, .ref a_t_names, .ref a_t_out, .int t_outs_22, .ref a_t_has])), (a_t_v, .inl (ca 0, 206, .inl f_t_v)), (a_t_names, .inl (ca 2, 68, .inl f_t_names)), (a_t_out, .inl (ca 0, 2000, .inl f_t_out_22))] → va_S A s.heap H locs → lv_has ls 4 [(0, .ref a_t), (1, .int x1), (2, .int x2_22)] → wX9_listingChar_22 f_t_v f_t_names x1 Q n9_22 x2_22 t_outs_22 f_t_out_22 → W p l e (headSpec (Cond.code yX9_listingChar cX9_listingChar 4 (some .int) :: wsG) ({ frames := 3, cells := 0, slots := 0, locals := 65 } : Room)).room s m ([.ref a_t, .int x1] : List Value).toArray below meth c H locs 0 0 (MQ below (qX9_listingChar D ca a_t a_t_v a_t_past a_t_costs a_t_into a_t_isNeeded a_t_depths a_t_names a_t_out a_t_has t_edits f_t_v f_t_names Q A) ([.ref a_t, .int x1] : List Value).toArray s 0 0 A) (F0 m 22 ls []) := by
      intro n9_22
      induction n9_22 with
      | zero =>
        intro x2_22 t_outs_22 f_t_out_22 H locs ls hP hD hS hl h
        exact False.elim h
      | succ n9_22 ih22 =>
        intro x2_22 t_outs_22 f_t_out_22 H locs ls hP hD hS hl h
        unfold wX9_listingChar_22 at h
        refine lv_iload_n hx hb dX9_listingChar_22 rfl (lv_at hl 2 rfl) ?_
        refine lv_aload_n hx hb dX9_listingChar_23 rfl (lv_at hl 0 rfl) ?_
        refine va_get (D := D) (ci := 7) (v := .ref a_t_v) (C := RX9) (T := TX9) (N := 12) hx hb hq inX9g hown hK hP 0 rfl rfl 0 (by decide) (hq _ q_881) (fun _ h9 => h9) rfl dX9_listingChar_24 ?_
        refine lv_iconst (v := 3) hx hb dX9_listingChar_27 (by decide) ?_
        obtain ⟨hi9, h⟩ := h
        refine va_iald hx hb hK hP 1 0 rfl rfl hi9 dX9_listingChar_28 ?_
        refine lv_icmp_ge (tgt := 126) hx hb dX9_listingChar_29 (by decide) (fun c9 => ?_) (fun c9 => ?_)
        · have h := h.1 c9
          refine lv_aload_n hx hb dX9_listingChar_126 rfl (lv_at hl 0 rfl) ?_
          refine lv_bipush (v := 14) hx hb dX9_listingChar_127 (by decide) ?_
          refine cVv (As := [.int 14]) (rest := []) (wc := [(a_t, .inr (7, [.ref a_t_v, .ref a_t_past, .ref a_t_costs, .int t_edits, .int 0, .ref a_t_into, .ref a_t_isNeeded, .ref a_t_depths, .ref a_t_names, .ref a_t_out, .int t_outs_22, .ref a_t_has])), (a_t_names, .inl (ca 2, 68, .inl f_t_names)), (a_t_out, .inl (ca 0, 2000, .inl f_t_out_22))]) (wr := [(a_t_v, .inl (ca 0, 206, .inl f_t_v))]) (w1 := fun u : Int32 × (Nat → Int32) => [(a_t, .inr (7, [.ref a_t_v, .ref a_t_past, .ref a_t_costs, .int t_edits, .int 0, .ref a_t_into, .ref a_t_isNeeded, .ref a_t_depths, .ref a_t_names, .ref a_t_out, .int u.1, .ref a_t_has])), (a_t_names, .inl (ca 2, 68, .inl f_t_names)), (a_t_out, .inl (ca 0, 2000, .inl u.2))]) (ws2 := fun u : Int32 × (Nat → Int32) => [(a_t, .inr (7, [.ref a_t_v, .ref a_t_past, .ref a_t_costs, .int t_edits, .int 0, .ref a_t_into, .ref a_t_isNeeded, .ref a_t_depths, .ref a_t_names, .ref a_t_out, .int u.1, .ref a_t_has])), (a_t_v, .inl (ca 0, 206, .inl f_t_v)), (a_t_names, .inl (ca 2, 68, .inl f_t_names)), (a_t_out, .inl (ca 0, 2000, .inl u.2))]) ⟨hx, hb, hml, hown, hts⟩ (mX9_tellsWord l D ca a_t a_t_v a_t_past a_t_costs a_t_into a_t_isNeeded a_t_depths a_t_names a_t_out a_t_has _ t_edits 0 t_outs_22 f_t_names f_t_out_22 14 _ h) (cwV 1 hts (gV q_1162 q_1164 qs_62 q_8 q_1165) rfl rfl rfl (by decide +kernel) ⟨Nat.le_of_ble_eq_true rfl, Nat.le_of_ble_eq_true rfl⟩) hK hP hD hS hA [0, 2, 3] [1] [1, 0, 2, 3] rfl rfl rfl (by decide) (fun _ => rfl) (ci := 7) (q0 := 0) rfl rfl rfl hl.1 rfl (Nat.le_of_ble_eq_true rfl) dX9_listingChar_129 ⟨Nat.le_of_ble_eq_true rfl, Nat.le_of_ble_eq_true rfl⟩ (fun u9 H locs h hP hD hS => ?_)
          obtain ⟨t_outs_129, f_t_out_129⟩ := u9
          have hP : va_P D vwCl [(a_t, .inr (7, [.ref a_t_v, .ref a_t_past, .ref a_t_costs, .int t_edits, .int 0, .ref a_t_into, .ref a_t_isNeeded, .ref a_t_depths, .ref a_t_names, .ref a_t_out, .int t_outs_129, .ref a_t_has])), (a_t_v, .inl (ca 0, 206, .inl f_t_v)), (a_t_names, .inl (ca 2, 68, .inl f_t_names)), (a_t_out, .inl (ca 0, 2000, .inl f_t_out_129))] H := hP
          have hD : va_D A [(a_t, .inr (7, [.ref a_t_v, .ref a_t_past, .ref a_t_costs, .int t_edits, .int 0, .ref a_t_into, .ref a_t_isNeeded, .ref a_t_depths, .ref a_t_names, .ref a_t_out, .int t_outs_129, .ref a_t_has])), (a_t_v, .inl (ca 0, 206, .inl f_t_v)), (a_t_names, .inl (ca 2, 68, .inl f_t_names)), (a_t_out, .inl (ca 0, 2000, .inl f_t_out_129))] := hD
          try dsimp only at h
          refine lv_aload_n hx hb dX9_listingChar_132 rfl (lv_at hl 0 rfl) ?_
          refine lv_aload_n hx hb dX9_listingChar_133 rfl (lv_at hl 0 rfl) ?_
          refine va_get (D := D) (ci := 7) (v := .ref a_t_v) (C := RX9) (T := TX9) (N := 12) hx hb hq inX9g hown hK hP 0 rfl rfl 0 (by decide) (hq _ q_881) (fun _ h9 => h9) rfl dX9_listingChar_134 ?_
          refine lv_iconst (v := 4) hx hb dX9_listingChar_137 (by decide) ?_
          obtain ⟨hi9, h⟩ := h
          refine va_iald hx hb hK hP 1 0 rfl rfl hi9 dX9_listingChar_138 ?_
          refine cVv (As := [.int (f_t_v (4 : Int32).toNatClampNeg)]) (rest := []) (wc := [(a_t, .inr (7, [.ref a_t_v, .ref a_t_past, .ref a_t_costs, .int t_edits, .int 0, .ref a_t_into, .ref a_t_isNeeded, .ref a_t_depths, .ref a_t_names, .ref a_t_out, .int t_outs_129, .ref a_t_has])), (a_t_out, .inl (ca 0, 2000, .inl f_t_out_129))]) (wr := [(a_t_v, .inl (ca 0, 206, .inl f_t_v)), (a_t_names, .inl (ca 2, 68, .inl f_t_names))]) (w1 := fun u : Int32 × (Nat → Int32) => [(a_t, .inr (7, [.ref a_t_v, .ref a_t_past, .ref a_t_costs, .int t_edits, .int 0, .ref a_t_into, .ref a_t_isNeeded, .ref a_t_depths, .ref a_t_names, .ref a_t_out, .int u.1, .ref a_t_has])), (a_t_out, .inl (ca 0, 2000, .inl u.2))]) (ws2 := fun u : Int32 × (Nat → Int32) => [(a_t, .inr (7, [.ref a_t_v, .ref a_t_past, .ref a_t_costs, .int t_edits, .int 0, .ref a_t_into, .ref a_t_isNeeded, .ref a_t_depths, .ref a_t_names, .ref a_t_out, .int u.1, .ref a_t_has])), (a_t_v, .inl (ca 0, 206, .inl f_t_v)), (a_t_names, .inl (ca 2, 68, .inl f_t_names)), (a_t_out, .inl (ca 0, 2000, .inl u.2))]) ⟨hx, hb, hml, hown, hts⟩ (mX9_tellsNumber l D ca a_t a_t_v a_t_past a_t_costs a_t_into a_t_isNeeded a_t_depths a_t_names a_t_out a_t_has _ t_edits 0 t_outs_129 f_t_out_129 (f_t_v (4 : Int32).toNatClampNeg) _ h) (cwV 1 hts (gV q_1158 q_1160 qs_61 q_8 q_1161) rfl rfl rfl (by decide +kernel) ⟨Nat.le_of_ble_eq_true rfl, Nat.le_of_ble_eq_true rfl⟩) hK hP hD hS hA [0, 3] [1, 2] [2, 0, 1, 3] rfl rfl rfl (by decide) (fun _ => rfl) (ci := 7) (q0 := 0) rfl rfl rfl hl.1 rfl (Nat.le_of_ble_eq_true rfl) dX9_listingChar_139 ⟨Nat.le_of_ble_eq_true rfl, Nat.le_of_ble_eq_true rfl⟩ (fun u9 H locs h hP hD hS => ?_)
          obtain ⟨t_outs_139, f_t_out_139⟩ := u9
          have hP : va_P D vwCl [(a_t, .inr (7, [.ref a_t_v, .ref a_t_past, .ref a_t_costs, .int t_edits, .int 0, .ref a_t_into, .ref a_t_isNeeded, .ref a_t_depths, .ref a_t_names, .ref a_t_out, .int t_outs_139, .ref a_t_has])), (a_t_v, .inl (ca 0, 206, .inl f_t_v)), (a_t_names, .inl (ca 2, 68, .inl f_t_names)), (a_t_out, .inl (ca 0, 2000, .inl f_t_out_139))] H := hP
          have hD : va_D A [(a_t, .inr (7, [.ref a_t_v, .ref a_t_past, .ref a_t_costs, .int t_edits, .int 0, .ref a_t_into, .ref a_t_isNeeded, .ref a_t_depths, .ref a_t_names, .ref a_t_out, .int t_outs_139, .ref a_t_has])), (a_t_v, .inl (ca 0, 206, .inl f_t_v)), (a_t_names, .inl (ca 2, 68, .inl f_t_names)), (a_t_out, .inl (ca 0, 2000, .inl f_t_out_139))] := hD
          try dsimp only at h
          refine lv_aload_n hx hb dX9_listingChar_142 rfl (lv_at hl 0 rfl) ?_
          refine lv_bipush (v := 10) hx hb dX9_listingChar_143 (by decide) ?_
          refine cVv (As := [.int 10]) (rest := []) (wc := [(a_t, .inr (7, [.ref a_t_v, .ref a_t_past, .ref a_t_costs, .int t_edits, .int 0, .ref a_t_into, .ref a_t_isNeeded, .ref a_t_depths, .ref a_t_names, .ref a_t_out, .int t_outs_139, .ref a_t_has])), (a_t_out, .inl (ca 0, 2000, .inl f_t_out_139))]) (wr := [(a_t_v, .inl (ca 0, 206, .inl f_t_v)), (a_t_names, .inl (ca 2, 68, .inl f_t_names))]) (w1 := fun u : Int32 × (Nat → Int32) => [(a_t, .inr (7, [.ref a_t_v, .ref a_t_past, .ref a_t_costs, .int t_edits, .int 0, .ref a_t_into, .ref a_t_isNeeded, .ref a_t_depths, .ref a_t_names, .ref a_t_out, .int u.1, .ref a_t_has])), (a_t_out, .inl (ca 0, 2000, .inl u.2))]) (ws2 := fun u : Int32 × (Nat → Int32) => [(a_t, .inr (7, [.ref a_t_v, .ref a_t_past, .ref a_t_costs, .int t_edits, .int 0, .ref a_t_into, .ref a_t_isNeeded, .ref a_t_depths, .ref a_t_names, .ref a_t_out, .int u.1, .ref a_t_has])), (a_t_v, .inl (ca 0, 206, .inl f_t_v)), (a_t_names, .inl (ca 2, 68, .inl f_t_names)), (a_t_out, .inl (ca 0, 2000, .inl u.2))]) ⟨hx, hb, hml, hown, hts⟩ (mX9_tells l D ca a_t a_t_v a_t_past a_t_costs a_t_into a_t_isNeeded a_t_depths a_t_names a_t_out a_t_has _ t_edits 0 t_outs_139 f_t_out_139 10 _ h) (cwV 1 hts (gV q_1154 q_1156 qs_60 q_8 q_1157) rfl rfl rfl (by decide +kernel) ⟨Nat.le_of_ble_eq_true rfl, Nat.le_of_ble_eq_true rfl⟩) hK hP hD hS hA [0, 3] [1, 2] [2, 0, 1, 3] rfl rfl rfl (by decide) (fun _ => rfl) (ci := 7) (q0 := 0) rfl rfl rfl hl.1 rfl (Nat.le_of_ble_eq_true rfl) dX9_listingChar_145 ⟨Nat.le_of_ble_eq_true rfl, Nat.le_of_ble_eq_true rfl⟩ (fun u9 H locs h hP hD hS => ?_)
          obtain ⟨t_outs_145, f_t_out_145⟩ := u9
          have hP : va_P D vwCl [(a_t, .inr (7, [.ref a_t_v, .ref a_t_past, .ref a_t_costs, .int t_edits, .int 0, .ref a_t_into, .ref a_t_isNeeded, .ref a_t_depths, .ref a_t_names, .ref a_t_out, .int t_outs_145, .ref a_t_has])), (a_t_v, .inl (ca 0, 206, .inl f_t_v)), (a_t_names, .inl (ca 2, 68, .inl f_t_names)), (a_t_out, .inl (ca 0, 2000, .inl f_t_out_145))] H := hP
          have hD : va_D A [(a_t, .inr (7, [.ref a_t_v, .ref a_t_past, .ref a_t_costs, .int t_edits, .int 0, .ref a_t_into, .ref a_t_isNeeded, .ref a_t_depths, .ref a_t_names, .ref a_t_out, .int t_outs_145, .ref a_t_has])), (a_t_v, .inl (ca 0, 206, .inl f_t_v)), (a_t_names, .inl (ca 2, 68, .inl f_t_names)), (a_t_out, .inl (ca 0, 2000, .inl f_t_out_145))] := hD
          try dsimp only at h
          refine lv_iload_n hx hb dX9_listingChar_148 rfl (lv_at hl 1 rfl) ?_
          refine lv_aload_n hx hb dX9_listingChar_149 rfl (lv_at hl 0 rfl) ?_
          refine va_get (D := D) (ci := 7) (v := .int t_outs_145) (C := RX9) (T := TX9) (N := 12) hx hb hq inX9g hown hK hP 0 rfl rfl 10 (by decide) (hq _ q_891) (fun _ h9 => h9) rfl dX9_listingChar_150 ?_
          refine lv_icmp_ge (tgt := 165) hx hb dX9_listingChar_153 (by decide) (fun c9 => ?_) (fun c9 => ?_)
          · have h := h.1 c9
            refine lv_iconst (v := (-1)) hx hb dX9_listingChar_165 (by decide) ?_
            exact W.iret (v := (-1)) hx hb hr (fun t ht hW => ⟨⟨(-1), (0, t_outs_145, f_t_out_145), rfl, h, by rw [ht]; exact hP, va_K.moved hW.alike hK, hD⟩, hS.F ht⟩) hS.2.2 dX9_listingChar_166
          · have h := h.2 c9
            refine lv_aload_n hx hb dX9_listingChar_156 rfl (lv_at hl 0 rfl) ?_
            refine va_get (D := D) (ci := 7) (v := .ref a_t_out) (C := RX9) (T := TX9) (N := 12) hx hb hq inX9g hown hK hP 0 rfl rfl 9 (by decide) (hq _ q_890) (fun _ h9 => h9) rfl dX9_listingChar_157 ?_
            refine lv_iload_n hx hb dX9_listingChar_160 rfl (lv_at hl 1 rfl) ?_
            obtain ⟨hi9, h⟩ := h
            refine va_iald hx hb hK hP 3 0 rfl rfl hi9 dX9_listingChar_161 ?_
            refine lv_goto (tgt := 166) hx hb dX9_listingChar_162 (by decide) ?_
            exact W.iret (v := f_t_out_145 x1.toNatClampNeg) hx hb hr (fun t ht hW => ⟨⟨f_t_out_145 x1.toNatClampNeg, (0, t_outs_145, f_t_out_145), rfl, h, by rw [ht]; exact hP, va_K.moved hW.alike hK, hD⟩, hS.F ht⟩) hS.2.2 dX9_listingChar_166
        · have h := h.2 c9
          refine lv_iconst (v := 5) hx hb dX9_listingChar_32 (by decide) ?_
          refine lv_iconst (v := 5) hx hb dX9_listingChar_33 (by decide) ?_
          refine lv_iload_n hx hb dX9_listingChar_34 rfl (lv_at hl 2 rfl) ?_
          refine lv_imul hx hb dX9_listingChar_35 ?_
          refine lv_iadd hx hb dX9_listingChar_36 ?_
          refine lv_topi (fun x3_37 ex3_37 => ?_)
          have h := h x3_37 ex3_37
          refine lv_istore_n (lv' := [(3, .int x3_37), (0, .ref a_t), (1, .int x1), (2, .int x2_22)]) hx hb dX9_listingChar_37 rfl hl (by decide) rfl (fun ls hl => ?_)
          refine lv_aload_n hx hb dX9_listingChar_38 rfl (lv_at hl 1 rfl) ?_
          refine lv_iconst (v := 0) hx hb dX9_listingChar_39 (by decide) ?_
          refine lv_iload_n hx hb dX9_listingChar_40 rfl (lv_at hl 3 rfl) ?_
          refine lv_iconst (v := 1) hx hb dX9_listingChar_41 (by decide) ?_
          refine lv_iadd hx hb dX9_listingChar_42 ?_
          refine cVv (As := [.int 0, .int (x2_22 + 1)]) (rest := []) (wc := [(a_t, .inr (7, [.ref a_t_v, .ref a_t_past, .ref a_t_costs, .int t_edits, .int 0, .ref a_t_into, .ref a_t_isNeeded, .ref a_t_depths, .ref a_t_names, .ref a_t_out, .int t_outs_22, .ref a_t_has])), (a_t_out, .inl (ca 0, 2000, .inl f_t_out_22))]) (wr := [(a_t_v, .inl (ca 0, 206, .inl f_t_v)), (a_t_names, .inl (ca 2, 68, .inl f_t_names))]) (w1 := fun u : Int32 × (Nat → Int32) => [(a_t, .inr (7, [.ref a_t_v, .ref a_t_past, .ref a_t_costs, .int t_edits, .int 0, .ref a_t_into, .ref a_t_isNeeded, .ref a_t_depths, .ref a_t_names, .ref a_t_out, .int u.1, .ref a_t_has])), (a_t_out, .inl (ca 0, 2000, .inl u.2))]) (ws2 := fun u : Int32 × (Nat → Int32) => [(a_t, .inr (7, [.ref a_t_v, .ref a_t_past, .ref a_t_costs, .int t_edits, .int 0, .ref a_t_into, .ref a_t_isNeeded, .ref a_t_depths, .ref a_t_names, .ref a_t_out, .int u.1, .ref a_t_has])), (a_t_v, .inl (ca 0, 206, .inl f_t_v)), (a_t_names, .inl (ca 2, 68, .inl f_t_names)), (a_t_out, .inl (ca 0, 2000, .inl u.2))]) ⟨hx, hb, hml, hown, hts⟩ (mX9_tellsOperand l D ca a_t a_t_v a_t_past a_t_costs a_t_into a_t_isNeeded a_t_depths a_t_names a_t_out a_t_has _ t_edits 0 t_outs_22 f_t_out_22 0 (x2_22 + 1) _ h) (cwV 2 hts (gV q_1150 q_1152 qs_59 q_8 q_1153) rfl rfl rfl (by decide +kernel) ⟨Nat.le_of_ble_eq_true rfl, Nat.le_of_ble_eq_true rfl⟩) hK hP hD hS hA [0, 3] [1, 2] [2, 0, 1, 3] rfl rfl rfl (by decide) (fun _ => rfl) (ci := 7) (q0 := 0) rfl rfl rfl hl.1 rfl (Nat.le_of_ble_eq_true rfl) dX9_listingChar_43 ⟨Nat.le_of_ble_eq_true rfl, Nat.le_of_ble_eq_true rfl⟩ (fun u9 H locs h hP hD hS => ?_)
          obtain ⟨t_outs_43, f_t_out_43⟩ := u9
          have hP : va_P D vwCl [(a_t, .inr (7, [.ref a_t_v, .ref a_t_past, .ref a_t_costs, .int t_edits, .int 0, .ref a_t_into, .ref a_t_isNeeded, .ref a_t_depths, .ref a_t_names, .ref a_t_out, .int t_outs_43, .ref a_t_has])), (a_t_v, .inl (ca 0, 206, .inl f_t_v)), (a_t_names, .inl (ca 2, 68, .inl f_t_names)), (a_t_out, .inl (ca 0, 2000, .inl f_t_out_43))] H := hP
          have hD : va_D A [(a_t, .inr (7, [.ref a_t_v, .ref a_t_past, .ref a_t_costs, .int t_edits, .int 0, .ref a_t_into, .ref a_t_isNeeded, .ref a_t_depths, .ref a_t_names, .ref a_t_out, .int t_outs_43, .ref a_t_has])), (a_t_v, .inl (ca 0, 206, .inl f_t_v)), (a_t_names, .inl (ca 2, 68, .inl f_t_names)), (a_t_out, .inl (ca 0, 2000, .inl f_t_out_43))] := hD
          try dsimp only at h
          refine lv_aload_n hx hb dX9_listingChar_46 rfl (lv_at hl 1 rfl) ?_
          refine lv_bipush (v := 12) hx hb dX9_listingChar_47 (by decide) ?_
          refine cVv (As := [.int 12]) (rest := []) (wc := [(a_t, .inr (7, [.ref a_t_v, .ref a_t_past, .ref a_t_costs, .int t_edits, .int 0, .ref a_t_into, .ref a_t_isNeeded, .ref a_t_depths, .ref a_t_names, .ref a_t_out, .int t_outs_43, .ref a_t_has])), (a_t_names, .inl (ca 2, 68, .inl f_t_names)), (a_t_out, .inl (ca 0, 2000, .inl f_t_out_43))]) (wr := [(a_t_v, .inl (ca 0, 206, .inl f_t_v))]) (w1 := fun u : Int32 × (Nat → Int32) => [(a_t, .inr (7, [.ref a_t_v, .ref a_t_past, .ref a_t_costs, .int t_edits, .int 0, .ref a_t_into, .ref a_t_isNeeded, .ref a_t_depths, .ref a_t_names, .ref a_t_out, .int u.1, .ref a_t_has])), (a_t_names, .inl (ca 2, 68, .inl f_t_names)), (a_t_out, .inl (ca 0, 2000, .inl u.2))]) (ws2 := fun u : Int32 × (Nat → Int32) => [(a_t, .inr (7, [.ref a_t_v, .ref a_t_past, .ref a_t_costs, .int t_edits, .int 0, .ref a_t_into, .ref a_t_isNeeded, .ref a_t_depths, .ref a_t_names, .ref a_t_out, .int u.1, .ref a_t_has])), (a_t_v, .inl (ca 0, 206, .inl f_t_v)), (a_t_names, .inl (ca 2, 68, .inl f_t_names)), (a_t_out, .inl (ca 0, 2000, .inl u.2))]) ⟨hx, hb, hml, hown, hts⟩ (mX9_tellsWord l D ca a_t a_t_v a_t_past a_t_costs a_t_into a_t_isNeeded a_t_depths a_t_names a_t_out a_t_has _ t_edits 0 t_outs_43 f_t_names f_t_out_43 12 _ h) (cwV 1 hts (gV q_1162 q_1164 qs_62 q_8 q_1165) rfl rfl rfl (by decide +kernel) ⟨Nat.le_of_ble_eq_true rfl, Nat.le_of_ble_eq_true rfl⟩) hK hP hD hS hA [0, 2, 3] [1] [1, 0, 2, 3] rfl rfl rfl (by decide) (fun _ => rfl) (ci := 7) (q0 := 0) rfl rfl rfl hl.1 rfl (Nat.le_of_ble_eq_true rfl) dX9_listingChar_49 ⟨Nat.le_of_ble_eq_true rfl, Nat.le_of_ble_eq_true rfl⟩ (fun u9 H locs h hP hD hS => ?_)
          obtain ⟨t_outs_49, f_t_out_49⟩ := u9
          have hP : va_P D vwCl [(a_t, .inr (7, [.ref a_t_v, .ref a_t_past, .ref a_t_costs, .int t_edits, .int 0, .ref a_t_into, .ref a_t_isNeeded, .ref a_t_depths, .ref a_t_names, .ref a_t_out, .int t_outs_49, .ref a_t_has])), (a_t_v, .inl (ca 0, 206, .inl f_t_v)), (a_t_names, .inl (ca 2, 68, .inl f_t_names)), (a_t_out, .inl (ca 0, 2000, .inl f_t_out_49))] H := hP
          have hD : va_D A [(a_t, .inr (7, [.ref a_t_v, .ref a_t_past, .ref a_t_costs, .int t_edits, .int 0, .ref a_t_into, .ref a_t_isNeeded, .ref a_t_depths, .ref a_t_names, .ref a_t_out, .int t_outs_49, .ref a_t_has])), (a_t_v, .inl (ca 0, 206, .inl f_t_v)), (a_t_names, .inl (ca 2, 68, .inl f_t_names)), (a_t_out, .inl (ca 0, 2000, .inl f_t_out_49))] := hD
          try dsimp only at h
          refine lv_aload_n hx hb dX9_listingChar_52 rfl (lv_at hl 1 rfl) ?_
          refine lv_aload_n hx hb dX9_listingChar_53 rfl (lv_at hl 1 rfl) ?_
          refine va_get (D := D) (ci := 7) (v := .ref a_t_v) (C := RX9) (T := TX9) (N := 12) hx hb hq inX9g hown hK hP 0 rfl rfl 0 (by decide) (hq _ q_881) (fun _ h9 => h9) rfl dX9_listingChar_54 ?_
          refine lv_iload_n hx hb dX9_listingChar_57 rfl (lv_at hl 0 rfl) ?_
          obtain ⟨hi9, h⟩ := h
          refine va_iald hx hb hK hP 1 0 rfl rfl hi9 dX9_listingChar_58 ?_
          refine cVv (As := [.int (f_t_v x3_37.toNatClampNeg)]) (rest := []) (wc := [(a_t, .inr (7, [.ref a_t_v, .ref a_t_past, .ref a_t_costs, .int t_edits, .int 0, .ref a_t_into, .ref a_t_isNeeded, .ref a_t_depths, .ref a_t_names, .ref a_t_out, .int t_outs_49, .ref a_t_has])), (a_t_names, .inl (ca 2, 68, .inl f_t_names)), (a_t_out, .inl (ca 0, 2000, .inl f_t_out_49))]) (wr := [(a_t_v, .inl (ca 0, 206, .inl f_t_v))]) (w1 := fun u : Int32 × (Nat → Int32) => [(a_t, .inr (7, [.ref a_t_v, .ref a_t_past, .ref a_t_costs, .int t_edits, .int 0, .ref a_t_into, .ref a_t_isNeeded, .ref a_t_depths, .ref a_t_names, .ref a_t_out, .int u.1, .ref a_t_has])), (a_t_names, .inl (ca 2, 68, .inl f_t_names)), (a_t_out, .inl (ca 0, 2000, .inl u.2))]) (ws2 := fun u : Int32 × (Nat → Int32) => [(a_t, .inr (7, [.ref a_t_v, .ref a_t_past, .ref a_t_costs, .int t_edits, .int 0, .ref a_t_into, .ref a_t_isNeeded, .ref a_t_depths, .ref a_t_names, .ref a_t_out, .int u.1, .ref a_t_has])), (a_t_v, .inl (ca 0, 206, .inl f_t_v)), (a_t_names, .inl (ca 2, 68, .inl f_t_names)), (a_t_out, .inl (ca 0, 2000, .inl u.2))]) ⟨hx, hb, hml, hown, hts⟩ (mX9_tellsWord l D ca a_t a_t_v a_t_past a_t_costs a_t_into a_t_isNeeded a_t_depths a_t_names a_t_out a_t_has _ t_edits 0 t_outs_49 f_t_names f_t_out_49 (f_t_v x3_37.toNatClampNeg) _ h) (cwV 1 hts (gV q_1162 q_1164 qs_62 q_8 q_1165) rfl rfl rfl (by decide +kernel) ⟨Nat.le_of_ble_eq_true rfl, Nat.le_of_ble_eq_true rfl⟩) hK hP hD hS hA [0, 2, 3] [1] [1, 0, 2, 3] rfl rfl rfl (by decide) (fun _ => rfl) (ci := 7) (q0 := 0) rfl rfl rfl hl.1 rfl (Nat.le_of_ble_eq_true rfl) dX9_listingChar_59 ⟨Nat.le_of_ble_eq_true rfl, Nat.le_of_ble_eq_true rfl⟩ (fun u9 H locs h hP hD hS => ?_)
          obtain ⟨t_outs_59, f_t_out_59⟩ := u9
          have hP : va_P D vwCl [(a_t, .inr (7, [.ref a_t_v, .ref a_t_past, .ref a_t_costs, .int t_edits, .int 0, .ref a_t_into, .ref a_t_isNeeded, .ref a_t_depths, .ref a_t_names, .ref a_t_out, .int t_outs_59, .ref a_t_has])), (a_t_v, .inl (ca 0, 206, .inl f_t_v)), (a_t_names, .inl (ca 2, 68, .inl f_t_names)), (a_t_out, .inl (ca 0, 2000, .inl f_t_out_59))] H := hP
          have hD : va_D A [(a_t, .inr (7, [.ref a_t_v, .ref a_t_past, .ref a_t_costs, .int t_edits, .int 0, .ref a_t_into, .ref a_t_isNeeded, .ref a_t_depths, .ref a_t_names, .ref a_t_out, .int t_outs_59, .ref a_t_has])), (a_t_v, .inl (ca 0, 206, .inl f_t_v)), (a_t_names, .inl (ca 2, 68, .inl f_t_names)), (a_t_out, .inl (ca 0, 2000, .inl f_t_out_59))] := hD
          try dsimp only at h
          refine lv_aload_n hx hb dX9_listingChar_62 rfl (lv_at hl 1 rfl) ?_
          refine lv_bipush (v := 32) hx hb dX9_listingChar_63 (by decide) ?_
          refine cVv (As := [.int 32]) (rest := []) (wc := [(a_t, .inr (7, [.ref a_t_v, .ref a_t_past, .ref a_t_costs, .int t_edits, .int 0, .ref a_t_into, .ref a_t_isNeeded, .ref a_t_depths, .ref a_t_names, .ref a_t_out, .int t_outs_59, .ref a_t_has])), (a_t_out, .inl (ca 0, 2000, .inl f_t_out_59))]) (wr := [(a_t_v, .inl (ca 0, 206, .inl f_t_v)), (a_t_names, .inl (ca 2, 68, .inl f_t_names))]) (w1 := fun u : Int32 × (Nat → Int32) => [(a_t, .inr (7, [.ref a_t_v, .ref a_t_past, .ref a_t_costs, .int t_edits, .int 0, .ref a_t_into, .ref a_t_isNeeded, .ref a_t_depths, .ref a_t_names, .ref a_t_out, .int u.1, .ref a_t_has])), (a_t_out, .inl (ca 0, 2000, .inl u.2))]) (ws2 := fun u : Int32 × (Nat → Int32) => [(a_t, .inr (7, [.ref a_t_v, .ref a_t_past, .ref a_t_costs, .int t_edits, .int 0, .ref a_t_into, .ref a_t_isNeeded, .ref a_t_depths, .ref a_t_names, .ref a_t_out, .int u.1, .ref a_t_has])), (a_t_v, .inl (ca 0, 206, .inl f_t_v)), (a_t_names, .inl (ca 2, 68, .inl f_t_names)), (a_t_out, .inl (ca 0, 2000, .inl u.2))]) ⟨hx, hb, hml, hown, hts⟩ (mX9_tells l D ca a_t a_t_v a_t_past a_t_costs a_t_into a_t_isNeeded a_t_depths a_t_names a_t_out a_t_has _ t_edits 0 t_outs_59 f_t_out_59 32 _ h) (cwV 1 hts (gV q_1154 q_1156 qs_60 q_8 q_1157) rfl rfl rfl (by decide +kernel) ⟨Nat.le_of_ble_eq_true rfl, Nat.le_of_ble_eq_true rfl⟩) hK hP hD hS hA [0, 3] [1, 2] [2, 0, 1, 3] rfl rfl rfl (by decide) (fun _ => rfl) (ci := 7) (q0 := 0) rfl rfl rfl hl.1 rfl (Nat.le_of_ble_eq_true rfl) dX9_listingChar_65 ⟨Nat.le_of_ble_eq_true rfl, Nat.le_of_ble_eq_true rfl⟩ (fun u9 H locs h hP hD hS => ?_)
          obtain ⟨t_outs_65, f_t_out_65⟩ := u9
          have hP : va_P D vwCl [(a_t, .inr (7, [.ref a_t_v, .ref a_t_past, .ref a_t_costs, .int t_edits, .int 0, .ref a_t_into, .ref a_t_isNeeded, .ref a_t_depths, .ref a_t_names, .ref a_t_out, .int t_outs_65, .ref a_t_has])), (a_t_v, .inl (ca 0, 206, .inl f_t_v)), (a_t_names, .inl (ca 2, 68, .inl f_t_names)), (a_t_out, .inl (ca 0, 2000, .inl f_t_out_65))] H := hP
          have hD : va_D A [(a_t, .inr (7, [.ref a_t_v, .ref a_t_past, .ref a_t_costs, .int t_edits, .int 0, .ref a_t_into, .ref a_t_isNeeded, .ref a_t_depths, .ref a_t_names, .ref a_t_out, .int t_outs_65, .ref a_t_has])), (a_t_v, .inl (ca 0, 206, .inl f_t_v)), (a_t_names, .inl (ca 2, 68, .inl f_t_names)), (a_t_out, .inl (ca 0, 2000, .inl f_t_out_65))] := hD
          try dsimp only at h
          refine lv_aload_n hx hb dX9_listingChar_68 rfl (lv_at hl 1 rfl) ?_
          refine lv_aload_n hx hb dX9_listingChar_69 rfl (lv_at hl 1 rfl) ?_
          refine va_get (D := D) (ci := 7) (v := .ref a_t_v) (C := RX9) (T := TX9) (N := 12) hx hb hq inX9g hown hK hP 0 rfl rfl 0 (by decide) (hq _ q_881) (fun _ h9 => h9) rfl dX9_listingChar_70 ?_
          refine lv_iload_n hx hb dX9_listingChar_73 rfl (lv_at hl 0 rfl) ?_
          refine lv_iconst (v := 1) hx hb dX9_listingChar_74 (by decide) ?_
          refine lv_iadd hx hb dX9_listingChar_75 ?_
          obtain ⟨hi9, h⟩ := h
          refine va_iald hx hb hK hP 1 0 rfl rfl hi9 dX9_listingChar_76 ?_
          refine lv_aload_n hx hb dX9_listingChar_77 rfl (lv_at hl 1 rfl) ?_
          refine va_get (D := D) (ci := 7) (v := .ref a_t_v) (C := RX9) (T := TX9) (N := 12) hx hb hq inX9g hown hK hP 0 rfl rfl 0 (by decide) (hq _ q_881) (fun _ h9 => h9) rfl dX9_listingChar_78 ?_
          refine lv_iload_n hx hb dX9_listingChar_81 rfl (lv_at hl 0 rfl) ?_
          refine lv_iconst (v := 2) hx hb dX9_listingChar_82 (by decide) ?_
          refine lv_iadd hx hb dX9_listingChar_83 ?_
          obtain ⟨hi9, h⟩ := h
          refine va_iald hx hb hK hP 1 0 rfl rfl hi9 dX9_listingChar_84 ?_
          refine cVv (As := [.int (f_t_v (x3_37 + 1).toNatClampNeg), .int (f_t_v (x3_37 + 2).toNatClampNeg)]) (rest := []) (wc := [(a_t, .inr (7, [.ref a_t_v, .ref a_t_past, .ref a_t_costs, .int t_edits, .int 0, .ref a_t_into, .ref a_t_isNeeded, .ref a_t_depths, .ref a_t_names, .ref a_t_out, .int t_outs_65, .ref a_t_has])), (a_t_out, .inl (ca 0, 2000, .inl f_t_out_65))]) (wr := [(a_t_v, .inl (ca 0, 206, .inl f_t_v)), (a_t_names, .inl (ca 2, 68, .inl f_t_names))]) (w1 := fun u : Int32 × (Nat → Int32) => [(a_t, .inr (7, [.ref a_t_v, .ref a_t_past, .ref a_t_costs, .int t_edits, .int 0, .ref a_t_into, .ref a_t_isNeeded, .ref a_t_depths, .ref a_t_names, .ref a_t_out, .int u.1, .ref a_t_has])), (a_t_out, .inl (ca 0, 2000, .inl u.2))]) (ws2 := fun u : Int32 × (Nat → Int32) => [(a_t, .inr (7, [.ref a_t_v, .ref a_t_past, .ref a_t_costs, .int t_edits, .int 0, .ref a_t_into, .ref a_t_isNeeded, .ref a_t_depths, .ref a_t_names, .ref a_t_out, .int u.1, .ref a_t_has])), (a_t_v, .inl (ca 0, 206, .inl f_t_v)), (a_t_names, .inl (ca 2, 68, .inl f_t_names)), (a_t_out, .inl (ca 0, 2000, .inl u.2))]) ⟨hx, hb, hml, hown, hts⟩ (mX9_tellsOperand l D ca a_t a_t_v a_t_past a_t_costs a_t_into a_t_isNeeded a_t_depths a_t_names a_t_out a_t_has _ t_edits 0 t_outs_65 f_t_out_65 (f_t_v (x3_37 + 1).toNatClampNeg) (f_t_v (x3_37 + 2).toNatClampNeg) _ h) (cwV 2 hts (gV q_1150 q_1152 qs_59 q_8 q_1153) rfl rfl rfl (by decide +kernel) ⟨Nat.le_of_ble_eq_true rfl, Nat.le_of_ble_eq_true rfl⟩) hK hP hD hS hA [0, 3] [1, 2] [2, 0, 1, 3] rfl rfl rfl (by decide) (fun _ => rfl) (ci := 7) (q0 := 0) rfl rfl rfl hl.1 rfl (Nat.le_of_ble_eq_true rfl) dX9_listingChar_85 ⟨Nat.le_of_ble_eq_true rfl, Nat.le_of_ble_eq_true rfl⟩ (fun u9 H locs h hP hD hS => ?_)
          obtain ⟨t_outs_85, f_t_out_85⟩ := u9
          have hP : va_P D vwCl [(a_t, .inr (7, [.ref a_t_v, .ref a_t_past, .ref a_t_costs, .int t_edits, .int 0, .ref a_t_into, .ref a_t_isNeeded, .ref a_t_depths, .ref a_t_names, .ref a_t_out, .int t_outs_85, .ref a_t_has])), (a_t_v, .inl (ca 0, 206, .inl f_t_v)), (a_t_names, .inl (ca 2, 68, .inl f_t_names)), (a_t_out, .inl (ca 0, 2000, .inl f_t_out_85))] H := hP
          have hD : va_D A [(a_t, .inr (7, [.ref a_t_v, .ref a_t_past, .ref a_t_costs, .int t_edits, .int 0, .ref a_t_into, .ref a_t_isNeeded, .ref a_t_depths, .ref a_t_names, .ref a_t_out, .int t_outs_85, .ref a_t_has])), (a_t_v, .inl (ca 0, 206, .inl f_t_v)), (a_t_names, .inl (ca 2, 68, .inl f_t_names)), (a_t_out, .inl (ca 0, 2000, .inl f_t_out_85))] := hD
          try dsimp only at h
          refine lv_aload_n hx hb dX9_listingChar_88 rfl (lv_at hl 1 rfl) ?_
          refine lv_bipush (v := 13) hx hb dX9_listingChar_89 (by decide) ?_
          refine cVv (As := [.int 13]) (rest := []) (wc := [(a_t, .inr (7, [.ref a_t_v, .ref a_t_past, .ref a_t_costs, .int t_edits, .int 0, .ref a_t_into, .ref a_t_isNeeded, .ref a_t_depths, .ref a_t_names, .ref a_t_out, .int t_outs_85, .ref a_t_has])), (a_t_names, .inl (ca 2, 68, .inl f_t_names)), (a_t_out, .inl (ca 0, 2000, .inl f_t_out_85))]) (wr := [(a_t_v, .inl (ca 0, 206, .inl f_t_v))]) (w1 := fun u : Int32 × (Nat → Int32) => [(a_t, .inr (7, [.ref a_t_v, .ref a_t_past, .ref a_t_costs, .int t_edits, .int 0, .ref a_t_into, .ref a_t_isNeeded, .ref a_t_depths, .ref a_t_names, .ref a_t_out, .int u.1, .ref a_t_has])), (a_t_names, .inl (ca 2, 68, .inl f_t_names)), (a_t_out, .inl (ca 0, 2000, .inl u.2))]) (ws2 := fun u : Int32 × (Nat → Int32) => [(a_t, .inr (7, [.ref a_t_v, .ref a_t_past, .ref a_t_costs, .int t_edits, .int 0, .ref a_t_into, .ref a_t_isNeeded, .ref a_t_depths, .ref a_t_names, .ref a_t_out, .int u.1, .ref a_t_has])), (a_t_v, .inl (ca 0, 206, .inl f_t_v)), (a_t_names, .inl (ca 2, 68, .inl f_t_names)), (a_t_out, .inl (ca 0, 2000, .inl u.2))]) ⟨hx, hb, hml, hown, hts⟩ (mX9_tellsWord l D ca a_t a_t_v a_t_past a_t_costs a_t_into a_t_isNeeded a_t_depths a_t_names a_t_out a_t_has _ t_edits 0 t_outs_85 f_t_names f_t_out_85 13 _ h) (cwV 1 hts (gV q_1162 q_1164 qs_62 q_8 q_1165) rfl rfl rfl (by decide +kernel) ⟨Nat.le_of_ble_eq_true rfl, Nat.le_of_ble_eq_true rfl⟩) hK hP hD hS hA [0, 2, 3] [1] [1, 0, 2, 3] rfl rfl rfl (by decide) (fun _ => rfl) (ci := 7) (q0 := 0) rfl rfl rfl hl.1 rfl (Nat.le_of_ble_eq_true rfl) dX9_listingChar_91 ⟨Nat.le_of_ble_eq_true rfl, Nat.le_of_ble_eq_true rfl⟩ (fun u9 H locs h hP hD hS => ?_)
          obtain ⟨t_outs_91, f_t_out_91⟩ := u9
          have hP : va_P D vwCl [(a_t, .inr (7, [.ref a_t_v, .ref a_t_past, .ref a_t_costs, .int t_edits, .int 0, .ref a_t_into, .ref a_t_isNeeded, .ref a_t_depths, .ref a_t_names, .ref a_t_out, .int t_outs_91, .ref a_t_has])), (a_t_v, .inl (ca 0, 206, .inl f_t_v)), (a_t_names, .inl (ca 2, 68, .inl f_t_names)), (a_t_out, .inl (ca 0, 2000, .inl f_t_out_91))] H := hP
          have hD : va_D A [(a_t, .inr (7, [.ref a_t_v, .ref a_t_past, .ref a_t_costs, .int t_edits, .int 0, .ref a_t_into, .ref a_t_isNeeded, .ref a_t_depths, .ref a_t_names, .ref a_t_out, .int t_outs_91, .ref a_t_has])), (a_t_v, .inl (ca 0, 206, .inl f_t_v)), (a_t_names, .inl (ca 2, 68, .inl f_t_names)), (a_t_out, .inl (ca 0, 2000, .inl f_t_out_91))] := hD
          try dsimp only at h
          refine lv_aload_n hx hb dX9_listingChar_94 rfl (lv_at hl 1 rfl) ?_
          refine lv_aload_n hx hb dX9_listingChar_95 rfl (lv_at hl 1 rfl) ?_
          refine va_get (D := D) (ci := 7) (v := .ref a_t_v) (C := RX9) (T := TX9) (N := 12) hx hb hq inX9g hown hK hP 0 rfl rfl 0 (by decide) (hq _ q_881) (fun _ h9 => h9) rfl dX9_listingChar_96 ?_
          refine lv_iload_n hx hb dX9_listingChar_99 rfl (lv_at hl 0 rfl) ?_
          refine lv_iconst (v := 3) hx hb dX9_listingChar_100 (by decide) ?_
          refine lv_iadd hx hb dX9_listingChar_101 ?_
          obtain ⟨hi9, h⟩ := h
          refine va_iald hx hb hK hP 1 0 rfl rfl hi9 dX9_listingChar_102 ?_
          refine lv_aload_n hx hb dX9_listingChar_103 rfl (lv_at hl 1 rfl) ?_
          refine va_get (D := D) (ci := 7) (v := .ref a_t_v) (C := RX9) (T := TX9) (N := 12) hx hb hq inX9g hown hK hP 0 rfl rfl 0 (by decide) (hq _ q_881) (fun _ h9 => h9) rfl dX9_listingChar_104 ?_
          refine lv_iload_n hx hb dX9_listingChar_107 rfl (lv_at hl 0 rfl) ?_
          refine lv_iconst (v := 4) hx hb dX9_listingChar_108 (by decide) ?_
          refine lv_iadd hx hb dX9_listingChar_109 ?_
          obtain ⟨hi9, h⟩ := h
          refine va_iald hx hb hK hP 1 0 rfl rfl hi9 dX9_listingChar_110 ?_
          refine cVv (As := [.int (f_t_v (x3_37 + 3).toNatClampNeg), .int (f_t_v (x3_37 + 4).toNatClampNeg)]) (rest := []) (wc := [(a_t, .inr (7, [.ref a_t_v, .ref a_t_past, .ref a_t_costs, .int t_edits, .int 0, .ref a_t_into, .ref a_t_isNeeded, .ref a_t_depths, .ref a_t_names, .ref a_t_out, .int t_outs_91, .ref a_t_has])), (a_t_out, .inl (ca 0, 2000, .inl f_t_out_91))]) (wr := [(a_t_v, .inl (ca 0, 206, .inl f_t_v)), (a_t_names, .inl (ca 2, 68, .inl f_t_names))]) (w1 := fun u : Int32 × (Nat → Int32) => [(a_t, .inr (7, [.ref a_t_v, .ref a_t_past, .ref a_t_costs, .int t_edits, .int 0, .ref a_t_into, .ref a_t_isNeeded, .ref a_t_depths, .ref a_t_names, .ref a_t_out, .int u.1, .ref a_t_has])), (a_t_out, .inl (ca 0, 2000, .inl u.2))]) (ws2 := fun u : Int32 × (Nat → Int32) => [(a_t, .inr (7, [.ref a_t_v, .ref a_t_past, .ref a_t_costs, .int t_edits, .int 0, .ref a_t_into, .ref a_t_isNeeded, .ref a_t_depths, .ref a_t_names, .ref a_t_out, .int u.1, .ref a_t_has])), (a_t_v, .inl (ca 0, 206, .inl f_t_v)), (a_t_names, .inl (ca 2, 68, .inl f_t_names)), (a_t_out, .inl (ca 0, 2000, .inl u.2))]) ⟨hx, hb, hml, hown, hts⟩ (mX9_tellsOperand l D ca a_t a_t_v a_t_past a_t_costs a_t_into a_t_isNeeded a_t_depths a_t_names a_t_out a_t_has _ t_edits 0 t_outs_91 f_t_out_91 (f_t_v (x3_37 + 3).toNatClampNeg) (f_t_v (x3_37 + 4).toNatClampNeg) _ h) (cwV 2 hts (gV q_1150 q_1152 qs_59 q_8 q_1153) rfl rfl rfl (by decide +kernel) ⟨Nat.le_of_ble_eq_true rfl, Nat.le_of_ble_eq_true rfl⟩) hK hP hD hS hA [0, 3] [1, 2] [2, 0, 1, 3] rfl rfl rfl (by decide) (fun _ => rfl) (ci := 7) (q0 := 0) rfl rfl rfl hl.1 rfl (Nat.le_of_ble_eq_true rfl) dX9_listingChar_111 ⟨Nat.le_of_ble_eq_true rfl, Nat.le_of_ble_eq_true rfl⟩ (fun u9 H locs h hP hD hS => ?_)
          obtain ⟨t_outs_111, f_t_out_111⟩ := u9
          have hP : va_P D vwCl [(a_t, .inr (7, [.ref a_t_v, .ref a_t_past, .ref a_t_costs, .int t_edits, .int 0, .ref a_t_into, .ref a_t_isNeeded, .ref a_t_depths, .ref a_t_names, .ref a_t_out, .int t_outs_111, .ref a_t_has])), (a_t_v, .inl (ca 0, 206, .inl f_t_v)), (a_t_names, .inl (ca 2, 68, .inl f_t_names)), (a_t_out, .inl (ca 0, 2000, .inl f_t_out_111))] H := hP
          have hD : va_D A [(a_t, .inr (7, [.ref a_t_v, .ref a_t_past, .ref a_t_costs, .int t_edits, .int 0, .ref a_t_into, .ref a_t_isNeeded, .ref a_t_depths, .ref a_t_names, .ref a_t_out, .int t_outs_111, .ref a_t_has])), (a_t_v, .inl (ca 0, 206, .inl f_t_v)), (a_t_names, .inl (ca 2, 68, .inl f_t_names)), (a_t_out, .inl (ca 0, 2000, .inl f_t_out_111))] := hD
          try dsimp only at h
          refine lv_aload_n hx hb dX9_listingChar_114 rfl (lv_at hl 1 rfl) ?_
          refine lv_bipush (v := 10) hx hb dX9_listingChar_115 (by decide) ?_
          refine cVv (As := [.int 10]) (rest := []) (wc := [(a_t, .inr (7, [.ref a_t_v, .ref a_t_past, .ref a_t_costs, .int t_edits, .int 0, .ref a_t_into, .ref a_t_isNeeded, .ref a_t_depths, .ref a_t_names, .ref a_t_out, .int t_outs_111, .ref a_t_has])), (a_t_out, .inl (ca 0, 2000, .inl f_t_out_111))]) (wr := [(a_t_v, .inl (ca 0, 206, .inl f_t_v)), (a_t_names, .inl (ca 2, 68, .inl f_t_names))]) (w1 := fun u : Int32 × (Nat → Int32) => [(a_t, .inr (7, [.ref a_t_v, .ref a_t_past, .ref a_t_costs, .int t_edits, .int 0, .ref a_t_into, .ref a_t_isNeeded, .ref a_t_depths, .ref a_t_names, .ref a_t_out, .int u.1, .ref a_t_has])), (a_t_out, .inl (ca 0, 2000, .inl u.2))]) (ws2 := fun u : Int32 × (Nat → Int32) => [(a_t, .inr (7, [.ref a_t_v, .ref a_t_past, .ref a_t_costs, .int t_edits, .int 0, .ref a_t_into, .ref a_t_isNeeded, .ref a_t_depths, .ref a_t_names, .ref a_t_out, .int u.1, .ref a_t_has])), (a_t_v, .inl (ca 0, 206, .inl f_t_v)), (a_t_names, .inl (ca 2, 68, .inl f_t_names)), (a_t_out, .inl (ca 0, 2000, .inl u.2))]) ⟨hx, hb, hml, hown, hts⟩ (mX9_tells l D ca a_t a_t_v a_t_past a_t_costs a_t_into a_t_isNeeded a_t_depths a_t_names a_t_out a_t_has _ t_edits 0 t_outs_111 f_t_out_111 10 _ h) (cwV 1 hts (gV q_1154 q_1156 qs_60 q_8 q_1157) rfl rfl rfl (by decide +kernel) ⟨Nat.le_of_ble_eq_true rfl, Nat.le_of_ble_eq_true rfl⟩) hK hP hD hS hA [0, 3] [1, 2] [2, 0, 1, 3] rfl rfl rfl (by decide) (fun _ => rfl) (ci := 7) (q0 := 0) rfl rfl rfl hl.1 rfl (Nat.le_of_ble_eq_true rfl) dX9_listingChar_117 ⟨Nat.le_of_ble_eq_true rfl, Nat.le_of_ble_eq_true rfl⟩ (fun u9 H locs h hP hD hS => ?_)
          obtain ⟨t_outs_117, f_t_out_117⟩ := u9
          have hP : va_P D vwCl [(a_t, .inr (7, [.ref a_t_v, .ref a_t_past, .ref a_t_costs, .int t_edits, .int 0, .ref a_t_into, .ref a_t_isNeeded, .ref a_t_depths, .ref a_t_names, .ref a_t_out, .int t_outs_117, .ref a_t_has])), (a_t_v, .inl (ca 0, 206, .inl f_t_v)), (a_t_names, .inl (ca 2, 68, .inl f_t_names)), (a_t_out, .inl (ca 0, 2000, .inl f_t_out_117))] H := hP
          have hD : va_D A [(a_t, .inr (7, [.ref a_t_v, .ref a_t_past, .ref a_t_costs, .int t_edits, .int 0, .ref a_t_into, .ref a_t_isNeeded, .ref a_t_depths, .ref a_t_names, .ref a_t_out, .int t_outs_117, .ref a_t_has])), (a_t_v, .inl (ca 0, 206, .inl f_t_v)), (a_t_names, .inl (ca 2, 68, .inl f_t_names)), (a_t_out, .inl (ca 0, 2000, .inl f_t_out_117))] := hD
          try dsimp only at h
          obtain ⟨x2_120, ex2_120⟩ : ∃ y : Int32, y = x2_22 + 1 := ⟨_, rfl⟩
          have h := h x2_120 ex2_120
          refine lv_iinc (v := x2_120) (lv' := [(2, .int x2_120), (3, .int x3_37), (0, .ref a_t), (1, .int x1)]) hx hb dX9_listingChar_120 hl (k := 3) rfl (by rw [ex2_120]; rfl) (by decide) rfl (fun ls hl => ?_)
          refine lv_goto (tgt := 22) hx hb dX9_listingChar_123 (by decide) ?_
          exact ih22 x2_120 t_outs_117 f_t_out_117 _ _ _ hP hD hS (lv_sub hl [2, 3, 0] rfl) h
    obtain ⟨k9, h⟩ := h
    exact hL22 k9 0 0 f_t_out _ _ _ hP hD hS (lv_sub hl [1, 2, 0] rfl) h
  · have h := h.2 c9
    refine lv_aload_n hx hb dX9_listingChar_9 rfl (lv_at hl 0 rfl) ?_
    refine lv_iconst (v := 1) hx hb dX9_listingChar_10 (by decide) ?_
    refine cVi (As := [.int 1]) (rest := []) (wc := [(a_t, .inr (7, [.ref a_t_v, .ref a_t_past, .ref a_t_costs, .int t_edits, .int 0, .ref a_t_into, .ref a_t_isNeeded, .ref a_t_depths, .ref a_t_names, .ref a_t_out, .int t_outs, .ref a_t_has]))]) (wr := [(a_t_v, .inl (ca 0, 206, .inl f_t_v)), (a_t_names, .inl (ca 2, 68, .inl f_t_names)), (a_t_out, .inl (ca 0, 2000, .inl f_t_out))]) (w1 := fun u : Int32 => [(a_t, .inr (7, [.ref a_t_v, .ref a_t_past, .ref a_t_costs, .int t_edits, .int u, .ref a_t_into, .ref a_t_isNeeded, .ref a_t_depths, .ref a_t_names, .ref a_t_out, .int t_outs, .ref a_t_has]))]) (ws2 := fun u : Int32 => [(a_t, .inr (7, [.ref a_t_v, .ref a_t_past, .ref a_t_costs, .int t_edits, .int u, .ref a_t_into, .ref a_t_isNeeded, .ref a_t_depths, .ref a_t_names, .ref a_t_out, .int t_outs, .ref a_t_has])), (a_t_v, .inl (ca 0, 206, .inl f_t_v)), (a_t_names, .inl (ca 2, 68, .inl f_t_names)), (a_t_out, .inl (ca 0, 2000, .inl f_t_out))]) ⟨hx, hb, hml, hown, hts⟩ (mX9_fails l D ca a_t a_t_v a_t_past a_t_costs a_t_into a_t_isNeeded a_t_depths a_t_names a_t_out a_t_has _ t_edits 0 t_outs 1 _ h) (cwV 1 hts (gV q_933 q_935 qs_33 q_8 q_936) rfl rfl rfl (by decide +kernel) ⟨Nat.le_of_ble_eq_true rfl, Nat.le_of_ble_eq_true rfl⟩) hK hP hD hS hA [0] [1, 2, 3] [3, 0, 1, 2] rfl rfl rfl (by decide) (fun _ => rfl) (ci := 7) (q0 := 0) rfl rfl rfl hl.1 rfl (Nat.le_of_ble_eq_true rfl) dX9_listingChar_11 ⟨Nat.le_of_ble_eq_true rfl, Nat.le_of_ble_eq_true rfl⟩ (fun r_11 u9 H locs h hP hD hS => ?_)
    obtain ⟨t_thrown_11, rfl⟩ : ∃ z, z = u9 := ⟨_, rfl⟩
    have hP : va_P D vwCl [(a_t, .inr (7, [.ref a_t_v, .ref a_t_past, .ref a_t_costs, .int t_edits, .int t_thrown_11, .ref a_t_into, .ref a_t_isNeeded, .ref a_t_depths, .ref a_t_names, .ref a_t_out, .int t_outs, .ref a_t_has])), (a_t_v, .inl (ca 0, 206, .inl f_t_v)), (a_t_names, .inl (ca 2, 68, .inl f_t_names)), (a_t_out, .inl (ca 0, 2000, .inl f_t_out))] H := hP
    have hD : va_D A [(a_t, .inr (7, [.ref a_t_v, .ref a_t_past, .ref a_t_costs, .int t_edits, .int t_thrown_11, .ref a_t_into, .ref a_t_isNeeded, .ref a_t_depths, .ref a_t_names, .ref a_t_out, .int t_outs, .ref a_t_has])), (a_t_v, .inl (ca 0, 206, .inl f_t_v)), (a_t_names, .inl (ca 2, 68, .inl f_t_names)), (a_t_out, .inl (ca 0, 2000, .inl f_t_out))] := hD
    try dsimp only at h
    exact W.iret (v := r_11) hx hb hr (fun t ht hW => ⟨⟨r_11, (t_thrown_11, t_outs, f_t_out), rfl, h, by rw [ht]; exact hP, va_K.moved hW.alike hK, hD⟩, hS.F ht⟩) hS.2.2 dX9_listingChar_14
