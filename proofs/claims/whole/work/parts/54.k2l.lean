abbrev qX2_pass (D : va_G) (ca : Nat → ClassId) (a_t : Nat) (Q : Int32 → Int32 → Prop) (A : Nat → Prop) : Array Value → State → Outcome → State → Prop := va_Qv (fun (u : Int32 × Int32) => Q u.1 u.2) (wEnd D ca (fun u : Int32 × Int32 => [(a_t, .inr (2, [.int u.1, .int u.2]))]) A) A
def wX2_pass_12 (t_left : Int32) (Q : Int32 → Int32 → Prop) (t_seen_12 : Int32) : Prop :=
  Q (t_left - 1) t_seen_12
def wX2_pass (t_left : Int32) (t_seen : Int32) (x1 : Int32) (Q : Int32 → Int32 → Prop) : Prop :=
  ((t_left = 0 → wX2_pass_12 t_left Q x1) ∧ (¬ t_left = 0 → wX2_pass_12 t_left Q t_seen))
set_option maxHeartbeats 4000000 in
set_option maxRecDepth 100000 in
theorem mX2_pass (l : Launch) (D : va_G) (ca : Nat → ClassId) (a_t : Nat) (sz : Nat) (t_left : Int32) (t_seen : Int32) (x1 : Int32) (Q : Int32 → Int32 → Prop) (h : wX2_pass t_left t_seen x1 Q) : Met l yX2_pass (Cond.code yX2_pass cX2_pass 2 none :: wsG) ({ frames := 0, cells := 0, slots := 0, locals := 0 } : Room) (va_Pc [.ref a_t, .int x1] (wPre D ca [(a_t, .inr (2, [.int t_left, .int t_seen]))] sz)) (qX2_pass D ca a_t Q (va_A [(a_t, .inr (2, [.int t_left, .int t_seen]))] sz)) 0 0 (va_A [(a_t, .inr (2, [.int t_left, .int t_seen]))] sz) := by
  refine Met.ofW (cc := cX2_pass) (maxL := 2) (ret := none) (by decide) rfl ?_
  intro p e s m args below meth c s₁ B hml hv
  obtain ⟨rfl, hsz, hP, hK, hD0⟩ := hv
  have hx := B.exec
  have hb := B.bytes
  have hr := B.returns
  have hts := atoms_spec (ws := (Cond.code yX2_pass cX2_pass 2 none :: wsG)) B.pre
  have hq : ∀ w ∈ wsG, w.before _ s = true := fun w hw => hts w (List.mem_cons_of_mem _ hw)
  have hown : s.vm.findClass RX2 = some m.cls := findClass_of_methodNamed B.named
  have hlocks := B.notSynchronized
  subst hsz
  have hD := hD0.self (sz := s.heap.size)
  generalize hAe : va_A [(a_t, .inr (2, [.int t_left, .int t_seen]))] s.heap.size = A at hD ⊢
  have hA : ∀ q : Nat, s.heap.size ≤ q → A q := fun q h => by rw [← hAe]; exact Or.inr h
  have hS : va_S A s.heap s.heap [] := va_S.rf
  have hP : va_P D vwCl [(a_t, .inr (2, [.int t_left, .int t_seen]))] s.heap := hP
  have hl := lv_entry ([.ref a_t, .int x1]) (n := 2) (Nat.le_of_ble_eq_true rfl)
  rw [lg_entry_eq]
  generalize (lg_sl ([.ref a_t, .int x1]) ++ List.replicate (2 - (lg_sl ([.ref a_t, .int x1])).length) Slot.unset).toArray = ls at hl ⊢
  have hl : lv_has ls 2 [(0, .ref a_t), (1, .int x1)] := hl
  unfold wX2_pass at h
  refine lv_aload_n hx hb dX2_pass_0 rfl (lv_at hl 0 rfl) ?_
  refine va_get (D := D) (ci := 2) (v := .int t_left) (C := RX2) (T := TX2) (N := 2) hx hb hq inX2g hown hK hP 0 rfl rfl 0 (by decide) (hq _ q_162) (fun _ h9 => h9) rfl dX2_pass_1 ?_
  have hJ12 : ∀ (t_seen_12 : Int32) (H : Heap) (locs : List Loc) (ls : Array Slot), va_P D vwCl [(a_t, .inr (2, [.int t_left, .int t_seen_12]))] H → va_D A [(a_t, .inr (2, [.int t_left, .int t_seen_12]))] → va_S A s.heap H locs → lv_has ls 2 [(0, .ref a_t)] → wX2_pass_12 t_left Q t_seen_12 → W p l e (headSpec (Cond.code yX2_pass cX2_pass 2 none :: wsG) ({ frames := 0, cells := 0, slots := 0, locals := 0 } : Room)).room s m ([.ref a_t, .int x1] : List Value).toArray below meth c H locs 0 0 (MQ below (qX2_pass D ca a_t Q A) ([.ref a_t, .int x1] : List Value).toArray s 0 0 A) (F0 m 12 ls []) := by
    intro t_seen_12 H locs ls hP hD hS hl h
    unfold wX2_pass_12 at h
    refine lv_aload_n hx hb dX2_pass_12 rfl (lv_at hl 0 rfl) ?_
    refine lv_dup hx hb dX2_pass_13 rfl ?_
    refine va_get (D := D) (ci := 2) (v := .int t_left) (C := RX2) (T := TX2) (N := 2) hx hb hq inX2g hown hK hP 0 rfl rfl 0 (by decide) (hq _ q_162) (fun _ h9 => h9) rfl dX2_pass_14 ?_
    refine lv_iconst (v := 1) hx hb dX2_pass_17 (by decide) ?_
    refine lv_isub hx hb dX2_pass_18 ?_
    refine va_put (D := D) (ci := 2) (v := .int (t_left - 1)) (ty := .int) (C := RX2) (T := TX2) (N := 2) hx hb hq inX2g tyX2 tyX2_ok nmX2 hown hK hP hD hS 0 rfl rfl 0 (by decide) (hq _ q_162) (fun _ h9 => h9) rfl (by decide +kernel) rfl rfl (Nat.le_of_ble_eq_true rfl) dX2_pass_19 (fun H locs hP hD hS => ?_)
    have hP : va_P D vwCl [(a_t, .inr (2, [.int (t_left - 1), .int t_seen_12]))] H := hP
    have hD : va_D A [(a_t, .inr (2, [.int (t_left - 1), .int t_seen_12]))] := hD
    exact W.vret hx hb hr (fun t ht hW => ⟨⟨(t_left - 1, t_seen_12), rfl, h, by rw [ht]; exact hP, va_K.moved hW.alike hK, hD⟩, hS.F ht⟩) hS.2.2 dX2_pass_22
  refine lv_if_ne (tgt := 12) hx hb dX2_pass_4 (by decide) (fun c9 => ?_) (fun c9 => ?_)
  · have h := h.2 c9
    exact hJ12 t_seen _ _ _ hP hD hS (lv_sub hl [0] rfl) h
  · have h := h.1 c9
    refine lv_aload_n hx hb dX2_pass_7 rfl (lv_at hl 0 rfl) ?_
    refine lv_iload_n hx hb dX2_pass_8 rfl (lv_at hl 1 rfl) ?_
    refine va_put (D := D) (ci := 2) (v := .int x1) (ty := .int) (C := RX2) (T := TX2) (N := 2) hx hb hq inX2g tyX2 tyX2_ok nmX2 hown hK hP hD hS 0 rfl rfl 1 (by decide) (hq _ q_163) (fun _ h9 => h9) rfl (by decide +kernel) rfl rfl (Nat.le_of_ble_eq_true rfl) dX2_pass_9 (fun H locs hP hD hS => ?_)
    have hP : va_P D vwCl [(a_t, .inr (2, [.int t_left, .int x1]))] H := hP
    have hD : va_D A [(a_t, .inr (2, [.int t_left, .int x1]))] := hD
    exact hJ12 x1 _ _ _ hP hD hS (lv_sub hl [0] rfl) h

abbrev qX2_passNumber (D : va_G) (ca : Nat → ClassId) (a_t : Nat) (Q : Int32 → Int32 → Prop) (A : Nat → Prop) : Array Value → State → Outcome → State → Prop := va_Qv (fun (u : Int32 × Int32) => Q u.1 u.2) (wEnd D ca (fun u : Int32 × Int32 => [(a_t, .inr (2, [.int u.1, .int u.2]))]) A) A
def wX2_passNumber_33 (x2_4 : Int32) (K4 : Int32 → Int32 → Int32 → Prop) (t_left_33 : Int32) (t_seen_33 : Int32) : Prop :=
  (∀ x2_37 : Int32, x2_37 = x2_4 / 10 → K4 x2_37 t_left_33 t_seen_33)
def wX2_passNumber_19 (x1 : Int32) (x2_4 : Int32) (t_left_4 : Int32) (t_seen_4 : Int32) (K4 : Int32 → Int32 → Int32 → Prop) : Prop :=
  (¬ x2_4 = 0 ∧ wX2_pass t_left_4 t_seen_4 (((48 + ((x1 / x2_4) - (x1 / x2_4) / 10 * 10)).toUInt32 % 65536).toInt32) (fun t_left_30 t_seen_30 => wX2_passNumber_33 x2_4 K4 t_left_30 t_seen_30))
def wX2_passNumber_4 (x1 : Int32) (Q : Int32 → Int32 → Prop) : Nat → Int32 → Int32 → Int32 → Prop
  | 0, _, _, _ => False
  | n9 + 1, x2_4, t_left_4, t_seen_4 =>
  ((x2_4 < 1 → Q t_left_4 t_seen_4) ∧ (¬ x2_4 < 1 → ((x2_4 ≤ x1 → wX2_passNumber_19 x1 x2_4 t_left_4 t_seen_4 (wX2_passNumber_4 x1 Q n9)) ∧ (¬ x2_4 ≤ x1 → ((x2_4 = 1 → wX2_passNumber_19 x1 x2_4 t_left_4 t_seen_4 (wX2_passNumber_4 x1 Q n9)) ∧ (¬ x2_4 = 1 → wX2_passNumber_33 x2_4 (wX2_passNumber_4 x1 Q n9) t_left_4 t_seen_4))))))
def wX2_passNumber (t_left : Int32) (t_seen : Int32) (x1 : Int32) (Q : Int32 → Int32 → Prop) : Prop :=
  (∃ k9, wX2_passNumber_4 x1 Q k9 10000 t_left t_seen)
set_option maxHeartbeats 4000000 in
set_option maxRecDepth 100000 in
theorem mX2_passNumber (l : Launch) (D : va_G) (ca : Nat → ClassId) (a_t : Nat) (sz : Nat) (t_left : Int32) (t_seen : Int32) (x1 : Int32) (Q : Int32 → Int32 → Prop) (h : wX2_passNumber t_left t_seen x1 Q) : Met l yX2_passNumber (Cond.code yX2_passNumber cX2_passNumber 3 none :: wsG) ({ frames := 1, cells := 0, slots := 0, locals := 21 } : Room) (va_Pc [.ref a_t, .int x1] (wPre D ca [(a_t, .inr (2, [.int t_left, .int t_seen]))] sz)) (qX2_passNumber D ca a_t Q (va_A [(a_t, .inr (2, [.int t_left, .int t_seen]))] sz)) 0 0 (va_A [(a_t, .inr (2, [.int t_left, .int t_seen]))] sz) := by
  refine Met.ofW (cc := cX2_passNumber) (maxL := 3) (ret := none) (by decide) rfl ?_
  intro p e s m args below meth c s₁ B hml hv
  obtain ⟨rfl, hsz, hP, hK, hD0⟩ := hv
  have hx := B.exec
  have hb := B.bytes
  have hr := B.returns
  have hts := atoms_spec (ws := (Cond.code yX2_passNumber cX2_passNumber 3 none :: wsG)) B.pre
  have hq : ∀ w ∈ wsG, w.before _ s = true := fun w hw => hts w (List.mem_cons_of_mem _ hw)
  have hown : s.vm.findClass RX2 = some m.cls := findClass_of_methodNamed B.named
  have hlocks := B.notSynchronized
  subst hsz
  have hD := hD0.self (sz := s.heap.size)
  generalize hAe : va_A [(a_t, .inr (2, [.int t_left, .int t_seen]))] s.heap.size = A at hD ⊢
  have hA : ∀ q : Nat, s.heap.size ≤ q → A q := fun q h => by rw [← hAe]; exact Or.inr h
  have hS : va_S A s.heap s.heap [] := va_S.rf
  have hP : va_P D vwCl [(a_t, .inr (2, [.int t_left, .int t_seen]))] s.heap := hP
  have hl := lv_entry ([.ref a_t, .int x1]) (n := 3) (Nat.le_of_ble_eq_true rfl)
  rw [lg_entry_eq]
  generalize (lg_sl ([.ref a_t, .int x1]) ++ List.replicate (3 - (lg_sl ([.ref a_t, .int x1])).length) Slot.unset).toArray = ls at hl ⊢
  have hl : lv_has ls 3 [(0, .ref a_t), (1, .int x1)] := hl
  unfold wX2_passNumber at h
  refine lv_sipush (v := 10000) hx hb dX2_passNumber_0 (by decide) ?_
  refine lv_istore_n (lv' := [(2, .int 10000), (0, .ref a_t), (1, .int x1)]) hx hb dX2_passNumber_3 rfl hl (by decide) rfl (fun ls hl => ?_)
  have hL4 : ∀ (n9_4 : Nat) (x2_4 : Int32) (t_left_4 : Int32) (t_seen_4 : Int32) (H : Heap) (locs : List Loc) (ls : Array Slot), va_P D vwCl [(a_t, .inr (2, [.int t_left_4, .int t_seen_4]))] H → va_D A [(a_t, .inr (2, [.int t_left_4, .int t_seen_4]))] → va_S A s.heap H locs → lv_has ls 3 [(0, .ref a_t), (1, .int x1), (2, .int x2_4)] → wX2_passNumber_4 x1 Q n9_4 x2_4 t_left_4 t_seen_4 → W p l e (headSpec (Cond.code yX2_passNumber cX2_passNumber 3 none :: wsG) ({ frames := 1, cells := 0, slots := 0, locals := 21 } : Room)).room s m ([.ref a_t, .int x1] : List Value).toArray below meth c H locs 0 0 (MQ below (qX2_passNumber D ca a_t Q A) ([.ref a_t, .int x1] : List Value).toArray s 0 0 A) (F0 m 4 ls []) := by
    intro n9_4
    induction n9_4 with
    | zero =>
      intro x2_4 t_left_4 t_seen_4 H locs ls hP hD hS hl h
      exact False.elim h
    | succ n9_4 ih4 =>
      intro x2_4 t_left_4 t_seen_4 H locs ls hP hD hS hl h
      unfold wX2_passNumber_4 at h
      refine lv_iload_n hx hb dX2_passNumber_4 rfl (lv_at hl 2 rfl) ?_
      refine lv_iconst (v := 1) hx hb dX2_passNumber_5 (by decide) ?_
      refine lv_icmp_lt (tgt := 41) hx hb dX2_passNumber_6 (by decide) (fun c9 => ?_) (fun c9 => ?_)
      · have h := h.1 c9
        exact W.vret hx hb hr (fun t ht hW => ⟨⟨(t_left_4, t_seen_4), rfl, h, by rw [ht]; exact hP, va_K.moved hW.alike hK, hD⟩, hS.F ht⟩) hS.2.2 dX2_passNumber_41
      · have h := h.2 c9
        refine lv_iload_n hx hb dX2_passNumber_9 rfl (lv_at hl 1 rfl) ?_
        refine lv_iload_n hx hb dX2_passNumber_10 rfl (lv_at hl 2 rfl) ?_
        have hJ33 : ∀ (t_left_33 : Int32) (t_seen_33 : Int32) (H : Heap) (locs : List Loc) (ls : Array Slot), va_P D vwCl [(a_t, .inr (2, [.int t_left_33, .int t_seen_33]))] H → va_D A [(a_t, .inr (2, [.int t_left_33, .int t_seen_33]))] → va_S A s.heap H locs → lv_has ls 3 [(0, .ref a_t), (1, .int x1), (2, .int x2_4)] → wX2_passNumber_33 x2_4 (wX2_passNumber_4 x1 Q n9_4) t_left_33 t_seen_33 → W p l e (headSpec (Cond.code yX2_passNumber cX2_passNumber 3 none :: wsG) ({ frames := 1, cells := 0, slots := 0, locals := 21 } : Room)).room s m ([.ref a_t, .int x1] : List Value).toArray below meth c H locs 0 0 (MQ below (qX2_passNumber D ca a_t Q A) ([.ref a_t, .int x1] : List Value).toArray s 0 0 A) (F0 m 33 ls []) := by
          intro t_left_33 t_seen_33 H locs ls hP hD hS hl h
          unfold wX2_passNumber_33 at h
          refine lv_iload_n hx hb dX2_passNumber_33 rfl (lv_at hl 2 rfl) ?_
          refine lv_bipush (v := 10) hx hb dX2_passNumber_34 (by decide) ?_
          refine lv_idiv hx hb dX2_passNumber_36 (by decide) ?_
          refine lv_topi (fun x2_37 ex2_37 => ?_)
          have h := h x2_37 ex2_37
          refine lv_istore_n (lv' := [(2, .int x2_37), (0, .ref a_t), (1, .int x1)]) hx hb dX2_passNumber_37 rfl hl (by decide) rfl (fun ls hl => ?_)
          refine lv_goto (tgt := 4) hx hb dX2_passNumber_38 (by decide) ?_
          exact ih4 x2_37 t_left_33 t_seen_33 _ _ _ hP hD hS (lv_sub hl [1, 2, 0] rfl) h
        have hJ19 : ∀ (H : Heap) (locs : List Loc) (ls : Array Slot), va_P D vwCl [(a_t, .inr (2, [.int t_left_4, .int t_seen_4]))] H → va_D A [(a_t, .inr (2, [.int t_left_4, .int t_seen_4]))] → va_S A s.heap H locs → lv_has ls 3 [(0, .ref a_t), (1, .int x1), (2, .int x2_4)] → wX2_passNumber_19 x1 x2_4 t_left_4 t_seen_4 (wX2_passNumber_4 x1 Q n9_4) → W p l e (headSpec (Cond.code yX2_passNumber cX2_passNumber 3 none :: wsG) ({ frames := 1, cells := 0, slots := 0, locals := 21 } : Room)).room s m ([.ref a_t, .int x1] : List Value).toArray below meth c H locs 0 0 (MQ below (qX2_passNumber D ca a_t Q A) ([.ref a_t, .int x1] : List Value).toArray s 0 0 A) (F0 m 19 ls []) := by
          intro  H locs ls hP hD hS hl h
          unfold wX2_passNumber_19 at h
          refine lv_aload_n hx hb dX2_passNumber_19 rfl (lv_at hl 0 rfl) ?_
          refine lv_bipush (v := 48) hx hb dX2_passNumber_20 (by decide) ?_
          refine lv_iload_n hx hb dX2_passNumber_22 rfl (lv_at hl 1 rfl) ?_
          refine lv_iload_n hx hb dX2_passNumber_23 rfl (lv_at hl 2 rfl) ?_
          obtain ⟨hne9, h⟩ := h
          refine lv_idiv hx hb dX2_passNumber_24 hne9 ?_
          refine lv_bipush (v := 10) hx hb dX2_passNumber_25 (by decide) ?_
          refine lv_irem hx hb dX2_passNumber_27 (by decide) ?_
          refine lv_iadd hx hb dX2_passNumber_28 ?_
          refine lv_i2c hx hb dX2_passNumber_29 rfl ?_
          refine cVv (As := [.int (((48 + ((x1 / x2_4) - (x1 / x2_4) / 10 * 10)).toUInt32 % 65536).toInt32)]) (rest := []) (wc := [(a_t, .inr (2, [.int t_left_4, .int t_seen_4]))]) (wr := []) (w1 := fun u : Int32 × Int32 => [(a_t, .inr (2, [.int u.1, .int u.2]))]) (ws2 := fun u : Int32 × Int32 => [(a_t, .inr (2, [.int u.1, .int u.2]))]) ⟨hx, hb, hml, hown, hts⟩ (mX2_pass l D ca a_t _ t_left_4 t_seen_4 (((48 + ((x1 / x2_4) - (x1 / x2_4) / 10 * 10)).toUInt32 % 65536).toInt32) _ h) (cwV 1 hts (gV q_661 q_663 qs_25 q_7 q_664) rfl rfl rfl (by decide +kernel) ⟨Nat.le_of_ble_eq_true rfl, Nat.le_of_ble_eq_true rfl⟩) hK hP hD hS hA [0] [] [0] rfl rfl rfl (by decide) (fun _ => rfl) (ci := 2) (q0 := 0) rfl rfl rfl hl.1 rfl (Nat.le_of_ble_eq_true rfl) dX2_passNumber_30 ⟨Nat.le_of_ble_eq_true rfl, Nat.le_of_ble_eq_true rfl⟩ (fun u9 H locs h hP hD hS => ?_)
          obtain ⟨t_left_30, t_seen_30⟩ := u9
          have hP : va_P D vwCl [(a_t, .inr (2, [.int t_left_30, .int t_seen_30]))] H := hP
          have hD : va_D A [(a_t, .inr (2, [.int t_left_30, .int t_seen_30]))] := hD
          try dsimp only at h
          exact hJ33 t_left_30 t_seen_30 _ _ _ hP hD hS (lv_sub hl [0, 1, 2] rfl) h
        refine lv_icmp_ge (tgt := 19) hx hb dX2_passNumber_11 (by decide) (fun c9 => ?_) (fun c9 => ?_)
        · have h := h.1 c9
          exact hJ19 _ _ _ hP hD hS (lv_sub hl [0, 1, 2] rfl) h
        · have h := h.2 c9
          refine lv_iload_n hx hb dX2_passNumber_14 rfl (lv_at hl 2 rfl) ?_
          refine lv_iconst (v := 1) hx hb dX2_passNumber_15 (by decide) ?_
          refine lv_icmp_ne (tgt := 33) hx hb dX2_passNumber_16 (by decide) (fun c9 => ?_) (fun c9 => ?_)
          · have h := h.2 c9
            exact hJ33 t_left_4 t_seen_4 _ _ _ hP hD hS (lv_sub hl [0, 1, 2] rfl) h
          · have h := h.1 c9
            exact hJ19 _ _ _ hP hD hS (lv_sub hl [0, 1, 2] rfl) h
  obtain ⟨k9, h⟩ := h
  exact hL4 k9 10000 t_left t_seen _ _ _ hP hD hS (lv_sub hl [1, 2, 0] rfl) h

abbrev qX2_passText (D : va_G) (ca : Nat → ClassId) (a_t : Nat) (Q : Int32 → Int32 → Prop) (A : Nat → Prop) : Array Value → State → Outcome → State → Prop := va_Qv (fun (u : Int32 × Int32) => Q u.1 u.2) (wEnd D ca (fun u : Int32 × Int32 => [(a_t, .inr (2, [.int u.1, .int u.2]))]) A) A
def wX2_passText_2 (si : Nat) (Q : Int32 → Int32 → Prop) : Nat → Int32 → Int32 → Int32 → Prop
  | 0, _, _, _ => False
  | n9 + 1, x2_2, t_left_2, t_seen_2 =>
  (((Int32.ofNat (jBy si).length >>> ((0 : Int32) &&& 31)) ≤ x2_2 → Q t_left_2 t_seen_2) ∧ (¬ (Int32.ofNat (jBy si).length >>> ((0 : Int32) &&& 31)) ≤ x2_2 → ((vp_in x2_2 (jBy si).length ∧ ¬ x2_2 < 0 ∧ x2_2 < Int32.ofNat (jBy si).length) ∧ wX2_pass t_left_2 t_seen_2 ((((jBy si).getD x2_2.toNatClampNeg 0 &&& 255).toUInt32 % 65536).toInt32) (fun t_left_16 t_seen_16 => (∀ x2_19 : Int32, x2_19 = x2_2 + 1 → (wX2_passText_2 si Q n9) x2_19 t_left_16 t_seen_16)))))
def wX2_passText (t_left : Int32) (t_seen : Int32) (si : Nat) (Q : Int32 → Int32 → Prop) : Prop :=
  (∃ k9, wX2_passText_2 si Q k9 0 t_left t_seen)
set_option maxHeartbeats 4000000 in
set_option maxRecDepth 100000 in
theorem mX2_passText (l : Launch) (D : va_G) (ca : Nat → ClassId) (adK adV : Nat → Nat) (a_t : Nat) (sz : Nat) (t_left : Int32) (t_seen : Int32) (si : Nat) (Q : Int32 → Int32 → Prop) (hsi : si < 15) (h : wX2_passText t_left t_seen si Q) : Met l yX2_passText (Cond.code yX2_passText cX2_passText 3 none :: wsG) ({ frames := 4, cells := 0, slots := 0, locals := 85 } : Room) (va_Pc [.ref a_t, .ref (adK si)] (jPre D ca adK adV [(a_t, .inr (2, [.int t_left, .int t_seen]))] sz)) (qX2_passText D ca a_t Q (va_A [(a_t, .inr (2, [.int t_left, .int t_seen]))] sz)) 0 0 (va_A [(a_t, .inr (2, [.int t_left, .int t_seen]))] sz) := by
  refine Met.ofW (cc := cX2_passText) (maxL := 3) (ret := none) (by decide) rfl ?_
  intro p e s m args below meth c s₁ B hml hv
  obtain ⟨rfl, ⟨hsz, hP, hK, hD0⟩, hJ⟩ := hv
  have hx := B.exec
  have hb := B.bytes
  have hr := B.returns
  have hts := atoms_spec (ws := (Cond.code yX2_passText cX2_passText 3 none :: wsG)) B.pre
  have hq : ∀ w ∈ wsG, w.before _ s = true := fun w hw => hts w (List.mem_cons_of_mem _ hw)
  have hown : s.vm.findClass RX2 = some m.cls := findClass_of_methodNamed B.named
  have hlocks := B.notSynchronized
  subst hsz
  have hD := hD0.self (sz := s.heap.size)
  generalize hAe : va_A [(a_t, .inr (2, [.int t_left, .int t_seen]))] s.heap.size = A at hD hJ ⊢
  have hA : ∀ q : Nat, s.heap.size ≤ q → A q := fun q h => by rw [← hAe]; exact Or.inr h
  have hS : va_S A s.heap s.heap [] := va_S.rf
  have hP : va_P D vwCl [(a_t, .inr (2, [.int t_left, .int t_seen]))] s.heap := hP
  have hl := lv_entry ([.ref a_t, .ref (adK si)]) (n := 3) (Nat.le_of_ble_eq_true rfl)
  rw [lg_entry_eq]
  generalize (lg_sl ([.ref a_t, .ref (adK si)]) ++ List.replicate (3 - (lg_sl ([.ref a_t, .ref (adK si)])).length) Slot.unset).toArray = ls at hl ⊢
  have hl : lv_has ls 3 [(0, .ref a_t), (1, .ref (adK si))] := hl
  unfold wX2_passText at h
  refine lv_iconst (v := 0) hx hb dX2_passText_0 (by decide) ?_
  refine lv_istore_n (lv' := [(2, .int 0), (0, .ref a_t), (1, .ref (adK si))]) hx hb dX2_passText_1 rfl hl (by decide) rfl (fun ls hl => ?_)
  have hL2 : ∀ (n9_2 : Nat) (x2_2 : Int32) (t_left_2 : Int32) (t_seen_2 : Int32) (H : Heap) (locs : List Loc) (ls : Array Slot), va_P D vwCl [(a_t, .inr (2, [.int t_left_2, .int t_seen_2]))] H → va_D A [(a_t, .inr (2, [.int t_left_2, .int t_seen_2]))] → va_S A s.heap H locs → lv_has ls 3 [(0, .ref a_t), (1, .ref (adK si)), (2, .int x2_2)] → wX2_passText_2 si Q n9_2 x2_2 t_left_2 t_seen_2 → W p l e (headSpec (Cond.code yX2_passText cX2_passText 3 none :: wsG) ({ frames := 4, cells := 0, slots := 0, locals := 85 } : Room)).room s m ([.ref a_t, .ref (adK si)] : List Value).toArray below meth c H locs 0 0 (MQ below (qX2_passText D ca a_t Q A) ([.ref a_t, .ref (adK si)] : List Value).toArray s 0 0 A) (F0 m 2 ls []) := by
    intro n9_2
    induction n9_2 with
    | zero =>
      intro x2_2 t_left_2 t_seen_2 H locs ls hP hD hS hl h
      exact False.elim h
    | succ n9_2 ih2 =>
      intro x2_2 t_left_2 t_seen_2 H locs ls hP hD hS hl h
      unfold wX2_passText_2 at h
      refine lv_iload_n hx hb dX2_passText_2 rfl (lv_at hl 2 rfl) ?_
      refine lv_aload_n hx hb dX2_passText_3 rfl (lv_at hl 1 rfl) ?_
      refine jVi (As := []) (rest := [.int x2_2]) ⟨hx, hb, hml, hown, hts⟩ (mJ0_length_8abf5 l (adK si) (adV si) (jBy si)) (cwV 0 hts (gV q_674 q_675 q_676 q_19 q_677) rfl rfl rfl (by decide +kernel) ⟨Nat.le_of_ble_eq_true rfl, Nat.le_of_ble_eq_true rfl⟩) (hJ si hsi).2 hS rfl hl.1 rfl (Nat.le_of_ble_eq_true rfl) dX2_passText_4 ⟨Nat.le_of_ble_eq_true rfl, Nat.le_of_ble_eq_true rfl⟩ (fun r9 H1 locs h9 hk1 hS => ?_)
      obtain rfl : r9 = Int32.ofNat (jBy si).length >>> ((0 : Int32) &&& 31) := h9
      have hP := s_back hP hk1
      refine lv_icmp_ge (tgt := 25) hx hb dX2_passText_7 (by decide) (fun c9 => ?_) (fun c9 => ?_)
      · have h := h.1 c9
        exact W.vret hx hb hr (fun t ht hW => ⟨⟨(t_left_2, t_seen_2), rfl, h, by rw [ht]; exact hP, va_K.moved hW.alike hK, hD⟩, hS.F ht⟩) hS.2.2 dX2_passText_25
      · have h := h.2 c9
        refine lv_aload_n hx hb dX2_passText_10 rfl (lv_at hl 0 rfl) ?_
        refine lv_aload_n hx hb dX2_passText_11 rfl (lv_at hl 1 rfl) ?_
        refine lv_iload_n hx hb dX2_passText_12 rfl (lv_at hl 2 rfl) ?_
        obtain ⟨⟨hi9, hi8, hi7⟩, h⟩ := h
        refine jVi (As := [.int x2_2]) (rest := [.ref a_t]) ⟨hx, hb, hml, hown, hts⟩ (mJ0_charAt_5068e l (adK si) (adV si) (jBy si) x2_2 hi9 hi8 hi7) (cwV 1 hts (gV q_684 q_685 q_686 q_19 q_687) rfl rfl rfl (by decide +kernel) ⟨Nat.le_of_ble_eq_true rfl, Nat.le_of_ble_eq_true rfl⟩) (hJ si hsi).2 hS rfl hl.1 rfl (Nat.le_of_ble_eq_true rfl) dX2_passText_13 ⟨Nat.le_of_ble_eq_true rfl, Nat.le_of_ble_eq_true rfl⟩ (fun r9 H1 locs h9 hk1 hS => ?_)
        obtain rfl : r9 = (((jBy si).getD x2_2.toNatClampNeg 0 &&& 255).toUInt32 % 65536).toInt32 := h9
        have hP := s_back hP hk1
        refine cVv (As := [.int ((((jBy si).getD x2_2.toNatClampNeg 0 &&& 255).toUInt32 % 65536).toInt32)]) (rest := []) (wc := [(a_t, .inr (2, [.int t_left_2, .int t_seen_2]))]) (wr := []) (w1 := fun u : Int32 × Int32 => [(a_t, .inr (2, [.int u.1, .int u.2]))]) (ws2 := fun u : Int32 × Int32 => [(a_t, .inr (2, [.int u.1, .int u.2]))]) ⟨hx, hb, hml, hown, hts⟩ (mX2_pass l D ca a_t _ t_left_2 t_seen_2 ((((jBy si).getD x2_2.toNatClampNeg 0 &&& 255).toUInt32 % 65536).toInt32) _ h) (cwV 1 hts (gV q_661 q_663 qs_25 q_7 q_664) rfl rfl rfl (by decide +kernel) ⟨Nat.le_of_ble_eq_true rfl, Nat.le_of_ble_eq_true rfl⟩) hK hP hD hS hA [0] [] [0] rfl rfl rfl (by decide) (fun _ => rfl) (ci := 2) (q0 := 0) rfl rfl rfl hl.1 rfl (Nat.le_of_ble_eq_true rfl) dX2_passText_16 ⟨Nat.le_of_ble_eq_true rfl, Nat.le_of_ble_eq_true rfl⟩ (fun u9 H locs h hP hD hS => ?_)
        obtain ⟨t_left_16, t_seen_16⟩ := u9
        have hP : va_P D vwCl [(a_t, .inr (2, [.int t_left_16, .int t_seen_16]))] H := hP
        have hD : va_D A [(a_t, .inr (2, [.int t_left_16, .int t_seen_16]))] := hD
        try dsimp only at h
        obtain ⟨x2_19, ex2_19⟩ : ∃ y : Int32, y = x2_2 + 1 := ⟨_, rfl⟩
        have h := h x2_19 ex2_19
        refine lv_iinc (v := x2_19) (lv' := [(2, .int x2_19), (0, .ref a_t), (1, .ref (adK si))]) hx hb dX2_passText_19 hl (k := 2) rfl (by rw [ex2_19]; rfl) (by decide) rfl (fun ls hl => ?_)
        refine lv_goto (tgt := 2) hx hb dX2_passText_22 (by decide) ?_
        exact ih2 x2_19 t_left_16 t_seen_16 _ _ _ hP hD hS (lv_sub hl [1, 2, 0] rfl) h
  obtain ⟨k9, h⟩ := h
  exact hL2 k9 0 t_left t_seen _ _ _ hP hD hS (lv_sub hl [1, 2, 0] rfl) h

abbrev qX2_passOperand (D : va_G) (ca : Nat → ClassId) (a_t : Nat) (Q : Int32 → Int32 → Prop) (A : Nat → Prop) : Array Value → State → Outcome → State → Prop := va_Qv (fun (u : Int32 × Int32) => Q u.1 u.2) (wEnd D ca (fun u : Int32 × Int32 => [(a_t, .inr (2, [.int u.1, .int u.2]))]) A) A
def wX2_passOperand_13 (x1 : Int32) (Q : Int32 → Int32 → Prop) (t_left_13 : Int32) (t_seen_13 : Int32) : Prop :=
  wX5_numberOf x1 (fun r_15 => wX2_passNumber t_left_13 t_seen_13 r_15 (fun t_left_18 t_seen_18 => Q t_left_18 t_seen_18))
def wX2_passOperand (t_left : Int32) (t_seen : Int32) (x1 : Int32) (Q : Int32 → Int32 → Prop) : Prop :=
  wX5_isValue x1 (fun r_1 => ((r_1 = 0 → wX2_passOperand_13 x1 Q t_left t_seen) ∧ (¬ r_1 = 0 → wX2_pass t_left t_seen 118 (fun t_left_10 t_seen_10 => wX2_passOperand_13 x1 Q t_left_10 t_seen_10))))
set_option maxHeartbeats 4000000 in
set_option maxRecDepth 100000 in
theorem mX2_passOperand (l : Launch) (D : va_G) (ca : Nat → ClassId) (a_t : Nat) (sz : Nat) (t_left : Int32) (t_seen : Int32) (x1 : Int32) (Q : Int32 → Int32 → Prop) (h : wX2_passOperand t_left t_seen x1 Q) : Met l yX2_passOperand (Cond.code yX2_passOperand cX2_passOperand 2 none :: wsG) ({ frames := 2, cells := 0, slots := 0, locals := 43 } : Room) (va_Pc [.ref a_t, .int x1] (wPre D ca [(a_t, .inr (2, [.int t_left, .int t_seen]))] sz)) (qX2_passOperand D ca a_t Q (va_A [(a_t, .inr (2, [.int t_left, .int t_seen]))] sz)) 0 0 (va_A [(a_t, .inr (2, [.int t_left, .int t_seen]))] sz) := by
  refine Met.ofW (cc := cX2_passOperand) (maxL := 2) (ret := none) (by decide) rfl ?_
  intro p e s m args below meth c s₁ B hml hv
  obtain ⟨rfl, hsz, hP, hK, hD0⟩ := hv
  have hx := B.exec
  have hb := B.bytes
  have hr := B.returns
  have hts := atoms_spec (ws := (Cond.code yX2_passOperand cX2_passOperand 2 none :: wsG)) B.pre
  have hq : ∀ w ∈ wsG, w.before _ s = true := fun w hw => hts w (List.mem_cons_of_mem _ hw)
  have hown : s.vm.findClass RX2 = some m.cls := findClass_of_methodNamed B.named
  have hlocks := B.notSynchronized
  subst hsz
  have hD := hD0.self (sz := s.heap.size)
  generalize hAe : va_A [(a_t, .inr (2, [.int t_left, .int t_seen]))] s.heap.size = A at hD ⊢
  have hA : ∀ q : Nat, s.heap.size ≤ q → A q := fun q h => by rw [← hAe]; exact Or.inr h
  have hS : va_S A s.heap s.heap [] := va_S.rf
  have hP : va_P D vwCl [(a_t, .inr (2, [.int t_left, .int t_seen]))] s.heap := hP
  have hl := lv_entry ([.ref a_t, .int x1]) (n := 2) (Nat.le_of_ble_eq_true rfl)
  rw [lg_entry_eq]
  generalize (lg_sl ([.ref a_t, .int x1]) ++ List.replicate (2 - (lg_sl ([.ref a_t, .int x1])).length) Slot.unset).toArray = ls at hl ⊢
  have hl : lv_has ls 2 [(0, .ref a_t), (1, .int x1)] := hl
  unfold wX2_passOperand at h
  refine lv_iload_n hx hb dX2_passOperand_0 rfl (lv_at hl 1 rfl) ?_
  refine cPi (As := [.int x1]) (rest := []) ⟨hx, hb, hml, hown, hts⟩ (mX5_isValue l x1 _ h) (va_cwS 1 hts (gS q_741 q_222 q_3 q_223) rfl rfl rfl (by decide +kernel) ⟨Nat.le_of_ble_eq_true rfl, Nat.le_of_ble_eq_true rfl⟩) hS rfl hl.1 rfl (Nat.le_of_ble_eq_true rfl) dX2_passOperand_1 ⟨Nat.le_of_ble_eq_true rfl, Nat.le_of_ble_eq_true rfl⟩ (fun r_1 H1 locs h hk1 hS => ?_)
  have hP := s_back hP hk1
  try dsimp only at h
  have hJ13 : ∀ (t_left_13 : Int32) (t_seen_13 : Int32) (H : Heap) (locs : List Loc) (ls : Array Slot), va_P D vwCl [(a_t, .inr (2, [.int t_left_13, .int t_seen_13]))] H → va_D A [(a_t, .inr (2, [.int t_left_13, .int t_seen_13]))] → va_S A s.heap H locs → lv_has ls 2 [(0, .ref a_t), (1, .int x1)] → wX2_passOperand_13 x1 Q t_left_13 t_seen_13 → W p l e (headSpec (Cond.code yX2_passOperand cX2_passOperand 2 none :: wsG) ({ frames := 2, cells := 0, slots := 0, locals := 43 } : Room)).room s m ([.ref a_t, .int x1] : List Value).toArray below meth c H locs 0 0 (MQ below (qX2_passOperand D ca a_t Q A) ([.ref a_t, .int x1] : List Value).toArray s 0 0 A) (F0 m 13 ls []) := by
    intro t_left_13 t_seen_13 H locs ls hP hD hS hl h
    unfold wX2_passOperand_13 at h
    refine lv_aload_n hx hb dX2_passOperand_13 rfl (lv_at hl 0 rfl) ?_
    refine lv_iload_n hx hb dX2_passOperand_14 rfl (lv_at hl 1 rfl) ?_
    refine cPi (As := [.int x1]) (rest := [.ref a_t]) ⟨hx, hb, hml, hown, hts⟩ (mX5_numberOf l x1 _ h) (va_cwS 1 hts (gS q_742 q_225 q_3 q_226) rfl rfl rfl (by decide +kernel) ⟨Nat.le_of_ble_eq_true rfl, Nat.le_of_ble_eq_true rfl⟩) hS rfl hl.1 rfl (Nat.le_of_ble_eq_true rfl) dX2_passOperand_15 ⟨Nat.le_of_ble_eq_true rfl, Nat.le_of_ble_eq_true rfl⟩ (fun r_15 H1 locs h hk1 hS => ?_)
    have hP := s_back hP hk1
    try dsimp only at h
    refine cVv (As := [.int r_15]) (rest := []) (wc := [(a_t, .inr (2, [.int t_left_13, .int t_seen_13]))]) (wr := []) (w1 := fun u : Int32 × Int32 => [(a_t, .inr (2, [.int u.1, .int u.2]))]) (ws2 := fun u : Int32 × Int32 => [(a_t, .inr (2, [.int u.1, .int u.2]))]) ⟨hx, hb, hml, hown, hts⟩ (mX2_passNumber l D ca a_t _ t_left_13 t_seen_13 r_15 _ h) (cwV 1 hts (gV q_665 q_667 qs_26 q_7 q_668) rfl rfl rfl (by decide +kernel) ⟨Nat.le_of_ble_eq_true rfl, Nat.le_of_ble_eq_true rfl⟩) hK hP hD hS hA [0] [] [0] rfl rfl rfl (by decide) (fun _ => rfl) (ci := 2) (q0 := 0) rfl rfl rfl hl.1 rfl (Nat.le_of_ble_eq_true rfl) dX2_passOperand_18 ⟨Nat.le_of_ble_eq_true rfl, Nat.le_of_ble_eq_true rfl⟩ (fun u9 H locs h hP hD hS => ?_)
    obtain ⟨t_left_18, t_seen_18⟩ := u9
    have hP : va_P D vwCl [(a_t, .inr (2, [.int t_left_18, .int t_seen_18]))] H := hP
    have hD : va_D A [(a_t, .inr (2, [.int t_left_18, .int t_seen_18]))] := hD
    try dsimp only at h
    exact W.vret hx hb hr (fun t ht hW => ⟨⟨(t_left_18, t_seen_18), rfl, h, by rw [ht]; exact hP, va_K.moved hW.alike hK, hD⟩, hS.F ht⟩) hS.2.2 dX2_passOperand_21
  refine lv_if_eq (tgt := 13) hx hb dX2_passOperand_4 (by decide) (fun c9 => ?_) (fun c9 => ?_)
  · have h := h.1 c9
    exact hJ13 t_left t_seen _ _ _ hP hD hS (lv_sub hl [0, 1] rfl) h
  · have h := h.2 c9
    refine lv_aload_n hx hb dX2_passOperand_7 rfl (lv_at hl 0 rfl) ?_
    refine lv_bipush (v := 118) hx hb dX2_passOperand_8 (by decide) ?_
    refine cVv (As := [.int 118]) (rest := []) (wc := [(a_t, .inr (2, [.int t_left, .int t_seen]))]) (wr := []) (w1 := fun u : Int32 × Int32 => [(a_t, .inr (2, [.int u.1, .int u.2]))]) (ws2 := fun u : Int32 × Int32 => [(a_t, .inr (2, [.int u.1, .int u.2]))]) ⟨hx, hb, hml, hown, hts⟩ (mX2_pass l D ca a_t _ t_left t_seen 118 _ h) (cwV 1 hts (gV q_661 q_663 qs_25 q_7 q_664) rfl rfl rfl (by decide +kernel) ⟨Nat.le_of_ble_eq_true rfl, Nat.le_of_ble_eq_true rfl⟩) hK hP hD hS hA [0] [] [0] rfl rfl rfl (by decide) (fun _ => rfl) (ci := 2) (q0 := 0) rfl rfl rfl hl.1 rfl (Nat.le_of_ble_eq_true rfl) dX2_passOperand_10 ⟨Nat.le_of_ble_eq_true rfl, Nat.le_of_ble_eq_true rfl⟩ (fun u9 H locs h hP hD hS => ?_)
    obtain ⟨t_left_10, t_seen_10⟩ := u9
    have hP : va_P D vwCl [(a_t, .inr (2, [.int t_left_10, .int t_seen_10]))] H := hP
    have hD : va_D A [(a_t, .inr (2, [.int t_left_10, .int t_seen_10]))] := hD
    try dsimp only at h
    exact hJ13 t_left_10 t_seen_10 _ _ _ hP hD hS (lv_sub hl [0, 1] rfl) h

abbrev qX2_passInstruction (D : va_G) (ca : Nat → ClassId) (a_t a_p a_p_operations a_p_firsts a_p_seconds : Nat) (p_width : Int32) (p_length : Int32) (p_result : Int32) (p_taskKind : Int32) (p_taskDivisor : Int32) (f_p_operations : Nat → Int32) (f_p_firsts : Nat → Int32) (f_p_seconds : Nat → Int32) (Q : Int32 → Int32 → Prop) (A : Nat → Prop) : Array Value → State → Outcome → State → Prop := va_Qv (fun (u : Int32 × Int32) => Q u.1 u.2) (wEnd D ca (fun u : Int32 × Int32 => [(a_t, .inr (2, [.int u.1, .int u.2])), (a_p, .inr (4, [.int p_width, .int p_length, .int p_result, .int p_taskKind, .int p_taskDivisor, .ref a_p_operations, .ref a_p_firsts, .ref a_p_seconds])), (a_p_operations, .inl (ca 0, 40, .inl f_p_operations)), (a_p_firsts, .inl (ca 0, 40, .inl f_p_firsts)), (a_p_seconds, .inl (ca 0, 40, .inl f_p_seconds))]) A) A
def wX2_passInstruction (t_left : Int32) (t_seen : Int32) (f_p_operations : Nat → Int32) (f_p_firsts : Nat → Int32) (f_p_seconds : Nat → Int32) (x2 : Int32) (Q : Int32 → Int32 → Prop) : Prop :=
  wX2_pass t_left t_seen 118 (fun t_left_3 t_seen_3 => wX2_passNumber t_left_3 t_seen_3 (x2 + 1) (fun t_left_10 t_seen_10 => wX2_passText t_left_10 t_seen_10 12 (fun t_left_16 t_seen_16 => (vp_in x2 40 ∧ wX2_passText t_left_16 t_seen_16 (nmI (f_p_operations x2.toNatClampNeg)) (fun t_left_29 t_seen_29 => wX2_pass t_left_29 t_seen_29 32 (fun t_left_35 t_seen_35 => (vp_in x2 40 ∧ wX2_passOperand t_left_35 t_seen_35 (f_p_firsts x2.toNatClampNeg) (fun t_left_45 t_seen_45 => wX2_passText t_left_45 t_seen_45 13 (fun t_left_51 t_seen_51 => (vp_in x2 40 ∧ wX2_passOperand t_left_51 t_seen_51 (f_p_seconds x2.toNatClampNeg) (fun t_left_61 t_seen_61 => wX2_pass t_left_61 t_seen_61 10 (fun t_left_67 t_seen_67 => Q t_left_67 t_seen_67))))))))))))
set_option maxHeartbeats 4000000 in
set_option maxRecDepth 100000 in
theorem mX2_passInstruction (l : Launch) (D : va_G) (ca : Nat → ClassId) (adK adV : Nat → Nat) (a_t a_p a_p_operations a_p_firsts a_p_seconds : Nat) (sz : Nat) (t_left : Int32) (t_seen : Int32) (p_width : Int32) (p_length : Int32) (p_result : Int32) (p_taskKind : Int32) (p_taskDivisor : Int32) (f_p_operations : Nat → Int32) (f_p_firsts : Nat → Int32) (f_p_seconds : Nat → Int32) (x2 : Int32) (Q : Int32 → Int32 → Prop) (h : wX2_passInstruction t_left t_seen f_p_operations f_p_firsts f_p_seconds x2 Q) : Met l yX2_passInstruction (Cond.code yX2_passInstruction cX2_passInstruction 3 none :: wsG) ({ frames := 5, cells := 0, slots := 0, locals := 107 } : Room) (va_Pc [.ref a_t, .ref a_p, .int x2] (jPre D ca adK adV [(a_t, .inr (2, [.int t_left, .int t_seen])), (a_p, .inr (4, [.int p_width, .int p_length, .int p_result, .int p_taskKind, .int p_taskDivisor, .ref a_p_operations, .ref a_p_firsts, .ref a_p_seconds])), (a_p_operations, .inl (ca 0, 40, .inl f_p_operations)), (a_p_firsts, .inl (ca 0, 40, .inl f_p_firsts)), (a_p_seconds, .inl (ca 0, 40, .inl f_p_seconds))] sz)) (qX2_passInstruction D ca a_t a_p a_p_operations a_p_firsts a_p_seconds p_width p_length p_result p_taskKind p_taskDivisor f_p_operations f_p_firsts f_p_seconds Q (va_A [(a_t, .inr (2, [.int t_left, .int t_seen])), (a_p, .inr (4, [.int p_width, .int p_length, .int p_result, .int p_taskKind, .int p_taskDivisor, .ref a_p_operations, .ref a_p_firsts, .ref a_p_seconds])), (a_p_operations, .inl (ca 0, 40, .inl f_p_operations)), (a_p_firsts, .inl (ca 0, 40, .inl f_p_firsts)), (a_p_seconds, .inl (ca 0, 40, .inl f_p_seconds))] sz)) 0 0 (va_A [(a_t, .inr (2, [.int t_left, .int t_seen])), (a_p, .inr (4, [.int p_width, .int p_length, .int p_result, .int p_taskKind, .int p_taskDivisor, .ref a_p_operations, .ref a_p_firsts, .ref a_p_seconds])), (a_p_operations, .inl (ca 0, 40, .inl f_p_operations)), (a_p_firsts, .inl (ca 0, 40, .inl f_p_firsts)), (a_p_seconds, .inl (ca 0, 40, .inl f_p_seconds))] sz) := by
  refine Met.ofW (cc := cX2_passInstruction) (maxL := 3) (ret := none) (by decide) rfl ?_
  intro p e s m args below meth c s₁ B hml hv
  obtain ⟨rfl, ⟨hsz, hP, hK, hD0⟩, hJ⟩ := hv
  have hx := B.exec
  have hb := B.bytes
  have hr := B.returns
  have hts := atoms_spec (ws := (Cond.code yX2_passInstruction cX2_passInstruction 3 none :: wsG)) B.pre
  have hq : ∀ w ∈ wsG, w.before _ s = true := fun w hw => hts w (List.mem_cons_of_mem _ hw)
  have hown : s.vm.findClass RX2 = some m.cls := findClass_of_methodNamed B.named
  have hlocks := B.notSynchronized
  subst hsz
  have hD := hD0.self (sz := s.heap.size)
  generalize hAe : va_A [(a_t, .inr (2, [.int t_left, .int t_seen])), (a_p, .inr (4, [.int p_width, .int p_length, .int p_result, .int p_taskKind, .int p_taskDivisor, .ref a_p_operations, .ref a_p_firsts, .ref a_p_seconds])), (a_p_operations, .inl (ca 0, 40, .inl f_p_operations)), (a_p_firsts, .inl (ca 0, 40, .inl f_p_firsts)), (a_p_seconds, .inl (ca 0, 40, .inl f_p_seconds))] s.heap.size = A at hD hJ ⊢
  have hA : ∀ q : Nat, s.heap.size ≤ q → A q := fun q h => by rw [← hAe]; exact Or.inr h
  have hS : va_S A s.heap s.heap [] := va_S.rf
  have hP : va_P D vwCl [(a_t, .inr (2, [.int t_left, .int t_seen])), (a_p, .inr (4, [.int p_width, .int p_length, .int p_result, .int p_taskKind, .int p_taskDivisor, .ref a_p_operations, .ref a_p_firsts, .ref a_p_seconds])), (a_p_operations, .inl (ca 0, 40, .inl f_p_operations)), (a_p_firsts, .inl (ca 0, 40, .inl f_p_firsts)), (a_p_seconds, .inl (ca 0, 40, .inl f_p_seconds))] s.heap := hP
  have hl := lv_entry ([.ref a_t, .ref a_p, .int x2]) (n := 3) (Nat.le_of_ble_eq_true rfl)
  rw [lg_entry_eq]
  generalize (lg_sl ([.ref a_t, .ref a_p, .int x2]) ++ List.replicate (3 - (lg_sl ([.ref a_t, .ref a_p, .int x2])).length) Slot.unset).toArray = ls at hl ⊢
  have hl : lv_has ls 3 [(0, .ref a_t), (1, .ref a_p), (2, .int x2)] := hl
  unfold wX2_passInstruction at h
  refine lv_aload_n hx hb dX2_passInstruction_0 rfl (lv_at hl 0 rfl) ?_
  refine lv_bipush (v := 118) hx hb dX2_passInstruction_1 (by decide) ?_
  refine cVv (As := [.int 118]) (rest := []) (wc := [(a_t, .inr (2, [.int t_left, .int t_seen]))]) (wr := [(a_p, .inr (4, [.int p_width, .int p_length, .int p_result, .int p_taskKind, .int p_taskDivisor, .ref a_p_operations, .ref a_p_firsts, .ref a_p_seconds])), (a_p_operations, .inl (ca 0, 40, .inl f_p_operations)), (a_p_firsts, .inl (ca 0, 40, .inl f_p_firsts)), (a_p_seconds, .inl (ca 0, 40, .inl f_p_seconds))]) (w1 := fun u : Int32 × Int32 => [(a_t, .inr (2, [.int u.1, .int u.2]))]) (ws2 := fun u : Int32 × Int32 => [(a_t, .inr (2, [.int u.1, .int u.2])), (a_p, .inr (4, [.int p_width, .int p_length, .int p_result, .int p_taskKind, .int p_taskDivisor, .ref a_p_operations, .ref a_p_firsts, .ref a_p_seconds])), (a_p_operations, .inl (ca 0, 40, .inl f_p_operations)), (a_p_firsts, .inl (ca 0, 40, .inl f_p_firsts)), (a_p_seconds, .inl (ca 0, 40, .inl f_p_seconds))]) ⟨hx, hb, hml, hown, hts⟩ (mX2_pass l D ca a_t _ t_left t_seen 118 _ h) (cwV 1 hts (gV q_661 q_663 qs_25 q_7 q_664) rfl rfl rfl (by decide +kernel) ⟨Nat.le_of_ble_eq_true rfl, Nat.le_of_ble_eq_true rfl⟩) hK hP hD hS hA [0] [1, 2, 3, 4] [4, 0, 1, 2, 3] rfl rfl rfl (by decide) (fun _ => rfl) (ci := 2) (q0 := 0) rfl rfl rfl hl.1 rfl (Nat.le_of_ble_eq_true rfl) dX2_passInstruction_3 ⟨Nat.le_of_ble_eq_true rfl, Nat.le_of_ble_eq_true rfl⟩ (fun u9 H locs h hP hD hS => ?_)
  obtain ⟨t_left_3, t_seen_3⟩ := u9
  have hP : va_P D vwCl [(a_t, .inr (2, [.int t_left_3, .int t_seen_3])), (a_p, .inr (4, [.int p_width, .int p_length, .int p_result, .int p_taskKind, .int p_taskDivisor, .ref a_p_operations, .ref a_p_firsts, .ref a_p_seconds])), (a_p_operations, .inl (ca 0, 40, .inl f_p_operations)), (a_p_firsts, .inl (ca 0, 40, .inl f_p_firsts)), (a_p_seconds, .inl (ca 0, 40, .inl f_p_seconds))] H := hP
  have hD : va_D A [(a_t, .inr (2, [.int t_left_3, .int t_seen_3])), (a_p, .inr (4, [.int p_width, .int p_length, .int p_result, .int p_taskKind, .int p_taskDivisor, .ref a_p_operations, .ref a_p_firsts, .ref a_p_seconds])), (a_p_operations, .inl (ca 0, 40, .inl f_p_operations)), (a_p_firsts, .inl (ca 0, 40, .inl f_p_firsts)), (a_p_seconds, .inl (ca 0, 40, .inl f_p_seconds))] := hD
  try dsimp only at h
  refine lv_aload_n hx hb dX2_passInstruction_6 rfl (lv_at hl 0 rfl) ?_
  refine lv_iload_n hx hb dX2_passInstruction_7 rfl (lv_at hl 2 rfl) ?_
  refine lv_iconst (v := 1) hx hb dX2_passInstruction_8 (by decide) ?_
  refine lv_iadd hx hb dX2_passInstruction_9 ?_
  refine cVv (As := [.int (x2 + 1)]) (rest := []) (wc := [(a_t, .inr (2, [.int t_left_3, .int t_seen_3]))]) (wr := [(a_p, .inr (4, [.int p_width, .int p_length, .int p_result, .int p_taskKind, .int p_taskDivisor, .ref a_p_operations, .ref a_p_firsts, .ref a_p_seconds])), (a_p_operations, .inl (ca 0, 40, .inl f_p_operations)), (a_p_firsts, .inl (ca 0, 40, .inl f_p_firsts)), (a_p_seconds, .inl (ca 0, 40, .inl f_p_seconds))]) (w1 := fun u : Int32 × Int32 => [(a_t, .inr (2, [.int u.1, .int u.2]))]) (ws2 := fun u : Int32 × Int32 => [(a_t, .inr (2, [.int u.1, .int u.2])), (a_p, .inr (4, [.int p_width, .int p_length, .int p_result, .int p_taskKind, .int p_taskDivisor, .ref a_p_operations, .ref a_p_firsts, .ref a_p_seconds])), (a_p_operations, .inl (ca 0, 40, .inl f_p_operations)), (a_p_firsts, .inl (ca 0, 40, .inl f_p_firsts)), (a_p_seconds, .inl (ca 0, 40, .inl f_p_seconds))]) ⟨hx, hb, hml, hown, hts⟩ (mX2_passNumber l D ca a_t _ t_left_3 t_seen_3 (x2 + 1) _ h) (cwV 1 hts (gV q_665 q_667 qs_26 q_7 q_668) rfl rfl rfl (by decide +kernel) ⟨Nat.le_of_ble_eq_true rfl, Nat.le_of_ble_eq_true rfl⟩) hK hP hD hS hA [0] [1, 2, 3, 4] [4, 0, 1, 2, 3] rfl rfl rfl (by decide) (fun _ => rfl) (ci := 2) (q0 := 0) rfl rfl rfl hl.1 rfl (Nat.le_of_ble_eq_true rfl) dX2_passInstruction_10 ⟨Nat.le_of_ble_eq_true rfl, Nat.le_of_ble_eq_true rfl⟩ (fun u9 H locs h hP hD hS => ?_)
  obtain ⟨t_left_10, t_seen_10⟩ := u9
  have hP : va_P D vwCl [(a_t, .inr (2, [.int t_left_10, .int t_seen_10])), (a_p, .inr (4, [.int p_width, .int p_length, .int p_result, .int p_taskKind, .int p_taskDivisor, .ref a_p_operations, .ref a_p_firsts, .ref a_p_seconds])), (a_p_operations, .inl (ca 0, 40, .inl f_p_operations)), (a_p_firsts, .inl (ca 0, 40, .inl f_p_firsts)), (a_p_seconds, .inl (ca 0, 40, .inl f_p_seconds))] H := hP
  have hD : va_D A [(a_t, .inr (2, [.int t_left_10, .int t_seen_10])), (a_p, .inr (4, [.int p_width, .int p_length, .int p_result, .int p_taskKind, .int p_taskDivisor, .ref a_p_operations, .ref a_p_firsts, .ref a_p_seconds])), (a_p_operations, .inl (ca 0, 40, .inl f_p_operations)), (a_p_firsts, .inl (ca 0, 40, .inl f_p_firsts)), (a_p_seconds, .inl (ca 0, 40, .inl f_p_seconds))] := hD
  try dsimp only at h
  refine lv_aload_n hx hb dX2_passInstruction_13 rfl (lv_at hl 0 rfl) ?_
  refine va_ldcS (q := adK 12) hx hb hown (hJ 12 (by decide)).1 dX2_passInstruction_14 ?_
  refine cVvJ (As := [.ref (adK 12)]) (rest := []) (wc := [(a_t, .inr (2, [.int t_left_10, .int t_seen_10]))]) (wr := [(a_p, .inr (4, [.int p_width, .int p_length, .int p_result, .int p_taskKind, .int p_taskDivisor, .ref a_p_operations, .ref a_p_firsts, .ref a_p_seconds])), (a_p_operations, .inl (ca 0, 40, .inl f_p_operations)), (a_p_firsts, .inl (ca 0, 40, .inl f_p_firsts)), (a_p_seconds, .inl (ca 0, 40, .inl f_p_seconds))]) (w1 := fun u : Int32 × Int32 => [(a_t, .inr (2, [.int u.1, .int u.2]))]) (ws2 := fun u : Int32 × Int32 => [(a_t, .inr (2, [.int u.1, .int u.2])), (a_p, .inr (4, [.int p_width, .int p_length, .int p_result, .int p_taskKind, .int p_taskDivisor, .ref a_p_operations, .ref a_p_firsts, .ref a_p_seconds])), (a_p_operations, .inl (ca 0, 40, .inl f_p_operations)), (a_p_firsts, .inl (ca 0, 40, .inl f_p_firsts)), (a_p_seconds, .inl (ca 0, 40, .inl f_p_seconds))]) ⟨hx, hb, hml, hown, hts⟩ (mX2_passText l D ca adK adV a_t _ t_left_10 t_seen_10 12 _ (by decide) h) (cwV 1 hts (gV q_670 q_672 qs_27 q_7 q_673) rfl rfl rfl (by decide +kernel) ⟨Nat.le_of_ble_eq_true rfl, Nat.le_of_ble_eq_true rfl⟩) hJ hK hP hD hS hA [0] [1, 2, 3, 4] [4, 0, 1, 2, 3] rfl rfl rfl (by decide) (fun _ => rfl) (ci := 2) (q0 := 0) rfl rfl rfl hl.1 rfl (Nat.le_of_ble_eq_true rfl) dX2_passInstruction_16 ⟨Nat.le_of_ble_eq_true rfl, Nat.le_of_ble_eq_true rfl⟩ (fun u9 H locs h hP hD hS => ?_)
  obtain ⟨t_left_16, t_seen_16⟩ := u9
  have hP : va_P D vwCl [(a_t, .inr (2, [.int t_left_16, .int t_seen_16])), (a_p, .inr (4, [.int p_width, .int p_length, .int p_result, .int p_taskKind, .int p_taskDivisor, .ref a_p_operations, .ref a_p_firsts, .ref a_p_seconds])), (a_p_operations, .inl (ca 0, 40, .inl f_p_operations)), (a_p_firsts, .inl (ca 0, 40, .inl f_p_firsts)), (a_p_seconds, .inl (ca 0, 40, .inl f_p_seconds))] H := hP
  have hD : va_D A [(a_t, .inr (2, [.int t_left_16, .int t_seen_16])), (a_p, .inr (4, [.int p_width, .int p_length, .int p_result, .int p_taskKind, .int p_taskDivisor, .ref a_p_operations, .ref a_p_firsts, .ref a_p_seconds])), (a_p_operations, .inl (ca 0, 40, .inl f_p_operations)), (a_p_firsts, .inl (ca 0, 40, .inl f_p_firsts)), (a_p_seconds, .inl (ca 0, 40, .inl f_p_seconds))] := hD
  try dsimp only at h
  refine lv_aload_n hx hb dX2_passInstruction_19 rfl (lv_at hl 0 rfl) ?_
  refine lv_aload_n hx hb dX2_passInstruction_20 rfl (lv_at hl 1 rfl) ?_
  refine va_get (D := D) (ci := 4) (v := .ref a_p_operations) (C := RX5) (T := TX5) (N := 8) hx hb hq inX5g hown hK hP 1 rfl rfl 5 (by decide) (hq _ q_63) (fun _ h9 => h9) rfl dX2_passInstruction_21 ?_
  refine lv_iload_n hx hb dX2_passInstruction_24 rfl (lv_at hl 2 rfl) ?_
  obtain ⟨hi9, h⟩ := h
  refine va_iald hx hb hK hP 2 0 rfl rfl hi9 dX2_passInstruction_25 ?_
  refine jSr (As := [.int (f_p_operations x2.toNatClampNeg)]) (rest := [.ref a_t]) ⟨hx, hb, hml, hown, hts⟩ (mX2_nameOf l adK adV (f_p_operations x2.toNatClampNeg)) (va_cwS 1 hts (gS q_722 q_723 q_7 q_724) rfl rfl rfl (by decide +kernel) ⟨Nat.le_of_ble_eq_true rfl, Nat.le_of_ble_eq_true rfl⟩) hJ hS rfl hl.1 rfl (Nat.le_of_ble_eq_true rfl) dX2_passInstruction_26 ⟨Nat.le_of_ble_eq_true rfl, Nat.le_of_ble_eq_true rfl⟩ (fun H1 locs hk1 hS => ?_)
  have hP := s_back hP hk1
  refine cVvJ (As := [.ref (adK (nmI (f_p_operations x2.toNatClampNeg)))]) (rest := []) (wc := [(a_t, .inr (2, [.int t_left_16, .int t_seen_16]))]) (wr := [(a_p, .inr (4, [.int p_width, .int p_length, .int p_result, .int p_taskKind, .int p_taskDivisor, .ref a_p_operations, .ref a_p_firsts, .ref a_p_seconds])), (a_p_operations, .inl (ca 0, 40, .inl f_p_operations)), (a_p_firsts, .inl (ca 0, 40, .inl f_p_firsts)), (a_p_seconds, .inl (ca 0, 40, .inl f_p_seconds))]) (w1 := fun u : Int32 × Int32 => [(a_t, .inr (2, [.int u.1, .int u.2]))]) (ws2 := fun u : Int32 × Int32 => [(a_t, .inr (2, [.int u.1, .int u.2])), (a_p, .inr (4, [.int p_width, .int p_length, .int p_result, .int p_taskKind, .int p_taskDivisor, .ref a_p_operations, .ref a_p_firsts, .ref a_p_seconds])), (a_p_operations, .inl (ca 0, 40, .inl f_p_operations)), (a_p_firsts, .inl (ca 0, 40, .inl f_p_firsts)), (a_p_seconds, .inl (ca 0, 40, .inl f_p_seconds))]) ⟨hx, hb, hml, hown, hts⟩ (mX2_passText l D ca adK adV a_t _ t_left_16 t_seen_16 (nmI (f_p_operations x2.toNatClampNeg)) _ (nmI_lt _) h) (cwV 1 hts (gV q_670 q_672 qs_27 q_7 q_673) rfl rfl rfl (by decide +kernel) ⟨Nat.le_of_ble_eq_true rfl, Nat.le_of_ble_eq_true rfl⟩) hJ hK hP hD hS hA [0] [1, 2, 3, 4] [4, 0, 1, 2, 3] rfl rfl rfl (by decide) (fun _ => rfl) (ci := 2) (q0 := 0) rfl rfl rfl hl.1 rfl (Nat.le_of_ble_eq_true rfl) dX2_passInstruction_29 ⟨Nat.le_of_ble_eq_true rfl, Nat.le_of_ble_eq_true rfl⟩ (fun u9 H locs h hP hD hS => ?_)
  obtain ⟨t_left_29, t_seen_29⟩ := u9
  have hP : va_P D vwCl [(a_t, .inr (2, [.int t_left_29, .int t_seen_29])), (a_p, .inr (4, [.int p_width, .int p_length, .int p_result, .int p_taskKind, .int p_taskDivisor, .ref a_p_operations, .ref a_p_firsts, .ref a_p_seconds])), (a_p_operations, .inl (ca 0, 40, .inl f_p_operations)), (a_p_firsts, .inl (ca 0, 40, .inl f_p_firsts)), (a_p_seconds, .inl (ca 0, 40, .inl f_p_seconds))] H := hP
  have hD : va_D A [(a_t, .inr (2, [.int t_left_29, .int t_seen_29])), (a_p, .inr (4, [.int p_width, .int p_length, .int p_result, .int p_taskKind, .int p_taskDivisor, .ref a_p_operations, .ref a_p_firsts, .ref a_p_seconds])), (a_p_operations, .inl (ca 0, 40, .inl f_p_operations)), (a_p_firsts, .inl (ca 0, 40, .inl f_p_firsts)), (a_p_seconds, .inl (ca 0, 40, .inl f_p_seconds))] := hD
  try dsimp only at h
  refine lv_aload_n hx hb dX2_passInstruction_32 rfl (lv_at hl 0 rfl) ?_
  refine lv_bipush (v := 32) hx hb dX2_passInstruction_33 (by decide) ?_
  refine cVv (As := [.int 32]) (rest := []) (wc := [(a_t, .inr (2, [.int t_left_29, .int t_seen_29]))]) (wr := [(a_p, .inr (4, [.int p_width, .int p_length, .int p_result, .int p_taskKind, .int p_taskDivisor, .ref a_p_operations, .ref a_p_firsts, .ref a_p_seconds])), (a_p_operations, .inl (ca 0, 40, .inl f_p_operations)), (a_p_firsts, .inl (ca 0, 40, .inl f_p_firsts)), (a_p_seconds, .inl (ca 0, 40, .inl f_p_seconds))]) (w1 := fun u : Int32 × Int32 => [(a_t, .inr (2, [.int u.1, .int u.2]))]) (ws2 := fun u : Int32 × Int32 => [(a_t, .inr (2, [.int u.1, .int u.2])), (a_p, .inr (4, [.int p_width, .int p_length, .int p_result, .int p_taskKind, .int p_taskDivisor, .ref a_p_operations, .ref a_p_firsts, .ref a_p_seconds])), (a_p_operations, .inl (ca 0, 40, .inl f_p_operations)), (a_p_firsts, .inl (ca 0, 40, .inl f_p_firsts)), (a_p_seconds, .inl (ca 0, 40, .inl f_p_seconds))]) ⟨hx, hb, hml, hown, hts⟩ (mX2_pass l D ca a_t _ t_left_29 t_seen_29 32 _ h) (cwV 1 hts (gV q_661 q_663 qs_25 q_7 q_664) rfl rfl rfl (by decide +kernel) ⟨Nat.le_of_ble_eq_true rfl, Nat.le_of_ble_eq_true rfl⟩) hK hP hD hS hA [0] [1, 2, 3, 4] [4, 0, 1, 2, 3] rfl rfl rfl (by decide) (fun _ => rfl) (ci := 2) (q0 := 0) rfl rfl rfl hl.1 rfl (Nat.le_of_ble_eq_true rfl) dX2_passInstruction_35 ⟨Nat.le_of_ble_eq_true rfl, Nat.le_of_ble_eq_true rfl⟩ (fun u9 H locs h hP hD hS => ?_)
  obtain ⟨t_left_35, t_seen_35⟩ := u9
  have hP : va_P D vwCl [(a_t, .inr (2, [.int t_left_35, .int t_seen_35])), (a_p, .inr (4, [.int p_width, .int p_length, .int p_result, .int p_taskKind, .int p_taskDivisor, .ref a_p_operations, .ref a_p_firsts, .ref a_p_seconds])), (a_p_operations, .inl (ca 0, 40, .inl f_p_operations)), (a_p_firsts, .inl (ca 0, 40, .inl f_p_firsts)), (a_p_seconds, .inl (ca 0, 40, .inl f_p_seconds))] H := hP
  have hD : va_D A [(a_t, .inr (2, [.int t_left_35, .int t_seen_35])), (a_p, .inr (4, [.int p_width, .int p_length, .int p_result, .int p_taskKind, .int p_taskDivisor, .ref a_p_operations, .ref a_p_firsts, .ref a_p_seconds])), (a_p_operations, .inl (ca 0, 40, .inl f_p_operations)), (a_p_firsts, .inl (ca 0, 40, .inl f_p_firsts)), (a_p_seconds, .inl (ca 0, 40, .inl f_p_seconds))] := hD
  try dsimp only at h
  refine lv_aload_n hx hb dX2_passInstruction_38 rfl (lv_at hl 0 rfl) ?_
  refine lv_aload_n hx hb dX2_passInstruction_39 rfl (lv_at hl 1 rfl) ?_
  refine va_get (D := D) (ci := 4) (v := .ref a_p_firsts) (C := RX5) (T := TX5) (N := 8) hx hb hq inX5g hown hK hP 1 rfl rfl 6 (by decide) (hq _ q_68) (fun _ h9 => h9) rfl dX2_passInstruction_40 ?_
  refine lv_iload_n hx hb dX2_passInstruction_43 rfl (lv_at hl 2 rfl) ?_
  obtain ⟨hi9, h⟩ := h
  refine va_iald hx hb hK hP 3 0 rfl rfl hi9 dX2_passInstruction_44 ?_
  refine cVv (As := [.int (f_p_firsts x2.toNatClampNeg)]) (rest := []) (wc := [(a_t, .inr (2, [.int t_left_35, .int t_seen_35]))]) (wr := [(a_p, .inr (4, [.int p_width, .int p_length, .int p_result, .int p_taskKind, .int p_taskDivisor, .ref a_p_operations, .ref a_p_firsts, .ref a_p_seconds])), (a_p_operations, .inl (ca 0, 40, .inl f_p_operations)), (a_p_firsts, .inl (ca 0, 40, .inl f_p_firsts)), (a_p_seconds, .inl (ca 0, 40, .inl f_p_seconds))]) (w1 := fun u : Int32 × Int32 => [(a_t, .inr (2, [.int u.1, .int u.2]))]) (ws2 := fun u : Int32 × Int32 => [(a_t, .inr (2, [.int u.1, .int u.2])), (a_p, .inr (4, [.int p_width, .int p_length, .int p_result, .int p_taskKind, .int p_taskDivisor, .ref a_p_operations, .ref a_p_firsts, .ref a_p_seconds])), (a_p_operations, .inl (ca 0, 40, .inl f_p_operations)), (a_p_firsts, .inl (ca 0, 40, .inl f_p_firsts)), (a_p_seconds, .inl (ca 0, 40, .inl f_p_seconds))]) ⟨hx, hb, hml, hown, hts⟩ (mX2_passOperand l D ca a_t _ t_left_35 t_seen_35 (f_p_firsts x2.toNatClampNeg) _ h) (cwV 1 hts (gV q_737 q_739 qs_28 q_7 q_740) rfl rfl rfl (by decide +kernel) ⟨Nat.le_of_ble_eq_true rfl, Nat.le_of_ble_eq_true rfl⟩) hK hP hD hS hA [0] [1, 2, 3, 4] [4, 0, 1, 2, 3] rfl rfl rfl (by decide) (fun _ => rfl) (ci := 2) (q0 := 0) rfl rfl rfl hl.1 rfl (Nat.le_of_ble_eq_true rfl) dX2_passInstruction_45 ⟨Nat.le_of_ble_eq_true rfl, Nat.le_of_ble_eq_true rfl⟩ (fun u9 H locs h hP hD hS => ?_)
  obtain ⟨t_left_45, t_seen_45⟩ := u9
  have hP : va_P D vwCl [(a_t, .inr (2, [.int t_left_45, .int t_seen_45])), (a_p, .inr (4, [.int p_width, .int p_length, .int p_result, .int p_taskKind, .int p_taskDivisor, .ref a_p_operations, .ref a_p_firsts, .ref a_p_seconds])), (a_p_operations, .inl (ca 0, 40, .inl f_p_operations)), (a_p_firsts, .inl (ca 0, 40, .inl f_p_firsts)), (a_p_seconds, .inl (ca 0, 40, .inl f_p_seconds))] H := hP
  have hD : va_D A [(a_t, .inr (2, [.int t_left_45, .int t_seen_45])), (a_p, .inr (4, [.int p_width, .int p_length, .int p_result, .int p_taskKind, .int p_taskDivisor, .ref a_p_operations, .ref a_p_firsts, .ref a_p_seconds])), (a_p_operations, .inl (ca 0, 40, .inl f_p_operations)), (a_p_firsts, .inl (ca 0, 40, .inl f_p_firsts)), (a_p_seconds, .inl (ca 0, 40, .inl f_p_seconds))] := hD
  try dsimp only at h
  refine lv_aload_n hx hb dX2_passInstruction_48 rfl (lv_at hl 0 rfl) ?_
  refine va_ldcS (q := adK 13) hx hb hown (hJ 13 (by decide)).1 dX2_passInstruction_49 ?_
  refine cVvJ (As := [.ref (adK 13)]) (rest := []) (wc := [(a_t, .inr (2, [.int t_left_45, .int t_seen_45]))]) (wr := [(a_p, .inr (4, [.int p_width, .int p_length, .int p_result, .int p_taskKind, .int p_taskDivisor, .ref a_p_operations, .ref a_p_firsts, .ref a_p_seconds])), (a_p_operations, .inl (ca 0, 40, .inl f_p_operations)), (a_p_firsts, .inl (ca 0, 40, .inl f_p_firsts)), (a_p_seconds, .inl (ca 0, 40, .inl f_p_seconds))]) (w1 := fun u : Int32 × Int32 => [(a_t, .inr (2, [.int u.1, .int u.2]))]) (ws2 := fun u : Int32 × Int32 => [(a_t, .inr (2, [.int u.1, .int u.2])), (a_p, .inr (4, [.int p_width, .int p_length, .int p_result, .int p_taskKind, .int p_taskDivisor, .ref a_p_operations, .ref a_p_firsts, .ref a_p_seconds])), (a_p_operations, .inl (ca 0, 40, .inl f_p_operations)), (a_p_firsts, .inl (ca 0, 40, .inl f_p_firsts)), (a_p_seconds, .inl (ca 0, 40, .inl f_p_seconds))]) ⟨hx, hb, hml, hown, hts⟩ (mX2_passText l D ca adK adV a_t _ t_left_45 t_seen_45 13 _ (by decide) h) (cwV 1 hts (gV q_670 q_672 qs_27 q_7 q_673) rfl rfl rfl (by decide +kernel) ⟨Nat.le_of_ble_eq_true rfl, Nat.le_of_ble_eq_true rfl⟩) hJ hK hP hD hS hA [0] [1, 2, 3, 4] [4, 0, 1, 2, 3] rfl rfl rfl (by decide) (fun _ => rfl) (ci := 2) (q0 := 0) rfl rfl rfl hl.1 rfl (Nat.le_of_ble_eq_true rfl) dX2_passInstruction_51 ⟨Nat.le_of_ble_eq_true rfl, Nat.le_of_ble_eq_true rfl⟩ (fun u9 H locs h hP hD hS => ?_)
  obtain ⟨t_left_51, t_seen_51⟩ := u9
  have hP : va_P D vwCl [(a_t, .inr (2, [.int t_left_51, .int t_seen_51])), (a_p, .inr (4, [.int p_width, .int p_length, .int p_result, .int p_taskKind, .int p_taskDivisor, .ref a_p_operations, .ref a_p_firsts, .ref a_p_seconds])), (a_p_operations, .inl (ca 0, 40, .inl f_p_operations)), (a_p_firsts, .inl (ca 0, 40, .inl f_p_firsts)), (a_p_seconds, .inl (ca 0, 40, .inl f_p_seconds))] H := hP
  have hD : va_D A [(a_t, .inr (2, [.int t_left_51, .int t_seen_51])), (a_p, .inr (4, [.int p_width, .int p_length, .int p_result, .int p_taskKind, .int p_taskDivisor, .ref a_p_operations, .ref a_p_firsts, .ref a_p_seconds])), (a_p_operations, .inl (ca 0, 40, .inl f_p_operations)), (a_p_firsts, .inl (ca 0, 40, .inl f_p_firsts)), (a_p_seconds, .inl (ca 0, 40, .inl f_p_seconds))] := hD
  try dsimp only at h
  refine lv_aload_n hx hb dX2_passInstruction_54 rfl (lv_at hl 0 rfl) ?_
  refine lv_aload_n hx hb dX2_passInstruction_55 rfl (lv_at hl 1 rfl) ?_
  refine va_get (D := D) (ci := 4) (v := .ref a_p_seconds) (C := RX5) (T := TX5) (N := 8) hx hb hq inX5g hown hK hP 1 rfl rfl 7 (by decide) (hq _ q_73) (fun _ h9 => h9) rfl dX2_passInstruction_56 ?_
  refine lv_iload_n hx hb dX2_passInstruction_59 rfl (lv_at hl 2 rfl) ?_
  obtain ⟨hi9, h⟩ := h
  refine va_iald hx hb hK hP 4 0 rfl rfl hi9 dX2_passInstruction_60 ?_
  refine cVv (As := [.int (f_p_seconds x2.toNatClampNeg)]) (rest := []) (wc := [(a_t, .inr (2, [.int t_left_51, .int t_seen_51]))]) (wr := [(a_p, .inr (4, [.int p_width, .int p_length, .int p_result, .int p_taskKind, .int p_taskDivisor, .ref a_p_operations, .ref a_p_firsts, .ref a_p_seconds])), (a_p_operations, .inl (ca 0, 40, .inl f_p_operations)), (a_p_firsts, .inl (ca 0, 40, .inl f_p_firsts)), (a_p_seconds, .inl (ca 0, 40, .inl f_p_seconds))]) (w1 := fun u : Int32 × Int32 => [(a_t, .inr (2, [.int u.1, .int u.2]))]) (ws2 := fun u : Int32 × Int32 => [(a_t, .inr (2, [.int u.1, .int u.2])), (a_p, .inr (4, [.int p_width, .int p_length, .int p_result, .int p_taskKind, .int p_taskDivisor, .ref a_p_operations, .ref a_p_firsts, .ref a_p_seconds])), (a_p_operations, .inl (ca 0, 40, .inl f_p_operations)), (a_p_firsts, .inl (ca 0, 40, .inl f_p_firsts)), (a_p_seconds, .inl (ca 0, 40, .inl f_p_seconds))]) ⟨hx, hb, hml, hown, hts⟩ (mX2_passOperand l D ca a_t _ t_left_51 t_seen_51 (f_p_seconds x2.toNatClampNeg) _ h) (cwV 1 hts (gV q_737 q_739 qs_28 q_7 q_740) rfl rfl rfl (by decide +kernel) ⟨Nat.le_of_ble_eq_true rfl, Nat.le_of_ble_eq_true rfl⟩) hK hP hD hS hA [0] [1, 2, 3, 4] [4, 0, 1, 2, 3] rfl rfl rfl (by decide) (fun _ => rfl) (ci := 2) (q0 := 0) rfl rfl rfl hl.1 rfl (Nat.le_of_ble_eq_true rfl) dX2_passInstruction_61 ⟨Nat.le_of_ble_eq_true rfl, Nat.le_of_ble_eq_true rfl⟩ (fun u9 H locs h hP hD hS => ?_)
  obtain ⟨t_left_61, t_seen_61⟩ := u9
  have hP : va_P D vwCl [(a_t, .inr (2, [.int t_left_61, .int t_seen_61])), (a_p, .inr (4, [.int p_width, .int p_length, .int p_result, .int p_taskKind, .int p_taskDivisor, .ref a_p_operations, .ref a_p_firsts, .ref a_p_seconds])), (a_p_operations, .inl (ca 0, 40, .inl f_p_operations)), (a_p_firsts, .inl (ca 0, 40, .inl f_p_firsts)), (a_p_seconds, .inl (ca 0, 40, .inl f_p_seconds))] H := hP
  have hD : va_D A [(a_t, .inr (2, [.int t_left_61, .int t_seen_61])), (a_p, .inr (4, [.int p_width, .int p_length, .int p_result, .int p_taskKind, .int p_taskDivisor, .ref a_p_operations, .ref a_p_firsts, .ref a_p_seconds])), (a_p_operations, .inl (ca 0, 40, .inl f_p_operations)), (a_p_firsts, .inl (ca 0, 40, .inl f_p_firsts)), (a_p_seconds, .inl (ca 0, 40, .inl f_p_seconds))] := hD
  try dsimp only at h
  refine lv_aload_n hx hb dX2_passInstruction_64 rfl (lv_at hl 0 rfl) ?_
  refine lv_bipush (v := 10) hx hb dX2_passInstruction_65 (by decide) ?_
  refine cVv (As := [.int 10]) (rest := []) (wc := [(a_t, .inr (2, [.int t_left_61, .int t_seen_61]))]) (wr := [(a_p, .inr (4, [.int p_width, .int p_length, .int p_result, .int p_taskKind, .int p_taskDivisor, .ref a_p_operations, .ref a_p_firsts, .ref a_p_seconds])), (a_p_operations, .inl (ca 0, 40, .inl f_p_operations)), (a_p_firsts, .inl (ca 0, 40, .inl f_p_firsts)), (a_p_seconds, .inl (ca 0, 40, .inl f_p_seconds))]) (w1 := fun u : Int32 × Int32 => [(a_t, .inr (2, [.int u.1, .int u.2]))]) (ws2 := fun u : Int32 × Int32 => [(a_t, .inr (2, [.int u.1, .int u.2])), (a_p, .inr (4, [.int p_width, .int p_length, .int p_result, .int p_taskKind, .int p_taskDivisor, .ref a_p_operations, .ref a_p_firsts, .ref a_p_seconds])), (a_p_operations, .inl (ca 0, 40, .inl f_p_operations)), (a_p_firsts, .inl (ca 0, 40, .inl f_p_firsts)), (a_p_seconds, .inl (ca 0, 40, .inl f_p_seconds))]) ⟨hx, hb, hml, hown, hts⟩ (mX2_pass l D ca a_t _ t_left_61 t_seen_61 10 _ h) (cwV 1 hts (gV q_661 q_663 qs_25 q_7 q_664) rfl rfl rfl (by decide +kernel) ⟨Nat.le_of_ble_eq_true rfl, Nat.le_of_ble_eq_true rfl⟩) hK hP hD hS hA [0] [1, 2, 3, 4] [4, 0, 1, 2, 3] rfl rfl rfl (by decide) (fun _ => rfl) (ci := 2) (q0 := 0) rfl rfl rfl hl.1 rfl (Nat.le_of_ble_eq_true rfl) dX2_passInstruction_67 ⟨Nat.le_of_ble_eq_true rfl, Nat.le_of_ble_eq_true rfl⟩ (fun u9 H locs h hP hD hS => ?_)
  obtain ⟨t_left_67, t_seen_67⟩ := u9
  have hP : va_P D vwCl [(a_t, .inr (2, [.int t_left_67, .int t_seen_67])), (a_p, .inr (4, [.int p_width, .int p_length, .int p_result, .int p_taskKind, .int p_taskDivisor, .ref a_p_operations, .ref a_p_firsts, .ref a_p_seconds])), (a_p_operations, .inl (ca 0, 40, .inl f_p_operations)), (a_p_firsts, .inl (ca 0, 40, .inl f_p_firsts)), (a_p_seconds, .inl (ca 0, 40, .inl f_p_seconds))] H := hP
  have hD : va_D A [(a_t, .inr (2, [.int t_left_67, .int t_seen_67])), (a_p, .inr (4, [.int p_width, .int p_length, .int p_result, .int p_taskKind, .int p_taskDivisor, .ref a_p_operations, .ref a_p_firsts, .ref a_p_seconds])), (a_p_operations, .inl (ca 0, 40, .inl f_p_operations)), (a_p_firsts, .inl (ca 0, 40, .inl f_p_firsts)), (a_p_seconds, .inl (ca 0, 40, .inl f_p_seconds))] := hD
  try dsimp only at h
  exact W.vret hx hb hr (fun t ht hW => ⟨⟨(t_left_67, t_seen_67), rfl, h, by rw [ht]; exact hP, va_K.moved hW.alike hK, hD⟩, hS.F ht⟩) hS.2.2 dX2_passInstruction_70

abbrev qX2_charAt (D : va_G) (ca : Nat → ClassId) (a_t a_p a_p_operations a_p_firsts a_p_seconds : Nat) (p_width : Int32) (p_length : Int32) (p_result : Int32) (p_taskKind : Int32) (p_taskDivisor : Int32) (f_p_operations : Nat → Int32) (f_p_firsts : Nat → Int32) (f_p_seconds : Nat → Int32) (Q : Int32 → Int32 → Int32 → Prop) (A : Nat → Prop) : Array Value → State → Outcome → State → Prop := va_Qi (fun (r : Int32) (u : Int32 × Int32) => Q r u.1 u.2) (wEnd D ca (fun u : Int32 × Int32 => [(a_t, .inr (2, [.int u.1, .int u.2])), (a_p, .inr (4, [.int p_width, .int p_length, .int p_result, .int p_taskKind, .int p_taskDivisor, .ref a_p_operations, .ref a_p_firsts, .ref a_p_seconds])), (a_p_operations, .inl (ca 0, 40, .inl f_p_operations)), (a_p_firsts, .inl (ca 0, 40, .inl f_p_firsts)), (a_p_seconds, .inl (ca 0, 40, .inl f_p_seconds))]) A) A
def wX2_charAt_40 (p_result : Int32) (Q : Int32 → Int32 → Int32 → Prop) (t_left_12 : Int32) (t_seen_12 : Int32) : Prop :=
  wX2_passText t_left_12 t_seen_12 14 (fun t_left_43 t_seen_43 => wX2_passNumber t_left_43 t_seen_43 p_result (fun t_left_51 t_seen_51 => wX2_pass t_left_51 t_seen_51 10 (fun t_left_57 t_seen_57 => Q t_seen_57 t_left_57 t_seen_57)))
def wX2_charAt_12 (p_length : Int32) (p_result : Int32) (f_p_operations : Nat → Int32) (f_p_firsts : Nat → Int32) (f_p_seconds : Nat → Int32) (Q : Int32 → Int32 → Int32 → Prop) : Nat → Int32 → Int32 → Int32 → Prop
  | 0, _, _, _ => False
  | n9 + 1, x3_12, t_left_12, t_seen_12 =>
  ((p_length ≤ x3_12 → wX2_charAt_40 p_result Q t_left_12 t_seen_12) ∧ (¬ p_length ≤ x3_12 → ((t_seen_12 = ((-1)) → wX2_passInstruction t_left_12 t_seen_12 f_p_operations f_p_firsts f_p_seconds x3_12 (fun t_left_31 t_seen_31 => (∀ x3_34 : Int32, x3_34 = x3_12 + 1 → (wX2_charAt_12 p_length p_result f_p_operations f_p_firsts f_p_seconds Q n9) x3_34 t_left_31 t_seen_31))) ∧ (¬ t_seen_12 = ((-1)) → wX2_charAt_40 p_result Q t_left_12 t_seen_12))))
def wX2_charAt (t_left : Int32) (t_seen : Int32) (p_length : Int32) (p_result : Int32) (f_p_operations : Nat → Int32) (f_p_firsts : Nat → Int32) (f_p_seconds : Nat → Int32) (x2 : Int32) (Q : Int32 → Int32 → Int32 → Prop) : Prop :=
  (∃ k9, wX2_charAt_12 p_length p_result f_p_operations f_p_firsts f_p_seconds Q k9 0 x2 ((-1)))
set_option maxHeartbeats 4000000 in
set_option maxRecDepth 100000 in
theorem mX2_charAt (l : Launch) (D : va_G) (ca : Nat → ClassId) (adK adV : Nat → Nat) (a_t a_p a_p_operations a_p_firsts a_p_seconds : Nat) (sz : Nat) (t_left : Int32) (t_seen : Int32) (p_width : Int32) (p_length : Int32) (p_result : Int32) (p_taskKind : Int32) (p_taskDivisor : Int32) (f_p_operations : Nat → Int32) (f_p_firsts : Nat → Int32) (f_p_seconds : Nat → Int32) (x2 : Int32) (Q : Int32 → Int32 → Int32 → Prop) (h : wX2_charAt t_left t_seen p_length p_result f_p_operations f_p_firsts f_p_seconds x2 Q) : Met l yX2_charAt (Cond.code yX2_charAt cX2_charAt 4 (some .int) :: wsG) ({ frames := 6, cells := 0, slots := 0, locals := 129 } : Room) (va_Pc [.ref a_t, .ref a_p, .int x2] (jPre D ca adK adV [(a_t, .inr (2, [.int t_left, .int t_seen])), (a_p, .inr (4, [.int p_width, .int p_length, .int p_result, .int p_taskKind, .int p_taskDivisor, .ref a_p_operations, .ref a_p_firsts, .ref a_p_seconds])), (a_p_operations, .inl (ca 0, 40, .inl f_p_operations)), (a_p_firsts, .inl (ca 0, 40, .inl f_p_firsts)), (a_p_seconds, .inl (ca 0, 40, .inl f_p_seconds))] sz)) (qX2_charAt D ca a_t a_p a_p_operations a_p_firsts a_p_seconds p_width p_length p_result p_taskKind p_taskDivisor f_p_operations f_p_firsts f_p_seconds Q (va_A [(a_t, .inr (2, [.int t_left, .int t_seen])), (a_p, .inr (4, [.int p_width, .int p_length, .int p_result, .int p_taskKind, .int p_taskDivisor, .ref a_p_operations, .ref a_p_firsts, .ref a_p_seconds])), (a_p_operations, .inl (ca 0, 40, .inl f_p_operations)), (a_p_firsts, .inl (ca 0, 40, .inl f_p_firsts)), (a_p_seconds, .inl (ca 0, 40, .inl f_p_seconds))] sz)) 0 0 (va_A [(a_t, .inr (2, [.int t_left, .int t_seen])), (a_p, .inr (4, [.int p_width, .int p_length, .int p_result, .int p_taskKind, .int p_taskDivisor, .ref a_p_operations, .ref a_p_firsts, .ref a_p_seconds])), (a_p_operations, .inl (ca 0, 40, .inl f_p_operations)), (a_p_firsts, .inl (ca 0, 40, .inl f_p_firsts)), (a_p_seconds, .inl (ca 0, 40, .inl f_p_seconds))] sz) := by
  refine Met.ofW (cc := cX2_charAt) (maxL := 4) (ret := (some .int)) (by decide) rfl ?_
  intro p e s m args below meth c s₁ B hml hv
  obtain ⟨rfl, ⟨hsz, hP, hK, hD0⟩, hJ⟩ := hv
  have hx := B.exec
  have hb := B.bytes
  have hr := B.returns
  have hts := atoms_spec (ws := (Cond.code yX2_charAt cX2_charAt 4 (some .int) :: wsG)) B.pre
  have hq : ∀ w ∈ wsG, w.before _ s = true := fun w hw => hts w (List.mem_cons_of_mem _ hw)
  have hown : s.vm.findClass RX2 = some m.cls := findClass_of_methodNamed B.named
  have hlocks := B.notSynchronized
  subst hsz
  have hD := hD0.self (sz := s.heap.size)
  generalize hAe : va_A [(a_t, .inr (2, [.int t_left, .int t_seen])), (a_p, .inr (4, [.int p_width, .int p_length, .int p_result, .int p_taskKind, .int p_taskDivisor, .ref a_p_operations, .ref a_p_firsts, .ref a_p_seconds])), (a_p_operations, .inl (ca 0, 40, .inl f_p_operations)), (a_p_firsts, .inl (ca 0, 40, .inl f_p_firsts)), (a_p_seconds, .inl (ca 0, 40, .inl f_p_seconds))] s.heap.size = A at hD hJ ⊢
  have hA : ∀ q : Nat, s.heap.size ≤ q → A q := fun q h => by rw [← hAe]; exact Or.inr h
  have hS : va_S A s.heap s.heap [] := va_S.rf
  have hP : va_P D vwCl [(a_t, .inr (2, [.int t_left, .int t_seen])), (a_p, .inr (4, [.int p_width, .int p_length, .int p_result, .int p_taskKind, .int p_taskDivisor, .ref a_p_operations, .ref a_p_firsts, .ref a_p_seconds])), (a_p_operations, .inl (ca 0, 40, .inl f_p_operations)), (a_p_firsts, .inl (ca 0, 40, .inl f_p_firsts)), (a_p_seconds, .inl (ca 0, 40, .inl f_p_seconds))] s.heap := hP
  have hl := lv_entry ([.ref a_t, .ref a_p, .int x2]) (n := 4) (Nat.le_of_ble_eq_true rfl)
  rw [lg_entry_eq]
  generalize (lg_sl ([.ref a_t, .ref a_p, .int x2]) ++ List.replicate (4 - (lg_sl ([.ref a_t, .ref a_p, .int x2])).length) Slot.unset).toArray = ls at hl ⊢
  have hl : lv_has ls 4 [(0, .ref a_t), (1, .ref a_p), (2, .int x2)] := hl
  unfold wX2_charAt at h
  refine lv_aload_n hx hb dX2_charAt_0 rfl (lv_at hl 0 rfl) ?_
  refine lv_iload_n hx hb dX2_charAt_1 rfl (lv_at hl 2 rfl) ?_
  refine va_put (D := D) (ci := 2) (v := .int x2) (ty := .int) (C := RX2) (T := TX2) (N := 2) hx hb hq inX2g tyX2 tyX2_ok nmX2 hown hK hP hD hS 0 rfl rfl 0 (by decide) (hq _ q_162) (fun _ h9 => h9) rfl (by decide +kernel) rfl rfl (Nat.le_of_ble_eq_true rfl) dX2_charAt_2 (fun H locs hP hD hS => ?_)
  have hP : va_P D vwCl [(a_t, .inr (2, [.int x2, .int t_seen])), (a_p, .inr (4, [.int p_width, .int p_length, .int p_result, .int p_taskKind, .int p_taskDivisor, .ref a_p_operations, .ref a_p_firsts, .ref a_p_seconds])), (a_p_operations, .inl (ca 0, 40, .inl f_p_operations)), (a_p_firsts, .inl (ca 0, 40, .inl f_p_firsts)), (a_p_seconds, .inl (ca 0, 40, .inl f_p_seconds))] H := hP
  have hD : va_D A [(a_t, .inr (2, [.int x2, .int t_seen])), (a_p, .inr (4, [.int p_width, .int p_length, .int p_result, .int p_taskKind, .int p_taskDivisor, .ref a_p_operations, .ref a_p_firsts, .ref a_p_seconds])), (a_p_operations, .inl (ca 0, 40, .inl f_p_operations)), (a_p_firsts, .inl (ca 0, 40, .inl f_p_firsts)), (a_p_seconds, .inl (ca 0, 40, .inl f_p_seconds))] := hD
  refine lv_aload_n hx hb dX2_charAt_5 rfl (lv_at hl 0 rfl) ?_
  refine lv_iconst (v := (-1)) hx hb dX2_charAt_6 (by decide) ?_
  refine va_put (D := D) (ci := 2) (v := .int ((-1))) (ty := .int) (C := RX2) (T := TX2) (N := 2) hx hb hq inX2g tyX2 tyX2_ok nmX2 hown hK hP hD hS 0 rfl rfl 1 (by decide) (hq _ q_163) (fun _ h9 => h9) rfl (by decide +kernel) rfl rfl (Nat.le_of_ble_eq_true rfl) dX2_charAt_7 (fun H locs hP hD hS => ?_)
  have hP : va_P D vwCl [(a_t, .inr (2, [.int x2, .int ((-1))])), (a_p, .inr (4, [.int p_width, .int p_length, .int p_result, .int p_taskKind, .int p_taskDivisor, .ref a_p_operations, .ref a_p_firsts, .ref a_p_seconds])), (a_p_operations, .inl (ca 0, 40, .inl f_p_operations)), (a_p_firsts, .inl (ca 0, 40, .inl f_p_firsts)), (a_p_seconds, .inl (ca 0, 40, .inl f_p_seconds))] H := hP
  have hD : va_D A [(a_t, .inr (2, [.int x2, .int ((-1))])), (a_p, .inr (4, [.int p_width, .int p_length, .int p_result, .int p_taskKind, .int p_taskDivisor, .ref a_p_operations, .ref a_p_firsts, .ref a_p_seconds])), (a_p_operations, .inl (ca 0, 40, .inl f_p_operations)), (a_p_firsts, .inl (ca 0, 40, .inl f_p_firsts)), (a_p_seconds, .inl (ca 0, 40, .inl f_p_seconds))] := hD
  refine lv_iconst (v := 0) hx hb dX2_charAt_10 (by decide) ?_
  refine lv_istore_n (lv' := [(3, .int 0), (0, .ref a_t), (1, .ref a_p), (2, .int x2)]) hx hb dX2_charAt_11 rfl hl (by decide) rfl (fun ls hl => ?_)
  have hL12 : ∀ (n9_12 : Nat) (x3_12 : Int32) (t_left_12 : Int32) (t_seen_12 : Int32) (H : Heap) (locs : List Loc) (ls : Array Slot), va_P D vwCl [(a_t, .inr (2, [.int t_left_12, .int t_seen_12])), (a_p, .inr (4, [.int p_width, .int p_length, .int p_result, .int p_taskKind, .int p_taskDivisor, .ref a_p_operations, .ref a_p_firsts, .ref a_p_seconds])), (a_p_operations, .inl (ca 0, 40, .inl f_p_operations)), (a_p_firsts, .inl (ca 0, 40, .inl f_p_firsts)), (a_p_seconds, .inl (ca 0, 40, .inl f_p_seconds))] H → va_D A [(a_t, .inr (2, [.int t_left_12, .int t_seen_12])), (a_p, .inr (4, [.int p_width, .int p_length, .int p_result, .int p_taskKind, .int p_taskDivisor, .ref a_p_operations, .ref a_p_firsts, .ref a_p_seconds])), (a_p_operations, .inl (ca 0, 40, .inl f_p_operations)), (a_p_firsts, .inl (ca 0, 40, .inl f_p_firsts)), (a_p_seconds, .inl (ca 0, 40, .inl f_p_seconds))] → va_S A s.heap H locs → lv_has ls 4 [(0, .ref a_t), (1, .ref a_p), (3, .int x3_12)] → wX2_charAt_12 p_length p_result f_p_operations f_p_firsts f_p_seconds Q n9_12 x3_12 t_left_12 t_seen_12 → W p l e (headSpec (Cond.code yX2_charAt cX2_charAt 4 (some .int) :: wsG) ({ frames := 6, cells := 0, slots := 0, locals := 129 } : Room)).room s m ([.ref a_t, .ref a_p, .int x2] : List Value).toArray below meth c H locs 0 0 (MQ below (qX2_charAt D ca a_t a_p a_p_operations a_p_firsts a_p_seconds p_width p_length p_result p_taskKind p_taskDivisor f_p_operations f_p_firsts f_p_seconds Q A) ([.ref a_t, .ref a_p, .int x2] : List Value).toArray s 0 0 A) (F0 m 12 ls []) := by
    intro n9_12
    induction n9_12 with
    | zero =>
      intro x3_12 t_left_12 t_seen_12 H locs ls hP hD hS hl h
      exact False.elim h
    | succ n9_12 ih12 =>
      intro x3_12 t_left_12 t_seen_12 H locs ls hP hD hS hl h
      unfold wX2_charAt_12 at h
      refine lv_iload_n hx hb dX2_charAt_12 rfl (lv_at hl 2 rfl) ?_
      refine lv_aload_n hx hb dX2_charAt_13 rfl (lv_at hl 1 rfl) ?_
      refine va_get (D := D) (ci := 4) (v := .int p_length) (C := RX5) (T := TX5) (N := 8) hx hb hq inX5g hown hK hP 1 rfl rfl 1 (by decide) (hq _ q_49) (fun _ h9 => h9) rfl dX2_charAt_14 ?_
      have hJ40 : ∀ (H : Heap) (locs : List Loc) (ls : Array Slot), va_P D vwCl [(a_t, .inr (2, [.int t_left_12, .int t_seen_12])), (a_p, .inr (4, [.int p_width, .int p_length, .int p_result, .int p_taskKind, .int p_taskDivisor, .ref a_p_operations, .ref a_p_firsts, .ref a_p_seconds])), (a_p_operations, .inl (ca 0, 40, .inl f_p_operations)), (a_p_firsts, .inl (ca 0, 40, .inl f_p_firsts)), (a_p_seconds, .inl (ca 0, 40, .inl f_p_seconds))] H → va_D A [(a_t, .inr (2, [.int t_left_12, .int t_seen_12])), (a_p, .inr (4, [.int p_width, .int p_length, .int p_result, .int p_taskKind, .int p_taskDivisor, .ref a_p_operations, .ref a_p_firsts, .ref a_p_seconds])), (a_p_operations, .inl (ca 0, 40, .inl f_p_operations)), (a_p_firsts, .inl (ca 0, 40, .inl f_p_firsts)), (a_p_seconds, .inl (ca 0, 40, .inl f_p_seconds))] → va_S A s.heap H locs → lv_has ls 4 [(0, .ref a_t), (1, .ref a_p)] → wX2_charAt_40 p_result Q t_left_12 t_seen_12 → W p l e (headSpec (Cond.code yX2_charAt cX2_charAt 4 (some .int) :: wsG) ({ frames := 6, cells := 0, slots := 0, locals := 129 } : Room)).room s m ([.ref a_t, .ref a_p, .int x2] : List Value).toArray below meth c H locs 0 0 (MQ below (qX2_charAt D ca a_t a_p a_p_operations a_p_firsts a_p_seconds p_width p_length p_result p_taskKind p_taskDivisor f_p_operations f_p_firsts f_p_seconds Q A) ([.ref a_t, .ref a_p, .int x2] : List Value).toArray s 0 0 A) (F0 m 40 ls []) := by
        intro  H locs ls hP hD hS hl h
        unfold wX2_charAt_40 at h
        refine lv_aload_n hx hb dX2_charAt_40 rfl (lv_at hl 0 rfl) ?_
        refine va_ldcS (q := adK 14) hx hb hown (hJ 14 (by decide)).1 dX2_charAt_41 ?_
        refine cVvJ (As := [.ref (adK 14)]) (rest := []) (wc := [(a_t, .inr (2, [.int t_left_12, .int t_seen_12]))]) (wr := [(a_p, .inr (4, [.int p_width, .int p_length, .int p_result, .int p_taskKind, .int p_taskDivisor, .ref a_p_operations, .ref a_p_firsts, .ref a_p_seconds])), (a_p_operations, .inl (ca 0, 40, .inl f_p_operations)), (a_p_firsts, .inl (ca 0, 40, .inl f_p_firsts)), (a_p_seconds, .inl (ca 0, 40, .inl f_p_seconds))]) (w1 := fun u : Int32 × Int32 => [(a_t, .inr (2, [.int u.1, .int u.2]))]) (ws2 := fun u : Int32 × Int32 => [(a_t, .inr (2, [.int u.1, .int u.2])), (a_p, .inr (4, [.int p_width, .int p_length, .int p_result, .int p_taskKind, .int p_taskDivisor, .ref a_p_operations, .ref a_p_firsts, .ref a_p_seconds])), (a_p_operations, .inl (ca 0, 40, .inl f_p_operations)), (a_p_firsts, .inl (ca 0, 40, .inl f_p_firsts)), (a_p_seconds, .inl (ca 0, 40, .inl f_p_seconds))]) ⟨hx, hb, hml, hown, hts⟩ (mX2_passText l D ca adK adV a_t _ t_left_12 t_seen_12 14 _ (by decide) h) (cwV 1 hts (gV q_670 q_672 qs_27 q_7 q_673) rfl rfl rfl (by decide +kernel) ⟨Nat.le_of_ble_eq_true rfl, Nat.le_of_ble_eq_true rfl⟩) hJ hK hP hD hS hA [0] [1, 2, 3, 4] [4, 0, 1, 2, 3] rfl rfl rfl (by decide) (fun _ => rfl) (ci := 2) (q0 := 0) rfl rfl rfl hl.1 rfl (Nat.le_of_ble_eq_true rfl) dX2_charAt_43 ⟨Nat.le_of_ble_eq_true rfl, Nat.le_of_ble_eq_true rfl⟩ (fun u9 H locs h hP hD hS => ?_)
        obtain ⟨t_left_43, t_seen_43⟩ := u9
        have hP : va_P D vwCl [(a_t, .inr (2, [.int t_left_43, .int t_seen_43])), (a_p, .inr (4, [.int p_width, .int p_length, .int p_result, .int p_taskKind, .int p_taskDivisor, .ref a_p_operations, .ref a_p_firsts, .ref a_p_seconds])), (a_p_operations, .inl (ca 0, 40, .inl f_p_operations)), (a_p_firsts, .inl (ca 0, 40, .inl f_p_firsts)), (a_p_seconds, .inl (ca 0, 40, .inl f_p_seconds))] H := hP
        have hD : va_D A [(a_t, .inr (2, [.int t_left_43, .int t_seen_43])), (a_p, .inr (4, [.int p_width, .int p_length, .int p_result, .int p_taskKind, .int p_taskDivisor, .ref a_p_operations, .ref a_p_firsts, .ref a_p_seconds])), (a_p_operations, .inl (ca 0, 40, .inl f_p_operations)), (a_p_firsts, .inl (ca 0, 40, .inl f_p_firsts)), (a_p_seconds, .inl (ca 0, 40, .inl f_p_seconds))] := hD
        try dsimp only at h
        refine lv_aload_n hx hb dX2_charAt_46 rfl (lv_at hl 0 rfl) ?_
        refine lv_aload_n hx hb dX2_charAt_47 rfl (lv_at hl 1 rfl) ?_
        refine va_get (D := D) (ci := 4) (v := .int p_result) (C := RX5) (T := TX5) (N := 8) hx hb hq inX5g hown hK hP 1 rfl rfl 2 (by decide) (hq _ q_52) (fun _ h9 => h9) rfl dX2_charAt_48 ?_
        refine cVv (As := [.int p_result]) (rest := []) (wc := [(a_t, .inr (2, [.int t_left_43, .int t_seen_43]))]) (wr := [(a_p, .inr (4, [.int p_width, .int p_length, .int p_result, .int p_taskKind, .int p_taskDivisor, .ref a_p_operations, .ref a_p_firsts, .ref a_p_seconds])), (a_p_operations, .inl (ca 0, 40, .inl f_p_operations)), (a_p_firsts, .inl (ca 0, 40, .inl f_p_firsts)), (a_p_seconds, .inl (ca 0, 40, .inl f_p_seconds))]) (w1 := fun u : Int32 × Int32 => [(a_t, .inr (2, [.int u.1, .int u.2]))]) (ws2 := fun u : Int32 × Int32 => [(a_t, .inr (2, [.int u.1, .int u.2])), (a_p, .inr (4, [.int p_width, .int p_length, .int p_result, .int p_taskKind, .int p_taskDivisor, .ref a_p_operations, .ref a_p_firsts, .ref a_p_seconds])), (a_p_operations, .inl (ca 0, 40, .inl f_p_operations)), (a_p_firsts, .inl (ca 0, 40, .inl f_p_firsts)), (a_p_seconds, .inl (ca 0, 40, .inl f_p_seconds))]) ⟨hx, hb, hml, hown, hts⟩ (mX2_passNumber l D ca a_t _ t_left_43 t_seen_43 p_result _ h) (cwV 1 hts (gV q_665 q_667 qs_26 q_7 q_668) rfl rfl rfl (by decide +kernel) ⟨Nat.le_of_ble_eq_true rfl, Nat.le_of_ble_eq_true rfl⟩) hK hP hD hS hA [0] [1, 2, 3, 4] [4, 0, 1, 2, 3] rfl rfl rfl (by decide) (fun _ => rfl) (ci := 2) (q0 := 0) rfl rfl rfl hl.1 rfl (Nat.le_of_ble_eq_true rfl) dX2_charAt_51 ⟨Nat.le_of_ble_eq_true rfl, Nat.le_of_ble_eq_true rfl⟩ (fun u9 H locs h hP hD hS => ?_)
        obtain ⟨t_left_51, t_seen_51⟩ := u9
        have hP : va_P D vwCl [(a_t, .inr (2, [.int t_left_51, .int t_seen_51])), (a_p, .inr (4, [.int p_width, .int p_length, .int p_result, .int p_taskKind, .int p_taskDivisor, .ref a_p_operations, .ref a_p_firsts, .ref a_p_seconds])), (a_p_operations, .inl (ca 0, 40, .inl f_p_operations)), (a_p_firsts, .inl (ca 0, 40, .inl f_p_firsts)), (a_p_seconds, .inl (ca 0, 40, .inl f_p_seconds))] H := hP
        have hD : va_D A [(a_t, .inr (2, [.int t_left_51, .int t_seen_51])), (a_p, .inr (4, [.int p_width, .int p_length, .int p_result, .int p_taskKind, .int p_taskDivisor, .ref a_p_operations, .ref a_p_firsts, .ref a_p_seconds])), (a_p_operations, .inl (ca 0, 40, .inl f_p_operations)), (a_p_firsts, .inl (ca 0, 40, .inl f_p_firsts)), (a_p_seconds, .inl (ca 0, 40, .inl f_p_seconds))] := hD
        try dsimp only at h
        refine lv_aload_n hx hb dX2_charAt_54 rfl (lv_at hl 0 rfl) ?_
        refine lv_bipush (v := 10) hx hb dX2_charAt_55 (by decide) ?_
        refine cVv (As := [.int 10]) (rest := []) (wc := [(a_t, .inr (2, [.int t_left_51, .int t_seen_51]))]) (wr := [(a_p, .inr (4, [.int p_width, .int p_length, .int p_result, .int p_taskKind, .int p_taskDivisor, .ref a_p_operations, .ref a_p_firsts, .ref a_p_seconds])), (a_p_operations, .inl (ca 0, 40, .inl f_p_operations)), (a_p_firsts, .inl (ca 0, 40, .inl f_p_firsts)), (a_p_seconds, .inl (ca 0, 40, .inl f_p_seconds))]) (w1 := fun u : Int32 × Int32 => [(a_t, .inr (2, [.int u.1, .int u.2]))]) (ws2 := fun u : Int32 × Int32 => [(a_t, .inr (2, [.int u.1, .int u.2])), (a_p, .inr (4, [.int p_width, .int p_length, .int p_result, .int p_taskKind, .int p_taskDivisor, .ref a_p_operations, .ref a_p_firsts, .ref a_p_seconds])), (a_p_operations, .inl (ca 0, 40, .inl f_p_operations)), (a_p_firsts, .inl (ca 0, 40, .inl f_p_firsts)), (a_p_seconds, .inl (ca 0, 40, .inl f_p_seconds))]) ⟨hx, hb, hml, hown, hts⟩ (mX2_pass l D ca a_t _ t_left_51 t_seen_51 10 _ h) (cwV 1 hts (gV q_661 q_663 qs_25 q_7 q_664) rfl rfl rfl (by decide +kernel) ⟨Nat.le_of_ble_eq_true rfl, Nat.le_of_ble_eq_true rfl⟩) hK hP hD hS hA [0] [1, 2, 3, 4] [4, 0, 1, 2, 3] rfl rfl rfl (by decide) (fun _ => rfl) (ci := 2) (q0 := 0) rfl rfl rfl hl.1 rfl (Nat.le_of_ble_eq_true rfl) dX2_charAt_57 ⟨Nat.le_of_ble_eq_true rfl, Nat.le_of_ble_eq_true rfl⟩ (fun u9 H locs h hP hD hS => ?_)
        obtain ⟨t_left_57, t_seen_57⟩ := u9
        have hP : va_P D vwCl [(a_t, .inr (2, [.int t_left_57, .int t_seen_57])), (a_p, .inr (4, [.int p_width, .int p_length, .int p_result, .int p_taskKind, .int p_taskDivisor, .ref a_p_operations, .ref a_p_firsts, .ref a_p_seconds])), (a_p_operations, .inl (ca 0, 40, .inl f_p_operations)), (a_p_firsts, .inl (ca 0, 40, .inl f_p_firsts)), (a_p_seconds, .inl (ca 0, 40, .inl f_p_seconds))] H := hP
        have hD : va_D A [(a_t, .inr (2, [.int t_left_57, .int t_seen_57])), (a_p, .inr (4, [.int p_width, .int p_length, .int p_result, .int p_taskKind, .int p_taskDivisor, .ref a_p_operations, .ref a_p_firsts, .ref a_p_seconds])), (a_p_operations, .inl (ca 0, 40, .inl f_p_operations)), (a_p_firsts, .inl (ca 0, 40, .inl f_p_firsts)), (a_p_seconds, .inl (ca 0, 40, .inl f_p_seconds))] := hD
        try dsimp only at h
        refine lv_aload_n hx hb dX2_charAt_60 rfl (lv_at hl 0 rfl) ?_
        refine va_get (D := D) (ci := 2) (v := .int t_seen_57) (C := RX2) (T := TX2) (N := 2) hx hb hq inX2g hown hK hP 0 rfl rfl 1 (by decide) (hq _ q_163) (fun _ h9 => h9) rfl dX2_charAt_61 ?_
        exact W.iret (v := t_seen_57) hx hb hr (fun t ht hW => ⟨⟨t_seen_57, (t_left_57, t_seen_57), rfl, h, by rw [ht]; exact hP, va_K.moved hW.alike hK, hD⟩, hS.F ht⟩) hS.2.2 dX2_charAt_64
      refine lv_icmp_ge (tgt := 40) hx hb dX2_charAt_17 (by decide) (fun c9 => ?_) (fun c9 => ?_)
      · have h := h.1 c9
        exact hJ40 _ _ _ hP hD hS (lv_sub hl [0, 1] rfl) h
      · have h := h.2 c9
        refine lv_aload_n hx hb dX2_charAt_20 rfl (lv_at hl 0 rfl) ?_
        refine va_get (D := D) (ci := 2) (v := .int t_seen_12) (C := RX2) (T := TX2) (N := 2) hx hb hq inX2g hown hK hP 0 rfl rfl 1 (by decide) (hq _ q_163) (fun _ h9 => h9) rfl dX2_charAt_21 ?_
        refine lv_iconst (v := (-1)) hx hb dX2_charAt_24 (by decide) ?_
        refine lv_icmp_ne (tgt := 40) hx hb dX2_charAt_25 (by decide) (fun c9 => ?_) (fun c9 => ?_)
        · have h := h.2 c9
          exact hJ40 _ _ _ hP hD hS (lv_sub hl [0, 1] rfl) h
        · have h := h.1 c9
          refine lv_aload_n hx hb dX2_charAt_28 rfl (lv_at hl 0 rfl) ?_
          refine lv_aload_n hx hb dX2_charAt_29 rfl (lv_at hl 1 rfl) ?_
          refine lv_iload_n hx hb dX2_charAt_30 rfl (lv_at hl 2 rfl) ?_
          refine cVvJ (As := [.ref a_p, .int x3_12]) (rest := []) (wc := [(a_t, .inr (2, [.int t_left_12, .int t_seen_12])), (a_p, .inr (4, [.int p_width, .int p_length, .int p_result, .int p_taskKind, .int p_taskDivisor, .ref a_p_operations, .ref a_p_firsts, .ref a_p_seconds])), (a_p_operations, .inl (ca 0, 40, .inl f_p_operations)), (a_p_firsts, .inl (ca 0, 40, .inl f_p_firsts)), (a_p_seconds, .inl (ca 0, 40, .inl f_p_seconds))]) (wr := []) (w1 := fun u : Int32 × Int32 => [(a_t, .inr (2, [.int u.1, .int u.2])), (a_p, .inr (4, [.int p_width, .int p_length, .int p_result, .int p_taskKind, .int p_taskDivisor, .ref a_p_operations, .ref a_p_firsts, .ref a_p_seconds])), (a_p_operations, .inl (ca 0, 40, .inl f_p_operations)), (a_p_firsts, .inl (ca 0, 40, .inl f_p_firsts)), (a_p_seconds, .inl (ca 0, 40, .inl f_p_seconds))]) (ws2 := fun u : Int32 × Int32 => [(a_t, .inr (2, [.int u.1, .int u.2])), (a_p, .inr (4, [.int p_width, .int p_length, .int p_result, .int p_taskKind, .int p_taskDivisor, .ref a_p_operations, .ref a_p_firsts, .ref a_p_seconds])), (a_p_operations, .inl (ca 0, 40, .inl f_p_operations)), (a_p_firsts, .inl (ca 0, 40, .inl f_p_firsts)), (a_p_seconds, .inl (ca 0, 40, .inl f_p_seconds))]) ⟨hx, hb, hml, hown, hts⟩ (mX2_passInstruction l D ca adK adV a_t a_p a_p_operations a_p_firsts a_p_seconds _ t_left_12 t_seen_12 p_width p_length p_result p_taskKind p_taskDivisor f_p_operations f_p_firsts f_p_seconds x3_12 _ h) (cwV 2 hts (gV q_657 q_659 qs_24 q_7 q_660) rfl rfl rfl (by decide +kernel) ⟨Nat.le_of_ble_eq_true rfl, Nat.le_of_ble_eq_true rfl⟩) hJ hK hP hD hS hA [0, 1, 2, 3, 4] [] [0, 1, 2, 3, 4] rfl rfl rfl (by decide) (fun _ => rfl) (ci := 2) (q0 := 0) rfl rfl rfl hl.1 rfl (Nat.le_of_ble_eq_true rfl) dX2_charAt_31 ⟨Nat.le_of_ble_eq_true rfl, Nat.le_of_ble_eq_true rfl⟩ (fun u9 H locs h hP hD hS => ?_)
          obtain ⟨t_left_31, t_seen_31⟩ := u9
          have hP : va_P D vwCl [(a_t, .inr (2, [.int t_left_31, .int t_seen_31])), (a_p, .inr (4, [.int p_width, .int p_length, .int p_result, .int p_taskKind, .int p_taskDivisor, .ref a_p_operations, .ref a_p_firsts, .ref a_p_seconds])), (a_p_operations, .inl (ca 0, 40, .inl f_p_operations)), (a_p_firsts, .inl (ca 0, 40, .inl f_p_firsts)), (a_p_seconds, .inl (ca 0, 40, .inl f_p_seconds))] H := hP
          have hD : va_D A [(a_t, .inr (2, [.int t_left_31, .int t_seen_31])), (a_p, .inr (4, [.int p_width, .int p_length, .int p_result, .int p_taskKind, .int p_taskDivisor, .ref a_p_operations, .ref a_p_firsts, .ref a_p_seconds])), (a_p_operations, .inl (ca 0, 40, .inl f_p_operations)), (a_p_firsts, .inl (ca 0, 40, .inl f_p_firsts)), (a_p_seconds, .inl (ca 0, 40, .inl f_p_seconds))] := hD
          try dsimp only at h
          obtain ⟨x3_34, ex3_34⟩ : ∃ y : Int32, y = x3_12 + 1 := ⟨_, rfl⟩
          have h := h x3_34 ex3_34
          refine lv_iinc (v := x3_34) (lv' := [(3, .int x3_34), (0, .ref a_t), (1, .ref a_p)]) hx hb dX2_charAt_34 hl (k := 2) rfl (by rw [ex3_34]; rfl) (by decide) rfl (fun ls hl => ?_)
          refine lv_goto (tgt := 12) hx hb dX2_charAt_37 (by decide) ?_
          exact ih12 x3_34 t_left_31 t_seen_31 _ _ _ hP hD hS (lv_sub hl [1, 2, 0] rfl) h
  obtain ⟨k9, h⟩ := h
  exact hL12 k9 0 x2 ((-1)) _ _ _ hP hD hS (lv_sub hl [1, 2, 0] rfl) h

abbrev qX8_listingChar (D : va_G) (ca : Nat → ClassId) (a_t a_t_generator a_t_program a_t_costs a_t_history a_t_machine a_t_tidier a_t_listing a_t_program_operations a_t_program_firsts a_t_program_seconds : Nat) (t_program_width : Int32) (t_program_length : Int32) (t_program_result : Int32) (t_program_taskKind : Int32) (t_program_taskDivisor : Int32) (f_t_program_operations : Nat → Int32) (f_t_program_firsts : Nat → Int32) (f_t_program_seconds : Nat → Int32) (Q : Int32 → Int32 → Int32 → Prop) (A : Nat → Prop) : Array Value → State → Outcome → State → Prop := va_Qi (fun (r : Int32) (u : Int32 × Int32) => Q r u.1 u.2) (wEnd D ca (fun u : Int32 × Int32 => [(a_t, .inr (6, [.ref a_t_generator, .ref a_t_program, .ref a_t_costs, .ref a_t_history, .ref a_t_machine, .ref a_t_tidier, .ref a_t_listing])), (a_t_program, .inr (4, [.int t_program_width, .int t_program_length, .int t_program_result, .int t_program_taskKind, .int t_program_taskDivisor, .ref a_t_program_operations, .ref a_t_program_firsts, .ref a_t_program_seconds])), (a_t_program_operations, .inl (ca 0, 40, .inl f_t_program_operations)), (a_t_program_firsts, .inl (ca 0, 40, .inl f_t_program_firsts)), (a_t_program_seconds, .inl (ca 0, 40, .inl f_t_program_seconds)), (a_t_listing, .inr (2, [.int u.1, .int u.2]))]) A) A
def wX8_listingChar (t_program_length : Int32) (t_program_result : Int32) (f_t_program_operations : Nat → Int32) (f_t_program_firsts : Nat → Int32) (f_t_program_seconds : Nat → Int32) (t_listing_left : Int32) (t_listing_seen : Int32) (x1 : Int32) (Q : Int32 → Int32 → Int32 → Prop) (QX : String → Prop) : Prop :=
  ((0 ≤ x1 → wX2_charAt t_listing_left t_listing_seen t_program_length t_program_result f_t_program_operations f_t_program_firsts f_t_program_seconds x1 (fun r_23 t_listing_left_23 t_listing_seen_23 => Q r_23 t_listing_left_23 t_listing_seen_23)) ∧ (¬ 0 ≤ x1 → QX xIO))
set_option maxHeartbeats 4000000 in
set_option maxRecDepth 100000 in
theorem mX8_listingChar (l : Launch) (hl0 : l.stackTraces = false) (D : va_G) (ca : Nat → ClassId) (adK adV : Nat → Nat) (a_t a_t_generator a_t_program a_t_costs a_t_history a_t_machine a_t_tidier a_t_listing a_t_program_operations a_t_program_firsts a_t_program_seconds : Nat) (sz : Nat) (t_program_width : Int32) (t_program_length : Int32) (t_program_result : Int32) (t_program_taskKind : Int32) (t_program_taskDivisor : Int32) (f_t_program_operations : Nat → Int32) (f_t_program_firsts : Nat → Int32) (f_t_program_seconds : Nat → Int32) (t_listing_left : Int32) (t_listing_seen : Int32) (x1 : Int32) (Q : Int32 → Int32 → Int32 → Prop) (QX : String → Prop) (h : wX8_listingChar t_program_length t_program_result f_t_program_operations f_t_program_firsts f_t_program_seconds t_listing_left t_listing_seen x1 Q QX) : vx_Met l yX8_listingChar (Cond.code yX8_listingChar cX8_listingChar 2 (some .int) :: wsG) ({ frames := 7, cells := 1, slots := 6, locals := 152 } : Room) (va_Pc [.ref a_t, .int x1] (xjPre D ca adK adV [(a_t, .inr (6, [.ref a_t_generator, .ref a_t_program, .ref a_t_costs, .ref a_t_history, .ref a_t_machine, .ref a_t_tidier, .ref a_t_listing])), (a_t_program, .inr (4, [.int t_program_width, .int t_program_length, .int t_program_result, .int t_program_taskKind, .int t_program_taskDivisor, .ref a_t_program_operations, .ref a_t_program_firsts, .ref a_t_program_seconds])), (a_t_program_operations, .inl (ca 0, 40, .inl f_t_program_operations)), (a_t_program_firsts, .inl (ca 0, 40, .inl f_t_program_firsts)), (a_t_program_seconds, .inl (ca 0, 40, .inl f_t_program_seconds)), (a_t_listing, .inr (2, [.int t_listing_left, .int t_listing_seen]))] sz)) (qX8_listingChar D ca a_t a_t_generator a_t_program a_t_costs a_t_history a_t_machine a_t_tidier a_t_listing a_t_program_operations a_t_program_firsts a_t_program_seconds t_program_width t_program_length t_program_result t_program_taskKind t_program_taskDivisor f_t_program_operations f_t_program_firsts f_t_program_seconds Q (va_A [(a_t, .inr (6, [.ref a_t_generator, .ref a_t_program, .ref a_t_costs, .ref a_t_history, .ref a_t_machine, .ref a_t_tidier, .ref a_t_listing])), (a_t_program, .inr (4, [.int t_program_width, .int t_program_length, .int t_program_result, .int t_program_taskKind, .int t_program_taskDivisor, .ref a_t_program_operations, .ref a_t_program_firsts, .ref a_t_program_seconds])), (a_t_program_operations, .inl (ca 0, 40, .inl f_t_program_operations)), (a_t_program_firsts, .inl (ca 0, 40, .inl f_t_program_firsts)), (a_t_program_seconds, .inl (ca 0, 40, .inl f_t_program_seconds)), (a_t_listing, .inr (2, [.int t_listing_left, .int t_listing_seen]))] sz)) (xEnd D ca [(a_t, .inr (6, [.ref a_t_generator, .ref a_t_program, .ref a_t_costs, .ref a_t_history, .ref a_t_machine, .ref a_t_tidier, .ref a_t_listing])), (a_t_program, .inr (4, [.int t_program_width, .int t_program_length, .int t_program_result, .int t_program_taskKind, .int t_program_taskDivisor, .ref a_t_program_operations, .ref a_t_program_firsts, .ref a_t_program_seconds])), (a_t_program_operations, .inl (ca 0, 40, .inl f_t_program_operations)), (a_t_program_firsts, .inl (ca 0, 40, .inl f_t_program_firsts)), (a_t_program_seconds, .inl (ca 0, 40, .inl f_t_program_seconds)), (a_t_listing, .inr (2, [.int t_listing_left, .int t_listing_seen]))] QX (va_A [(a_t, .inr (6, [.ref a_t_generator, .ref a_t_program, .ref a_t_costs, .ref a_t_history, .ref a_t_machine, .ref a_t_tidier, .ref a_t_listing])), (a_t_program, .inr (4, [.int t_program_width, .int t_program_length, .int t_program_result, .int t_program_taskKind, .int t_program_taskDivisor, .ref a_t_program_operations, .ref a_t_program_firsts, .ref a_t_program_seconds])), (a_t_program_operations, .inl (ca 0, 40, .inl f_t_program_operations)), (a_t_program_firsts, .inl (ca 0, 40, .inl f_t_program_firsts)), (a_t_program_seconds, .inl (ca 0, 40, .inl f_t_program_seconds)), (a_t_listing, .inr (2, [.int t_listing_left, .int t_listing_seen]))] sz)) 1 6 (va_A [(a_t, .inr (6, [.ref a_t_generator, .ref a_t_program, .ref a_t_costs, .ref a_t_history, .ref a_t_machine, .ref a_t_tidier, .ref a_t_listing])), (a_t_program, .inr (4, [.int t_program_width, .int t_program_length, .int t_program_result, .int t_program_taskKind, .int t_program_taskDivisor, .ref a_t_program_operations, .ref a_t_program_firsts, .ref a_t_program_seconds])), (a_t_program_operations, .inl (ca 0, 40, .inl f_t_program_operations)), (a_t_program_firsts, .inl (ca 0, 40, .inl f_t_program_firsts)), (a_t_program_seconds, .inl (ca 0, 40, .inl f_t_program_seconds)), (a_t_listing, .inr (2, [.int t_listing_left, .int t_listing_seen]))] sz) := by
  refine vx_ofW (cc := cX8_listingChar) (maxL := 2) (ret := (some .int)) (by decide) rfl ?_
  intro p e s m args below meth c s₁ B hml htab hv
  obtain ⟨rfl, ⟨hsz, hP, hK, hD0⟩, hX, hJ⟩ := hv
  have hx := B.exec
  have hb := B.bytes
  have hr := B.returns
  have hts := atoms_spec (ws := (Cond.code yX8_listingChar cX8_listingChar 2 (some .int) :: wsG)) B.pre
  have hq : ∀ w ∈ wsG, w.before _ s = true := fun w hw => hts w (List.mem_cons_of_mem _ hw)
  have hown : s.vm.findClass RX8 = some m.cls := findClass_of_methodNamed B.named
  have hlocks := B.notSynchronized
  subst hsz
  have hD := hD0.self (sz := s.heap.size)
  generalize hAe : va_A [(a_t, .inr (6, [.ref a_t_generator, .ref a_t_program, .ref a_t_costs, .ref a_t_history, .ref a_t_machine, .ref a_t_tidier, .ref a_t_listing])), (a_t_program, .inr (4, [.int t_program_width, .int t_program_length, .int t_program_result, .int t_program_taskKind, .int t_program_taskDivisor, .ref a_t_program_operations, .ref a_t_program_firsts, .ref a_t_program_seconds])), (a_t_program_operations, .inl (ca 0, 40, .inl f_t_program_operations)), (a_t_program_firsts, .inl (ca 0, 40, .inl f_t_program_firsts)), (a_t_program_seconds, .inl (ca 0, 40, .inl f_t_program_seconds)), (a_t_listing, .inr (2, [.int t_listing_left, .int t_listing_seen]))] s.heap.size = A at hD hX hJ ⊢
  have hA : ∀ q : Nat, s.heap.size ≤ q → A q := fun q h => by rw [← hAe]; exact Or.inr h
  have hS : va_S A s.heap s.heap [] := va_S.rf
  have hP : va_P D vwCl [(a_t, .inr (6, [.ref a_t_generator, .ref a_t_program, .ref a_t_costs, .ref a_t_history, .ref a_t_machine, .ref a_t_tidier, .ref a_t_listing])), (a_t_program, .inr (4, [.int t_program_width, .int t_program_length, .int t_program_result, .int t_program_taskKind, .int t_program_taskDivisor, .ref a_t_program_operations, .ref a_t_program_firsts, .ref a_t_program_seconds])), (a_t_program_operations, .inl (ca 0, 40, .inl f_t_program_operations)), (a_t_program_firsts, .inl (ca 0, 40, .inl f_t_program_firsts)), (a_t_program_seconds, .inl (ca 0, 40, .inl f_t_program_seconds)), (a_t_listing, .inr (2, [.int t_listing_left, .int t_listing_seen]))] s.heap := hP
  have hl := lv_entry ([.ref a_t, .int x1]) (n := 2) (Nat.le_of_ble_eq_true rfl)
  rw [lg_entry_eq]
  generalize (lg_sl ([.ref a_t, .int x1]) ++ List.replicate (2 - (lg_sl ([.ref a_t, .int x1])).length) Slot.unset).toArray = ls at hl ⊢
  have hl : lv_has ls 2 [(0, .ref a_t), (1, .int x1)] := hl
  unfold wX8_listingChar at h
  refine lv_iload_n hx hb dX8_listingChar_0 rfl (lv_at hl 1 rfl) ?_
  refine lv_if_ge (tgt := 14) hx hb dX8_listingChar_1 (by decide) (fun c9 => ?_) (fun c9 => ?_)
  · have h := h.1 c9
    refine lv_aload_n hx hb dX8_listingChar_14 rfl (lv_at hl 0 rfl) ?_
    refine va_get (D := D) (ci := 6) (v := .ref a_t_listing) (C := RX8) (T := TX8) (N := 7) hx hb hq inX8g hown hK hP 0 rfl rfl 6 (by decide) (hq _ q_175) (fun _ h9 => h9) rfl dX8_listingChar_15 ?_
    refine lv_aload_n hx hb dX8_listingChar_18 rfl (lv_at hl 0 rfl) ?_
    refine va_get (D := D) (ci := 6) (v := .ref a_t_program) (C := RX8) (T := TX8) (N := 7) hx hb hq inX8g hown hK hP 0 rfl rfl 1 (by decide) (hq _ q_170) (fun _ h9 => h9) rfl dX8_listingChar_19 ?_
    refine lv_iload_n hx hb dX8_listingChar_22 rfl (lv_at hl 1 rfl) ?_
    refine cViJ (As := [.ref a_t_program, .int x1]) (rest := []) (wc := [(a_t_listing, .inr (2, [.int t_listing_left, .int t_listing_seen])), (a_t_program, .inr (4, [.int t_program_width, .int t_program_length, .int t_program_result, .int t_program_taskKind, .int t_program_taskDivisor, .ref a_t_program_operations, .ref a_t_program_firsts, .ref a_t_program_seconds])), (a_t_program_operations, .inl (ca 0, 40, .inl f_t_program_operations)), (a_t_program_firsts, .inl (ca 0, 40, .inl f_t_program_firsts)), (a_t_program_seconds, .inl (ca 0, 40, .inl f_t_program_seconds))]) (wr := [(a_t, .inr (6, [.ref a_t_generator, .ref a_t_program, .ref a_t_costs, .ref a_t_history, .ref a_t_machine, .ref a_t_tidier, .ref a_t_listing]))]) (w1 := fun u : Int32 × Int32 => [(a_t_listing, .inr (2, [.int u.1, .int u.2])), (a_t_program, .inr (4, [.int t_program_width, .int t_program_length, .int t_program_result, .int t_program_taskKind, .int t_program_taskDivisor, .ref a_t_program_operations, .ref a_t_program_firsts, .ref a_t_program_seconds])), (a_t_program_operations, .inl (ca 0, 40, .inl f_t_program_operations)), (a_t_program_firsts, .inl (ca 0, 40, .inl f_t_program_firsts)), (a_t_program_seconds, .inl (ca 0, 40, .inl f_t_program_seconds))]) (ws2 := fun u : Int32 × Int32 => [(a_t, .inr (6, [.ref a_t_generator, .ref a_t_program, .ref a_t_costs, .ref a_t_history, .ref a_t_machine, .ref a_t_tidier, .ref a_t_listing])), (a_t_program, .inr (4, [.int t_program_width, .int t_program_length, .int t_program_result, .int t_program_taskKind, .int t_program_taskDivisor, .ref a_t_program_operations, .ref a_t_program_firsts, .ref a_t_program_seconds])), (a_t_program_operations, .inl (ca 0, 40, .inl f_t_program_operations)), (a_t_program_firsts, .inl (ca 0, 40, .inl f_t_program_firsts)), (a_t_program_seconds, .inl (ca 0, 40, .inl f_t_program_seconds)), (a_t_listing, .inr (2, [.int u.1, .int u.2]))]) ⟨hx, hb, hml, hown, hts⟩ (mX2_charAt l D ca adK adV a_t_listing a_t_program a_t_program_operations a_t_program_firsts a_t_program_seconds _ t_listing_left t_listing_seen t_program_width t_program_length t_program_result t_program_taskKind t_program_taskDivisor f_t_program_operations f_t_program_firsts f_t_program_seconds x1 _ h) (cwV 2 hts (gV q_653 q_654 q_655 q_7 q_656) rfl rfl rfl (by decide +kernel) ⟨Nat.le_of_ble_eq_true rfl, Nat.le_of_ble_eq_true rfl⟩) hJ hK hP hD hS hA [5, 1, 2, 3, 4] [0] [0, 2, 3, 4, 5, 1] rfl rfl rfl (by decide) (fun _ => rfl) (ci := 2) (q0 := 5) rfl rfl rfl hl.1 rfl (Nat.le_of_ble_eq_true rfl) dX8_listingChar_23 ⟨Nat.le_of_ble_eq_true rfl, Nat.le_of_ble_eq_true rfl⟩ (fun r_23 u9 H locs h hP hD hS => ?_)
    obtain ⟨t_listing_left_23, t_listing_seen_23⟩ := u9
    have hP : va_P D vwCl [(a_t, .inr (6, [.ref a_t_generator, .ref a_t_program, .ref a_t_costs, .ref a_t_history, .ref a_t_machine, .ref a_t_tidier, .ref a_t_listing])), (a_t_program, .inr (4, [.int t_program_width, .int t_program_length, .int t_program_result, .int t_program_taskKind, .int t_program_taskDivisor, .ref a_t_program_operations, .ref a_t_program_firsts, .ref a_t_program_seconds])), (a_t_program_operations, .inl (ca 0, 40, .inl f_t_program_operations)), (a_t_program_firsts, .inl (ca 0, 40, .inl f_t_program_firsts)), (a_t_program_seconds, .inl (ca 0, 40, .inl f_t_program_seconds)), (a_t_listing, .inr (2, [.int t_listing_left_23, .int t_listing_seen_23]))] H := hP
    have hD : va_D A [(a_t, .inr (6, [.ref a_t_generator, .ref a_t_program, .ref a_t_costs, .ref a_t_history, .ref a_t_machine, .ref a_t_tidier, .ref a_t_listing])), (a_t_program, .inr (4, [.int t_program_width, .int t_program_length, .int t_program_result, .int t_program_taskKind, .int t_program_taskDivisor, .ref a_t_program_operations, .ref a_t_program_firsts, .ref a_t_program_seconds])), (a_t_program_operations, .inl (ca 0, 40, .inl f_t_program_operations)), (a_t_program_firsts, .inl (ca 0, 40, .inl f_t_program_firsts)), (a_t_program_seconds, .inl (ca 0, 40, .inl f_t_program_seconds)), (a_t_listing, .inr (2, [.int t_listing_left_23, .int t_listing_seen_23]))] := hD
    try dsimp only at h
    refine W.widen (k := 1) (n := 6) (Nat.le_of_ble_eq_true rfl) (Nat.le_of_ble_eq_true rfl) ?_
    refine vx_ret ?_
    exact W.iret (v := r_23) hx hb hr (fun t ht hW => ⟨⟨r_23, (t_listing_left_23, t_listing_seen_23), rfl, h, by rw [ht]; exact hP, va_K.moved hW.alike hK, hD⟩, hS.F ht⟩) hS.2.2 dX8_listingChar_26
  · have h := h.2 c9
    exact x_throw (nmx := xIO) (text := "the index is negative") hx hb hl0 hown hX (by decide) (by decide) (hq _ q_364) (hq _ q_15) (xh_IO hq hX.2.2.2.2.1 hX.2.2.2.2.2.1) xg_IO hS (hl.1.trans hml.symm) dX8_listingChar_4 dX8_listingChar_7 dX8_listingChar_8 dX8_listingChar_10 dX8_listingChar_13 htab (Nat.le_of_ble_eq_true rfl) (Nat.le_of_ble_eq_true rfl) (Nat.le_of_ble_eq_true rfl) (Nat.le_of_ble_eq_true rfl) hlocks (fun t hvm h1 h2 => ⟨(), trivial, ⟨h, fun k q h3 => (hP k q h3).kept (h2 q.1 (hP k q h3).lt), va_K.moved hvm hK, hD⟩, ⟨Nat.le_trans hS.1 h1, fun q h3 h4 => (h2 q (Nat.lt_of_lt_of_le h3 hS.1)).trans (hS.2.1 q h3 h4)⟩⟩) hS.2.2 (Nat.le_of_ble_eq_true rfl) (Nat.le_of_ble_eq_true rfl)
