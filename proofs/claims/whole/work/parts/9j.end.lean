/-! the start, and the claim -/
theorem nm0 : nmR (upd (upd (upd (upd (upd (upd (upd (upd (upd (upd (upd (upd (upd (upd (upd (upd (upd (upd (upd (upd (upd (upd (upd (upd (upd (upd (upd (upd (upd (upd (upd (upd (upd (upd (upd (upd (upd (upd (upd (upd (upd (upd (upd (upd (upd (upd (upd (upd (upd (upd (upd (upd (upd (upd (upd (upd (upd (upd (upd (upd (upd (upd (upd (upd (upd (upd (upd (upd (fun _ => 0) 0 (vp_nar .char 115)) 1 (vp_nar .char 104)) 2 (vp_nar .char 108)) 3 (vp_nar .char 59)) 4 (vp_nar .char 115)) 5 (vp_nar .char 104)) 6 (vp_nar .char 114)) 7 (vp_nar .char 59)) 8 (vp_nar .char 115)) 9 (vp_nar .char 97)) 10 (vp_nar .char 114)) 11 (vp_nar .char 59)) 12 (vp_nar .char 97)) 13 (vp_nar .char 100)) 14 (vp_nar .char 100)) 15 (vp_nar .char 59)) 16 (vp_nar .char 115)) 17 (vp_nar .char 117)) 18 (vp_nar .char 98)) 19 (vp_nar .char 59)) 20 (vp_nar .char 109)) 21 (vp_nar .char 117)) 22 (vp_nar .char 108)) 23 (vp_nar .char 59)) 24 (vp_nar .char 109)) 25 (vp_nar .char 117)) 26 (vp_nar .char 108)) 27 (vp_nar .char 104)) 28 (vp_nar .char 117)) 29 (vp_nar .char 59)) 30 (vp_nar .char 109)) 31 (vp_nar .char 117)) 32 (vp_nar .char 108)) 33 (vp_nar .char 104)) 34 (vp_nar .char 115)) 35 (vp_nar .char 59)) 36 (vp_nar .char 97)) 37 (vp_nar .char 110)) 38 (vp_nar .char 100)) 39 (vp_nar .char 59)) 40 (vp_nar .char 120)) 41 (vp_nar .char 111)) 42 (vp_nar .char 114)) 43 (vp_nar .char 59)) 44 (vp_nar .char 114)) 45 (vp_nar .char 111)) 46 (vp_nar .char 114)) 47 (vp_nar .char 59)) 48 (vp_nar .char 108)) 49 (vp_nar .char 101)) 50 (vp_nar .char 117)) 51 (vp_nar .char 59)) 52 (vp_nar .char 32)) 53 (vp_nar .char 61)) 54 (vp_nar .char 32)) 55 (vp_nar .char 59)) 56 (vp_nar .char 44)) 57 (vp_nar .char 32)) 58 (vp_nar .char 59)) 59 (vp_nar .char 114)) 60 (vp_nar .char 101)) 61 (vp_nar .char 116)) 62 (vp_nar .char 117)) 63 (vp_nar .char 114)) 64 (vp_nar .char 110)) 65 (vp_nar .char 32)) 66 (vp_nar .char 118)) 67 (vp_nar .char 59)) := by
  unfold nmR
  decide +kernel
theorem I0_ok : lawI0 Rel := by
  refine ⟨by decide, fun j hj => ?_, nm0, ⟨rfl, rfl⟩, (8, 0, 0, -1, 0, fun _ => (0, (true, 0), (true, 0))), 0, 0, fun _ => (8, 0, 0, -1, 0, fun _ => (0, (true, 0), (true, 0))), ?_, ?_, ?_, by decide, by decide, fun e he => absurd he (Nat.not_lt_zero _), ⟨rfl, rfl, fun e j he => absurd he (Nat.not_lt_zero _)⟩, ⟨rfl, fun e he => absurd he (Nat.not_lt_zero _)⟩⟩
  · have h3 : j = 0 ∨ j = 1 ∨ j = 2 := by omega
    rcases h3 with rfl | rfl | rfl
    · exact ⟨3, by decide, by decide, by decide, by decide⟩
    · exact ⟨5, by decide, by decide, by decide, by decide⟩
    · exact ⟨1, by decide, by decide, by decide, by decide⟩
  · exact ⟨by decide, by decide, by decide, by decide, Or.inl rfl, fun i hi => absurd hi (Nat.not_lt_zero _)⟩
  · exact ⟨by decide, by decide, by decide, by decide, fun c => absurd rfl c, fun i hi => absurd hi (Nat.not_lt_zero _)⟩
  · exact ⟨by decide, by decide, by decide, by decide, fun c => absurd rfl c, fun i hi => absurd hi (Nat.not_lt_zero _)⟩

set_option maxHeartbeats 1000000 in
theorem OK_all {L : Nat} {xs : Nat → Int32} (hL : L ≤ 3072) (aP : Nat → Nat) : lawOK L xs aP Rel := by
  intro i t_generator_input t_program_width t_program_length t_program_result t_program_taskKind t_program_taskDivisor f_t_program_operations f_t_program_firsts f_t_program_seconds f_t_costs t_history_next t_history_kept f_t_machine_values f_t_machine_depths f_t_tidier_newNumbers f_t_tidier_needed t_listing_left t_listing_seen sW sL sR sK sD sO sF sS k_edits k_thrown k_outs f_k_v f_k_past f_k_costs f_k_into f_k_isNeeded f_k_depths f_k_names f_k_out f_k_has f_out h0 h6 hR
  exact ⟨s_0 hL h0 h6 hR, s_1 hL h0 h6 hR, s_2 hL h0 h6 hR, s_3 hL h0 h6 hR, s_4 hL h0 h6 hR, s_5 hL h0 h6 hR, s_6 hL h0 h6 hR, s_7 hL h0 h6 hR, s_8 hL h0 h6 hR, s_9 hL h0 h6 hR, s_10 hL h0 h6 hR, s_11 hL h0 h6 hR, s_12 hL h0 h6 hR, s_13 hL h0 h6 hR, s_14 hL h0 h6 hR, s_15 hL h0 h6 hR, s_16 hL h0 h6 hR, s_17 hL h0 h6 hR, s_18 hL h0 h6 hR, s_19 hL h0 h6 hR, s_20 hL h0 h6 hR, s_21 hL h0 h6 hR, s_22 hL h0 h6 hR, s_23 hL h0 h6 hR, s_24 hL h0 h6 hR, s_25 hL h0 h6 hR, s_26 hL h0 h6 hR, s_27 hL h0 h6 hR, s_28 hL h0 h6 hR, s_29 hL h0 h6 hR, s_30 hL h0 h6 hR, s_31 hL h0 h6 hR, s_32 hL h0 h6 hR, s_33 hL h0 h6 hR⟩
theorem whole_start {p : Program} {e : Env} {s : State} {m : MethodId} {below : List Frame} {meth : Method} {c : Code} (l : Launch) (hflags : l.flags = flags0) {b L : Nat} {xs : Nat → Int32} (hL : L ≤ 3072) (C0 : lw_At p s m meth c b L xs) : W p l e room_1 s m #[Value.ref b] below meth c s.heap [] 0 0 (lw_Z below #[Value.ref b] s) (entryFrame m ([Value.ref b] : List Value).toArray 8) :=
  law_start l hflags hL C0 Rel I0_ok (fun aP => OK_all hL aP)
set_option maxHeartbeats 4000000 in
theorem lw_walk (l : Launch) (hflags : l.flags = flags0) (b : Addr) (xs : List Int32) : MetFree l x (headSpec (Jvm.Cond.code x code maxLocals ret :: tables_1) room_1) (lw_P b xs) (fun _ _ _ _ _ => True) lw_Q := by
  refine MetFree.of_bodyS (code := code) (maxLocals := maxLocals) (ret := ret) (by decide) ?_ ?_
  · intro args s m h hn
    obtain ⟨meth, c, h1, h2, h3, h4, h5, h6, -, -⟩ := Cond.code_spec hn (atoms_spec (ws := Jvm.Cond.code x code maxLocals ret :: tables_1) h _ List.mem_cons_self)
    exact ⟨meth, c, h1, h2, h3, h4, h5, h6⟩
  · intro p e s m args below meth c s₁ B hml0 hP _
    obtain ⟨rfl, hx, hbd, hgv⟩ := hP
    obtain ⟨scr, harrAt, hlist, hof, hsmall⟩ := hx
    obtain ⟨hcb, hkn, -, -⟩ := State.arrayAt?_spec harrAt
    have hown : s.vm.findClass R_law = some m.cls := findClass_of_methodNamed B.named
    have hts0 : ∀ c ∈ (Jvm.Cond.code x code maxLocals ret :: tables_1), c.before #[Value.ref b] s = true := atoms_spec (ws := Jvm.Cond.code x code maxLocals ret :: tables_1) B.pre
    have hts : ∀ w ∈ lw_tbl, w.before #[Value.ref b] s = true := k2_hts_sels lw_privs (fun w hw => hts0 w (List.mem_cons_of_mem _ hw)) lw_privs_ok
    have hml : c.maxLocals = 8 := B.maxLocals_eq (hts0 _ List.mem_cons_self)
    have X₀ : Stand p l e room_1 s m #[Value.ref b] below meth c s₁ [] 0 0 := Stand.of_body B
    have hh0 : s₁.heap = s.heap := by rw [B.state]; rfl
    have hsz : scr.slots.size = xs.length := by rw [← Array.length_toList, hlist, List.length_map]
    have hval : ∀ j : Nat, j < xs.length → scr.slots[j]? = some (.int (xs.getD j 0)) := fun j hj => by
      rw [← Array.getElem?_toList, hlist]
      simp [hj]
    have hbl : b < s.heap.size := (Array.getElem?_eq_some_iff.mp hcb).1
    have hX : va_X b xs.length (fun j => xs.getD j 0) s s.heap := ⟨scr, hcb, hof, hkn, hsz, hval⟩
    have K : W p l e room_1 s m #[Value.ref b] below meth c s₁.heap [] 0 0 (lw_Z below #[Value.ref b] s) (entryFrame m ([Value.ref b] : List Value).toArray 8) := by
      rw [hh0]
      exact whole_start l hflags hbd ⟨B.exec, B.bytes, B.returns, hml, hown, hts, hX, hbl, B.notSynchronized, hgv⟩
    obtain ⟨t, a1, o, b1, b2, b3⟩ := K s₁ rfl X₀
    exact ⟨t, o, a1, b1, b2, b3⟩
theorem lw_pre_spec {args : Array Value} {s : State} (h : (Jvm.Cond.and given_1 narrow_1).before args s = true) (hr : rest_1_c.before args s = true) : ∃ (b : Addr) (xs : List Int32), lw_P b xs args s := by
  have hs := flat_of_before _ h
  have hq := flat_of_before _ hr
  have hc : (Cond.count 1).before args s = true := hs _ (by decide +kernel)
  have harr : (Cond.arrayOf (.arg 0) .int).before args s = true := hs _ (by decide +kernel)
  have hle : (Cond.le (.length (.arg 0)) (.int 3072)).before args s = true := hs _ (by decide +kernel)
  have hlen : (Cond.isInt (.length (.arg 0))).before args s = true := hq _ (by decide +kernel)
  have hall : (Cond.all (.arg 0) (.isInt (.elem (.arg 0) (.index 0)))).before args s = true := hq _ (by decide +kernel)
  obtain ⟨b, xs, hb, hx⟩ := State.ints_of_pre rfl harr hlen hall
  have hsm : xs.length < 2 ^ 31 := hx.choose_spec.2.2.2
  have hev : (Term.length (.arg 0)).eval args s none [] s = some (.int xs.length.toInt32) := hx.length_eval hb
  have hv := Cond.le_ints hev (show (Term.int 3072).eval args s none [] s = some (.int 3072) from rfl)
  have hd : xs.length.toInt32 ≤ 3072 := by
    simpa [Cond.before, Cond.holds, hv] using hle
  have hN : xs.length ≤ 3072 := (Int32.ofNat_le_ofNat hsm (by decide)).mp (show Int32.ofNat xs.length ≤ Int32.ofNat 3072 from hd)
  exact ⟨b, xs, Cond.one_arg hc (show args[0]? = some (.ref b) from hb), hx, hN, h⟩
theorem lw_comes (l : Launch) (hflags : l.flags = flags0) : Comes l x (Jvm.Cond.code x code maxLocals ret :: tables_1) room_1 (fun tb e args s => Calls_1 tb e args s ∧ rest_1 tb e args s ∧ Pre_1 tb e args s)
    (fun _ _ args s o t => lw_Q args s o t) := by
  intro p e ha hc hk s m args below hf hfit hheap happ hpre
  obtain ⟨b, xs, hP⟩ := lw_pre_spec hpre.2.2 hpre.2.1
  obtain ⟨k, o, h1, h2, h3, hQ⟩ := lw_walk l hflags b xs p e ha hc hk s m args below hf ((Spec.applies_iff_loose hf).mp happ).1 hP trivial
  exact ⟨k, o, h1, h2, h3, hQ⟩
theorem lw_frame {s t : State} {o : Outcome} {args : Array Value} (h : State.butDraws s t lw_cs (fun t1 => Framed s o t1 [] 601024 7293034)) :
    State.butDraws s t [Jvm.Choice.named "NaN.bits"] (fun t1 => Framed s o t1 (fieldLocs frame_1_writes args s ++ arrayLocs frame_1_arrays args s ++ staticLocs frame_1_statics s) 601024 7293034) := h
theorem lw_limb (L : Cond) (hL : ∀ (args : Array Value) (s t : State), L.after args s (.returned (some (.int 1))) t = true) :
    ArmFor flags0 classFile x code maxLocals ret World_1 tables_1 room_1 Calls_1 rest_1 Pre_1
      (fun tb e a s o t => postC L tb e a s o t ∧ State.butDraws s t [Jvm.Choice.named "NaN.bits"] (fun t1 => Framed s o t1 (fieldLocs frame_1_writes a s ++ arrayLocs frame_1_arrays a s ++ staticLocs frame_1_statics s) 601024 7293034)) := by
  intro l hflags _ _ p e ha hc hk s m args below hf hfit hheap happ hpre
  obtain ⟨k, o, h1, h2, h3, rfl, hF⟩ := lw_comes l hflags p e ha hc hk s m args below hf hfit hheap happ hpre
  exact ⟨k, _, h1, h2, h3, hL args s _, lw_frame hF⟩
theorem i_vc : Claimed_1_1 ∧ Claimed_1_2 := ⟨lw_limb limb_1_1 (fun args s t => by simp [limb_1_1, Cond.after, Cond.holds, Cond.value]), lw_limb limb_1_2 (fun args s t => Cond.after_iff.mpr (by
  first | (rw [show limb_1_2 = Cond.eq .result (.int 1) from rfl, Cond.eq_ints (x := 1) (y := 1) rfl rfl]; simp; done) | (simp [limb_1_2, Cond.value, Term.eval]; done)))⟩
