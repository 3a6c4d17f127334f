def R_law : String := "ConstantDividerLaw"
def lw_P (b : Addr) (xs : List Int32) (args : Array Value) (s : State) : Prop := args = #[.ref b] ∧ s.IntsAt b xs ∧ xs.length ≤ 3072 ∧ (Jvm.Cond.and given_1 narrow_1).before args s = true
/-- what a walk over the start with the record d0 says of its end, said of the start itself -/
theorem lw_closed {s t : State} {o : Outcome} {d0 : Drawn} {L : List Loc} {k n : Nat} (hd0 : s.drawn.sameBut d0 lw_cs) (hv : ∃ v, o = .returned v) (hW : (s.setDrawn d0).WarmedH t.vm) (hs : (s.setDrawn d0).sameButNew ({ t with vm := s.vm } : State) L k n) : State.butDraws s t lw_cs (fun t1 => Framed s o t1 L k n) := by
  have h2 : t.drawn = d0 := congrArg State.drawn hs.1
  refine ⟨⟨hv, hW, State.sameButNew.setDrawn hs s.drawn⟩, ?_, by decide⟩
  rw [h2]
  exact hd0
def lw_Q (_ : Array Value) (s : State) (o : Outcome) (t : State) : Prop := o = .returned (some (.int 1)) ∧ State.butDraws s t lw_cs (fun t1 => Framed s o t1 [] 601024 7293034)
def lw_Z (below : List Frame) (a : Array Value) (s : State) : State → Prop := fun t => ∃ o, t.status = .running ∧ Ended t below o ∧ lw_Q a s o t
/-- the law's own end, with 1 on the stack, nothing written that was there before, its room as the claim has it; d0: the record of draws at this point (at the entry s.drawn: begin with 'refine W.base ?_' and 'have hd0 := Drawn.sameBut.refl s.drawn lw_cs') -/
theorem lw_ret {p : Program} {l : Launch} {e : Env} {s : State} {m : MethodId} {below : List Frame} {meth : Method} {c : Code} {b : Nat} {d0 : Drawn} (hd0 : s.drawn.sameBut d0 lw_cs) (hx : p.tables.exec = Jvm.exec) (hb : c.code = code) (hr : meth.sig.returnType = ret) (hlocks : meth.locks = false) {pc : Nat} {H : Heap} {ls : Array Slot} (hdg : decode code pc = .ok (.ireturn, 1)) : W p l e room_1 (s.setDrawn d0) m #[Value.ref b] below meth c H [] 601024 7293034 (lw_Z below #[Value.ref b] s) (F0 m pc ls [.int 1]) := by
  intro T hT X
  obtain ⟨fs, hret, hrun, hended, hW, hframe⟩ := X.leave (v := some (.int 1)) (hlocks := hlocks) (fun h => by rw [hr] at h; cases h)
  have hmeth' : T.vm.method? m = some meth := X.method'
  refine ⟨T.setFrames fs, ?_, .returned (some (.int 1)), hrun, hended, rfl, lw_closed hd0 ⟨_, rfl⟩ hW hframe⟩
  jvm_step X.here [X.here.top, hx, hb, hdg, hmeth', hr, ret, narrow_b1]
  (try refine ⟨rfl, ?_⟩); (try refine ⟨rfl, ?_⟩)
  first | (intro acts; rw [hret _ acts rfl rfl rfl]) | rw [hret _ _ rfl rfl rfl]
  exact Steps.refl _
/-- what holds at the law's entry: the machine, the code, the tables' words (any of lw_tbl by 'hts w (by decide +kernel)'), the script of L ints xs at the cell b, what the Statement gives of the start (any of its parts by flat_of_before) -/
def lw_At (p : Program) (s : State) (m : MethodId) (meth : Method) (c : Code) (b L : Nat) (xs : Nat → Int32) : Prop :=
  p.tables.exec = Jvm.exec ∧ c.code = code ∧ meth.sig.returnType = ret ∧ c.maxLocals = 8 ∧ s.vm.findClass R_law = some m.cls ∧ (∀ w ∈ lw_tbl, w.before #[Value.ref b] s = true) ∧ va_X b L xs s s.heap ∧ b < s.heap.size ∧ meth.locks = false ∧ (Jvm.Cond.and given_1 narrow_1).before #[Value.ref b] s = true
/-! the law itself -/
theorem gdt {w : Cond} (h : w ∈ wsG) : w ∈ lw_tbl ∧ ((w.onTables && w.keeps) = true ∨ ∃ ty, w = .arrayClass ty) := ⟨wsG_tbl h, good_of_word (wsG_good h)⟩
theorem gVt {own C : String} {idx maxL : Nat} {y : MethodName} {bytes : ByteArray} {ret : Option FieldType} (h1 : Cond.methodLink own idx y ∈ wsG) (h2 : Cond.instanceMethod y ∈ wsG) (h3 : Cond.selects C y y ∈ wsG) (h4 : Cond.initialized C ∈ wsG) (h5 : Cond.code y bytes maxL ret ∈ wsG) : GoodIn lw_tbl (wsV own idx C y (Cond.code y bytes maxL ret :: wsG)) := by
  intro w hw
  simp only [wsV, List.cons_append, List.nil_append, List.mem_cons] at hw
  rcases hw with rfl | rfl | rfl | rfl | rfl | hw
  · exact gdt h1
  · exact gdt h2
  · exact gdt h3
  · exact gdt h4
  · exact gdt h5
  · exact gdt hw
theorem gSWt {own : String} {idx maxL : Nat} {y : MethodName} {bytes : ByteArray} {ret : Option FieldType} {hh : List (Nat × Nat × Nat × Nat)} (h1 : Cond.methodLink own idx y ∈ wsG) (h2 : Cond.static y ∈ wsG) (h4 : Cond.initialized y.cls ∈ wsG) (h5 : Cond.codeWith y bytes maxL ret hh ∈ wsG) : GoodIn lw_tbl (va_wsS own idx y (Cond.codeWith y bytes maxL ret hh :: wsG)) := by
  intro w hw
  simp only [va_wsS, List.cons_append, List.nil_append, List.mem_cons] at hw
  rcases hw with rfl | rfl | rfl | rfl | hw
  · exact gdt h1
  · exact gdt h2
  · exact gdt h4
  · exact gdt h5
  · exact gdt hw
theorem gIt {maxL : Nat} {y : MethodName} {bytes : ByteArray} {ret : Option FieldType} (h5 : Cond.code y bytes maxL ret ∈ wsG) : GoodIn lw_tbl (Cond.code y bytes maxL ret :: wsG) := by
  intro w hw
  rcases List.mem_cons.mp hw with rfl | hw
  · exact gdt h5
  · exact gdt hw
section LawCalls
variable {p : Program} {l : Launch} {e : Env} {R : Room} {s : State} {m : MethodId} {args : Array Value} {below : List Frame} {meth : Method} {c : Code} {H : Heap} {locs : List Loc} {cells slots : Nat} {Q : State → Prop}
variable {y : MethodName} {bytes cc : ByteArray} {maxL nL n index : Nat} {ret : Option FieldType} {hh : List (Nat × Nat × Nat × Nat)} {wsy : List Cond} {rm : Room} {Ts : List Cond} {own : String} {As rest st0 : List Value} {pc : Nat} {ls : Array Slot}
variable {D : va_G} {ca : Nat → ClassId} {adK adV : Nat → Nat} {ws wc wr : va_W} {A0 : Nat → Prop} {mc ms : Nat}
/-- addresses that are apart, whatever lies there -/
def sepA (A : Nat → Prop) (l : List Nat) : Prop := va_D A (l.map (fun a => (a, (Sum.inr (0, []) : va_E))))
theorem va_D_fst {A : Nat → Prop} {ws ws' : va_W} (h : ws'.map Prod.fst = ws.map Prod.fst) (hD : va_D A ws) : va_D A ws' := by
  have g : ∀ (k : Nat) (q : Nat × va_E), ws'[k]? = some q → ∃ q', ws[k]? = some q' ∧ q'.1 = q.1 := by
    intro k q hk
    have h1 : (ws'.map Prod.fst)[k]? = some q.1 := by rw [List.getElem?_map, hk]; rfl
    rw [h, List.getElem?_map] at h1
    cases hw : ws[k]? with
    | none => rw [hw] at h1; cases h1
    | some q' => rw [hw] at h1; exact ⟨q', rfl, Option.some.inj h1⟩
  refine ⟨fun i j p q hi hj e => ?_, fun k q hk => ?_⟩
  · obtain ⟨p', h1, e1⟩ := g i p hi
    obtain ⟨q', h2, e2⟩ := g j q hj
    exact hD.1 i j p' q' h1 h2 (by rw [e1, e2, e])
  · obtain ⟨q', h1, e1⟩ := g k q hk
    rw [← e1]; exact hD.2 k q' h1
theorem sepA_D {A : Nat → Prop} {l : List Nat} {ws : va_W} (h : sepA A l) (e : ws.map Prod.fst = l) : va_D A ws := va_D_fst (by rw [e, List.map_map]; exact (List.map_id _).symm) h
theorem sepA_of {A : Nat → Prop} {ws : va_W} (h : va_D A ws) : sepA A (ws.map Prod.fst) := va_D_fst (by rw [List.map_map]; exact List.map_id _) h
/-- a frame that the callee can't reach -/
theorem w_frame {wf : va_W} {H1 : Heap} {l : List Nat} (hPf : va_P D vwCl wf H) (hl : ws.map Prod.fst = l) (hs : ∀ x ∈ l, ∀ y ∈ wf.map Prod.fst, x ≠ y) (isC : List Nat) (hC : isC.map (fun i => ws[i]?) = wc.map some) (hk : ∀ q : Nat, q < H.size → ¬ va_A wc H.size q → H1[q]? = H[q]?) : va_P D vwCl wf H1 := by
  intro k q hkq
  refine (hPf k q hkq).kept (hk q.1 (hPf k q hkq).lt (fun hz => ?_))
  rcases hz with ⟨j, e', hj⟩ | hz
  · have h1 : (isC.map (fun i => ws[i]?))[j]? = some (some (q.1, e')) := by rw [hC, List.getElem?_map, hj]; rfl
    rw [List.getElem?_map] at h1
    cases hi : isC[j]? with
    | none => rw [hi] at h1; cases h1
    | some i =>
      rw [hi] at h1
      have h2 : ws[i]? = some (q.1, e') := Option.some.inj h1
      have h3 : q.1 ∈ l := by rw [← hl]; exact List.mem_map.mpr ⟨_, List.mem_of_getElem? h2, rfl⟩
      exact hs _ h3 _ (List.mem_map.mpr ⟨_, List.mem_of_getElem? hkq, rfl⟩) rfl
  · exact absurd (hPf k q hkq).lt (Nat.not_lt.mpr hz)
theorem va_P_left {w1 w2 : va_W} (h : va_P D vwCl (w1 ++ w2) H) : va_P D vwCl w1 H := fun k q hk => h k q (by rw [List.getElem?_append_left (List.getElem?_eq_some_iff.mp hk).1]; exact hk)
theorem va_P_right {w1 w2 : va_W} (h : va_P D vwCl (w1 ++ w2) H) : va_P D vwCl w2 H := fun k q hk => h (w1.length + k) q (by rw [List.getElem?_append_right (Nat.le_add_right _ _), Nat.add_sub_cancel_left]; exact hk)
theorem lSi {S : Type} {post : Int32 → S → Prop} {w1 ws2 : S → va_W} {wf : va_W} {al : List Nat} (S0 : CallFix p m c cc nL s args Ts own)
    (hM : Met l y wsy rm (va_Pc As (lPre D ca wc H.size)) (va_Qi post (wEnd D ca w1 (va_A wc H.size)) (va_A wc H.size)) mc ms (va_A wc H.size)) (cw : vx_CSW R s args own index y bytes maxL ret hh wsy rm mc ms n)
    (hC0 : lC A0 s) (hK : va_K D vwCl (tysA ca) s) (hP : va_P D vwCl ws H) (hPf : va_P D vwCl wf H) (hal : ws.map Prod.fst = al) (hD0 : sepA A0 al) (hsf : ∀ x ∈ al, ∀ y ∈ wf.map Prod.fst, x ≠ y) (hS : va_S A0 s.heap H locs) (hA : ∀ q, s.heap.size ≤ q → A0 q) (isC isR ps : List Nat) (hC : isC.map (fun i => ws[i]?) = wc.map some) (hR : isR.map (fun i => ws[i]?) = wr.map some) (hnd : (va_nd isC && va_nd isR && va_nd ps) = true) (hdis : ∀ i ∈ isR, i ∉ isC)
    (hp : ∀ u, ps.map (fun i => (wr ++ w1 u)[i]?) = (ws2 u).map some)
    (hn : As.length = n) (hsize : ls.size = nL) (hst : st0 = As.reverse ++ rest) (hW : (rest.map fun v => v.category).sum ≤ 8) (hdg : decode cc pc = .ok (.invokestatic index, 3)) (hf : cells + mc ≤ R.cells ∧ slots + ms ≤ R.slots)
    (kk : ∀ (r : Int32) (u : S) (H1 : Heap) (locs1 : List Loc), post r u → va_P D vwCl (ws2 u) H1 → va_P D vwCl wf H1 → va_S A0 s.heap H1 locs1 → W p l e R s m args below meth c H1 locs1 (cells + mc) (slots + ms) Q (F0 m (pc + 3) ls (.int r :: rest))) : W p l e R s m args below meth c H locs cells slots Q (F0 m pc ls st0) := by
  simp only [Bool.and_eq_true] at hnd
  obtain ⟨⟨hnC, hnR⟩, hnp⟩ := hnd
  have hD := sepA_D hD0 hal
  have hF := va_free hD hS hA isC hC
  have hpre := w_preS (As := As) hK hP hD isC hC hnC
  exact va_calli (vx_runSW S0 hM cw ⟨fun a U g mk q => ⟨q.1, (hpre.1 a U g mk ⟨q.1, q.2.1⟩).2, lC_blind q.2.2⟩, fun U hU hW => ⟨rfl, (hpre.2 U hU hW).2, lC_call hC0 hS hF hU hW⟩⟩ rfl hn hsize hst (w_room hW) hdg hf) hS (fun q _ h => hF q h) hF (fun r u t H1 locs1 ht hvm hw hB hz1 hk1 hS1 => by
    obtain ⟨h1, h2⟩ := w_join hP hD isC isR ps hC hR hnR hdis hp hnp hk1 hF ht hB
    exact kk r u H1 locs1 hw h1 (w_frame hPf hal hsf isC hC hk1) hS1)
theorem lSiJ {S : Type} {post : Int32 → S → Prop} {w1 ws2 : S → va_W} {wf : va_W} {al : List Nat} (S0 : CallFix p m c cc nL s args Ts own)
    (hM : Met l y wsy rm (va_Pc As (ljPre D ca adK adV wc H.size)) (va_Qi post (wEnd D ca w1 (va_A wc H.size)) (va_A wc H.size)) mc ms (va_A wc H.size)) (cw : vx_CSW R s args own index y bytes maxL ret hh wsy rm mc ms n)
    (hC0 : lC A0 s) (hJ : jAll adK adV A0 s) (hK : va_K D vwCl (tysA ca) s) (hP : va_P D vwCl ws H) (hPf : va_P D vwCl wf H) (hal : ws.map Prod.fst = al) (hD0 : sepA A0 al) (hsf : ∀ x ∈ al, ∀ y ∈ wf.map Prod.fst, x ≠ y) (hS : va_S A0 s.heap H locs) (hA : ∀ q, s.heap.size ≤ q → A0 q) (isC isR ps : List Nat) (hC : isC.map (fun i => ws[i]?) = wc.map some) (hR : isR.map (fun i => ws[i]?) = wr.map some) (hnd : (va_nd isC && va_nd isR && va_nd ps) = true) (hdis : ∀ i ∈ isR, i ∉ isC)
    (hp : ∀ u, ps.map (fun i => (wr ++ w1 u)[i]?) = (ws2 u).map some)
    (hn : As.length = n) (hsize : ls.size = nL) (hst : st0 = As.reverse ++ rest) (hW : (rest.map fun v => v.category).sum ≤ 8) (hdg : decode cc pc = .ok (.invokestatic index, 3)) (hf : cells + mc ≤ R.cells ∧ slots + ms ≤ R.slots)
    (kk : ∀ (r : Int32) (u : S) (H1 : Heap) (locs1 : List Loc), post r u → va_P D vwCl (ws2 u) H1 → va_P D vwCl wf H1 → va_S A0 s.heap H1 locs1 → W p l e R s m args below meth c H1 locs1 (cells + mc) (slots + ms) Q (F0 m (pc + 3) ls (.int r :: rest))) : W p l e R s m args below meth c H locs cells slots Q (F0 m pc ls st0) := by
  simp only [Bool.and_eq_true] at hnd
  obtain ⟨⟨hnC, hnR⟩, hnp⟩ := hnd
  have hD := sepA_D hD0 hal
  have hF := va_free hD hS hA isC hC
  have hpre := w_preS (As := As) hK hP hD isC hC hnC
  exact va_calli (vx_runSW S0 hM cw ⟨fun a U g mk q => ⟨q.1, (hpre.1 a U g mk ⟨q.1, q.2.1⟩).2, lC_blind q.2.2.1, jAll_blind q.2.2.2⟩, fun U hU hW => ⟨rfl, (hpre.2 U hU hW).2, lC_call hC0 hS hF hU hW, jAll_call hJ hS hF hU hW⟩⟩ rfl hn hsize hst (w_room hW) hdg hf) hS (fun q _ h => hF q h) hF (fun r u t H1 locs1 ht hvm hw hB hz1 hk1 hS1 => by
    obtain ⟨h1, h2⟩ := w_join hP hD isC isR ps hC hR hnR hdis hp hnp hk1 hF ht hB
    exact kk r u H1 locs1 hw h1 (w_frame hPf hal hsf isC hC hk1) hS1)
theorem lVi {S : Type} {post : Int32 → S → Prop} {w1 ws2 : S → va_W} {wf : va_W} {al : List Nat} {C : String} {b : Addr} {T : u_T} {N : Nat} {fs : List Value} (S0 : CallFix p m c cc nL s args Ts own)
    (hM : Met l y wsy rm (va_Pc (.ref b :: As) (wPre D ca wc H.size)) (va_Qi post (wEnd D ca w1 (va_A wc H.size)) (va_A wc H.size)) 0 0 (va_A wc H.size)) (cw : CallW R s args own C index y bytes maxL ret wsy rm 0 0 n)
    (hK : va_K D vwCl (tysA ca) s) (hP : va_P D vwCl ws H) (hPf : va_P D vwCl wf H) (hal : ws.map Prod.fst = al) (hD0 : sepA A0 al) (hsf : ∀ x ∈ al, ∀ y ∈ wf.map Prod.fst, x ≠ y) (hS : va_S A0 s.heap H locs) (hA : ∀ q, s.heap.size ≤ q → A0 q) (isC isR ps : List Nat) (hC : isC.map (fun i => ws[i]?) = wc.map some) (hR : isR.map (fun i => ws[i]?) = wr.map some) (hnd : (va_nd isC && va_nd isR && va_nd ps) = true) (hdis : ∀ i ∈ isR, i ∉ isC)
    (hp : ∀ u, ps.map (fun i => (wr ++ w1 u)[i]?) = (ws2 u).map some) {ci q0 : Nat} (hc : vwCl[ci]? = some (C, T, N)) (he : ws[q0]? = some (b, .inr (ci, fs)))
    (hn : As.length = n) (hsize : ls.size = nL) (hst : st0 = As.reverse ++ .ref b :: rest) (hW : (rest.map fun v => v.category).sum ≤ 8) (hdg : decode cc pc = .ok (.invokevirtual index, 3)) (hf : cells ≤ R.cells ∧ slots ≤ R.slots)
    (kk : ∀ (r : Int32) (u : S) (H1 : Heap) (locs1 : List Loc), post r u → va_P D vwCl (ws2 u) H1 → va_P D vwCl wf H1 → va_S A0 s.heap H1 locs1 → W p l e R s m args below meth c H1 locs1 cells slots Q (F0 m (pc + 3) ls (.int r :: rest))) : W p l e R s m args below meth c H locs cells slots Q (F0 m pc ls st0) := by
  simp only [Bool.and_eq_true] at hnd
  obtain ⟨⟨hnC, hnR⟩, hnp⟩ := hnd
  have hD := sepA_D hD0 hal
  have hF := va_free hD hS hA isC hC
  exact va_calli (va_runV S0 hM cw (w_preV hK hP hD isC hC hnC hc he) rfl hn hsize hst (w_room hW) hdg hf) hS (fun q _ h => hF q h) hF (fun r u t H1 locs1 ht hvm hw hB hz1 hk1 hS1 => by
    obtain ⟨h1, h2⟩ := w_join hP hD isC isR ps hC hR hnR hdis hp hnp hk1 hF ht hB
    exact kk r u H1 locs1 hw h1 (w_frame hPf hal hsf isC hC hk1) hS1)
theorem lVl {S : Type} {post : Int64 → S → Prop} {w1 ws2 : S → va_W} {wf : va_W} {al : List Nat} {C : String} {b : Addr} {T : u_T} {N : Nat} {fs : List Value} (S0 : CallFix p m c cc nL s args Ts own)
    (hM : Met l y wsy rm (va_Pc (.ref b :: As) (wPre D ca wc H.size)) (va_Ql post (wEnd D ca w1 (va_A wc H.size)) (va_A wc H.size)) 0 0 (va_A wc H.size)) (cw : CallW R s args own C index y bytes maxL ret wsy rm 0 0 n)
    (hK : va_K D vwCl (tysA ca) s) (hP : va_P D vwCl ws H) (hPf : va_P D vwCl wf H) (hal : ws.map Prod.fst = al) (hD0 : sepA A0 al) (hsf : ∀ x ∈ al, ∀ y ∈ wf.map Prod.fst, x ≠ y) (hS : va_S A0 s.heap H locs) (hA : ∀ q, s.heap.size ≤ q → A0 q) (isC isR ps : List Nat) (hC : isC.map (fun i => ws[i]?) = wc.map some) (hR : isR.map (fun i => ws[i]?) = wr.map some) (hnd : (va_nd isC && va_nd isR && va_nd ps) = true) (hdis : ∀ i ∈ isR, i ∉ isC)
    (hp : ∀ u, ps.map (fun i => (wr ++ w1 u)[i]?) = (ws2 u).map some) {ci q0 : Nat} (hc : vwCl[ci]? = some (C, T, N)) (he : ws[q0]? = some (b, .inr (ci, fs)))
    (hn : As.length = n) (hsize : ls.size = nL) (hst : st0 = As.reverse ++ .ref b :: rest) (hW : (rest.map fun v => v.category).sum ≤ 8) (hdg : decode cc pc = .ok (.invokevirtual index, 3)) (hf : cells ≤ R.cells ∧ slots ≤ R.slots)
    (kk : ∀ (r : Int64) (u : S) (H1 : Heap) (locs1 : List Loc), post r u → va_P D vwCl (ws2 u) H1 → va_P D vwCl wf H1 → va_S A0 s.heap H1 locs1 → W p l e R s m args below meth c H1 locs1 cells slots Q (F0 m (pc + 3) ls (.long r :: rest))) : W p l e R s m args below meth c H locs cells slots Q (F0 m pc ls st0) := by
  simp only [Bool.and_eq_true] at hnd
  obtain ⟨⟨hnC, hnR⟩, hnp⟩ := hnd
  have hD := sepA_D hD0 hal
  have hF := va_free hD hS hA isC hC
  exact va_calll (va_runV S0 hM cw (w_preV hK hP hD isC hC hnC hc he) rfl hn hsize hst (w_room hW) hdg hf) hS (fun q _ h => hF q h) hF (fun r u t H1 locs1 ht hvm hw hB hz1 hk1 hS1 => by
    obtain ⟨h1, h2⟩ := w_join hP hD isC isR ps hC hR hnR hdis hp hnp hk1 hF ht hB
    exact kk r u H1 locs1 hw h1 (w_frame hPf hal hsf isC hC hk1) hS1)
end LawCalls
abbrev lawK (ca : Nat → ClassId) (a_t a_t_generator a_t_program a_t_costs a_t_history a_t_machine a_t_tidier a_t_listing a_t_program_operations a_t_program_firsts a_t_program_seconds a_t_machine_values a_t_machine_depths a_t_tidier_newNumbers a_t_tidier_needed a_out : Nat) (t_generator_input : Int32) (t_program_width : Int32) (t_program_length : Int32) (t_program_result : Int32) (t_program_taskKind : Int32) (t_program_taskDivisor : Int32) (f_t_program_operations : Nat → Int32) (f_t_program_firsts : Nat → Int32) (f_t_program_seconds : Nat → Int32) (f_t_costs : Nat → Int32) (f_t_machine_values : Nat → Int32) (f_t_machine_depths : Nat → Int32) (f_t_tidier_newNumbers : Nat → Int32) (f_t_tidier_needed : Nat → Int32) (t_listing_left : Int32) (t_listing_seen : Int32) (f_out : Nat → Int64) : va_W := [(a_t, .inr (6, [.ref a_t_generator, .ref a_t_program, .ref a_t_costs, .ref a_t_history, .ref a_t_machine, .ref a_t_tidier, .ref a_t_listing])), (a_t_generator, .inr (0, [.ref a_t_program, .ref a_t_costs, .int t_generator_input])), (a_t_program, .inr (4, [.int t_program_width, .int t_program_length, .int t_program_result, .int t_program_taskKind, .int t_program_taskDivisor, .ref a_t_program_operations, .ref a_t_program_firsts, .ref a_t_program_seconds])), (a_t_program_operations, .inl (ca 0, 40, .inl f_t_program_operations)), (a_t_program_firsts, .inl (ca 0, 40, .inl f_t_program_firsts)), (a_t_program_seconds, .inl (ca 0, 40, .inl f_t_program_seconds)), (a_t_costs, .inl (ca 0, 3, .inl f_t_costs)), (a_t_machine, .inr (3, [.ref a_t_machine_values, .ref a_t_machine_depths])), (a_t_machine_values, .inl (ca 0, 41, .inl f_t_machine_values)), (a_t_machine_depths, .inl (ca 0, 41, .inl f_t_machine_depths)), (a_t_tidier, .inr (5, [.ref a_t_tidier_newNumbers, .ref a_t_tidier_needed])), (a_t_tidier_newNumbers, .inl (ca 0, 41, .inl f_t_tidier_newNumbers)), (a_t_tidier_needed, .inl (ca 3, 41, .inl f_t_tidier_needed)), (a_t_listing, .inr (2, [.int t_listing_left, .int t_listing_seen])), (a_out, .inl (ca 1, 1, .inr (.inl f_out)))]
abbrev adrK (a_t a_t_generator a_t_program a_t_program_operations a_t_program_firsts a_t_program_seconds a_t_costs a_t_machine a_t_machine_values a_t_machine_depths a_t_tidier a_t_tidier_newNumbers a_t_tidier_needed a_t_listing a_out : Nat) : List Nat := [a_t, a_t_generator, a_t_program, a_t_program_operations, a_t_program_firsts, a_t_program_seconds, a_t_costs, a_t_machine, a_t_machine_values, a_t_machine_depths, a_t_tidier, a_t_tidier_newNumbers, a_t_tidier_needed, a_t_listing, a_out]
abbrev lawZ (ca : Nat → ClassId) (a_t_history a_t_history_states : Nat) (aP aO aF aS : Nat → Nat) (t_history_next : Int32) (t_history_kept : Int32) (sW : Nat → Int32) (sL : Nat → Int32) (sR : Nat → Int32) (sK : Nat → Int32) (sD : Nat → Int32) (sO : Nat → Nat → Int32) (sF : Nat → Nat → Int32) (sS : Nat → Nat → Int32) : va_W := [(a_t_history, .inr (1, [.ref a_t_history_states, .int t_history_next, .int t_history_kept])), (a_t_history_states, .inl (ca 4, 8, .inr (.inr (.inr (.inr (fun k9 => some (aP k9))))))), (aP 0, .inr (4, [.int (sW 0), .int (sL 0), .int (sR 0), .int (sK 0), .int (sD 0), .ref (aO 0), .ref (aF 0), .ref (aS 0)])), (aO 0, .inl (ca 0, 40, .inl (sO 0))), (aF 0, .inl (ca 0, 40, .inl (sF 0))), (aS 0, .inl (ca 0, 40, .inl (sS 0))), (aP 1, .inr (4, [.int (sW 1), .int (sL 1), .int (sR 1), .int (sK 1), .int (sD 1), .ref (aO 1), .ref (aF 1), .ref (aS 1)])), (aO 1, .inl (ca 0, 40, .inl (sO 1))), (aF 1, .inl (ca 0, 40, .inl (sF 1))), (aS 1, .inl (ca 0, 40, .inl (sS 1))), (aP 2, .inr (4, [.int (sW 2), .int (sL 2), .int (sR 2), .int (sK 2), .int (sD 2), .ref (aO 2), .ref (aF 2), .ref (aS 2)])), (aO 2, .inl (ca 0, 40, .inl (sO 2))), (aF 2, .inl (ca 0, 40, .inl (sF 2))), (aS 2, .inl (ca 0, 40, .inl (sS 2))), (aP 3, .inr (4, [.int (sW 3), .int (sL 3), .int (sR 3), .int (sK 3), .int (sD 3), .ref (aO 3), .ref (aF 3), .ref (aS 3)])), (aO 3, .inl (ca 0, 40, .inl (sO 3))), (aF 3, .inl (ca 0, 40, .inl (sF 3))), (aS 3, .inl (ca 0, 40, .inl (sS 3))), (aP 4, .inr (4, [.int (sW 4), .int (sL 4), .int (sR 4), .int (sK 4), .int (sD 4), .ref (aO 4), .ref (aF 4), .ref (aS 4)])), (aO 4, .inl (ca 0, 40, .inl (sO 4))), (aF 4, .inl (ca 0, 40, .inl (sF 4))), (aS 4, .inl (ca 0, 40, .inl (sS 4))), (aP 5, .inr (4, [.int (sW 5), .int (sL 5), .int (sR 5), .int (sK 5), .int (sD 5), .ref (aO 5), .ref (aF 5), .ref (aS 5)])), (aO 5, .inl (ca 0, 40, .inl (sO 5))), (aF 5, .inl (ca 0, 40, .inl (sF 5))), (aS 5, .inl (ca 0, 40, .inl (sS 5))), (aP 6, .inr (4, [.int (sW 6), .int (sL 6), .int (sR 6), .int (sK 6), .int (sD 6), .ref (aO 6), .ref (aF 6), .ref (aS 6)])), (aO 6, .inl (ca 0, 40, .inl (sO 6))), (aF 6, .inl (ca 0, 40, .inl (sF 6))), (aS 6, .inl (ca 0, 40, .inl (sS 6))), (aP 7, .inr (4, [.int (sW 7), .int (sL 7), .int (sR 7), .int (sK 7), .int (sD 7), .ref (aO 7), .ref (aF 7), .ref (aS 7)])), (aO 7, .inl (ca 0, 40, .inl (sO 7))), (aF 7, .inl (ca 0, 40, .inl (sF 7))), (aS 7, .inl (ca 0, 40, .inl (sS 7)))]
abbrev adrZ (a_t_history a_t_history_states : Nat) (aP aO aF aS : Nat → Nat) : List Nat := [a_t_history, a_t_history_states, aP 0, aO 0, aF 0, aS 0, aP 1, aO 1, aF 1, aS 1, aP 2, aO 2, aF 2, aS 2, aP 3, aO 3, aF 3, aS 3, aP 4, aO 4, aF 4, aS 4, aP 5, aO 5, aF 5, aS 5, aP 6, aO 6, aF 6, aS 6, aP 7, aO 7, aF 7, aS 7]
abbrev lawM (ca : Nat → ClassId) (a_k a_k_v a_k_past a_k_costs a_k_into a_k_isNeeded a_k_depths a_k_names a_k_out a_k_has : Nat) (k_edits : Int32) (k_thrown : Int32) (k_outs : Int32) (f_k_v : Nat → Int32) (f_k_past : Nat → Int32) (f_k_costs : Nat → Int32) (f_k_into : Nat → Int32) (f_k_isNeeded : Nat → Int32) (f_k_depths : Nat → Int32) (f_k_names : Nat → Int32) (f_k_out : Nat → Int32) (f_k_has : Nat → Int64) : va_W := [(a_k, .inr (7, [.ref a_k_v, .ref a_k_past, .ref a_k_costs, .int k_edits, .int k_thrown, .ref a_k_into, .ref a_k_isNeeded, .ref a_k_depths, .ref a_k_names, .ref a_k_out, .int k_outs, .ref a_k_has])), (a_k_v, .inl (ca 0, 206, .inl f_k_v)), (a_k_past, .inl (ca 0, 1648, .inl f_k_past)), (a_k_costs, .inl (ca 0, 3, .inl f_k_costs)), (a_k_into, .inl (ca 0, 41, .inl f_k_into)), (a_k_isNeeded, .inl (ca 3, 41, .inl f_k_isNeeded)), (a_k_depths, .inl (ca 0, 41, .inl f_k_depths)), (a_k_names, .inl (ca 2, 68, .inl f_k_names)), (a_k_out, .inl (ca 0, 2000, .inl f_k_out)), (a_k_has, .inl (ca 1, 41, .inr (.inl f_k_has)))]
abbrev adrM (a_k a_k_v a_k_past a_k_costs a_k_into a_k_isNeeded a_k_depths a_k_names a_k_out a_k_has : Nat) : List Nat := [a_k, a_k_v, a_k_past, a_k_costs, a_k_into, a_k_isNeeded, a_k_depths, a_k_names, a_k_out, a_k_has]
def lawSep (A : Nat → Prop) (aK aZ aM : List Nat) : Prop := sepA A aK ∧ sepA A aZ ∧ sepA A aM ∧ sepA A (aK ++ aZ) ∧ (∀ x ∈ aK, ∀ y ∈ aZ ++ aM, x ≠ y) ∧ (∀ x ∈ aM, ∀ y ∈ aK ++ aZ, x ≠ y) ∧ ∀ x ∈ aK ++ aZ, ∀ y ∈ aM, x ≠ y
