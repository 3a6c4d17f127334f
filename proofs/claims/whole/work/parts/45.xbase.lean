/-! methods that throw: what they need of the machine, and how they are called -/
abbrev xIA : String := "java/lang/IllegalArgumentException"
abbrev xIS : String := "java/lang/IllegalStateException"
abbrev xIO : String := "java/lang/IndexOutOfBoundsException"
abbrev xNs : List String := ["java/lang/RuntimeException", "java/lang/Exception"]
/-- the texts of the class's exceptions -/
def xStrs : List (Nat × String) := [(56, "width is not from 4 to 16"), (82, "which is not from 0 to 2"), (85, "cost is not from 1 to 20"), (250, "an argument is out of its range"), (114, "an even number has no inverse"), (256, "there is no such kind, or the divisor does not fit it"), (139, "there is no such operation"), (145, "an operand is no earlier value and no constant of the width"), (150, "the bits to shift by are no constant below the width"), (154, "the program has 40 instructions"), (260, "there is no such value"), (167, "the program is empty"), (183, "no edit can be undone"), (262, "there is no such instruction"), (264, "side is not 0 or 1"), (207, "the index is negative"), (258, "there is no task")]
/-- what a throw needs: the statics of Throwable, the casts, the texts -/
def xC (A : Nat → Prop) (U : State) : Prop := vx_Zq Bundle.tN "UNASSIGNED_STACK" Bundle.steD A U U.heap ∧ vx_Zq Bundle.tN "SUPPRESSED_SENTINEL" Bundle.listD A U U.heap ∧ va_Nw (.castable xIA xIA) U ∧ va_Nw (.castable xIS xIS) U ∧ va_Nw (.castable xIO xIO) U ∧ (va_Nw (.declares (Bundle.initS "java/lang/RuntimeException")) U ∧ va_Nw (.declares (Bundle.initS "java/lang/Exception")) U ∧ va_Nw (.declares (Bundle.initS Bundle.tN)) U) ∧ ∀ q ∈ xStrs, ∃ sa, vk_R RX8 q.1 q.2 sa U
theorem xC_call {A0 A1 : Nat → Prop} {s U : State} {H : Heap} {locs : List Loc} (hX : xC A0 s) (hS : va_S A0 s.heap H locs) (hF : ∀ q, A1 q → A0 q) (hU : U.heap = H) (hW : s.WarmedH U.vm) : xC A1 U := by
  obtain ⟨h1, h2, h3, h4, h5, ⟨h7, h8, h9⟩, h6⟩ := hX
  refine ⟨?_, ?_, h3.warmC hW, h4.warmC hW, h5.warmC hW, ⟨h7.warmD hW, h8.warmD hW, h9.warmD hW⟩, fun q hq => ?_⟩
  · rw [hU]; exact ((h1.kept hS.2.1).narrow hF).moved hW.alike
  · rw [hU]; exact ((h2.kept hS.2.1).narrow hF).moved hW.alike
  · obtain ⟨sa, h⟩ := h6 q hq
    exact ⟨sa, h.warm hW⟩
theorem xC_blind {A : Nat → Prop} {U : State} {g : JFrame} {mk : MethodId} {a : Array Value} (h : xC A U) : xC A (U.calling g mk a) := by
  obtain ⟨h1, h2, h3, h4, h5, ⟨h7, h8, h9⟩, h6⟩ := h
  refine ⟨h1.moved (Vm.Alike.refl U.vm), h2.moved (Vm.Alike.refl U.vm), va_Nw.same rfl rfl h3, va_Nw.same rfl rfl h4, va_Nw.same rfl rfl h5, ⟨va_Nw.same rfl rfl h7, va_Nw.same rfl rfl h8, va_Nw.same rfl rfl h9⟩, fun q hq => ?_⟩
  obtain ⟨sa, h⟩ := h6 q hq
  exact ⟨sa, h.same rfl⟩
theorem xa_IA : ∀ w ∈ (vx_atS RX8 58 xIA xNs).filter goodWord, w ∈ lw_tbl := by decide +kernel
theorem xb_IA : ∀ w ∈ (vx_atS RX8 58 xIA xNs).filter (fun w => !goodWord w), w ∈ [Cond.castable xIA xIA, Cond.declares (Bundle.initS "java/lang/RuntimeException"), Cond.declares (Bundle.initS "java/lang/Exception"), Cond.declares (Bundle.initS Bundle.tN)] := by decide +kernel
theorem xg_IA : ∀ w ∈ Cond.classLink RX8 54 xIA :: Cond.initialized xIA :: vx_atS RX8 58 xIA xNs, vx_ot w = true := by decide +kernel
theorem xh_IA {args : Array Value} {s : State} (hq : ∀ w ∈ wsG, w.before args s = true) (hc : va_Nw (.castable xIA xIA) s) (hd : va_Nw (.declares (Bundle.initS "java/lang/RuntimeException")) s ∧ va_Nw (.declares (Bundle.initS "java/lang/Exception")) s ∧ va_Nw (.declares (Bundle.initS Bundle.tN)) s) : ∀ w ∈ vx_atS RX8 58 xIA xNs, w.before args s = true :=
  vx_hat (fun w hw => hq w (wsG_in (xa_IA w hw) (List.mem_filter.mp hw).2)) xb_IA (vx_c (va_Nw.use rfl hc) (vx_c (va_Nw.use rfl hd.1) (vx_c (va_Nw.use rfl hd.2.1) (vx_c (va_Nw.use rfl hd.2.2) vx_n))))
theorem xa_IO : ∀ w ∈ (vx_atS RX8 84 xIO xNs).filter goodWord, w ∈ lw_tbl := by decide +kernel
theorem xb_IO : ∀ w ∈ (vx_atS RX8 84 xIO xNs).filter (fun w => !goodWord w), w ∈ [Cond.castable xIO xIO, Cond.declares (Bundle.initS "java/lang/RuntimeException"), Cond.declares (Bundle.initS "java/lang/Exception"), Cond.declares (Bundle.initS Bundle.tN)] := by decide +kernel
theorem xg_IO : ∀ w ∈ Cond.classLink RX8 80 xIO :: Cond.initialized xIO :: vx_atS RX8 84 xIO xNs, vx_ot w = true := by decide +kernel
theorem xh_IO {args : Array Value} {s : State} (hq : ∀ w ∈ wsG, w.before args s = true) (hc : va_Nw (.castable xIO xIO) s) (hd : va_Nw (.declares (Bundle.initS "java/lang/RuntimeException")) s ∧ va_Nw (.declares (Bundle.initS "java/lang/Exception")) s ∧ va_Nw (.declares (Bundle.initS Bundle.tN)) s) : ∀ w ∈ vx_atS RX8 84 xIO xNs, w.before args s = true :=
  vx_hat (fun w hw => hq w (wsG_in (xa_IO w hw) (List.mem_filter.mp hw).2)) xb_IO (vx_c (va_Nw.use rfl hc) (vx_c (va_Nw.use rfl hd.1) (vx_c (va_Nw.use rfl hd.2.1) (vx_c (va_Nw.use rfl hd.2.2) vx_n))))
theorem xa_IS : ∀ w ∈ (vx_atS RX8 156 xIS xNs).filter goodWord, w ∈ lw_tbl := by decide +kernel
theorem xb_IS : ∀ w ∈ (vx_atS RX8 156 xIS xNs).filter (fun w => !goodWord w), w ∈ [Cond.castable xIS xIS, Cond.declares (Bundle.initS "java/lang/RuntimeException"), Cond.declares (Bundle.initS "java/lang/Exception"), Cond.declares (Bundle.initS Bundle.tN)] := by decide +kernel
theorem xg_IS : ∀ w ∈ Cond.classLink RX8 152 xIS :: Cond.initialized xIS :: vx_atS RX8 156 xIS xNs, vx_ot w = true := by decide +kernel
theorem xh_IS {args : Array Value} {s : State} (hq : ∀ w ∈ wsG, w.before args s = true) (hc : va_Nw (.castable xIS xIS) s) (hd : va_Nw (.declares (Bundle.initS "java/lang/RuntimeException")) s ∧ va_Nw (.declares (Bundle.initS "java/lang/Exception")) s ∧ va_Nw (.declares (Bundle.initS Bundle.tN)) s) : ∀ w ∈ vx_atS RX8 156 xIS xNs, w.before args s = true :=
  vx_hat (fun w hw => hq w (wsG_in (xa_IS w hw) (List.mem_filter.mp hw).2)) xb_IS (vx_c (va_Nw.use rfl hc) (vx_c (va_Nw.use rfl hd.1) (vx_c (va_Nw.use rfl hd.2.1) (vx_c (va_Nw.use rfl hd.2.2) vx_n))))
/-- a throw in the class's code: out it goes -/
theorem x_throw {nmx : String} {p : Program} {l : Launch} {e : Env} {R : Room} {s : State} {m : MethodId} {args : Array Value} {below : List Frame} {meth : Method} {c : Code} {H : Heap} {locs : List Loc} {cells slots : Nat} {free : Addr → Prop} {ls : Array Slot} {rest : List Value} {Qc : Array Value → State → Outcome → State → Prop} {XC : String → State → State → Prop}
    {cc : ByteArray} {pc ik is ic mc ms : Nat} {text : String} {A : Nat → Prop} (hexec : p.tables.exec = Jvm.exec) (hb : c.code = cc) (hl0 : l.stackTraces = false) (hown : s.vm.findClass RX8 = some m.cls) (hX : xC A s) (hstr : (is, text) ∈ xStrs) (hnx : Bundle.fit nmx = true)
    (hk : (Cond.classLink RX8 ik nmx).before args s = true) (hini : (Cond.initialized nmx).before args s = true) (hat : ∀ w ∈ vx_atS RX8 ic nmx xNs, w.before args s = true) (hgood : ∀ w ∈ Cond.classLink RX8 ik nmx :: Cond.initialized nmx :: vx_atS RX8 ic nmx xNs, vx_ot w = true)
    (hS : va_S A s.heap H locs) (hsize : ls.size = c.maxLocals) (d0 : decode cc pc = .ok (.new ik, 3)) (d3 : decode cc (pc + 3) = .ok (.dup, 1)) (d4 : decode cc (pc + 4) = .ok (.ldc is, 2)) (d6 : decode cc (pc + 6) = .ok (.invokespecial ic, 3)) (d9 : decode cc (pc + 9) = .ok (.athrow, 1))
    (htab : ∀ x ∈ c.exceptionTable.toList, False) (hRf : 5 < R.frames) (hRl : (rest.map fun v => v.category).sum + 82 ≤ R.locals) (hRc : cells + 1 ≤ R.cells) (hRs : slots + 6 ≤ R.slots) (hlocks : meth.locks = false)
    (hx : ∀ t : State, s.vm.Alike t.vm → H.size ≤ t.heap.size → (∀ q : Nat, q < H.size → t.heap[q]? = H[q]?) → XC nmx s t) (hf : ∀ z ∈ locs, free z.base) (hc : cells + 1 ≤ mc) (hs : slots + 6 ≤ ms) :
    W p l e R s m args below meth c H locs cells slots (vx_MQ below Qc XC args s mc ms free) (F0 m pc ls rest) := by
  obtain ⟨h1, h2, -, -, -, -, h6⟩ := hX
  obtain ⟨sa, hsa⟩ := h6 _ hstr
  exact vx_throwS hexec hb hl0 hown hnx (by decide) hk hini hsa hat hgood h1 h2 hS hsize d0 d3 d4 d6 d9 (fun x hx9 => (htab x hx9).elim) hRf hRl hRc hRs hlocks hx hf hc hs
theorem x_throwW {nmx : String} {p : Program} {l : Launch} {e : Env} {R : Room} {s : State} {m : MethodId} {args : Array Value} {below : List Frame} {meth : Method} {c : Code} {H : Heap} {locs : List Loc} {cells slots : Nat} {free : Addr → Prop} {ls : Array Slot} {rest : List Value} {Qc : Array Value → State → Outcome → State → Prop} {XC : String → State → State → Prop}
    {cc : ByteArray} {pc ik is ic mc ms : Nat} {text : String} {A : Nat → Prop} (hexec : p.tables.exec = Jvm.exec) (hb : c.code = cc) (hl0 : l.stackTraces = false) (hown : s.vm.findClass RX8 = some m.cls) (hX : xC A s) (hstr : (is, text) ∈ xStrs) (hnx : Bundle.fit nmx = true)
    (hk : (Cond.classLink RX8 ik nmx).before args s = true) (hini : (Cond.initialized nmx).before args s = true) (hat : ∀ w ∈ vx_atS RX8 ic nmx xNs, w.before args s = true) (hgood : ∀ w ∈ Cond.classLink RX8 ik nmx :: Cond.initialized nmx :: vx_atS RX8 ic nmx xNs, vx_ot w = true)
    (hS : va_S A s.heap H locs) (hsize : ls.size = c.maxLocals) (d0 : decode cc pc = .ok (.new ik, 3)) (d3 : decode cc (pc + 3) = .ok (.dup, 1)) (d4 : decode cc (pc + 4) = .ok (.ldc_w is, 3)) (d7 : decode cc (pc + 7) = .ok (.invokespecial ic, 3)) (d10 : decode cc (pc + 10) = .ok (.athrow, 1))
    (htab : ∀ x ∈ c.exceptionTable.toList, False) (hRf : 5 < R.frames) (hRl : (rest.map fun v => v.category).sum + 82 ≤ R.locals) (hRc : cells + 1 ≤ R.cells) (hRs : slots + 6 ≤ R.slots) (hlocks : meth.locks = false)
    (hx : ∀ t : State, s.vm.Alike t.vm → H.size ≤ t.heap.size → (∀ q : Nat, q < H.size → t.heap[q]? = H[q]?) → XC nmx s t) (hf : ∀ z ∈ locs, free z.base) (hc : cells + 1 ≤ mc) (hs : slots + 6 ≤ ms) :
    W p l e R s m args below meth c H locs cells slots (vx_MQ below Qc XC args s mc ms free) (F0 m pc ls rest) := by
  obtain ⟨h1, h2, -, -, -, -, h6⟩ := hX
  obtain ⟨sa, hsa⟩ := h6 _ hstr
  exact vx_throwSW hexec hb hl0 hown hnx (by decide) hk hini hsa hat hgood h1 h2 hS hsize d0 d3 d4 d7 d10 (fun x hx9 => (htab x hx9).elim) hRf hRl hRc hRs hlocks hx hf hc hs
