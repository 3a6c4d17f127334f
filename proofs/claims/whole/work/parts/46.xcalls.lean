section XCalls
variable {p : Program} {l : Launch} {e : Env} {R : Room} {s : State} {m : MethodId} {args : Array Value} {below : List Frame} {meth : Method} {c : Code} {H : Heap} {locs : List Loc} {cells slots : Nat} {Q : State → Prop}
variable {y : MethodName} {bytes cc : ByteArray} {maxL nL n index : Nat} {ret : Option FieldType} {wsy : List Cond} {rm : Room} {Ts : List Cond} {own C : String} {b : Addr} {As rest st0 : List Value} {pc : Nat} {ls : Array Slot}
variable {D : va_G} {ca : Nat → ClassId} {ws wc wr : va_W} {A0 : Nat → Prop} {T : u_T} {N : Nat} {fs : List Value} {mc ms : Nat} {QX : String → Prop}
/-- how a method with a world ends when it throws: nothing of the world has changed -/
abbrev xEnd (D : va_G) (ca : Nat → ClassId) (w : va_W) (QX : String → Prop) (A : Nat → Prop) : String → State → State → Prop := vx_X (fun _ : Unit => True) (fun E _ t => QX E ∧ wEnd D ca (fun _ : Unit => w) A () t) A
abbrev xEnd0 (QX : String → Prop) : String → State → State → Prop := vx_X (fun _ : Unit => True) (fun E _ _ => QX E) (fun _ => False)
abbrev xPre (D : va_G) (ca : Nat → ClassId) (ws : va_W) (sz : Nat) (U : State) : Prop := wPre D ca ws sz U ∧ xC (va_A ws sz) U
theorem xPre_blind {sz : Nat} {av : List Value} : FrameBlind (va_Pc av (xPre D ca ws sz)) := fun a U g mk q => by
  obtain ⟨q0, ⟨q1, qP, qK, qD⟩, qX⟩ := q
  exact ⟨q0, ⟨q1, qP, va_K.moved (u := U) (U := U.calling g mk a) (Vm.Alike.refl U.vm) qK, qD⟩, xC_blind qX⟩
theorem x_preV {locs1 : List Loc} (hX : xC A0 s) (hS : va_S A0 s.heap H locs1) (hA : ∀ q, s.heap.size ≤ q → A0 q) (hK : va_K D vwCl (tysA ca) s) (hP : va_P D vwCl ws H) (hD : va_D A0 ws) (isC : List Nat) (hC : isC.map (fun i => ws[i]?) = wc.map some) (hnC : va_nd isC = true) {ci q0 : Nat} (hc : vwCl[ci]? = some (C, T, N)) (he : ws[q0]? = some (b, .inr (ci, fs))) :
    PreV s H C b (va_Pc (.ref b :: As) (xPre D ca wc H.size)) As :=
  ⟨xPre_blind, va_recv hK hP hc he, fun U hU hW => ⟨rfl, ⟨by rw [hU], by rw [hU]; exact hP.sub isC (map_fm hC), va_K.moved hW.alike hK, (hD.sub isC hnC hC).weaken (fun _ _ _ _ => trivial)⟩, xC_call hX hS (va_free hD hS hA isC hC) hU hW⟩⟩
/-- a throw that leaves a method with a world -/
theorem x_out {MC MS : Nat} {Qc : Array Value → State → Outcome → State → Prop} {E : String} {ce : Cell} {q9 : Addr} {w : va_W} (htab : ∀ x ∈ c.exceptionTable.toList, False) (hlocks : meth.locks = false) (hK : va_K D vwCl (tysA ca) s) (hP : va_P D vwCl w H) (hD : va_D A0 w) (hS : va_S A0 s.heap H locs) (hQ : QX E) (hcell : H[q9]? = some ce) (hv : ce.vm = .none) (hcl : s.vm.findClass E = some ce.cls) (hc : cells ≤ MC) (hs : slots ≤ MS) :
    vx_W p l e R s m args below meth c H locs cells slots (vx_MQ below Qc (xEnd D ca w QX A0) args s MC MS A0) (F0 m pc ls rest) q9 :=
  vx_out (fun x hx => (htab x hx).elim) hlocks hcell hv hcl (fun t ht hvm => ⟨(), trivial, ⟨hQ, by rw [ht]; exact hP, va_K.moved hvm hK, hD⟩, hS.F ht⟩) hS.2.2 hc hs
/-- a static call of a method without a world that may throw, void -/
theorem xPv {Qn : Prop} (S0 : CallFix p m c cc nL s args Ts own) (hM : vx_Met l y wsy rm (va_Pc As (xC (fun _ => False))) (va_Qv (fun _ : Unit => Qn) (fun _ _ => True) (fun _ => False)) (xEnd0 QX) mc ms (fun _ => False)) (cw : CallB R s args own index y bytes maxL ret wsy rm mc ms n ∧ (Cond.static y).before args s = true)
    (hX : xC A0 s) (hS : va_S A0 s.heap H locs) (hn : As.length = n) (hsize : ls.size = nL) (hst : st0 = As.reverse ++ rest) (hW : (rest.map fun v => v.category).sum ≤ 8) (hdg : decode cc pc = .ok (.invokestatic index, 3)) (hf : cells + mc ≤ R.cells ∧ slots + ms ≤ R.slots)
    (kx : ∀ (E : String) (ce : Cell) (q9 : Addr) (H1 : Heap) (locs1 : List Loc), QX E → (∀ q : Nat, q < H.size → H1[q]? = H[q]?) → va_S A0 s.heap H1 locs1 → H1[q9]? = some ce → ce.vm = .none → s.vm.findClass E = some ce.cls → vx_W p l e R s m args below meth c H1 locs1 (cells + mc) (slots + ms) Q (F0 m pc ls rest) q9)
    (kk : ∀ (H1 : Heap) (locs1 : List Loc), Qn → (∀ q : Nat, q < H.size → H1[q]? = H[q]?) → va_S A0 s.heap H1 locs1 → W p l e R s m args below meth c H1 locs1 (cells + mc) (slots + ms) Q (F0 m (pc + 3) ls rest)) : W p l e R s m args below meth c H locs cells slots Q (F0 m pc ls st0) :=
  vx_callv (vx_runS S0 hM cw ⟨fun a U g mk q => ⟨q.1, xC_blind q.2⟩, fun U hU hW => ⟨rfl, xC_call hX hS (fun q h => h.elim) hU hW⟩⟩ rfl hn hsize hst (w_room hW) hdg hf) hS (fun q _ h => h.elim) (fun q h => h.elim) (fun q _ h => h.elim)
    (fun E ce q9 u t H1 locs1 ht hvm hp hB hz1 hk1 hS1 hc1 hc2 hc3 => kx E ce q9 H1 locs1 hB (fun q h => hk1 q h (fun z => z)) hS1 hc1 hc2 hc3)
    (fun u t H1 locs1 ht hvm hw hB hz1 hk1 hS1 => kk H1 locs1 hw (fun q h => hk1 q h (fun z => z)) hS1)
/-- virtual calls of methods with a world that may throw -/
theorem xVv {S : Type} {post : S → Prop} {w1 ws2 : S → va_W} (S0 : CallFix p m c cc nL s args Ts own)
    (hM : vx_Met l y wsy rm (va_Pc (.ref b :: As) (xPre D ca wc H.size)) (va_Qv post (wEnd D ca w1 (va_A wc H.size)) (va_A wc H.size)) (xEnd D ca wc QX (va_A wc H.size)) mc ms (va_A wc H.size)) (cw : CallW R s args own C index y bytes maxL ret wsy rm mc ms n)
    (hX : xC A0 s) (hK : va_K D vwCl (tysA ca) s) (hP : va_P D vwCl ws H) (hD : va_D A0 ws) (hS : va_S A0 s.heap H locs) (hA : ∀ q, s.heap.size ≤ q → A0 q) (isC isR ps : List Nat) (hC : isC.map (fun i => ws[i]?) = wc.map some) (hR : isR.map (fun i => ws[i]?) = wr.map some) (hnd : (va_nd isC && va_nd isR && va_nd ps) = true) (hdis : ∀ i ∈ isR, i ∉ isC)
    (hp : ∀ u, ps.map (fun i => (wr ++ w1 u)[i]?) = (ws2 u).map some) (hp0 : ps.map (fun i => (wr ++ wc)[i]?) = ws.map some) {ci q0 : Nat} (hc : vwCl[ci]? = some (C, T, N)) (he : ws[q0]? = some (b, .inr (ci, fs)))
    (hn : As.length = n) (hsize : ls.size = nL) (hst : st0 = As.reverse ++ .ref b :: rest) (hW : (rest.map fun v => v.category).sum ≤ 8) (hdg : decode cc pc = .ok (.invokevirtual index, 3)) (hf : cells + mc ≤ R.cells ∧ slots + ms ≤ R.slots)
    (kx : ∀ (E : String) (ce : Cell) (q9 : Addr) (H1 : Heap) (locs1 : List Loc), QX E → va_P D vwCl ws H1 → va_S A0 s.heap H1 locs1 → H1[q9]? = some ce → ce.vm = .none → s.vm.findClass E = some ce.cls → vx_W p l e R s m args below meth c H1 locs1 (cells + mc) (slots + ms) Q (F0 m pc ls rest) q9)
    (kk : ∀ (u : S) (H1 : Heap) (locs1 : List Loc), post u → va_P D vwCl (ws2 u) H1 → va_D A0 (ws2 u) → va_S A0 s.heap H1 locs1 → W p l e R s m args below meth c H1 locs1 (cells + mc) (slots + ms) Q (F0 m (pc + 3) ls rest)) : W p l e R s m args below meth c H locs cells slots Q (F0 m pc ls st0) := by
  simp only [Bool.and_eq_true] at hnd
  obtain ⟨⟨hnC, hnR⟩, hnp⟩ := hnd
  have hF := va_free hD hS hA isC hC
  exact vx_callv (vx_runV S0 hM cw (x_preV hX hS hA hK hP hD isC hC hnC hc he) rfl hn hsize hst (w_room hW) hdg hf) hS (fun q _ h => hF q h) hF (fun q _ h => hF q h)
    (fun E ce q9 u t H1 locs1 ht hvm hpx hB hz1 hk1 hS1 hc1 hc2 hc3 => kx E ce q9 H1 locs1 hB.1 (w_join (w1 := fun _ : Unit => wc) (ws2 := fun _ : Unit => ws) (u := ()) hP hD isC isR ps hC hR hnR hdis (fun _ => hp0) hnp hk1 hF ht hB.2).1 hS1 hc1 hc2 hc3)
    (fun u t H1 locs1 ht hvm hw hB hz1 hk1 hS1 => by
      obtain ⟨h1, h2⟩ := w_join hP hD isC isR ps hC hR hnR hdis hp hnp hk1 hF ht hB
      exact kk u H1 locs1 hw h1 h2 hS1)
theorem xVi {S : Type} {post : Int32 → S → Prop} {w1 ws2 : S → va_W} (S0 : CallFix p m c cc nL s args Ts own)
    (hM : vx_Met l y wsy rm (va_Pc (.ref b :: As) (xPre D ca wc H.size)) (va_Qi post (wEnd D ca w1 (va_A wc H.size)) (va_A wc H.size)) (xEnd D ca wc QX (va_A wc H.size)) mc ms (va_A wc H.size)) (cw : CallW R s args own C index y bytes maxL ret wsy rm mc ms n)
    (hX : xC A0 s) (hK : va_K D vwCl (tysA ca) s) (hP : va_P D vwCl ws H) (hD : va_D A0 ws) (hS : va_S A0 s.heap H locs) (hA : ∀ q, s.heap.size ≤ q → A0 q) (isC isR ps : List Nat) (hC : isC.map (fun i => ws[i]?) = wc.map some) (hR : isR.map (fun i => ws[i]?) = wr.map some) (hnd : (va_nd isC && va_nd isR && va_nd ps) = true) (hdis : ∀ i ∈ isR, i ∉ isC)
    (hp : ∀ u, ps.map (fun i => (wr ++ w1 u)[i]?) = (ws2 u).map some) (hp0 : ps.map (fun i => (wr ++ wc)[i]?) = ws.map some) {ci q0 : Nat} (hc : vwCl[ci]? = some (C, T, N)) (he : ws[q0]? = some (b, .inr (ci, fs)))
    (hn : As.length = n) (hsize : ls.size = nL) (hst : st0 = As.reverse ++ .ref b :: rest) (hW : (rest.map fun v => v.category).sum ≤ 8) (hdg : decode cc pc = .ok (.invokevirtual index, 3)) (hf : cells + mc ≤ R.cells ∧ slots + ms ≤ R.slots)
    (kx : ∀ (E : String) (ce : Cell) (q9 : Addr) (H1 : Heap) (locs1 : List Loc), QX E → va_P D vwCl ws H1 → va_S A0 s.heap H1 locs1 → H1[q9]? = some ce → ce.vm = .none → s.vm.findClass E = some ce.cls → vx_W p l e R s m args below meth c H1 locs1 (cells + mc) (slots + ms) Q (F0 m pc ls rest) q9)
    (kk : ∀ (r : Int32) (u : S) (H1 : Heap) (locs1 : List Loc), post r u → va_P D vwCl (ws2 u) H1 → va_D A0 (ws2 u) → va_S A0 s.heap H1 locs1 → W p l e R s m args below meth c H1 locs1 (cells + mc) (slots + ms) Q (F0 m (pc + 3) ls (.int r :: rest))) : W p l e R s m args below meth c H locs cells slots Q (F0 m pc ls st0) := by
  simp only [Bool.and_eq_true] at hnd
  obtain ⟨⟨hnC, hnR⟩, hnp⟩ := hnd
  have hF := va_free hD hS hA isC hC
  exact vx_calli (vx_runV S0 hM cw (x_preV hX hS hA hK hP hD isC hC hnC hc he) rfl hn hsize hst (w_room hW) hdg hf) hS (fun q _ h => hF q h) hF (fun q _ h => hF q h)
    (fun E ce q9 u t H1 locs1 ht hvm hpx hB hz1 hk1 hS1 hc1 hc2 hc3 => kx E ce q9 H1 locs1 hB.1 (w_join (w1 := fun _ : Unit => wc) (ws2 := fun _ : Unit => ws) (u := ()) hP hD isC isR ps hC hR hnR hdis (fun _ => hp0) hnp hk1 hF ht hB.2).1 hS1 hc1 hc2 hc3)
    (fun r u t H1 locs1 ht hvm hw hB hz1 hk1 hS1 => by
      obtain ⟨h1, h2⟩ := w_join hP hD isC isR ps hC hR hnR hdis hp hnp hk1 hF ht hB
      exact kk r u H1 locs1 hw h1 h2 hS1)
theorem xVl {S : Type} {post : Int64 → S → Prop} {w1 ws2 : S → va_W} (S0 : CallFix p m c cc nL s args Ts own)
    (hM : vx_Met l y wsy rm (va_Pc (.ref b :: As) (xPre D ca wc H.size)) (va_Ql post (wEnd D ca w1 (va_A wc H.size)) (va_A wc H.size)) (xEnd D ca wc QX (va_A wc H.size)) mc ms (va_A wc H.size)) (cw : CallW R s args own C index y bytes maxL ret wsy rm mc ms n)
    (hX : xC A0 s) (hK : va_K D vwCl (tysA ca) s) (hP : va_P D vwCl ws H) (hD : va_D A0 ws) (hS : va_S A0 s.heap H locs) (hA : ∀ q, s.heap.size ≤ q → A0 q) (isC isR ps : List Nat) (hC : isC.map (fun i => ws[i]?) = wc.map some) (hR : isR.map (fun i => ws[i]?) = wr.map some) (hnd : (va_nd isC && va_nd isR && va_nd ps) = true) (hdis : ∀ i ∈ isR, i ∉ isC)
    (hp : ∀ u, ps.map (fun i => (wr ++ w1 u)[i]?) = (ws2 u).map some) (hp0 : ps.map (fun i => (wr ++ wc)[i]?) = ws.map some) {ci q0 : Nat} (hc : vwCl[ci]? = some (C, T, N)) (he : ws[q0]? = some (b, .inr (ci, fs)))
    (hn : As.length = n) (hsize : ls.size = nL) (hst : st0 = As.reverse ++ .ref b :: rest) (hW : (rest.map fun v => v.category).sum ≤ 8) (hdg : decode cc pc = .ok (.invokevirtual index, 3)) (hf : cells + mc ≤ R.cells ∧ slots + ms ≤ R.slots)
    (kx : ∀ (E : String) (ce : Cell) (q9 : Addr) (H1 : Heap) (locs1 : List Loc), QX E → va_P D vwCl ws H1 → va_S A0 s.heap H1 locs1 → H1[q9]? = some ce → ce.vm = .none → s.vm.findClass E = some ce.cls → vx_W p l e R s m args below meth c H1 locs1 (cells + mc) (slots + ms) Q (F0 m pc ls rest) q9)
    (kk : ∀ (r : Int64) (u : S) (H1 : Heap) (locs1 : List Loc), post r u → va_P D vwCl (ws2 u) H1 → va_D A0 (ws2 u) → va_S A0 s.heap H1 locs1 → W p l e R s m args below meth c H1 locs1 (cells + mc) (slots + ms) Q (F0 m (pc + 3) ls (.long r :: rest))) : W p l e R s m args below meth c H locs cells slots Q (F0 m pc ls st0) := by
  simp only [Bool.and_eq_true] at hnd
  obtain ⟨⟨hnC, hnR⟩, hnp⟩ := hnd
  have hF := va_free hD hS hA isC hC
  exact vx_calll (vx_runV S0 hM cw (x_preV hX hS hA hK hP hD isC hC hnC hc he) rfl hn hsize hst (w_room hW) hdg hf) hS (fun q _ h => hF q h) hF (fun q _ h => hF q h)
    (fun E ce q9 u t H1 locs1 ht hvm hpx hB hz1 hk1 hS1 hc1 hc2 hc3 => kx E ce q9 H1 locs1 hB.1 (w_join (w1 := fun _ : Unit => wc) (ws2 := fun _ : Unit => ws) (u := ()) hP hD isC isR ps hC hR hnR hdis (fun _ => hp0) hnp hk1 hF ht hB.2).1 hS1 hc1 hc2 hc3)
    (fun r u t H1 locs1 ht hvm hw hB hz1 hk1 hS1 => by
      obtain ⟨h1, h2⟩ := w_join hP hD isC isR ps hC hR hnR hdis hp hnp hk1 hF ht hB
      exact kk r u H1 locs1 hw h1 h2 hS1)
end XCalls
