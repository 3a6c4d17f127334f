/-! the texts of the listing -/
def jIx (i : Nat) : Nat := [82, 84, 86, 88, 90, 92, 94, 96, 98, 100, 102, 104, 44, 60, 27].getD i 0
def jSt (i : Nat) : String := ["shl", "shr", "sar", "add", "sub", "mul", "mulhu", "mulhs", "and", "xor", "ror", "leu", " = ", ", ", "return v"].getD i ""
def jBy (i : Nat) : List Int32 := [[115, 104, 108], [115, 104, 114], [115, 97, 114], [97, 100, 100], [115, 117, 98], [109, 117, 108], [109, 117, 108, 104, 117], [109, 117, 108, 104, 115], [97, 110, 100], [120, 111, 114], [114, 111, 114], [108, 101, 117], [32, 61, 32], [44, 32], [114, 101, 116, 117, 114, 110, 32, 118]].getD i []
def jAll (adK adV : Nat → Nat) (A : Nat → Prop) (U : State) : Prop := ∀ i, i < 15 → vk_R RX2 (jIx i) (jSt i) (adK i) U ∧ jC (adK i) (adV i) (jBy i) A U
theorem jAll_call {adK adV : Nat → Nat} {A0 A1 : Nat → Prop} {s U : State} {H : Heap} {locs : List Loc} (h : jAll adK adV A0 s) (hS : va_S A0 s.heap H locs) (hF : ∀ q, A1 q → A0 q) (hU : U.heap = H) (hW : s.WarmedH U.vm) : jAll adK adV A1 U := fun i hi => ⟨(h i hi).1.warm hW, jC_call (h i hi).2 hS hF hU hW⟩
theorem jAll_blind {adK adV : Nat → Nat} {A : Nat → Prop} {U : State} {g : JFrame} {mk : MethodId} {x : Array Value} (h : jAll adK adV A U) : jAll adK adV A (U.calling g mk x) := fun i hi => ⟨(h i hi).1.same rfl, jC_blind (h i hi).2⟩
/-- the place of an operation's name -/
def nmI (op : Int32) : Nat := if op = 0 then 0 else if op = 1 then 1 else if op = 2 then 2 else if op = 3 then 3 else if op = 4 then 4 else if op = 5 then 5 else if op = 6 then 6 else if op = 7 then 7 else if op = 8 then 8 else if op = 9 then 9 else if op = 10 then 10 else 11
theorem nmI_lt (op : Int32) : nmI op < 15 := by
  unfold nmI
  repeat' split
  all_goals decide
abbrev jPre (D : va_G) (ca : Nat → ClassId) (adK adV : Nat → Nat) (ws : va_W) (sz : Nat) (U : State) : Prop := wPre D ca ws sz U ∧ jAll adK adV (va_A ws sz) U
abbrev xjPre (D : va_G) (ca : Nat → ClassId) (adK adV : Nat → Nat) (ws : va_W) (sz : Nat) (U : State) : Prop := wPre D ca ws sz U ∧ xC (va_A ws sz) U ∧ jAll adK adV (va_A ws sz) U
section JJ
variable {p : Program} {l : Launch} {e : Env} {R : Room} {s : State} {m : MethodId} {args : Array Value} {below : List Frame} {meth : Method} {c : Code} {H : Heap} {locs : List Loc} {cells slots : Nat} {Q : State → Prop}
variable {y : MethodName} {bytes cc : ByteArray} {maxL nL n index : Nat} {ret : Option FieldType} {wsy : List Cond} {rm : Room} {Ts : List Cond} {own C : String} {b : Addr} {As rest st0 : List Value} {pc : Nat} {ls : Array Slot}
variable {D : va_G} {ca : Nat → ClassId} {adK adV : Nat → Nat} {ws wc wr : va_W} {A0 : Nat → Prop} {T : u_T} {N : Nat} {fs : List Value} {mc ms : Nat} {QX : String → Prop}
theorem jPre_blind {sz : Nat} {av : List Value} : FrameBlind (va_Pc av (jPre D ca adK adV ws sz)) := fun a U g mk q => by
  obtain ⟨q0, ⟨q1, qP, qK, qD⟩, qX⟩ := q
  exact ⟨q0, ⟨q1, qP, va_K.moved (u := U) (U := U.calling g mk a) (Vm.Alike.refl U.vm) qK, qD⟩, jAll_blind qX⟩
theorem xjPre_blind {sz : Nat} {av : List Value} : FrameBlind (va_Pc av (xjPre D ca adK adV ws sz)) := fun a U g mk q => by
  obtain ⟨q0, ⟨q1, qP, qK, qD⟩, qX, qJ⟩ := q
  exact ⟨q0, ⟨q1, qP, va_K.moved (u := U) (U := U.calling g mk a) (Vm.Alike.refl U.vm) qK, qD⟩, xC_blind qX, jAll_blind qJ⟩
theorem cViJ {S : Type} {post : Int32 → S → Prop} {w1 ws2 : S → va_W} (S0 : CallFix p m c cc nL s args Ts own)
    (hM : Met l y wsy rm (va_Pc (.ref b :: As) (jPre D ca adK adV wc H.size)) (va_Qi post (wEnd D ca w1 (va_A wc H.size)) (va_A wc H.size)) 0 0 (va_A wc H.size)) (cw : CallW R s args own C index y bytes maxL ret wsy rm 0 0 n)
    (hJ : jAll adK adV A0 s) (hK : va_K D vwCl (tysA ca) s) (hP : va_P D vwCl ws H) (hD : va_D A0 ws) (hS : va_S A0 s.heap H locs) (hA : ∀ q, s.heap.size ≤ q → A0 q) (isC isR ps : List Nat) (hC : isC.map (fun i => ws[i]?) = wc.map some) (hR : isR.map (fun i => ws[i]?) = wr.map some) (hnd : (va_nd isC && va_nd isR && va_nd ps) = true) (hdis : ∀ i ∈ isR, i ∉ isC)
    (hp : ∀ u, ps.map (fun i => (wr ++ w1 u)[i]?) = (ws2 u).map some) {ci q0 : Nat} (hc : vwCl[ci]? = some (C, T, N)) (he : ws[q0]? = some (b, .inr (ci, fs)))
    (hn : As.length = n) (hsize : ls.size = nL) (hst : st0 = As.reverse ++ .ref b :: rest) (hW : (rest.map fun v => v.category).sum ≤ 8) (hdg : decode cc pc = .ok (.invokevirtual index, 3)) (hf : cells ≤ R.cells ∧ slots ≤ R.slots)
    (kk : ∀ (r : Int32) (u : S) (H1 : Heap) (locs1 : List Loc), post r u → va_P D vwCl (ws2 u) H1 → va_D A0 (ws2 u) → va_S A0 s.heap H1 locs1 → W p l e R s m args below meth c H1 locs1 cells slots Q (F0 m (pc + 3) ls (.int r :: rest))) : W p l e R s m args below meth c H locs cells slots Q (F0 m pc ls st0) := by
  simp only [Bool.and_eq_true] at hnd
  obtain ⟨⟨hnC, hnR⟩, hnp⟩ := hnd
  have hF := va_free hD hS hA isC hC
  exact va_calli (va_runV S0 hM cw ⟨jPre_blind, va_recv hK hP hc he, fun U hU hW => ⟨rfl, ⟨by rw [hU], by rw [hU]; exact hP.sub isC (map_fm hC), va_K.moved hW.alike hK, (hD.sub isC hnC hC).weaken (fun _ _ _ _ => trivial)⟩, jAll_call hJ hS hF hU hW⟩⟩ rfl hn hsize hst (w_room hW) hdg hf) hS (fun q _ h => hF q h) hF (fun r u t H1 locs1 ht hvm hw hB hz1 hk1 hS1 => by
    obtain ⟨h1, h2⟩ := w_join hP hD isC isR ps hC hR hnR hdis hp hnp hk1 hF ht hB
    exact kk r u H1 locs1 hw h1 h2 hS1)
theorem cVvJ {S : Type} {post : S → Prop} {w1 ws2 : S → va_W} (S0 : CallFix p m c cc nL s args Ts own)
    (hM : Met l y wsy rm (va_Pc (.ref b :: As) (jPre D ca adK adV wc H.size)) (va_Qv post (wEnd D ca w1 (va_A wc H.size)) (va_A wc H.size)) 0 0 (va_A wc H.size)) (cw : CallW R s args own C index y bytes maxL ret wsy rm 0 0 n)
    (hJ : jAll adK adV A0 s) (hK : va_K D vwCl (tysA ca) s) (hP : va_P D vwCl ws H) (hD : va_D A0 ws) (hS : va_S A0 s.heap H locs) (hA : ∀ q, s.heap.size ≤ q → A0 q) (isC isR ps : List Nat) (hC : isC.map (fun i => ws[i]?) = wc.map some) (hR : isR.map (fun i => ws[i]?) = wr.map some) (hnd : (va_nd isC && va_nd isR && va_nd ps) = true) (hdis : ∀ i ∈ isR, i ∉ isC)
    (hp : ∀ u, ps.map (fun i => (wr ++ w1 u)[i]?) = (ws2 u).map some) {ci q0 : Nat} (hc : vwCl[ci]? = some (C, T, N)) (he : ws[q0]? = some (b, .inr (ci, fs)))
    (hn : As.length = n) (hsize : ls.size = nL) (hst : st0 = As.reverse ++ .ref b :: rest) (hW : (rest.map fun v => v.category).sum ≤ 8) (hdg : decode cc pc = .ok (.invokevirtual index, 3)) (hf : cells ≤ R.cells ∧ slots ≤ R.slots)
    (kk : ∀ (u : S) (H1 : Heap) (locs1 : List Loc), post u → va_P D vwCl (ws2 u) H1 → va_D A0 (ws2 u) → va_S A0 s.heap H1 locs1 → W p l e R s m args below meth c H1 locs1 cells slots Q (F0 m (pc + 3) ls rest)) : W p l e R s m args below meth c H locs cells slots Q (F0 m pc ls st0) := by
  simp only [Bool.and_eq_true] at hnd
  obtain ⟨⟨hnC, hnR⟩, hnp⟩ := hnd
  have hF := va_free hD hS hA isC hC
  exact va_callv (va_runV S0 hM cw ⟨jPre_blind, va_recv hK hP hc he, fun U hU hW => ⟨rfl, ⟨by rw [hU], by rw [hU]; exact hP.sub isC (map_fm hC), va_K.moved hW.alike hK, (hD.sub isC hnC hC).weaken (fun _ _ _ _ => trivial)⟩, jAll_call hJ hS hF hU hW⟩⟩ rfl hn hsize hst (w_room hW) hdg hf) hS (fun q _ h => hF q h) hF (fun u t H1 locs1 ht hvm hw hB hz1 hk1 hS1 => by
    obtain ⟨h1, h2⟩ := w_join hP hD isC isR ps hC hR hnR hdis hp hnp hk1 hF ht hB
    exact kk u H1 locs1 hw h1 h2 hS1)
theorem xViJ {S : Type} {post : Int32 → S → Prop} {w1 ws2 : S → va_W} (S0 : CallFix p m c cc nL s args Ts own)
    (hM : vx_Met l y wsy rm (va_Pc (.ref b :: As) (xjPre D ca adK adV wc H.size)) (va_Qi post (wEnd D ca w1 (va_A wc H.size)) (va_A wc H.size)) (xEnd D ca wc QX (va_A wc H.size)) mc ms (va_A wc H.size)) (cw : CallW R s args own C index y bytes maxL ret wsy rm mc ms n)
    (hX : xC A0 s) (hJ : jAll adK adV A0 s) (hK : va_K D vwCl (tysA ca) s) (hP : va_P D vwCl ws H) (hD : va_D A0 ws) (hS : va_S A0 s.heap H locs) (hA : ∀ q, s.heap.size ≤ q → A0 q) (isC isR ps : List Nat) (hC : isC.map (fun i => ws[i]?) = wc.map some) (hR : isR.map (fun i => ws[i]?) = wr.map some) (hnd : (va_nd isC && va_nd isR && va_nd ps) = true) (hdis : ∀ i ∈ isR, i ∉ isC)
    (hp : ∀ u, ps.map (fun i => (wr ++ w1 u)[i]?) = (ws2 u).map some) (hp0 : ps.map (fun i => (wr ++ wc)[i]?) = ws.map some) {ci q0 : Nat} (hc : vwCl[ci]? = some (C, T, N)) (he : ws[q0]? = some (b, .inr (ci, fs)))
    (hn : As.length = n) (hsize : ls.size = nL) (hst : st0 = As.reverse ++ .ref b :: rest) (hW : (rest.map fun v => v.category).sum ≤ 8) (hdg : decode cc pc = .ok (.invokevirtual index, 3)) (hf : cells + mc ≤ R.cells ∧ slots + ms ≤ R.slots)
    (kx : ∀ (E : String) (ce : Cell) (q9 : Addr) (H1 : Heap) (locs1 : List Loc), QX E → va_P D vwCl ws H1 → va_S A0 s.heap H1 locs1 → H1[q9]? = some ce → ce.vm = .none → s.vm.findClass E = some ce.cls → vx_W p l e R s m args below meth c H1 locs1 (cells + mc) (slots + ms) Q (F0 m pc ls rest) q9)
    (kk : ∀ (r : Int32) (u : S) (H1 : Heap) (locs1 : List Loc), post r u → va_P D vwCl (ws2 u) H1 → va_D A0 (ws2 u) → va_S A0 s.heap H1 locs1 → W p l e R s m args below meth c H1 locs1 (cells + mc) (slots + ms) Q (F0 m (pc + 3) ls (.int r :: rest))) : W p l e R s m args below meth c H locs cells slots Q (F0 m pc ls st0) := by
  simp only [Bool.and_eq_true] at hnd
  obtain ⟨⟨hnC, hnR⟩, hnp⟩ := hnd
  have hF := va_free hD hS hA isC hC
  exact vx_calli (vx_runV S0 hM cw ⟨xjPre_blind, va_recv hK hP hc he, fun U hU hW => ⟨rfl, ⟨by rw [hU], by rw [hU]; exact hP.sub isC (map_fm hC), va_K.moved hW.alike hK, (hD.sub isC hnC hC).weaken (fun _ _ _ _ => trivial)⟩, xC_call hX hS hF hU hW, jAll_call hJ hS hF hU hW⟩⟩ rfl hn hsize hst (w_room hW) hdg hf) hS (fun q _ h => hF q h) hF (fun q _ h => hF q h)
    (fun E ce q9 u t H1 locs1 ht hvm hpx hB hz1 hk1 hS1 hc1 hc2 hc3 => kx E ce q9 H1 locs1 hB.1 (w_join (w1 := fun _ : Unit => wc) (ws2 := fun _ : Unit => ws) (u := ()) hP hD isC isR ps hC hR hnR hdis (fun _ => hp0) hnp hk1 hF ht hB.2).1 hS1 hc1 hc2 hc3)
    (fun r u t H1 locs1 ht hvm hw hB hz1 hk1 hS1 => by
      obtain ⟨h1, h2⟩ := w_join hP hD isC isR ps hC hR hnR hdis hp hnp hk1 hF ht hB
      exact kk r u H1 locs1 hw h1 h2 hS1)
/-- a static call that answers one of the texts -/
theorem jSr {i9 : Nat} (S0 : CallFix p m c cc nL s args Ts own) (hM : Met l y wsy rm (va_Pc As (jAll adK adV jF)) (va_Qr (fun _ : Unit => True) (fun _ a _ => a = adK i9) jF) 0 0 jF) (cw : CallB R s args own index y bytes maxL ret wsy rm 0 0 n ∧ (Cond.static y).before args s = true) (hJ : jAll adK adV A0 s)
    (hS : va_S A0 s.heap H locs) (hn : As.length = n) (hsize : ls.size = nL) (hst : st0 = As.reverse ++ rest) (hW : (rest.map fun v => v.category).sum ≤ 8) (hdg : decode cc pc = .ok (.invokestatic index, 3)) (hf : cells ≤ R.cells ∧ slots ≤ R.slots)
    (kk : ∀ (H1 : Heap) (locs1 : List Loc), (∀ q : Nat, q < H.size → H1[q]? = H[q]?) → va_S A0 s.heap H1 locs1 → W p l e R s m args below meth c H1 locs1 cells slots Q (F0 m (pc + 3) ls (.ref (adK i9) :: rest))) : W p l e R s m args below meth c H locs cells slots Q (F0 m pc ls st0) :=
  va_callr (va_runS S0 hM cw ⟨fun a U g mk q => ⟨q.1, jAll_blind q.2⟩, fun U hU hW => ⟨rfl, jAll_call hJ hS (fun q h => h.elim) hU hW⟩⟩ rfl hn hsize hst (w_room hW) hdg hf) hS (fun q _ h => h.elim) (fun q h => h.elim) (fun u ra t H1 locs1 ht hvm hw hB hz1 hk1 hS1 => by
    obtain rfl : ra = adK i9 := hB
    exact kk H1 locs1 (fun q h => hk1 q h (fun z => z)) hS1)
end JJ
set_option maxHeartbeats 4000000 in
set_option maxRecDepth 100000 in
theorem mX2_nameOf (l : Launch) (adK adV : Nat → Nat) (x0 : Int32) : Met l yX2_nameOf (Cond.code yX2_nameOf cX2_nameOf 1 (some (.object "java/lang/String")) :: wsG) ({ frames := 0, cells := 0, slots := 0, locals := 0 } : Room) (va_Pc [.int x0] (jAll adK adV jF)) (va_Qr (fun _ : Unit => True) (fun _ a _ => a = adK (nmI x0)) jF) 0 0 jF := by
  refine Met.ofW (cc := cX2_nameOf) (maxL := 1) (ret := (some (.object "java/lang/String"))) (by decide) rfl ?_
  intro p e s m args below meth c s₁ B hml hv
  obtain ⟨rfl, hJ⟩ := hv
  have hx := B.exec
  have hb := B.bytes
  have hr := B.returns
  have hts := atoms_spec (ws := (Cond.code yX2_nameOf cX2_nameOf 1 (some (.object "java/lang/String")) :: wsG)) B.pre
  have hq : ∀ w ∈ wsG, w.before _ s = true := fun w hw => hts w (List.mem_cons_of_mem _ hw)
  have hown : s.vm.findClass RX2 = some m.cls := findClass_of_methodNamed B.named
  have hlocks := B.notSynchronized
  have hS : va_S jF s.heap s.heap [] := va_S.rf
  have hl := lv_entry ([.int x0]) (n := 1) (Nat.le_of_ble_eq_true rfl)
  rw [lg_entry_eq]
  generalize (lg_sl ([.int x0]) ++ List.replicate (1 - (lg_sl ([.int x0])).length) Slot.unset).toArray = ls at hl ⊢
  have hl : lv_has ls 1 [(0, .int x0)] := hl
  refine lv_iload_n hx hb dX2_nameOf_0 rfl (lv_at hl 0 rfl) ?_
  by_cases c0 : x0 = 0
  · refine lv_tableIn (tgt := 60) hx hb dX2_nameOf_1 (by rw [c0]; decide) (by rw [c0]; decide) (off := 59) (by rw [c0]; decide) (by decide) ?_
    have en : nmI x0 = 0 := by rw [c0]; decide
    refine va_ldcS (q := adK 0) hx hb hown (hJ 0 (by decide)).1 dX2_nameOf_60 ?_
    exact W.aret hx hb hr (Or.inl ⟨_, rfl⟩) (Or.inr ⟨_, rfl⟩) (fun t ht hW => ⟨⟨(), adK 0, rfl, trivial, by rw [en]⟩, hS.F ht⟩) hS.2.2 dX2_nameOf_62
  by_cases c1 : x0 = 1
  · refine lv_tableIn (tgt := 63) hx hb dX2_nameOf_1 (by rw [c1]; decide) (by rw [c1]; decide) (off := 62) (by rw [c1]; decide) (by decide) ?_
    have en : nmI x0 = 1 := by rw [c1]; decide
    refine va_ldcS (q := adK 1) hx hb hown (hJ 1 (by decide)).1 dX2_nameOf_63 ?_
    exact W.aret hx hb hr (Or.inl ⟨_, rfl⟩) (Or.inr ⟨_, rfl⟩) (fun t ht hW => ⟨⟨(), adK 1, rfl, trivial, by rw [en]⟩, hS.F ht⟩) hS.2.2 dX2_nameOf_65
  by_cases c2 : x0 = 2
  · refine lv_tableIn (tgt := 66) hx hb dX2_nameOf_1 (by rw [c2]; decide) (by rw [c2]; decide) (off := 65) (by rw [c2]; decide) (by decide) ?_
    have en : nmI x0 = 2 := by rw [c2]; decide
    refine va_ldcS (q := adK 2) hx hb hown (hJ 2 (by decide)).1 dX2_nameOf_66 ?_
    exact W.aret hx hb hr (Or.inl ⟨_, rfl⟩) (Or.inr ⟨_, rfl⟩) (fun t ht hW => ⟨⟨(), adK 2, rfl, trivial, by rw [en]⟩, hS.F ht⟩) hS.2.2 dX2_nameOf_68
  by_cases c3 : x0 = 3
  · refine lv_tableIn (tgt := 69) hx hb dX2_nameOf_1 (by rw [c3]; decide) (by rw [c3]; decide) (off := 68) (by rw [c3]; decide) (by decide) ?_
    have en : nmI x0 = 3 := by rw [c3]; decide
    refine va_ldcS (q := adK 3) hx hb hown (hJ 3 (by decide)).1 dX2_nameOf_69 ?_
    exact W.aret hx hb hr (Or.inl ⟨_, rfl⟩) (Or.inr ⟨_, rfl⟩) (fun t ht hW => ⟨⟨(), adK 3, rfl, trivial, by rw [en]⟩, hS.F ht⟩) hS.2.2 dX2_nameOf_71
  by_cases c4 : x0 = 4
  · refine lv_tableIn (tgt := 72) hx hb dX2_nameOf_1 (by rw [c4]; decide) (by rw [c4]; decide) (off := 71) (by rw [c4]; decide) (by decide) ?_
    have en : nmI x0 = 4 := by rw [c4]; decide
    refine va_ldcS (q := adK 4) hx hb hown (hJ 4 (by decide)).1 dX2_nameOf_72 ?_
    exact W.aret hx hb hr (Or.inl ⟨_, rfl⟩) (Or.inr ⟨_, rfl⟩) (fun t ht hW => ⟨⟨(), adK 4, rfl, trivial, by rw [en]⟩, hS.F ht⟩) hS.2.2 dX2_nameOf_74
  by_cases c5 : x0 = 5
  · refine lv_tableIn (tgt := 75) hx hb dX2_nameOf_1 (by rw [c5]; decide) (by rw [c5]; decide) (off := 74) (by rw [c5]; decide) (by decide) ?_
    have en : nmI x0 = 5 := by rw [c5]; decide
    refine va_ldcS (q := adK 5) hx hb hown (hJ 5 (by decide)).1 dX2_nameOf_75 ?_
    exact W.aret hx hb hr (Or.inl ⟨_, rfl⟩) (Or.inr ⟨_, rfl⟩) (fun t ht hW => ⟨⟨(), adK 5, rfl, trivial, by rw [en]⟩, hS.F ht⟩) hS.2.2 dX2_nameOf_77
  by_cases c6 : x0 = 6
  · refine lv_tableIn (tgt := 78) hx hb dX2_nameOf_1 (by rw [c6]; decide) (by rw [c6]; decide) (off := 77) (by rw [c6]; decide) (by decide) ?_
    have en : nmI x0 = 6 := by rw [c6]; decide
    refine va_ldcS (q := adK 6) hx hb hown (hJ 6 (by decide)).1 dX2_nameOf_78 ?_
    exact W.aret hx hb hr (Or.inl ⟨_, rfl⟩) (Or.inr ⟨_, rfl⟩) (fun t ht hW => ⟨⟨(), adK 6, rfl, trivial, by rw [en]⟩, hS.F ht⟩) hS.2.2 dX2_nameOf_80
  by_cases c7 : x0 = 7
  · refine lv_tableIn (tgt := 81) hx hb dX2_nameOf_1 (by rw [c7]; decide) (by rw [c7]; decide) (off := 80) (by rw [c7]; decide) (by decide) ?_
    have en : nmI x0 = 7 := by rw [c7]; decide
    refine va_ldcS (q := adK 7) hx hb hown (hJ 7 (by decide)).1 dX2_nameOf_81 ?_
    exact W.aret hx hb hr (Or.inl ⟨_, rfl⟩) (Or.inr ⟨_, rfl⟩) (fun t ht hW => ⟨⟨(), adK 7, rfl, trivial, by rw [en]⟩, hS.F ht⟩) hS.2.2 dX2_nameOf_83
  by_cases c8 : x0 = 8
  · refine lv_tableIn (tgt := 84) hx hb dX2_nameOf_1 (by rw [c8]; decide) (by rw [c8]; decide) (off := 83) (by rw [c8]; decide) (by decide) ?_
    have en : nmI x0 = 8 := by rw [c8]; decide
    refine va_ldcS (q := adK 8) hx hb hown (hJ 8 (by decide)).1 dX2_nameOf_84 ?_
    exact W.aret hx hb hr (Or.inl ⟨_, rfl⟩) (Or.inr ⟨_, rfl⟩) (fun t ht hW => ⟨⟨(), adK 8, rfl, trivial, by rw [en]⟩, hS.F ht⟩) hS.2.2 dX2_nameOf_86
  by_cases c9 : x0 = 9
  · refine lv_tableIn (tgt := 87) hx hb dX2_nameOf_1 (by rw [c9]; decide) (by rw [c9]; decide) (off := 86) (by rw [c9]; decide) (by decide) ?_
    have en : nmI x0 = 9 := by rw [c9]; decide
    refine va_ldcS (q := adK 9) hx hb hown (hJ 9 (by decide)).1 dX2_nameOf_87 ?_
    exact W.aret hx hb hr (Or.inl ⟨_, rfl⟩) (Or.inr ⟨_, rfl⟩) (fun t ht hW => ⟨⟨(), adK 9, rfl, trivial, by rw [en]⟩, hS.F ht⟩) hS.2.2 dX2_nameOf_89
  by_cases c10 : x0 = 10
  · refine lv_tableIn (tgt := 90) hx hb dX2_nameOf_1 (by rw [c10]; decide) (by rw [c10]; decide) (off := 89) (by rw [c10]; decide) (by decide) ?_
    have en : nmI x0 = 10 := by rw [c10]; decide
    refine va_ldcS (q := adK 10) hx hb hown (hJ 10 (by decide)).1 dX2_nameOf_90 ?_
    exact W.aret hx hb hr (Or.inl ⟨_, rfl⟩) (Or.inr ⟨_, rfl⟩) (fun t ht hW => ⟨⟨(), adK 10, rfl, trivial, by rw [en]⟩, hS.F ht⟩) hS.2.2 dX2_nameOf_92
  refine lv_tableOut (tgt := 93) hx hb dX2_nameOf_1 (sw_out (fun j9 h1 h2 hj => ?_)) (by decide) ?_
  · rcases (show j9 = 0 ∨ j9 = 1 ∨ j9 = 2 ∨ j9 = 3 ∨ j9 = 4 ∨ j9 = 5 ∨ j9 = 6 ∨ j9 = 7 ∨ j9 = 8 ∨ j9 = 9 ∨ j9 = 10 by omega) with rfl | rfl | rfl | rfl | rfl | rfl | rfl | rfl | rfl | rfl | rfl
    · exact c0 hj
    · exact c1 hj
    · exact c2 hj
    · exact c3 hj
    · exact c4 hj
    · exact c5 hj
    · exact c6 hj
    · exact c7 hj
    · exact c8 hj
    · exact c9 hj
    · exact c10 hj
  have en : nmI x0 = 11 := by unfold nmI; rw [if_neg c0, if_neg c1, if_neg c2, if_neg c3, if_neg c4, if_neg c5, if_neg c6, if_neg c7, if_neg c8, if_neg c9, if_neg c10]
  refine va_ldcS (q := adK 11) hx hb hown (hJ 11 (by decide)).1 dX2_nameOf_93 ?_
  exact W.aret hx hb hr (Or.inl ⟨_, rfl⟩) (Or.inr ⟨_, rfl⟩) (fun t ht hW => ⟨⟨(), adK 11, rfl, trivial, by rw [en]⟩, hS.F ht⟩) hS.2.2 dX2_nameOf_95
