/-! the law's helpers: what they need, and how they are called -/
def lC (A : Nat → Prop) (U : State) : Prop := xC A U ∧ va_Nc xIA xIO U ∧ va_Nc xIO xIA U ∧ va_Nc xIA xIS U ∧ va_Nc xIS xIA U ∧ va_Nc xIO xIS U ∧ va_Nc xIS xIO U
theorem lC_call {A0 A1 : Nat → Prop} {s U : State} {H : Heap} {locs : List Loc} (hX : lC A0 s) (hS : va_S A0 s.heap H locs) (hF : ∀ q, A1 q → A0 q) (hU : U.heap = H) (hW : s.WarmedH U.vm) : lC A1 U := by
  obtain ⟨h1, h2, h3, h4, h5, h6, h7⟩ := hX
  exact ⟨xC_call h1 hS hF hU hW, h2.moved hW.alike, h3.moved hW.alike, h4.moved hW.alike, h5.moved hW.alike, h6.moved hW.alike, h7.moved hW.alike⟩
theorem lC_blind {A : Nat → Prop} {U : State} {g : JFrame} {mk : MethodId} {a : Array Value} (h : lC A U) : lC A (U.calling g mk a) := by
  obtain ⟨h1, h2, h3, h4, h5, h6, h7⟩ := h
  have e := Vm.Alike.refl U.vm
  exact ⟨xC_blind h1, va_Nc.moved (U := U.calling g mk a) e h2, va_Nc.moved (U := U.calling g mk a) e h3, va_Nc.moved (U := U.calling g mk a) e h4, va_Nc.moved (U := U.calling g mk a) e h5, va_Nc.moved (U := U.calling g mk a) e h6, va_Nc.moved (U := U.calling g mk a) e h7⟩
abbrev lPre (D : va_G) (ca : Nat → ClassId) (ws : va_W) (sz : Nat) (U : State) : Prop := wPre D ca ws sz U ∧ lC (va_A ws sz) U
abbrev ljPre (D : va_G) (ca : Nat → ClassId) (adK adV : Nat → Nat) (ws : va_W) (sz : Nat) (U : State) : Prop := wPre D ca ws sz U ∧ lC (va_A ws sz) U ∧ jAll adK adV (va_A ws sz) U
theorem gSW {c0 : Cond} {own : String} {idx maxL : Nat} {y : MethodName} {bytes : ByteArray} {ret : Option FieldType} {hh : List (Nat × Nat × Nat × Nat)} (h1 : Cond.methodLink own idx y ∈ wsG) (h2 : Cond.static y ∈ wsG) (h4 : Cond.initialized y.cls ∈ wsG) (h5 : Cond.codeWith y bytes maxL ret hh ∈ wsG) : GoodIn (c0 :: wsG) (va_wsS own idx y (Cond.codeWith y bytes maxL ret hh :: wsG)) := by
  intro w hw
  simp only [va_wsS, List.cons_append, List.nil_append, List.mem_cons] at hw
  rcases hw with rfl | rfl | rfl | rfl | hw
  · exact gd h1
  · exact gd h2
  · exact gd h4
  · exact gd h5
  · exact gd hw
