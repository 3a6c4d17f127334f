/-! the listing, as the class sees it -/
def pSn : List Nat → Int → Int → Int
  | [], _, s => s
  | c :: cs, l, s => pSn cs (l - 1) (if l = 0 then (c : Int) else s)
theorem pSn_app : ∀ (a b : List Nat) (l s : Int), pSn (a ++ b) l s = pSn b (l - a.length) (pSn a l s)
  | [], b, l, s => by
    show pSn b l s = pSn b (l - ((0 : Nat) : Int)) s
    rw [show l - ((0 : Nat) : Int) = l by omega]
  | c :: a, b, l, s => by
    show pSn (a ++ b) (l - 1) _ = pSn b (l - ((a.length + 1 : Nat) : Int)) (pSn a (l - 1) _)
    rw [pSn_app a b, show l - 1 - (a.length : Int) = l - ((a.length + 1 : Nat) : Int) by omega]
theorem pSn_neg : ∀ (a : List Nat) {l : Int} (s : Int), l < 0 → pSn a l s = s
  | [], l, s, h => rfl
  | c :: a, l, s, h => by
    show pSn a (l - 1) _ = s
    rw [if_neg (by omega), pSn_neg a s (by omega)]
theorem pSn_get : ∀ (a : List Nat) (k : Nat) (s : Int), pSn a k s = if k < a.length then ((a.getD k 0 : Nat) : Int) else s
  | [], k, s => by rw [if_neg (by show ¬ k < 0; omega)]; rfl
  | c :: a, 0, s => by
    show pSn a _ (if ((0 : Nat) : Int) = 0 then (c : Int) else s) = _
    rw [if_pos (show ((0 : Nat) : Int) = 0 from rfl), pSn_neg a _ (by omega), if_pos (by show 0 < a.length + 1; omega)]; rfl
  | c :: a, k + 1, s => by
    show pSn a (((k + 1 : Nat) : Int) - 1) (if ((k + 1 : Nat) : Int) = 0 then (c : Int) else s) = _
    rw [if_neg (by omega), show ((k + 1 : Nat) : Int) - 1 = (k : Int) by omega, pSn_get a k s]
    by_cases h : k < a.length
    · rw [if_pos h, if_pos (by show k + 1 < a.length + 1; omega)]; rfl
    · rw [if_neg h, if_neg (by show ¬ k + 1 < a.length + 1; omega)]
def PT (cs : List Nat) (F : Int32 → Int32 → (Int32 → Int32 → Prop) → Prop) : Prop := ∀ l s : Int, -1000000 ≤ l - cs.length → l < 2147483648 → ∀ Q : Int32 → Int32 → Prop, Q (iI (l - cs.length)) (iI (pSn cs l s)) → F (iI l) (iI s) Q
theorem PT_seq {a b : List Nat} {F G : Int32 → Int32 → (Int32 → Int32 → Prop) → Prop} (h1 : PT a F) (h2 : PT b G) : PT (a ++ b) (fun l s Q => F l s (fun l s => G l s Q)) := by
  intro l s b1 b2 Q hQ
  rw [pSn_app, List.length_append] at hQ
  rw [List.length_append] at b1
  refine h1 l s (by omega) b2 _ (h2 _ _ (by omega) (by omega) Q ?_)
  rw [show l - (a.length : Int) - b.length = l - ((a.length + b.length : Nat) : Int) by omega]; exact hQ
theorem PT_and {a : List Nat} {F : Int32 → Int32 → (Int32 → Int32 → Prop) → Prop} {A : Prop} (hA : A) (h : PT a F) : PT a (fun l s Q => A ∧ F l s Q) := fun l s b1 b2 Q hQ => ⟨hA, h l s b1 b2 Q hQ⟩
theorem c_pass0 (c : Nat) {x : Int32} (hx : x = iI c) (l s : Int) (b1 : -2000000 ≤ l) (b2 : l < 2147483648) (Q : Int32 → Int32 → Prop) (hQ : Q (iI (l - 1)) (iI (pSn [c] l s))) : wX2_pass (iI l) (iI s) x Q := by
  subst hx
  unfold wX2_pass wX2_pass_12
  have e : iI l - 1 = iI (l - 1) := by show iI l - iI 1 = _; rw [iI_sub]
  rw [e]
  have hQ : Q (iI (l - 1)) (iI (if l = 0 then (c : Int) else s)) := hQ
  refine br_eq l 0 (fun d => ?_) (fun d => ?_)
  · rw [if_pos d] at hQ; exact hQ
  · rw [if_neg d] at hQ; exact hQ
theorem c_pass (c : Nat) {x : Int32} (hx : x = iI c) : PT [c] (fun l s Q => wX2_pass l s x Q) := by
  intro l s b1 b2 Q hQ
  have b1 : -1000000 ≤ l - 1 := b1
  exact c_pass0 c hx l s (by omega) b2 Q hQ
/-! numbers -/
def dgF (x : Nat) : Nat → List Nat
  | 0 => [48 + x % 10]
  | e + 1 => (48 + x / 10 ^ (e + 1) % 10) :: dgF x e
def ndg (x : Nat) : Nat := if x < 10 then 0 else if x < 100 then 1 else if x < 1000 then 2 else if x < 10000 then 3 else 4
abbrev dgs (x : Nat) : List Nat := dgF x (ndg x)
theorem dgF_len (x : Nat) : ∀ e, (dgF x e).length = e + 1
  | 0 => rfl
  | e + 1 => by show (dgF x e).length + 1 = _; rw [dgF_len x e]
theorem ndg_le (x : Nat) : ndg x ≤ 4 := by unfold ndg; split <;> (try split) <;> (try split) <;> (try split) <;> omega
theorem dgs_len (x : Nat) : (dgs x).length ≤ 5 := by rw [dgF_len]; have := ndg_le x; omega
theorem ndg_iff {x : Nat} (h : x < 100000) : ∀ e, e < 4 → (10 ^ (e + 1) ≤ x ↔ e + 1 ≤ ndg x) := by
  intro e he
  have h4 : e = 0 ∨ e = 1 ∨ e = 2 ∨ e = 3 := by omega
  unfold ndg
  rcases h4 with rfl | rfl | rfl | rfl
  · show 10 ≤ x ↔ _
    split <;> (try split) <;> (try split) <;> (try split) <;> omega
  · show 100 ≤ x ↔ _
    split <;> (try split) <;> (try split) <;> (try split) <;> omega
  · show 1000 ≤ x ↔ _
    split <;> (try split) <;> (try split) <;> (try split) <;> omega
  · show 10000 ≤ x ↔ _
    split <;> (try split) <;> (try split) <;> (try split) <;> omega
theorem p10 : ∀ e, e ≤ 4 → 10 ^ e ≤ 10000 := by decide
theorem chr_ok : ∀ c, c < 128 → ((Int32.ofNat c).toUInt32 % 65536).toInt32 = Int32.ofNat c := by decide
theorem dig_e {x u : Nat} (hx : x < 100000) (hu : 1 ≤ u) (hu2 : u ≤ 10000) : 48 + ((iI x / iI u) - (iI x / iI u) / 10 * 10) = iI ((48 + x / u % 10 : Nat) : Int) := by
  show iI 48 + ((iI x / iI u) - (iI x / iI u) / iI 10 * iI 10) = _
  have h0 : (0 : Int) ≤ (x : Int) / u := Int.ediv_nonneg (by omega) (by omega)
  have h1 := Int.ediv_le_self (a := (x : Int)) (u : Int) (by omega)
  rw [iI_div (by omega) (by omega) (by omega) (by omega), iI_remN h0 (by omega) (by decide) (by decide), iI_add]
  rw [show ((x : Int) / u) = ((x / u : Nat) : Int) from rfl]
  rfl
theorem c_pn4 {x : Nat} (hx : x < 100000) : ∀ e : Nat, e ≤ 4 → ∀ (l s : Int), -1000010 + (e : Int) ≤ l → l < 2147483648 → ∀ Q : Int32 → Int32 → Prop, Q (iI (l - (dgF x (min e (ndg x))).length)) (iI (pSn (dgF x (min e (ndg x))) l s)) → wX2_passNumber_4 (iI x) Q (e + 2) (iI ((10 ^ e : Nat) : Int)) (iI l) (iI s)
  | 0, he, l, s, b1, b2, Q, hQ => by
    rw [Nat.zero_min] at hQ
    have hQ : Q (iI (l - 1)) (iI (pSn [48 + x % 10] l s)) := hQ
    have main : wX2_passNumber_19 (iI x) (iI ((10 ^ 0 : Nat) : Int)) (iI l) (iI s) (wX2_passNumber_4 (iI x) Q 1) := by
      unfold wX2_passNumber_19
      refine ⟨iI_ne0 (by decide) (by decide) (by decide), ?_⟩
      rw [dig_e hx (by decide) (by decide)]
      rw [show x / 10 ^ 0 = x by rw [Nat.pow_zero, Nat.div_one]]
      refine c_pass0 (48 + x % 10) ?_ l s (by omega) b2 _ ?_
      · rw [← nI_i]; exact chr_ok _ (by omega)
      · intro y hy
        have ey : y = iI 0 := by rw [hy]; decide
        rw [ey, wX2_passNumber_4]
        exact br_lt 0 1 (fun _ => hQ) (fun c => by omega)
    rw [wX2_passNumber_4]
    exact br_lt ((10 ^ 0 : Nat) : Int) 1 (fun c => absurd c (by decide)) (fun _ => br_le ((10 ^ 0 : Nat) : Int) x (fun _ => main) (fun _ => ⟨fun _ => main, fun c => absurd rfl c⟩) (by decide) (by decide)) (by decide) (by decide)
  | e + 1, he, l, s, b1, b2, Q, hQ => by
    have hp := p10 (e + 1) he
    have hp1 : 10 ^ (e + 1) = 10 * 10 ^ e := by rw [Nat.pow_succ, Nat.mul_comm]
    have hp0 : 0 < 10 ^ e := Nat.pow_pos (by decide)
    have nx : ∀ y : Int32, y = iI ((10 ^ (e + 1) : Nat) : Int) / 10 → y = iI ((10 ^ e : Nat) : Int) := by
      intro y hy
      rw [hy]; show iI _ / iI 10 = _
      rw [iI_div (by omega) (by omega) (by decide) (by decide)]
      congr 1; omega
    rw [show e + 1 + 2 = (e + 2) + 1 from rfl, wX2_passNumber_4]
    have hiff := ndg_iff hx e (by omega)
    refine br_lt ((10 ^ (e + 1) : Nat) : Int) 1 (fun c => by omega) (fun _ => br_le ((10 ^ (e + 1) : Nat) : Int) x (fun c => ?_) (fun c => ⟨fun d => ?_, fun _ y hy => ?_⟩))
    · have h1 : e + 1 ≤ ndg x := hiff.mp (by omega)
      rw [show min (e + 1) (ndg x) = e + 1 by omega] at hQ
      unfold wX2_passNumber_19
      refine ⟨iI_ne0 (by omega) (by omega) (by omega), ?_⟩
      rw [dig_e hx (by omega) hp]
      have hm : x / 10 ^ (e + 1) % 10 < 10 := Nat.mod_lt _ (by decide)
      refine c_pass0 (48 + x / 10 ^ (e + 1) % 10) ?_ l s (by omega) b2 _ ?_
      · rw [← nI_i]; exact chr_ok _ (by omega)
      · intro y hy
        rw [nx y hy]
        have hl1 := dgF_len x e
        have hl2 := dgF_len x (e + 1)
        refine c_pn4 hx e (by omega) _ _ (by omega) (by omega) Q ?_
        rw [show min e (ndg x) = e by omega]
        show Q (iI (l - 1 - _)) (iI (pSn (dgF x e) (l - 1) _))
        rw [show l - 1 - ((dgF x e).length : Int) = l - (dgF x (e + 1)).length by omega]
        exact hQ
    · have := (iI_eq (a := ((10 ^ (e + 1) : Nat) : Int)) (b := 1) (by omega) (by omega) (by decide) (by decide)).mp d
      omega
    · have h1 : ¬ e + 1 ≤ ndg x := fun q => by have := hiff.mpr q; omega
      rw [show min (e + 1) (ndg x) = min e (ndg x) by omega] at hQ
      rw [nx y hy]
      exact c_pn4 hx e (by omega) l s (by omega) b2 Q hQ
theorem c_num' {x : Nat} (hx : x < 100000) : PT (dgs x) (fun l s Q => wX2_passNumber l s (iI x) Q) := by
  intro l s b1 b2 Q hQ
  have hn := ndg_le x
  have hl := dgF_len x (ndg x)
  refine ⟨_, c_pn4 hx 4 (by decide) l s (by omega) b2 Q ?_⟩
  rw [show min 4 (ndg x) = ndg x by omega]; exact hQ
/-! texts -/
def wdL (i : Nat) : List Nat := [[115, 104, 108], [115, 104, 114], [115, 97, 114], [97, 100, 100], [115, 117, 98], [109, 117, 108], [109, 117, 108, 104, 117], [109, 117, 108, 104, 115], [97, 110, 100], [120, 111, 114], [114, 111, 114], [108, 101, 117], [32, 61, 32], [44, 32], [114, 101, 116, 117, 114, 110, 32, 118]].getD i []
theorem wd_len : ∀ i, i < 15 → (wdL i).length ≤ 8 := by decide
theorem jB_len : ∀ i, i < 15 → (jBy i).length = (wdL i).length := by decide
theorem jB_chr : ∀ i, i < 15 → ∀ j, j < 8 → j < (wdL i).length → (((jBy i).getD j 0 &&& 255).toUInt32 % 65536).toInt32 = Int32.ofNat ((wdL i).getD j 0) := by decide
theorem drop_c {L : List Nat} {j : Nat} (h : j < L.length) : L.drop j = L.getD j 0 :: L.drop (j + 1) := by
  rw [List.drop_eq_getElem_cons h]
  congr 1
  rw [List.getD_eq_getElem?_getD, List.getElem?_eq_getElem h]; rfl
theorem c_pt2 {si : Nat} (hs : si < 15) : ∀ (m j : Nat) (l s : Int), j + m = (wdL si).length → -1000000 ≤ l - m → l < 2147483648 → ∀ Q : Int32 → Int32 → Prop, Q (iI (l - m)) (iI (pSn ((wdL si).drop j) l s)) → wX2_passText_2 si Q (m + 1) (iI j) (iI l) (iI s) := by
  have hl := jB_len si hs
  have h8 := wd_len si hs
  have eL : (Int32.ofNat (jBy si).length >>> ((0 : Int32) &&& 31)) = iI ((wdL si).length : Int) := by
    rw [show Int32.ofNat (jBy si).length = iI ((jBy si).length : Int) from nI_i _, hl]
    show iI _ >>> (iI ((0 : Nat) : Int) &&& 31) = _
    rw [iI_shr (by decide) (by omega) (by omega), Int.pow_zero, Int.ediv_one]
  have eL2 : Int32.ofNat (jBy si).length = iI ((wdL si).length : Int) := by rw [show Int32.ofNat (jBy si).length = iI ((jBy si).length : Int) from nI_i _, hl]
  intro m
  induction m with
  | zero =>
    intro j l s hj b1 b2 Q hQ
    rw [wX2_passText_2, eL]
    refine br_le ((wdL si).length : Int) j (fun _ => ?_) (fun c => by omega)
    rw [List.drop_eq_nil_of_le (by omega), show l - ((0 : Nat) : Int) = l by omega] at hQ
    exact hQ
  | succ m ih =>
    intro j l s hj b1 b2 Q hQ
    rw [wX2_passText_2, eL, eL2]
    refine br_le ((wdL si).length : Int) j (fun c => by omega) (fun _ => ⟨⟨inI j, ?_, ?_⟩, ?_⟩)
    · exact fun c => absurd ((iI_lt (a := (j : Int)) (b := 0) (by omega) (by omega) (by decide) (by decide)).mp c) (by omega)
    · exact (iI_lt (by omega) (by omega) (by omega) (by omega)).mpr (by omega)
    · rw [iI_clN (by omega), drop_c (show j < (wdL si).length by omega)] at *
      refine c_pass0 ((wdL si).getD j 0) ?_ l s (by omega) b2 _ ?_
      · rw [← nI_i]; exact jB_chr si hs j (by omega) (by omega)
      · intro x hx
        have e1 : x = iI ((j + 1 : Nat) : Int) := by rw [hx]; show iI j + iI 1 = _; rw [iI_add]; rfl
        rw [e1]
        refine ih (j + 1) _ _ (by omega) (by omega) (by omega) Q ?_
        rw [show l - 1 - (m : Int) = l - ((m + 1 : Nat) : Int) by omega]
        exact hQ
theorem c_text {si : Nat} (hs : si < 15) : PT (wdL si) (fun l s Q => wX2_passText l s si Q) := fun l s b1 b2 Q hQ => ⟨_, c_pt2 hs (wdL si).length 0 l s (Nat.zero_add _) b1 b2 Q hQ⟩
def opS (q : Opd) : List Nat := if q.1 = true then dgs q.2 else 118 :: dgs q.2
theorem opS_len (q : Opd) : (opS q).length ≤ 6 := by
  have := dgs_len q.2
  unfold opS
  split
  · omega
  · show (dgs q.2).length + 1 ≤ 6; omega
theorem c_po {q : Opd} (hq : q.2 ≤ 65536) : PT (opS q) (fun l s Q => wX2_passOperand l s (cOp q) Q) := by
  intro l s b1 b2 Q hQ
  show wX2_passOperand (iI l) (iI s) (cOp q) Q
  unfold wX2_passOperand
  unfold opS at hQ b1
  refine c_isv hq (by decide) (fun h => ⟨fun c => absurd c (by decide), fun _ => ?_⟩) (fun h => ⟨fun _ => ?_, fun c => absurd rfl c⟩)
  · rw [if_neg (by rw [h]; decide)] at hQ b1
    have b1 : -1000000 ≤ l - (((dgs q.2).length + 1 : Nat) : Int) := b1
    refine c_pass0 118 rfl l s (by omega) b2 _ (c_num hq (by decide) (c_num' (by omega) _ _ (by omega) (by omega) _ ?_))
    rw [show l - 1 - ((dgs q.2).length : Int) = l - (((dgs q.2).length + 1 : Nat) : Int) by omega]
    exact hQ
  · rw [if_pos h] at hQ b1
    exact c_num hq (by decide) (c_num' (by omega) _ _ b1 b2 _ hQ)
def insS (i : Nat) (q : Ins) : List Nat := [118] ++ (dgs (i + 1) ++ (wdL 12 ++ (wdL q.1 ++ ([32] ++ (opS q.2.1 ++ (wdL 13 ++ (opS q.2.2 ++ [10])))))))
theorem insS_len {i : Nat} {q : Ins} (h : q.1 ≤ 11) : (insS i q).length ≤ 44 := by
  have h1 := dgs_len (i + 1)
  have h2 := wd_len 12 (by decide)
  have h3 := wd_len q.1 (by omega)
  have h4 := opS_len q.2.1
  have h5 := wd_len 13 (by decide)
  have h6 := opS_len q.2.2
  unfold insS
  simp only [List.length_append, List.length_cons, List.length_nil]
  omega
theorem gd_mem {L : List Nat} {k : Nat} (h : k < L.length) : L.getD k 0 ∈ L := by
  rw [List.getD_eq_getElem?_getD, List.getElem?_eq_getElem h]; exact List.getElem_mem h
theorem dgF_b (x : Nat) : ∀ e c, c ∈ dgF x e → c < 200
  | 0, c, h => by
    have h : c ∈ [48 + x % 10] := h
    rw [List.mem_singleton] at h; omega
  | e + 1, c, h => by
    have h : c ∈ (48 + x / 10 ^ (e + 1) % 10) :: dgF x e := h
    have hm : x / 10 ^ (e + 1) % 10 < 10 := Nat.mod_lt _ (by decide)
    rcases List.mem_cons.mp h with h | h
    · omega
    · exact dgF_b x e c h
theorem wd_b : ∀ i, i < 15 → ∀ c, c ∈ wdL i → c < 200 := by decide
theorem opS_b (q : Opd) (c : Nat) (h : c ∈ opS q) : c < 200 := by
  unfold opS at h
  split at h
  · exact dgF_b _ _ c h
  · rcases List.mem_cons.mp h with h | h
    · omega
    · exact dgF_b _ _ c h
theorem insS_b {i : Nat} {q : Ins} (hq : q.1 ≤ 11) (c : Nat) (h : c ∈ insS i q) : c < 200 := by
  unfold insS at h
  rcases List.mem_append.mp h with h | h
  · rw [List.mem_singleton] at h; omega
  rcases List.mem_append.mp h with h | h
  · exact dgF_b _ _ c h
  rcases List.mem_append.mp h with h | h
  · exact wd_b 12 (by decide) c h
  rcases List.mem_append.mp h with h | h
  · exact wd_b q.1 (by omega) c h
  rcases List.mem_append.mp h with h | h
  · rw [List.mem_singleton] at h; omega
  rcases List.mem_append.mp h with h | h
  · exact opS_b _ c h
  rcases List.mem_append.mp h with h | h
  · exact wd_b 13 (by decide) c h
  rcases List.mem_append.mp h with h | h
  · exact opS_b _ c h
  · rw [List.mem_singleton] at h; omega
theorem nm_I : ∀ op, op < 12 → nmI (Int32.ofNat op) = op := by decide
theorem c_ins {W N : Nat} (w4 : 4 ≤ W) (w16 : W ≤ 16) (n40 : N ≤ 40) {code : Nat → Ins} (wfc : ∀ i, i < N → wfI W i (code i)) {o f s' : Nat → Int32} (hcc : cCode N code o f s') {i : Nat} (hi : i < N) : PT (insS i (code i)) (fun l s Q => wX2_passInstruction l s o f s' (iI i) Q) := by
  obtain ⟨k1, k2, k3⟩ := hcc i hi
  have hw := wfc i hi
  have e1 : iI i + 1 = iI ((i + 1 : Nat) : Int) := by show iI i + iI 1 = _; rw [iI_add]; rfl
  have e2 : nmI (iI ((code i).1 : Int)) = (code i).1 := by rw [← nI_i]; exact nm_I _ (by have := hw.1; omega)
  have h : PT (insS i (code i)) _ := PT_seq (c_pass 118 (x := 118) rfl) (PT_seq (c_num' (x := i + 1) (by omega)) (PT_seq (c_text (si := 12) (by decide)) (PT_seq (PT_and (inI (i : Int) (n := 40)) (c_text (si := (code i).1) (by have := hw.1; omega))) (PT_seq (c_pass 32 (x := 32) rfl) (PT_seq (PT_and (inI (i : Int) (n := 40)) (c_po (wf_le w16 w4 (by omega) hw.2.1))) (PT_seq (c_text (si := 13) (by decide)) (PT_seq (PT_and (inI (i : Int) (n := 40)) (c_po (wf_le w16 w4 (by omega) hw.2.2.1))) (c_pass 10 (x := 10) rfl))))))))
  intro l s b1 b2 Q hQ
  show wX2_passInstruction (iI l) (iI s) o f s' (iI i) Q
  unfold wX2_passInstruction
  rw [iI_clN (by omega), k1, k2, k3, e1, e2]
  exact h l s b1 b2 Q hQ
def tlS (R : Nat) : List Nat := wdL 14 ++ (dgs R ++ [10])
def lsS (code : Nat → Ins) : Nat → Nat → List Nat
  | _, 0 => []
  | i, m + 1 => insS i (code i) ++ lsS code (i + 1) m
theorem tlS_len (R : Nat) : (tlS R).length ≤ 14 := by
  have h1 := dgs_len R
  have h2 := wd_len 14 (by decide)
  unfold tlS
  simp only [List.length_append, List.length_cons, List.length_nil]
  omega
theorem lsS_len {W N : Nat} {code : Nat → Ins} (wfc : ∀ i, i < N → wfI W i (code i)) : ∀ m i, i + m ≤ N → (lsS code i m).length ≤ 44 * m
  | 0, i, h => Nat.le_refl _
  | m + 1, i, h => by
    have h1 := lsS_len wfc m (i + 1) (by omega)
    have h2 := insS_len (i := i) (wfc i (by omega)).1
    show (insS i (code i) ++ lsS code (i + 1) m).length ≤ _
    rw [List.length_append]; omega
theorem c_tl {R : Nat} (hR : R ≤ 40) : PT (tlS R) (fun l s Q => wX2_passText l s 14 (fun l s => wX2_passNumber l s (iI R) (fun l s => wX2_pass l s 10 Q))) := PT_seq (c_text (by decide)) (PT_seq (c_num' (by omega)) (c_pass 10 rfl))
theorem c_ch12 {W N R : Nat} (w4 : 4 ≤ W) (w16 : W ≤ 16) (n40 : N ≤ 40) (rN : R ≤ N) {code : Nat → Ins} (wfc : ∀ i, i < N → wfI W i (code i)) {o f s' : Nat → Int32} (hcc : cCode N code o f s') {Q : Int32 → Int32 → Int32 → Prop} : ∀ (m i : Nat) (l s : Int), i + m = N → -1 ≤ s → s < 2147483648 → -1000000 ≤ l - (lsS code i m ++ tlS R).length → l < 2147483648 → (s = -1 ∨ l < 0) → (∀ l', Q (iI (pSn (lsS code i m ++ tlS R) l s)) l' (iI (pSn (lsS code i m ++ tlS R) l s))) → wX2_charAt_12 (iI N) (iI R) o f s' Q (m + 1) (iI i) (iI l) (iI s)
  | 0, i, l, s, hi, s1, s2, b1, b2, inv, hQ => by
    rw [wX2_charAt_12]
    refine br_le N i (fun _ => ?_) (fun c => by omega)
    exact c_tl (by omega) l s b1 b2 _ (hQ _)
  | m + 1, i, l, s, hi, s1, s2, b1, b2, inv, hQ => by
    rw [wX2_charAt_12]
    have b1' := b1
    rw [List.length_append] at b1'
    refine br_le N i (fun c => by omega) (fun _ => br_m1 s (fun c => ?_) (fun c => ?_))
    · have hL : lsS code i (m + 1) ++ tlS R = insS i (code i) ++ (lsS code (i + 1) m ++ tlS R) := List.append_assoc _ _ _
      rw [hL] at hQ b1
      rw [pSn_app] at hQ
      rw [List.length_append] at b1
      have pv : pSn (insS i (code i)) l s = s ∨ (pSn (insS i (code i)) l s < 200 ∧ 0 ≤ pSn (insS i (code i)) l s ∧ l - (insS i (code i)).length < 0) := by
        by_cases hl : l < 0
        · exact Or.inl (pSn_neg _ _ hl)
        · obtain ⟨k, rfl⟩ : ∃ k : Nat, (k : Int) = l := ⟨l.toNat, by omega⟩
          rw [pSn_get]
          split
          · rename_i hk
            refine Or.inr ⟨?_, by omega, by omega⟩
            have := insS_b (wfc i (by omega)).1 _ (gd_mem hk)
            omega
          · exact Or.inl rfl
      refine c_ins w4 w16 n40 wfc hcc (by omega) l s (by omega) b2 _ (fun x hx => ?_)
      have e1 : x = iI ((i + 1 : Nat) : Int) := by rw [hx]; show iI i + iI 1 = _; rw [iI_add]; rfl
      rw [e1]
      exact c_ch12 w4 w16 n40 rN wfc hcc m (i + 1) _ _ (by omega) (by omega) (by omega) (by omega) (by omega) (by omega) hQ
    · have hl : l < 0 := by omega
      rw [pSn_neg _ s hl] at hQ
      refine c_tl (by omega) l s (by omega) b2 _ ?_
      rw [pSn_neg _ s hl]
      exact hQ _
