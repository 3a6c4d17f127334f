/-! the listing, as the reference writes it -/
def OutOK (L : List Nat) (f : Nat → Int32) : Prop := ∀ j, j < L.length → f j = iI ((L.getD j 0 : Nat) : Int)
def TL (cs : List Nat) (F : Int32 → (Nat → Int32) → (Int32 → (Nat → Int32) → Prop) → Prop) : Prop := ∀ (L : List Nat) (f : Nat → Int32), (L ++ cs).length ≤ 2000 → OutOK L f → ∀ Q : Int32 → (Nat → Int32) → Prop, (∀ f', OutOK (L ++ cs) f' → Q (iI ((L ++ cs).length : Int)) f') → F (iI (L.length : Int)) f Q
theorem TL_seq {a b : List Nat} {F G : Int32 → (Nat → Int32) → (Int32 → (Nat → Int32) → Prop) → Prop} (h1 : TL a F) (h2 : TL b G) : TL (a ++ b) (fun n f Q => F n f (fun n f => G n f Q)) := by
  intro L f b1 ho Q hQ
  rw [← List.append_assoc] at hQ b1
  refine h1 L f ?_ ho _ (fun f' ho' => h2 (L ++ a) f' b1 ho' Q hQ)
  rw [List.length_append] at b1; omega
theorem TL_and {a : List Nat} {F : Int32 → (Nat → Int32) → (Int32 → (Nat → Int32) → Prop) → Prop} {A : Prop} (hA : A) (h : TL a F) : TL a (fun n f Q => A ∧ F n f Q) := fun L f b1 ho Q hQ => ⟨hA, h L f b1 ho Q hQ⟩
theorem m_tell (c : Nat) {x : Int32} (hx : x = iI c) : TL [c] (fun n f Q => wX9_tells n f x Q) := by
  intro L f b1 ho Q hQ
  have hl : (L ++ [c]).length = L.length + 1 := by rw [List.length_append]; rfl
  rw [hl] at b1 hQ
  show wX9_tells (iI (L.length : Int)) f x Q
  unfold wX9_tells
  have e : iI (L.length : Int) + 1 = iI ((L.length + 1 : Nat) : Int) := by show iI _ + iI 1 = _; rw [iI_add]; rfl
  rw [e, iI_clN (by omega)]
  refine ⟨inI _, hQ _ (fun j hj => ?_)⟩
  rw [hl] at hj
  by_cases c2 : j = L.length
  · subst c2
    rw [pk_us, hx, List.getD_eq_getElem?_getD, List.getElem?_concat_length]; rfl
  · rw [pk_un c2, ho j (by omega), List.getD_eq_getElem?_getD, List.getD_eq_getElem?_getD, List.getElem?_append_left (by omega)]
theorem m_tn18 {x : Nat} (hx : x < 100000) : ∀ e : Nat, e ≤ 4 → TL (dgF x e) (fun n f Q => wX9_tellsNumber_18 (iI x) Q (e + 2) (iI ((10 ^ e : Nat) : Int)) n f)
  | 0, he => by
    intro L f b1 ho Q hQ
    show wX9_tellsNumber_18 (iI x) Q (0 + 1 + 1) (iI ((10 ^ 0 : Nat) : Int)) (iI (L.length : Int)) f
    rw [wX9_tellsNumber_18]
    refine br_le ((10 ^ 0 : Nat) : Int) 0 (fun c => absurd c (by decide)) (fun _ => ⟨iI_ne0 (by decide) (by decide) (by decide), ?_⟩) (by decide) (by decide)
    rw [dig_e hx (by decide) (by decide), show x / 10 ^ 0 = x by rw [Nat.pow_zero, Nat.div_one]]
    refine m_tell (48 + x % 10) rfl L f b1 ho _ (fun f' ho' y hy => ?_)
    have ey : y = iI 0 := by rw [hy]; decide
    rw [ey, wX9_tellsNumber_18]
    exact br_le 0 0 (fun _ => hQ f' ho') (fun c => by omega)
  | e + 1, he => by
    intro L f b1 ho Q hQ
    have hp := p10 (e + 1) he
    have hp1 : 10 ^ (e + 1) = 10 * 10 ^ e := by rw [Nat.pow_succ, Nat.mul_comm]
    have hp0 : 0 < 10 ^ e := Nat.pow_pos (by decide)
    show wX9_tellsNumber_18 (iI x) Q (e + 2 + 1) (iI ((10 ^ (e + 1) : Nat) : Int)) (iI (L.length : Int)) f
    rw [wX9_tellsNumber_18]
    refine br_le ((10 ^ (e + 1) : Nat) : Int) 0 (fun c => by omega) (fun _ => ⟨iI_ne0 (by omega) (by omega) (by omega), ?_⟩)
    rw [dig_e hx (by omega) hp]
    have hL : L ++ dgF x (e + 1) = (L ++ [48 + x / 10 ^ (e + 1) % 10]) ++ dgF x e := by rw [List.append_assoc]; rfl
    rw [hL] at b1 hQ
    refine m_tell (48 + x / 10 ^ (e + 1) % 10) rfl L f (by rw [List.length_append] at b1; omega) ho _ (fun f' ho' y hy => ?_)
    have ey : y = iI ((10 ^ e : Nat) : Int) := by
      rw [hy]; show iI _ / iI 10 = _
      rw [iI_div (by omega) (by omega) (by decide) (by decide)]
      congr 1; omega
    rw [ey]
    exact m_tn18 hx e (by omega) _ f' b1 ho' Q hQ
theorem m_tn2 {x : Nat} (hx : x < 100000) {L : List Nat} {f : Nat → Int32} (b1 : (L ++ dgs x).length ≤ 2000) (ho : OutOK L f) {Q : Int32 → (Nat → Int32) → Prop} (hQ : ∀ f', OutOK (L ++ dgs x) f' → Q (iI ((L ++ dgs x).length : Int)) f') : ∀ m e : Nat, e + m = ndg x → wX9_tellsNumber_2 (iI (L.length : Int)) f (iI x) Q (m + 1) (iI ((10 ^ e : Nat) : Int))
  | 0, e, he => by
    have hn := ndg_le x
    have hp := p10 e (by omega)
    have hp0 : 0 < 10 ^ e := Nat.pow_pos (by decide)
    rw [wX9_tellsNumber_2]
    refine ⟨iI_ne0 (by omega) (by omega) (by omega), ?_⟩
    rw [iI_div (by omega) (by omega) (by omega) (by omega)]
    have h10 : x < 10 * 10 ^ e := by
      by_cases c : e < 4
      · have := ndg_iff hx e c
        rw [Nat.pow_succ, Nat.mul_comm] at this
        omega
      · rw [show e = 4 by omega]; exact hx
    have hd : (x : Int) / ((10 ^ e : Nat) : Int) < 10 := Int.ediv_lt_of_lt_mul (by omega) (by omega)
    have hd0 : 0 ≤ (x : Int) / ((10 ^ e : Nat) : Int) := Int.ediv_nonneg (by omega) (by omega)
    refine br_lt ((x : Int) / ((10 ^ e : Nat) : Int)) 10 (fun _ => ?_) (fun c => by omega)
    have := m_tn18 hx e (by omega) L f (by rw [show e = ndg x by omega]; exact b1) ho Q (by rw [show e = ndg x by omega]; exact hQ)
    exact ⟨_, this⟩
  | m + 1, e, he => by
    have hn := ndg_le x
    have hp := p10 e (by omega)
    have hp0 : 0 < 10 ^ e := Nat.pow_pos (by decide)
    have hpe : 10 ^ (e + 1) = 10 * 10 ^ e := by rw [Nat.pow_succ, Nat.mul_comm]
    rw [wX9_tellsNumber_2]
    refine ⟨iI_ne0 (by omega) (by omega) (by omega), ?_⟩
    rw [iI_div (by omega) (by omega) (by omega) (by omega)]
    have h10 : 10 * 10 ^ e ≤ x := by
      have := (ndg_iff hx e (by omega)).mpr (by omega)
      omega
    have hd : 10 ≤ (x : Int) / ((10 ^ e : Nat) : Int) := Int.le_ediv_of_mul_le (by omega) (by omega)
    have hd1 := Int.ediv_le_self (a := (x : Int)) ((10 ^ e : Nat) : Int) (by omega)
    refine br_lt ((x : Int) / ((10 ^ e : Nat) : Int)) 10 (fun c => by omega) (fun _ y hy => ?_)
    have ey : y = iI ((10 ^ (e + 1) : Nat) : Int) := by
      rw [hy]; show iI _ * iI 10 = _
      rw [iI_mul]; congr 1
    rw [ey]
    exact m_tn2 hx b1 ho hQ m (e + 1) (by omega)
theorem m_num {x : Nat} (hx : x < 100000) : TL (dgs x) (fun n f Q => wX9_tellsNumber n f (iI x) Q) := fun L f b1 ho Q hQ => ⟨_, m_tn2 hx b1 ho hQ (ndg x) 0 (Nat.zero_add _)⟩
theorem m_opS {q : Opd} (hq : q.2 ≤ 65536) : TL (opS q) (fun n f Q => wX9_tellsOperand n f (bN q.1) (iI q.2) Q) := by
  intro L f b1 ho Q hQ
  show wX9_tellsOperand (iI (L.length : Int)) f (bN q.1) (iI q.2) Q
  unfold wX9_tellsOperand wX9_tellsOperand_10
  unfold opS at b1 hQ
  cases h : q.1 with
  | true =>
    rw [if_pos h] at b1 hQ
    exact ⟨fun c => absurd c (by decide), fun _ => m_num (by omega) L f b1 ho Q hQ⟩
  | false =>
    rw [if_neg (by rw [h]; decide)] at b1 hQ
    refine ⟨fun _ => ?_, fun c => absurd rfl c⟩
    exact TL_seq (m_tell 118 (x := 118) rfl) (m_num (x := q.2) (by omega)) L f b1 ho Q hQ
def scn (w : Nat) : Nat → List Nat → List Nat
  | _, [] => []
  | n, c :: cs => if c = 59 then scn w (n + 1) cs else if n = w then c :: scn w n cs else scn w n cs
theorem scn_ok : ∀ w, w < 15 → scn w 0 nmL = wdL w := by decide
theorem nm_b : ∀ j, j < 68 → nmL.getD j 0 < 200 := by decide
theorem m_wd4 {nm : Nat → Int32} (hnm : nmR nm) {w : Nat} (hw : w < 15) {Q : Int32 → (Nat → Int32) → Prop} : ∀ (m k n : Nat) (L : List Nat) (f : Nat → Int32), k + m = 68 → n ≤ k → (L ++ scn w n (nmL.drop k)).length ≤ 2000 → OutOK L f → (∀ f', OutOK (L ++ scn w n (nmL.drop k)) f' → Q (iI ((L ++ scn w n (nmL.drop k)).length : Int)) f') → wX9_tellsWord_4 nm (iI w) Q (m + 1) (iI n) (iI k) (iI (L.length : Int)) f
  | 0, k, n, L, f, hk, hn, b1, ho, hQ => by
    rw [wX9_tellsWord_4]
    refine br_le 68 k (fun _ => ?_) (fun c => by omega)
    rw [List.drop_eq_nil_of_le (show nmL.length ≤ k by show 68 ≤ k; omega), show scn w n [] = [] from rfl, List.append_nil] at hQ
    exact hQ f ho
  | m + 1, k, n, L, f, hk, hn, b1, ho, hQ => by
    rw [wX9_tellsWord_4]
    have hb := nm_b k (by omega)
    have e1 : iI k + 1 = iI ((k + 1 : Nat) : Int) := by show iI k + iI 1 = _; rw [iI_add]; rfl
    rw [iI_clN (by omega), hnm k (by omega)]
    rw [drop_c (show k < nmL.length by show k < 68; omega)] at b1 hQ
    rw [show scn w n (nmL.getD k 0 :: nmL.drop (k + 1)) = if nmL.getD k 0 = 59 then scn w (n + 1) (nmL.drop (k + 1)) else if n = w then nmL.getD k 0 :: scn w n (nmL.drop (k + 1)) else scn w n (nmL.drop (k + 1)) from rfl] at b1 hQ
    refine br_le 68 k (fun c => by omega) (fun _ => ⟨inI k, br_eq ((nmL.getD k 0 : Nat) : Int) 59 (fun c y hy x hx => ?_) (fun c => br_eq n w (fun d => ⟨inI k, ?_⟩) (fun d x hx => ?_))⟩)
    · rw [if_pos (by omega)] at b1 hQ
      have ey : y = iI ((n + 1 : Nat) : Int) := by rw [hy]; show iI n + iI 1 = _; rw [iI_add]; rfl
      rw [hx, e1, ey]
      exact m_wd4 hnm hw m (k + 1) (n + 1) L f (by omega) (by omega) b1 ho hQ
    · rw [if_neg (by omega), if_pos (by omega)] at b1 hQ
      have hL : L ++ (nmL.getD k 0 :: scn w n (nmL.drop (k + 1))) = (L ++ [nmL.getD k 0]) ++ scn w n (nmL.drop (k + 1)) := by rw [List.append_assoc]; rfl
      rw [hL] at b1 hQ
      refine m_tell (nmL.getD k 0) rfl L f (by rw [List.length_append] at b1; omega) ho _ (fun f' ho' x hx => ?_)
      rw [hx, e1]
      exact m_wd4 hnm hw m (k + 1) n _ f' (by omega) (by omega) b1 ho' hQ
    · rw [if_neg (by omega), if_neg (by omega)] at b1 hQ
      rw [hx, e1]
      exact m_wd4 hnm hw m (k + 1) n L f (by omega) (by omega) b1 ho hQ
theorem m_word {nm : Nat → Int32} (hnm : nmR nm) {w : Nat} (hw : w < 15) : TL (wdL w) (fun n f Q => wX9_tellsWord n nm f (iI w) Q) := by
  intro L f b1 ho Q hQ
  rw [← scn_ok w hw] at b1 hQ
  exact ⟨_, m_wd4 hnm hw 68 0 0 L f rfl (Nat.le_refl _) b1 ho hQ⟩
theorem m_li22 {W N R : Nat} (w4 : 4 ≤ W) (w16 : W ≤ 16) (n40 : N ≤ 40) (rN : R ≤ N) {code : Nat → Ins} (wfc : ∀ i, i < N → wfI W i (code i)) {v nm : Nat → Int32} (hv3 : v 3 = iI N) (hv4 : v 4 = iI R) (hmc : mCode N code v) (hnm : nmR nm) {z : Int} (z0 : 0 ≤ z) (z1 : z < 2147483648) {Q : Int32 → Int32 → Int32 → (Nat → Int32) → Prop} : ∀ (m i : Nat) (L : List Nat) (f : Nat → Int32), i + m = N → (L ++ (lsS code i m ++ tlS R)).length ≤ 2000 → OutOK L f → (∀ n f', Q (iI (if z.toNat < (L ++ (lsS code i m ++ tlS R)).length then (((L ++ (lsS code i m ++ tlS R)).getD z.toNat 0 : Nat) : Int) else -1)) 0 n f') → wX9_listingChar_22 v nm (iI z) Q (m + 1) (iI i) (iI (L.length : Int)) f
  | 0, i, L, f, hi, b1, ho, hQ => by
    rw [wX9_listingChar_22, g3, g4, hv3, hv4]
    refine ⟨v3, br_le N i (fun _ => ?_) (fun c => by omega)⟩
    have h : TL (tlS R) _ := TL_seq (m_word hnm (w := 14) (by decide)) (TL_seq (TL_and v4 (m_num (x := R) (by omega))) (m_tell 10 (x := 10) rfl))
    have hL : L ++ (lsS code i 0 ++ tlS R) = L ++ tlS R := rfl
    rw [hL] at b1 hQ
    refine h L f b1 ho _ (fun f' ho' => br_le ((L ++ tlS R).length : Int) z (fun c => ?_) (fun c => ⟨inI z, ?_⟩))
    · have := hQ (iI ((L ++ tlS R).length : Int)) f'
      rw [if_neg (by omega)] at this
      exact this
    · have := hQ (iI ((L ++ tlS R).length : Int)) f'
      rw [if_pos (by omega)] at this
      rw [iI_cl (by omega) (by omega), ho' _ (by omega)]
      exact this
  | m + 1, i, L, f, hi, b1, ho, hQ => by
    have hL : L ++ (lsS code i (m + 1) ++ tlS R) = (L ++ insS i (code i)) ++ (lsS code (i + 1) m ++ tlS R) := by
      show L ++ ((insS i (code i) ++ lsS code (i + 1) m) ++ tlS R) = _
      rw [List.append_assoc, List.append_assoc]
    rw [hL] at b1 hQ
    rw [wX9_listingChar_22, g3, g4, hv3, hv4]
    refine ⟨v3, br_le N i (fun c => by omega) (fun _ x2 hx2 => ?_)⟩
    have e5 : x2 = iI ((5 + 5 * i : Nat) : Int) := by rw [hx2]; show iI 5 + iI 5 * iI i = _; rw [iI_mul, iI_add]; rfl
    subst e5
    have a1 : iI ((5 + 5 * i : Nat) : Int) + 1 = iI ((5 + 5 * i + 1 : Nat) : Int) := by show iI _ + iI 1 = _; rw [iI_add]; rfl
    have a2 : iI ((5 + 5 * i : Nat) : Int) + 2 = iI ((5 + 5 * i + 2 : Nat) : Int) := by show iI _ + iI 2 = _; rw [iI_add]; rfl
    have a3 : iI ((5 + 5 * i : Nat) : Int) + 3 = iI ((5 + 5 * i + 3 : Nat) : Int) := by show iI _ + iI 3 = _; rw [iI_add]; rfl
    have a4 : iI ((5 + 5 * i : Nat) : Int) + 4 = iI ((5 + 5 * i + 4 : Nat) : Int) := by show iI _ + iI 4 = _; rw [iI_add]; rfl
    have e2 : iI i + 1 = iI ((i + 1 : Nat) : Int) := by show iI i + iI 1 = _; rw [iI_add]; rfl
    obtain ⟨k0, k1, k2, k3, k4⟩ := hmc i (by omega)
    have hw := wfc i (by omega)
    rw [a1, a2, a3, a4, iI_clN (by omega), iI_clN (by omega), iI_clN (by omega), iI_clN (by omega), iI_clN (by omega), k0, k1, k2, k3, k4, e2]
    have h : TL (insS i (code i)) _ := TL_seq (m_tell 118 (x := 118) rfl) (TL_seq (m_num (x := i + 1) (by omega)) (TL_seq (m_word hnm (w := 12) (by decide)) (TL_seq (TL_and (inI ((5 + 5 * i : Nat) : Int) (n := 206)) (m_word hnm (w := (code i).1) (by have := hw.1; omega))) (TL_seq (m_tell 32 (x := 32) rfl) (TL_seq (TL_and (inI ((5 + 5 * i + 1 : Nat) : Int) (n := 206)) (TL_and (inI ((5 + 5 * i + 2 : Nat) : Int) (n := 206)) (m_opS (wf_le w16 w4 (by omega) hw.2.1)))) (TL_seq (m_word hnm (w := 13) (by decide)) (TL_seq (TL_and (inI ((5 + 5 * i + 3 : Nat) : Int) (n := 206)) (TL_and (inI ((5 + 5 * i + 4 : Nat) : Int) (n := 206)) (m_opS (wf_le w16 w4 (by omega) hw.2.2.1)))) (m_tell 10 (x := 10) rfl))))))))
    have h' := h L f (by rw [List.length_append] at b1; omega) ho (fun n f' => ∀ x : Int32, x = iI ((i + 1 : Nat) : Int) → wX9_listingChar_22 v nm (iI z) Q (m + 1) x n f') (fun f' ho' x hx => by rw [hx]; exact m_li22 w4 w16 n40 rN wfc hv3 hv4 hmc hnm z0 z1 m (i + 1) _ f' (by omega) b1 ho' hQ)
    exact ⟨fun _ => h', fun c => absurd rfl c⟩

set_option maxHeartbeats 1000000 in
theorem s_22 {L : Nat} {xs : Nat → Int32} (hL : L ≤ 3072) {aP : Nat → Nat} {i : Int32} (hi0 : 0 ≤ i.toInt) (hi6 : i.toInt + 6 ≤ L) {t_generator_input : Int32} {t_program_width : Int32} {t_program_length : Int32} {t_program_result : Int32} {t_program_taskKind : Int32} {t_program_taskDivisor : Int32} {f_t_program_operations : Nat → Int32} {f_t_program_firsts : Nat → Int32} {f_t_program_seconds : Nat → Int32} {f_t_costs : Nat → Int32} {t_history_next : Int32} {t_history_kept : Int32} {f_t_machine_values : Nat → Int32} {f_t_machine_depths : Nat → Int32} {f_t_tidier_newNumbers : Nat → Int32} {f_t_tidier_needed : Nat → Int32} {t_listing_left : Int32} {t_listing_seen : Int32} {sW : Nat → Int32} {sL : Nat → Int32} {sR : Nat → Int32} {sK : Nat → Int32} {sD : Nat → Int32} {sO : Nat → Nat → Int32} {sF : Nat → Nat → Int32} {sS : Nat → Nat → Int32} {k_edits : Int32} {k_thrown : Int32} {k_outs : Int32} {f_k_v : Nat → Int32} {f_k_past : Nat → Int32} {f_k_costs : Nat → Int32} {f_k_into : Nat → Int32} {f_k_isNeeded : Nat → Int32} {f_k_depths : Nat → Int32} {f_k_names : Nat → Int32} {f_k_out : Nat → Int32} {f_k_has : Nat → Int64} {f_out : Nat → Int64} (hR : Rel t_generator_input t_program_width t_program_length t_program_result t_program_taskKind t_program_taskDivisor f_t_program_operations f_t_program_firsts f_t_program_seconds f_t_costs t_history_next t_history_kept f_t_machine_values f_t_machine_depths f_t_tidier_newNumbers f_t_tidier_needed t_listing_left t_listing_seen sW sL sR sK sD sO sF sS k_edits k_thrown k_outs f_k_v f_k_past f_k_costs f_k_into f_k_isNeeded f_k_depths f_k_names f_k_out f_k_has f_out) : wc_22 L xs aP i t_generator_input t_program_width t_program_length t_program_result t_program_taskKind t_program_taskDivisor f_t_program_operations f_t_program_firsts f_t_program_seconds f_t_costs t_history_next t_history_kept f_t_machine_values f_t_machine_depths f_t_tidier_newNumbers f_t_tidier_needed t_listing_left t_listing_seen sW sL sR sK sD sO sF sS k_edits k_thrown k_outs f_k_v f_k_past f_k_costs f_k_into f_k_isNeeded f_k_depths f_k_names f_k_out f_k_has f_out Rel := by
  have hR' := hR
  obtain ⟨gi, hcst, hnm, hd0, ⟨W, N, R, kd, dv, code⟩, nx, E, hs, hw, hc, hm, hx, hE8, hws, hch0, hmh⟩ := hR
  have w4 : 4 ≤ W := hw.1
  have w16 : W ≤ 16 := hw.2.1
  have n40 : N ≤ 40 := hw.2.2.1
  have rN : R ≤ N := hw.2.2.2.1
  have tk : kd = -1 ∨ tsk W kd dv := hw.2.2.2.2.1
  have wfc : ∀ i, i < N → wfI W i (code i) := hw.2.2.2.2.2
  obtain ⟨p16, pm, ph⟩ := pw w4 w16
  have e1 : t_program_width = iI W := hc.1
  have e2 : t_program_length = iI N := hc.2.1
  have e3 : t_program_result = iI R := hc.2.2.1
  have e4 : t_program_taskKind = iI kd := hc.2.2.2.1
  have hd : kd ≠ -1 → t_program_taskDivisor = iI dv := hc.2.2.2.2.1
  have hcc : cCode N code f_t_program_operations f_t_program_firsts f_t_program_seconds := hc.2.2.2.2.2
  have hv0 : f_k_v 0 = iI W := hm.1
  have hv3 : f_k_v 3 = iI N := hm.2.1
  have hv4 : f_k_v 4 = iI R := hm.2.2.1
  have hv1 : f_k_v 1 = iI kd := hm.2.2.2.1
  have hv2 : kd ≠ -1 → f_k_v 2 = iI dv := hm.2.2.2.2.1
  have hmc : mCode N code f_k_v := hm.2.2.2.2.2
  have hpw := hPush_w hE8 hws hw
  subst e1 e2 e3 e4
  unfold wc_22
  refine ⟨ixl hL hi0 hi6 1 (by decide) (by decide), ?_⟩
  generalize xs (i + 1).toNatClampNeg = x
  obtain ⟨z, z1, z2, rfl⟩ := iI_of x
  unfold wL_listingChar wX8_listingChar wX9_listingChar wX9_thrown wX9_fails
  have hl1 := lsS_len wfc N 0 (by omega)
  have hl2 := tlS_len R
  have hl3 : (lsS code 0 N ++ tlS R).length ≤ 1774 := by rw [List.length_append]; omega
  refine br_le 0 z (fun a => ?_) (fun a => ?_)
  · obtain ⟨k, rfl⟩ : ∃ k : Nat, (k : Int) = z := ⟨z.toNat, by omega⟩
    have hS := pSn_get (lsS code 0 N ++ tlS R) k (-1)
    unfold wX2_charAt
    rw [im1]
    refine ⟨N + 1, c_ch12 w4 w16 n40 rN wfc hcc N 0 k (-1) (by omega) (by omega) (by omega) (by omega) (by omega) (Or.inl rfl) (fun l' => ?_)⟩
    · refine ⟨in01, ixl hL hi0 hi6 1 (by decide) (by decide), br_le 0 (k : Int) (fun _ => ?_) (fun q => by omega)⟩
      refine ⟨_, m_li22 w4 w16 n40 rN wfc hv3 hv4 hmc hnm a z2 N 0 [] _ (by omega) (by rw [List.nil_append]; omega) (fun j hj => absurd hj (Nat.not_lt_zero _)) (fun n f' => end_ok ?_ ⟨gi, hcst, hnm, hd0, (W, N, R, kd, dv, code), nx, E, hs, hw, hc, hm, hx, hE8, hws, hch0, hmh⟩)⟩
      rw [up00, List.nil_append, hS, Int.toNat_natCast]
  · refine ⟨rfl, ixl hL hi0 hi6 1 (by decide) (by decide), br_le 0 z (fun q => by omega) (fun _ => end_no (by decide) hR')⟩
