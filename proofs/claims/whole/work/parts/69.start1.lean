/-! the law's start: the walk to its loop -/
theorem rng_map {α : Type} (l : List α) (n : Nat) (h : l.length = n) : (List.range n).map (fun i => l[i]?) = l.map some := by
  subst h
  apply List.ext_getElem?
  intro i
  simp only [List.getElem?_map, List.getElem?_range]
  by_cases hi : i < l.length
  · simp [List.getElem?_range, hi]
  · simp [List.getElem?_range, hi]
theorem nd_of : ∀ (l : List Nat), l.Nodup → va_nd l = true
  | [], _ => rfl
  | a :: l, h => by
    have h2 := List.nodup_cons.mp h
    simp only [va_nd, Bool.and_eq_true, decide_eq_true_eq]
    exact ⟨h2.1, nd_of l h2.2⟩
theorem nd_rng (n : Nat) : va_nd (List.range n) = true := nd_of _ List.nodup_range
theorem sepA_perm {A : Nat → Prop} {l l' : List Nat} (h : sepA A l) (is : List Nat) (hn : va_nd is = true) (hs : is.map (fun i => l[i]?) = l'.map some) : sepA A l' := by
  refine va_D.sub h is hn ?_
  have e : ∀ i, (l.map (fun a => (a, (Sum.inr (0, []) : va_E))))[i]? = Option.map (fun a => (a, (Sum.inr (0, []) : va_E))) l[i]? := fun i => List.getElem?_map
  have h2 : (is.map (fun i => l[i]?)).map (Option.map (fun a => (a, (Sum.inr (0, []) : va_E)))) = (l'.map some).map (Option.map (fun a => (a, (Sum.inr (0, []) : va_E)))) := by rw [hs]
  rw [List.map_map, List.map_map] at h2
  rw [List.map_map]
  refine Eq.trans (List.map_congr_left (fun i _ => e i)) h2
theorem sepA_left {A : Nat → Prop} {l1 l2 : List Nat} (h : sepA A (l1 ++ l2)) : sepA A l1 := sepA_perm h (List.range l1.length) (nd_rng _) (by
  rw [← rng_map l1 l1.length rfl]
  refine List.map_congr_left (fun i hi => ?_)
  exact List.getElem?_append_left (List.mem_range.mp hi))
theorem sepA_right {A : Nat → Prop} {l1 l2 : List Nat} (h : sepA A (l1 ++ l2)) : sepA A l2 := sepA_perm h ((List.range l2.length).map (l1.length + ·)) (nd_of _ (by
  refine List.Pairwise.map _ (fun a b (hab : a ≠ b) => ?_) List.nodup_range
  omega)) (by
  rw [← rng_map l2 l2.length rfl, List.map_map]
  refine List.map_congr_left (fun i hi => ?_)
  show (l1 ++ l2)[l1.length + i]? = l2[i]?
  rw [List.getElem?_append_right (Nat.le_add_right _ _), Nat.add_sub_cancel_left])
theorem sepA_cross {A : Nat → Prop} {l1 l2 : List Nat} (h : sepA A (l1 ++ l2)) : ∀ x ∈ l1, ∀ y ∈ l2, x ≠ y := by
  intro x hx y hy e
  obtain ⟨i, hi⟩ := List.mem_iff_getElem?.mp hx
  obtain ⟨j, hj⟩ := List.mem_iff_getElem?.mp hy
  have li : i < l1.length := (List.getElem?_eq_some_iff.mp hi).1
  have h1 := h.1 i (l1.length + j) (x, Sum.inr (0, [])) (y, Sum.inr (0, [])) (by rw [List.getElem?_map, List.getElem?_append_left li, hi]; rfl) (by rw [List.getElem?_map, List.getElem?_append_right (Nat.le_add_right _ _), Nat.add_sub_cancel_left, hj]; rfl) e
  omega
theorem lawSep_of {A : Nat → Prop} {aK aZ aM : List Nat} (h : sepA A ((aK ++ aZ) ++ aM)) : lawSep A aK aZ aM := by
  have h1 := sepA_left h
  have hc := sepA_cross h
  have hd := sepA_cross h1
  refine ⟨sepA_left h1, sepA_right h1, sepA_right h, h1, fun x hx y hy => ?_, fun x hx y hy e => hc y hy x hx e.symm, hc⟩
  rcases List.mem_append.mp hy with hy | hy
  · exact hd x hx y hy
  · exact hc x (List.mem_append_left _ hx) y hy
theorem cell_ext {c : ClassId} {f g : Nat → Option Nat} {n : Nat} (h : ∀ k, k < n → f k = g k) : vp_cell c (n, .inr (.inr (.inr (.inr f)))) = vp_cell c (n, .inr (.inr (.inr (.inr g)))) := by
  show arrV c n (fun j => va_rf (f j)) = arrV c n (fun j => va_rf (g j))
  unfold arrV
  have e : (fun j : Fin n => va_rf (f j.val)) = (fun j : Fin n => va_rf (g j.val)) := funext fun j => by rw [h j.val j.isLt]
  simp only [e]
theorem va_P_one {D : va_G} {x : Nat × va_E} {ws : va_W} {q : Nat} {c : ClassId} {a a' : vp_A} {H : Heap} (e : vp_cell c a = vp_cell c a') (h : va_P D vwCl (x :: (q, .inl (c, a)) :: ws) H) : va_P D vwCl (x :: (q, .inl (c, a')) :: ws) H := by
  intro k z hk
  match k, hk with
  | 0, hk => exact h 0 z hk
  | 1, hk =>
    cases hk
    have h1 := h 1 _ rfl
    show H[q]? = some (vp_cell c a')
    rw [← e]
    exact h1
  | k + 2, hk => exact h (k + 2) z hk
