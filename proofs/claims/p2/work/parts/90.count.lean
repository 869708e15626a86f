/-! ===== how many nodes are done ===== -/
def cnt (own : Nat → Nat × Nat) (D : Nat × Nat → Bool) (lo N : Nat) : Nat := (List.range' lo (N - lo)).countP (fun x => D (own x))
theorem cnt_le {own : Nat → Nat × Nat} {D : Nat × Nat → Bool} {lo N : Nat} : cnt own D lo N ≤ N - lo := by
  unfold cnt
  have := List.countP_le_length (p := fun x => D (own x)) (l := List.range' lo (N - lo))
  rw [List.length_range'] at this
  exact this
theorem cnt_add {own : Nat → Nat × Nat} {D D' : Nat × Nat → Bool} {lo N y h : Nat} {q : Nat × Nat} (h1 : lo ≤ y) (h2 : y ≤ h) (h3 : h ≤ N) (ho : ∀ x, y ≤ x → x < h → own x = q) (hq : D q = false) (hq' : D' q = true) (hD : ∀ p, D p = true → D' p = true) : cnt own D lo N + (h - y) ≤ cnt own D' lo N := by
  unfold cnt
  have e : List.range' lo (N - lo) = List.range' lo (y - lo) ++ (List.range' y (h - y) ++ List.range' h (N - h)) := by
    rw [show N - lo = (y - lo) + ((h - y) + (N - h)) by omega]
    rw [← List.range'_append_1 (s := lo) (m := y - lo) (n := (h - y) + (N - h))]
    rw [show lo + (y - lo) = y by omega]
    rw [← List.range'_append_1 (s := y) (m := h - y) (n := N - h)]
    rw [show y + (h - y) = h by omega]
  rw [e]
  simp only [List.countP_append]
  have m1 : (List.range' lo (y - lo)).countP (fun x => D (own x)) ≤ (List.range' lo (y - lo)).countP (fun x => D' (own x)) := List.countP_mono_left (fun x _ hx => hD _ hx)
  have m3 : (List.range' h (N - h)).countP (fun x => D (own x)) ≤ (List.range' h (N - h)).countP (fun x => D' (own x)) := List.countP_mono_left (fun x _ hx => hD _ hx)
  have m2 : (List.range' y (h - y)).countP (fun x => D (own x)) = 0 := by
    rw [List.countP_eq_zero]
    intro x hx
    rw [List.mem_range'_1] at hx
    rw [ho x hx.1 (by omega), hq]
    decide
  have m4 : (List.range' y (h - y)).countP (fun x => D' (own x)) = h - y := by
    have : (List.range' y (h - y)).countP (fun x => D' (own x)) = (List.range' y (h - y)).length := by
      rw [List.countP_eq_length]
      intro x hx
      rw [List.mem_range'_1] at hx
      rw [ho x hx.1 (by omega)]
      exact hq'
    rw [this, List.length_range']
  omega
/-- a slot is resolved, its elements V -/
def RSl (own : Nat → Nat × Nat) (b n N : Nat) (V : Nat → Prop) (s : yS) (q i : Nat) : Prop := ∃ y h p l : Nat, (s.2.1 q i).toInt = (y : Int) ∧ 4002 * b ≤ y ∧ h ≤ N ∧ isY b n s 11 h y ∧ (∀ x, y ≤ x → x < h → own x = (q, i)) ∧ rsv s V 11 y p l ∧ (p : Int) + l ≤ (s.1 65).toInt
theorem RSl_SY {own : Nat → Nat × Nat} {b n N : Nat} {V : Nat → Prop} {s : yS} {q i : Nat} (h : RSl own b n N V s q i) (hN : N ≤ 12006) (hS : (s.1 65).toInt ≤ 13000) : SY s q i ∧ isF 1 (tyS s q i) ∧ ∀ x ∈ tyS s q i, V x := by
  obtain ⟨y, h, p, l, h1, h2, h3, h4, h5, h6, h7⟩ := h
  have hl := isY_lt h4
  have h6' := h6
  obtain ⟨g1, g2, g3, g4, -⟩ := h6'
  have nY : NY s y p l := ⟨by omega, g1, g2, by omega, g4⟩
  refine ⟨⟨y, p, l, h1, nY⟩, ?_⟩
  rw [SY_ty h1 nY]
  exact ⟨rsv_F h6, rsv_V h6⟩
/-- resolving another slot leaves it -/
theorem RSl_eq {own : Nat → Nat × Nat} {b n N y0 h0 q0 i0 : Nat} {V : Nat → Prop} {s s' : yS} {q i : Nat} (h : RSl own b n N V s q i) (hF : RFr y0 h0 s s') (ho : ∀ x, y0 ≤ x → x < h0 → own x = (q0, i0)) (hne : ¬ (q, i) = (q0, i0)) (hS : (s.1 65).toInt ≤ (s'.1 65).toInt) (hq : q ∉ [231, 232, 264]) : RSl own b n N V s' q i := by
  obtain ⟨y, h, p, l, h1, h2, h3, h4, h5, h6, h7⟩ := h
  have hr : ∀ q, q ∉ [231, 232, 264] → s'.2.1 q = s.2.1 q := fun q hq => RFr_row hF hq
  refine ⟨y, h, p, l, by rw [hr q hq]; exact h1, h2, h3, isY_nd2 hr h4, h5, rsv_eq h4 (fun x x1 x2 => ?_) (fun j j1 j2 => hF.2.1 264 j (fun w => by omega) (fun w => by omega)) h6, by omega⟩
  have nx : ¬ (y0 ≤ x ∧ x < h0) := fun w => hne (by rw [← h5 x x1 x2]; exact ho x w.1 w.2)
  exact ⟨hF.2.1 231 x (fun w => nx w.2) (fun w => by omega), hF.2.1 232 x (fun w => nx w.2) (fun w => by omega), by rw [hr 224 (by decide)], fun _ => by rw [hr 225 (by decide)]⟩
