/-! ===== how many nodes are done ===== -/
def cnt (own : Nat → Nat × Nat) (D : Nat × Nat → Bool) (lo N : Nat) : Nat := (List.range' lo (N - lo)).countP (fun x => D (own x))
theorem cnt_le {own : Nat → Nat × Nat} {D : Nat × Nat → Bool} {lo N : Nat} : cnt own D lo N ≤ N - lo := by
  unfold cnt
  have := List.countP_le_length (p := fun x => D (own x)) (l := List.range' lo (N - lo))
  rw [List.length_range'] at this
  exact this
theorem cnt_add {own : Nat → Nat × Nat} {D D' : Nat × Nat → Bool} {lo N y h : Nat} {q : Nat × Nat} (h1 : lo ≤ y) (h2 : y ≤ h) (h3 : h ≤ N) (ho : ∀ x, y ≤ x → x < h → own x = q) (hq : D q = false) (hq' : D' q = true) (hD : ∀ p, D p = true → D' p = true) : cnt own D lo N + (h - y) ≤ cnt own D' lo N := by
  unfold cnt
  have e : List.range' lo (N - lo) = List.range' lo (y - lo) ++ (List.range' y (h - y) ++ List.range' h (N - h)) := by
    rw [show N - lo = (y - lo) + ((h - y) + (N - h)) by omega]
    rw [← List.range'_append_1 (s := lo) (m := y - lo) (n := (h - y) + (N - h))]
    rw [show lo + (y - lo) = y by omega]
    rw [← List.range'_append_1 (s := y) (m := h - y) (n := N - h)]
    rw [show y + (h - y) = h by omega]
  rw [e]
  simp only [List.countP_append]
  have m1 : (List.range' lo (y - lo)).countP (fun x => D (own x)) ≤ (List.range' lo (y - lo)).countP (fun x => D' (own x)) := List.countP_mono_left (fun x _ hx => hD _ hx)
  have m3 : (List.range' h (N - h)).countP (fun x => D (own x)) ≤ (List.range' h (N - h)).countP (fun x => D' (own x)) := List.countP_mono_left (fun x _ hx => hD _ hx)
  have m2 : (List.range' y (h - y)).countP (fun x => D (own x)) = 0 := by
    rw [List.countP_eq_zero]
    intro x hx
    rw [List.mem_range'_1] at hx
    rw [ho x hx.1 (by omega), hq]
    decide
  have m4 : (List.range' y (h - y)).countP (fun x => D' (own x)) = h - y := by
    have : (List.range' y (h - y)).countP (fun x => D' (own x)) = (List.range' y (h - y)).length := by
      rw [List.countP_eq_length]
      intro x hx
      rw [List.mem_range'_1] at hx
      rw [ho x hx.1 (by omega)]
      exact hq'
    rw [this, List.length_range']
  omega
