/-! ===== TYPES as rows of codes; the class's end, same ===== -/
/-- k TYPES in a row; a c: how many TYPES stand behind c -/
def isR (a : Int → Int) : Int → List Int → Prop
  | k, [] => k = 0
  | k, c :: l => 0 < k ∧ 0 ≤ a c ∧ isR a (k + a c - 1) l
/-- how many TYPES are still to come -/
def opn (a : Int → Int) : Int → List Int → Int
  | k, [] => k
  | k, c :: l => opn a (k + a c - 1) l
section YSH
variable {a ar : Int → Int} {k : Int} {A B l l' : List Int} {P d : Nat} {s : zS} {a1 a2 : Int32}
theorem opn_app : ∀ (l l' : List Int) (k : Int), opn a k (l ++ l') = opn a (opn a k l) l'
  | [], _, _ => rfl
  | c :: l, l', k => opn_app l l' _
theorem opn_s {c : Int} {i : Nat} (h : A[i]? = some c) : opn a k (A.take (i + 1)) = opn a k (A.take i) + a c - 1 := by
  rw [take_s h, opn_app]
  rfl
theorem isR_o : ∀ (A : List Int) (k : Int), isR a k A → opn a k A = 0 ∧ ∀ i, i < A.length → 0 < opn a k (A.take i)
  | [], k, h => ⟨h, fun i hi => absurd hi (Nat.not_lt_zero _)⟩
  | c :: l, k, h => by
    obtain ⟨h1, h2, h3⟩ := h
    obtain ⟨i1, i2⟩ := isR_o l _ h3
    refine ⟨i1, fun i hi => ?_⟩
    cases i with
    | zero => exact h1
    | succ i => exact i2 i (by rw [List.length_cons] at hi; omega)
theorem opn_b (h : ∀ c, 0 ≤ a c ∧ a c ≤ 7) : ∀ (l : List Int) (k : Int), k - (l.length : Int) ≤ opn a k l ∧ opn a k l ≤ k + 6 * (l.length : Int)
  | [], k => by
    show k - ((0 : Nat) : Int) ≤ k ∧ k ≤ k + 6 * ((0 : Nat) : Int)
    omega
  | c :: l, k => by
    have ih := opn_b h l (k + a c - 1)
    have := h c
    show k - ((l.length + 1 : Nat) : Int) ≤ opn a (k + a c - 1) l ∧ opn a (k + a c - 1) l ≤ k + 6 * ((l.length + 1 : Nat) : Int)
    omega
theorem isR_app : ∀ (l l' : List Int) (k k' : Int), 0 ≤ k' → isR a k l → isR a k' l' → isR a (k + k') (l ++ l')
  | [], l', k, k', _, h, g => by
    have e : k = 0 := h
    rw [e, List.nil_append, Int.zero_add]
    exact g
  | c :: l, l', k, k', h0, h, g => by
    obtain ⟨h1, h2, h3⟩ := h
    refine ⟨by omega, h2, ?_⟩
    have := isR_app l l' _ k' h0 h3 g
    rw [show k + k' + a c - 1 = k + a c - 1 + k' by omega]
    exact this
theorem isR_ne (h : isR a 1 A) : A ≠ [] := fun e => by
  rw [e] at h
  have : (1 : Int) = 0 := h
  omega
/-- two TYPES, one ahead of the other in the same row, are one -/
theorem isR_pre (hA : isR a k A) (hB : isR a k B) (h : A = B.take A.length) : A = B := by
  obtain ⟨a1, -⟩ := isR_o A k hA
  obtain ⟨-, b2⟩ := isR_o B k hB
  rcases Nat.lt_or_ge A.length B.length with w1 | w1
  · have := b2 A.length w1
    rw [← h, a1] at this
    omega
  · rw [h, List.take_of_length_le w1]
theorem WDz_at {x : Int} (h : WDz P s x A) {i : Nat} {c : Int} (hc : A[i]? = some c) : KI (s.2 (P + 18)) (x + i) = c := h i c hc
/-- end -/
theorem zs_83 (hP : P = 3 ∨ P = 39) (hA : KI (s.2 (P + 22)) = ar) (h6 : ∀ c, 0 ≤ ar c ∧ ar c ≤ 7) (hR : isR ar 1 A) (hl : A.length ≤ 4000) (h1 : 0 ≤ a1.toInt ∧ a1.toInt ≤ 100000) (hw : WDz P s a1.toInt A) : Zt (d + 9) (wd P 83) 83 [.ref 75, .int a1] s (fun v s' => s' = s ∧ ∃ r : Int32, v = some (.int r) ∧ r.toInt = a1.toInt + (A.length : Int)) := by
  obtain ⟨o1, o2⟩ := isR_o A 1 hR
  refine zc_83 hP ?_
  unfold v_83_0
  refine ⟨fun c1 c2 c3 c4 u => u = s ∧ c1 = a1 ∧ ∃ i : Nat, i ≤ A.length ∧ c4.toInt = (i : Int) ∧ c2.toInt = a1.toInt + (i : Int) ∧ c3.toInt = opn ar 1 (A.take i), fun _ _ _ c4 _ => (4000 - c4.toInt).toNat, ⟨rfl, rfl, 0, Nat.zero_le _, by decide, by omega, by rw [List.take_zero]; exact (show (1 : Int32).toInt = 1 by decide)⟩, ?_⟩
  rintro c1 c2 c3 c4 u ⟨e1, e2, i, g1, g2, g3, g4⟩
  subst e1 e2
  unfold v_83_6
  have fin : ¬ i < A.length → v_83_26 (fun j => Zt (d + 8) (wd P j) j) P c1 c2 c3 c4 u (fun v s' => s' = u ∧ ∃ r : Int32, v = some (.int r) ∧ r.toInt = c1.toInt + (A.length : Int)) := fun hi => by
    have : i = A.length := by omega
    exact ⟨rfl, c2, rfl, by omega⟩
  refine ⟨fun y => fin (by omega), fun y => ⟨fun y1 => fin (fun hi => ?_), fun y1 x1 hx1 x2 hx2 x3 hx3 x4 hx4 => ?_⟩⟩
  · have := o2 i hi
    omega
  · have hi : i < A.length := by
      rcases Nat.lt_or_ge i A.length with h | h
      · exact h
      · have e : i = A.length := by omega
        rw [e, List.take_length, o1] at g4
        omega
    obtain ⟨c, hc⟩ : ∃ c, A[i]? = some c := ⟨_, List.getElem?_eq_getElem hi⟩
    have wc := hw i c hc
    have ev : (zg u (P + 22) (zg u (P + 18) c2)).toInt = ar c := by
      rw [zg_K, hA, zg_K, g3, wc]
    rw [ev] at hx1
    have hb := h6 c
    have ho := opn_b h6 (A.take i) 1
    rw [List.length_take] at ho
    have q1 := hx1 (by omega)
    have q2 := hx2 (by omega)
    have q3 := hx3 (by omega)
    have q4 := hx4 (by omega)
    refine ⟨⟨rfl, rfl, i + 1, by omega, by omega, by omega, ?_⟩, by dsimp only; omega⟩
    rw [opn_s hc]
    omega
/-- same -/
theorem zs_84 (hP : P = 3 ∨ P = 39) (hA : KI (s.2 (P + 22)) = ar) (h6 : ∀ c, 0 ≤ ar c ∧ ar c ≤ 7) (hR : isR ar 1 A) (hR2 : isR ar 1 B) (hl : A.length ≤ 60) (h1 : 0 ≤ a1.toInt ∧ a1.toInt ≤ 100000) (h2 : 0 ≤ a2.toInt ∧ a2.toInt ≤ 100000) (hw : WDz P s a1.toInt A) (hw2 : WDz P s a2.toInt B) : Zt (d + 9) (wd P 84) 84 [.ref 75, .int a1, .int a2] s (fun v s' => s' = s ∧ ∃ r : Int32, v = some (.int r) ∧ ((r.toInt = 1 ∧ A = B) ∨ (r.toInt = 0 ∧ ¬ A = B))) := by
  obtain ⟨o1, o2⟩ := isR_o A 1 hR
  obtain ⟨p1, p2⟩ := isR_o B 1 hR2
  refine zc_84 hP ?_
  unfold v_84_0
  refine ⟨fun c1 c2 c3 c4 u => u = s ∧ c1 = a1 ∧ c2 = a2 ∧ ∃ i : Nat, i ≤ A.length ∧ c4.toInt = (i : Int) ∧ c3.toInt = opn ar 1 (A.take i) ∧ A.take i = B.take i, fun _ _ _ c4 _ => (60 - c4.toInt).toNat, ⟨rfl, rfl, rfl, 0, Nat.zero_le _, by decide, by rw [List.take_zero]; exact (show (1 : Int32).toInt = 1 by decide), by rw [List.take_zero, List.take_zero]⟩, ?_⟩
  rintro c1 c2 c3 c4 u ⟨e1, e2, e3, i, g1, g2, g3, g4⟩
  subst e1 e2 e3
  unfold v_84_4
  have fin : ¬ i < A.length → v_84_37 (fun j => Zt (d + 8) (wd P j) j) P c1 c2 c3 c4 u (fun v s' => s' = u ∧ ∃ r : Int32, v = some (.int r) ∧ ((r.toInt = 1 ∧ A = B) ∨ (r.toInt = 0 ∧ ¬ A = B))) := fun hi => by
    have e : i = A.length := by omega
    rw [e, List.take_length] at g4
    exact ⟨rfl, 1, rfl, Or.inl ⟨by decide, isR_pre hR hR2 g4⟩⟩
  refine ⟨fun y => fin (by omega), fun y => ⟨fun y1 => fin (fun hi => ?_), fun y1 x1 hx1 x2 hx2 => ?_⟩⟩
  · have := o2 i hi
    omega
  · have hi : i < A.length := by
      rcases Nat.lt_or_ge i A.length with h | h
      · exact h
      · have e : i = A.length := by omega
        rw [e, List.take_length, o1] at g3
        omega
    have hiB : i < B.length := by
      rcases Nat.lt_or_ge i B.length with h | h
      · exact h
      · have e : B.take i = B := List.take_of_length_le h
        have := o2 i hi
        rw [g4, e, p1] at this
        omega
    obtain ⟨c, hc⟩ : ∃ c, A[i]? = some c := ⟨_, List.getElem?_eq_getElem hi⟩
    obtain ⟨c', hc'⟩ : ∃ c', B[i]? = some c' := ⟨_, List.getElem?_eq_getElem hiB⟩
    have q1 := hx1 (by omega)
    have q2 := hx2 (by omega)
    have v1 : (zg u (P + 18) x1).toInt = c := by
      rw [zg_K, q1, g2]
      exact hw i c hc
    have v2 : (zg u (P + 18) x2).toInt = c' := by
      rw [zg_K, q2, g2]
      exact hw2 i c' hc'
    have ev : (zg u (P + 22) (zg u (P + 18) x1)).toInt = ar c := by rw [zg_K, hA, v1]
    rw [v1, v2, ev]
    have hb := h6 c
    have ho := opn_b h6 (A.take i) 1
    rw [List.length_take] at ho
    refine ⟨fun y2 x3 hx3 x4 hx4 x5 hx5 => ?_, fun y2 => ⟨rfl, 0, rfl, Or.inr ⟨by decide, fun e => ?_⟩⟩⟩
    · have q3 := hx3 (by omega)
      have q4 := hx4 (by omega)
      have q5 := hx5 (by omega)
      refine ⟨⟨rfl, rfl, rfl, i + 1, by omega, by omega, ?_, ?_⟩, by dsimp only; omega⟩
      · rw [opn_s hc]
        omega
      · rw [take_s hc, take_s hc', g4, y2]
    · rw [e, hc'] at hc
      exact y2 (Option.some.inj hc).symm
/-! one TYPE off a row -/
def tkT (a : Int → Int) : Int → List Int → List Int × List Int
  | _, [] => ([], [])
  | k, c :: l => if k ≤ 0 then ([], c :: l) else (c :: (tkT a (k + a c - 1) l).1, (tkT a (k + a c - 1) l).2)
theorem tkT_0 {l : List Int} : tkT a 0 l = ([], l) := by
  cases l with
  | nil => rfl
  | cons c l =>
    show (if (0 : Int) ≤ 0 then _ else _) = _
    rw [if_pos (Int.le_refl _)]
theorem tkT_app : ∀ (l l' : List Int) (k : Int), isR a k l → tkT a k (l ++ l') = (l, l')
  | [], l', k, h => by
    have e : k = 0 := h
    rw [e, List.nil_append]
    exact tkT_0
  | c :: l, l', k, h => by
    obtain ⟨h1, h2, h3⟩ := h
    show (if k ≤ 0 then _ else (c :: (tkT a (k + a c - 1) (l ++ l')).1, (tkT a (k + a c - 1) (l ++ l')).2)) = _
    rw [if_neg (by omega), tkT_app l l' _ h3]
theorem tkT_ok : ∀ (l : List Int) (k j : Int), 0 ≤ k → 0 ≤ j → isR a (k + j) l → (∀ c, 0 ≤ a c) → l = (tkT a k l).1 ++ (tkT a k l).2 ∧ isR a k (tkT a k l).1 ∧ isR a j (tkT a k l).2
  | [], k, j, hk, hj, h, _ => by
    have e : k + j = 0 := h
    exact ⟨rfl, by show k = 0; omega, by show j = 0; omega⟩
  | c :: l, k, j, hk, hj, h, ha => by
    obtain ⟨h1, h2, h3⟩ := h
    show c :: l = (if k ≤ 0 then (([] : List Int), c :: l) else (c :: (tkT a (k + a c - 1) l).1, (tkT a (k + a c - 1) l).2)).1 ++ (if k ≤ 0 then (([] : List Int), c :: l) else (c :: (tkT a (k + a c - 1) l).1, (tkT a (k + a c - 1) l).2)).2 ∧ isR a k (if k ≤ 0 then (([] : List Int), c :: l) else (c :: (tkT a (k + a c - 1) l).1, (tkT a (k + a c - 1) l).2)).1 ∧ isR a j (if k ≤ 0 then (([] : List Int), c :: l) else (c :: (tkT a (k + a c - 1) l).1, (tkT a (k + a c - 1) l).2)).2
    by_cases h0 : k ≤ 0
    · rw [if_pos h0]
      refine ⟨rfl, by show k = 0; omega, ?_⟩
      have e : k + j = j := by omega
      rw [e] at h3 h1
      exact ⟨h1, h2, h3⟩
    · rw [if_neg h0]
      have hac := ha c
      obtain ⟨i1, i2, i3⟩ := tkT_ok l (k + a c - 1) j (by omega) hj (by rw [show k + a c - 1 + j = k + j + a c - 1 by omega]; exact h3) ha
      refine ⟨?_, ⟨by omega, h2, i2⟩, i3⟩
      show c :: l = c :: ((tkT a (k + a c - 1) l).1 ++ (tkT a (k + a c - 1) l).2)
      rw [← i1]
/-- n TYPES, one by one -/
def spl (a : Int → Int) : Nat → List Int → List (List Int)
  | 0, _ => []
  | n + 1, l => (tkT a 1 l).1 :: spl a n (tkT a 1 l).2
theorem spl_len : ∀ (n : Nat) (l : List Int), (spl a n l).length = n
  | 0, _ => rfl
  | n + 1, l => by
    show (spl a n (tkT a 1 l).2).length + 1 = n + 1
    rw [spl_len n]
theorem spl_ok (ha : ∀ c, 0 ≤ a c) : ∀ (n : Nat) (l : List Int), isR a (n : Int) l → (spl a n l).flatten = l ∧ ∀ x ∈ spl a n l, isR a 1 x
  | 0, l, h => by
    have e : l = [] := by
      cases l with
      | nil => rfl
      | cons c l =>
        have := h.1
        omega
    rw [e]
    exact ⟨rfl, fun x hx => absurd hx List.not_mem_nil⟩
  | n + 1, l, h => by
    obtain ⟨i1, i2, i3⟩ := tkT_ok l 1 (n : Int) (by omega) (by omega) (by rw [show (1 : Int) + (n : Int) = ((n + 1 : Nat) : Int) by omega]; exact h) ha
    obtain ⟨j1, j2⟩ := spl_ok ha n _ i3
    refine ⟨?_, fun x hx => ?_⟩
    · show (tkT a 1 l).1 ++ (spl a n (tkT a 1 l).2).flatten = l
      rw [j1]
      exact i1.symm
    · rcases List.mem_cons.mp hx with e | hx
      · rw [e]
        exact i2
      · exact j2 x hx
end YSH
