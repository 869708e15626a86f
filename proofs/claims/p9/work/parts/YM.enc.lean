/-! ===== the reference's elements and the class's codes ===== -/
/-- where codes of PARAMS lie -/
def bOK (b0 b1 : Int) : Prop := ((1000 ≤ b0 ∧ b0 + 6 ≤ 2000) ∨ (4000 ≤ b0 ∧ b0 + 6 ≤ 5000)) ∧ 2000 ≤ b1 ∧ b1 + 6 ≤ 4000
/-- codes of a scope with n and m PARAMS -/
def cdW (n m : Int) (A : List Int) : Prop := ∀ c ∈ A, 0 ≤ c ∧ c < 36 ∧ (24 ≤ c → c < 30 → c - 24 < n) ∧ (30 ≤ c → c - 30 < m)
section YME2
variable {ar : Int → Int} {b0 b1 β0 β1 c c' n m : Int} {A B l : List Int} {X Y : List (List Int)} {η : Nat → List Int}
theorem rhE_m (ha : 0 ≤ ar c ∧ ar c ≤ 7) : m8 (rhE ar b0 b1 c) = ar c := by
  unfold m8 rhE
  omega
theorem rhE_lo (h : c < 24) : rhE ar b0 b1 c = 8 * c + ar c := by
  unfold rhE rhC
  rw [if_pos h]
theorem rhC_inj (hb : bOK b0 b1) (h0 : 0 ≤ c ∧ c < 42) (h1 : 0 ≤ c' ∧ c' < 42) (h : rhC b0 b1 c = rhC b0 b1 c') : c = c' := by
  unfold bOK at hb
  obtain ⟨hb0, hb1⟩ := hb
  unfold rhC at h
  have h3 : 1000 ≤ b0 ∧ b0 + 6 ≤ 5000 ∧ (b0 + 6 ≤ 2000 ∨ 4000 ≤ b0) := by omega
  by_cases p1 : c < 24
  · rw [if_pos p1] at h
    by_cases q1 : c' < 24
    · rw [if_pos q1] at h
      exact h
    · rw [if_neg q1] at h
      by_cases q2 : c' < 30
      · rw [if_pos q2] at h
        omega
      · rw [if_neg q2] at h
        by_cases q3 : c' < 36
        · rw [if_pos q3] at h
          omega
        · rw [if_neg q3] at h
          omega
  · rw [if_neg p1] at h
    by_cases p2 : c < 30
    · rw [if_pos p2] at h
      by_cases q1 : c' < 24
      · rw [if_pos q1] at h
        omega
      · rw [if_neg q1] at h
        by_cases q2 : c' < 30
        · rw [if_pos q2] at h
          omega
        · rw [if_neg q2] at h
          by_cases q3 : c' < 36
          · rw [if_pos q3] at h
            omega
          · rw [if_neg q3] at h
            omega
    · rw [if_neg p2] at h
      by_cases p3 : c < 36
      · rw [if_pos p3] at h
        by_cases q1 : c' < 24
        · rw [if_pos q1] at h
          omega
        · rw [if_neg q1] at h
          by_cases q2 : c' < 30
          · rw [if_pos q2] at h
            omega
          · rw [if_neg q2] at h
            by_cases q3 : c' < 36
            · rw [if_pos q3] at h
              omega
            · rw [if_neg q3] at h
              omega
      · rw [if_neg p3] at h
        by_cases q1 : c' < 24
        · rw [if_pos q1] at h
          omega
        · rw [if_neg q1] at h
          by_cases q2 : c' < 30
          · rw [if_pos q2] at h
            omega
          · rw [if_neg q2] at h
            by_cases q3 : c' < 36
            · rw [if_pos q3] at h
              omega
            · rw [if_neg q3] at h
              omega
theorem rhE_inj (ha : ∀ c, 0 ≤ ar c ∧ ar c ≤ 7) (hb : bOK b0 b1) (h0 : 0 ≤ c ∧ c < 42) (h1 : 0 ≤ c' ∧ c' < 42) (h : rhE ar b0 b1 c = rhE ar b0 b1 c') : c = c' := by
  refine rhC_inj hb h0 h1 ?_
  rw [← rhE_d (ha c), ← rhE_d (ha c'), h]
theorem enc_inj (ha : ∀ c, 0 ≤ ar c ∧ ar c ≤ 7) (hb : bOK b0 b1) : ∀ A B : List Int, (∀ c ∈ A, 0 ≤ c ∧ c < 42) → (∀ c ∈ B, 0 ≤ c ∧ c < 42) → A.map (rhE ar b0 b1) = B.map (rhE ar b0 b1) → A = B
  | [], [], _, _, _ => rfl
  | [], c' :: B, _, _, h => by cases h
  | c :: A, [], _, _, h => by cases h
  | c :: A, c' :: B, h1, h2, h => by
    rw [List.map_cons, List.map_cons] at h
    injection h with h3 h4
    rw [rhE_inj ha hb (h1 c List.mem_cons_self) (h2 c' List.mem_cons_self) h3, enc_inj ha hb A B (fun c hc => h1 c (List.mem_cons_of_mem _ hc)) (fun c hc => h2 c (List.mem_cons_of_mem _ hc)) h4]
theorem isR_m8 (ha : ∀ c, 0 ≤ ar c ∧ ar c ≤ 7) : ∀ (A : List Int) (k : Int), isR ar k A → isR m8 k (A.map (rhE ar b0 b1))
  | [], k, h => h
  | c :: l, k, h => by
    obtain ⟨h1, h2, h3⟩ := h
    refine ⟨h1, ?_, ?_⟩
    · rw [rhE_m (ha c)]
      exact h2
    · rw [rhE_m (ha c)]
      exact isR_m8 ha l _ h3
theorem getD_map {f : List Int → List Int} (hf : f [] = []) (i : Nat) : (X.map f).getD i [] = f (X.getD i []) := by
  rw [List.getD_eq_getElem?_getD, List.getD_eq_getElem?_getD, List.getElem?_map]
  cases X[i]? with
  | none => exact hf.symm
  | some a => rfl
/-- one code -/
theorem enc_one (ha : ∀ c, 0 ≤ ar c ∧ ar c ≤ 7) (hb : bOK b0 b1) (hX6 : X.length ≤ 6) (h0 : 0 ≤ c ∧ c < 36) (hX : 24 ≤ c → c < 30 → c - 24 < (X.length : Int) ∧ η (c - 24).toNat = X.getD (c - 24).toNat []) (hY : 30 ≤ c → c - 30 < (Y.length : Int) ∧ η (c - 24).toNat = Y.getD (c - 30).toNat []) : rpt b0 (X.map (List.map (rhE ar β0 β1))) b1 (Y.map (List.map (rhE ar β0 β1))) (rhE ar b0 b1 c) = (if c < 24 then [c] else η (c - 24).toNat).map (rhE ar β0 β1) := by
  unfold bOK at hb
  unfold rpt
  rw [rhE_d (ha c), List.length_map, List.length_map]
  unfold rhC
  by_cases h1 : c < 24
  · rw [if_pos h1, if_pos h1, if_pos (by omega), rhE_lo h1]
    show [8 * c + ar c] = [rhE ar β0 β1 c]
    rw [rhE_lo h1]
  · rw [if_neg h1, if_neg h1]
    by_cases h2 : c < 30
    · obtain ⟨k1, k2⟩ := hX (by omega) h2
      rw [if_pos h2, if_neg (by omega), if_pos ⟨by omega, by omega⟩, getD_map rfl, k2, show b0 + (c - 24) - b0 = c - 24 by omega]
    · obtain ⟨k1, k2⟩ := hY (by omega)
      rw [if_neg h2, if_pos h0.2, if_neg (by omega), if_neg (by omega), if_pos ⟨by omega, by omega⟩, getD_map rfl, k2, show b1 + (c - 30) - b1 = c - 30 by omega]
theorem enc_put (ha : ∀ c, 0 ≤ ar c ∧ ar c ≤ 7) (hb : bOK b0 b1) (hX6 : X.length ≤ 6) : ∀ A : List Int, cdW (X.length : Int) (Y.length : Int) A → (∀ c ∈ A, (24 ≤ c → c < 30 → η (c - 24).toNat = X.getD (c - 24).toNat []) ∧ (30 ≤ c → η (c - 24).toNat = Y.getD (c - 30).toNat [])) → (A.map (rhE ar b0 b1)).flatMap (rpt b0 (X.map (List.map (rhE ar β0 β1))) b1 (Y.map (List.map (rhE ar β0 β1)))) = (sbs η A).map (rhE ar β0 β1)
  | [], _, _ => rfl
  | c :: A, h, g => by
    have ih := enc_put ha hb hX6 A (fun c hc => h c (List.mem_cons_of_mem _ hc)) (fun c hc => g c (List.mem_cons_of_mem _ hc))
    obtain ⟨h1, h2, h3, h4⟩ := h c List.mem_cons_self
    obtain ⟨g1, g2⟩ := g c List.mem_cons_self
    have e1 := enc_one (β0 := β0) (β1 := β1) (η := η) ha hb hX6 ⟨h1, h2⟩ (fun w1 w2 => ⟨h3 w1 w2, g1 w1 w2⟩) (fun w1 => ⟨h4 w1, g2 w1⟩)
    show rpt b0 (X.map (List.map (rhE ar β0 β1))) b1 (Y.map (List.map (rhE ar β0 β1))) (rhE ar b0 b1 c) ++ (A.map (rhE ar b0 b1)).flatMap _ = ((if c < 24 then [c] else η (c - 24).toNat) ++ sbs η A).map (rhE ar β0 β1)
    rw [ih, e1, List.map_append]
/-- nothing is put -/
theorem rpt_nil {c0 c1 : Int} : ∀ E : List Int, E.flatMap (rpt c0 [] c1 []) = E
  | [] => rfl
  | x :: E => by
    show rpt c0 [] c1 [] x ++ E.flatMap (rpt c0 [] c1 []) = x :: E
    rw [rpt_nil E]
    have e1 : rpt c0 [] c1 [] x = [x] := by
      unfold rpt
      by_cases h1 : x / 8 < 1000
      · rw [if_pos h1]
      · rw [if_neg h1, if_neg (fun q => by have := q.2; rw [List.length_nil] at this; omega), if_neg (fun q => by have := q.2; rw [List.length_nil] at this; omega)]
    rw [e1]
    rfl
theorem sbs_len_map : ((sbs η A).map (rhE ar β0 β1)).length = (sbs η A).length := List.length_map _
theorem fl_map {f : Int → Int} : ∀ X : List (List Int), (X.map (List.map f)).flatten = X.flatten.map f
  | [] => rfl
  | x :: X => by
    show x.map f ++ (X.map (List.map f)).flatten = (x ++ X.flatten).map f
    rw [fl_map X, List.map_append]
theorem cdW_mo {n' m' : Int} (h : cdW n m A) (hn : n ≤ n') (hm : m ≤ m') : cdW n' m' A := fun c hc => by
  obtain ⟨h1, h2, h3, h4⟩ := h c hc
  exact ⟨h1, h2, fun w1 w2 => by have := h3 w1 w2; omega, fun w1 => by have := h4 w1; omega⟩
/-- a code list of a type alone: the HEAD's place does not matter -/
theorem enc_b1 {b1' : Int} (h : cdW n 0 A) : A.map (rhE ar b0 b1) = A.map (rhE ar b0 b1') := by
  refine List.map_congr_left (fun c hc => ?_)
  obtain ⟨h1, h2, h3, h4⟩ := h c hc
  have h5 : c < 30 := by
    rcases Int.lt_or_le c 30 with q | q
    · exact q
    · have := h4 q
      omega
  unfold rhE rhC
  by_cases h6 : c < 24
  · rw [if_pos h6, if_pos h6]
  · rw [if_neg h6, if_neg h6, if_pos h5, if_pos h5]
end YME2
