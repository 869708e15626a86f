/-! ===== the class's tables: rows that grow ===== -/
def zaL (a : Nat) : List Int32 → zS → zS
  | [], s => s
  | v :: vs, s => zaL a vs (za s a v)
def zsz (s : zS) (a : Nat) : Int := (s.1 a 2).toInt
/-- what adding to a row leaves, and what it does -/
theorem zaL_fr {a : Nat} (hl : lim a ≤ 100000) : ∀ (vs : List Int32) (s : zS), 0 ≤ zsz s a → zsz s a ≤ (lim a : Int) → (∀ b k, ¬ (b = a ∧ k = 2) → (zaL a vs s).1 b k = s.1 b k) ∧ (∀ b, ¬ b = a → (zaL a vs s).2 b = s.2 b) ∧ zsz s a ≤ zsz (zaL a vs s) a ∧ zsz (zaL a vs s) a ≤ (lim a : Int) ∧ (∀ i : Nat, (i : Int) < zsz s a → (zaL a vs s).2 a i = s.2 a i) ∧ (zsz s a + (vs.length : Int) ≤ (lim a : Int) → zsz (zaL a vs s) a = zsz s a + (vs.length : Int) ∧ ∀ (j : Nat) (v : Int32), vs[j]? = some v → (zaL a vs s).2 a ((zsz s a).toNat + j) = v)
  | [], s, h0, h1 => ⟨fun _ _ _ => rfl, fun _ _ => rfl, Int.le_refl _, h1, fun _ _ => rfl, fun _ => ⟨by show zsz s a = zsz s a + ((0 : Nat) : Int); omega, fun j v h => by cases h⟩⟩
  | v :: vs, s, h0, h1 => by
    show (∀ b k, ¬ (b = a ∧ k = 2) → (zaL a vs (za s a v)).1 b k = s.1 b k) ∧ (∀ b, ¬ b = a → (zaL a vs (za s a v)).2 b = s.2 b) ∧ zsz s a ≤ zsz (zaL a vs (za s a v)) a ∧ zsz (zaL a vs (za s a v)) a ≤ (lim a : Int) ∧ (∀ i : Nat, (i : Int) < zsz s a → (zaL a vs (za s a v)).2 a i = s.2 a i) ∧ (zsz s a + ((v :: vs).length : Int) ≤ (lim a : Int) → zsz (zaL a vs (za s a v)) a = zsz s a + ((v :: vs).length : Int) ∧ ∀ (j : Nat) (w : Int32), (v :: vs)[j]? = some w → (zaL a vs (za s a v)).2 a ((zsz s a).toNat + j) = w)
    by_cases hlt : zsz s a < (lim a : Int)
    · have e : za s a v = zf (zr s a (zsz s a).toNat v) a 2 (s.1 a 2 + 1) := za_in hlt
      have ez : zsz (za s a v) a = zsz s a + 1 := by
        rw [e]
        unfold zsz
        rw [zf_1, if_pos ⟨rfl, rfl⟩]
        exact i_add rfl i1 (by unfold zsz at h0 hlt; omega)
      have e1 : ∀ b k, ¬ (b = a ∧ k = 2) → (za s a v).1 b k = s.1 b k := fun b k hb => by rw [e, zf_1, if_neg hb]; rfl
      have e2 : ∀ b j, (za s a v).2 b j = if b = a ∧ j = (zsz s a).toNat then v else s.2 b j := fun b j => by rw [e, zf_2, zr_2]
      obtain ⟨r1, r2, r3, r4, r5, r6⟩ := zaL_fr hl vs (za s a v) (by omega) (by omega)
      refine ⟨fun b k hb => by rw [r1 b k hb, e1 b k hb], fun b hb => by rw [r2 b hb]; exact funext (fun j => by rw [e2, if_neg (fun w => hb w.1)]), by omega, r4, fun i hi => by rw [r5 i (by omega), e2, if_neg (by omega)], fun hc => ?_⟩
      rw [List.length_cons] at hc ⊢
      obtain ⟨q1, q2⟩ := r6 (by omega)
      refine ⟨by omega, fun j w hj => ?_⟩
      cases j with
      | zero =>
        have : v = w := by
          simpa using hj
        rw [Nat.add_zero, r5 _ (by omega), e2, if_pos ⟨rfl, rfl⟩, this]
      | succ j =>
        have hj' : vs[j]? = some w := by simpa using hj
        have := q2 j w hj'
        rw [ez] at this
        rw [show (zsz s a).toNat + (j + 1) = (zsz s a + 1).toNat + j by omega]
        exact this
    · have e : za s a v = s := if_neg hlt
      rw [e]
      obtain ⟨r1, r2, r3, r4, r5, r6⟩ := zaL_fr hl vs s h0 h1
      refine ⟨r1, r2, r3, r4, r5, fun hc => ?_⟩
      rw [List.length_cons] at hc
      omega
/-- sizes are numbers of rows -/
def rwL : List Nat := [24, 26, 28, 30, 32]
def zSz (P : Nat) (s : zS) : Prop := ∀ r ∈ rwL, 0 ≤ zsz s (P + r) ∧ zsz s (P + r) ≤ (lim (P + r) : Int)
theorem limR {P : Nat} (hP : P = 3 ∨ P = 39) : lim (P + 22) = 24 ∧ lim (P + 24) = 144 ∧ lim (P + 26) = 600 ∧ lim (P + 28) = 20000 ∧ lim (P + 30) = 20000 ∧ lim (P + 32) = 252 := by
  rcases hP with rfl | rfl <;> decide +kernel
/-- a step that may add to the rows R -/
def FZq (R : List Nat) (P : Nat) (s s' : zS) : Prop := (∀ a k, ¬ (a = 82 ∧ k = 3) → ¬ (a = P ∧ k = 14) → (∀ r ∈ R, ¬ (a = P + r ∧ k = 2)) → s'.1 a k = s.1 a k) ∧ (∀ a, ¬ a = P + 12 → ¬ a = P + 22 → (∀ r ∈ R, ¬ a = P + r) → s'.2 a = s.2 a) ∧ ∀ r ∈ R, zsz s (P + r) ≤ zsz s' (P + r) ∧ ∀ i : Nat, (i : Int) < zsz s (P + r) → s'.2 (P + r) i = s.2 (P + r) i
section ZQ7
variable {d P : Nat} {s s' s'' : zS} {K L : Int → Int} {n : Int} {a1 a2 a3 a4 x : Int32} {R R' : List Nat}
theorem FZq_r (h : FZr P s s') : FZq [] P s s' := ⟨fun a k h1 h2 _ => h.1 a k h1 h2, fun a h1 _ _ => h.2 a h1, fun r hr => absurd hr List.not_mem_nil⟩
theorem FZq_sz (h : FZq R P s s') {r : Nat} (hr : r ∉ R) (hP : P = 3 ∨ P = 39) (h2 : r ∈ rwL) : zsz s' (P + r) = zsz s (P + r) := by
  unfold zsz
  rw [h.1 (P + r) 2 (by omega) (by omega) (fun q hq w => hr (by rw [show r = q by omega]; exact hq))]
theorem FZq_row (h : FZq R P s s') {r : Nat} (hr : r ∉ R) (h1 : ¬ r = 12) (h2 : ¬ r = 22) : s'.2 (P + r) = s.2 (P + r) := h.2.1 (P + r) (by omega) (by omega) (fun q hq w => hr (by rw [show r = q by omega]; exact hq))
theorem FZq_tr (h : FZq R P s s') (g : FZq R P s' s'') : FZq R P s s'' := ⟨fun a k h1 h2 h3 => (g.1 a k h1 h2 h3).trans (h.1 a k h1 h2 h3), fun a h1 h2 h3 => (g.2.1 a h1 h2 h3).trans (h.2.1 a h1 h2 h3), fun r hr => ⟨Int.le_trans (h.2.2 r hr).1 (g.2.2 r hr).1, fun i hi => ((g.2.2 r hr).2 i (Int.lt_of_lt_of_le hi (h.2.2 r hr).1)).trans ((h.2.2 r hr).2 i hi)⟩⟩
theorem FZq_mo (h : FZq R P s s') (hP : P = 3 ∨ P = 39) (hs : ∀ r ∈ R, r ∈ R') (hr : ∀ r ∈ R', r ∈ rwL) : FZq R' P s s' := ⟨fun a k h1 h2 h3 => h.1 a k h1 h2 (fun r q => h3 r (hs r q)), fun a h1 h2 h3 => h.2.1 a h1 h2 (fun r q => h3 r (hs r q)), fun r q => by
  by_cases w : r ∈ R
  · exact h.2.2 r w
  · refine ⟨by rw [FZq_sz h w hP (hr r q)]; exact Int.le_refl _, fun i _ => ?_⟩
    have hq := hr r q
    unfold rwL at hq
    simp only [List.mem_cons, List.not_mem_nil, or_false] at hq
    rw [FZq_row h w (by omega) (by omega)]⟩
theorem FZq_RDz (h : FZq R P s s') (hr : ∀ r ∈ R, r ∈ rwL) (hP : P = 3 ∨ P = 39) (g : RDz K L P n s) (hat : s'.1 82 3 = s.1 82 3) : RDz K L P n s' := by
  have ne : ∀ q, q = 4 ∨ q = 6 → ∀ r ∈ R, ¬ P + q = P + r := fun q hq r w => by
    have hq2 := hr r w
    unfold rwL at hq2
    simp only [List.mem_cons, List.not_mem_nil, or_false] at hq2
    omega
  exact ⟨by rw [h.2.1 (P + 4) (by omega) (by omega) (ne 4 (Or.inl rfl))]; exact g.1, by rw [h.2.1 (P + 6) (by omega) (by omega) (ne 6 (Or.inr rfl))]; exact g.2.1, by rw [hat]; exact g.2.2⟩
theorem zSz_q (h : FZq R P s s') (hP : P = 3 ∨ P = 39) (g : zSz P s) (hb : ∀ r ∈ R, zsz s' (P + r) ≤ (lim (P + r) : Int)) : zSz P s' := fun r hr => by
  by_cases w : r ∈ R
  · exact ⟨Int.le_trans (g r hr).1 (h.2.2 r w).1, hb r w⟩
  · rw [FZq_sz h w hP hr]
    exact g r hr
/-- adding to one row -/
theorem zaL_q {r : Nat} {vs : List Int32} (hP : P = 3 ∨ P = 39) (hr : r ∈ rwL) (g : zSz P s) : FZq [r] P s (zaL (P + r) vs s) ∧ zSz P (zaL (P + r) vs s) ∧ RS P (zaL (P + r) vs s) = RS P s ∧ (zaL (P + r) vs s).1 82 3 = s.1 82 3 ∧ (zaL (P + r) vs s).2 (P + 12) = s.2 (P + 12) ∧ (zaL (P + r) vs s).2 (P + 22) = s.2 (P + 22) ∧ (zsz s (P + r) + (vs.length : Int) ≤ (lim (P + r) : Int) → zsz (zaL (P + r) vs s) (P + r) = zsz s (P + r) + (vs.length : Int) ∧ ∀ (j : Nat) (v : Int32), vs[j]? = some v → (zaL (P + r) vs s).2 (P + r) ((zsz s (P + r)).toNat + j) = v) := by
  have hl : lim (P + r) ≤ 100000 := by
    obtain ⟨l0, l1, l2, l3, l4, l5⟩ := limR hP
    unfold rwL at hr
    simp only [List.mem_cons, List.not_mem_nil, or_false] at hr
    rcases hr with rfl | rfl | rfl | rfl | rfl
    · rw [l1]; decide
    · rw [l2]; decide
    · rw [l3]; decide
    · rw [l4]; decide
    · rw [l5]; decide
  have hq : r = 24 ∨ r = 26 ∨ r = 28 ∨ r = 30 ∨ r = 32 := by
    unfold rwL at hr
    simpa using hr
  obtain ⟨r1, r2, r3, r4, r5, r6⟩ := zaL_fr hl vs s (g r hr).1 (g r hr).2
  have F : FZq [r] P s (zaL (P + r) vs s) := ⟨fun a k _ _ h3 => r1 a k (h3 r List.mem_cons_self), fun a _ _ h3 => r2 a (h3 r List.mem_cons_self), fun q hq => by
    rw [List.mem_singleton.mp hq]
    exact ⟨r3, r5⟩⟩
  refine ⟨F, zSz_q F hP g (fun q hq => by rw [List.mem_singleton.mp hq]; exact r4), ?_, r1 82 3 (by omega), r2 _ (by omega), r2 _ (by omega), r6⟩
  unfold RS
  rw [r1 P 14 (by omega), r1 82 3 (by omega)]
/-- addSlot -/
theorem zs_54 (hP : P = 3 ∨ P = 39) (g : zSz P s) (h1 : -1 ≤ a1.toInt ∧ a1.toInt ≤ 5000) (h2 : -1 ≤ a2.toInt ∧ a2.toInt ≤ 5000) (h3 : -1 ≤ a3.toInt ∧ a3.toInt ≤ 5000) (h4 : -1 ≤ a4.toInt ∧ a4.toInt ≤ 5000) : Zt (d + 9) (wd P 54) 54 [.ref P, .int a1, .int a2, .int a3, .int a4] s (fun v s' => v = none ∧ s' = zaL (P + 30) [a1, a2, a3, -1, a4] s) := by
  refine zc_54 hP ?_
  unfold v_54_0
  refine ⟨by omega, fun s1 hs1 => ⟨by omega, fun s2 hs2 => ⟨by omega, fun s3 hs3 s4 hs4 => ⟨by omega, fun s5 hs5 => ⟨rfl, ?_⟩⟩⟩⟩⟩
  rw [hs5, hs4, hs3, hs2, hs1]
  rfl
end ZQ7
