/-! ===== the class: Machine, small steps ===== -/
section ZTE
variable {K L W ar kd : Int → Int} {TN Ls : List Int} {n k0 mB k z T t l y : Int} {P d e : Nat} {s s' u w : zS} {A : List Int} {η : Nat → List Int} {a1 a2 : Int32} {E : Env}
/-- take -/
theorem zs_23 (hP : P = 3 ∨ P = 39) (h1 : 0 ≤ a1.toInt ∧ a1.toInt ≤ 4000) (h5 : (s.1 105 13).toInt = 5) (hl : (s.1 105 9).toInt = l) (hl0 : 0 ≤ l ∧ l ≤ 5000) (hy : (s.1 105 10).toInt = y) (hy0 : 0 ≤ y ∧ y ≤ 5000) : Zt (d + 9) (wd2 P 23) 23 [.ref 105, .int a1] s (fun v s' => s'.2 = s.2 ∧ (∀ b q, ¬ (b = 105 ∧ (q = 9 ∨ q = 10 ∨ q = 13)) → s'.1 b q = s.1 b q) ∧ ((a1.toInt ≤ l ∧ v = some (.int 1) ∧ (s'.1 105 13).toInt = 5 ∧ (s'.1 105 9).toInt = l - a1.toInt ∧ (s'.1 105 10).toInt = y + a1.toInt) ∨ (l < a1.toInt ∧ v = some (.int 0) ∧ (s'.1 105 13).toInt = 2 ∧ (s'.1 105 9).toInt = 0 ∧ (s'.1 105 10).toInt = y + l))) := by
  refine zc_23 hP ?_
  unfold v_23_0
  refine ⟨fun w => absurd h5 w, fun _ => ⟨fun w => ?_, fun w => ?_⟩⟩
  · unfold v_23_10 v_23_11
    refine ⟨fun w => absurd h5 w, fun _ => ⟨fun w => absurd (show (0 : Int32).toInt = 0 by decide) w, fun _ s1 hs1 x2 hx2 s3 hs3 s4 hs4 => ?_⟩⟩
    unfold v_23_46
    have e10 : s1.1 105 10 = s.1 105 10 := by rw [hs1, zf_1, if_neg (by decide)]
    have e9 : s1.1 105 9 = s.1 105 9 := by rw [hs1, zf_1, if_neg (by decide)]
    rw [e10, e9] at hx2
    have ex2 := hx2 (by omega)
    have F : ∀ c q, s4.1 c q = if c = 105 ∧ q = 9 then 0 else if c = 105 ∧ q = 10 then x2 else if c = 105 ∧ q = 13 then 2 else s.1 c q := fun c q => by rw [hs4, zf_1, hs3, zf_1, hs1, zf_1]
    refine ⟨Or.inl (by decide), by rw [hs4, zf_2, hs3, zf_2, hs1, zf_2], fun b q hq => ?_, Or.inr ⟨by omega, rfl, ?_, ?_, ?_⟩⟩
    · rw [F, if_neg (fun z => hq ⟨z.1, Or.inl z.2⟩), if_neg (fun z => hq ⟨z.1, Or.inr (Or.inl z.2)⟩), if_neg (fun z => hq ⟨z.1, Or.inr (Or.inr z.2)⟩)]
    · rw [F, if_neg (by decide), if_neg (by decide), if_pos ⟨rfl, rfl⟩]
      decide
    · rw [F, if_pos ⟨rfl, rfl⟩]
      decide
    · rw [F, if_neg (by decide), if_pos ⟨rfl, rfl⟩]
      omega
  · unfold v_23_11
    refine ⟨fun w => absurd h5 w, fun _ => ⟨fun _ => ?_, fun w => absurd w (by decide)⟩⟩
    unfold v_23_32
    refine ⟨fun w => absurd w (by decide), fun _ x1 hx1 s2 hs2 x3 hx3 s4 hs4 => ?_⟩
    unfold v_23_46
    have ex1 := hx1 (by omega)
    have e9 : s2.1 105 9 = s.1 105 9 := by rw [hs2, zf_1, if_neg (by decide)]
    rw [e9] at hx3
    have ex3 := hx3 (by omega)
    have F : ∀ c q, s4.1 c q = if c = 105 ∧ q = 9 then x3 else if c = 105 ∧ q = 10 then x1 else s.1 c q := fun c q => by rw [hs4, zf_1, hs2, zf_1]
    refine ⟨Or.inr (by decide), by rw [hs4, zf_2, hs2, zf_2], fun b q hq => ?_, Or.inl ⟨by omega, rfl, ?_, ?_, ?_⟩⟩
    · rw [F, if_neg (fun z => hq ⟨z.1, Or.inl z.2⟩), if_neg (fun z => hq ⟨z.1, Or.inr (Or.inl z.2)⟩)]
    · rw [F, if_neg (by decide), if_neg (by decide)]
      exact h5
    · rw [F, if_pos ⟨rfl, rfl⟩]
      omega
    · rw [F, if_neg (by decide), if_pos ⟨rfl, rfl⟩]
      omega
/-- push -/
theorem zs_21 (hP : P = 3 ∨ P = 39) (h1 : -1000 ≤ a1.toInt ∧ a1.toInt ≤ 1000000000) {h : Nat} (h7 : (s.1 105 7).toInt = (h : Int)) (hh : h < 4000) : Zt (d + 9) (wd2 P 21) 21 [.ref 105, .int a1] s (fun v s' => v = none ∧ (∀ b q, ¬ (b = 105 ∧ q = 7) → s'.1 b q = s.1 b q) ∧ (s'.1 105 7).toInt = (h : Int) + 1 ∧ ∀ r j, s'.2 r j = if r = 106 ∧ j = h then a1 else s.2 r j) := by
  refine zc_21 hP ?_
  unfold v_21_0
  refine ⟨h1, fun s1 hs1 x2 hx2 s3 hs3 => ?_⟩
  have hlim : lim 106 = 4000 := by decide +kernel
  have e1 : s1 = zr s 106 h a1 := by
    rw [hs1, zt_in ⟨by omega, by rw [hlim]; omega⟩, h7]
    rfl
  have e7 : s1.1 105 7 = s.1 105 7 := by rw [e1, zr_1]
  rw [e7] at hx2
  have ex2 := hx2 (by omega)
  refine ⟨rfl, fun b q hq => ?_, ?_, fun r j => ?_⟩
  · rw [hs3, zf_1, if_neg hq, e1, zr_1]
  · rw [hs3, zf_1, if_pos ⟨rfl, rfl⟩]
    omega
  · rw [hs3, zf_2, e1, zr_2]
/-- pop -/
theorem zs_22 (hP : P = 3 ∨ P = 39) {h : Nat} (h7 : (s.1 105 7).toInt = (h : Int) + 1) (hh : h < 4000) : Zt (d + 9) (wd2 P 22) 22 [.ref 105] s (fun v s' => s'.2 = s.2 ∧ (∀ b q, ¬ (b = 105 ∧ q = 7) → s'.1 b q = s.1 b q) ∧ (s'.1 105 7).toInt = (h : Int) ∧ v = some (.int (s.2 106 h))) := by
  refine zc_22 hP ?_
  unfold v_22_0
  intro x1 hx1 s2 hs2
  have ex1 := hx1 (by omega)
  have e7 : s2.1 105 7 = x1 := by rw [hs2, zf_1, if_pos ⟨rfl, rfl⟩]
  refine ⟨by rw [hs2, zf_2], fun b q hq => by rw [hs2, zf_1, if_neg hq], by rw [e7]; omega, ?_⟩
  rw [e7]
  unfold zg
  rw [if_pos (by omega), hs2, zf_2, show x1.toInt.toNat = h by omega]
set_option maxHeartbeats 1000000 in
/-- putType: a TYPE of code at a1 -/
theorem zs_25 (hP : P = 3 ∨ P = 39) (h : PRm K L W ar kd n lo hi TN Ls) (C : CSz K L W ar kd TN Ls n k0 P s) {D : Nat} (h8 : (s.1 105 8).toInt = (D : Int)) (hD : D ≤ 41) (h5 : (s.1 105 13).toInt = 5) (hl : (s.1 105 9).toInt = l) (hl0 : 0 ≤ l ∧ l ≤ 5000) (hy : (s.1 105 10).toInt = y) (hy0 : 0 ≤ y ∧ y ≤ 5000) (ht : (s.1 75 3).toInt = T) (hT : 18 ≤ T ∧ T + 60 ≤ 18738) (hE : E = ([], []) ∨ ENz P s (113 + 2 * D) T (eta E.1 E.2) 12) (hEk : enK ar (TN.length : Int) E) (hA : TGo ar (TN.length : Int) (E.1.length : Int) (E.2.length : Int) A) (hk : k ≤ 82938) (hK : kpz P k s a1.toInt A) : Zt (d + 18) (wd2 P 25) 25 [.ref 105, .int a1] s (fun v s' => RUz P T s s' ∧ s'.2 106 = s.2 106 ∧ s'.2 108 = s.2 108 ∧ s'.2 111 = s.2 111 ∧ (∀ i : Nat, s'.2 (113 + 2 * i) = s.2 (113 + 2 * i)) ∧ (∀ q, ¬ (q = 9 ∨ q = 10 ∨ q = 13) → s'.1 105 q = s.1 105 q) ∧ s'.1 111 2 = s.1 111 2 ∧ (s'.1 105 13).toInt = (ptT E A l).1 ∧ (s'.1 105 9).toInt = (ptT E A l).2.2 ∧ (s'.1 105 10).toInt = y + (l - (ptT E A l).2.2) ∧ ∃ r : Int32, v = some (.int r) ∧ ((-1000 ≤ r.toInt ∧ r.toInt ≤ 100000) ∧ ((ptT E A l).1 = 5 → ∃ T', (s'.1 75 3).toInt = T' ∧ T ≤ T' ∧ T' + (ptT E A l).2.2 ≤ T + l ∧ TYc ar (TN.length : Int) 0 0 P T' k s' r.toInt (ptT E A l).2.1))) := by
  sorry
end ZTE
