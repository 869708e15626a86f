/-! ===== the class: addCode, what it adds ===== -/
section ZZBC
variable {d P : Nat} {k : Int} {s u w : zS} {a1 a2 a3 a4 a5 a6 v : Int32} {a b q : Nat} {z : Int}
/-- what Row.add does to fields -/
theorem za_o (h : ¬ (b = a ∧ q = 2)) : (za s a v).1 b q = s.1 b q := by
  unfold za
  split
  · rw [zf_1, if_neg h, zr_1]
  · rfl
theorem za_n (h0 : 0 ≤ (s.1 a 2).toInt) (h1 : (s.1 a 2).toInt ≤ 1000000) : ((za s a v).1 a 2).toInt = if (s.1 a 2).toInt < (lim a : Int) then (s.1 a 2).toInt + 1 else (s.1 a 2).toInt := by
  unfold za
  split
  · rw [zf_1, if_pos ⟨rfl, rfl⟩, Int32.toInt_add, show (1 : Int32).toInt = 1 by decide, Int.bmod_eq_of_le (by omega) (by omega)]
  · rfl
theorem zb_n (hz : (s.1 a 2).toInt = z) (h0 : 0 ≤ z) (hl : z < (lim a : Int)) (hm : z ≤ 1000000) : ((za s a v).1 a 2).toInt = z + 1 := by
  rw [za_n (by omega) (by omega), if_pos (by omega), hz]
theorem zb_c (hz : (s.1 a 2).toInt = z) (h0 : 0 ≤ z) (hl : z < (lim a : Int)) (j : Nat) : (za s a v).2 a j = if (j : Int) = z then v else s.2 a j := by
  unfold za
  rw [if_pos (by omega), zf_2]
  show (if a = a then upd (s.2 a) (s.1 a 2).toInt.toNat v else s.2 a) j = _
  rw [if_pos rfl]
  unfold upd
  by_cases e : (j : Int) = z
  · rw [if_pos e, if_pos (by omega)]
  · rw [if_neg e, if_neg (by omega)]
/-- six cells are added -/
theorem zs_59d (hP : P = 3 ∨ P = 39) (h1 : -1000 ≤ a1.toInt ∧ a1.toInt ≤ 100000) (h2 : -1000 ≤ a2.toInt ∧ a2.toInt ≤ 100000) (h3 : -1000 ≤ a3.toInt ∧ a3.toInt ≤ 100000) (h4 : -1000 ≤ a4.toInt ∧ a4.toInt ≤ 100000) (h5 : -1000 ≤ a5.toInt ∧ a5.toInt ≤ 100000) (h6 : -1000 ≤ a6.toInt ∧ a6.toInt ≤ 100000) (hz : (s.1 (P + 34) 2).toInt = z) (h0 : 0 ≤ z) (hl : z + 6 ≤ 24000) : Zt (d + 9) (wd P 59) 59 [.ref P, .int a1, .int a2, .int a3, .int a4, .int a5, .int a6] s (fun v s' => v = none ∧ DFz P s s' ∧ (s'.1 (P + 34) 2).toInt = z + 6 ∧ ∀ j : Nat, s'.2 (P + 34) j = if (j : Int) = z then a1 else if (j : Int) = z + 1 then a2 else if (j : Int) = z + 2 then a3 else if (j : Int) = z + 3 then a4 else if (j : Int) = z + 4 then a5 else if (j : Int) = z + 5 then a6 else s.2 (P + 34) j) := by
  have hL : (lim (P + 34) : Int) = 24000 := by rcases hP with rfl | rfl <;> decide +kernel
  refine zc_59 hP ?_
  unfold v_59_0
  refine ⟨h1, fun s1 hs1 => ⟨h2, fun s2 hs2 => ⟨h3, fun s3 hs3 => ⟨h4, fun s4 hs4 => ⟨h5, fun s5 hs5 => ⟨h6, fun s6 hs6 => ⟨rfl, ?_, ?_, ?_⟩⟩⟩⟩⟩⟩⟩
  · rw [hs6]
    refine DFz_tr ?_ DFz_za
    rw [hs5]
    refine DFz_tr ?_ DFz_za
    rw [hs4]
    refine DFz_tr ?_ DFz_za
    rw [hs3]
    refine DFz_tr ?_ DFz_za
    rw [hs2]
    refine DFz_tr ?_ DFz_za
    rw [hs1]
    exact DFz_za
  · have e1 : (s1.1 (P + 34) 2).toInt = z + 1 := by rw [hs1]; exact zb_n hz h0 (by omega) (by omega)
    have e2 : (s2.1 (P + 34) 2).toInt = z + 2 := by rw [hs2, zb_n e1 (by omega) (by omega) (by omega)]; omega
    have e3 : (s3.1 (P + 34) 2).toInt = z + 3 := by rw [hs3, zb_n e2 (by omega) (by omega) (by omega)]; omega
    have e4 : (s4.1 (P + 34) 2).toInt = z + 4 := by rw [hs4, zb_n e3 (by omega) (by omega) (by omega)]; omega
    have e5 : (s5.1 (P + 34) 2).toInt = z + 5 := by rw [hs5, zb_n e4 (by omega) (by omega) (by omega)]; omega
    rw [hs6, zb_n e5 (by omega) (by omega) (by omega)]
    omega
  · have e1 : (s1.1 (P + 34) 2).toInt = z + 1 := by rw [hs1]; exact zb_n hz h0 (by omega) (by omega)
    have e2 : (s2.1 (P + 34) 2).toInt = z + 2 := by rw [hs2, zb_n e1 (by omega) (by omega) (by omega)]; omega
    have e3 : (s3.1 (P + 34) 2).toInt = z + 3 := by rw [hs3, zb_n e2 (by omega) (by omega) (by omega)]; omega
    have e4 : (s4.1 (P + 34) 2).toInt = z + 4 := by rw [hs4, zb_n e3 (by omega) (by omega) (by omega)]; omega
    have e5 : (s5.1 (P + 34) 2).toInt = z + 5 := by rw [hs5, zb_n e4 (by omega) (by omega) (by omega)]; omega
    intro j
    rw [hs6, zb_c e5 (by omega) (by omega), hs5, zb_c e4 (by omega) (by omega), hs4, zb_c e3 (by omega) (by omega), hs3, zb_c e2 (by omega) (by omega), hs2, zb_c e1 (by omega) (by omega), hs1, zb_c hz h0 (by omega)]
    by_cases j5 : (j : Int) = z + 5
    · rw [if_pos j5, if_neg (by omega), if_neg (by omega), if_neg (by omega), if_neg (by omega), if_neg (by omega), if_pos j5]
    rw [if_neg j5]
    by_cases j4 : (j : Int) = z + 4
    · rw [if_pos j4, if_neg (by omega), if_neg (by omega), if_neg (by omega), if_neg (by omega), if_pos j4]
    rw [if_neg j4]
    by_cases j3 : (j : Int) = z + 3
    · rw [if_pos j3, if_neg (by omega), if_neg (by omega), if_neg (by omega), if_pos j3]
    rw [if_neg j3]
    by_cases j2 : (j : Int) = z + 2
    · rw [if_pos j2, if_neg (by omega), if_neg (by omega), if_pos j2]
    rw [if_neg j2]
    by_cases j1 : (j : Int) = z + 1
    · rw [if_pos j1, if_neg (by omega), if_pos j1]
    rw [if_neg j1]
    by_cases j0 : (j : Int) = z
    · rw [if_pos j0, if_pos j0]
    · rw [if_neg j0, if_neg j0, if_neg j1, if_neg j2, if_neg j3, if_neg j4, if_neg j5]
/-- the code's size: whole rows, no more than tokens -/
def SZc (P : Nat) (s : zS) (t : Int) : Prop := ∃ c : Int, 0 ≤ c ∧ c ≤ t ∧ (s.1 (P + 34) 2).toInt = 6 * c
/-- a row of code as cells -/
def cel (P : Nat) (s : zS) (pc : Int) (c0 c1 c2 c3 c4 c5 : Int) : Prop := KI (s.2 (P + 34)) (6 * pc) = c0 ∧ KI (s.2 (P + 34)) (6 * pc + 1) = c1 ∧ KI (s.2 (P + 34)) (6 * pc + 2) = c2 ∧ KI (s.2 (P + 34)) (6 * pc + 3) = c3 ∧ KI (s.2 (P + 34)) (6 * pc + 4) = c4 ∧ KI (s.2 (P + 34)) (6 * pc + 5) = c5
/-- addCode, with what it leaves -/
theorem zs_59c {t : Int} {I : Ins} (hP : P = 3 ∨ P = 39) (h1 : -1000 ≤ a1.toInt ∧ a1.toInt ≤ 100000) (h2 : -1000 ≤ a2.toInt ∧ a2.toInt ≤ 100000) (h3 : -1000 ≤ a3.toInt ∧ a3.toInt ≤ 100000) (h4 : -1000 ≤ a4.toInt ∧ a4.toInt ≤ 100000) (h5 : -1000 ≤ a5.toInt ∧ a5.toInt ≤ 100000) (h6 : -1000 ≤ a6.toInt ∧ a6.toInt ≤ 100000) (hz : SZc P s t) (ht : t < 4000) (hI : ∀ s' : zS, DFz P s s' → ∀ pc : Int, cel P s' pc a1.toInt a2.toInt a3.toInt a4.toInt a5.toInt a6.toInt → inz P k s' pc I) : Zt (d + 9) (wd P 59) 59 [.ref P, .int a1, .int a2, .int a3, .int a4, .int a5, .int a6] s (fun v s' => v = none ∧ DFz P s s' ∧ CDx P k s s' [I]) := by
  obtain ⟨c, c0, c1, c2⟩ := hz
  refine Zt.imp (zs_59d (z := 6 * c) hP h1 h2 h3 h4 h5 h6 c2 (by omega) (by omega)) ?_
  rintro v s' ⟨rfl, D, e1, e2⟩
  refine ⟨rfl, D, c, c0, c2, by rw [e1]; show 6 * c + 6 = 6 * (c + ((1 : Nat) : Int)); omega, fun j hj => ?_, fun i I' hi => ?_⟩
  · rw [e2, if_neg (by omega), if_neg (by omega), if_neg (by omega), if_neg (by omega), if_neg (by omega), if_neg (by omega)]
  · cases i with
    | succ i => cases hi
    | zero =>
      cases hi
      rw [show c + ((0 : Nat) : Int) = c by omega]
      have g : ∀ (x : Int), 0 ≤ x → ∀ v : Int32, s'.2 (P + 34) x.toNat = v → KI (s'.2 (P + 34)) x = v.toInt := fun x x0 v e => by rw [KI_p x0, e]
      refine hI s' D c ⟨g _ (by omega) a1 ?_, g _ (by omega) a2 ?_, g _ (by omega) a3 ?_, g _ (by omega) a4 ?_, g _ (by omega) a5 ?_, g _ (by omega) a6 ?_⟩
      · rw [e2, if_pos (by omega)]
      · rw [e2, if_neg (by omega), if_pos (by omega)]
      · rw [e2, if_neg (by omega), if_neg (by omega), if_pos (by omega)]
      · rw [e2, if_neg (by omega), if_neg (by omega), if_neg (by omega), if_pos (by omega)]
      · rw [e2, if_neg (by omega), if_neg (by omega), if_neg (by omega), if_neg (by omega), if_pos (by omega)]
      · rw [e2, if_neg (by omega), if_neg (by omega), if_neg (by omega), if_neg (by omega), if_neg (by omega), if_pos (by omega)]
/-! one row of each kind -/
section ZZBD
variable {pc op n c0 c1 c2 c3 c4 c5 : Int} {A : List Int} {Ys : List (List Int)}
theorem inz_14 (hop : op = 1 ∨ op = 4) (h : cel P s pc op n c2 c3 c4 c5) : inz P k s pc (op, [], n, [], 0) := ⟨h.1, fun _ => h.2.1, fun z => by have z : op = 3 := z; omega, fun z => by have z : op = 2 := z; omega, fun z => by have z : op = 6 := z; omega, fun z => by have z : op = 5 := z; omega⟩
theorem inz_3 (h : cel P s pc 3 c1 n c3 c4 c5) : inz P k s pc (3, [], n, [], 0) := ⟨h.1, fun z => by have z : (3 : Int) = 1 ∨ (3 : Int) = 4 := z; omega, fun _ => h.2.2.1, fun z => absurd (show (3 : Int) = 2 from z) (by decide), fun z => absurd (show (3 : Int) = 6 from z) (by decide), fun z => absurd (show (3 : Int) = 5 from z) (by decide)⟩
theorem inz_2 (h : cel P s pc 2 c1 c2 c3 c4 c5) (g : kpz P k s c1 A) : inz P k s pc (2, A, 0, [], 0) := ⟨h.1, fun z => by have z : (2 : Int) = 1 ∨ (2 : Int) = 4 := z; omega, fun z => absurd (show (2 : Int) = 3 from z) (by decide), fun _ => by rw [h.2.1]; exact g, fun z => absurd (show (2 : Int) = 6 from z) (by decide), fun z => absurd (show (2 : Int) = 5 from z) (by decide)⟩
theorem inz_6 (h : cel P s pc 6 c1 n c3 c4 c5) (g : kpz P k s c1 A) : inz P k s pc (6, A, n, [], 0) := ⟨h.1, fun z => by have z : (6 : Int) = 1 ∨ (6 : Int) = 4 := z; omega, fun z => absurd (show (6 : Int) = 3 from z) (by decide), fun z => absurd (show (6 : Int) = 2 from z) (by decide), fun _ => ⟨by rw [h.2.1]; exact g, h.2.2.1⟩, fun z => absurd (show (6 : Int) = 5 from z) (by decide)⟩
theorem inz_5 (h : cel P s pc 5 c1 n c3 (Ys.length : Int) c5) (g3 : kpz P k s c3 Ys.flatten) (g5 : kpz P k s c5 A) : inz P k s pc (5, A, n, Ys, c1) := ⟨h.1, fun z => by have z : (5 : Int) = 1 ∨ (5 : Int) = 4 := z; omega, fun z => absurd (show (5 : Int) = 3 from z) (by decide), fun z => absurd (show (5 : Int) = 2 from z) (by decide), fun z => absurd (show (5 : Int) = 6 from z) (by decide), fun _ => ⟨h.2.1, h.2.2.1, h.2.2.2.2.1, by rw [h.2.2.2.1]; exact g3, by rw [h.2.2.2.2.2]; exact g5⟩⟩
theorem inz_0 (h : cel P s pc 0 c1 c2 c3 c4 c5) : inz P k s pc (0, [], 0, [], 0) := ⟨h.1, fun z => by have z : (0 : Int) = 1 ∨ (0 : Int) = 4 := z; omega, fun z => absurd (show (0 : Int) = 3 from z) (by decide), fun z => absurd (show (0 : Int) = 2 from z) (by decide), fun z => absurd (show (0 : Int) = 6 from z) (by decide), fun z => absurd (show (0 : Int) = 5 from z) (by decide)⟩
end ZZBD
theorem SZc_1 {t : Int} (h : u.1 (P + 34) 2 = s.1 (P + 34) 2) (g : SZc P s t) : SZc P u t := by
  unfold SZc at g ⊢
  rw [h]
  exact g
theorem SZc_c {t e : Int} {C : List Ins} (g : SZc P s t) (h : CDx P k s u C) (hl : (C.length : Int) ≤ e - t) : SZc P u e := by
  obtain ⟨c, c0, c1, c2⟩ := g
  obtain ⟨p, p0, p1, p2, -, -⟩ := h
  exact ⟨c + (C.length : Int), by omega, by omega, by omega⟩
theorem SZc_m {t t' : Int} (g : SZc P s t) (h : t ≤ t') : SZc P s t' := by
  obtain ⟨c, c0, c1, c2⟩ := g
  exact ⟨c, c0, by omega, c2⟩
end ZZBC
