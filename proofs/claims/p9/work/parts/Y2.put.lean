/-! ===== the class: put ===== -/
/-- a TYPE with what η has for its PARAMS -/
def sbs (η : Nat → List Int) (A : List Int) : List Int := A.flatMap (fun c => if c < 24 then [c] else η (c - 24).toNat)
/-- only words from t on, not the kept ones, and where the next TYPE is put are another -/
def PFz (P : Nat) (t : Int) (s s' : zS) : Prop := (∀ r, ¬ r = P + 18 → s'.2 r = s.2 r) ∧ (∀ j : Nat, ((j : Int) < t ∨ 18738 ≤ (j : Int)) → s'.2 (P + 18) j = s.2 (P + 18) j) ∧ ∀ c k, ¬ (c = 75 ∧ k = 3) → s'.1 c k = s.1 c k
section YPU
variable {ar : Int → Int} {P d e : Nat} {s s' u : zS} {a1 : Int32} {A B : List Int} {η : Nat → List Int} {t x : Int}
theorem sbs_s {i : Nat} {c : Int} (h : A[i]? = some c) : sbs η (A.take (i + 1)) = sbs η (A.take i) ++ (if c < 24 then [c] else η (c - 24).toNat) := by
  rw [take_s h]
  unfold sbs
  rw [List.flatMap_append]
  congr 1
  show (if c < 24 then [c] else η (c - 24).toNat) ++ [] = _
  rw [List.append_nil]
theorem sbs_le (i : Nat) : (sbs η (A.take i)).length ≤ (sbs η A).length := by
  have e1 : sbs η A = sbs η (A.take i) ++ sbs η (A.drop i) := by
    unfold sbs
    rw [← List.flatMap_append, List.take_append_drop]
  rw [e1, List.length_append]
  omega
theorem sbs_pl : ∀ (A : List Int), (∀ c ∈ A, c < 24) → sbs η A = A
  | [], _ => rfl
  | c :: l, h => by
    show (if c < 24 then [c] else η (c - 24).toNat) ++ sbs η l = c :: l
    rw [if_pos (h c List.mem_cons_self), sbs_pl l (fun c hc => h c (List.mem_cons_of_mem _ hc))]
    rfl
theorem WDz_pf (h : PFz P t s s') (h0 : 0 ≤ x) (ha : APt t x A.length) (g : WDz P s x A) : WDz P s' x A := fun i c hc => by
  have hi := (List.getElem?_eq_some_iff.mp hc).1
  rw [← g i c hc, KI_p (by omega), KI_p (by omega), h.2.1]
  rcases ha with w1 | w1
  · exact Or.inl (by omega)
  · exact Or.inr (by omega)
theorem WDz_one (h : WDz P s x A) {i : Nat} {c : Int} (hc : A[i]? = some c) : WDz P s (x + (i : Int)) [c] := fun j c' hc' => by
  cases j with
  | zero =>
    have ec : c = c' := by simpa using hc'
    rw [← ec, show x + (i : Int) + ((0 : Nat) : Int) = x + (i : Int) by omega]
    exact h i c hc
  | succ j => cases hc'
set_option maxHeartbeats 2000000 in
/-- put: A stands at a1, the next TYPE is put at t -/
theorem zs_87g (hP : P = 3 ∨ P = 39) (he : skE e = true) (hA : KI (s.2 (P + 22)) = ar) (h6 : ∀ c, 0 ≤ ar c ∧ ar c ≤ 7) (ht : (s.1 75 3).toInt = t) (ht2 : 18 ≤ t ∧ t + 60 ≤ 18738) (hE : (∀ c ∈ A, c < 24) ∨ ENz P s e t η 12) (hR : isR ar 1 A) (hl : A.length ≤ 60) (hc : ∀ c ∈ A, 0 ≤ c ∧ c < 36) (h1 : 0 ≤ a1.toInt ∧ a1.toInt ≤ 90000) (hw : WDz P s a1.toInt A) (hap : APt t a1.toInt A.length) : Zt (d + 9) (wd P 87) 87 [.ref 75, .int a1, .ref e] s (fun v s' => PFz P t s s' ∧ ∃ r : Int32, v = some (.int r) ∧ ((60 < (sbs η A).length ∧ r.toInt = -1 ∧ s'.1 = s.1) ∨ ((sbs η A).length ≤ 60 ∧ WDz P s' r.toInt (sbs η A) ∧ ((r = a1 ∧ s'.1 = s.1 ∧ (∀ c ∈ A, c < 24)) ∨ (r.toInt = t ∧ (s'.1 75 3).toInt = t + ((sbs η A).length : Int) ∧ ¬ ∀ c ∈ A, c < 24))))) := by
  have hlim : lim (P + 18) = 82938 := by rcases hP with rfl | rfl <;> decide +kernel
  have heP : ¬ e = P + 18 ∧ ¬ P + 22 = P + 18 := ⟨(ev_P hP he).1, by omega⟩
  obtain ⟨o1, o2⟩ := isR_o A 1 hR
  refine zc_87 hP he ?_
  unfold v_87_0
  refine ⟨fun c1 c3 c4 c5 c6 u => c1 = a1 ∧ u.1 = s.1 ∧ PFz P t s u ∧ ∃ i : Nat, i ≤ A.length ∧ c6.toInt = a1.toInt + (i : Int) ∧ c4.toInt = opn ar 1 (A.take i) ∧ c3.toInt = ((sbs η (A.take i)).length : Int) ∧ (sbs η (A.take i)).length ≤ 60 ∧ WDz P u t (sbs η (A.take i)) ∧ ((c5.toInt = 0 ∧ ¬ ∀ c ∈ A.take i, c < 24) ∨ (c5.toInt = 1 ∧ ∀ c ∈ A.take i, c < 24)), fun c1 _ _ _ c6 _ => (60 + a1.toInt - c6.toInt).toNat, ⟨rfl, rfl, ⟨fun _ _ => rfl, fun _ _ => rfl, fun _ _ _ => rfl⟩, 0, Nat.zero_le _, by omega, by rw [List.take_zero]; exact (show (1 : Int32).toInt = 1 by decide), rfl, Nat.zero_le _, (fun i c hc => by cases hc), Or.inr ⟨by decide, fun c hc => (by cases hc)⟩⟩, ?_⟩
  rintro c1 c3 c4 c5 c6 u ⟨e1, f1, f2, i, g1, g2, g3, g4, g5, g6, g7⟩
  subst e1
  unfold v_87_8
  have fin : ¬ i < A.length → v_87_91 (fun j => Zt (d + 8) (wd P j) j) P e c1 c3 c4 c5 c6 u (fun v s' => PFz P t s s' ∧ ∃ r : Int32, v = some (.int r) ∧ ((60 < (sbs η A).length ∧ r.toInt = -1 ∧ s'.1 = s.1) ∨ ((sbs η A).length ≤ 60 ∧ WDz P s' r.toInt (sbs η A) ∧ ((r = c1 ∧ s'.1 = s.1 ∧ (∀ c ∈ A, c < 24)) ∨ (r.toInt = t ∧ (s'.1 75 3).toInt = t + ((sbs η A).length : Int) ∧ ¬ ∀ c ∈ A, c < 24))))) := fun hi => by
    have ei : i = A.length := by omega
    rw [ei, List.take_length] at g4 g5 g6 g7
    unfold v_87_91
    refine ⟨fun y x1 hx1 s2 hs2 x3 hx3 => ?_, fun y => ?_⟩
    · have np : ¬ ∀ c ∈ A, c < 24 := by
        rcases g7 with q | q
        · exact q.2
        · omega
      rw [f1] at hx1
      have ex1 := hx1 (by omega)
      have et : s2.1 75 3 = x1 := by rw [hs2, zf_1, if_pos ⟨rfl, rfl⟩]
      rw [et] at hx3
      have ex3 := hx3 (by omega)
      have er : s2.2 = u.2 := by rw [hs2, zf_2]
      refine ⟨⟨fun r hr => by rw [er]; exact f2.1 r hr, fun j hj => by rw [er]; exact f2.2.1 j hj, fun c k hck => ?_⟩, x3, rfl, Or.inr ⟨g5, ?_, Or.inr ⟨by omega, by rw [et]; omega, np⟩⟩⟩
      · rw [hs2, zf_1, if_neg hck, f1]
      · rw [show x3.toInt = t by omega]
        intro i c hc
        rw [er]
        exact g6 i c hc
    · have hpl : ∀ c ∈ A, c < 24 := by
        rcases g7 with w1 | w1
        · exact absurd w1.1 y
        · exact w1.2
      refine ⟨f2, c1, rfl, Or.inr ⟨g5, ?_, Or.inl ⟨rfl, f1, hpl⟩⟩⟩
      rw [sbs_pl A hpl]
      exact WDz_pf f2 h1.1 hap hw
  intro x1 hx1
  have ex1 := hx1 (by omega)
  refine ⟨fun y => fin (by omega), fun y => ⟨fun y1 => fin (fun hi => ?_), fun y1 x2 hx2 => ?_⟩⟩
  · have := o2 i hi
    omega
  have hi : i < A.length := by
    rcases Nat.lt_or_ge i A.length with h | h
    · exact h
    · have ei : i = A.length := by omega
      rw [ei, List.take_length, o1] at g3
      omega
  obtain ⟨c, hcc⟩ : ∃ c, A[i]? = some c := ⟨_, List.getElem?_eq_getElem hi⟩
  have hc36 := hc c (List.mem_of_getElem? hcc)
  have wA : WDz P u c1.toInt A := WDz_pf f2 h1.1 hap hw
  have vc : (zg u (P + 18) c6).toInt = c := by
    rw [zg_K, g2]
    exact wA i c hcc
  rw [vc] at hx2
  have ev : (zg u (P + 22) (zg u (P + 18) c6)).toInt = ar c := by
    rw [zg_K, f2.1 _ heP.2, hA, vc]
  have hb := h6 c
  have ho := opn_b h6 (A.take i) 1
  rw [List.length_take] at ho
  -- one piece B, which stands at x
  have piece : ∀ (B : List Int) (x : Int) (fr to q8 : Int32), B = (if c < 24 then [c] else η (c - 24).toNat) → fr.toInt = x → to.toInt = x + (B.length : Int) → (0 ≤ x ∧ x ≤ 200000) → B.length ≤ 100000 → APt t x B.length → WDz P s x B → (0 ≤ q8.toInt ↔ ¬ c < 24) → v_87_43 (fun j => Zt (d + 8) (wd P j) j) P e (fun a1' a3' a4' a5' a6' s' => (a1' = c1 ∧ s'.1 = s.1 ∧ PFz P t s s' ∧ ∃ i : Nat, i ≤ A.length ∧ a6'.toInt = c1.toInt + (i : Int) ∧ a4'.toInt = opn ar 1 (A.take i) ∧ a3'.toInt = ((sbs η (A.take i)).length : Int) ∧ (sbs η (A.take i)).length ≤ 60 ∧ WDz P s' t (sbs η (A.take i)) ∧ ((a5'.toInt = 0 ∧ ¬ ∀ c ∈ A.take i, c < 24) ∨ (a5'.toInt = 1 ∧ ∀ c ∈ A.take i, c < 24))) ∧ (60 + c1.toInt - a6'.toInt).toNat < (60 + c1.toInt - c6.toInt).toNat) c1 c3 c4 c5 c6 (zg u (P + 18) c6) q8 fr to u (fun v s' => PFz P t s s' ∧ ∃ r : Int32, v = some (.int r) ∧ ((60 < (sbs η A).length ∧ r.toInt = -1 ∧ s'.1 = s.1) ∨ ((sbs η A).length ≤ 60 ∧ WDz P s' r.toInt (sbs η A) ∧ ((r = c1 ∧ s'.1 = s.1 ∧ (∀ c ∈ A, c < 24)) ∨ (r.toInt = t ∧ (s'.1 75 3).toInt = t + ((sbs η A).length : Int) ∧ ¬ ∀ c ∈ A, c < 24))))) := by
    intro B x fr to q8 eB k1 k2 k3 k4 k5 k6 k7
    have hs1 : sbs η (A.take (i + 1)) = sbs η (A.take i) ++ B := by rw [sbs_s hcc, eB]
    have hsl : (sbs η (A.take (i + 1))).length = (sbs η (A.take i)).length + B.length := by rw [hs1, List.length_append]
    unfold v_87_43
    intro x3 hx3 x4 hx4
    have ex3 := hx3 (by omega)
    have ex4 := hx4 (by omega)
    refine ⟨fun y3 => ?_, fun y3 => ⟨f2, -1, rfl, Or.inl ⟨?_, by decide, f1⟩⟩⟩
    · refine ⟨fun b1 b3 b4 b5 b6 b7 b8 b9 b10 b11 w1 => b1 = c1 ∧ b4 = c4 ∧ b5 = c5 ∧ b6 = c6 ∧ b7 = zg u (P + 18) c6 ∧ b8 = q8 ∧ b9 = fr ∧ b10 = to ∧ w1.1 = s.1 ∧ PFz P t s w1 ∧ ∃ k : Nat, k ≤ B.length ∧ b11.toInt = x + (k : Int) ∧ b3.toInt = ((sbs η (A.take i)).length : Int) + (k : Int) ∧ WDz P w1 t (sbs η (A.take i) ++ B.take k), fun _ _ _ _ _ _ _ _ _ b11 _ => (x + (B.length : Int) - b11.toInt).toNat, ⟨rfl, rfl, rfl, rfl, rfl, rfl, rfl, rfl, f1, f2, 0, Nat.zero_le _, by omega, by omega, by rw [List.take_zero, List.append_nil]; exact g6⟩, ?_⟩
      rintro b1 b3 b4 b5 b6 b7 b8 b9 b10 b11 w1 ⟨r1, r2, r3, r4, r5, r6, r7, r8, m1, m2, k, n1, n2, n3, n4⟩
      subst r1 r2 r3 r4 r5 r6 r7 r8
      unfold v_87_55
      have nxt : b10.toInt ≤ b11.toInt → ∀ p0 : Int32, ((p0.toInt = 0 ∧ ¬ ∀ c ∈ A.take (i + 1), c < 24) ∨ (p0.toInt = 1 ∧ ∀ c ∈ A.take (i + 1), c < 24)) → v_87_79 (fun j => Zt (d + 8) (wd P j) j) P e (fun a1' a3' a4' a5' a6' s' => (a1' = b1 ∧ s'.1 = s.1 ∧ PFz P t s s' ∧ ∃ i : Nat, i ≤ A.length ∧ a6'.toInt = b1.toInt + (i : Int) ∧ a4'.toInt = opn ar 1 (A.take i) ∧ a3'.toInt = ((sbs η (A.take i)).length : Int) ∧ (sbs η (A.take i)).length ≤ 60 ∧ WDz P s' t (sbs η (A.take i)) ∧ ((a5'.toInt = 0 ∧ ¬ ∀ c ∈ A.take i, c < 24) ∨ (a5'.toInt = 1 ∧ ∀ c ∈ A.take i, c < 24))) ∧ (60 + b1.toInt - a6'.toInt).toNat < (60 + b1.toInt - b6.toInt).toNat) b1 b3 b4 b5 b6 (zg u (P + 18) b6) b8 b9 b10 b11 p0 w1 (fun v s' => PFz P t s s' ∧ ∃ r : Int32, v = some (.int r) ∧ ((60 < (sbs η A).length ∧ r.toInt = -1 ∧ s'.1 = s.1) ∨ ((sbs η A).length ≤ 60 ∧ WDz P s' r.toInt (sbs η A) ∧ ((r = b1 ∧ s'.1 = s.1 ∧ (∀ c ∈ A, c < 24)) ∨ (r.toInt = t ∧ (s'.1 75 3).toInt = t + ((sbs η A).length : Int) ∧ ¬ ∀ c ∈ A, c < 24))))) := by
        intro hy p0 hp0
        have ek : k = B.length := by omega
        rw [ek, List.take_length, ← hs1] at n4
        have ev2 : (zg w1 (P + 22) (zg u (P + 18) b6)).toInt = ar c := by
          rw [zg_K, m2.1 _ heP.2, hA, vc]
        unfold v_87_79
        rw [ev2]
        intro y1' hy1 y2' hy2 y3' hy3
        have q1 := hy1 (by omega)
        have q2 := hy2 (by omega)
        have q3 := hy3 (by omega)
        refine ⟨⟨rfl, m1, m2, i + 1, by omega, by omega, ?_, by omega, by omega, n4, hp0⟩, by omega⟩
        rw [opn_s hcc]
        omega
      have pl0 : ¬ (∀ c ∈ A.take i, c < 24) ∨ ¬ c < 24 → ¬ ∀ c ∈ A.take (i + 1), c < 24 := fun h g => by
        rw [take_s hcc] at g
        rcases h with h | h
        · exact h (fun c' hc' => g c' (List.mem_append_left _ hc'))
        · exact h (g c (List.mem_append_right _ List.mem_cons_self))
      refine ⟨fun hy => ⟨fun y5 => ?_, fun y5 => ⟨fun y6 => ?_, fun y6 => ?_⟩⟩, fun hy x5 hx5 => ⟨Or.inr (by rw [m1] at hx5; have := hx5 (by omega); omega), fun s6 hs6 x7 hx7 x8 hx8 => ?_⟩⟩
      · refine nxt hy 0 (Or.inl ⟨by decide, pl0 (Or.inl ?_)⟩)
        rcases g7 with q | q
        · exact q.2
        · omega
      · exact nxt hy 0 (Or.inl ⟨by decide, pl0 (Or.inr (k7.mp y6))⟩)
      · refine nxt hy 1 (Or.inr ⟨by decide, ?_⟩)
        have hpl : ∀ c ∈ A.take i, c < 24 := by
          rcases g7 with q | q
          · exact absurd q.1 y5
          · exact q.2
        have hc24 : c < 24 := by
          rcases Int.lt_or_le c 24 with q | q
          · exact q
          · exact absurd (k7.mpr (by omega)) y6
        rw [take_s hcc]
        intro c' hc'
        rcases List.mem_append.mp hc' with q | q
        · exact hpl c' q
        · rw [List.mem_singleton.mp q]
          exact hc24
      · have hk : k < B.length := by omega
        obtain ⟨z, hz⟩ : ∃ z, B[k]? = some z := ⟨_, List.getElem?_eq_getElem hk⟩
        rw [m1] at hx5
        have ex5 := hx5 (by omega)
        have ex7 := hx7 (by omega)
        have ex8 := hx8 (by omega)
        have vz : (zg w1 (P + 18) b11).toInt = z := by
          rw [zg_K, n2]
          exact WDz_pf m2 k3.1 k5 k6 k z hz
        have z6 : s6 = zr w1 (P + 18) x5.toInt.toNat (zg w1 (P + 18) b11) := by rw [hs6, zt_in (by rw [hlim]; omega)]
        have r6 : ∀ r j, s6.2 r j = if r = P + 18 ∧ j = x5.toInt.toNat then zg w1 (P + 18) b11 else w1.2 r j := fun r j => by rw [z6, zr_2]
        have m6 : PFz P t s s6 := ⟨fun r hr => by
            rw [← m2.1 r hr]
            funext j
            rw [r6, if_neg (fun q => hr q.1)], fun j hj => by
            rw [← m2.2.1 j hj, r6, if_neg (fun q => ?_)]
            have := q.2
            omega, fun c k hck => by rw [z6, zr_1]; exact m2.2.2 c k hck⟩
        refine ⟨⟨rfl, rfl, rfl, rfl, rfl, rfl, rfl, rfl, by rw [z6, zr_1]; exact m1, m6, k + 1, by omega, by omega, by omega, ?_⟩, by dsimp only; omega⟩
        intro j c' hj
        have hj0 := (List.getElem?_eq_some_iff.mp hj).1
        rw [take_s hz, ← List.append_assoc] at hj
        rw [KI_p (by omega), r6]
        have hlk : (sbs η (A.take i) ++ B.take k).length = (sbs η (A.take i)).length + k := by
          rw [List.length_append, List.length_take]
          omega
        rcases Nat.lt_or_ge j (sbs η (A.take i) ++ B.take k).length with q | q
        · rw [List.getElem?_append_left q] at hj
          rw [if_neg (by omega), ← n4 j c' hj, KI_p (by omega)]
        · have hjl : j < (sbs η (A.take i) ++ B.take k ++ [z]).length := (List.getElem?_eq_some_iff.mp hj).1
          rw [List.length_append, List.length_singleton] at hjl
          have ej : j = (sbs η (A.take i) ++ B.take k).length := by omega
          rw [ej, List.getElem?_concat_length] at hj
          rw [if_pos ⟨rfl, by omega⟩, vz]
          exact Option.some.inj hj
    · have := sbs_le (η := η) (A := A) (i + 1)
      omega
  have ex2 := hx2 (by omega)
  refine ⟨fun y2 => ?_, fun y2 => ?_⟩
  · -- a PARAM
    have hE' : ENz P s e t η 12 := by
      rcases hE with q | q
      · exact absurd (q c (List.mem_of_getElem? hcc)) (by omega)
      · exact q
    obtain ⟨z, n1, n2, n3, n4⟩ := hE' (c - 24).toNat (by omega)
    have ep : (((c - 24).toNat : Nat) : Int) = c - 24 := by omega
    rw [ep] at n1 n2
    unfold v_87_31
    refine ⟨fun y3 x3 hx3 => ?_, fun y3 => absurd y2 y3⟩
    have ex3 := hx3 (by omega)
    refine piece (η (c - 24).toNat) z _ _ _ (by rw [if_neg (by omega)]) ?_ ?_ (by omega) (by omega) n3.2.2.1 n4 ⟨fun _ => by omega, fun _ => y2⟩
    · rw [zg_K, f2.1 _ heP.1, ex2]
      exact n1
    · rw [zg_K, f2.1 _ heP.1, ex3, ex2]
      exact n2
  · unfold v_87_31
    refine ⟨fun y3 => absurd y3 y2, fun y3 x3 hx3 => ?_⟩
    have ex3 := hx3 (by omega)
    have hl1 : ([c] : List Int).length = 1 := rfl
    refine piece [c] (c1.toInt + (i : Int)) _ _ _ (by rw [if_pos (by omega)]) g2 (by rw [hl1]; omega) (by omega) (by rw [hl1]; omega) ?_ (WDz_one hw hcc) ⟨fun h => absurd h y2, fun h => by omega⟩
    rw [hl1]
    exact APt_in hap (by omega) (by omega)
theorem zs_87 (hP : P = 3 ∨ P = 39) (he : e = 76 ∨ e = 78 ∨ e = 80) (hA : KI (s.2 (P + 22)) = ar) (h6 : ∀ c, 0 ≤ ar c ∧ ar c ≤ 7) (ht : (s.1 75 3).toInt = t) (ht2 : 18 ≤ t ∧ t + 60 ≤ 18738) (hE : ENz P s e t η 12) (hR : isR ar 1 A) (hl : A.length ≤ 60) (hc : ∀ c ∈ A, 0 ≤ c ∧ c < 36) (h1 : 0 ≤ a1.toInt ∧ a1.toInt ≤ 90000) (hw : WDz P s a1.toInt A) (hap : APt t a1.toInt A.length) : Zt (d + 9) (wd P 87) 87 [.ref 75, .int a1, .ref e] s (fun v s' => PFz P t s s' ∧ ∃ r : Int32, v = some (.int r) ∧ ((60 < (sbs η A).length ∧ r.toInt = -1 ∧ s'.1 = s.1) ∨ ((sbs η A).length ≤ 60 ∧ WDz P s' r.toInt (sbs η A) ∧ ((r = a1 ∧ s'.1 = s.1 ∧ (∀ c ∈ A, c < 24)) ∨ (r.toInt = t ∧ (s'.1 75 3).toInt = t + ((sbs η A).length : Int)))))) := Zt.imp (zs_87g hP (ev_3 he) hA h6 ht ht2 (Or.inr hE) hR hl hc h1 hw hap) (fun v s' q => by
  obtain ⟨f1, r, q1, hr⟩ := q
  refine ⟨f1, r, q1, ?_⟩
  rcases hr with q | ⟨g1, g2, g3⟩
  · exact Or.inl q
  · refine Or.inr ⟨g1, g2, ?_⟩
    rcases g3 with q | q
    · exact Or.inl q
    · exact Or.inr ⟨q.1, q.2.1⟩)
end YPU
