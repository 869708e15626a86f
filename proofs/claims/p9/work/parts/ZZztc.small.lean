/-! ===== the class: Machine, small steps ===== -/
section ZTE
variable {K L W ar kd : Int → Int} {TN Ls : List Int} {n k0 mB k z T t l y lo hi : Int} {P d e : Nat} {s s' u w : zS} {A : List Int} {η : Nat → List Int} {a1 a2 : Int32} {E : Env} {gg : Int × Int}
/-- take -/
theorem zs_23 (hP : P = 3 ∨ P = 39) (h1 : 0 ≤ a1.toInt ∧ a1.toInt ≤ 4000) (h5 : (s.1 105 13).toInt = 5) (hl : (s.1 105 9).toInt = l) (hl0 : 0 ≤ l ∧ l ≤ 5000) (hy : (s.1 105 10).toInt = y) (hy0 : 0 ≤ y ∧ y ≤ 5000) : Zt (d + 9) (wd2 P 23) 23 [.ref 105, .int a1] s (fun v s' => s'.2 = s.2 ∧ (∀ b q, ¬ (b = 105 ∧ (q = 9 ∨ q = 10 ∨ q = 13)) → s'.1 b q = s.1 b q) ∧ ((a1.toInt ≤ l ∧ v = some (.int 1) ∧ (s'.1 105 13).toInt = 5 ∧ (s'.1 105 9).toInt = l - a1.toInt ∧ (s'.1 105 10).toInt = y + a1.toInt) ∨ (l < a1.toInt ∧ v = some (.int 0) ∧ (s'.1 105 13).toInt = 2 ∧ (s'.1 105 9).toInt = 0 ∧ (s'.1 105 10).toInt = y + l))) := by
  refine zc_23 hP ?_
  unfold v_23_0
  refine ⟨fun w => absurd h5 w, fun _ => ⟨fun w => ?_, fun w => ?_⟩⟩
  · unfold v_23_10 v_23_11
    refine ⟨fun w => absurd h5 w, fun _ => ⟨fun w => absurd (show (0 : Int32).toInt = 0 by decide) w, fun _ s1 hs1 x2 hx2 s3 hs3 s4 hs4 => ?_⟩⟩
    unfold v_23_46
    have e10 : s1.1 105 10 = s.1 105 10 := by rw [hs1, zf_1, if_neg (by decide)]
    have e9 : s1.1 105 9 = s.1 105 9 := by rw [hs1, zf_1, if_neg (by decide)]
    rw [e10, e9] at hx2
    have ex2 := hx2 (by omega)
    have F : ∀ c q, s4.1 c q = if c = 105 ∧ q = 9 then 0 else if c = 105 ∧ q = 10 then x2 else if c = 105 ∧ q = 13 then 2 else s.1 c q := fun c q => by rw [hs4, zf_1, hs3, zf_1, hs1, zf_1]
    refine ⟨Or.inl (by decide), by rw [hs4, zf_2, hs3, zf_2, hs1, zf_2], fun b q hq => ?_, Or.inr ⟨by omega, rfl, ?_, ?_, ?_⟩⟩
    · rw [F, if_neg (fun z => hq ⟨z.1, Or.inl z.2⟩), if_neg (fun z => hq ⟨z.1, Or.inr (Or.inl z.2)⟩), if_neg (fun z => hq ⟨z.1, Or.inr (Or.inr z.2)⟩)]
    · rw [F, if_neg (by decide), if_neg (by decide), if_pos ⟨rfl, rfl⟩]
      decide
    · rw [F, if_pos ⟨rfl, rfl⟩]
      decide
    · rw [F, if_neg (by decide), if_pos ⟨rfl, rfl⟩]
      omega
  · unfold v_23_11
    refine ⟨fun w => absurd h5 w, fun _ => ⟨fun _ => ?_, fun w => absurd w (by decide)⟩⟩
    unfold v_23_32
    refine ⟨fun w => absurd w (by decide), fun _ x1 hx1 s2 hs2 x3 hx3 s4 hs4 => ?_⟩
    unfold v_23_46
    have ex1 := hx1 (by omega)
    have e9 : s2.1 105 9 = s.1 105 9 := by rw [hs2, zf_1, if_neg (by decide)]
    rw [e9] at hx3
    have ex3 := hx3 (by omega)
    have F : ∀ c q, s4.1 c q = if c = 105 ∧ q = 9 then x3 else if c = 105 ∧ q = 10 then x1 else s.1 c q := fun c q => by rw [hs4, zf_1, hs2, zf_1]
    refine ⟨Or.inr (by decide), by rw [hs4, zf_2, hs2, zf_2], fun b q hq => ?_, Or.inl ⟨by omega, rfl, ?_, ?_, ?_⟩⟩
    · rw [F, if_neg (fun z => hq ⟨z.1, Or.inl z.2⟩), if_neg (fun z => hq ⟨z.1, Or.inr (Or.inl z.2)⟩)]
    · rw [F, if_neg (by decide), if_neg (by decide)]
      exact h5
    · rw [F, if_pos ⟨rfl, rfl⟩]
      omega
    · rw [F, if_neg (by decide), if_pos ⟨rfl, rfl⟩]
      omega
/-- push -/
theorem zs_21 (hP : P = 3 ∨ P = 39) (h1 : -1000 ≤ a1.toInt ∧ a1.toInt ≤ 1000000000) {h : Nat} (h7 : (s.1 105 7).toInt = (h : Int)) (hh : h < 4000) : Zt (d + 9) (wd2 P 21) 21 [.ref 105, .int a1] s (fun v s' => v = none ∧ (∀ b q, ¬ (b = 105 ∧ q = 7) → s'.1 b q = s.1 b q) ∧ (s'.1 105 7).toInt = (h : Int) + 1 ∧ ∀ r j, s'.2 r j = if r = 106 ∧ j = h then a1 else s.2 r j) := by
  refine zc_21 hP ?_
  unfold v_21_0
  refine ⟨h1, fun s1 hs1 x2 hx2 s3 hs3 => ?_⟩
  have hlim : lim 106 = 4000 := by decide +kernel
  have e1 : s1 = zr s 106 h a1 := by
    rw [hs1, zt_in ⟨by omega, by rw [hlim]; omega⟩, h7]
    rfl
  have e7 : s1.1 105 7 = s.1 105 7 := by rw [e1, zr_1]
  rw [e7] at hx2
  have ex2 := hx2 (by omega)
  refine ⟨rfl, fun b q hq => ?_, ?_, fun r j => ?_⟩
  · rw [hs3, zf_1, if_neg hq, e1, zr_1]
  · rw [hs3, zf_1, if_pos ⟨rfl, rfl⟩]
    omega
  · rw [hs3, zf_2, e1, zr_2]
/-- pop -/
theorem zs_22 (hP : P = 3 ∨ P = 39) {h : Nat} (h7 : (s.1 105 7).toInt = (h : Int) + 1) (hh : h < 4000) : Zt (d + 9) (wd2 P 22) 22 [.ref 105] s (fun v s' => s'.2 = s.2 ∧ (∀ b q, ¬ (b = 105 ∧ q = 7) → s'.1 b q = s.1 b q) ∧ (s'.1 105 7).toInt = (h : Int) ∧ v = some (.int (s.2 106 h))) := by
  refine zc_22 hP ?_
  unfold v_22_0
  intro x1 hx1 s2 hs2
  have ex1 := hx1 (by omega)
  have e7 : s2.1 105 7 = x1 := by rw [hs2, zf_1, if_pos ⟨rfl, rfl⟩]
  refine ⟨by rw [hs2, zf_2], fun b q hq => by rw [hs2, zf_1, if_neg hq], by rw [e7]; omega, ?_⟩
  rw [e7]
  unfold zg
  rw [if_pos (by omega), hs2, zf_2, show x1.toInt.toNat = h by omega]
set_option maxHeartbeats 1000000 in
/-- putType: a TYPE of code at a1 -/
theorem zs_25 (hP : P = 3 ∨ P = 39) (h : PRm K L W ar kd n lo hi TN Ls) (C : CSz K L W ar kd TN Ls n k0 P s) {D : Nat} (h8 : (s.1 105 8).toInt = (D : Int)) (hD : D ≤ 41) (h5 : (s.1 105 13).toInt = 5) (hl : (s.1 105 9).toInt = l) (hl0 : 0 ≤ l ∧ l ≤ 5000) (hy : (s.1 105 10).toInt = y) (hy0 : 0 ≤ y ∧ y ≤ 5000) (ht : (s.1 75 3).toInt = T) (hT : 18 ≤ T ∧ T + 60 ≤ 18738) (hE : E = ([], []) ∨ ENz P s (113 + 2 * D) T (eta E.1 E.2) 12) (hEk : enK ar (TN.length : Int) E) (hA : TGo ar (TN.length : Int) (E.1.length : Int) (E.2.length : Int) A) (hk : k ≤ 82938) (hK : kpz P k s a1.toInt A) : Zt (d + 18) (wd2 P 25) 25 [.ref 105, .int a1] s (fun v s' => RUz P T s s' ∧ s'.2 106 = s.2 106 ∧ s'.2 108 = s.2 108 ∧ s'.2 111 = s.2 111 ∧ (∀ i : Nat, s'.2 (113 + 2 * i) = s.2 (113 + 2 * i)) ∧ (∀ q, ¬ (q = 9 ∨ q = 10 ∨ q = 13) → s'.1 105 q = s.1 105 q) ∧ s'.1 111 2 = s.1 111 2 ∧ (s'.1 105 13).toInt = (ptT E A l).1 ∧ (s'.1 105 9).toInt = (ptT E A l).2.2 ∧ (s'.1 105 10).toInt = y + (l - (ptT E A l).2.2) ∧ ∃ r : Int32, v = some (.int r) ∧ ((-1000 ≤ r.toInt ∧ r.toInt ≤ 100000) ∧ ((ptT E A l).1 = 5 → ∃ T', (s'.1 75 3).toInt = T' ∧ T ≤ T' ∧ T' + (ptT E A l).2.2 ≤ T + l ∧ TYc ar (TN.length : Int) 0 0 P T' k s' r.toInt (ptT E A l).2.1 ∧ T ≤ r.toInt) ∧ 0 ≤ r.toInt ∧ ∃ B' : List Int, isR ar 1 B' ∧ B'.length ≤ 60 ∧ WDz P s' r.toInt B')) := by
  obtain ⟨ha, h24⟩ := PR_ar h
  obtain ⟨k1, k2, k3⟩ := hK
  obtain ⟨A1, ⟨A2, A3⟩, A4⟩ := hA
  have hc : ∀ c ∈ A, 0 ≤ c ∧ c < 36 := fun c hc => ⟨(A4 c hc).1, (A4 c hc).2.1⟩
  have hpk := enK_p hEk A4
  obtain ⟨B, hB⟩ : ∃ B, B = sbs (eta E.1 E.2) A := ⟨_, rfl⟩
  have rR : isR ar 1 B := by
    rw [hB]
    exact sbs_R A 1 A1 (fun c hc h24' => ⟨h24 c h24', (hpk c hc h24').1⟩)
  have rW : cdW 0 0 B := by
    rw [hB]
    exact sbs_cdW hpk A4
  have rT : cdT (TN.length : Int) B := by
    rw [hB]
    exact sbs_cdT hpk A3
  have hE' : (∀ c ∈ A, c < 24) ∨ ENz P s (113 + 2 * D) T (eta E.1 E.2) 12 := by
    rcases hE with q | q
    · refine Or.inl (fun c hc => ?_)
      obtain ⟨c0, c1, c2, c3⟩ := A4 c hc
      rw [q] at c2 c3
      have c2 : 24 ≤ c → c < 30 → c - 24 < ((0 : Nat) : Int) := c2
      have c3 : 30 ≤ c → c - 30 < ((0 : Nat) : Int) := c3
      omega
    · exact Or.inr q
  have pe1 : (∀ c ∈ A, c < 24) → ptT E A l = (5, A, l) := fun q => if_pos q
  have pe2 : ¬ (∀ c ∈ A, c < 24) → 60 < B.length → ptT E A l = (4, A, l) := fun q q2 => by
    unfold ptT
    rw [if_neg q, ← hB, if_pos q2]
  have pe3 : ¬ (∀ c ∈ A, c < 24) → ¬ 60 < B.length → (B.length : Int) ≤ l → ptT E A l = (5, B, l - (B.length : Int)) := fun q q2 q3 => by
    unfold ptT
    rw [if_neg q, ← hB, if_neg q2, if_pos q3]
  have pe4 : ¬ (∀ c ∈ A, c < 24) → ¬ 60 < B.length → ¬ (B.length : Int) ≤ l → ptT E A l = (2, B, 0) := fun q q2 q3 => by
    unfold ptT
    rw [if_neg q, ← hB, if_neg q2, if_neg q3]
  rw [show d + 18 = d + 9 + 9 by omega]
  refine zc_25 hP ?_
  unfold v_25_0
  refine Zt.imp (Zt.mo (d := 9) (by omega) (zs_24 (d := 0) (a1 := s.1 105 8) (by omega) (by omega))) ?_
  rintro v1 s2 ⟨hs2, he, rfl⟩
  rw [hs2]
  have eD : (s.1 105 8).toInt.toNat = D := by omega
  refine ⟨113 + 2 * (s.1 105 8).toInt.toNat, he, rfl, ?_⟩
  rw [eD] at he ⊢
  refine Zt.imp (Zt.mo (d := 9) (by omega) (zs_87g (d := 0) (ar := ar) (t := T) hP he C.1.1.2.2.2 ha ht hT hE' A1 A2 hc ⟨by omega, by omega⟩ k3 (Or.inr k1))) ?_
  rintro v3 s4 ⟨f1, r, rfl, hr⟩
  rw [← hB] at hr
  have R4 := RUz_pf f1
  have o4 : ∀ r, ¬ r = P + 18 → s4.2 r = s.2 r := f1.1
  have o105 : ∀ q, s4.1 105 q = s.1 105 q := fun q => f1.2.2 105 q (fun z => absurd z.1 (by decide))
  have rows : s4.2 106 = s.2 106 ∧ s4.2 108 = s.2 108 ∧ s4.2 111 = s.2 111 ∧ ∀ i : Nat, s4.2 (113 + 2 * i) = s.2 (113 + 2 * i) := ⟨o4 _ (by omega), o4 _ (by omega), o4 _ (by omega), fun i => o4 _ (by omega)⟩
  have e111 : s4.1 111 2 = s.1 111 2 := f1.2.2 111 2 (fun z => absurd z.1 (by decide))
  refine ⟨r, rfl, ?_⟩
  rcases hr with ⟨g1, g2, g3⟩ | ⟨g1, g2, g3⟩
  · -- too great
    have np : ¬ ∀ c ∈ A, c < 24 := fun q => by
      rw [hB, sbs_pl A q] at g1
      omega
    refine ⟨fun w => absurd w (by omega), fun _ s13 hs13 => ?_⟩
    rw [pe2 np g1]
    have F : ∀ c q, s13.1 c q = if c = 105 ∧ q = 13 then 4 else s4.1 c q := fun c q => by rw [hs13, zf_1]
    have r13 : s13.2 = s4.2 := by rw [hs13, zf_2]
    refine ⟨RUz_tr R4 (RUz_o (T := T) hP (fun r _ _ _ _ => by rw [r13]) (fun c q h1 _ => by rw [F, if_neg (fun z => h1 z.1)])) (Int.le_refl _), by rw [r13]; exact rows.1, by rw [r13]; exact rows.2.1, by rw [r13]; exact rows.2.2.1, fun i => by rw [r13]; exact rows.2.2.2 i, fun q hq => ?_, ?_, ?_, ?_, ?_, a1, rfl, ⟨by omega, by omega⟩, fun w => absurd (show (4 : Int) = 5 from w) (by decide), by omega, A, A1, A2, fun i c hc => by rw [r13]; exact RUz_wd R4 (by omega) (Or.inr k1) k3 i c hc⟩
    · rw [F, if_neg (fun z => hq (Or.inr (Or.inr z.2))), o105]
    · rw [F, if_neg (by decide), e111]
    · rw [F, if_pos ⟨rfl, rfl⟩]
      show (4 : Int32).toInt = 4
      decide
    · rw [F, if_neg (by decide), o105]
      exact hl
    · rw [F, if_neg (by decide), o105, hy]
      show y = y + (l - l)
      omega
  · rcases g3 with ⟨q1, q2, q3⟩ | ⟨q1, q2, q3⟩
    · -- no PARAM in it
      have eB : B = A := by rw [hB, sbs_pl A q3]
      subst q1
      refine ⟨fun w => ⟨fun _ => ?_, fun w2 => absurd rfl w2⟩, fun w => absurd (by omega) w⟩
      unfold v_25_28
      rw [pe1 q3]
      refine ⟨R4, rows.1, rows.2.1, rows.2.2.1, rows.2.2.2, fun q _ => o105 q, e111, by rw [o105]; exact h5, by rw [o105]; exact hl, ?_, r, rfl, ⟨by omega, by omega⟩, fun _ => ⟨T, by rw [q2]; exact ht, Int.le_refl _, by show T + l ≤ T + l; omega, ?_⟩, by omega, B, rR, g1, g2⟩
      · rw [o105, hy]
        show y = y + (l - l)
        omega
      · rw [eB] at g2 rW rT
        exact ⟨⟨⟨by omega, Or.inr ⟨k1, k2⟩⟩, g2, A1, ⟨A2, rT⟩, rW⟩, by omega⟩
    · -- it is put
      refine ⟨fun w => ⟨fun w2 => absurd w2 (by omega), fun _ => ?_⟩, fun w => absurd (by omega) w⟩
      have eA4 : KI (s4.2 (P + 22)) = ar := by rw [o4 _ (by omega)]; exact C.1.1.2.2.2
      refine Zt.imp (Zt.mo (d := 9) (by omega) (zs_83 (d := 0) (ar := ar) (A := B) hP eA4 ha rR (by omega) ⟨by omega, by omega⟩ g2)) ?_
      rintro v6 s7 ⟨hs7, x8, rfl, ex8⟩
      rw [hs7]
      refine ⟨x8, rfl, fun x9 hx9 => ?_⟩
      have ex9 := hx9 (by omega)
      refine Zt.imp (Zt.mo (d := 9) (by omega) (zs_23 (d := 0) (l := l) (y := y) hP (by omega) (by rw [o105]; exact h5) (by rw [o105]; exact hl) hl0 (by rw [o105]; exact hy) hy0)) ?_
      rintro v10 s11 ⟨t1, t2, t3⟩
      have R11 : RUz P T s s11 := RUz_tr R4 (RUz_o (T := T) hP (fun r _ _ _ _ => by rw [t1]) (fun c q h1 _ => t2 c q (fun z => h1 z.1))) (Int.le_refl _)
      have rows' : s11.2 106 = s.2 106 ∧ s11.2 108 = s.2 108 ∧ s11.2 111 = s.2 111 ∧ ∀ i : Nat, s11.2 (113 + 2 * i) = s.2 (113 + 2 * i) := by
        rw [t1]
        exact rows
      have q105 : ∀ q, ¬ (q = 9 ∨ q = 10 ∨ q = 13) → s11.1 105 q = s.1 105 q := fun q hq => by
        rw [t2 105 q (fun z => hq z.2), o105]
      have q111 : s11.1 111 2 = s.1 111 2 := by rw [t2 111 2 (fun z => absurd z.1 (by decide)), e111]
      have q75 : (s11.1 75 3).toInt = T + (B.length : Int) := by
        rw [t2 75 3 (fun z => absurd z.1 (by decide))]
        exact q2
      have hg : ¬ 60 < B.length := by omega
      rcases t3 with ⟨m1, rfl, m2, m3, m4⟩ | ⟨m1, rfl, m2, m3, m4⟩
      · refine ⟨1, rfl, ?_⟩
        unfold v_25_28
        rw [pe3 q3 hg (by omega)]
        refine ⟨R11, rows'.1, rows'.2.1, rows'.2.2.1, rows'.2.2.2, q105, q111, m2, by rw [m3, ex9, ex8]; show _ = l - (B.length : Int); omega, ?_, r, rfl, ⟨by omega, by omega⟩, fun _ => ⟨T + (B.length : Int), q75, by omega, by show T + (B.length : Int) + (l - (B.length : Int)) ≤ T + l; omega, ?_⟩, by omega, B, rR, g1, fun i c hc => by rw [t1]; exact g2 i c hc⟩
        · rw [m4]
          show _ = y + (l - (l - (B.length : Int)))
          omega
        · refine ⟨⟨⟨by omega, Or.inl (by rw [q1]; exact Int.le_refl _)⟩, fun i c hc => ?_, rR, ⟨g1, rT⟩, rW⟩, by omega⟩
          rw [t1]
          exact g2 i c hc
      · refine ⟨0, rfl, ?_⟩
        unfold v_25_28
        rw [pe4 q3 hg (by omega)]
        refine ⟨R11, rows'.1, rows'.2.1, rows'.2.2.1, rows'.2.2.2, q105, q111, m2, m3, ?_, r, rfl, ⟨by omega, by omega⟩, fun w => absurd (show (2 : Int) = 5 from w) (by decide), by omega, B, rR, g1, fun i c hc => by rw [t1]; exact g2 i c hc⟩
        rw [m4]
        show _ = y + (l - 0)
        omega
end ZTE
