/-! ===== the class: Machine: step, go ===== -/
/-- whether a TYPE without PARAMS meets another -/
def mvC (K L W ar kd : Int → Int) (TN Ls : List Int) (A D : List Int) : Int := mvD K L W ar kd TN Ls A A D
section ZTL
variable {K L W ar kd : Int → Int} {TN Ls : List Int} {n k0 mB k z L0 T l cl fa lo hi pc : Int} {P d b : Nat} {s : zS} {C : List Ins} {st : List Itm} {E : Env} {fr : List Frm} {vs : Vls} {a1 : Int32} {I : Ins} {Y : PMs} {gg : Int × Int}
theorem zs_26x (hP : P = 3 ∨ P = 39) (M : MRz K L W ar kd TN Ls n k0 mB P k z gg L0 (5, C, st, b, E, fr, vs, l, cl, fa) s) (hl : l < 1) : Zt (d + 18) (wd2 P 26) 26 [.ref 105, .int a1] s (fun r s' => r = none ∧ HLz K L W ar kd TN Ls n k0 mB P k z gg L0 (2, C, st, b, E, fr, vs, 0, cl, fa) s') := by
  rw [show d + 18 = d + 9 + 9 by omega]
  refine zc_26 hP ?_
  unfold v_26_0
  refine Zt.imp (Zt.mo (d := 9) (by omega) (MR_take (d := 0) (a1 := 1) hP M (by decide))) ?_
  rintro w1 s2 ⟨-, -, u3⟩
  rcases u3 with ⟨l1, -, -⟩ | ⟨l1, rfl, H'⟩
  · omega
  · exact ⟨0, rfl, fun w => absurd (show (0 : Int32).toInt = 0 by decide) w, fun _ => ⟨rfl, H'⟩⟩
set_option maxHeartbeats 1000000 in
/-- one step -/
theorem zs_20 (hP : P = 3 ∨ P = 39) (h : PRm K L W ar kd n lo hi TN Ls) (hC : PCk K L W ar kd TN Ls mB) (M : MRz K L W ar kd TN Ls n k0 mB P k z gg L0 (5, C, st, b, E, fr, vs, l, cl, fa) s) (hI : inz P k s pc I) (hK : inK ar (TN.length : Int) (E.1.length : Int) (E.2.length : Int) I) (hpc : a1.toInt = 6 * pc) (hpc0 : 0 ≤ pc ∧ pc ≤ 4001) (hS : PSt ar (fcD K L W ar kd TN Ls) (mvC K L W ar kd TN Ls) (5, I :: C, st, b, E, fr, vs, l, cl, fa) Y) : Zt (d + 45) (wd2 P 20) 20 [.ref 105, .int a1] s (fun r s' => r = none ∧ ROk K L W ar kd TN Ls n k0 mB P k z gg L0 Y s') := by
  obtain ⟨-, hst, hS⟩ := hS
  obtain ⟨i0, i14, i3, i2, i6, i5⟩ := hI
  obtain ⟨j26, j5, j35⟩ := hK
  rw [show d + 45 = d + 36 + 9 by omega]
  refine zc_20 hP ?_
  unfold v_20_0
  intro x1 hx1 x2 hx2
  have ex1 := hx1 (by omega)
  have ex2 := hx2 (by omega)
  have e0 : Int32.toInt (zg s (P + 34) x2) = I.1 := by
    rw [zg_K, ex2, hpc, Int.add_zero]
    exact i0
  have e1 : (zg s (P + 34) x1).toInt = KI (s.2 (P + 34)) (6 * pc + 1) := by rw [zg_K, ex1, hpc]
  rw [e0]
  refine ⟨fun q => ?_, fun q x5 hx5 x6 hx6 x7 hx7 => ?_, fun q => ?_, fun q x15 hx15 => ?_, fun q => ?_, fun q => ?_, fun q x30 hx30 => ?_⟩
  · -- LEAVE
    rcases hS with ⟨w, -⟩ | ⟨w, -⟩ | ⟨w, -⟩ | ⟨w, -⟩ | ⟨w, -⟩ | ⟨w, -⟩ | ⟨-, s0, v, rfl, hY⟩
    · exact absurd w q.1
    · exact absurd w q.2.1
    · exact absurd w q.2.2.1
    · exact absurd w q.2.2.2.1
    · exact absurd w q.2.2.2.2.1
    · exact absurd w q.2.2.2.2.2
    refine Zt.imp (Zt.mo (d := 18) (by omega) (zs_29 (d := 0) hP M hY)) ?_
    rintro v3 s4 ⟨rfl, g⟩
    unfold v_20_83
    exact ⟨rfl, rfl, g⟩
  · -- VAR
    rcases hS with ⟨-, h0, hfr, v, hv, rfl⟩ | ⟨w, -⟩ | ⟨w, -⟩ | ⟨w, -⟩ | ⟨w, -⟩ | ⟨w, -⟩ | ⟨w, -⟩
    rotate_left
    all_goals try omega
    obtain ⟨M1, T, M2, M3, -, M5, M6, M7⟩ := id M
    have M3 : MFd L0 s st fr vs l cl := M3
    have M5 : STk ar (TN.length : Int) P T k s vs st := M5
    have M6 : VLk ar (TN.length : Int) P T k s vs := M6
    have M7 : FRk ar (TN.length : Int) P T k z s fr b E := M7
    have m6 := M3.1.2.2.2.2.2.1
    have m12 := M3.2.2.2.2.2
    have mv0 := M3.2.2.2.1
    have mL := M3.2.1
    have ex5 := hx5 (by omega)
    have ex6 := hx6 (by omega)
    have eb : (zg s 108 x6).toInt = (b : Int) := by
      cases fr with
      | nil => exact absurd rfl hfr
      | cons q fr =>
        obtain ⟨C', b', E'⟩ := q
        have hl : ((C', b', E') :: fr).length = fr.length + 1 := rfl
        rw [hl] at m6
        rw [zg_K, show x6.toInt = 2 * ((fr.length + 1 : Nat) : Int) + 1 by omega]
        exact M7.1.1
    have en : (zg s (P + 34) x1).toInt = I.2.2.1 := by
      rw [e1]
      exact i14 (Or.inl q)
    have hvl := (List.getElem?_eq_some_iff.mp hv).1
    rw [eb, en] at hx7
    have ex7 := hx7 (by omega)
    have ev : (zg s 106 x7).toInt = (plv vs v : Int) ∧ v < vs.length := by
      have := M5 _ _ hv
      rw [zg_K, ex7, show (b : Int) + I.2.2.1 = ((b + I.2.2.1.toNat : Nat) : Int) by omega]
      exact ⟨this.2, this.1⟩
    have hp7 := plv_7 M6 v (by omega)
    refine Zt.imp (Zt.mo (d := 9) (by omega) (MR_push (d := 0) (it := .inr v) hP M hst (by omega) ⟨ev.2, ev.1⟩)) ?_
    rintro v8 s9 ⟨rfl, g⟩
    unfold v_20_83
    exact ⟨rfl, rfl, fun _ => g, fun w => absurd rfl w⟩
  · -- OPEN
    rcases hS with ⟨w, -⟩ | ⟨-, rfl⟩ | ⟨w, -⟩ | ⟨w, -⟩ | ⟨w, -⟩ | ⟨w, -⟩ | ⟨w, -⟩
    rotate_left
    rotate_left
    all_goals try omega
    have kA := i2 q
    rw [← e1] at kA
    refine Zt.imp (Zt.mo (d := 18) (by omega) (MR_put (d := 0) hP h M (j26 (Or.inl q)) kA)) ?_
    rintro v10 s11 ⟨g1, g2, g3, g4, g5, g6, g8, r, rfl, t1, t2, t3, -⟩
    refine ⟨r, rfl, ?_⟩
    by_cases o5 : (ptT E I.2.1 l).1 = 5
    · obtain ⟨N1, -, tD⟩ := t2 o5
      refine Zt.imp (Zt.mo (d := 9) (by omega) (MR_push (d := 0) (it := .inl (ptT E I.2.1 l).2.1) hP N1 hst (by omega) tD)) ?_
      rintro v13 s14 ⟨rfl, g⟩
      unfold v_20_83
      refine ⟨rfl, rfl, fun _ => ?_, fun w => absurd o5 w⟩
      exact g
    · obtain ⟨-, T, -, M3, -⟩ := id M
      have M3 : MFd L0 s st fr vs l cl := M3
      refine Zt.imp (Zt.mo (d := 9) (by omega) (zs_21 (d := 0) (h := st.length) hP (by omega) (by rw [g6 7 (by decide)]; exact M3.1.2.2.2.2.1) (by omega))) ?_
      rintro v13 s14 ⟨rfl, f1, f2, f3⟩
      unfold v_20_83
      refine ⟨rfl, rfl, fun w => absurd w o5, fun _ => ?_⟩
      obtain ⟨H1, H2, H3, -⟩ := t3 o5
      have fk : ∀ q, ¬ q = 7 → s14.1 105 q = s11.1 105 q := fun q hq => f1 105 q (fun z => hq z.2)
      have R : RUz P 18 s11 s14 := RUz_o hP (fun r h1 _ _ _ => by
        funext j
        rw [f3, if_neg (fun z => h1 z.1)]) (fun c q h1 _ => f1 c q (fun z => h1 z.1))
      refine ⟨PGz_u hP (Int.le_refl _) R H1, ⟨by rw [fk 13 (by decide)]; exact H2.1, by rw [fk 10 (by decide)]; exact H2.2.1, by rw [fk 11 (by decide)]; exact H2.2.2.1, H2.2.2.2⟩, fun w => by rw [fk 12 (by decide)]; exact H3 w, fun w => ?_⟩
      have w : (ptT E I.2.1 l).1 = 0 := w
      rcases ptT_o (E := E) (A := I.2.1) (l := l) with q | q | q <;> omega
  · -- MAKE
    have ex15 := hx15 (by omega)
    have ec : (zg s (P + 34) x15).toInt = I.2.2.1 := by
      rw [zg_K, ex15, hpc]
      exact i3 q
    have j3 := j35 (Or.inl q)
    rcases hS with ⟨w, -⟩ | ⟨w, -⟩ | ⟨-, hY⟩ | ⟨w, -⟩ | ⟨w, -⟩ | ⟨w, -⟩ | ⟨w, -⟩
    rotate_left
    rotate_left
    rotate_left
    all_goals try omega
    rcases hY with ⟨l1, rfl⟩ | ⟨l1, s0, A, ps, rfl, hn, rfl⟩
    · refine Zt.imp (Zt.mo (d := 18) (by omega) (zs_26x (d := 0) (a1 := zg s (P + 34) x15) hP M l1)) ?_
      rintro v16 s17 ⟨rfl, g⟩
      unfold v_20_83
      exact ⟨rfl, rfl, fun w => absurd (show (2 : Int) = 5 from w) (by decide), fun _ => g⟩
    · refine Zt.imp (Zt.mo (d := 18) (by omega) (zs_26 (d := 0) (a1 := zg s (P + 34) x15) hP M (by omega) (by omega) (Or.inr ⟨l1, rfl⟩))) ?_
      rintro v16 s17 ⟨rfl, g⟩
      unfold v_20_83
      exact ⟨rfl, rfl, g⟩
  · -- FIELD
    have en : (zg s (P + 34) x1).toInt = I.2.2.1 := by
      rw [e1]
      exact i14 (Or.inr q)
    rcases hS with ⟨w, -⟩ | ⟨w, -⟩ | ⟨w, -⟩ | ⟨-, h0, hY⟩ | ⟨w, -⟩ | ⟨w, -⟩ | ⟨w, -⟩
    rotate_left
    rotate_left
    rotate_left
    rotate_left
    all_goals try omega
    refine Zt.imp (Zt.mo (d := 9) (by omega) (MR_take (d := 0) (a1 := 1) hP M (by decide))) ?_
    rintro v18 s19 ⟨-, -, u3⟩
    rcases u3 with ⟨l1, rfl, M'⟩ | ⟨l1, rfl, H'⟩
    rotate_left
    · refine ⟨0, rfl, fun _ => ?_, fun w => absurd (show (0 : Int32).toInt = 0 by decide) w⟩
      unfold v_20_83
      rcases hY with ⟨-, rfl⟩ | ⟨q1, -⟩
      · exact ⟨rfl, fun w => absurd (show (2 : Int) = 5 from w) (by decide), fun _ => H'⟩
      · omega
    refine ⟨1, rfl, fun w => absurd w (by decide), fun _ => ?_⟩
    rcases hY with ⟨q1, -⟩ | ⟨-, s0, v, u, A, ps, rfl, hv, hu, rfl⟩
    · omega
    refine Zt.imp (Zt.mo (d := 9) (by omega) (MR_pop (d := 0) hP M')) ?_
    rintro v21 s22 ⟨M22, -, r22, x23, rfl, hx23⟩
    have hx23 : v < vs.length ∧ x23.toInt = (plv vs v : Int) := hx23
    obtain ⟨-, T, -, M3, -, -, M6, -⟩ := id M22
    have M3 : MFd L0 s22 s0 fr vs (l - 1) cl := M3
    have M6 : VLk ar (TN.length : Int) P T k s22 vs := M6
    have mv0 := M3.2.2.2.1
    have mL := M3.2.1
    obtain ⟨-, y2, y3⟩ := M6 v A ps hv
    obtain ⟨y4, y5⟩ := y3 _ _ hu
    have hu0 := (List.getElem?_eq_some_iff.mp hu).1
    have hp7 := plv_7 M6 v (by omega)
    have hp8 := plv_7 M6 u (by omega)
    refine ⟨x23, rfl, fun x24 hx24 x25 hx25 => ?_⟩
    have ex24 := hx24 (by omega)
    rw [en] at hx25
    have ex25 := hx25 (by omega)
    have ev : (zg s22 111 x25).toInt = (plv vs u : Int) := by
      rw [zg_K, show x25.toInt = (plv vs v : Int) + 1 + ((I.2.2.1.toNat : Nat) : Int) by omega]
      exact y5
    have hs0 : s0.length ≤ 3900 := by
      rw [List.length_append] at hst
      have hst : s0.length + 1 ≤ 3900 := hst
      omega
    refine Zt.imp (Zt.mo (d := 9) (by omega) (MR_push (d := 0) (it := .inr u) hP M22 hs0 (by omega) ⟨y4, ev⟩)) ?_
    rintro v26 s27 ⟨rfl, g⟩
    unfold v_20_83
    exact ⟨rfl, rfl, fun _ => g, fun w => absurd rfl w⟩
  · -- CALL
    obtain ⟨c1, c2, c4, c3, -⟩ := i5 q
    obtain ⟨k6, kT⟩ := j5 q
    have j3 := j35 (Or.inr q)
    rcases hS with ⟨w, -⟩ | ⟨w, -⟩ | ⟨w, -⟩ | ⟨w, -⟩ | ⟨-, s0, v, as, A, ps, rfl, hn, hv, hY⟩ | ⟨w, -⟩ | ⟨w, -⟩
    rotate_left
    rotate_left
    rotate_left
    rotate_left
    rotate_left
    all_goals try omega
    rw [← hn] at c2
    have ey : (zg s (P + 34) x1).toInt = I.2.2.2.2 := by
      rw [e1]
      exact c1
    refine Zt.imp (Zt.mo (d := 36) (by omega) (zs_27 (d := 0) (Ys := I.2.2.2.1) (a2 := zg s (P + 34) x1) hP h hC M hv hpc hpc0 c2 (by omega) c4 k6 c3 kT (by unfold CLq; rw [ey]; exact hY))) ?_
    rintro v28 s29 ⟨rfl, g⟩
    unfold v_20_83
    exact ⟨rfl, rfl, g⟩
  · -- CAST
    obtain ⟨kA, c2⟩ := i6 q
    rw [← e1] at kA
    have ex30 := hx30 (by omega)
    have ef : (zg s (P + 34) x30).toInt = I.2.2.1 := by
      rw [zg_K, ex30, hpc]
      exact c2
    rcases hS with ⟨w, -⟩ | ⟨w, -⟩ | ⟨w, -⟩ | ⟨w, -⟩ | ⟨w, -⟩ | ⟨-, s0, v, A, ps, rfl, hv, hY⟩ | ⟨w, -⟩
    rotate_left
    rotate_left
    rotate_left
    rotate_left
    rotate_left
    rotate_left
    all_goals try omega
    unfold mvC at hY
    rw [← ef] at hY
    refine Zt.imp (Zt.mo (d := 36) (by omega) (zs_28 (d := 0) (A := I.2.1) (Z := A) (ps := ps) hP h M (j26 (Or.inr q)) kA hv hY)) ?_
    rintro v31 s32 ⟨rfl, g⟩
    unfold v_20_83
    exact ⟨rfl, rfl, g⟩
set_option maxHeartbeats 1000000 in
/-- go: as many steps as the pure machine takes -/
theorem zs_19 (hP : P = 3 ∨ P = 39) (h : PRm K L W ar kd n lo hi TN Ls) (hC : PCk K L W ar kd TN Ls mB) {X : PMs} (hX : X.1 = 5) (M : MRz K L W ar kd TN Ls n k0 mB P k z gg L0 X s) {N : Nat} (hN : N < 1000000) (hS : PSn ar (fcD K L W ar kd TN Ls) (mvC K L W ar kd TN Ls) N X Y) (hY : ¬ Y.1 = 5) : Zt (d + 54) (wd2 P 19) 19 [.ref 105] s (fun r s' => r = none ∧ HLz K L W ar kd TN Ls n k0 mB P k z gg L0 Y s') := by
  rw [show d + 54 = d + 45 + 9 by omega]
  refine zc_19 hP ?_
  unfold v_19_0
  refine ⟨fun b1 w => ∃ (i : Nat) (Z : PMs), b1.toInt = (i : Int) ∧ i ≤ N ∧ PSn ar (fcD K L W ar kd TN Ls) (mvC K L W ar kd TN Ls) (N - i) Z Y ∧ ROk K L W ar kd TN Ls n k0 mB P k z gg L0 Z w, fun b1 _ => (1000000 - b1.toInt).toNat, ⟨0, X, by decide, Nat.zero_le _, hS, fun _ => M, fun w => absurd hX w⟩, ?_⟩
  rintro b1 w ⟨i, Z, i1, i2, i3, i4, i5⟩
  have fin : ¬ Z.1 = 5 → v_19_25 (fun j => Zt (d + 45 + 8) (wd2 P j) j) P b1 w (fun r s' => r = none ∧ HLz K L W ar kd TN Ls n k0 mB P k z gg L0 Y s') := fun hZ => by
    unfold v_19_25
    have eZ : Z = Y := by
      cases hm : N - i with
      | zero =>
        rw [hm] at i3
        exact i3.symm
      | succ m =>
        rw [hm] at i3
        obtain ⟨V, v1, -⟩ := i3
        obtain ⟨o, Cz, stz, bz, Ez, frz, vsz, lz, clz, faz⟩ := Z
        cases Cz with
        | nil => exact absurd v1 id
        | cons I Cz => exact absurd v1.1 hZ
    rw [← eZ]
    exact ⟨rfl, i5 hZ⟩
  unfold v_19_2
  by_cases hZ : Z.1 = 5
  rotate_left
  · have h13 : (w.1 105 13).toInt = Z.1 := (i5 hZ).2.1.1
    exact ⟨fun _ => fin hZ, fun _ => ⟨fun _ => fin hZ, fun q => absurd (h13.symm.trans q) hZ⟩⟩
  have M' := i4 hZ
  -- it runs on: a step is left
  obtain ⟨m, hm⟩ : ∃ m, N - i = m + 1 := by
    cases hm : N - i with
    | zero =>
      rw [hm] at i3
      have i3 : Y = Z := i3
      rw [i3] at hY
      exact absurd hZ hY
    | succ m => exact ⟨m, rfl⟩
  rw [hm] at i3
  obtain ⟨V, v1, v2⟩ := i3
  obtain ⟨o, Cz, stz, bz, Ez, frz, vsz, lz, clz, faz⟩ := Z
  have hZ : o = 5 := hZ
  subst hZ
  cases Cz with
  | nil => exact absurd v1 id
  | cons I C =>
    obtain ⟨M1, T, M2, M3, ⟨M4, M4b, M4c⟩, M5, M6, M7⟩ := M'
    have M2 : MTp T lz w := M2
    have M3 : MFd L0 w stz frz vsz lz clz := M3
    have M4 : LYz P k z w (w.1 105 6).toInt (I :: C) := M4
    have M4b : cdK ar (TN.length : Int) (Ez.1.length : Int) (Ez.2.length : Int) (I :: C) := M4b
    have h13 : (w.1 105 13).toInt = 5 := M3.1.1
    refine ⟨fun q => by omega, fun _ => ⟨fun q => absurd h13 q, fun _ x1 hx1 x2 hx2 s3 hs3 => ?_⟩⟩
    obtain ⟨p0, p1, p2⟩ := M4
    have hz := M1.2.1.2.2.2
    have hl : (I :: C).length = C.length + 1 := rfl
    rw [hl] at p1
    obtain ⟨pc, hpc⟩ : ∃ pc, (w.1 105 6).toInt = pc := ⟨_, rfl⟩
    rw [hpc] at p0 p1 p2 hx1 hx2
    have ex1 := hx1 (by omega)
    have ex2 := hx2 (by omega)
    have hT : 18 ≤ T := by have := M2.1.2.1; omega
    have F : ∀ c q, s3.1 c q = if c = 105 ∧ q = 6 then x2 else w.1 c q := fun c q => by rw [hs3, zf_1]
    have r3 : s3.2 = w.2 := by rw [hs3, zf_2]
    have fo : ∀ c q, ¬ (c = 105 ∧ q = 6) → s3.1 c q = w.1 c q := fun c q hq => by rw [F, if_neg hq]
    have R : RUz P T w s3 := RUz_o hP (fun r _ _ _ _ => by rw [r3]) (fun c q h1 _ => fo c q (fun z => h1 z.1))
    have I3 : inz P k s3 pc I := by
      have := p2 0 I rfl
      rw [show pc + ((0 : Nat) : Int) = pc by omega] at this
      exact inz_k (fun j _ _ => by rw [r3]) (Int.le_refl _) (fun j _ => by rw [r3]) p0 this
    have N3 : MRz K L W ar kd TN Ls n k0 mB P k z gg L0 (5, C, stz, bz, Ez, frz, vsz, lz, clz, faz) s3 := by
      refine ⟨PGz_u hP hT R M1, T, ?_, ?_, ⟨?_, fun J hJ => M4b J (List.mem_cons_of_mem _ hJ), M4c⟩, STk_u R (Int.le_refl _) (fun j _ => by rw [r3]) M5, VLk_u R (Int.le_refl _) (by rw [r3]) M6, FRk_u hP R (Int.le_refl _) frz bz Ez (fun j _ => by rw [r3]) (fun i _ => by rw [r3]) M7⟩
      · show MTp T lz s3
        unfold MTp
        rw [fo 75 3 (by decide), fo 75 4 (by decide), fo 75 6 (by decide)]
        exact M2
      · show MFd L0 s3 stz frz vsz lz clz
        unfold MFd
        rw [fo 105 13 (by decide), fo 105 9 (by decide), fo 105 10 (by decide), fo 105 11 (by decide), fo 105 7 (by decide), fo 105 8 (by decide), fo 111 2 (by decide)]
        exact M3
      · show LYz P k z s3 (s3.1 105 6).toInt C
        rw [F, if_pos ⟨rfl, rfl⟩, ex2]
        refine ⟨by omega, by omega, fun j J hj => ?_⟩
        have := p2 (j + 1) J hj
        rw [show pc + ((j + 1 : Nat) : Int) = pc + 1 + (j : Int) by omega] at this
        exact inz_k (fun j _ _ => by rw [r3]) (Int.le_refl _) (fun j _ => by rw [r3]) (by omega) this
    refine Zt.imp (Zt.mo (d := 45) (by omega) (zs_20 (d := 0) (pc := pc) hP h hC N3 I3 (M4b I List.mem_cons_self) (by omega) ⟨p0, by omega⟩ v1)) ?_
    rintro v4 s5 ⟨rfl, g⟩
    refine ⟨rfl, fun x6 hx6 => ?_⟩
    have ex6 := hx6 (by omega)
    exact ⟨⟨i + 1, V, by omega, by omega, by rw [show N - (i + 1) = m by omega]; exact v2, g⟩, by dsimp only; omega⟩
end ZTL
