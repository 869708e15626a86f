/-! ===== the class: Machine: putType, cast, leave ===== -/
section ZTG
variable {K L W ar kd : Int → Int} {TN Ls : List Int} {n k0 mB k z L0 T l cl fa o lo hi : Int} {P d b v : Nat} {s s' : zS} {C C' : List Ins} {st s0 : List Itm} {it : Itm} {E E' : Env} {fr : List Frm} {vs : Vls} {a1 a2 : Int32} {A Z : List Int} {ps : List Nat} {gg : Int × Int}
theorem FRk_e (h : FRk ar (TN.length : Int) P T k z s fr b E) : E = ([], []) ∨ ENz P s (113 + 2 * fr.length) T (eta E.1 E.2) 12 := by
  cases fr with
  | nil => exact Or.inl h
  | cons q fr =>
    obtain ⟨C', b', E'⟩ := q
    exact Or.inr h.1.2.2
/-- a TYPE of code is put -/
theorem MR_put (hP : P = 3 ∨ P = 39) (h : PRm K L W ar kd n lo hi TN Ls) (M : MRz K L W ar kd TN Ls n k0 mB P k z gg L0 (o, C, st, b, E, fr, vs, l, cl, fa) s) (hA : TGo ar (TN.length : Int) (E.1.length : Int) (E.2.length : Int) A) (hK : kpz P k s a1.toInt A) : Zt (d + 18) (wd2 P 25) 25 [.ref 105, .int a1] s (fun w s' => RUz P (s.1 75 3).toInt s s' ∧ s'.2 106 = s.2 106 ∧ s'.2 108 = s.2 108 ∧ s'.2 111 = s.2 111 ∧ (∀ i : Nat, s'.2 (113 + 2 * i) = s.2 (113 + 2 * i)) ∧ (∀ q, ¬ (q = 9 ∨ q = 10 ∨ q = 13) → s'.1 105 q = s.1 105 q) ∧ (s'.1 105 13).toInt = (ptT E A l).1 ∧ ∃ r : Int32, w = some (.int r) ∧ (-1000 ≤ r.toInt ∧ r.toInt ≤ 100000) ∧ ((ptT E A l).1 = 5 → MRz K L W ar kd TN Ls n k0 mB P k z gg L0 (o, C, st, b, E, fr, vs, (ptT E A l).2.2, cl, fa) s' ∧ (s.1 75 3).toInt ≤ (s'.1 75 3).toInt ∧ TYc ar (TN.length : Int) 0 0 P (s'.1 75 3).toInt k s' r.toInt (ptT E A l).2.1 ∧ 4218 ≤ r.toInt) ∧ (¬ (ptT E A l).1 = 5 → HLz K L W ar kd TN Ls n k0 mB P k z gg L0 ((ptT E A l).1, C, st, b, E, fr, vs, (ptT E A l).2.2, cl, fa) s') ∧ 0 ≤ r.toInt ∧ ∃ B' : List Int, isR ar 1 B' ∧ B'.length ≤ 60 ∧ WDz P s' r.toInt B') := by
  obtain ⟨M1, T, M2, M3, ⟨M4, M4b, M4c⟩, M5, M6, M7⟩ := M
  have M2 : MTp T l s := M2
  have M3 : MFd L0 s st fr vs l cl := M3
  have M4 : LYz P k z s (s.1 105 6).toInt C := M4
  have M4c : enK ar (TN.length : Int) E := M4c
  have M5 : STk ar (TN.length : Int) P T k s vs st := M5
  have M6 : VLk ar (TN.length : Int) P T k s vs := M6
  have M7 : FRk ar (TN.length : Int) P T k z s fr b E := M7
  obtain ⟨⟨m1, m2, m3, m4, m5, m6, m7⟩, m8, m9, m10, m11, m12⟩ := M3
  obtain ⟨⟨p1, p2, p3⟩, p4, p5⟩ := M2
  refine Zt.imp (zs_25 (d := d) (l := l) (y := L0 - l) (T := T) (D := fr.length) hP h M1.1 m6 (by omega) m1 m2 (by omega) m3 (by omega) p1 ⟨by omega, by omega⟩ (FRk_e M7) M4c hA M1.2.1.2.2.1 hK) ?_
  rintro w s' ⟨f1, f2, f3, f4, f5, f6, f7, f8, f9, f10, r, rfl, g1, g2, g3, g4⟩
  have hl := ptT_l (E := E) (A := A) (l := l) m8.1
  have hT : 18 ≤ T := by omega
  rw [p1]
  refine ⟨f1, f2, f3, f4, f5, f6, f8, r, rfl, g1, fun o5 => ?_, fun o5 => ?_, g3, g4⟩
  · obtain ⟨T', t1, t2, t3, t4⟩ := g2 o5
    rw [t1]
    refine ⟨⟨PGz_u hP hT f1 M1, T', ?_, ⟨⟨by rw [f8]; exact o5, f9, by rw [f10]; show _ = L0 - (ptT E A l).2.2; omega, by rw [f6 11 (by decide)]; exact m4, by rw [f6 7 (by decide)]; exact m5, by rw [f6 8 (by decide)]; exact m6, by rw [f7]; exact m7⟩, ?_, ?_, ?_, m11, m12⟩, ⟨?_, M4b, M4c⟩, STk_u f1 t2 (fun j _ => by rw [f2]) M5, VLk_u f1 t2 f4 M6, FRk_u hP f1 t2 fr b E (fun j _ => by rw [f3]) (fun i _ => f5 i) M7⟩, t2, t4.1, by have := t4.2; omega⟩
    · show MTp T' (ptT E A l).2.2 s'
      refine ⟨⟨t1, by omega, by omega⟩, ?_, ?_⟩
      · rw [f1.2.2 75 4 (fun z => absurd z.2 (by decide)) (by decide) (fun z => absurd z.1 (by decide))]
        exact p4
      · rw [f1.2.2 75 6 (fun z => absurd z.2 (by decide)) (by decide) (fun z => absurd z.1 (by decide))]
        exact p5
    · show 0 ≤ (ptT E A l).2.2 ∧ (ptT E A l).2.2 ≤ L0 ∧ L0 ≤ 5000
      omega
    · show 0 ≤ cl ∧ cl ≤ L0 - (ptT E A l).2.2
      omega
    · show (vs.length : Int) ≤ L0 - (ptT E A l).2.2
      omega
    · show LYz P k z s' (s'.1 105 6).toInt C
      rw [f6 6 (by decide)]
      exact RUz_ly hP f1 M4
  · refine ⟨PGz_u hP hT f1 M1, ⟨f8, by rw [f10]; show _ = L0 - (ptT E A l).2.2; omega, by rw [f6 11 (by decide)]; exact m4, ?_⟩, fun w => ?_, fun w => ?_⟩
    · show 0 ≤ (ptT E A l).2.2 ∧ (ptT E A l).2.2 ≤ L0
      omega
    · have w : (ptT E A l).1 = 1 := w
      rcases ptT_o (E := E) (A := A) (l := l) with q | q | q <;> omega
    · have w : (ptT E A l).1 = 0 := w
      rcases ptT_o (E := E) (A := A) (l := l) with q | q | q <;> omega
/-- meets: TYPES without PARAMS -/
theorem r_88 (hP : P = 3 ∨ P = 39) (h : PRm K L W ar kd n lo hi TN Ls) (C : CSz K L W ar kd TN Ls n k0 P s) (ht : (s.1 75 3).toInt = T) (hT : 18 ≤ T ∧ T + 120 ≤ 18738) (hk : k ≤ 82938) (hA : TYc ar (TN.length : Int) 0 0 P T k s a1.toInt A) (hZ : TYc ar (TN.length : Int) 0 0 P T k s a2.toInt Z) : Zt (d + 11) (wd P 88) 88 [.ref 75, .int a1, .int a2] s (fun v s' => MFz P T s s' ∧ ∃ r : Int32, v = some (.int r) ∧ r.toInt = mvD K L W ar kd TN Ls A A Z ∧ (r.toInt = 0 ∨ r.toInt = 7 ∨ r.toInt = 9)) := by
  obtain ⟨ha, h24⟩ := PR_ar h
  obtain ⟨ca, A', rfl⟩ := TYc_ne hA
  obtain ⟨cb, B', rfl⟩ := TYc_ne hZ
  obtain ⟨m1, m2, m3, m4, m5, m6, m7, m8⟩ := cz_lk h C
  obtain ⟨⟨p0, p1⟩, p2, p3, ⟨p4, p4'⟩, p5⟩ := hA
  obtain ⟨⟨z0, z1⟩, z2, z3, ⟨z4, z4'⟩, z5⟩ := hZ
  have ca0 := p5 ca List.mem_cons_self
  have cb0 := z5 cb List.mem_cons_self
  have hla : 1 ≤ (ca :: A').length := Nat.succ_pos _
  have hlb : 1 ≤ (cb :: B').length := Nat.succ_pos _
  have q : ca < 24 := by omega
  refine Zt.imp (zs_88 (ar := ar) (t := T) (hd := hdd K L W ar TN Ls) (H := kHd K L Ls) (co := ca) (O' := A') hP m1 ha h24 ht hT m2 m3 m4 m5 h.2.2.1.2 C.2.2.2.2.2.2.2.2 m6 m7 m8 p3 p4 ⟨ca0.1, ca0.2.1⟩ ⟨p0, by omega⟩ p2 (by unfold APt; omega) z3 z4 ⟨cb0.1, cb0.2.1⟩ ⟨z0, by omega⟩ z2 (by unfold APt; omega) (fun q1 _ => by omega) (fun q1 => by omega) (Or.inl ⟨q, rfl⟩) (by omega)) ?_
  rintro v s' ⟨f1, r, rfl, hr⟩
  have e : r.toInt = mvD K L W ar kd TN Ls (ca :: A') (ca :: A') (cb :: B') := by
    unfold mvD soD
    have := cz_mv h C
    rw [hr]
    show mvS ar kd (cfO K L W TN Ls) (kFn K Ls) (hdd K L W ar TN Ls) P s (ca :: A') (ca :: A') (cb :: B') = _
    rw [this]
  refine ⟨f1, r, rfl, e, ?_⟩
  rw [e]
  unfold mvD
  exact mtV_b
/-- cast -/
theorem zs_28 (hP : P = 3 ∨ P = 39) (h : PRm K L W ar kd n lo hi TN Ls) (M : MRz K L W ar kd TN Ls n k0 mB P k z gg L0 (5, C, s0 ++ [.inr v], b, E, fr, vs, l, cl, fa) s) (hA : TGo ar (TN.length : Int) (E.1.length : Int) (E.2.length : Int) A) (hK : kpz P k s a1.toInt A) (hv : vs[v]? = some (Z, ps)) {Y : PMs} (hY : (¬ (ptT E A l).1 = 5 ∧ Y = ((ptT E A l).1, C, s0 ++ [.inr v], b, E, fr, vs, (ptT E A l).2.2, cl, fa)) ∨ ((ptT E A l).1 = 5 ∧ mvD K L W ar kd TN Ls Z Z (ptT E A l).2.1 = 9 ∧ Y = (4, C, s0 ++ [.inr v], b, E, fr, vs, (ptT E A l).2.2, cl, fa)) ∨ ((ptT E A l).1 = 5 ∧ ¬ mvD K L W ar kd TN Ls Z Z (ptT E A l).2.1 = 9 ∧ (ptT E A l).2.2 < 1 ∧ Y = (2, C, s0 ++ [.inr v], b, E, fr, vs, 0, cl, fa)) ∨ ((ptT E A l).1 = 5 ∧ ¬ mvD K L W ar kd TN Ls Z Z (ptT E A l).2.1 = 9 ∧ 1 ≤ (ptT E A l).2.2 ∧ ¬ mvD K L W ar kd TN Ls Z Z (ptT E A l).2.1 = 7 ∧ Y = (5, C, s0 ++ [.inr v], b, E, fr, vs, (ptT E A l).2.2 - 1, cl, fa)) ∨ ((ptT E A l).1 = 5 ∧ 1 ≤ (ptT E A l).2.2 ∧ mvD K L W ar kd TN Ls Z Z (ptT E A l).2.1 = 7 ∧ Y = (1, C, s0 ++ [.inr v], b, E, fr, vs, (ptT E A l).2.2 - 1, cl, a2.toInt))) : Zt (d + 36) (wd2 P 28) 28 [.ref 105, .int a1, .int a2] s (fun w s' => w = none ∧ ROk K L W ar kd TN Ls n k0 mB P k z gg L0 Y s') := by
  rw [show d + 36 = d + 27 + 9 by omega]
  refine zc_28 hP ?_
  unfold v_28_0
  refine Zt.imp (Zt.mo (d := 18) (by omega) (MR_put (d := 0) hP h M hA hK)) ?_
  rintro w1 s2 ⟨f1, f2, f3, f4, f5, f6, f8, r, rfl, g1, g2, g3, -⟩
  refine ⟨r, rfl, fun o5 => ?_, fun o5 => ?_⟩
  rotate_left
  · rw [f8] at o5
    refine ⟨rfl, ?_⟩
    rcases hY with ⟨q1, rfl⟩ | ⟨q1, -⟩ | ⟨q1, -⟩ | ⟨q1, -⟩ | ⟨q1, -⟩
    · exact ⟨fun w => absurd w o5, fun _ => g3 o5⟩
    all_goals exact absurd q1 o5
  rw [f8] at o5
  obtain ⟨M', t1, t2, -⟩ := g2 o5
  obtain ⟨M1, T, M2, M3, -, M5, M6, -⟩ := id M'
  have M2 : MTp T (ptT E A l).2.2 s2 := M2
  have M3 : MFd L0 s2 (s0 ++ [.inr v]) fr vs (ptT E A l).2.2 cl := M3
  have M5 : STk ar (TN.length : Int) P T k s2 vs (s0 ++ [.inr v]) := M5
  have M6 : VLk ar (TN.length : Int) P T k s2 vs := M6
  obtain ⟨⟨p1, p2, p3⟩, -, -⟩ := M2
  have hlen : (s0 ++ [(.inr v : Itm)]).length = s0.length + 1 := by rw [List.length_append]; rfl
  have m7 := M3.1.2.2.2.2.1
  have m11 := M3.2.2.2.2.1
  have m0 := M3.2.1
  rw [hlen] at m7 m11
  intro x4 hx4
  have ex4 := hx4 (by omega)
  have i5 := M5 s0.length (.inr v) (by rw [List.getElem?_append_right (Nat.le_refl _), Nat.sub_self]; rfl)
  have e1 : (zg s2 106 x4).toInt = (plv vs v : Int) := by
    rw [zg_K, show x4.toInt = (s0.length : Int) by omega]
    exact i5.2
  obtain ⟨y1, -, -⟩ := M6 v Z ps hv
  have e2 : (zg s2 111 (zg s2 106 x4)).toInt = KI (s2.2 111) (plv vs v : Int) := by rw [zg_K, e1]
  rw [p1] at t2
  refine Zt.imp (Zt.mo (d := 11) (by omega) (r_88 (d := 0) (T := T) (k := k) (A := Z) (Z := (ptT E A l).2.1) hP h M1.1 p1 ⟨by omega, by omega⟩ M1.2.1.2.2.1 (by rw [e2]; exact y1) t2)) ?_
  rintro w5 s6 ⟨mf, x7, rfl, ex7, hx7⟩
  refine ⟨x7, rfl, ?_⟩
  have R6 : RUz P T s2 s6 := RUz_mf mf
  have hT : 18 ≤ T := by omega
  -- the state is as it was
  have M6' : MRz K L W ar kd TN Ls n k0 mB P k z gg L0 (5, C, s0 ++ [.inr v], b, E, fr, vs, (ptT E A l).2.2, cl, fa) s6 := by
    obtain ⟨N1, T1, N2, N3, ⟨N4, N4b, N4c⟩, N5, N6, N7⟩ := M'
    have eT : T1 = T := by
      have : (s2.1 75 3).toInt = T1 := N2.1.1
      omega
    subst eT
    have N2 : MTp T1 (ptT E A l).2.2 s2 := N2
    have N4 : LYz P k z s2 (s2.1 105 6).toInt C := N4
    refine ⟨PGz_u hP hT R6 N1, T1, ?_, ?_, ⟨?_, N4b, N4c⟩, STk_u R6 (Int.le_refl _) (fun j _ => by rw [mf.2.1 _ (by omega) (by decide) (by decide)]) N5, VLk_u R6 (Int.le_refl _) (mf.2.1 _ (by omega) (by decide) (by decide)) N6, FRk_u hP R6 (Int.le_refl _) _ _ _ (fun j _ => by rw [mf.2.1 _ (by omega) (by decide) (by decide)]) (fun i _ => mf.2.1 _ (by omega) (by omega) (by omega)) N7⟩
    · show MTp T1 (ptT E A l).2.2 s6
      unfold MTp
      rw [mf.1]
      exact N2
    · show MFd L0 s6 (s0 ++ [.inr v]) fr vs (ptT E A l).2.2 cl
      unfold MFd
      rw [mf.1]
      exact M3
    · show LYz P k z s6 (s6.1 105 6).toInt C
      rw [mf.1]
      exact RUz_ly hP R6 N4
  refine ⟨fun n9 => ?_, fun n9 s13 hs13 => ?_⟩
  · refine Zt.imp (Zt.mo (d := 9) (by omega) (MR_take (d := 0) (a1 := 1) hP M6' (by decide))) ?_
    rintro w8 s9 ⟨u1, u2, u3⟩
    rcases u3 with ⟨l1, rfl, u4⟩ | ⟨l1, rfl, u4⟩
    · refine ⟨1, rfl, fun w => absurd w (by decide), fun _ => ⟨fun n7 => ?_, fun n7 s11 hs11 s12 hs12 => ?_⟩⟩
      · unfold v_28_44
        refine ⟨rfl, ?_⟩
        rcases hY with ⟨q1, -⟩ | ⟨-, q1, -⟩ | ⟨-, -, q1, -⟩ | ⟨-, -, -, -, rfl⟩ | ⟨-, -, q1, -⟩
        · exact absurd o5 q1
        · exact absurd (ex7.trans q1) n9
        · omega
        · exact ⟨fun _ => u4, fun w => absurd rfl w⟩
        · exact absurd (ex7.trans q1) n7
      · unfold v_28_44
        refine ⟨rfl, ?_⟩
        rcases hY with ⟨q1, -⟩ | ⟨-, q1, -⟩ | ⟨-, -, q1, -⟩ | ⟨-, -, -, q1, -⟩ | ⟨-, -, -, rfl⟩
        · exact absurd o5 q1
        · exact absurd (ex7.trans q1) n9
        · omega
        · exact absurd (ex7.symm.trans n7) q1
        · refine ⟨fun w => absurd (show (1 : Int) = 5 from w) (by decide), fun _ => ?_⟩
          obtain ⟨N1, T1, N2, N3, -⟩ := u4
          have N3 : MFd L0 s9 (s0 ++ [.inr v]) fr vs ((ptT E A l).2.2 - 1) cl := N3
          have hT1 : 18 ≤ T1 := by
            have : 4218 ≤ T1 := N2.1.2.1
            omega
          have F : ∀ c q, s12.1 c q = if c = 105 ∧ q = 12 then a2 else if c = 105 ∧ q = 13 then 1 else s9.1 c q := fun c q => by rw [hs12, zf_1, hs11, zf_1]
          have r12 : s12.2 = s9.2 := by rw [hs12, zf_2, hs11, zf_2]
          have R12 : RUz P T1 s9 s12 := RUz_o hP (fun r _ _ _ _ => by rw [r12]) (fun c q h1 _ => by rw [F, if_neg (fun z => h1 z.1), if_neg (fun z => h1 z.1)])
          refine ⟨PGz_u hP hT1 R12 N1, ⟨?_, ?_, ?_, ?_⟩, fun _ => ?_, fun w => absurd (show (1 : Int) = 0 from w) (by decide)⟩
          · rw [F, if_neg (by decide), if_pos ⟨rfl, rfl⟩]
            show (1 : Int32).toInt = 1
            decide
          · rw [F, if_neg (by decide), if_neg (by decide)]
            exact N3.1.2.2.1
          · rw [F, if_neg (by decide), if_neg (by decide)]
            exact N3.1.2.2.2.1
          · have := N3.2.1
            exact ⟨this.1, this.2.1⟩
          · rw [F, if_pos ⟨rfl, rfl⟩]
    · refine ⟨0, rfl, fun _ => ?_, fun w => absurd (by decide) w⟩
      unfold v_28_44
      refine ⟨rfl, ?_⟩
      rcases hY with ⟨q1, -⟩ | ⟨-, q1, -⟩ | ⟨-, -, -, rfl⟩ | ⟨-, -, q1, -⟩ | ⟨-, q1, -⟩
      · exact absurd o5 q1
      · exact absurd (ex7.trans q1) n9
      · exact ⟨fun w => absurd (show (2 : Int) = 5 from w) (by decide), fun _ => u4⟩
      · omega
      · omega
  · unfold v_28_44
    refine ⟨rfl, ?_⟩
    rcases hY with ⟨q1, -⟩ | ⟨-, -, rfl⟩ | ⟨-, q1, -⟩ | ⟨-, q1, -⟩ | ⟨-, -, q1, -⟩
    · exact absurd o5 q1
    · refine ⟨fun w => absurd (show (4 : Int) = 5 from w) (by decide), fun _ => ?_⟩
      obtain ⟨N1, T1, N2, N3, -⟩ := M6'
      have N3 : MFd L0 s6 (s0 ++ [.inr v]) fr vs (ptT E A l).2.2 cl := N3
      have hT1 : 18 ≤ T1 := by
        have : 4218 ≤ T1 := N2.1.2.1
        omega
      have F : ∀ c q, s13.1 c q = if c = 105 ∧ q = 13 then 4 else s6.1 c q := fun c q => by rw [hs13, zf_1]
      have r13 : s13.2 = s6.2 := by rw [hs13, zf_2]
      have R13 : RUz P T1 s6 s13 := RUz_o hP (fun r _ _ _ _ => by rw [r13]) (fun c q h1 _ => by rw [F, if_neg (fun z => h1 z.1)])
      refine ⟨PGz_u hP hT1 R13 N1, ⟨?_, ?_, ?_, ?_⟩, fun w => absurd (show (4 : Int) = 1 from w) (by decide), fun w => absurd (show (4 : Int) = 0 from w) (by decide)⟩
      · rw [F, if_pos ⟨rfl, rfl⟩]
        show (4 : Int32).toInt = 4
        decide
      · rw [F, if_neg (by decide)]
        exact N3.1.2.2.1
      · rw [F, if_neg (by decide)]
        exact N3.1.2.2.2.1
      · have := N3.2.1
        exact ⟨this.1, this.2.1⟩
    · exact absurd (ex7.symm.trans n9) q1
    · exact absurd (ex7.symm.trans n9) q1
    · omega
end ZTG
