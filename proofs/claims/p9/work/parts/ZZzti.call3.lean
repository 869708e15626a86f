/-! ===== the class: Machine: call ===== -/
/-- how a call goes on -/
def CLq (K L W ar kd : Int → Int) (TN Ls : List Int) (C : List Ins) (s0 : List Itm) (v : Nat) (as : List Nat) (b : Nat) (E : Env) (fr : List Frm) (vs : Vls) (l cl fa : Int) (A : List Int) (Ys : List (List Int)) (y : Int) (Y : PMs) : Prop := (¬ (ptL E Ys l).1 = 5 ∧ Y = ((ptL E Ys l).1, C, s0 ++ .inr v :: as.map .inr, b, E, fr, vs, (ptL E Ys l).2.2, cl, fa)) ∨ ((ptL E Ys l).1 = 5 ∧ (ptL E Ys l).2.2 < 1 ∧ Y = (2, C, s0 ++ .inr v :: as.map .inr, b, E, fr, vs, 0, cl, fa)) ∨ ((ptL E Ys l).1 = 5 ∧ 1 ≤ (ptL E Ys l).2.2 ∧ 40 ≤ fr.length ∧ Y = (3, C, s0 ++ .inr v :: as.map .inr, b, E, fr, vs, (ptL E Ys l).2.2 - 1, cl, fa)) ∨ ((ptL E Ys l).1 = 5 ∧ 1 ≤ (ptL E Ys l).2.2 ∧ fr.length < 40 ∧ ∃ Cf : List Ins, fcD K L W ar kd TN Ls (A.headD 0) y = some ((ptL E Ys l).2.1.length, Cf) ∧ Y = (5, Cf, s0 ++ .inr v :: as.map .inr, s0.length, (argT ar A, (ptL E Ys l).2.1), (C, b, E) :: fr, vs, (ptL E Ys l).2.2 - 1, cl + 1, fa))
section ZTK
variable {K L W ar kd : Int → Int} {TN Ls : List Int} {n k0 mB k z L0 T l li cl fa o lo hi x : Int} {P d b v e : Nat} {s w : zS} {C Cf : List Ins} {s0 : List Itm} {E : Env} {fr : List Frm} {vs : Vls} {a1 a2 : Int32} {A : List Int} {ps as : List Nat} {Bs Ys : List (List Int)} {Y : PMs} {gg : Int × Int}
theorem RUz_r {s s' : zS} {r : Nat} (hP : P = 3 ∨ P = 39) (h : RUz P T s s') (h1 : r < 36) (h2 : ¬ r = 18) : s'.2 (P + r) = s.2 (P + r) := h.1 _ (by omega) (by omega) (by omega) (by omega) (by omega) (by omega) (by omega)
theorem flt_tk {i : Nat} {A : List Int} (h : Ys[i]? = some A) : (Ys.take (i + 1)).flatten = (Ys.take i).flatten ++ A ∧ Ys.flatten = (Ys.take i).flatten ++ (A ++ (Ys.drop (i + 1)).flatten) := by
  have e1 : Ys.take (i + 1) = Ys.take i ++ [A] := by
    rw [List.take_add_one, h]
    rfl
  constructor
  · rw [e1, List.flatten_append]
    show _ ++ (A ++ []) = _
    rw [List.append_nil]
  · have e2 : Ys = Ys.take (i + 1) ++ Ys.drop (i + 1) := (List.take_append_drop _ _).symm
    have e3 : Ys.flatten = (Ys.take (i + 1) ++ Ys.drop (i + 1)).flatten := by rw [← e2]
    rw [e3, List.flatten_append, e1, List.flatten_append]
    show ((Ys.take i).flatten ++ (A ++ [])) ++ _ = _
    rw [List.append_nil, List.append_assoc]
theorem kpz_in {i : Nat} {A : List Int} (h : Ys[i]? = some A) (g : kpz P k s x Ys.flatten) : kpz P k s (x + ((Ys.take i).flatten.length : Int)) A := by
  obtain ⟨g1, g2, g3⟩ := g
  rw [(flt_tk h).2] at g2 g3
  rw [List.length_append, List.length_append] at g2
  refine ⟨by omega, by omega, fun j c hj => ?_⟩
  have hj0 := (List.getElem?_eq_some_iff.mp hj).1
  have := g3 ((Ys.take i).flatten.length + j) c (by
    rw [List.getElem?_append_right (by omega), show (Ys.take i).flatten.length + j - (Ys.take i).flatten.length = j by omega, List.getElem?_append_left hj0]
    exact hj)
  rw [show x + ((Ys.take i).flatten.length : Int) + (j : Int) = x + (((Ys.take i).flatten.length + j : Nat) : Int) by omega]
  exact this
set_option maxHeartbeats 2000000 in
/-- call: at: where its row of code lies -/
theorem zs_27 (hP : P = 3 ∨ P = 39) (h : PRm K L W ar kd n lo hi TN Ls) (hC : PCk K L W ar kd TN Ls mB) (M : MRz K L W ar kd TN Ls n k0 mB P k z gg L0 (5, C, s0 ++ .inr v :: as.map .inr, b, E, fr, vs, l, cl, fa) s) (hv : vs[v]? = some (A, ps)) {pc : Int} (hpc : a1.toInt = 6 * pc) (hpc0 : 0 ≤ pc ∧ pc ≤ 4001) (hi2 : KI (s.2 (P + 34)) (6 * pc + 2) = (as.length : Int)) (has : as.length ≤ 6) (hi4 : KI (s.2 (P + 34)) (6 * pc + 4) = (Ys.length : Int)) (hY6 : Ys.length ≤ 6) (hi3 : kpz P k s (KI (s.2 (P + 34)) (6 * pc + 3)) Ys.flatten) (hYk : ∀ B ∈ Ys, TGo ar (TN.length : Int) (E.1.length : Int) (E.2.length : Int) B) (hY : CLq K L W ar kd TN Ls C s0 v as b E fr vs l cl fa A Ys a2.toInt Y) : Zt (d + 36) (wd2 P 27) 27 [.ref 105, .int a1, .int a2] s (fun r s' => r = none ∧ ROk K L W ar kd TN Ls n k0 mB P k z gg L0 Y s') := by
  obtain ⟨ha, h24⟩ := PR_ar h
  obtain ⟨M1, T, M2, M3, -, M5, M6, -⟩ := id M
  have M2 : MTp T l s := M2
  have M3 : MFd L0 s (s0 ++ .inr v :: as.map .inr) fr vs l cl := M3
  have M5 : STk ar (TN.length : Int) P T k s vs (s0 ++ .inr v :: as.map .inr) := M5
  have M6 : VLk ar (TN.length : Int) P T k s vs := M6
  obtain ⟨⟨m1, m2, m3, m4, m5, m6, m7⟩, m8, m9, m10, m11, m12⟩ := M3
  obtain ⟨⟨p1, p2, p3⟩, -, -⟩ := M2
  have m8 : 0 ≤ l ∧ l ≤ L0 ∧ L0 ≤ 5000 := m8
  have hlen : (s0 ++ (.inr v :: as.map .inr : List Itm)).length = s0.length + (as.length + 1) := by rw [List.length_append, List.length_cons, List.length_map]
  rw [hlen] at m5 m11
  have hk := M1.2.1.2.2.1
  rw [show d + 36 = d + 27 + 9 by omega]
  refine zc_27 hP ?_
  unfold v_27_0
  intro x1 hx1 x2 hx2 x3 hx3 x4 hx4
  have ex1 := hx1 (by omega)
  have ex2 := hx2 (by omega)
  have c2 : (zg s (P + 34) x2).toInt = (as.length : Int) := by
    rw [zg_K, ex2, hpc]
    exact hi2
  rw [c2] at hx3
  have ex3 := hx3 (by omega)
  have ex4 := hx4 (by omega)
  have e3 : x3.toInt = (s0.length : Int) := by omega
  refine Zt.imp (Zt.mo (d := 9) (by omega) (zs_24 (d := 0) (a1 := x4) (by omega) (by omega))) ?_
  rintro v5 s6 ⟨hs6, he, rfl⟩
  rw [hs6]
  have e4 : x4.toInt.toNat = fr.length + 1 := by omega
  refine ⟨113 + 2 * x4.toInt.toNat, he, rfl, ?_⟩
  rw [e4] at he ⊢
  obtain ⟨e, hee⟩ : ∃ e, e = 113 + 2 * (fr.length + 1) := ⟨_, rfl⟩
  rw [← hee] at he ⊢
  -- the value's TYPE
  have sV := M5 s0.length (.inr v) (by rw [List.getElem?_append_right (Nat.le_refl _), Nat.sub_self]; rfl)
  have eV : (zg s 106 x3).toInt = (plv vs v : Int) := by
    rw [zg_K, e3]
    exact sV.2
  obtain ⟨ow, how⟩ : ∃ ow, ow = zg s 111 (zg s 106 x3) := ⟨_, rfl⟩
  have eo : ow.toInt = KI (s.2 111) (plv vs v : Int) := by rw [how, zg_K, eV]
  obtain ⟨y1, -, -⟩ := M6 v A ps hv
  rw [← eo] at y1
  rw [← how]
  obtain ⟨c, A', rfl⟩ := TYc_ne y1
  have hw := TYc_hd y1
  obtain ⟨⟨o0, o1⟩, o2, o3, ⟨o4, o4'⟩, o5⟩ := id y1
  obtain ⟨q1, q2, q3⟩ := argT_ok ha o3
  have hc6 := ar_le6 h (c := c) (o5 c List.mem_cons_self).1 (o4' c List.mem_cons_self)
  have hl : (c :: A').length = A'.length + 1 := rfl
  refine Zt.imp (Zt.mo (d := 10) (by omega) (zs_86g (d := 0) (e := e) (ar := ar) (t := T) (X := argT ar (c :: A')) (Y := []) hP he M1.1.1.1.2.2.2 ha h24 M1.1.2.1 (by omega) (fun w => absurd rfl w) (by rw [hw]; exact q3.symm) q2 ?_ ⟨by rw [q1]; omega, by omega⟩ (by decide) (fun y hy => by cases hy) (fun i c hc => by cases hc) ⟨Nat.zero_le _, Nat.zero_le _⟩ (by omega) (by rw [q1]; unfold APt; omega) (fun w => absurd rfl w))) ?_
  · rw [q1]
    intro j c' hj
    have := o2 (j + 1) c' hj
    rw [show ow.toInt + ((j + 1 : Nat) : Int) = ow.toInt + 1 + (j : Int) by omega] at this
    exact this
  rintro v7 s8 ⟨rfl, f1, f2, f3⟩
  refine ⟨rfl, fun x9 hx9 x10 hx10 => ?_⟩
  have ex9 := hx9 (by omega)
  have ex10 := hx10 (by omega)
  have M8 : MRz K L W ar kd TN Ls n k0 mB P k z gg L0 (5, C, s0 ++ .inr v :: as.map .inr, b, E, fr, vs, l, cl, fa) s8 := MR_env hP M f1 (fun r hr => f2 r (by rw [hee]; exact hr))
  have r34 : s8.2 (P + 34) = s.2 (P + 34) := f2 _ (by omega)
  have c3 : (zg s8 (P + 34) x9).toInt = KI (s.2 (P + 34)) (6 * pc + 3) := by rw [zg_K, r34, ex9, hpc]
  have c4 : (zg s8 (P + 34) x10).toInt = (Ys.length : Int) := by
    rw [zg_K, r34, ex10, hpc]
    exact hi4
  obtain ⟨td, htd⟩ : ∃ td, td = KI (s.2 (P + 34)) (6 * pc + 3) := ⟨_, rfl⟩
  rw [← htd] at hi3 c3
  have e111 : s8.2 111 = s.2 111 := f2 111 (by omega)
  have w18 : ∀ r, ¬ r = e → s8.2 r = s.2 r := f2
  have hp75 : (s8.1 75 3).toInt = T := by rw [f1]; exact p1
  refine ⟨fun b1 b2 b3 b4 b6 b7 b8 w => (b1 = a1 ∧ b2 = a2 ∧ b3 = x3 ∧ b4 = ow ∧ b7.toInt = (Ys.length : Int)) ∧ ∃ i : Nat, i ≤ Ys.length ∧ b8.toInt = (i : Int) ∧ b6.toInt = td + ((Ys.take i).flatten.length : Int) ∧ w.2 111 = s.2 111 ∧ kpz P k w td Ys.flatten ∧ ((∃ (Bs : List (List Int)) (li : Int), MRz K L W ar kd TN Ls n k0 mB P k z gg L0 (5, C, s0 ++ .inr v :: as.map .inr, b, E, fr, vs, li, cl, fa) w ∧ ENz P w e (w.1 75 3).toInt (eta (argT ar (c :: A')) Bs) 12 ∧ Bs.length = i ∧ (∀ B ∈ Bs, TGo ar (TN.length : Int) 0 0 B) ∧ ptL E Ys l = ((ptL E (Ys.drop i) li).1, Bs ++ (ptL E (Ys.drop i) li).2.1, (ptL E (Ys.drop i) li).2.2)) ∨ (¬ (w.1 105 13).toInt = 5 ∧ ¬ (ptL E Ys l).1 = 5 ∧ ¬ (ptL E Ys l).1 = 0 ∧ HLz K L W ar kd TN Ls n k0 mB P k z gg L0 ((ptL E Ys l).1, C, s0 ++ .inr v :: as.map .inr, b, E, fr, vs, (ptL E Ys l).2.2, cl, fa) w)), fun _ _ _ _ _ _ b8 _ => (100 - b8.toInt).toNat, ⟨⟨rfl, rfl, rfl, rfl, c4⟩, 0, Nat.zero_le _, by decide, ?_, e111, kpz_k (fun j _ _ => by rw [w18 _ (by omega)]) (Int.le_refl _) hi3, Or.inl ⟨[], l, M8, by rw [hp75]; exact f3, rfl, (fun B hB => by cases hB), rfl⟩⟩, ?_⟩
  · rw [c3, List.take_zero]
    show td = td + ((0 : Nat) : Int)
    omega
  rintro b1 b2 b3 b4 b6 b7 b8 w ⟨⟨u1, u2, u3, u4, u7⟩, i, i1, i8, i6, i111, ik, ir⟩
  subst u1 u2 u3 u4
  -- behind the loop
  have fin : (i = Ys.length ∨ ¬ (w.1 105 13).toInt = 5) → v_27_77 (fun j => Zt (d + 27 + 8) (wd2 P j) j) P e b1 b2 b3 b4 b6 b7 b8 w (fun r s' => r = none ∧ ROk K L W ar kd TN Ls n k0 mB P k z gg L0 Y s') := by
    intro hcs
    rcases ir with ⟨Bs, li, N1, N2, N3, N4, N5⟩ | ⟨N1, N2, N20, N3⟩
    · have w5 : (w.1 105 13).toInt = 5 := by
        obtain ⟨-, -, -, Q3, -⟩ := N1
        exact Q3.1.1
      have ei : i = Ys.length := by
        rcases hcs with q | q
        · exact q
        · exact absurd w5 q
      rw [ei, List.drop_length] at N5
      have N5 : ptL E Ys l = (5, Bs ++ [], li) := N5
      rw [List.append_nil] at N5
      unfold CLq at hY
      rw [N5] at hY
      rw [show d + 27 + 8 = (d + 18) + 17 by omega]
      refine ca_77 (d := d + 18) (Bs := Bs) (li := li) (A := c :: A') (ps := ps) hP h hC N1 hv (by rw [← hee]; exact N2) N4 (by omega) e3 (by rw [eo, i111]) ?_
      rcases hY with ⟨q, -⟩ | ⟨-, q1, q2⟩ | ⟨-, q1, q2, q3⟩ | ⟨-, q1, q2, q3⟩
      · exact absurd rfl q
      · exact Or.inl ⟨q1, q2⟩
      · exact Or.inr (Or.inl ⟨q1, q2, q3⟩)
      · exact Or.inr (Or.inr ⟨q1, q2, q3⟩)
    · unfold v_27_77
      refine Zt.imp (Zt.mo (d := 9) (by omega) (zs_23x (d := 0) hP N1)) ?_
      rintro v1 s2 ⟨hs2, rfl⟩
      refine ⟨0, rfl, fun q => absurd (show (0 : Int32).toInt = 0 by decide) q, fun _ => ⟨rfl, ?_⟩⟩
      rw [hs2]
      unfold CLq at hY
      rcases hY with ⟨q, rfl⟩ | ⟨q, -⟩ | ⟨q, -⟩ | ⟨q, -⟩
      · exact ⟨fun q => absurd q N2, fun _ => N3⟩
      all_goals exact absurd q N2
  unfold v_27_53
  refine ⟨fun y => fin (Or.inl (by omega)), fun y => ⟨fun y2 => fin (Or.inr y2), fun y2 x1' hx1' => ?_⟩⟩
  have ex1' := hx1' (by omega)
  have hi : i < Ys.length := by omega
  obtain ⟨D, hD⟩ : ∃ D, Ys[i]? = some D := ⟨_, List.getElem?_eq_getElem hi⟩
  have hDm := List.mem_of_getElem? hD
  have hDk := hYk D hDm
  rcases ir with ⟨Bs, li, N1, N2, N3, N4, N5⟩ | ⟨N1, -⟩
  rotate_left
  · exact absurd y2 N1
  have kD : kpz P k w b6.toInt D := by
    rw [i6]
    exact kpz_in hD ik
  have edr : Ys.drop i = D :: Ys.drop (i + 1) := by
    rw [List.drop_eq_getElem_cons hi]
    have : Ys[i] = D := by
      have := List.getElem?_eq_getElem hi
      rw [hD] at this
      exact (Option.some.inj this).symm
    rw [this]
  obtain ⟨Q1, T1, Q2, Q3, -⟩ := id N1
  have Q2 : MTp T1 li w := Q2
  have Q3 : MFd L0 w (s0 ++ .inr v :: as.map .inr) fr vs li cl := Q3
  have q75 : (w.1 75 3).toInt = T1 := Q2.1.1
  have hT1 : 4218 ≤ T1 ∧ T1 + li ≤ 9218 := Q2.1.2
  have hli : 0 ≤ li := Q3.2.1.1
  refine Zt.imp (Zt.mo (d := 18) (by omega) (MR_put (d := 0) hP h N1 hDk kD)) ?_
  rintro v2 s3 ⟨g1, g2, g3, g4, g5, g6, g8, r, rfl, t1, t2, t3, t4, B', t5, t6, t7⟩
  refine ⟨r, rfl, ?_⟩
  have eA3 : KI (s3.2 (P + 22)) = ar := by
    rw [RUz_r hP g1 (r := 22) (by decide) (by decide)]
    exact Q1.1.1.1.2.2.2
  have hep := ev_P hP he
  have e113 : 113 ≤ e ∧ e ≤ 195 ∧ e % 2 = 1 := by omega
  have ee3 : s3.2 e = w.2 e := by
    rw [hee]
    exact g5 (fr.length + 1)
  have k3 : kpz P k s3 td Ys.flatten := RUz_kp g1 ik
  by_cases o5 : (ptT E D li).1 = 5
  · obtain ⟨N1', h75, tD, -⟩ := t2 o5
    obtain ⟨⟨z0, z1⟩, z2, z3, ⟨z4, z4'⟩, z5⟩ := id tD
    have hb75 : (s3.1 75 3).toInt ≤ 9218 := by
      obtain ⟨-, T2, W2, -⟩ := id N1'
      have w1 : (s3.1 75 3).toInt = T2 := W2.1.1
      have w2 : T2 + (ptT E D li).2.2 ≤ 9218 := W2.1.2.2
      have := (ptT_l (E := E) (A := D) hli).1
      omega
    refine Zt.imp (Zt.mo (d := 18) (by omega) (zs_85 (d := 0) (p := 6 + i) (B := (ptT E D li).2.1) hP he eA3 ha (by omega) (by omega) ⟨by omega, by omega⟩ z3 z4 z2)) ?_
    rintro v5 s6' ⟨rfl, d1, d2, xx, d3, d4⟩
    refine ⟨rfl, ?_⟩
    have k6 : kpz P k s6' td Ys.flatten := kpz_k (fun j _ _ => by rw [d2 _ (fun q => hep.1 q.symm)]) (Int.le_refl _) k3
    have kD6 : kpz P k s6' b6.toInt D := by
      rw [i6]
      exact kpz_in hD k6
    refine Zt.imp (Zt.mo (d := 9) (by omega) (zs_83 (d := 0) (ar := ar) (A := D) hP (by rw [d2 _ (fun q => hep.2.1 q.symm)]; exact eA3) ha hDk.1 (by have := hDk.2.1.1; omega) ⟨by have := kD6.1; omega, by have := kD6.2.1; omega⟩ kD6.2.2)) ?_
    rintro v7 s8' ⟨hs8, x9', rfl, ex9'⟩
    rw [hs8]
    refine ⟨x9', rfl, fun x10' hx10' => ?_⟩
    have ex10' := hx10' (by omega)
    refine ⟨⟨⟨rfl, rfl, rfl, rfl, u7⟩, i + 1, by omega, by omega, ?_, ?_, k6, Or.inl ⟨Bs ++ [(ptT E D li).2.1], (ptT E D li).2.2, MR_env hP N1' d1 (fun r hr => d2 r (by rw [hee]; exact hr)), ?_, by rw [List.length_append, N3]; rfl, fun B hB => ?_, ?_⟩⟩, by dsimp only; omega⟩
    · rw [ex9', i6, (flt_tk hD).1, List.length_append]
      omega
    · rw [d2 111 (by omega), g4, i111]
    · rw [d1]
      refine ENz_b (s := s3) (a3 := r) (x := xx) (by omega) ?_ (fun q => hep.1 q) d2 d3 (by rw [N3]; exact d4) ⟨by omega, by omega⟩ ?_ z4 z2
      · rw [q75] at g1 N2 h75
        exact RUz_en hP g1 ee3 h75 N2
      · unfold APt
        omega
    · rcases List.mem_append.mp hB with q | q
      · exact N4 B q
      · rw [List.mem_singleton.mp q]
        exact ⟨z3, ⟨z4, z4'⟩, z5⟩
    · rw [N5, edr, ptL_s _ _ _ o5, List.append_assoc]
      rfl
  · refine Zt.imp (Zt.mo (d := 18) (by omega) (zs_85 (d := 0) (p := 6 + i) (B := B') hP he eA3 ha (by omega) (by omega) ⟨by omega, by omega⟩ t5 t6 t7)) ?_
    rintro v5 s6' ⟨rfl, d1, d2, xx, d3, d4⟩
    refine ⟨rfl, ?_⟩
    have k6 : kpz P k s6' td Ys.flatten := kpz_k (fun j _ _ => by rw [d2 _ (fun q => hep.1 q.symm)]) (Int.le_refl _) k3
    have kD6 : kpz P k s6' b6.toInt D := by
      rw [i6]
      exact kpz_in hD k6
    refine Zt.imp (Zt.mo (d := 9) (by omega) (zs_83 (d := 0) (ar := ar) (A := D) hP (by rw [d2 _ (fun q => hep.2.1 q.symm)]; exact eA3) ha hDk.1 (by have := hDk.2.1.1; omega) ⟨by have := kD6.1; omega, by have := kD6.2.1; omega⟩ kD6.2.2)) ?_
    rintro v7 s8' ⟨hs8, x9', rfl, ex9'⟩
    rw [hs8]
    refine ⟨x9', rfl, fun x10' hx10' => ?_⟩
    have ex10' := hx10' (by omega)
    have eL : ptL E Ys l = ((ptT E D li).1, Bs ++ [], (ptT E D li).2.2) := by rw [N5, edr, ptL_x _ _ _ o5]
    have no0 : ¬ (ptT E D li).1 = 0 := by
      rcases ptT_o (E := E) (A := D) (l := li) with q | q | q <;> omega
    refine ⟨⟨⟨rfl, rfl, rfl, rfl, u7⟩, i + 1, by omega, by omega, ?_, ?_, k6, Or.inr ⟨?_, ?_, ?_, ?_⟩⟩, by dsimp only; omega⟩
    · rw [ex9', i6, (flt_tk hD).1, List.length_append]
      omega
    · rw [d2 111 (by omega), g4, i111]
    · rw [d1, g8]
      exact o5
    · rw [eL]
      exact o5
    · rw [eL]
      exact no0
    · rw [eL]
      exact HL_env hP no0 (t3 o5) d1 he d2 e113.1
end ZTK
