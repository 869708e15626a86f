/-! ===== the class: Stock with what its Rows hold: goThrough, answer ===== -/
section ZVK
variable {K L W ar kd : Int → Int} {TN Ls : List Int} {n k0 mB k z lo hi pc nX nY : Int} {P d : Nat} {s : zS} {gg : Int × Int} {C C0 : List Ins} {a1 : Int32}
set_option maxHeartbeats 2000000 in
/-- goThrough -/
theorem zi_105 (hP : P = 3 ∨ P = 39) (h : PRm K L W ar kd n lo hi TN Ls) (G : PGz K L W ar kd TN Ls n k0 mB P k z gg s) (hN : SNz s) (hC : C = C0 ++ [lvI]) (hL : LYz P k z s pc C) (hK : cdK ar (TN.length : Int) nX nY C) (hkc : ckC ar (TN.length : Int) nX nY C) (hE : (nX = 0 ∧ nY = 0) ∨ EQi ar P s) (hI : IOz ar P s) (h1 : a1.toInt = pc) : Zt (d + 45) (wd2 P 105) 105 [.ref 197, .int a1] s (fun v s' => v = none ∧ IFz P s s' ∧ IOz ar P s') := by
  obtain ⟨ha, h24⟩ := PR_ar h
  have hz := G.2.1.2.2.2
  have hk82 : k ≤ 82938 := G.2.1.2.2.1
  obtain ⟨L1, L2, L3⟩ := id hL
  refine zc_105 (d := d + 36) hP ?_
  unfold v_105_0
  intro x1 hx1
  have ex1 := hx1 (by omega)
  have hCl : 0 < C.length := by
    rw [hC, List.length_append]
    exact Nat.succ_pos _
  refine ⟨fun _ _ c3 u => SNz u ∧ IFz P s u ∧ IOz ar P u ∧ ∃ i : Nat, i < C.length ∧ c3.toInt = 6 * (pc + (i : Int)), fun _ _ c3 _ => (30000 - c3.toInt).toNat, ⟨hN, IFz_rf, hI, 0, hCl, by omega⟩, ?_⟩
  rintro c1 c2 c3 u ⟨Nu, Fu, Iu, i, i1, i2⟩
  obtain ⟨I, hIi⟩ : ∃ I, C[i]? = some I := ⟨_, List.getElem?_eq_getElem i1⟩
  have Gu := PGz_i hP Fu G
  obtain ⟨hA, -⟩ := PG_ar h Gu
  have r34 : u.2 (P + 34) = s.2 (P + 34) := Fu.1 _ (by omega) (by omega) (by omega) (by omega) (by omega) (by omega) (by omega)
  have inu : inz P k u (pc + (i : Int)) I := inz_k (fun j q1 _ => Fu.2.1.1 j (Or.inr (Or.inr q1))) (Int.le_refl _) (fun j _ => by rw [r34]) (by omega) (L3 i I hIi)
  have Eu : (nX = 0 ∧ nY = 0) ∨ EQi ar P u := by
    rcases hE with q | q
    · exact Or.inl q
    · exact Or.inr (EQi_f Fu.2.1 (Fu.1 76 (by omega) (by decide) (by decide) (by decide) (by decide) (by decide) (by decide)) q)
  have kI := hK I (List.mem_of_getElem? hIi)
  have cI := hkc I (List.mem_of_getElem? hIi)
  have nxt : ∀ w : zS, ¬ I.1 = 0 → SNz w → IFz P u w → IOz ar P w → v_105_39 (fun j => Zt (d + 36 + 8) (wd2 P j) j) P (fun a1' a2' a3' s' => (SNz s' ∧ IFz P s s' ∧ IOz ar P s' ∧ ∃ i : Nat, i < C.length ∧ a3'.toInt = 6 * (pc + (i : Int))) ∧ (30000 - a3'.toInt).toNat < (30000 - c3.toInt).toNat) c1 c2 c3 w (fun v s' => v = none ∧ IFz P s s' ∧ IOz ar P s') := fun w hI0 Nw Fw Iw => by
    unfold v_105_39
    intro x1 hx1
    have ex := hx1 (by omega)
    have hlt : i + 1 < C.length := by
      rcases Nat.lt_or_ge (i + 1) C.length with q | q
      · exact q
      · exfalso
        have hcl : C.length = C0.length + 1 := by rw [hC, List.length_append]; rfl
        rw [hC, List.getElem?_append_right (by omega), show i - C0.length = 0 by omega] at hIi
        have : lvI = I := Option.some.inj hIi
        exact hI0 (by rw [← this]; rfl)
    exact ⟨⟨Nw, IFz_tr Fu Fw, Iw, i + 1, hlt, by omega⟩, by omega⟩
  have cell : ∀ (x : Int32) (o : Int), x.toInt = c3.toInt + o → (zg u (P + 34) x).toInt = KI (u.2 (P + 34)) (6 * (pc + (i : Int)) + o) := fun x o hx => by rw [zg_K, hx, i2]
  unfold v_105_9 v_105_41
  refine ⟨fun _ => ⟨rfl, Fu, Iu⟩, fun y => ⟨fun _ => ⟨rfl, Fu, Iu⟩, fun zz x1 hx1 => ?_⟩⟩
  have ex := hx1 (by omega)
  have e0 : Int32.toInt (zg u (P + 34) x1) = I.1 := by
    rw [cell x1 0 ex, Int.add_zero]
    exact inu.1
  rw [e0]
  refine ⟨fun w => nxt u w.1 Nu IFz_rf Iu, fun _ => ⟨rfl, Fu, Iu⟩, fun w x2 hx2 => ?_, fun w => ?_, fun w x8 hx8 => ?_⟩
  · have ex2 := hx2 (by omega)
    have kp := inu.2.2.2.1 w
    rw [← cell x2 1 ex2] at kp
    have tg := kI.1 (Or.inl w)
    have := tg.2.1.1
    have kp1 := kp.1
    have kp2 := kp.2.1
    refine Zt.imp (Zt.mo (d := 27) (by omega) ((zi_106 (d := 0) hP hA ha h24 (TGo_q tg) (hE_c Eu tg) ⟨kp1, by omega⟩ kp.2.2 Iu).sn Nu)) ?_
    rintro v3 s4 ⟨⟨AF, I4, x5, rfl, -, -⟩, N4⟩
    exact ⟨x5, rfl, nxt s4 (by omega) N4 (AFz_i AF) I4⟩
  · refine Zt.imp (Zt.mo (d := 36) (by omega) ((zi_108 (d := 0) (pc := pc + (i : Int)) (nX := nX) (nY := nY) (I := I) hP h Gu Nu ⟨by omega, by omega⟩ inu w kI (cI w) Eu Iu (by omega)).sn Nu)) ?_
    rintro v6 s7 ⟨⟨rfl, F7, I7⟩, N7⟩
    exact ⟨rfl, nxt s7 (by omega) N7 F7 I7⟩
  · have ex8 := hx8 (by omega)
    have kp := (inu.2.2.2.2.1 w).1
    rw [← cell x8 1 ex8] at kp
    have tg := kI.1 (Or.inr w)
    have := tg.2.1.1
    have kp1 := kp.1
    have kp2 := kp.2.1
    refine Zt.imp (Zt.mo (d := 27) (by omega) ((zi_106 (d := 0) hP hA ha h24 (TGo_q tg) (hE_c Eu tg) ⟨kp1, by omega⟩ kp.2.2 Iu).sn Nu)) ?_
    rintro v9 s10 ⟨⟨AF, I10, x11, rfl, -, -⟩, N10⟩
    exact ⟨x11, rfl, nxt s10 (by omega) N10 (AFz_i AF) I10⟩
end ZVK
section ZVL
variable {K L W ar kd : Int → Int} {TN Ls : List Int} {n k0 mB k z lo hi : Int} {P d c : Nat} {s : zS} {gg : Int × Int} {a1 : Int32}
set_option maxHeartbeats 4000000 in
/-- answer: the CALL at 10 * c -/
theorem zi_99 (hP : P = 3 ∨ P = 39) (h : PRm K L W ar kd n lo hi TN Ls) (G : PGz K L W ar kd TN Ls n k0 mB P k z gg s) (hN : SNz s) (hI : IOz ar P s) (hc : a1.toInt = 10 * (c : Int)) (hcn : 10 * (c : Int) < (s.1 200 2).toInt) : Zt (d + 36) (wd2 P 99) 99 [.ref 197, .int a1] s (fun v s' => v = none ∧ IFz P s s' ∧ IOz ar P s' ∧ s'.1 200 2 = s.1 200 2) := by
  obtain ⟨ha, h24⟩ := PR_ar h
  have hnT := h.2.2.1.1
  have hF60 := h.2.2.1.2
  refine Zt_bd (fun hB => zc_99 (d := d + 27) hP ?_)
  have hb200 := hB.2 200 2 0 1510 (by decide +kernel) (by decide +kernel)
  have hb198 := hB.2 198 2 0 151 (by decide +kernel) (by decide +kernel)
  unfold v_99_0
  intro x1 hx1 x2 hx2
  have ex1 := hx1 (by omega)
  have ex2 := hx2 (by omega)
  have ez2 : (zg s 200 x2).toInt = KI (s.2 200) (10 * (c : Int) + 9) := by rw [zg_K, show x2.toInt = 10 * (c : Int) + 9 by omega]
  have hd0 : 0 ≤ (zg s 200 x2).toInt := by
    obtain ⟨-, nx, ts, ca, me, -, hR⟩ := id hI
    have := hR.2.2.1.1
    rw [ez2]
    exact (hR.2.2.1.2 c (by omega)).2
  refine ⟨fun c1 c2 c3 u => c1 = a1 ∧ c2 = x2 ∧ 0 ≤ c3.toInt ∧ SNz u ∧ IFz P s u ∧ IOz ar P u ∧ u.1 200 2 = s.1 200 2 ∧ u.1 198 2 = s.1 198 2, fun _ _ c3 _ => (151 - c3.toInt).toNat, ⟨rfl, rfl, hd0, hN, IFz_rf, hI, rfl, rfl⟩, ?_⟩
  rintro c1 c2 c3 u ⟨e1, e2, k3, Nu, Fu, Iu, u200, u198⟩
  subst e1 e2
  have Gu := PGz_i hP Fu G
  obtain ⟨m1, m2, m3, m4, m5, m6, m7, m8⟩ := cz_lk h Gu.1
  have hFz : (u.1 (P + 26) 2).toInt = 10 * (kFn K Ls : Int) := Gu.1.2.2.2.2.2.2.1.2.1
  obtain ⟨hT, nx, ts, ca, me, hcc, hR⟩ := id Iu
  obtain ⟨⟨n1, n2, n3⟩, r1, r2, r3⟩ := id hR
  have r1s := r1.1
  have r2s := r2.1
  have hcl : c < ca := by
    rw [u200] at r2s
    omega
  have out : v_99_74 (fun j => Zt (d + 27 + 8) (wd2 P j) j) P c1 c2 c3 u (fun v s' => v = none ∧ IFz P s s' ∧ IOz ar P s' ∧ s'.1 200 2 = s.1 200 2) := by
    unfold v_99_74
    refine ⟨by rw [u198]; omega, fun s1 hs1 => ?_⟩
    have l0 : (lim 200 : Int) = 1510 := by decide +kernel
    have f1 : s1.1 = u.1 := by rw [hs1, zt_1]
    have ro : ∀ r, ¬ r = 200 → s1.2 r = u.2 r := fun r hr => by rw [hs1, zt_o hr]
    have c1' : ∀ j, s1.2 200 j = if j = 10 * c + 9 then u.1 198 2 else u.2 200 j := fun j => by
      rw [hs1, zt_in (by rw [l0]; omega), zr_2]
      by_cases e : j = 10 * c + 9
      · rw [if_pos ⟨rfl, by omega⟩, if_pos e]
      · rw [if_neg (fun q => by have := q.2; omega), if_neg e]
    clear hs1
    have hfr : ∀ j : Nat, 9618 ≤ (j : Int) → (j : Int) < nx → s1.2 (P + 18) j = u.2 (P + 18) j := fun j _ _ => by rw [ro _ (by omega)]
    refine ⟨rfl, IFz_tr Fu ⟨fun r _ _ _ _ a5 _ _ => ro r a5, ⟨fun j _ => by rw [ro _ (by omega)], by rw [f1]; exact Int.le_refl _⟩, fun c q _ _ _ _ => by rw [f1]⟩, ⟨by rw [f1]; exact hT, nx, ts, ca, me, by rw [f1]; exact hcc, by rw [f1]; exact hR.1, IRt_f hfr (Int.le_refl _) (by rw [f1]) (ro 198 (by decide)) r1, ⟨by rw [f1]; exact r2.1, fun c' hc' => ?_⟩, IRm_f hfr (Int.le_refl _) (by rw [f1]) (ro 202 (by decide)) (by rw [f1]) r3⟩, by rw [f1]; exact u200⟩
    have old := r2.2 c' hc'
    refine ⟨CAd_f hfr (Int.le_refl _) (by omega) (fun j j1' j2' => by rw [c1', if_neg (by omega)]) old.1, ?_⟩
    rw [show 10 * (c' : Int) + 9 = ((10 * c' + 9 : Nat) : Int) by omega, KI_n, c1']
    by_cases e : 10 * c' + 9 = 10 * c + 9
    · rw [if_pos e, u198]
      exact hb198.1
    · rw [if_neg e, ← KI_n, show ((10 * c' + 9 : Nat) : Int) = 10 * (c' : Int) + 9 by omega]
      exact old.2
  have nxt : ∀ (q4 q5 q6 : Int32) (w : zS), ¬ (u.1 198 2).toInt ≤ c3.toInt → SNz w → IFz P u w → IOz ar P w → w.1 200 2 = u.1 200 2 → w.1 198 2 = u.1 198 2 → v_99_72 (fun j => Zt (d + 27 + 8) (wd2 P j) j) P (fun a1' a2' a3' s' => (a1' = c1 ∧ a2' = c2 ∧ 0 ≤ a3'.toInt ∧ SNz s' ∧ IFz P s s' ∧ IOz ar P s' ∧ s'.1 200 2 = s.1 200 2 ∧ s'.1 198 2 = s.1 198 2) ∧ (151 - a3'.toInt).toNat < (151 - c3.toInt).toNat) c1 c2 c3 q4 q5 q6 w (fun v s' => v = none ∧ IFz P s s' ∧ IOz ar P s' ∧ s'.1 200 2 = s.1 200 2) := fun q4 q5 q6 w y Nw Fw Iw w2 w1 => by
    unfold v_99_72
    intro x1 hx1
    rw [u198] at y
    have := hx1 (by omega)
    exact ⟨⟨rfl, rfl, by omega, Nw, IFz_tr Fu Fw, Iw, w2.trans u200, w1.trans u198⟩, by omega⟩
  unfold v_99_11
  refine ⟨fun _ => out, fun y => ⟨fun _ => out, fun z0 => ?_⟩⟩
  have ht3 : c3.toInt < (ts.length : Int) := by omega
  obtain ⟨t3, et3⟩ : ∃ t3 : Nat, c3.toInt = (t3 : Int) := ⟨c3.toInt.toNat, by omega⟩
  obtain ⟨A, hAt⟩ : ∃ A, ts[t3]? = some A := ⟨_, List.getElem?_eq_getElem (by omega)⟩
  have hAm := r1.2 t3 A hAt
  have ety : (zg u 198 c3).toInt = KI (u.2 198) (t3 : Int) := by rw [zg_K, et3]
  rw [← ety] at hAm
  obtain ⟨hAq, ⟨A4, A5⟩, A6⟩ := id hAm
  obtain ⟨cb, Bm, hBm⟩ : ∃ cb B, MDt ar P u nx cb B ∧ cb = (zg u 200 c1).toInt := by
    obtain ⟨B, hB⟩ := (r2.2 c hcl).1.1
    refine ⟨_, B, hB, ?_⟩
    rw [zg_K, hc]
  obtain ⟨hBm, ecb⟩ := hBm
  rw [ecb] at hBm
  obtain ⟨hBq, ⟨B4, B5⟩, B6⟩ := id hBm
  obtain ⟨co, l, rfl⟩ : ∃ co l, A = co :: l := by
    cases A with
    | nil => exact absurd rfl (isR_ne hAq.1)
    | cons co l => exact ⟨co, l, rfl⟩
  obtain ⟨bo, l', rfl⟩ : ∃ bo l', Bm = bo :: l' := by
    cases Bm with
    | nil => exact absurd rfl (isR_ne hBq.1)
    | cons bo l' => exact ⟨bo, l', rfl⟩
  have wc : (zg u (P + 18) (zg u 198 c3)).toInt = co := by
    have := A6 0 co rfl
    rw [zg_K, ← this, show (zg u 198 c3).toInt + ((0 : Nat) : Int) = (zg u 198 c3).toInt by omega]
  have hco := hAq.2.2 co List.mem_cons_self
  have hbo := hBq.2.2 bo List.mem_cons_self
  have zk := (zInf_k (kd := kd) m3 m4 (x := zg u (P + 18) (zg u 198 c3)) (by omega)).2
  rw [wc] at zk
  have hal := hAq.2.1
  have hbl := hBq.2.1
  have hal1 : 1 ≤ (co :: l).length := Nat.succ_pos _
  have hbl1 : 1 ≤ (bo :: l').length := Nat.succ_pos _
  -- behind the look whether a type fits
  have go : ∀ (t0 t1 : Int32) (w : zS), SNz w → IFz P u w → IOz ar P w → w.1 = u.1 → w.2 198 = u.2 198 → w.2 200 = u.2 200 → (∀ j : Nat, 9618 ≤ (j : Int) → (j : Int) < nx → w.2 (P + 18) j = u.2 (P + 18) j) → (0 ≤ t1.toInt ∧ t1.toInt ≤ 1) → (t0.toInt = 0 → t1.toInt = 0 ∧ kd co = 1) → v_99_55 (fun j => Zt (d + 27 + 8) (wd2 P j) j) P (fun a1' a2' a3' s' => (a1' = c1 ∧ a2' = c2 ∧ 0 ≤ a3'.toInt ∧ SNz s' ∧ IFz P s s' ∧ IOz ar P s' ∧ s'.1 200 2 = s.1 200 2 ∧ s'.1 198 2 = s.1 198 2) ∧ (151 - a3'.toInt).toNat < (151 - c3.toInt).toNat) c1 c2 c3 (zg u 198 c3) (zg u (P + 18) (zg u 198 c3)) t0 t1 w (fun v s' => v = none ∧ IFz P s s' ∧ IOz ar P s' ∧ s'.1 200 2 = s.1 200 2) := fun t0 t1 w Nw Fw Iw fw rw8 rw0 hfw ht1 ht0 => by
    unfold v_99_55
    refine ⟨ht1, fun s1 hs1 => ?_⟩
    have F1 : ∀ b q, ¬ (b = 197 ∧ q = 10) → s1.1 b q = w.1 b q := fun b q hbq => by rw [hs1, zf_1, if_neg hbq]
    have e1 : s1.2 = w.2 := by rw [hs1, zf_2]
    have z1 : s1.1 197 10 = t1 := by rw [hs1, zf_1, if_pos ⟨rfl, rfl⟩]
    have N1 : SNz s1 := SNz_2 e1 Nw
    clear hs1
    have IF1 : IFz P u s1 := IFz_tr Fw ⟨fun r _ _ _ _ _ _ _ => by rw [e1], ⟨fun j _ => by rw [e1], by rw [F1 197 7 (by decide)]; exact Int.le_refl _⟩, fun c q a _ _ _ => F1 c q (fun z => a ⟨z.1, Or.inr z.2⟩)⟩
    have I1 : IOz ar P s1 := by
      obtain ⟨hTw, nxw, tsw, caw, mew, hcw, hRw⟩ := id Iw
      refine ⟨by rw [F1 75 3 (by decide)]; exact hTw, nxw, tsw, caw, mew, ⟨hcw.1, fun _ => ?_⟩, IRz_f (fun j _ _ => by rw [e1]) (F1 197 7 (by decide)) ⟨F1 198 2 (by decide), F1 200 2 (by decide), F1 202 2 (by decide), F1 (P + 26) 2 (fun z => by omega)⟩ ⟨by rw [e1], by rw [e1], by rw [e1]⟩ hRw⟩
      exact hcw.2 (by rw [fw]; exact z0)
    have s12 : s1.1 200 2 = u.1 200 2 := by rw [F1 200 2 (by decide), fw]
    have s18 : s1.1 198 2 = u.1 198 2 := by rw [F1 198 2 (by decide), fw]
    refine ⟨fun _ => nxt _ _ _ s1 y N1 IF1 I1 s12 s18, fun t00 x2' hx2' => ?_⟩
    obtain ⟨t10, kd1⟩ := ht0 t00
    have hcoT : 0 ≤ co ∧ co < (TN.length : Int) := (fTy_pu h kd1).1
    have G1 := PGz_i hP IF1 Gu
    obtain ⟨-, -, -, -, p5, -⟩ := cz_lk h G1.1
    refine Zt.imp (Zt.mo (d := 9) (by omega) (zs_53 (d := 0) hP p5 hF60 (by rw [wc]; exact ⟨hcoT.1, hcoT.2, by omega⟩))) ?_
    rintro v3 s4 ⟨hs4, x5, rfl, hx5⟩
    subst hs4
    refine ⟨x5, rfl, ?_⟩
    have hF4 : (s4.1 (P + 26) 2).toInt = 10 * (kFn K Ls : Int) := G1.1.2.2.2.2.2.2.1.2.1
    have hx5b : -1 ≤ x5.toInt ∧ 10 * x5.toInt < (s4.1 (P + 26) 2).toInt := by
      rw [hx5, hF4]
      rcases lFw_b (cf := cfO K L W TN Ls) (wf := fun f => fnc s4 P (f : Int) 6) (c := (zg u (P + 18) (zg u 198 c3)).toInt) (x := (zg s4 200 x2').toInt) (kFn K Ls) with q | ⟨g, g1, g2, -⟩
      · rw [q]
        omega
      · rw [g2]
        omega
    have e7 : (s4.1 197 7).toInt = nx := by
      rw [F1 197 7 (by decide), fw]
      exact n1
    refine Zt.imp (Zt.mo (d := 27) (by omega) ((zi_100 (d := 0) (c := c) hP N1 I1 (by rw [z1]; exact t10) hc (by rw [s12]; omega) ⟨co :: l, by rw [e7]; exact MDt_f (fun j j1 j2 => by rw [e1, hfw j j1 j2]) (Int.le_refl _) hAm⟩ hx5b (by rw [hF4]; omega)).sn N1)) ?_
    rintro v6 s7 ⟨⟨rfl, F7, I7, g8, g0⟩, N7⟩
    exact ⟨rfl, nxt _ _ _ s7 y N7 (IFz_tr IF1 F7) I7 (g0.trans s12) (g8.trans s18)⟩
  have g44 : ∀ (t0 : Int32) (w : zS), SNz w → IFz P u w → IOz ar P w → w.1 = u.1 → w.2 198 = u.2 198 → w.2 200 = u.2 200 → (∀ j : Nat, 9618 ≤ (j : Int) → (j : Int) < nx → w.2 (P + 18) j = u.2 (P + 18) j) → (t0.toInt = 0 → kd co = 1) → v_99_44 (fun j => Zt (d + 27 + 8) (wd2 P j) j) P (fun a1' a2' a3' s' => (a1' = c1 ∧ a2' = c2 ∧ 0 ≤ a3'.toInt ∧ SNz s' ∧ IFz P s s' ∧ IOz ar P s' ∧ s'.1 200 2 = s.1 200 2 ∧ s'.1 198 2 = s.1 198 2) ∧ (151 - a3'.toInt).toNat < (151 - c3.toInt).toNat) c1 c2 c3 (zg u 198 c3) (zg u (P + 18) (zg u 198 c3)) t0 w (fun v s' => v = none ∧ IFz P s s' ∧ IOz ar P s' ∧ s'.1 200 2 = s.1 200 2) := fun t0 w Nw Fw Iw fw rw8 rw0 hfw ht0 => by
    unfold v_99_44 v_99_52
    refine ⟨fun zz => absurd (by rw [fw]; exact z0) zz, fun _ => ⟨fun n9 => go t0 0 w Nw Fw Iw fw rw8 rw0 hfw (by decide) (fun w => ⟨by decide, ht0 w⟩), fun n9 => go t0 1 w Nw Fw Iw fw rw8 rw0 hfw (by decide) (fun w => by omega)⟩⟩
  refine ⟨fun _ => g44 7 u Nu IFz_rf Iu rfl rfl rfl (fun _ _ _ => rfl) (fun w => absurd w (by decide)), fun hst => ?_⟩
  have kd1 : kd co = 1 := by
    by_cases q : kd co = 1
    · exact q
    · exact absurd (zk.mpr q) hst
  have hcoT : 0 ≤ co ∧ co < (TN.length : Int) := (fTy_pu h kd1).1
  have hnTl := PR_nT h
  refine Zt.imp (Zt.mo (d := 11) (by omega) ((zs_88q (d := 0) (ar := ar) (t := 18) (hd := hdd K L W ar TN Ls) (H := kHd K L Ls) (F := kFn K Ls) (cf := cfO K L W TN Ls) (kd := kd) (K := K) (n := n) (TN := TN) (ca := co) (A' := l) (cb := bo) (B' := l') (co := co) (O' := l) hP m1 ha h24 hT ⟨by decide, by decide⟩ m2 m3 m4 m5 hF60 Gu.1.2.2.2.2.2.2.2.2 m6 m7 m8 hAq.1 hal ⟨hco.1, hco.2⟩ ⟨by omega, by omega⟩ A6 (Or.inr (by omega)) hBq.1 hbl ⟨hbo.1, hbo.2⟩ ⟨by omega, by omega⟩ B6 (Or.inr (by omega)) (fun q1 _ => by omega) (fun q1 => by omega) (Or.inl ⟨by omega, rfl⟩) ⟨hco.1, by omega⟩).sn Nu)) ?_
  rintro v1 s2 ⟨⟨mf, x3, rfl, -⟩, N2⟩
  have rw2 : ∀ r, ¬ r = P + 18 → ¬ r = 78 → ¬ r = 80 → s2.2 r = u.2 r := mf.2.1
  have wd2' : ∀ j : Nat, ((j : Int) < 18 ∨ 138 ≤ (j : Int)) → s2.2 (P + 18) j = u.2 (P + 18) j := mf.2.2
  refine ⟨x3, rfl, g44 x3 s2 N2 ⟨fun r a1 a2 a3 _ _ _ _ => rw2 r a1 a2 a3, ⟨fun j hj => wd2' j (by omega), by rw [mf.1]; exact Int.le_refl _⟩, fun c q _ _ _ _ => by rw [mf.1]⟩ ⟨by rw [mf.1]; exact hT, nx, ts, ca, me, by rw [mf.1]; exact hcc, IRz_f (fun j j1 _ => wd2' j (by omega)) (by rw [mf.1]) (by rw [mf.1]; exact ⟨rfl, rfl, rfl, rfl⟩) ⟨rw2 198 (by omega) (by decide) (by decide), rw2 200 (by omega) (by decide) (by decide), rw2 202 (by omega) (by decide) (by decide)⟩ hR⟩ mf.1 (rw2 198 (by omega) (by decide) (by decide)) (rw2 200 (by omega) (by decide) (by decide)) (fun j j1 _ => wd2' j (by omega)) (fun _ => kd1)⟩
end ZVL
