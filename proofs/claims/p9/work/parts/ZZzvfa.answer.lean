/-! ===== the class: Stock with all that its Rows hold: answer ===== -/
/-- a TYPE was held against a CALL: if it meets it, the METHOD is there -/
def AnD (kd : Int → Int) (mv : List Int → List Int → Int) (fo : Int → Int → Int) (A : List Int) (X : Cal) (ms : List Cal) : Prop := kd (A.headD 0) = 1 → ¬ mv A X.1 = 9 ∧ (mv A X.1 = 0 → (A, fo (A.headD 0) X.2.1, X.2.2) ∈ ms)
theorem AnD_m {kd : Int → Int} {mv : List Int → List Int → Int} {fo : Int → Int → Int} : AnM (AnD kd mv fo) := fun A X ms vs h hk => ⟨(h hk).1, fun w => List.mem_append_left _ ((h hk).2 w)⟩
section ZVL
variable {K L W ar kd : Int → Int} {TN Ls : List Int} {n k0 mB k z lo hi : Int} {P d c : Nat} {s : zS} {gg : Int × Int} {a1 : Int32} {Dr : Mit → Prop} {Bd : Prop} {ts : List (List Int)} {cs ms : List Cal} {X : Cal}
set_option maxHeartbeats 4000000 in
/-- answer: the CALL at 10 * c -/
theorem zi_99 (hP : P = 3 ∨ P = 39) (h : PRm K L W ar kd n lo hi TN Ls) (G : PGz K L W ar kd TN Ls n k0 mB P k z gg s) (hN : SNz s) (hI : IOd Dr Bd (AnD kd (fun A t => mvD K L W ar kd TN Ls A A t) (fxD K L W TN Ls)) ar P s ts cs ms) (h0 : (s.1 197 10).toInt = 0) (hc : a1.toInt = 10 * (c : Int)) (hX : cs[c]? = some X) (hDr : ∀ A ∈ ts, kd (A.headD 0) = 1 → mvD K L W ar kd TN Ls A A X.1 = 0 → Dr (itm (A, fxD K L W TN Ls (A.headD 0) X.2.1, X.2.2))) (hBd : ∀ A ∈ ts, kd (A.headD 0) = 1 → mvD K L W ar kd TN Ls A A X.1 = 9 → Bd) : Zt (d + 36) (wd2 P 99) 99 [.ref 197, .int a1] s (fun v s' => v = none ∧ IFz P s s' ∧ (s'.1 198 2 = s.1 198 2 ∧ s'.1 200 2 = s.1 200 2 ∧ ∀ j : Nat, ¬ j = 10 * c + 9 → s'.2 200 j = s.2 200 j) ∧ ∃ vs : List Cal, IOd Dr Bd (AnD kd (fun A t => mvD K L W ar kd TN Ls A A t) (fxD K L W TN Ls)) ar P s' ts cs (ms ++ vs) ∧ ((s'.1 197 10).toInt = 0 → KI (s'.2 200) (10 * (c : Int) + 9) = (ts.length : Int))) := by
  obtain ⟨ha, h24⟩ := PR_ar h
  have hcl : c < cs.length := (List.getElem?_eq_some_iff.mp hX).1
  have hcn : 10 * (c : Int) < (s.1 200 2).toInt := by
    obtain ⟨⟨-, nx, -, hR⟩, -⟩ := id hI
    have := hR.2.2.1.1
    omega
  have hnT := h.2.2.1.1
  have hF60 := h.2.2.1.2
  refine Zt_bd (fun hB => zc_99 (d := d + 27) hP ?_)
  have hb200 := hB.2 200 2 0 1510 (by decide +kernel) (by decide +kernel)
  have hb198 := hB.2 198 2 0 151 (by decide +kernel) (by decide +kernel)
  unfold v_99_0
  intro x1 hx1 x2 hx2
  have ex1 := hx1 (by omega)
  have ex2 := hx2 (by omega)
  have ez2 : (zg s 200 x2).toInt = KI (s.2 200) (10 * (c : Int) + 9) := by rw [zg_K, show x2.toInt = 10 * (c : Int) + 9 by omega]
  obtain ⟨An, hAn⟩ : ∃ An, An = AnD kd (fun A t => mvD K L W ar kd TN Ls A A t) (fxD K L W TN Ls) := ⟨_, rfl⟩
  have hAM : AnM An := by
    rw [hAn]
    exact AnD_m
  have hAnI : ∀ (A : List Int) (ms' : List Cal), An A X ms' ↔ (kd (A.headD 0) = 1 → ¬ mvD K L W ar kd TN Ls A A X.1 = 9 ∧ (mvD K L W ar kd TN Ls A A X.1 = 0 → (A, fxD K L W TN Ls (A.headD 0) X.2.1, X.2.2) ∈ ms')) := fun A ms' => by
    rw [hAn]
    exact Iff.rfl
  rw [← hAn] at hI ⊢
  clear hAn
  obtain ⟨dn, dn1, dn2, dn3⟩ := hI.2.2 h0 c X hX
  rw [← ez2] at dn1
  refine ⟨fun c1 c2 c3 u => c1 = a1 ∧ c2 = x2 ∧ SNz u ∧ IFz P s u ∧ (u.1 200 2 = s.1 200 2 ∧ u.1 198 2 = s.1 198 2 ∧ u.2 200 = s.2 200 ∧ u.2 198 = s.2 198) ∧ ∃ t : Nat, c3.toInt = (t : Int) ∧ t ≤ ts.length ∧ ∃ vs : List Cal, IOd Dr Bd An ar P u ts cs (ms ++ vs) ∧ ((u.1 197 10).toInt = 0 → ∀ (t' : Nat) (A : List Int), t' < t → ts[t']? = some A → An A X (ms ++ vs)), fun _ _ c3 _ => (151 - c3.toInt).toNat, ⟨rfl, rfl, hN, IFz_rf, ⟨rfl, rfl, rfl, rfl⟩, dn, dn1, dn2, [], by rw [List.append_nil]; exact hI, fun _ t' A ht hA => by rw [List.append_nil]; exact dn3 t' A ht hA⟩, ?_⟩
  rintro c1 c2 c3 u ⟨e1, e2, Nu, Fu, ⟨u200, u198, ur200, ur198⟩, t3, et3, ht3', vs, Iu, hAns⟩
  subst e1 e2
  have Gu := PGz_i hP Fu G
  obtain ⟨m1, m2, m3, m4, m5, m6, m7, m8⟩ := cz_lk h Gu.1
  have hFz : (u.1 (P + 26) 2).toInt = 10 * (kFn K Ls : Int) := Gu.1.2.2.2.2.2.2.1.2.1
  obtain ⟨⟨hT, nx, hcc, hR⟩, hH, hDN⟩ := id Iu
  obtain ⟨⟨n1, n2, n3⟩, r1, r2, r3⟩ := id hR
  have r1s := r1.1
  have r2s := r2.1
  have out : ((u.1 197 10).toInt = 0 → t3 = ts.length) → v_99_74 (fun j => Zt (d + 27 + 8) (wd2 P j) j) P c1 c2 c3 u (fun v s' => v = none ∧ IFz P s s' ∧ (s'.1 198 2 = s.1 198 2 ∧ s'.1 200 2 = s.1 200 2 ∧ ∀ j : Nat, ¬ j = 10 * c + 9 → s'.2 200 j = s.2 200 j) ∧ ∃ vs : List Cal, IOd Dr Bd An ar P s' ts cs (ms ++ vs) ∧ ((s'.1 197 10).toInt = 0 → KI (s'.2 200) (10 * (c : Int) + 9) = (ts.length : Int))) := fun hfin => by
    unfold v_99_74
    refine ⟨by rw [u198]; omega, fun s1 hs1 => ?_⟩
    have l0 : (lim 200 : Int) = 1510 := by decide +kernel
    have f1 : s1.1 = u.1 := by rw [hs1, zt_1]
    have ro : ∀ r, ¬ r = 200 → s1.2 r = u.2 r := fun r hr => by rw [hs1, zt_o hr]
    have c1' : ∀ j, s1.2 200 j = if j = 10 * c + 9 then u.1 198 2 else u.2 200 j := fun j => by
      rw [hs1, zt_in (by rw [l0]; omega), zr_2]
      by_cases e : j = 10 * c + 9
      · rw [if_pos ⟨rfl, by omega⟩, if_pos e]
      · rw [if_neg (fun q => by have := q.2; omega), if_neg e]
    clear hs1
    have hfr : ∀ j : Nat, 9618 ≤ (j : Int) → (j : Int) < nx → s1.2 (P + 18) j = u.2 (P + 18) j := fun j _ _ => by rw [ro _ (by omega)]
    have k9 : ∀ c' : Nat, KI (s1.2 200) (10 * (c' : Int) + 9) = if c' = c then (ts.length : Int) else KI (u.2 200) (10 * (c' : Int) + 9) := fun c' => by
      rw [show 10 * (c' : Int) + 9 = ((10 * c' + 9 : Nat) : Int) by omega, KI_n, KI_n, c1']
      by_cases e : c' = c
      · rw [if_pos (by omega), if_pos e]
        exact r1s
      · rw [if_neg (by omega), if_neg e]
    have g4 := IRm_f (ws := []) hfr (Int.le_refl _) (by rw [f1]) (ro 202 (by decide)) (fun j _ => by rw [ro 198 (by decide)]) (by rw [f1]) r3
    rw [List.append_nil] at g4
    refine ⟨rfl, IFz_tr Fu ⟨fun r _ _ _ _ a5 _ _ => ro r a5, ⟨fun j _ => by rw [ro _ (by omega)], by rw [f1]; exact Int.le_refl _⟩, fun c q _ _ _ _ => by rw [f1]⟩, ⟨by rw [f1, u198], by rw [f1, u200], fun j hj => by rw [c1', if_neg hj, ur200]⟩, vs, ⟨⟨by rw [f1]; exact hT, nx, by rw [f1]; exact hcc, by rw [f1]; exact hR.1, IRt_f hfr (Int.le_refl _) (by rw [f1]) (ro 198 (by decide)) r1, ⟨by rw [f1]; exact r2.1, fun c' Z hZ => ?_⟩, g4⟩, by rw [f1]; exact hH, fun z => ?_⟩, fun _ => by rw [k9, if_pos rfl]⟩
    · have old := r2.2 c' Z hZ
      have g := CAc_f (ws := []) hfr (Int.le_refl _) (by omega) (fun j j1' j2' => by rw [c1', if_neg (by omega)]) (fun j _ => by rw [ro 198 (by decide)]) old.1
      rw [List.append_nil] at g
      refine ⟨g, ?_⟩
      rw [k9]
      by_cases e : c' = c
      · rw [if_pos e]
        omega
      · rw [if_neg e]
        exact old.2
    · rw [f1] at z
      intro c' Z hZ
      by_cases e : c' = c
      · refine ⟨ts.length, by rw [k9, if_pos e], Nat.le_refl _, fun t' A ht hA => ?_⟩
        rw [e, hX] at hZ
        rw [← Option.some.inj hZ]
        exact hAns z t' A (by rw [hfin z]; exact ht) hA
      · obtain ⟨dn', d1, d2, d3⟩ := hDN z c' Z hZ
        exact ⟨dn', by rw [k9, if_neg e]; exact d1, d2, d3⟩
  have nxt : ∀ (q4 q5 q6 : Int32) (w : zS) (vs' : List Cal), t3 < ts.length → SNz w → IFz P u w → w.1 200 2 = u.1 200 2 → w.1 198 2 = u.1 198 2 → w.2 200 = u.2 200 → w.2 198 = u.2 198 → IOd Dr Bd An ar P w ts cs (ms ++ vs') → ((w.1 197 10).toInt = 0 → ∀ (t' : Nat) (A : List Int), t' < t3 + 1 → ts[t']? = some A → An A X (ms ++ vs')) → v_99_72 (fun j => Zt (d + 27 + 8) (wd2 P j) j) P (fun a1' a2' a3' s' => (a1' = c1 ∧ a2' = c2 ∧ SNz s' ∧ IFz P s s' ∧ (s'.1 200 2 = s.1 200 2 ∧ s'.1 198 2 = s.1 198 2 ∧ s'.2 200 = s.2 200 ∧ s'.2 198 = s.2 198) ∧ ∃ t : Nat, a3'.toInt = (t : Int) ∧ t ≤ ts.length ∧ ∃ vs : List Cal, IOd Dr Bd An ar P s' ts cs (ms ++ vs) ∧ ((s'.1 197 10).toInt = 0 → ∀ (t' : Nat) (A : List Int), t' < t → ts[t']? = some A → An A X (ms ++ vs))) ∧ (151 - a3'.toInt).toNat < (151 - c3.toInt).toNat) c1 c2 c3 q4 q5 q6 w (fun v s' => v = none ∧ IFz P s s' ∧ (s'.1 198 2 = s.1 198 2 ∧ s'.1 200 2 = s.1 200 2 ∧ ∀ j : Nat, ¬ j = 10 * c + 9 → s'.2 200 j = s.2 200 j) ∧ ∃ vs : List Cal, IOd Dr Bd An ar P s' ts cs (ms ++ vs) ∧ ((s'.1 197 10).toInt = 0 → KI (s'.2 200) (10 * (c : Int) + 9) = (ts.length : Int))) := fun q4 q5 q6 w vs' y Nw Fw w2 w1 w3 w4 Iw hw => by
    unfold v_99_72
    intro x1 hx1
    have := hx1 (by omega)
    exact ⟨⟨rfl, rfl, Nw, IFz_tr Fu Fw, ⟨w2.trans u200, w1.trans u198, w3.trans ur200, w4.trans ur198⟩, t3 + 1, by omega, by omega, vs', Iw, hw⟩, by omega⟩
  unfold v_99_11
  refine ⟨fun y => out (fun _ => by omega), fun y => ⟨fun z => out (fun z' => absurd z' z), fun z0 => ?_⟩⟩
  have ht3 : t3 < ts.length := by omega
  have hAns := hAns z0
  have hSBf := hH.2.2.1 z0
  obtain ⟨A, hAt⟩ : ∃ A, ts[t3]? = some A := ⟨_, List.getElem?_eq_getElem (by omega)⟩
  have hAm := r1.2 t3 A hAt
  have ety : (zg u 198 c3).toInt = KI (u.2 198) (t3 : Int) := by rw [zg_K, et3]
  rw [← ety] at hAm
  obtain ⟨hAq, ⟨A4, A5⟩, A6⟩ := id hAm
  obtain ⟨Bm, hBe⟩ : ∃ Bm, Bm = X.1 := ⟨_, rfl⟩
  have hBm : MDt ar P u nx (zg u 200 c1).toInt Bm := by
    rw [zg_K, hc, hBe]
    exact (r2.2 c X hX).1.1
  rw [← hBe] at hDr hBd hAnI
  obtain ⟨hBq, ⟨B4, B5⟩, B6⟩ := id hBm
  obtain ⟨co, l, rfl⟩ : ∃ co l, A = co :: l := by
    cases A with
    | nil => exact absurd rfl (isR_ne hAq.1)
    | cons co l => exact ⟨co, l, rfl⟩
  obtain ⟨bo, l', rfl⟩ : ∃ bo l', Bm = bo :: l' := by
    cases Bm with
    | nil => exact absurd rfl (isR_ne hBq.1)
    | cons bo l' => exact ⟨bo, l', rfl⟩
  have wc : (zg u (P + 18) (zg u 198 c3)).toInt = co := by
    have := A6 0 co rfl
    rw [zg_K, ← this, show (zg u 198 c3).toInt + ((0 : Nat) : Int) = (zg u 198 c3).toInt by omega]
  have hco := hAq.2.2 co List.mem_cons_self
  have hbo := hBq.2.2 bo List.mem_cons_self
  have zk := (zInf_k (kd := kd) m3 m4 (x := zg u (P + 18) (zg u 198 c3)) (by omega)).2
  rw [wc] at zk
  have hal := hAq.2.1
  have hbl := hBq.2.1
  have hal1 : 1 ≤ (co :: l).length := Nat.succ_pos _
  have hbl1 : 1 ≤ (bo :: l').length := Nat.succ_pos _
  have hAm0 := List.mem_of_getElem? hAt
  -- what was held against it, one more
  have one_more : ∀ vs' : List Cal, (∀ (t' : Nat) (A : List Int), t' < t3 → ts[t']? = some A → An A X (ms ++ vs')) → An (co :: l) X (ms ++ vs') → ∀ (t' : Nat) (A : List Int), t' < t3 + 1 → ts[t']? = some A → An A X (ms ++ vs') := fun vs' g1 g2 t' A ht hA => by
    by_cases e : t' = t3
    · rw [e, hAt] at hA
      rw [← Option.some.inj hA]
      exact g2
    · exact g1 t' A (by omega) hA
  -- behind the look whether a type fits
  have go : ∀ (t0 t1 : Int32) (w : zS), SNz w → IFz P u w → IOd Dr Bd An ar P w ts cs (ms ++ vs) → w.1 = u.1 → w.2 198 = u.2 198 → w.2 200 = u.2 200 → (∀ j : Nat, 9618 ≤ (j : Int) → (j : Int) < nx → w.2 (P + 18) j = u.2 (P + 18) j) → ((t1.toInt = 0 ∧ ¬ t0.toInt = 9) ∨ (t1.toInt = 1 ∧ t0.toInt = 9)) → ((kd co = 1 ∧ t0.toInt = mvD K L W ar kd TN Ls (co :: l) (co :: l) (bo :: l')) ∨ (¬ kd co = 1 ∧ t0.toInt = 7)) → v_99_55 (fun j => Zt (d + 27 + 8) (wd2 P j) j) P (fun a1' a2' a3' s' => (a1' = c1 ∧ a2' = c2 ∧ SNz s' ∧ IFz P s s' ∧ (s'.1 200 2 = s.1 200 2 ∧ s'.1 198 2 = s.1 198 2 ∧ s'.2 200 = s.2 200 ∧ s'.2 198 = s.2 198) ∧ ∃ t : Nat, a3'.toInt = (t : Int) ∧ t ≤ ts.length ∧ ∃ vs : List Cal, IOd Dr Bd An ar P s' ts cs (ms ++ vs) ∧ ((s'.1 197 10).toInt = 0 → ∀ (t' : Nat) (A : List Int), t' < t → ts[t']? = some A → An A X (ms ++ vs))) ∧ (151 - a3'.toInt).toNat < (151 - c3.toInt).toNat) c1 c2 c3 (zg u 198 c3) (zg u (P + 18) (zg u 198 c3)) t0 t1 w (fun v s' => v = none ∧ IFz P s s' ∧ (s'.1 198 2 = s.1 198 2 ∧ s'.1 200 2 = s.1 200 2 ∧ ∀ j : Nat, ¬ j = 10 * c + 9 → s'.2 200 j = s.2 200 j) ∧ ∃ vs : List Cal, IOd Dr Bd An ar P s' ts cs (ms ++ vs) ∧ ((s'.1 197 10).toInt = 0 → KI (s'.2 200) (10 * (c : Int) + 9) = (ts.length : Int))) := fun t0 t1 w Nw Fw Iw fw rw8 rw0 hfw ht1 ht0 => by
    unfold v_99_55
    refine ⟨by omega, fun s1 hs1 => ?_⟩
    have F1 : ∀ b q, ¬ (b = 197 ∧ q = 10) → s1.1 b q = w.1 b q := fun b q hbq => by rw [hs1, zf_1, if_neg hbq]
    have e1 : s1.2 = w.2 := by rw [hs1, zf_2]
    have z1 : s1.1 197 10 = t1 := by rw [hs1, zf_1, if_pos ⟨rfl, rfl⟩]
    have N1 : SNz s1 := SNz_2 e1 Nw
    clear hs1
    have IF1 : IFz P u s1 := IFz_tr Fw ⟨fun r _ _ _ _ _ _ _ => by rw [e1], ⟨fun j _ => by rw [e1], by rw [F1 197 7 (by decide)]; exact Int.le_refl _⟩, fun c q a _ _ _ => F1 c q (fun z => a ⟨z.1, Or.inr z.2⟩)⟩
    have zw : (w.1 197 10).toInt = 0 := by
      rw [fw]
      exact z0
    have I1 : IOd Dr Bd An ar P s1 ts cs (ms ++ vs) := by
      obtain ⟨⟨hTw, nxw, hcw, hRw⟩, ⟨hn, hdr, hsb, -⟩, hdn⟩ := id Iw
      refine ⟨⟨by rw [F1 75 3 (by decide)]; exact hTw, nxw, ⟨hcw.1, fun _ => hcw.2 zw⟩, IRz_f (fun j _ _ => by rw [e1]) (F1 197 7 (by decide)) ⟨F1 198 2 (by decide), F1 200 2 (by decide), F1 202 2 (by decide), F1 (P + 26) 2 (fun z => by omega)⟩ ⟨by rw [e1], by rw [e1], by rw [e1]⟩ hRw⟩, ⟨hn, hdr, fun _ => hsb zw, fun z => ?_⟩, fun _ => DNc_s (by rw [e1]) (hdn zw)⟩
      rw [z1] at z
      rcases ht1 with q | q
      · exact absurd q.1 z
      · rcases ht0 with p | p
        · exact Or.inl (hBd (co :: l) hAm0 p.1 (by rw [← p.2]; exact q.2))
        · omega
    have s12 : s1.1 200 2 = u.1 200 2 := by rw [F1 200 2 (by decide), fw]
    have s18 : s1.1 198 2 = u.1 198 2 := by rw [F1 198 2 (by decide), fw]
    refine ⟨fun t0n => nxt _ _ _ s1 vs ht3 N1 IF1 s12 s18 (by rw [e1, rw0]) (by rw [e1, rw8]) I1 (fun z => one_more vs hAns ((hAnI _ _).mpr (fun hk => ?_))), fun t00 x2' hx2' => ?_⟩
    · rw [z1] at z
      have hk : kd co = 1 := hk
      rcases ht0 with p | p
      · refine ⟨fun w9 => ?_, fun w0 => absurd (by rw [p.2]; exact w0) t0n⟩
        rw [← p.2] at w9
        omega
      · exact absurd hk p.1
    have kd1 : kd co = 1 := by
      rcases ht0 with p | p
      · exact p.1
      · omega
    have hmv : mvD K L W ar kd TN Ls (co :: l) (co :: l) (bo :: l') = 0 := by
      rcases ht0 with p | p
      · rw [← p.2]
        exact t00
      · omega
    have t10 : t1.toInt = 0 := by omega
    have hcoT : 0 ≤ co ∧ co < (TN.length : Int) := (fTy_pu h kd1).1
    have G1 := PGz_i hP IF1 Gu
    obtain ⟨-, -, -, -, p5, -⟩ := cz_lk h G1.1
    refine Zt.imp (Zt.mo (d := 9) (by omega) (zs_53 (d := 0) hP p5 hF60 (by rw [wc]; exact ⟨hcoT.1, hcoT.2, by omega⟩))) ?_
    rintro v3 s4 ⟨hs4, x5, rfl, hx5⟩
    subst hs4
    refine ⟨x5, rfl, ?_⟩
    have hF4 : (s4.1 (P + 26) 2).toInt = 10 * (kFn K Ls : Int) := G1.1.2.2.2.2.2.2.1.2.1
    have hx5b : -1 ≤ x5.toInt ∧ 10 * x5.toInt < (s4.1 (P + 26) 2).toInt := by
      rw [hx5, hF4]
      rcases lFw_b (cf := cfO K L W TN Ls) (wf := fun f => fnc s4 P (f : Int) 6) (c := (zg u (P + 18) (zg u 198 c3)).toInt) (x := (zg s4 200 x2').toInt) (kFn K Ls) with q | ⟨g, g1, g2, -⟩
      · rw [q]
        omega
      · rw [g2]
        omega
    have ex2' := hx2' (by omega)
    have ewd : (zg s4 200 x2').toInt = X.2.1 := by
      rw [zg_K, e1, rw0, ex2', hc]
      exact (r2.2 c X hX).1.2.1
    have efx : x5.toInt = fxD K L W TN Ls co X.2.1 := by rw [hx5, cz_fx h G1.1, wc, ewd]
    have e7 : (s4.1 197 7).toInt = nx := by
      rw [F1 197 7 (by decide), fw]
      exact n1
    obtain ⟨pA, -⟩ := PG_ar h G1
    refine Zt.imp (Zt.mo (d := 27) (by omega) ((zi_100 (d := 0) (c := c) (A := co :: l) hAM hP pA ha N1 I1 (by rw [z1]; exact t10) hc hX (by rw [e7]; exact MDt_f (fun j j1 j2 => by rw [e1, hfw j j1 j2]) (Int.le_refl _) hAm) hx5b (by rw [hF4]; omega) (by rw [efx]; exact hDr (co :: l) hAm0 kd1 hmv)).sn N1)) ?_
    rintro v6 s7 ⟨⟨rfl, F7, ⟨g8, g0, gr8, gr0, -⟩, ws, I7, hY⟩, N7⟩
    rw [List.append_assoc] at I7 hY
    refine ⟨rfl, nxt _ _ _ s7 (vs ++ ws) ht3 N7 (IFz_tr IF1 F7) (g0.trans s12) (g8.trans s18) (by rw [gr0, e1, rw0]) (by rw [gr8, e1, rw8]) I7 (fun z => one_more _ (fun t' A ht hA => ?_) ((hAnI _ _).mpr (fun _ => ⟨fun w9 => by omega, fun _ => ?_⟩)))⟩
    · rw [← List.append_assoc]
      exact hAM A X (ms ++ vs) ws (hAns t' A ht hA)
    · have := hY z
      rw [efx] at this
      exact this
  have g44 : ∀ (t0 : Int32) (w : zS), SNz w → IFz P u w → IOd Dr Bd An ar P w ts cs (ms ++ vs) → w.1 = u.1 → w.2 198 = u.2 198 → w.2 200 = u.2 200 → (∀ j : Nat, 9618 ≤ (j : Int) → (j : Int) < nx → w.2 (P + 18) j = u.2 (P + 18) j) → ((kd co = 1 ∧ t0.toInt = mvD K L W ar kd TN Ls (co :: l) (co :: l) (bo :: l')) ∨ (¬ kd co = 1 ∧ t0.toInt = 7)) → v_99_44 (fun j => Zt (d + 27 + 8) (wd2 P j) j) P (fun a1' a2' a3' s' => (a1' = c1 ∧ a2' = c2 ∧ SNz s' ∧ IFz P s s' ∧ (s'.1 200 2 = s.1 200 2 ∧ s'.1 198 2 = s.1 198 2 ∧ s'.2 200 = s.2 200 ∧ s'.2 198 = s.2 198) ∧ ∃ t : Nat, a3'.toInt = (t : Int) ∧ t ≤ ts.length ∧ ∃ vs : List Cal, IOd Dr Bd An ar P s' ts cs (ms ++ vs) ∧ ((s'.1 197 10).toInt = 0 → ∀ (t' : Nat) (A : List Int), t' < t → ts[t']? = some A → An A X (ms ++ vs))) ∧ (151 - a3'.toInt).toNat < (151 - c3.toInt).toNat) c1 c2 c3 (zg u 198 c3) (zg u (P + 18) (zg u 198 c3)) t0 w (fun v s' => v = none ∧ IFz P s s' ∧ (s'.1 198 2 = s.1 198 2 ∧ s'.1 200 2 = s.1 200 2 ∧ ∀ j : Nat, ¬ j = 10 * c + 9 → s'.2 200 j = s.2 200 j) ∧ ∃ vs : List Cal, IOd Dr Bd An ar P s' ts cs (ms ++ vs) ∧ ((s'.1 197 10).toInt = 0 → KI (s'.2 200) (10 * (c : Int) + 9) = (ts.length : Int))) := fun t0 w Nw Fw Iw fw rw8 rw0 hfw ht0 => by
    unfold v_99_44 v_99_52
    refine ⟨fun zz => absurd (by rw [fw]; exact z0) zz, fun _ => ⟨fun n9 => go t0 0 w Nw Fw Iw fw rw8 rw0 hfw (Or.inl ⟨by decide, n9⟩) ht0, fun n9 => go t0 1 w Nw Fw Iw fw rw8 rw0 hfw (Or.inr ⟨by decide, n9⟩) ht0⟩⟩
  refine ⟨fun hst => g44 7 u Nu IFz_rf Iu rfl rfl rfl (fun _ _ _ => rfl) (Or.inr ⟨zk.mp hst, by decide⟩), fun hst => ?_⟩
  have kd1 : kd co = 1 := by
    by_cases q : kd co = 1
    · exact q
    · exact absurd (zk.mpr q) hst
  have hcoT : 0 ≤ co ∧ co < (TN.length : Int) := (fTy_pu h kd1).1
  have hnTl := PR_nT h
  refine Zt.imp (Zt.mo (d := 11) (by omega) ((zs_88q (d := 0) (ar := ar) (t := 18) (hd := hdd K L W ar TN Ls) (H := kHd K L Ls) (F := kFn K Ls) (cf := cfO K L W TN Ls) (kd := kd) (K := K) (n := n) (TN := TN) (ca := co) (A' := l) (cb := bo) (B' := l') (co := co) (O' := l) hP m1 ha h24 hT ⟨by decide, by decide⟩ m2 m3 m4 m5 hF60 Gu.1.2.2.2.2.2.2.2.2 m6 m7 m8 hAq.1 hal ⟨hco.1, hco.2⟩ ⟨by omega, by omega⟩ A6 (Or.inr (by omega)) hBq.1 hbl ⟨hbo.1, hbo.2⟩ ⟨by omega, by omega⟩ B6 (Or.inr (by omega)) (fun q1 _ => by omega) (fun q1 => by omega) (Or.inl ⟨by omega, rfl⟩) ⟨hco.1, by omega⟩).sn Nu)) ?_
  rintro v1 s2 ⟨⟨mf, x3, rfl, hx3⟩, N2⟩
  have emv : x3.toInt = mvD K L W ar kd TN Ls (co :: l) (co :: l) (bo :: l') := by
    unfold mvD soD
    have := cz_mv h Gu.1
    rw [hx3]
    show mvS ar kd (cfO K L W TN Ls) (kFn K Ls) (hdd K L W ar TN Ls) P u (co :: l) (co :: l) (bo :: l') = _
    rw [this]
  have rw2 : ∀ r, ¬ r = P + 18 → ¬ r = 78 → ¬ r = 80 → s2.2 r = u.2 r := mf.2.1
  have wd2' : ∀ j : Nat, ((j : Int) < 18 ∨ 138 ≤ (j : Int)) → s2.2 (P + 18) j = u.2 (P + 18) j := mf.2.2
  refine ⟨x3, rfl, g44 x3 s2 N2 ⟨fun r a1 a2 a3 _ _ _ _ => rw2 r a1 a2 a3, ⟨fun j hj => wd2' j (by omega), by rw [mf.1]; exact Int.le_refl _⟩, fun c q _ _ _ _ => by rw [mf.1]⟩ ⟨⟨by rw [mf.1]; exact hT, nx, by rw [mf.1]; exact hcc, IRz_f (fun j j1 _ => wd2' j (by omega)) (by rw [mf.1]) (by rw [mf.1]; exact ⟨rfl, rfl, rfl, rfl⟩) ⟨rw2 198 (by omega) (by decide) (by decide), rw2 200 (by omega) (by decide) (by decide), rw2 202 (by omega) (by decide) (by decide)⟩ hR⟩, by rw [mf.1]; exact hH, by rw [mf.1]; exact fun z => DNc_s (rw2 200 (by omega) (by decide) (by decide)) (hDN z)⟩ mf.1 (rw2 198 (by omega) (by decide) (by decide)) (rw2 200 (by omega) (by decide) (by decide)) (fun j j1 _ => wd2' j (by omega)) (Or.inl ⟨kd1, emv⟩)⟩
end ZVL
section ZVLX
variable {P d c : Nat} {s : zS} {a1 : Int32} {Dr : Mit → Prop} {Bd : Prop} {An : List Int → Cal → List Cal → Prop} {ar : Int → Int} {ts : List (List Int)} {cs ms : List Cal} {X : Cal}
/-- answer, where they can't be made -/
theorem zi_99x (hP : P = 3 ∨ P = 39) (hI : IOd Dr Bd An ar P s ts cs ms) (hf : ¬ (s.1 197 10).toInt = 0) (hc : a1.toInt = 10 * (c : Int)) (hX : cs[c]? = some X) : Zt (d + 36) (wd2 P 99) 99 [.ref 197, .int a1] s (fun v s' => v = none ∧ IFz P s s' ∧ s'.1 = s.1 ∧ IOd Dr Bd An ar P s' ts cs ms) := by
  have hcl : c < cs.length := (List.getElem?_eq_some_iff.mp hX).1
  obtain ⟨⟨hT, nx, hcc, hR⟩, hH, -⟩ := id hI
  obtain ⟨hR0, r1, r2, r3⟩ := id hR
  have r1s := r1.1
  have r2s := r2.1
  refine Zt_bd (fun hB => zc_99 (d := d + 27) hP ?_)
  have hb200 := hB.2 200 2 0 1510 (by decide +kernel) (by decide +kernel)
  have hb198 := hB.2 198 2 0 151 (by decide +kernel) (by decide +kernel)
  unfold v_99_0
  intro x1 hx1 x2 hx2
  have ex1 := hx1 (by omega)
  have ex2 := hx2 (by omega)
  have out : ∀ c3 : Int32, v_99_74 (fun j => Zt (d + 27 + 8) (wd2 P j) j) P a1 x2 c3 s (fun v s' => v = none ∧ IFz P s s' ∧ s'.1 = s.1 ∧ IOd Dr Bd An ar P s' ts cs ms) := fun c3 => by
    unfold v_99_74
    refine ⟨by omega, fun s1 hs1 => ?_⟩
    have l0 : (lim 200 : Int) = 1510 := by decide +kernel
    have f1 : s1.1 = s.1 := by rw [hs1, zt_1]
    have ro : ∀ r, ¬ r = 200 → s1.2 r = s.2 r := fun r hr => by rw [hs1, zt_o hr]
    have c1' : ∀ j, s1.2 200 j = if j = 10 * c + 9 then s.1 198 2 else s.2 200 j := fun j => by
      rw [hs1, zt_in (by rw [l0]; omega), zr_2]
      by_cases e : j = 10 * c + 9
      · rw [if_pos ⟨rfl, by omega⟩, if_pos e]
      · rw [if_neg (fun q => by have := q.2; omega), if_neg e]
    clear hs1
    have hfr : ∀ j : Nat, 9618 ≤ (j : Int) → (j : Int) < nx → s1.2 (P + 18) j = s.2 (P + 18) j := fun j _ _ => by rw [ro _ (by omega)]
    have g4 := IRm_f (ws := []) hfr (Int.le_refl _) (by rw [f1]) (ro 202 (by decide)) (fun j _ => by rw [ro 198 (by decide)]) (by rw [f1]) r3
    rw [List.append_nil] at g4
    refine ⟨rfl, ⟨fun r _ _ _ _ a5 _ _ => ro r a5, ⟨fun j _ => by rw [ro _ (by omega)], by rw [f1]; exact Int.le_refl _⟩, fun c q _ _ _ _ => by rw [f1]⟩, f1, ⟨by rw [f1]; exact hT, nx, by rw [f1]; exact hcc, by rw [f1]; exact hR0, IRt_f hfr (Int.le_refl _) (by rw [f1]) (ro 198 (by decide)) r1, ⟨by rw [f1]; exact r2.1, fun c' Z hZ => ?_⟩, g4⟩, by rw [f1]; exact hH, fun z => absurd (by rw [← f1]; exact z) hf⟩
    have old := r2.2 c' Z hZ
    have g := CAc_f (ws := []) hfr (Int.le_refl _) (by omega) (fun j j1' j2' => by rw [c1', if_neg (by omega)]) (fun j _ => by rw [ro 198 (by decide)]) old.1
    rw [List.append_nil] at g
    refine ⟨g, ?_⟩
    rw [show 10 * (c' : Int) + 9 = ((10 * c' + 9 : Nat) : Int) by omega, KI_n, c1']
    by_cases e : 10 * c' + 9 = 10 * c + 9
    · rw [if_pos e]
      exact hb198.1
    · rw [if_neg e, ← KI_n, show ((10 * c' + 9 : Nat) : Int) = 10 * (c' : Int) + 9 by omega]
      exact old.2
  refine ⟨fun c1 c2 _ u => c1 = a1 ∧ c2 = x2 ∧ u = s, fun _ _ _ _ => 0, ⟨rfl, rfl, rfl⟩, ?_⟩
  rintro c1 c2 c3 u ⟨e1, e2, e3⟩
  subst e1 e2 e3
  unfold v_99_11
  exact ⟨fun _ => out c3, fun _ => ⟨fun _ => out c3, fun z => absurd z hf⟩⟩
end ZVLX
