/-! ===== slots as they are added; readHead ===== -/
/-- from s to u the slots Ls were added, from number k on -/
def DSt (K L : Int → Int) (P : Nat) (s u : zS) (k : Nat) (Ls : List (Int × Int × Int × Int)) : Prop := zsz u (P + 30) = 5 * ((k : Int) + (Ls.length : Int)) ∧ SLat u P k Ls ∧ (RS P s).2 ≤ (RS P u).2 ∧ LO P (RS P s).2 (RS P u).2 s u ∧ (k : Int) + (Ls.length : Int) + 1 ≤ (RS P u).2 ∧ ∀ q ∈ Ls, 0 ≤ q.2.2.1 → GTt K L P u (RS P s).2 (RS P u).2 q.2.2.1
section ZQA
variable {d P k : Nat} {s s' s'' u u' u'' : zS} {K L : Int → Int} {n lo hi t c kd sg : Int} {a1 a2 a3 a4 x r : Int32} {R R' : List Nat} {σ : RSt} {Ls : List (Int × Int × Int × Int)}
theorem DSt_0 (h : zsz s (P + 30) = 5 * (k : Int)) (h1 : (k : Int) + 1 ≤ (RS P s).2) : DSt K L P s s k [] := ⟨by rw [h]; show _ = 5 * ((k : Int) + ((0 : Nat) : Int)); omega, SLat_nil, Int.le_refl _, LO_rf, by show (k : Int) + ((0 : Nat) : Int) + 1 ≤ _; omega, fun q hq => absurd hq List.not_mem_nil⟩
theorem DSt_ps (h : DSt K L P s u k Ls) (h30 : u'.2 (P + 30) = u.2 (P + 30)) (h12 : u'.2 (P + 12) = u.2 (P + 12)) (hz : zsz u' (P + 30) = zsz u (P + 30)) (hr : (RS P u).2 ≤ (RS P u').2) : DSt K L P s u' k Ls := by
  obtain ⟨c1, c2, c3, c4, c5, c6⟩ := h
  have lo0 : ∀ {lo hi : Int}, LO P lo hi u u' := fun q _ => by rw [h12]
  refine ⟨by rw [hz]; exact c1, SLat_eq c2 (fun i _ => by rw [h30]), by omega, LO_tr (LO_mo c4 (Int.le_refl _) hr) lo0, by omega, fun q hq h0 => ?_⟩
  exact GTt_mo (GTt_out (c6 q hq h0) (lo' := (RS P u).2) (hi' := (RS P u).2) lo0 (Int.le_refl _)) (Int.le_refl _) hr
/-- names with TYPES -/
theorem DSt_nm (h : DSt K L P s u k Ls) (g : NMq K L P n c kd sg u u' r) (hr : (p_nm K L c (RS P u)).1 = 0) : DSt K L P s u' k (Ls ++ nmS kd sg (l_nm K L (RS P u))) ∧ r.toInt = ((l_nm K L (RS P u)).length : Int) ∧ RS P u' = p_nm K L c (RS P u) := by
  obtain ⟨c1, c2, c3, c4, c5, c6⟩ := h
  obtain ⟨g1, g2, g3, g4, g5, g6, g7⟩ := g
  obtain ⟨e1, e2, e3, e4, e5, e6⟩ := g7 (k + Ls.length) hr (by rw [c1]; omega) (by omega)
  have hlt := (pnm_fw hr).2
  rw [← g1] at hlt e4 e5 e6
  have hnl : (nmS kd sg (l_nm K L (RS P u))).length = (l_nm K L (RS P u)).length := by
    unfold nmS
    rw [List.length_map]
  refine ⟨⟨?_, ?_, by omega, LO_tr (LO_mo c4 (Int.le_refl _) (by omega)) (LO_mo e4 c3 (Int.le_refl _)), ?_, fun q hq h0 => ?_⟩, e1, g1⟩
  · rw [e2, List.length_append, hnl]
    omega
  · exact SLat_app (SLat_q c2 g3 (by rw [c1]; exact Int.le_refl _)) e3
  · rw [List.length_append, hnl]
    omega
  · rcases List.mem_append.mp hq with hq | hq
    · exact GTt_mo (GTt_out (c6 q hq h0) e4 (Int.le_refl _)) (Int.le_refl _) (by omega)
    · unfold nmS at hq
      obtain ⟨y, hy, rfl⟩ := List.mem_map.mp hq
      exact GTt_mo (e6 y hy) c3 (Int.le_refl _)
/-- a slot, and the TYPE behind it -/
theorem DSt_sl {q0 : Int} (h : DSt K L P s u k Ls) (h1 : FZq [30] P u u') (h2 : RS P u' = RS P u) (h3 : u'.2 (P + 12) = u.2 (P + 12)) (h4 : ∀ k : Nat, zsz u (P + 30) = 5 * (k : Int) → k + 1 ≤ 4000 → zsz u' (P + 30) = 5 * ((k : Int) + 1) ∧ SLat u' P k [(q0, kd, (RS P u).2, sg)]) (hn : (RS P u).2 ≤ 4000) (g : TQz K L P n (p_t K L 10 false (RS P u')) u' u'') (hr : (p_t K L 10 false (RS P u')).1 = 0) (hP : P = 3 ∨ P = 39) : DSt K L P s u'' k (Ls ++ [(q0, kd, (RS P u).2, sg)]) := by
  obtain ⟨c1, c2, c3, c4, c5, c6⟩ := h
  obtain ⟨⟨g1, g2, g3⟩, g4⟩ := g
  obtain ⟨e1, e2⟩ := h4 (k + Ls.length) (by rw [c1]; omega) (by omega)
  obtain ⟨w1, w2⟩ := g4 hr
  have hlt := (pt_fw 10 _ _ hr).2
  have h00 := (pt_fw 10 _ _ hr).1
  rw [← g1] at hlt w1 w2
  rw [h2] at hlt w1 w2 h00
  have lo0 : ∀ {lo hi : Int}, LO P lo hi u u' := fun q _ => by rw [h3]
  have ez : zsz u'' (P + 30) = zsz u' (P + 30) := FZq_sz (FZq_r g3) List.not_mem_nil hP (by decide)
  refine ⟨?_, ?_, by omega, LO_tr (LO_mo c4 (Int.le_refl _) (by omega)) (LO_tr lo0 (LO_mo w2 c3 (Int.le_refl _))), ?_, fun q hq h0 => ?_⟩
  · rw [ez, e1, List.length_append]
    show _ = 5 * ((k : Int) + ((Ls.length + 1 : Nat) : Int))
    omega
  · refine SLat_app (SLat_q (SLat_q c2 h1 (by rw [c1]; exact Int.le_refl _)) (FZq_r g3) (by rw [e1]; omega)) (SLat_q (R := []) e2 (FZq_r g3) (by rw [e1]; show 5 * (((k + Ls.length : Nat) : Int) + ((1 : Nat) : Int)) ≤ _; omega))
  · rw [List.length_append]
    show (k : Int) + ((Ls.length + 1 : Nat) : Int) + 1 ≤ _
    omega
  · rcases List.mem_append.mp hq with hq | hq
    · exact GTt_mo (GTt_out (GTt_out (c6 q hq h0) (lo' := (RS P u).2) (hi' := (RS P u).2) lo0 (Int.le_refl _)) w2 (Int.le_refl _)) (Int.le_refl _) (by omega)
    · rw [List.mem_singleton.mp hq]
      dsimp only
      unfold GTt
      rw [show ((0 : Int), (RS P u).2) = RS P u by rw [← h00], ← h2, ← g1]
      exact ⟨⟨by rw [h2]; exact c3, Int.le_refl _⟩, by rw [g1]; exact hr, by rw [h2]; exact w1⟩
/-- what readHead does -/
def HDq (K L : Int → Int) (P : Nat) (n q0 : Int) (s s' : zS) : Prop := RS P s' = p_hd K L (RS P s) ∧ RDz K L P n s' ∧ FZq [28, 30] P s s' ∧ s'.2 (P + 22) = s.2 (P + 22) ∧ ∀ (s0 : zS) (k h : Nat) (Ls : List (Int × Int × Int × Int)), (p_hd K L (RS P s)).1 = 0 → DSt K L P s0 s k Ls → zsz s (P + 28) = 5 * (h : Int) → (h : Int) + 1 ≤ (RS P s).2 → DSt K L P s0 s' k (Ls ++ hSlt K L (h : Int) (RS P s)) ∧ zsz s' (P + 28) = 5 * ((h : Int) + 1) ∧ SGat s' P h q0 ((k : Int) + (Ls.length : Int)) ((h_f K L (RS P s)).length : Int) ((h_v K L (RS P s)).length : Int)
theorem SGat_q {h : Nat} {q b fc vc : Int} (g : SGat s P h q b fc vc) (hF : FZq R P s s') (hR : ∀ r ∈ R, r ∈ rwL) (hz : 5 * ((h : Int) + 1) ≤ zsz s (P + 28)) : SGat s' P h q b fc vc := by
  have e : ∀ j, j < 5 → s'.2 (P + 28) (5 * h + j) = s.2 (P + 28) (5 * h + j) := fun j hj => by
    by_cases w : 28 ∈ R
    · exact (hF.2.2 28 w).2 _ (by omega)
    · rw [FZq_row hF w (by decide) (by decide)]
  have e10 : s'.2 (P + 10) = s.2 (P + 10) := FZq_row hF (fun w => by have := hR 10 w; revert this; decide) (by decide) (by decide)
  obtain ⟨g1, g2, g3, g4, g5⟩ := g
  have e0 : s'.2 (P + 28) (5 * h) = s.2 (P + 28) (5 * h) := e 0 (by decide)
  exact ⟨by rw [e0]; exact g1, by rw [e 1 (by decide), e10]; exact g2, by rw [e 2 (by decide)]; exact g3, by rw [e 3 (by decide)]; exact g4, by rw [e 4 (by decide)]; exact g5⟩
set_option maxHeartbeats 2000000 in
theorem zs_66 (hP : P = 3 ∨ P = 39) (hT : TXp K L n) (hDD : RDz K L P n s) (h1 : -1 ≤ a1.toInt ∧ a1.toInt ≤ 5000) : Zt 42 (wd P 66) 66 [.ref 82, .int a1] s (fun v s' => v = none ∧ HDq K L P n a1.toInt s s') := by
  refine Zt_bd (fun hB => ?_)
  have hz := BD_sz hP hB
  have hn := hT.1
  have l28 := hz 28 (by decide)
  have l30 := hz 30 (by decide)
  rw [(limR hP).2.2.2.1] at l28
  rw [(limR hP).2.2.2.2.1] at l30
  have esg : (s.1 (P + 28) 2 / 5).toInt = zsz s (P + 28) / 5 := i_div5 rfl l28.1
  have esl : (s.1 (P + 30) 2 / 5).toInt = zsz s (P + 30) / 5 := i_div5 rfl l30.1
  have ml : ∀ r ∈ [28, 30], r ∈ rwL := by decide
  have mo0 : ∀ {u u' : zS}, FZr P u u' → FZq [28, 30] P u u' := fun hh => FZq_mo (FZq_r hh) hP (fun r hr => absurd hr List.not_mem_nil) ml
  have mo30 : ∀ {u u' : zS}, FZq [30] P u u' → FZq [28, 30] P u u' := fun hh => FZq_mo hh hP (fun r hr => by rw [List.mem_singleton.mp hr]; decide) ml
  refine zc_66 (d := 33) hP ?_
  -- behind the VARS: a4 FORMALS, a5 VARS
  have tail : ∀ (a4 a5 : Int32) (t : zS), RDz K L P n t → FZq [28, 30] P s t → t.2 (P + 22) = s.2 (P + 22) → zsz t (P + 28) = zsz s (P + 28) → RS P t = h_3 K L (RS P s) → (0 ≤ a4.toInt ∧ a4.toInt ≤ 7) → (0 ≤ a5.toInt ∧ a5.toInt ≤ 7) → (∀ (s0 : zS) (k h : Nat) (Ls : List (Int × Int × Int × Int)), (h_3 K L (RS P s)).1 = 0 → DSt K L P s0 s k Ls → zsz s (P + 28) = 5 * (h : Int) → (h : Int) + 1 ≤ (RS P s).2 → DSt K L P s0 t k (Ls ++ (nmS 0 h (h_f K L (RS P s)) ++ nmS 3 h (h_v K L (RS P s)))) ∧ a4.toInt = ((h_f K L (RS P s)).length : Int) ∧ a5.toInt = ((h_v K L (RS P s)).length : Int)) → v_66_34 (fun j => Zt (33 + 8) (wd P j) j) P a1 (s.1 (P + 28) 2 / 5) (s.1 (P + 30) 2 / 5) a4 a5 t (fun v s' => v = none ∧ HDq K L P n a1.toInt s s') := by
    intro a4 a5 t t1 t2 t3 t4 t5 t6 t7 t8
    unfold v_66_34
    refine Zt_bd (fun hB2 => ?_)
    refine Zt.imp (Zt.mo (d := 9) (by omega) (zs_54k (d := 0) (a1 := -1) (a2 := 4) (a3 := t.1 82 3) (a4 := s.1 (P + 28) 2 / 5) hP (BD_sz hP hB2) t1 (by decide) (by decide) (by have := t1.2.2; omega) (by omega))) ?_
    rintro v1 s2 ⟨rfl, q1, q2, q3, q4, q5, q6, q7⟩
    refine ⟨rfl, ?_⟩
    refine Zt.imp (Zt.mo (d := 32) (by omega) (zs_67 hP hT 10 (by omega) 1 0 s2 (by decide) (by decide) q4)) ?_
    rintro v3 s4 ⟨rfl, w0⟩
    rw [decide_eq_false (show ¬ 6 ≤ (0 : Int32).toInt by decide)] at w0
    obtain ⟨⟨w1, w2, w3⟩, w4⟩ := w0
    refine ⟨rfl, ?_⟩
    refine Zt.imp (Zt.mo (d := 9) (by omega) (zs_55 (d := 0) (a1 := a1) (a2 := s.1 (P + 30) 2 / 5) (a3 := a4) (a4 := a5) hP w2 h1 (by omega) (by omega) (by omega))) ?_
    rintro v5 s6 ⟨rfl, c1, c2, c3, c4, c5, c6⟩
    have eF : RS P s6 = p_hd K L (RS P s) := by
      rw [c2, w1, q3, t5]
      rfl
    refine ⟨rfl, rfl, eF, c3, FZq_tr t2 (FZq_tr (mo30 q1) (FZq_tr (mo0 w3) (FZq_mo c1 hP (fun r hr => by rw [List.mem_singleton.mp hr]; decide) ml))), by rw [c5, w3.2 _ (by omega), q6, t3], fun s0 k h Ls hr hD h28 hh => ?_⟩
    have hr3 : (h_3 K L (RS P s)).1 = 0 := (pt_fw 10 _ _ hr).1
    obtain ⟨d1, d2, d3⟩ := t8 s0 k h Ls hr3 hD h28 hh
    have eh : (s.1 (P + 28) 2 / 5).toInt = (h : Int) := by rw [esg, h28]; omega
    have hptr : (p_t K L 10 false (RS P s2)).1 = 0 := by rw [q3, t5]; exact hr
    have D4 := DSt_sl (q0 := -1) (kd := 4) (sg := (h : Int)) d1 q1 q3 q5 (fun k' hk1 hk2 => by
      have := q7 k' hk1 hk2
      rw [eh] at this
      exact this) (by have := t1.2.2.2; have e : (RS P t).2 = (t.1 82 3).toInt := rfl; omega) ⟨⟨w1, w2, w3⟩, w4⟩ hptr hP
    have z28 : zsz s4 (P + 28) = 5 * (h : Int) := by
      rw [FZq_sz (FZq_r w3) List.not_mem_nil hP (by decide), FZq_sz q1 (by decide) hP (by decide), t4, h28]
    have hk40 : h + 1 ≤ 4000 := by
      have := hDD.2.2.2
      have e : (RS P s).2 = (s.1 82 3).toInt := rfl
      omega
    obtain ⟨y1, y2⟩ := c6 h z28 hk40
    have D6 : DSt K L P s0 s6 k (Ls ++ hSlt K L (h : Int) (RS P s)) := by
      have := DSt_ps D4 (u' := s6) (FZq_row c1 (by decide) (by decide) (by decide)) c4 (FZq_sz c1 (by decide) hP (by decide)) (by rw [c2]; exact Int.le_refl _)
      unfold hSlt
      rw [t5] at this
      rw [List.append_assoc] at this
      exact this
    refine ⟨D6, by rw [y1], ?_⟩
    have eb : (s.1 (P + 30) 2 / 5).toInt = (k : Int) + (Ls.length : Int) := by rw [esl, hD.1]; omega
    rw [eb, d2, d3] at y2
    exact y2
  -- behind the FORMALS
  have mid : ∀ (a4 : Int32) (t : zS), RDz K L P n t → FZq [28, 30] P s t → t.2 (P + 22) = s.2 (P + 22) → zsz t (P + 28) = zsz s (P + 28) → RS P t = h_1 K L (RS P s) → (0 ≤ a4.toInt ∧ a4.toInt ≤ 7) → (∀ (s0 : zS) (k h : Nat) (Ls : List (Int × Int × Int × Int)), (h_1 K L (RS P s)).1 = 0 → DSt K L P s0 s k Ls → zsz s (P + 28) = 5 * (h : Int) → DSt K L P s0 t k (Ls ++ nmS 0 h (h_f K L (RS P s))) ∧ a4.toInt = ((h_f K L (RS P s)).length : Int)) → v_66_19 (fun j => Zt (33 + 8) (wd P j) j) P a1 (s.1 (P + 28) 2 / 5) (s.1 (P + 30) 2 / 5) a4 t (fun v s' => v = none ∧ HDq K L P n a1.toInt s s') := by
    intro a4 t t1 t2 t3 t4 t5 t6 t8
    unfold v_66_19
    refine Zt.imp (Zt.mo (d := 9) (by omega) (zs_73 (d := 0) (a1 := 40) hP hT t1 (by decide))) ?_
    rintro v1 s2 ⟨rfl, ⟨p1, p2, p3⟩, p4⟩
    rw [show (40 : Int32).toInt = 40 by decide, t5] at p1
    refine ⟨rfl, ?_⟩
    refine Zt.imp (Zt.mo (d := 9) (by omega) (zs_72 (d := 0) (a1 := 41) hP hT p2 (by decide))) ?_
    rintro v3 s4 ⟨x5, rfl, hr, r4⟩
    rw [show (41 : Int32).toInt = 41 by decide] at hr
    have p1' : RS P s2 = h_2 K L (RS P s) := p1
    have go2 : ∀ (s0 : zS) (k h : Nat) (Ls : List (Int × Int × Int × Int)), (h_2 K L (RS P s)).1 = 0 → DSt K L P s0 s k Ls → zsz s (P + 28) = 5 * (h : Int) → DSt K L P s0 s2 k (Ls ++ nmS 0 h (h_f K L (RS P s))) ∧ a4.toInt = ((h_f K L (RS P s)).length : Int) := by
      intro s0 k h Ls hf hD h28
      have h1f : (h_1 K L (RS P s)).1 = 0 := (ek_0 hf).1
      obtain ⟨d1, d2⟩ := t8 s0 k h Ls h1f hD h28
      refine ⟨DSt_ps d1 (by rw [p4]) (by rw [p4]) (FZq_sz (FZq_r p3) List.not_mem_nil hP (by decide)) ?_, d2⟩
      rw [p1', t5]
      unfold h_2
      rw [(ek_0 hf).2.2]
      dsimp only
      omega
    refine ⟨x5, rfl, fun w => ?_, fun w => ?_⟩
    · rcases hr with ⟨y1, -⟩ | ⟨-, y2, y3, y4, y5⟩
      · omega
      have y3' : RS P s4 = h_2 K L (RS P s) := y3.trans p1'
      have hno : ¬ t_k K 41 (h_2 K L (RS P s)) = true := by rw [← p1', y2]; decide
      have e3 : h_3 K L (RS P s) = p_nm K L 41 (h_2 K L (RS P s)) := if_neg hno
      have ev : h_v K L (RS P s) = l_nm K L (h_2 K L (RS P s)) := if_neg hno
      refine Zt_bd (fun hB2 => ?_)
      refine Zt.imp (Zt.mo (d := 40) (by omega) (zs_65 (a1 := 41) (a2 := 3) (a3 := s.1 (P + 28) 2 / 5) hP hT y4 (BD_sz hP hB2) (Or.inr (by decide)) (by decide) (by omega))) ?_
      rintro v6 s7 ⟨x8, rfl, hN⟩
      rw [show (41 : Int32).toInt = 41 by decide, show (3 : Int32).toInt = 3 by decide] at hN
      refine ⟨x8, rfl, tail a4 x8 s7 hN.2.1 (FZq_tr t2 (FZq_tr (mo0 p3) (FZq_tr (mo0 y5) (mo30 hN.2.2.1)))) ?_ ?_ ?_ t6 (by have := hN.2.2.2.2.1; omega) (fun s0 k h Ls hf hD h28 hh => ?_)⟩
      · rw [hN.2.2.2.2.2.1, r4, p4, t3]
      · rw [FZq_sz hN.2.2.1 (by decide) hP (by decide), FZq_sz (FZq_r y5) List.not_mem_nil hP (by decide), FZq_sz (FZq_r p3) List.not_mem_nil hP (by decide), t4]
      · rw [hN.1, y3', e3]
      · rw [e3] at hf
        have h2f := (pnm_fw hf).1
        obtain ⟨d1, d2⟩ := go2 s0 k h Ls h2f hD h28
        have eh : (s.1 (P + 28) 2 / 5).toInt = (h : Int) := by rw [esg, h28]; omega
        have d4 := DSt_ps d1 (u' := s4) (by rw [r4]) (by rw [r4]) (FZq_sz (FZq_r y5) List.not_mem_nil hP (by decide)) (by rw [y3]; exact Int.le_refl _)
        obtain ⟨m1, m2, m3⟩ := DSt_nm d4 hN (by rw [y3']; exact hf)
        rw [y3', eh] at m1
        rw [y3'] at m2
        rw [ev]
        refine ⟨?_, d2, m2⟩
        rw [List.append_assoc] at m1
        exact m1
    · rcases hr with ⟨-, y2, y3, y4, y5⟩ | ⟨y1, -⟩
      · have hyes : t_k K 41 (h_2 K L (RS P s)) = true := by rw [← p1']; exact y2
        have e3 : h_3 K L (RS P s) = a_d (h_2 K L (RS P s)) := if_pos hyes
        have ev : h_v K L (RS P s) = [] := if_pos hyes
        refine tail a4 0 s4 y4 (FZq_tr t2 (FZq_tr (mo0 p3) (mo0 y5))) (by rw [r4, p4, t3]) ?_ (by rw [y3, p1', e3]) t6 (by rw [i0]; decide) (fun s0 k h Ls hf hD h28 hh => ?_)
        · rw [FZq_sz (FZq_r y5) List.not_mem_nil hP (by decide), FZq_sz (FZq_r p3) List.not_mem_nil hP (by decide), t4]
        · obtain ⟨d1, d2⟩ := go2 s0 k h Ls (tk_t hyes).1 hD h28
          rw [ev]
          refine ⟨?_, d2, by rw [i0]; rfl⟩
          rw [show nmS 3 (h : Int) [] = [] from rfl, List.append_nil]
          refine DSt_ps d1 (u' := s4) (by rw [r4]) (by rw [r4]) (FZq_sz (FZq_r y5) List.not_mem_nil hP (by decide)) ?_
          rw [y3]
          unfold a_d
          dsimp only
          omega
      · omega
  unfold v_66_0
  refine Zt.imp (Zt.mo (d := 9) (by omega) (zs_72 (d := 0) (a1 := 91) hP hT hDD (by decide))) ?_
  rintro v1 s2 ⟨x3, rfl, hr, r4⟩
  rw [show (91 : Int32).toInt = 91 by decide] at hr
  refine ⟨x3, rfl, fun w => ?_, fun w => ?_⟩
  · rcases hr with ⟨y1, -⟩ | ⟨-, y2, y3, y4, y5⟩
    · omega
    have hno : ¬ t_k K 91 (RS P s) = true := by rw [y2]; decide
    refine mid 0 s2 y4 (mo0 y5) (by rw [r4]) (FZq_sz (FZq_r y5) List.not_mem_nil hP (by decide)) (by rw [y3]; exact (if_neg hno).symm) (by rw [i0]; decide) (fun s0 k h Ls hf hD h28 => ?_)
    have ef : h_f K L (RS P s) = [] := if_neg hno
    rw [ef, show nmS 0 (h : Int) [] = [] from rfl, List.append_nil]
    exact ⟨DSt_ps hD (by rw [r4]) (by rw [r4]) (FZq_sz (FZq_r y5) List.not_mem_nil hP (by decide)) (by rw [y3]; exact Int.le_refl _), by rw [i0]; rfl⟩
  · rcases hr with ⟨-, y2, y3, y4, y5⟩ | ⟨y1, -⟩
    · have e1 : h_1 K L (RS P s) = p_nm K L 93 (a_d (RS P s)) := if_pos y2
      have ef : h_f K L (RS P s) = l_nm K L (a_d (RS P s)) := if_pos y2
      refine Zt_bd (fun hB2 => ?_)
      refine Zt.imp (Zt.mo (d := 40) (by omega) (zs_65 (a1 := 93) (a2 := 0) (a3 := s.1 (P + 28) 2 / 5) hP hT y4 (BD_sz hP hB2) (Or.inl (by decide)) (by decide) (by omega))) ?_
      rintro v6 s7 ⟨x8, rfl, hN⟩
      rw [show (93 : Int32).toInt = 93 by decide, show (0 : Int32).toInt = 0 by decide] at hN
      refine ⟨x8, rfl, mid x8 s7 hN.2.1 (FZq_tr (mo0 y5) (mo30 hN.2.2.1)) ?_ ?_ ?_ (by have := hN.2.2.2.2.1; omega) (fun s0 k h Ls hf hD h28 => ?_)⟩
      · rw [hN.2.2.2.2.2.1, r4]
      · rw [FZq_sz hN.2.2.1 (by decide) hP (by decide), FZq_sz (FZq_r y5) List.not_mem_nil hP (by decide)]
      · rw [hN.1, y3, e1]
      · rw [e1] at hf
        have eh : (s.1 (P + 28) 2 / 5).toInt = (h : Int) := by rw [esg, h28]; omega
        have d4 := DSt_ps hD (u' := s2) (by rw [r4]) (by rw [r4]) (FZq_sz (FZq_r y5) List.not_mem_nil hP (by decide)) (by rw [y3]; unfold a_d; dsimp only; omega)
        obtain ⟨m1, m2, m3⟩ := DSt_nm d4 hN (by rw [y3]; exact hf)
        rw [y3, eh] at m1
        rw [y3] at m2
        rw [ef]
        exact ⟨m1, m2⟩
    · omega
end ZQA
