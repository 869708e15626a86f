/-! ===== readFunc ===== -/
def fPa (K L : Int → Int) (b : Bool) (σ : RSt) : List Int := if t_k K 91 (f_3 K L b σ) = true then p_ls K (e_f K L) 7 (a_d (f_3 K L b σ)) else []
/-- a func's slots -/
def fSlt (K L : Int → Int) (h : Int) (b : Bool) (σ : RSt) : List (Int × Int × Int × Int) := ((f_1 K L b σ).2, 3, -1, h) :: (prS h (fPa K L b σ) ++ hSlt K L h (f_6 K L b σ))
section ZQE
variable {d P k : Nat} {s s' s'' u u' u'' : zS} {K L : Int → Int} {n lo hi t c kd sg : Int} {a1 a2 a3 a4 a5 a6 x r : Int32} {R R' : List Nat} {σ : RSt} {Ls : List (Int × Int × Int × Int)} {b : Bool}
theorem DSt_lo (h : DSt K L P s u k Ls) (h30 : u'.2 (P + 30) = u.2 (P + 30)) (h12 : LO P (RS P u).2 (RS P u').2 u u') (hz : zsz u' (P + 30) = zsz u (P + 30)) (hr : (RS P u).2 ≤ (RS P u').2) : DSt K L P s u' k Ls := by
  obtain ⟨c1, c2, c3, c4, c5, c6⟩ := h
  refine ⟨by rw [hz]; exact c1, SLat_eq c2 (fun i _ => by rw [h30]), by omega, LO_tr (LO_mo c4 (Int.le_refl _) hr) (LO_mo h12 c3 (Int.le_refl _)), by omega, fun q hq h0 => ?_⟩
  exact GTt_mo (GTt_out (c6 q hq h0) h12 (Int.le_refl _)) (Int.le_refl _) hr
theorem BD_28 (hP : P = 3 ∨ P = 39) (h : BDz s) (i : Int) : -1 ≤ KI (s.2 (P + 28)) i ∧ KI (s.2 (P + 28)) i ≤ 5000 := by
  have e : ∀ i, -1 ≤ (s.2 (P + 28) i).toInt ∧ (s.2 (P + 28) i).toInt ≤ 5000 := fun i => by
    rcases hP with rfl | rfl
    · have := h.1 31 (by decide +kernel) i
      rw [show ckR 31 = (-1, 5000) by decide +kernel] at this
      exact this
    · have := h.1 67 (by decide +kernel) i
      rw [show ckR 67 = (-1, 5000) by decide +kernel] at this
      exact this
  unfold KI
  split
  · exact e _
  · omega
/-- addFunc -/
theorem zs_57 (hP : P = 3 ∨ P = 39) (hD : RDz K L P n s) (h1 : -1 ≤ a1.toInt ∧ a1.toInt ≤ 5000) (h2 : -1 ≤ a2.toInt ∧ a2.toInt ≤ 5000) (h3 : -1 ≤ a3.toInt ∧ a3.toInt ≤ 4000) (h4 : -1 ≤ a4.toInt ∧ a4.toInt ≤ 5000) (h5 : 0 ≤ a5.toInt ∧ a5.toInt ≤ 5000) (h6 : -1 ≤ a6.toInt ∧ a6.toInt ≤ 5000) : Zt (d + 10) (wd P 57) 57 [.ref P, .int a1, .int a2, .int a3, .int a4, .int a5, .int a6] s (fun v s' => v = none ∧ FZq [26, 32] P s s' ∧ RS P s' = RS P s ∧ RDz K L P n s' ∧ s'.2 (P + 12) = s.2 (P + 12) ∧ s'.2 (P + 22) = s.2 (P + 22) ∧ ∀ F D : Nat, zsz s (P + 26) = 10 * (F : Int) → zsz s (P + 32) = 3 * (D : Int) → F + 1 ≤ 60 → D + 1 ≤ 84 → zsz s' (P + 26) = 10 * ((F : Int) + 1) ∧ zsz s' (P + 32) = 3 * ((D : Int) + 1) ∧ FNat s' P F a1.toInt a2.toInt (-1) (a3.toInt + 1) a4.toInt a5.toInt a6.toInt (-1) (-1) ∧ DCat s' P D (-1 - (F : Int)) a3.toInt (zsz s (P + 30) / 5)) := by
  refine Zt_bd (fun hB => ?_)
  have g := BD_sz hP hB
  have l26 := g 26 (by decide)
  rw [(limR hP).2.2.1] at l26
  refine zc_57 (d := d + 1) hP ?_
  unfold v_57_0
  have ef : (s.1 (P + 26) 2 / 10).toInt = zsz s (P + 26) / 10 := i_div10 rfl l26.1
  have ml : ∀ r ∈ [26, 32], r ∈ rwL := by decide
  intro x1 hx1
  have e1 := hx1 (by omega)
  refine Zt.imp (Zt.mo (d := 9) (by omega) (zs_58 (d := 0) (a1 := x1) (a2 := a3) hP hD (by omega) (by omega))) ?_
  rintro v2 s3 ⟨rfl, q1, g3, q2, q3, q4, q5, q6⟩
  refine ⟨rfl, by omega, fun s4 hs4 => ⟨by omega, fun s5 hs5 s6 hs6 x7 hx7 => ?_⟩⟩
  have e7 := hx7 (by omega)
  have hw : ∀ u : zS, u.2 (P + 28) = s.2 (P + 28) → (zg u (P + 28) (a5 * 5 + 1)).toInt = KI (s.2 (P + 28)) (5 * a5.toInt + 1) := fun u hu => by
    have em : (a5 * 5).toInt = a5.toInt * 5 := i_mul rfl (show (5 : Int32).toInt = 5 by decide) (by omega)
    have ea : (a5 * 5 + 1).toInt = 5 * a5.toInt + 1 := by
      rw [i_add em i1 (by omega)]
      omega
    rw [zg_K, hu, ea]
  have hb28 := BD_28 hP hB (5 * a5.toInt + 1)
  refine ⟨by omega, fun s8 hs8 => ⟨by omega, fun s9 hs9 => ⟨by omega, fun s10 hs10 => ?_⟩⟩⟩
  have e10 : s10 = zaL (P + 26) [a1, a2, -1, x7, a4, a5] s3 := by
    rw [hs10, hs9, hs8, hs6, hs5, hs4]
    rfl
  have r28 : s10.2 (P + 28) = s.2 (P + 28) := by
    have := (zaL_q (vs := [a1, a2, -1, x7, a4, a5]) hP (show 26 ∈ rwL by decide) g3).1
    rw [← e10] at this
    rw [FZq_row this (by decide) (by decide) (by decide), FZq_row q1 (by decide) (by decide) (by decide)]
  have hw10 := hw s10 r28
  refine ⟨by rw [hw10]; exact hb28, fun s12 hs12 => ⟨by omega, fun s13 hs13 s14 hs14 s15 hs15 => ?_⟩⟩
  have e15 : s15 = zaL (P + 26) [a1, a2, -1, x7, a4, a5, zg s10 (P + 28) (a5 * 5 + 1), a6, -1, -1] s3 := by
    rw [hs15, hs14, hs13, hs12, hs10, hs9, hs8, hs6, hs5, hs4]
    rfl
  obtain ⟨c1, c2, c3, c4, c5, c6, c7⟩ := zaL_q (vs := [a1, a2, -1, x7, a4, a5, zg s10 (P + 28) (a5 * 5 + 1), a6, -1, -1]) hP (show 26 ∈ rwL by decide) g3
  rw [← e15] at c1 c2 c3 c4 c5 c6 c7
  clear e15 hs15 hs14 hs13 hs12 e10 hs10 hs9 hs8 hs6 hs5 hs4
  have F9 : FZq [26, 32] P s s15 := FZq_tr (FZq_mo q1 hP (fun r hr => by rw [List.mem_singleton.mp hr]; decide) ml) (FZq_mo c1 hP (fun r hr => by rw [List.mem_singleton.mp hr]; decide) ml)
  refine ⟨rfl, F9, by rw [c3, q2], FZq_RDz c1 (fun r hr => by rw [List.mem_singleton.mp hr]; decide) hP q3 c4, by rw [c5, q4], by rw [c6, q5], fun F D hF hD hF2 hD2 => ?_⟩
  have z26 : zsz s3 (P + 26) = 10 * (F : Int) := by rw [FZq_sz q1 (by decide) hP (by decide), hF]
  obtain ⟨y1, y2⟩ := q6 D hD hD2
  obtain ⟨x1', x2⟩ := c7 (by rw [(limR hP).2.2.1, z26]; simp only [List.length_cons, List.length_nil]; omega)
  have ez : (zsz s3 (P + 26)).toNat = 10 * F := by omega
  rw [ez] at x2
  have er28 : s15.2 (P + 28) = s.2 (P + 28) := by rw [FZq_row F9 (by decide) (by decide) (by decide)]
  refine ⟨by rw [x1', z26]; simp only [List.length_cons, List.length_nil]; omega, by rw [FZq_sz c1 (by decide) hP (by decide), y1], ⟨congrArg Int32.toInt (x2 0 a1 rfl), by rw [x2 1 a2 rfl], by rw [x2 2 (-1) rfl]; decide, by rw [x2 3 x7 rfl, e7], by rw [x2 4 a4 rfl], by rw [x2 5 a5 rfl], ?_, by rw [x2 7 a6 rfl], by rw [x2 8 (-1) rfl]; decide, by rw [x2 9 (-1) rfl]; decide⟩, ?_⟩
  · rw [x2 6 _ rfl, hw10, er28, KI_p (by omega), show (5 * a5.toInt + 1).toNat = 5 * a5.toInt.toNat + 1 by omega]
  · have er : s15.2 (P + 32) = s3.2 (P + 32) := FZq_row c1 (by decide) (by decide) (by decide)
    rw [show x1.toInt = -1 - (F : Int) by rw [e1, ef, hF]; omega] at y2
    unfold DCat at y2 ⊢
    rw [er]
    exact y2
/-- what readFunc does -/
def FNq (K L : Int → Int) (P : Nat) (n : Int) (b : Bool) (s s' : zS) : Prop := RS P s' = p_fn K L b (RS P s) ∧ RDz K L P n s' ∧ FZq [26, 28, 30, 32] P s s' ∧ s'.2 (P + 22) = s.2 (P + 22) ∧ ∀ k h F D : Nat, (p_fn K L b (RS P s)).1 = 0 → zsz s (P + 30) = 5 * (k : Int) → zsz s (P + 28) = 5 * (h : Int) → zsz s (P + 26) = 10 * (F : Int) → zsz s (P + 32) = 3 * (D : Int) → (k : Int) ≤ (RS P s).2 → (h : Int) ≤ (RS P s).2 → F + 1 ≤ 60 → D + 1 ≤ 84 → DSt K L P s s' k (fSlt K L h b (RS P s)) ∧ zsz s' (P + 28) = 5 * ((h : Int) + 1) ∧ (h : Int) + 1 ≤ (RS P s').2 ∧ SGat s' P h (f_5 K L b (RS P s)).2 ((k : Int) + 1 + ((fPa K L b (RS P s)).length : Int)) ((h_f K L (f_6 K L b (RS P s))).length : Int) ((h_v K L (f_6 K L b (RS P s))).length : Int) ∧ zsz s' (P + 26) = 10 * ((F : Int) + 1) ∧ zsz s' (P + 32) = 3 * ((D : Int) + 1) ∧ FNat s' P F (f_2 K L b (RS P s)).2 (f_1 K L b (RS P s)).2 (-1) ((k : Int) + 1) ((fPa K L b (RS P s)).length : Int) h (f_7 K L b (RS P s)).2 (-1) (-1) ∧ DCat s' P D (-1 - (F : Int)) k ((k : Int) + ((fSlt K L h b (RS P s)).length : Int)) ∧ LAz K L P (f_7 K L b (RS P s)).2 (p_e K L 10 false (f_7 K L b (RS P s))).2 s'
theorem prS_len {l : List Int} : (prS sg l).length = l.length := by
  unfold prS
  rw [List.length_map]
theorem f1_0 (h : (f_1 K L b σ).1 = 0) : σ.1 = 0 ∧ b = false ∧ f_1 K L b σ = (0, σ.2 + 2) := by
  unfold f_1 at h ⊢
  obtain ⟨e1, e2, e3⟩ := ek_0 h
  obtain ⟨f1, f2, f3⟩ := ek_0 e1
  unfold f_0 at f1 f2 f3 e3 ⊢
  by_cases hc : σ.1 = 0 ∧ b = true
  · rw [if_pos hc] at f1
    dsimp only at f1
    omega
  · rw [if_neg hc] at f1 f2 f3 e3 ⊢
    refine ⟨f1, ?_, ?_⟩
    · cases b with
      | false => rfl
      | true => exact absurd ⟨f1, rfl⟩ hc
    · rw [e3, f3, show σ.2 + 1 + 1 = σ.2 + 2 by omega]
set_option maxHeartbeats 4000000 in
theorem zs_63 (hP : P = 3 ∨ P = 39) (hT : TXp K L n) (hD : RDz K L P n s) : Zt 60 (wd P 63) 63 [.ref 82] s (fun v s' => v = none ∧ FNq K L P n (decide (60 ≤ zsz s (P + 26) / 10)) s s') := by
  refine Zt_bd (fun hB => ?_)
  have hz := BD_sz hP hB
  have hn := hT.1
  have l26 := hz 26 (by decide)
  have l28 := hz 28 (by decide)
  have l30 := hz 30 (by decide)
  rw [(limR hP).2.2.1] at l26
  rw [(limR hP).2.2.2.1] at l28
  rw [(limR hP).2.2.2.2.1] at l30
  have ef : (s.1 (P + 26) 2 / 10).toInt = zsz s (P + 26) / 10 := i_div10 rfl l26.1
  have ml : ∀ r ∈ [26, 28, 30, 32], r ∈ rwL := by decide
  have mo0 : ∀ {u u' : zS}, FZr P u u' → FZq [26, 28, 30, 32] P u u' := fun hh => FZq_mo (FZq_r hh) hP (fun r hr => absurd hr List.not_mem_nil) ml
  have moR : ∀ {R : List Nat} {u u' : zS}, (∀ r ∈ R, r ∈ [26, 28, 30, 32]) → FZq R P u u' → FZq [26, 28, 30, 32] P u u' := fun hs hh => FZq_mo hh hP hs ml
  have sz0 : ∀ {u u' : zS} {r : Nat}, FZr P u u' → r ∈ rwL → zsz u' (P + r) = zsz u (P + r) := fun hh hr => FZq_sz (FZq_r hh) List.not_mem_nil hP hr
  generalize hb : decide (60 ≤ zsz s (P + 26) / 10) = b
  refine zc_63 (d := 51) hP ?_
  -- from behind the PARAMS on: t stands there
  have tail : ∀ (a1 a2 a3 a4 a5 : Int32) (t : zS), RDz K L P n t → FZq [26, 28, 30, 32] P s t → t.2 (P + 22) = s.2 (P + 22) → RS P t = f_4 K L b (RS P s) → zsz t (P + 28) = zsz s (P + 28) → zsz t (P + 26) = zsz s (P + 26) → zsz t (P + 32) = zsz s (P + 32) → (a1.toInt = zsz s (P + 30) / 5) → (a2.toInt = zsz s (P + 28) / 5) → (-1 ≤ a3.toInt ∧ a3.toInt ≤ 5000 ∧ ((RS P t).1 = 0 → a3.toInt = (f_1 K L b (RS P s)).2)) → (-1 ≤ a4.toInt ∧ a4.toInt ≤ 5000 ∧ ((RS P t).1 = 0 → a4.toInt = (f_2 K L b (RS P s)).2)) → (0 ≤ a5.toInt ∧ a5.toInt ≤ 7) → (∀ k h : Nat, (RS P t).1 = 0 → zsz s (P + 30) = 5 * (k : Int) → zsz s (P + 28) = 5 * (h : Int) → (k : Int) ≤ (RS P s).2 → DSt K L P s t k (((f_1 K L b (RS P s)).2, 3, -1, (h : Int)) :: prS h (fPa K L b (RS P s))) ∧ a5.toInt = ((fPa K L b (RS P s)).length : Int) ∧ (RS P s).2 ≤ (RS P t).2) → v_63_53 (fun j => Zt (51 + 8) (wd P j) j) P a1 a2 a3 a4 a5 t (fun v s' => v = none ∧ FNq K L P n b s s') := by
    intro a1 a2 a3 a4 a5 t t1 t2 t3 t4 t5 t6 t7 t8 t9 t10 t11 t12 t13
    unfold v_63_53
    refine Zt.imp (Zt.mo (d := 9) (by omega) (zs_73 (d := 0) (a1 := 41) hP hT t1 (by decide))) ?_
    rintro v1 s2 ⟨rfl, ⟨p1, p2, p3⟩, p4⟩
    rw [show (41 : Int32).toInt = 41 by decide, t4] at p1
    have p1' : RS P s2 = f_5 K L b (RS P s) := p1
    refine ⟨rfl, ?_⟩
    refine Zt.imp (Zt.mo (d := 9) (by omega) (zs_73 (d := 0) (a1 := 1) hP hT p2 (by decide))) ?_
    rintro v3 s4 ⟨rfl, ⟨q1, q2, q3⟩, q4⟩
    rw [show (1 : Int32).toInt = 1 by decide, p1'] at q1
    have q1' : RS P s4 = f_6 K L b (RS P s) := q1
    refine ⟨rfl, ?_⟩
    refine Zt.imp (Zt.mo (d := 42) (by omega) (zs_66 (a1 := s2.1 82 3) hP hT q2 (by have := p2.2.2; omega))) ?_
    rintro v5 s6 ⟨rfl, w1, w2, w3, w4, w5⟩
    refine ⟨rfl, ?_⟩
    refine Zt.imp (Zt.mo (d := 9) (by omega) (zs_73 (d := 0) (a1 := 123) hP hT w2 (by decide))) ?_
    rintro v7 s8 ⟨rfl, ⟨c1, c2, c3⟩, c4⟩
    rw [show (123 : Int32).toInt = 123 by decide, w1, q1'] at c1
    refine ⟨rfl, ?_⟩
    refine Zt.imp (Zt.mo (d := 9) (by omega) (zs_73 (d := 0) (a1 := 7) hP hT c2 (by decide))) ?_
    rintro v9 s10 ⟨rfl, ⟨d1, d2, d3⟩, d4⟩
    rw [show (7 : Int32).toInt = 7 by decide, c1] at d1
    have d1' : RS P s10 = f_7 K L b (RS P s) := d1
    refine ⟨rfl, ?_⟩
    refine Zt.imp (Zt.mo (d := 44) (by omega) (zs_69 hP hT 10 (by omega) 1 0 s10 (by decide) (by decide) d2)) ?_
    rintro v11 s12 ⟨rfl, ⟨e1, e2, e3⟩, e4⟩
    rw [decide_eq_false (show ¬ 6 ≤ (0 : Int32).toInt by decide), d1'] at e1 e4
    refine ⟨rfl, ?_⟩
    refine Zt.imp (Zt.mo (d := 9) (by omega) (zs_73 (d := 0) (a1 := 125) hP hT e2 (by decide))) ?_
    rintro v13 s14 ⟨rfl, ⟨m1, m2, m3⟩, m4⟩
    rw [show (125 : Int32).toInt = 125 by decide, e1] at m1
    have m1' : RS P s14 = p_fn K L b (RS P s) := m1
    refine ⟨rfl, ?_⟩
    refine Zt.imp (Zt.mo (d := 10) (by omega) (zs_57 (d := 0) (a1 := a4) (a2 := a3) (a3 := a1) (a4 := a5) (a5 := a2) (a6 := s10.1 82 3) hP m2 (by omega) (by omega) (by omega) (by omega) (by omega) (by have := d2.2.2; omega))) ?_
    rintro v15 s16 ⟨rfl, x1, x2, x3, x4, x5, x6⟩
    refine ⟨rfl, rfl, by rw [x2, m1'], x3, FZq_tr t2 (FZq_tr (mo0 p3) (FZq_tr (mo0 q3) (FZq_tr (moR (by decide) w3) (FZq_tr (mo0 c3) (FZq_tr (mo0 d3) (FZq_tr (mo0 e3) (FZq_tr (mo0 m3) (moR (by decide) x1)))))))), ?_, fun k h F Dn hr hk hh hF hDn hk2 hh2 hF2 hD2 => ?_⟩
    · rw [x5, m4, e3.2 _ (by omega), d4, c4, w4, q4, p4, t3]
    -- without a fault
    obtain ⟨r1, r2, r3⟩ := ek_0 (show (e_k K L 125 (p_e K L 10 false (f_7 K L b (RS P s)))).1 = 0 from hr)
    have r4 := pe_fw 10 _ _ r1
    obtain ⟨r5, r6, r7⟩ := ek_0 (show (e_k K L 7 (e_k K L 123 (p_hd K L (f_6 K L b (RS P s))))).1 = 0 from r4.1)
    obtain ⟨r8, r9, r10⟩ := ek_0 r5
    have r11 := hd_fw r8
    obtain ⟨r12, r13, r14⟩ := ek_0 (show (e_k K L 1 (f_5 K L b (RS P s))).1 = 0 from r11.1)
    obtain ⟨r15, r16, r17⟩ := ek_0 (show (e_k K L 41 (f_4 K L b (RS P s))).1 = 0 from r12)
    have ht0 : (RS P t).1 = 0 := by rw [t4]; exact r15
    obtain ⟨g1, g2, g3⟩ := t13 k h ht0 hk hh hk2
    have R2 : (RS P s2).2 = (RS P t).2 + 1 := by rw [p1', t4]; show (e_k K L 41 (f_4 K L b (RS P s))).2 = _; rw [r17]
    have R4 : (RS P s4).2 = (RS P s2).2 + 1 := by rw [q1', p1']; show (e_k K L 1 (f_5 K L b (RS P s))).2 = _; rw [r14]
    have R8 : (RS P s8).2 = (RS P s6).2 + 1 := by rw [c1, r10, w1, q1']
    have R10 : (RS P s10).2 = (RS P s8).2 + 1 := by rw [d1, c1, r7]
    have D4 := DSt_ps (DSt_ps g1 (u' := s2) (by rw [p4]) (by rw [p4]) (sz0 p3 (by decide)) (by omega)) (u' := s4) (by rw [q4]) (by rw [q4]) (sz0 q3 (by decide)) (by omega)
    have z28 : zsz s4 (P + 28) = 5 * (h : Int) := by rw [sz0 q3 (by decide), sz0 p3 (by decide), t5, hh]
    obtain ⟨y1, y2, y3⟩ := w5 s k h _ (by rw [q1']; exact r8) D4 z28 (by omega)
    rw [q1'] at y1 y3
    have hR6 : (RS P s4).2 + 2 < (RS P s6).2 := by
      rw [w1, q1']
      exact r11.2
    obtain ⟨v1, v2⟩ := e4 r1
    rw [← e1] at v1 v2
    rw [← d1'] at v2
    have hR12 : (RS P s10).2 < (RS P s12).2 := by
      rw [e1, d1']
      exact r4.2
    have R14 : (RS P s14).2 = (RS P s12).2 + 1 := by rw [m1, r3, e1]
    have D10 := DSt_ps (DSt_ps y1 (u' := s8) (by rw [c4]) (by rw [c4]) (sz0 c3 (by decide)) (by omega)) (u' := s10) (by rw [d4]) (by rw [d4]) (sz0 d3 (by decide)) (by omega)
    have D12 := DSt_lo D10 (u' := s12) (e3.2 _ (by omega)) v2 (sz0 e3 (by decide)) (by omega)
    have D14 := DSt_ps D12 (u' := s14) (by rw [m4]) (by rw [m4]) (sz0 m3 (by decide)) (by omega)
    have D16 := DSt_ps D14 (u' := s16) (FZq_row x1 (by decide) (by decide) (by decide)) x4 (FZq_sz x1 (by decide) hP (by decide)) (by rw [x2]; exact Int.le_refl _)
    have z26 : zsz s14 (P + 26) = 10 * (F : Int) := by rw [sz0 m3 (by decide), sz0 e3 (by decide), sz0 d3 (by decide), sz0 c3 (by decide), FZq_sz w3 (by decide) hP (by decide), sz0 q3 (by decide), sz0 p3 (by decide), t6, hF]
    have z32 : zsz s14 (P + 32) = 3 * (Dn : Int) := by rw [sz0 m3 (by decide), sz0 e3 (by decide), sz0 d3 (by decide), sz0 c3 (by decide), FZq_sz w3 (by decide) hP (by decide), sz0 q3 (by decide), sz0 p3 (by decide), t7, hDn]
    have z28' : zsz s14 (P + 28) = 5 * ((h : Int) + 1) := by rw [sz0 m3 (by decide), sz0 e3 (by decide), sz0 d3 (by decide), sz0 c3 (by decide), y2]
    obtain ⟨o1, o2, o3, o4⟩ := x6 F Dn z26 z32 hF2 hD2
    have esl : (((f_1 K L b (RS P s)).2, 3, -1, (h : Int)) :: prS h (fPa K L b (RS P s))) ++ hSlt K L h (f_6 K L b (RS P s)) = fSlt K L h b (RS P s) := rfl
    rw [esl] at D16 D14
    have ek : a1.toInt = (k : Int) := by rw [t8, hk]; omega
    have eh : a2.toInt = (h : Int) := by rw [t9, hh]; omega
    have G14 : SGat s14 P h (s2.1 82 3).toInt ((k : Int) + ((((f_1 K L b (RS P s)).2, 3, -1, (h : Int)) :: prS h (fPa K L b (RS P s))).length : Int)) ((h_f K L (f_6 K L b (RS P s))).length : Int) ((h_v K L (f_6 K L b (RS P s))).length : Int) := by
      have hR0 : ∀ r ∈ ([] : List Nat), r ∈ rwL := fun r hr => absurd hr List.not_mem_nil
      exact SGat_q (SGat_q (SGat_q (SGat_q y3 (FZq_r c3) hR0 (by rw [y2]; exact Int.le_refl _)) (FZq_r d3) hR0 (by rw [sz0 c3 (by decide), y2]; exact Int.le_refl _)) (FZq_r e3) hR0 (by rw [sz0 d3 (by decide), sz0 c3 (by decide), y2]; exact Int.le_refl _)) (FZq_r m3) hR0 (by rw [sz0 e3 (by decide), sz0 d3 (by decide), sz0 c3 (by decide), y2]; exact Int.le_refl _)
    have G16 := SGat_q G14 x1 (by decide) (by rw [z28']; exact Int.le_refl _)
    refine ⟨D16, by rw [FZq_sz x1 (by decide) hP (by decide), z28'], ?_, ?_, o1, o2, ?_, ?_, ?_⟩
    · rw [x2]
      omega
    · have eq : (s2.1 82 3).toInt = (f_5 K L b (RS P s)).2 := congrArg Prod.snd p1'
      rw [eq, List.length_cons, prS_len] at G16
      rw [show (k : Int) + 1 + ((fPa K L b (RS P s)).length : Int) = (k : Int) + (((fPa K L b (RS P s)).length + 1 : Nat) : Int) by omega]
      exact G16
    · have e10 : (s10.1 82 3).toInt = (f_7 K L b (RS P s)).2 := congrArg Prod.snd d1'
      rw [t11.2.2 ht0, t10.2.2 ht0, ek, g2, eh, e10] at o3
      exact o3
    · have e30 : zsz s14 (P + 30) / 5 = (k : Int) + ((fSlt K L h b (RS P s)).length : Int) := by
        rw [D14.1]
        omega
      rw [ek, e30] at o4
      exact o4
    · rw [← e1]
      refine fun q j1 j2 => ?_
      have := v1 q j1 j2
      rw [x4, m4]
      exact this
  -- from 'func' on: s0 stands there
  have beg : ∀ s0 : zS, RDz K L P n s0 → FZr P s s0 → s0.2 = s.2 → RS P s0 = f_0 L b (RS P s) → v_63_11 (fun j => Zt (51 + 8) (wd P j) j) P s0 (fun v s' => v = none ∧ FNq K L P n b s s') := by
    intro s0 t1 t2 t3 t4
    unfold v_63_11
    refine Zt.imp (Zt.mo (d := 9) (by omega) (zs_73 (d := 0) (a1 := 6) hP hT t1 (by decide))) ?_
    rintro v1 s2 ⟨rfl, ⟨p1, p2, p3⟩, p4⟩
    rw [show (6 : Int32).toInt = 6 by decide, t4] at p1
    refine ⟨rfl, ?_⟩
    refine Zt.imp (Zt.mo (d := 9) (by omega) (zs_73 (d := 0) (a1 := 40) hP hT p2 (by decide))) ?_
    rintro v3 s4 ⟨rfl, ⟨q1, q2, q3⟩, q4⟩
    rw [show (40 : Int32).toInt = 40 by decide, p1] at q1
    have q1' : RS P s4 = f_1 K L b (RS P s) := q1
    refine ⟨rfl, ?_⟩
    refine Zt.imp (Zt.mo (d := 9) (by omega) (zs_73 (d := 0) (a1 := 1) hP hT q2 (by decide))) ?_
    rintro v5 s6 ⟨rfl, ⟨c1, c2, c3⟩, c4⟩
    rw [show (1 : Int32).toInt = 1 by decide, q1'] at c1
    have c1' : RS P s6 = f_2 K L b (RS P s) := c1
    have F4 : FZr P s s4 := FZr_tr t2 (FZr_tr p3 q3)
    have F6 : FZr P s s6 := FZr_tr F4 c3
    have L6 : s6.2 = s.2 := by rw [c4, q4, p4, t3]
    have eh : (s4.1 (P + 28) 2 / 5).toInt = zsz s (P + 28) / 5 := by
      have : (s4.1 (P + 28) 2).toInt = zsz s (P + 28) := sz0 F4 (by decide)
      exact i_div5 this l28.1
    have ek : (s4.1 (P + 30) 2 / 5).toInt = zsz s (P + 30) / 5 := by
      have : (s4.1 (P + 30) 2).toInt = zsz s (P + 30) := sz0 F4 (by decide)
      exact i_div5 this l30.1
    refine ⟨rfl, ?_⟩
    refine Zt.imp (Zt.mo (d := 9) (by omega) (zs_54k (d := 0) (a1 := s4.1 82 3) (a2 := 3) (a3 := -1) (a4 := s4.1 (P + 28) 2 / 5) hP (zSz_q (FZq_r F6) hP hz (fun r hr => absurd hr List.not_mem_nil)) c2 (by have := q2.2.2; omega) (by decide) (by decide) (by omega))) ?_
    rintro v7 s8 ⟨rfl, d1, d2, d3, d4, d5, d6, d7⟩
    refine ⟨rfl, ?_⟩
    refine Zt.imp (Zt.mo (d := 9) (by omega) (zs_73 (d := 0) (a1 := 1) hP hT d4 (by decide))) ?_
    rintro v9 s10 ⟨rfl, ⟨e1, e2, e3⟩, e4⟩
    rw [show (1 : Int32).toInt = 1 by decide, d3, c1'] at e1
    have e1' : RS P s10 = f_3 K L b (RS P s) := e1
    refine ⟨rfl, ?_⟩
    refine Zt.imp (Zt.mo (d := 9) (by omega) (zs_72 (d := 0) (a1 := 91) hP hT e2 (by decide))) ?_
    rintro v11 s12 ⟨x13, rfl, hr, r4⟩
    rw [show (91 : Int32).toInt = 91 by decide] at hr
    have a3r : -1 ≤ (s4.1 82 3).toInt ∧ (s4.1 82 3).toInt ≤ 5000 := by have := q2.2.2; omega
    have a4r : -1 ≤ (s8.1 82 3).toInt ∧ (s8.1 82 3).toInt ≤ 5000 := by have := d4.2.2; omega
    have a3e : (s4.1 82 3).toInt = (f_1 K L b (RS P s)).2 := congrArg Prod.snd q1'
    have a4e : (s8.1 82 3).toInt = (f_2 K L b (RS P s)).2 := by
      have : RS P s8 = f_2 K L b (RS P s) := d3.trans c1'
      exact congrArg Prod.snd this
    have dat : ∀ k h : Nat, (RS P s10).1 = 0 → zsz s (P + 30) = 5 * (k : Int) → zsz s (P + 28) = 5 * (h : Int) → (k : Int) ≤ (RS P s).2 → DSt K L P s s10 k [((f_1 K L b (RS P s)).2, 3, -1, (h : Int))] ∧ (RS P s).2 + 4 ≤ (RS P s10).2 := by
      intro k h hf hk hh hk2
      rw [e1] at hf
      obtain ⟨z1, z2, z3⟩ := ek_0 (show (e_k K L 1 (f_2 K L b (RS P s))).1 = 0 from hf)
      obtain ⟨z4, z5, z6⟩ := ek_0 (show (e_k K L 1 (f_1 K L b (RS P s))).1 = 0 from z1)
      obtain ⟨z7, z8, z9⟩ := f1_0 z4
      have R6 : (RS P s6).2 = (RS P s).2 + 3 := by
        rw [c1']
        show (e_k K L 1 (f_1 K L b (RS P s))).2 = _
        rw [z6, z9]
        dsimp only
        omega
      have R10 : (RS P s10).2 = (RS P s).2 + 4 := by
        rw [e1, z3, ← c1', R6]
        omega
      have zk : zsz s6 (P + 30) = 5 * (k : Int) := by rw [sz0 F6 (by decide), hk]
      have hle := c2.2.2.2
      have hR6e : (RS P s6).2 = (s6.1 82 3).toInt := rfl
      obtain ⟨w1, w2⟩ := d7 k zk (by omega)
      have eh' : (s4.1 (P + 28) 2 / 5).toInt = (h : Int) := by rw [eh, hh]; omega
      rw [a3e, eh', show (3 : Int32).toInt = 3 by decide, show (-1 : Int32).toInt = -1 by decide] at w2
      refine ⟨⟨?_, SLat_q w2 (FZq_r e3) (by rw [w1]; show 5 * ((k : Int) + ((1 : Nat) : Int)) ≤ _; omega), by omega, fun q _ => by rw [e4, d5, L6], by show (k : Int) + ((1 : Nat) : Int) + 1 ≤ _; omega, fun q hq h0 => ?_⟩, by omega⟩
      · rw [sz0 e3 (by decide), w1]
        show _ = 5 * ((k : Int) + ((1 : Nat) : Int))
        omega
      · rw [List.mem_singleton.mp hq] at h0
        dsimp only at h0
        omega
    refine ⟨x13, rfl, fun w => ?_, fun w => ?_⟩
    · rcases hr with ⟨y1, -⟩ | ⟨-, y2, y3, y4, y5⟩
      · omega
      have hno : ¬ t_k K 91 (f_3 K L b (RS P s)) = true := by rw [← e1', y2]; decide
      have e4' : f_4 K L b (RS P s) = f_3 K L b (RS P s) := if_neg hno
      have efp : fPa K L b (RS P s) = [] := if_neg hno
      have eR : RS P s12 = f_3 K L b (RS P s) := y3.trans e1'
      refine tail _ _ _ _ 0 s12 y4 (FZq_tr (mo0 F6) (FZq_tr (moR (by decide) d1) (FZq_tr (mo0 e3) (mo0 y5)))) (by rw [r4, e4, d6, L6]) (by rw [eR, e4']) ?_ ?_ ?_ ek eh ⟨a3r.1, a3r.2, fun _ => a3e⟩ ⟨a4r.1, a4r.2, fun _ => a4e⟩ (by rw [i0]; decide) (fun k h hf hk hh hk2 => ?_)
      · rw [sz0 y5 (by decide), sz0 e3 (by decide), FZq_sz d1 (by decide) hP (by decide), sz0 F6 (by decide)]
      · rw [sz0 y5 (by decide), sz0 e3 (by decide), FZq_sz d1 (by decide) hP (by decide), sz0 F6 (by decide)]
      · rw [sz0 y5 (by decide), sz0 e3 (by decide), FZq_sz d1 (by decide) hP (by decide), sz0 F6 (by decide)]
      · obtain ⟨m1, m2⟩ := dat k h (by rw [e1', ← eR]; exact hf) hk hh hk2
        rw [efp]
        refine ⟨DSt_ps m1 (by rw [r4]) (by rw [r4]) (sz0 y5 (by decide)) (by rw [y3]; exact Int.le_refl _), by rw [i0]; rfl, ?_⟩
        rw [y3]
        omega
    · rcases hr with ⟨-, y2, y3, y4, y5⟩ | ⟨y1, -⟩
      · have hyes : t_k K 91 (f_3 K L b (RS P s)) = true := by rw [← e1']; exact y2
        have e4' : f_4 K L b (RS P s) = p_l K L (e_f K L) 93 7 (a_d (f_3 K L b (RS P s))) := if_pos hyes
        have efp : fPa K L b (RS P s) = p_ls K (e_f K L) 7 (a_d (f_3 K L b (RS P s))) := if_pos hyes
        have eR : RS P s12 = a_d (f_3 K L b (RS P s)) := by rw [y3, e1']
        refine Zt.imp (Zt.mo (d := 40) (by omega) (zs_64 (a1 := s4.1 (P + 28) 2 / 5) hP hT y4 (by omega))) ?_
        rintro v14 s15 ⟨x16, rfl, hM⟩
        obtain ⟨n1, n2, n3, n4, n5, n6, n7⟩ := hM
        refine ⟨x16, rfl, tail _ _ _ _ x16 s15 n2 (FZq_tr (mo0 F6) (FZq_tr (moR (by decide) d1) (FZq_tr (mo0 e3) (FZq_tr (mo0 y5) (moR (by decide) n3))))) (by rw [n6, r4, e4, d6, L6]) (by rw [n1, eR, e4']) ?_ ?_ ?_ ek eh ⟨a3r.1, a3r.2, fun _ => a3e⟩ ⟨a4r.1, a4r.2, fun _ => a4e⟩ (by omega) (fun k h hf hk hh hk2 => ?_)⟩
        · rw [FZq_sz n3 (by decide) hP (by decide), sz0 y5 (by decide), sz0 e3 (by decide), FZq_sz d1 (by decide) hP (by decide), sz0 F6 (by decide)]
        · rw [FZq_sz n3 (by decide) hP (by decide), sz0 y5 (by decide), sz0 e3 (by decide), FZq_sz d1 (by decide) hP (by decide), sz0 F6 (by decide)]
        · rw [FZq_sz n3 (by decide) hP (by decide), sz0 y5 (by decide), sz0 e3 (by decide), FZq_sz d1 (by decide) hP (by decide), sz0 F6 (by decide)]
        · have y0 := (tk_t hyes).1
          obtain ⟨m1, m2⟩ := dat k h (by rw [e1']; exact y0) hk hh hk2
          have eh' : (s4.1 (P + 28) 2 / 5).toInt = (h : Int) := by rw [eh, hh]; omega
          have R12 : (RS P s12).2 = (RS P s10).2 + 1 := by rw [y3]; rfl
          have D12 := DSt_ps m1 (u' := s12) (by rw [r4]) (by rw [r4]) (sz0 y5 (by decide)) (by omega)
          rw [n1] at hf
          have hlt := pl_fw7 ef_fw _ hf
          obtain ⟨o1, o2, o3, o4⟩ := n7 (k + 1) hf (by rw [D12.1]; show 5 * ((k : Int) + ((1 : Nat) : Int)) = _; omega) (by have := D12.2.2.2.2.1; have e : ([((f_1 K L b (RS P s)).2, (3 : Int), (-1 : Int), (h : Int))].length : Int) = 1 := rfl; omega)
          rw [eR] at o1 o2 o3
          rw [eh'] at o3
          rw [efp]
          have lo12 : ∀ {lo hi : Int}, LO P lo hi s12 s15 := fun q _ => by rw [n5]
          obtain ⟨u1, u2, u3, u4, u5, u6⟩ := D12
          refine ⟨⟨?_, ?_, ?_, ?_, ?_, fun q hq h0 => ?_⟩, o1, ?_⟩
          · rw [o2, List.length_cons, prS_len]
            omega
          · show SLat s15 P k ([((f_1 K L b (RS P s)).2, 3, -1, (h : Int))] ++ prS h (p_ls K (e_f K L) 7 (a_d (f_3 K L b (RS P s)))))
            exact SLat_app (SLat_q u2 n3 (by rw [u1]; exact Int.le_refl _)) o3
          · rw [n1]
            omega
          · rw [n1]
            exact LO_tr (LO_mo u4 (Int.le_refl _) (by omega)) lo12
          · rw [n1, List.length_cons, prS_len]
            rw [eR] at o4
            rw [← eR] at o4
            have := o4
            rw [eR] at this ⊢
            omega
          · rcases List.mem_cons.mp hq with hq | hq
            · rw [hq] at h0
              dsimp only at h0
              omega
            · unfold prS at hq
              obtain ⟨y, -, rfl⟩ := List.mem_map.mp hq
              dsimp only at h0
              omega
          · rw [n1]
            omega
      · omega
  unfold v_63_0
  rw [ef]
  refine ⟨fun w2 => beg s hD FZr_rf rfl ?_, fun w2 => ?_⟩
  · have hbf : b = false := by rw [← hb]; exact decide_eq_false (by omega)
    unfold f_0
    rw [if_neg (fun q => by rw [hbf] at q; cases q.2)]
  · refine Zt.imp (Zt.mo (d := 9) (by omega) (zs_38 (d := 0) (a1 := 5) (a2 := s.1 82 3) hP hT hD (by decide) hD.2.2)) ?_
    rintro v1 s2 ⟨rfl, ⟨p1, p2, p3⟩, p4⟩
    refine ⟨rfl, beg s2 p2 p3 p4 ?_⟩
    rw [p1]
    have hbt : b = true := by rw [← hb]; exact decide_eq_true (by omega)
    unfold f_0
    rw [hbt]
    by_cases h0 : (RS P s).1 = 0
    · rw [if_pos ⟨h0, by decide⟩, if_pos ⟨h0, rfl⟩]
      rfl
    · rw [if_neg (fun q => h0 q.1), if_neg (fun q => h0 q.1)]
end ZQE
