/-! ===== readNamed, readParams ===== -/
/-- slots from number b on: name, kind, told, HEAD -/
def SLat (s : zS) (P b : Nat) (Ls : List (Int × Int × Int × Int)) : Prop := ∀ (i : Nat) q, Ls[i]? = some q → (s.2 (P + 30) (5 * (b + i))).toInt = q.1 ∧ (s.2 (P + 30) (5 * (b + i) + 1)).toInt = q.2.1 ∧ (s.2 (P + 30) (5 * (b + i) + 2)).toInt = q.2.2.1 ∧ (s.2 (P + 30) (5 * (b + i) + 3)).toInt = -1 ∧ (s.2 (P + 30) (5 * (b + i) + 4)).toInt = q.2.2.2
/-- a TYPE told at t stands, with its counts, ahead of hi -/
def GTt (K L : Int → Int) (P : Nat) (s : zS) (lo hi t : Int) : Prop := (lo ≤ t ∧ (p_t K L 10 false (0, t)).2 ≤ hi) ∧ (p_t K L 10 false (0, t)).1 = 0 ∧ LT K L P t (p_t K L 10 false (0, t)).2 s
section ZQ8
variable {d P : Nat} {s s' s'' : zS} {K L : Int → Int} {n lo hi t : Int} {a1 a2 a3 a4 x : Int32} {R R' : List Nat} {σ : RSt}
theorem SLat_eq {b : Nat} {Ls : List (Int × Int × Int × Int)} (h : SLat s P b Ls) (g : ∀ i : Nat, i < 5 * (b + Ls.length) → s'.2 (P + 30) i = s.2 (P + 30) i) : SLat s' P b Ls := fun i q hq => by
  have hi : i < Ls.length := (List.getElem?_eq_some_iff.mp hq).1
  rw [g _ (by omega), g _ (by omega), g _ (by omega), g _ (by omega), g _ (by omega)]
  exact h i q hq
theorem SLat_q {b : Nat} {Ls : List (Int × Int × Int × Int)} (h : SLat s P b Ls) (g : FZq R P s s') (hs : 5 * ((b : Int) + (Ls.length : Int)) ≤ zsz s (P + 30)) : SLat s' P b Ls := by
  refine SLat_eq h (fun i hi => ?_)
  by_cases w : 30 ∈ R
  · exact (g.2.2 30 w).2 i (by omega)
  · rw [FZq_row g w (by decide) (by decide)]
theorem SLat_app {b : Nat} {A B : List (Int × Int × Int × Int)} (h : SLat s P b A) (g : SLat s P (b + A.length) B) : SLat s P b (A ++ B) := fun i q hq => by
  by_cases w : i < A.length
  · rw [List.getElem?_append_left w] at hq
    exact h i q hq
  · rw [List.getElem?_append_right (by omega)] at hq
    have := g (i - A.length) q hq
    rw [show b + A.length + (i - A.length) = b + i by omega] at this
    exact this
theorem SLat_nil {b : Nat} : SLat s P b [] := fun i q hq => by cases hq
theorem GTt_mo {lo' hi' : Int} (h : GTt K L P s lo hi t) (h1 : lo' ≤ lo) (h2 : hi ≤ hi') : GTt K L P s lo' hi' t := ⟨⟨by have := h.1; omega, by have := h.1; omega⟩, h.2⟩
theorem GTt_out {lo' hi' : Int} (h : GTt K L P s lo hi t) (g : LO P lo' hi' s s') (hd : hi ≤ lo') : GTt K L P s' lo hi t := ⟨h.1, h.2.1, LT_out h.2.2 g (Or.inl (by have := h.1.2; omega))⟩
/-- one slot more -/
theorem zs_54k (hP : P = 3 ∨ P = 39) (g : zSz P s) (hD : RDz K L P n s) (h1 : -1 ≤ a1.toInt ∧ a1.toInt ≤ 5000) (h2 : -1 ≤ a2.toInt ∧ a2.toInt ≤ 5000) (h3 : -1 ≤ a3.toInt ∧ a3.toInt ≤ 5000) (h4 : -1 ≤ a4.toInt ∧ a4.toInt ≤ 5000) : Zt (d + 9) (wd P 54) 54 [.ref P, .int a1, .int a2, .int a3, .int a4] s (fun v s' => v = none ∧ FZq [30] P s s' ∧ zSz P s' ∧ RS P s' = RS P s ∧ RDz K L P n s' ∧ s'.2 (P + 12) = s.2 (P + 12) ∧ s'.2 (P + 22) = s.2 (P + 22) ∧ ∀ k : Nat, zsz s (P + 30) = 5 * (k : Int) → k + 1 ≤ 4000 → zsz s' (P + 30) = 5 * ((k : Int) + 1) ∧ SLat s' P k [(a1.toInt, a2.toInt, a3.toInt, a4.toInt)]) := by
  refine Zt.imp (zs_54 hP g h1 h2 h3 h4) ?_
  rintro v s1 ⟨rfl, hs1⟩
  obtain ⟨q1, q2, q3, q4, q5, q6, q7⟩ := zaL_q (vs := [a1, a2, a3, -1, a4]) hP (show 30 ∈ rwL by decide) g
  rw [← hs1] at q1 q2 q3 q4 q5 q6 q7
  clear hs1
  refine ⟨rfl, q1, q2, q3, FZq_RDz q1 (fun r hr => by rw [List.mem_singleton.mp hr]; decide) hP hD q4, q5, q6, fun k hk hk2 => ?_⟩
  obtain ⟨z1, z2⟩ := q7 (by rw [(limR hP).2.2.2.2.1, hk]; simp only [List.length_cons, List.length_nil]; omega)
  refine ⟨by rw [z1, hk]; simp only [List.length_cons, List.length_nil]; omega, fun i q hq => ?_⟩
  have hi : i = 0 := by
    have := (List.getElem?_eq_some_iff.mp hq).1
    simp only [List.length_cons, List.length_nil] at this
    omega
  subst hi
  have eq : q = (a1.toInt, a2.toInt, a3.toInt, a4.toInt) := by
    have hq' : some (a1.toInt, a2.toInt, a3.toInt, a4.toInt) = some q := hq
    exact (Option.some.inj hq').symm
  subst eq
  have ez : (zsz s (P + 30)).toNat = 5 * (k + 0) := by omega
  rw [ez] at z2
  refine ⟨?_, ?_, ?_, ?_, ?_⟩
  · exact congrArg Int32.toInt (z2 0 a1 rfl)
  · rw [z2 1 a2 rfl]
  · rw [z2 2 a3 rfl]
  · rw [z2 3 (-1) rfl]
    decide
  · rw [z2 4 a4 rfl]
/-- names told with TYPES -/
def nmS (kd sg : Int) (l : List Int) : List (Int × Int × Int × Int) := l.map (fun q => (q, kd, q + 1, sg))
theorem pls_s (f : Bool → RSt → RSt) (k : Nat) (σ : RSt) : p_ls K f (k + 1) σ = σ.2 :: (if k ≠ 0 ∧ t_k K 44 (f (decide (k = 0)) σ) = true then p_ls K f k (a_d (f (decide (k = 0)) σ)) else []) := by rw [p_ls]
/-- what readNamed does: k slots stood -/
def NMq (K L : Int → Int) (P : Nat) (n c kd sg : Int) (s s' : zS) (r : Int32) : Prop := RS P s' = p_nm K L c (RS P s) ∧ RDz K L P n s' ∧ FZq [30] P s s' ∧ zSz P s' ∧ (1 ≤ r.toInt ∧ r.toInt ≤ 7) ∧ s'.2 (P + 22) = s.2 (P + 22) ∧ ∀ k : Nat, (p_nm K L c (RS P s)).1 = 0 → zsz s (P + 30) = 5 * (k : Int) → (k : Int) + 1 ≤ (RS P s).2 → r.toInt = ((l_nm K L (RS P s)).length : Int) ∧ zsz s' (P + 30) = 5 * ((k : Int) + ((l_nm K L (RS P s)).length : Int)) ∧ SLat s' P k (nmS kd sg (l_nm K L (RS P s))) ∧ LO P (RS P s).2 (p_nm K L c (RS P s)).2 s s' ∧ (k : Int) + ((l_nm K L (RS P s)).length : Int) + 1 ≤ (p_nm K L c (RS P s)).2 ∧ ∀ q ∈ l_nm K L (RS P s), GTt K L P s' (RS P s).2 (p_nm K L c (RS P s)).2 (q + 1)
set_option maxHeartbeats 2000000 in
theorem zs_65 (hP : P = 3 ∨ P = 39) (hT : TXp K L n) (h : RDz K L P n s) (hz : zSz P s) (hc : a1.toInt = 93 ∨ a1.toInt = 41) (h2 : 0 ≤ a2.toInt ∧ a2.toInt ≤ 4) (h3 : -1 ≤ a3.toInt ∧ a3.toInt ≤ 5000) : Zt 40 (wd P 65) 65 [.ref 82, .int a1, .int a2, .int a3] s (fun v s' => ∃ r : Int32, v = some (.int r) ∧ NMq K L P n a1.toInt a2.toInt a3.toInt s s' r) := by
  refine zc_65 (d := 31) hP ?_
  have hn := hT.1
  unfold v_65_0 vl_65_2
  refine ⟨fun b1 b2 b3 b4 t => b1 = a1 ∧ b2 = a2 ∧ b3 = a3 ∧ ∃ j : Nat, j ≤ 6 ∧ b4.toInt = 6 - (j : Int) ∧ RDz K L P n t ∧ zSz P t ∧ FZq [30] P s t ∧ t.2 (P + 22) = s.2 (P + 22) ∧ p_l K L (n_f K L) a1.toInt (j + 1) (RS P t) = p_nm K L a1.toInt (RS P s) ∧ ∀ k : Nat, (RS P t).1 = 0 → zsz s (P + 30) = 5 * (k : Int) → (k : Int) + 1 ≤ (RS P s).2 → ∃ pre : List Int, (pre.length : Int) = b4.toInt ∧ pre ++ p_ls K (n_f K L) (j + 1) (RS P t) = l_nm K L (RS P s) ∧ zsz t (P + 30) = 5 * ((k : Int) + (pre.length : Int)) ∧ SLat t P k (nmS a2.toInt a3.toInt pre) ∧ (RS P s).2 ≤ (RS P t).2 ∧ LO P (RS P s).2 (RS P t).2 s t ∧ (k : Int) + (pre.length : Int) + 1 ≤ (RS P t).2 ∧ ∀ q ∈ pre, GTt K L P t (RS P s).2 (RS P t).2 (q + 1), fun _ _ _ b4 _ => (10 - b4.toInt).toNat, ⟨rfl, rfl, rfl, 6, by omega, by rw [i0]; decide, h, hz, FZq_mo (FZq_r FZr_rf) hP (fun r hr => absurd hr List.not_mem_nil) (fun r hr => by rw [List.mem_singleton.mp hr]; decide), rfl, rfl, fun k _ hk hk2 => ⟨[], by rw [i0]; rfl, rfl, by rw [hk]; show _ = 5 * ((k : Int) + ((0 : Nat) : Int)); omega, SLat_nil, Int.le_refl _, LO_rf, by show (k : Int) + ((0 : Nat) : Int) + 1 ≤ _; omega, fun q hq => absurd hq List.not_mem_nil⟩⟩, ?_⟩
  rintro b1 b2 b3 b4 t ⟨rfl, rfl, rfl, j, g1, g2, g3, g4, g5, g6, g7, g8⟩
  -- one more
  have body : ∀ z : Int32, decide (¬ z.toInt = 0) = decide (j = 0) → v_65_12 (fun j => Zt (31 + 8) (wd P j) j) P (fun a1' a2' a3' a4' s' => (a1' = b1 ∧ a2' = b2 ∧ a3' = b3 ∧ ∃ j : Nat, j ≤ 6 ∧ a4'.toInt = 6 - (j : Int) ∧ RDz K L P n s' ∧ zSz P s' ∧ FZq [30] P s s' ∧ s'.2 (P + 22) = s.2 (P + 22) ∧ p_l K L (n_f K L) b1.toInt (j + 1) (RS P s') = p_nm K L b1.toInt (RS P s) ∧ ∀ k : Nat, (RS P s').1 = 0 → zsz s (P + 30) = 5 * (k : Int) → (k : Int) + 1 ≤ (RS P s).2 → ∃ pre : List Int, (pre.length : Int) = a4'.toInt ∧ pre ++ p_ls K (n_f K L) (j + 1) (RS P s') = l_nm K L (RS P s) ∧ zsz s' (P + 30) = 5 * ((k : Int) + (pre.length : Int)) ∧ SLat s' P k (nmS b2.toInt b3.toInt pre) ∧ (RS P s).2 ≤ (RS P s').2 ∧ LO P (RS P s).2 (RS P s').2 s s' ∧ (k : Int) + (pre.length : Int) + 1 ≤ (RS P s').2 ∧ ∀ q ∈ pre, GTt K L P s' (RS P s).2 (RS P s').2 (q + 1)) ∧ (10 - a4'.toInt).toNat < (10 - b4.toInt).toNat) b1 b2 b3 b4 (t.1 82 3) z t (fun v s' => ∃ r : Int32, v = some (.int r) ∧ NMq K L P n b1.toInt b2.toInt b3.toInt s s' r) := by
    intro z hzz
    unfold v_65_12
    refine Zt.imp (Zt.mo (d := 9) (by omega) (zs_74 (d := 0) (a1 := z) hP hT g3)) ?_
    rintro v1 s2 ⟨rfl, ⟨p1, p2, p3⟩, p4⟩
    rw [hzz] at p1
    refine ⟨rfl, ?_⟩
    have z2 : zSz P s2 := zSz_q (FZq_r p3) hP g4 (fun r hr => absurd hr List.not_mem_nil)
    refine Zt.imp (Zt.mo (d := 9) (by omega) (zs_54k (d := 0) (a1 := t.1 82 3) (a2 := b2) (a3 := s2.1 82 3) (a4 := b3) hP z2 p2 (by have := g3.2.2; omega) (by omega) (by have := p2.2.2; omega) h3)) ?_
    rintro v3 s4 ⟨rfl, q1, q2, q3, q4, q5, q6, q7⟩
    refine ⟨rfl, ?_⟩
    refine Zt.imp (Zt.mo (d := 32) (by omega) (zs_67 hP hT 10 (by omega) 1 0 s4 (by decide) (by decide) q4)) ?_
    rintro v5 s6 ⟨rfl, ⟨w1, w2, w3⟩, w4⟩
    rw [decide_eq_false (show ¬ 6 ≤ (0 : Int32).toInt by decide), q3, p1] at w1 w4
    refine ⟨rfl, fun x7 hx7 => ?_⟩
    have e7 := hx7 (by omega)
    have wn : RS P s6 = n_f K L (decide (j = 0)) (RS P t) := w1
    have z6 : zSz P s6 := zSz_q (FZq_r w3) hP q2 (fun r hr => absurd hr List.not_mem_nil)
    have mo : ∀ {u u' : zS}, FZr P u u' → FZq [30] P u u' := fun hh => FZq_mo (FZq_r hh) hP (fun r hr => absurd hr List.not_mem_nil) (fun r hr => by rw [List.mem_singleton.mp hr]; decide)
    have F6 : FZq [30] P s s6 := FZq_tr g5 (FZq_tr (mo p3) (FZq_tr q1 (mo w3)))
    have r22 : s6.2 (P + 22) = s.2 (P + 22) := by rw [w3.2 _ (by omega), q6, p4, g6]
    -- what stands then
    have dat : ∀ k : Nat, (RS P s6).1 = 0 → zsz s (P + 30) = 5 * (k : Int) → (k : Int) + 1 ≤ (RS P s).2 → ∃ pre : List Int, (pre.length : Int) = x7.toInt ∧ pre ++ (if j ≠ 0 ∧ t_k K 44 (RS P s6) = true then p_ls K (n_f K L) j (a_d (RS P s6)) else []) = l_nm K L (RS P s) ∧ zsz s6 (P + 30) = 5 * ((k : Int) + (pre.length : Int)) ∧ SLat s6 P k (nmS b2.toInt b3.toInt pre) ∧ (RS P s).2 ≤ (RS P s6).2 ∧ LO P (RS P s).2 (RS P s6).2 s s6 ∧ (k : Int) + (pre.length : Int) + 1 ≤ (RS P s6).2 ∧ ∀ q ∈ pre, GTt K L P s6 (RS P s).2 (RS P s6).2 (q + 1) := by
      intro k hf hk hk2
      rw [wn] at hf
      have hfw := nf_fw _ _ hf
      obtain ⟨pre, c1, c2, c3, c4, c5, c6, c7, c8⟩ := g8 k hfw.1 hk hk2
      have hpt : (p_t K L 10 false (e_f K L (decide (j = 0)) (RS P t))).1 = 0 := hf
      have hef := (pt_fw 10 _ _ hpt).1
      obtain ⟨e1, e2, e3, e4⟩ := ef_0 hef
      have hat4 : (RS P s4).2 = (RS P t).2 + 1 := by rw [q3, p1, e4]
      have es2 : (s2.1 82 3).toInt = (RS P t).2 + 1 := by
        have : (RS P s2).2 = (RS P t).2 + 1 := by rw [p1, e4]
        exact this
      obtain ⟨w5, w6⟩ := w4 hpt
      rw [← w1] at w5 w6
      rw [show (e_f K L (decide (j = 0)) (RS P t)).2 = (RS P t).2 + 1 by rw [e4]] at w5 w6
      have ekp : zsz s2 (P + 30) = 5 * (((k + pre.length : Nat)) : Int) := by
        rw [FZq_sz (FZq_r p3) List.not_mem_nil hP (by decide), c3]
        omega
      have hat := g3.2.2
      have hRt : (RS P t).2 = (t.1 82 3).toInt := rfl
      obtain ⟨y1, y2⟩ := q7 (k + pre.length) ekp (by omega)
      have hlt : (RS P t).2 + 1 < (RS P s6).2 := by
        have := (pt_fw 10 _ _ hpt).2
        rw [e4] at this
        dsimp only at this
        rw [w1, e4]
        exact this
      have z36 : zsz s6 (P + 30) = zsz s4 (P + 30) := FZq_sz (FZq_r w3) List.not_mem_nil hP (by decide)
      refine ⟨pre ++ [(RS P t).2], by rw [List.length_append]; show ((pre.length + 1 : Nat) : Int) = _; omega, ?_, ?_, ?_, by omega, ?_, ?_, ?_⟩
      · rw [pls_s, ← wn] at c2
        rw [← c2, List.append_assoc]
        rfl
      · rw [z36, y1, List.length_append]
        show _ = 5 * ((k : Int) + ((pre.length + 1 : Nat) : Int))
        omega
      · unfold nmS at c4 ⊢
        rw [List.map_append]
        refine SLat_app (SLat_q c4 (FZq_tr (mo p3) (FZq_tr q1 (mo w3))) (by rw [List.length_map, c3]; exact Int.le_refl _)) ?_
        rw [List.length_map]
        refine SLat_q (R := []) (s := s4) ?_ (FZq_r w3) (by rw [y1]; simp only [List.map_cons, List.map_nil, List.length_cons, List.length_nil]; omega)
        rw [es2] at y2
        exact y2
      · refine LO_tr (LO_mo c6 (Int.le_refl _) (by omega)) ?_
        refine LO_tr (LO_eq p4) (LO_tr (s' := s4) (fun q _ => by rw [q5]) (LO_mo w6 (by omega) (Int.le_refl _)))
      · rw [List.length_append]
        show (k : Int) + ((pre.length + 1 : Nat) : Int) + 1 ≤ _
        omega
      · intro q hq
        rcases List.mem_append.mp hq with hq | hq
        · have := c8 q hq
          refine GTt_mo (GTt_out (GTt_out this (s' := s4) (lo' := (RS P t).2) (hi' := (RS P t).2) (fun q _ => by rw [q5, p4]) (Int.le_refl _)) w6 (by omega)) (Int.le_refl _) (by omega)
        · rw [List.mem_singleton.mp hq]
          have ee : ((0 : Int), (RS P t).2 + 1) = e_f K L (decide (j = 0)) (RS P t) := e4.symm
          unfold GTt
          rw [ee, ← w1]
          exact ⟨⟨by omega, Int.le_refl _⟩, by rw [w1]; exact hpt, w5⟩
    -- the end
    have fin : ∀ u : zS, RDz K L P n u → zSz P u → FZr P s6 u → u.2 = s6.2 → (RS P u) = RS P s6 → e_k K L b1.toInt (RS P u) = p_nm K L b1.toInt (RS P s) → (∀ k : Nat, (RS P s6).1 = 0 → ¬ (j ≠ 0 ∧ t_k K 44 (RS P s6) = true)) → v_65_33 (fun j => Zt (31 + 8) (wd P j) j) P b1 b2 b3 x7 (t.1 82 3) u (fun v s' => ∃ r : Int32, v = some (.int r) ∧ NMq K L P n b1.toInt b2.toInt b3.toInt s s' r) := by
      intro u u1 u2 u3 u4 u5 u6 u7
      unfold v_65_33
      refine Zt.imp (Zt.mo (d := 9) (by omega) (zs_73 (d := 0) (a1 := b1) hP hT u1 (by omega))) ?_
      rintro v1 s9 ⟨rfl, ⟨c1, c2, c3⟩, c4⟩
      rw [u6] at c1
      refine ⟨rfl, x7, rfl, c1, c2, FZq_tr F6 (FZq_tr (mo u3) (mo c3)), zSz_q (FZq_r c3) hP u2 (fun r hr => absurd hr List.not_mem_nil), by omega, by rw [c4, u4]; exact r22, fun k hr hk hk2 => ?_⟩
      rw [← u6] at hr
      obtain ⟨f1, f2, f3⟩ := ek_0 hr
      rw [u5] at f1 f2 f3
      obtain ⟨pre, d1, d2, d3, d4, d5, d6, d7, d8⟩ := dat k f1 hk hk2
      rw [if_neg (u7 k f1), List.append_nil] at d2
      rw [← d2, ← u6, u5, f3]
      dsimp only
      have e9 : s9.2 = s6.2 := by rw [c4, u4]
      have ez : zsz s9 (P + 30) = zsz s6 (P + 30) := by
        rw [FZq_sz (FZq_r c3) List.not_mem_nil hP (by decide), FZq_sz (FZq_r u3) List.not_mem_nil hP (by decide)]
      refine ⟨by omega, by rw [ez, d3], SLat_eq d4 (fun i _ => by rw [e9]), LO_tr (LO_mo d6 (Int.le_refl _) (by omega)) (LO_eq e9), by omega, fun q hq => ?_⟩
      have := d8 q hq
      exact ⟨⟨this.1.1, by have := this.1.2; omega⟩, this.2.1, LT_eq e9 this.2.2⟩
    rw [p_l, ← wn] at g7
    refine ⟨fun h6 => ?_, fun h6 => ?_⟩
    · have ej : j = 0 := by omega
      rw [if_neg (fun w => w.1 ej)] at g7
      exact fin s6 w2 z6 FZr_rf rfl rfl g7 (fun _ _ w => w.1 ej)
    · refine Zt.imp (Zt.mo (d := 9) (by omega) (zs_72 (d := 0) (a1 := 44) hP hT w2 (by decide))) ?_
      rintro v8 s9 ⟨r10, rfl, hr, r4⟩
      rw [show (44 : Int32).toInt = 44 by decide] at hr
      refine ⟨r10, rfl, fun hne => ?_, fun heq => ?_⟩
      · rcases hr with ⟨y1, y2, y3, y4, y5⟩ | ⟨y1, -⟩
        · have ej : ¬ j = 0 := by omega
          rw [if_pos ⟨ej, y2⟩] at g7
          obtain ⟨f0, f1⟩ := tk_t y2
          have eR2 : (RS P s9).2 = (RS P s6).2 + 1 := by rw [y3]; rfl
          refine ⟨⟨rfl, rfl, rfl, j - 1, by omega, by omega, y4, zSz_q (FZq_r y5) hP z6 (fun r hr => absurd hr List.not_mem_nil), FZq_tr F6 (mo y5), by rw [r4]; exact r22, by rw [y3, show j - 1 + 1 = j by omega]; exact g7, fun k _ hk hk2 => ?_⟩, by omega⟩
          obtain ⟨pre, d1, d2, d3, d4, d5, d6, d7, d8⟩ := dat k f0 hk hk2
          rw [if_pos ⟨ej, y2⟩] at d2
          refine ⟨pre, d1, by rw [y3, show j - 1 + 1 = j by omega]; exact d2, by rw [FZq_sz (FZq_r y5) List.not_mem_nil hP (by decide)]; exact d3, SLat_eq d4 (fun i _ => by rw [r4]), by omega, LO_tr (LO_mo d6 (Int.le_refl _) (by omega)) (LO_eq r4), by omega, fun q hq => ?_⟩
          have := d8 q hq
          exact ⟨⟨this.1.1, by have := this.1.2; omega⟩, this.2.1, LT_eq r4 this.2.2⟩
        · omega
      · rcases hr with ⟨y1, -⟩ | ⟨y1, y2, y3, y4, y5⟩
        · omega
        · have hno : ¬ (j ≠ 0 ∧ t_k K 44 (RS P s6) = true) := fun w => by
            rw [y2] at w
            cases w.2
          rw [if_neg hno] at g7
          exact fin s9 y4 (zSz_q (FZq_r y5) hP z6 (fun r hr => absurd hr List.not_mem_nil)) y5 r4 y3 (by rw [y3]; exact g7) (fun _ _ => hno)
  unfold v_65_2
  refine ⟨fun w => body 0 ?_, fun w => body 1 ?_⟩
  · rw [decide_eq_false (show ¬ ¬ (0 : Int32).toInt = 0 by decide), decide_eq_false (by omega)]
  · rw [decide_eq_true (show ¬ (1 : Int32).toInt = 0 by decide), decide_eq_true (by omega)]
end ZQ8
