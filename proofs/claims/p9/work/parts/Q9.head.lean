/-! ===== what a state's numbers lie between; readParams, readHead ===== -/
/-- what the cells say of every state -/
def BDz (s : zS) : Prop := (∀ a ∈ rowL, ∀ i, (ckR a).1 ≤ (s.2 a i).toInt ∧ (s.2 a i).toInt ≤ (ckR a).2) ∧ ∀ a k lo hi, isIf a k = true → (fk a)[k]? = some (.inl (lo, hi)) → lo ≤ (s.1 a k).toInt ∧ (s.1 a k).toInt ≤ hi
theorem BD_of {hh : xH} {s : zS} (hI : INV hh) (hz : zI hh s) : BDz s := by
  refine ⟨fun a ha i => ?_, fun a k lo hi hk hf => ?_⟩
  · obtain ⟨c, n, f, z, e1, e2, e3, e4, e5, e6, e7⟩ := row_of hI ha
    rw [← hz.2 a ha i, rv_of e3]
    by_cases hi : i < n
    · rw [if_pos hi]
      exact (e7 i hi).1
    · rw [if_neg hi]
      exact ck0 a ha
  · have hk' := hk
    unfold isIf at hk'
    rw [Bool.and_eq_true] at hk'
    obtain ⟨fs, v, f1, f2, f3, f4⟩ := fl_of hI hk'.1 hf
    rw [hz.1 a k hk] at f3
    cases f3
    obtain ⟨x, hx, h1, h2⟩ := f4
    cases hx
    exact ⟨h1, h2⟩
theorem Zt_bd {d : Nat} {c : zW} {j : Nat} {vs : List Value} {s : zS} {Q : Option Value → zS → Prop} (h : BDz s → Zt d c j vs s Q) : Zt d c j vs s Q := fun hh hI hw => h (BD_of hI hw.1) hh hI hw
theorem BD_sz {P : Nat} {s : zS} (hP : P = 3 ∨ P = 39) (h : BDz s) : zSz P s := fun r hr => by
  have hq : r = 24 ∨ r = 26 ∨ r = 28 ∨ r = 30 ∨ r = 32 := by
    unfold rwL at hr
    simpa using hr
  unfold zsz
  rcases hP with rfl | rfl <;> rcases hq with rfl | rfl | rfl | rfl | rfl <;> exact h.2 _ 2 _ _ (by decide +kernel) (by decide +kernel)
theorem BD_wd {P : Nat} {s : zS} (hP : P = 3 ∨ P = 39) (h : BDz s) (i : Int) : 0 ≤ KI (s.2 (P + 10)) i ∧ KI (s.2 (P + 10)) i ≤ 5000 := by
  have e : ∀ i, 0 ≤ (s.2 (P + 10) i).toInt ∧ (s.2 (P + 10) i).toInt ≤ 5000 := fun i => by
    rcases hP with rfl | rfl
    · have := h.1 13 (by decide +kernel) i
      rw [show ckR 13 = (0, 5000) by decide +kernel] at this
      exact this
    · have := h.1 49 (by decide +kernel) i
      rw [show ckR 49 = (0, 5000) by decide +kernel] at this
      exact this
  unfold KI
  split
  · exact e _
  · omega
/-- a HEAD: its name's token, its first slot, how many FORMALS and VARS -/
def SGat (s : zS) (P h : Nat) (q : Int) (b fc vc : Int) : Prop := (s.2 (P + 28) (5 * h)).toInt = q ∧ (s.2 (P + 28) (5 * h + 1)).toInt = KI (s.2 (P + 10)) q ∧ (s.2 (P + 28) (5 * h + 2)).toInt = b ∧ (s.2 (P + 28) (5 * h + 3)).toInt = fc ∧ (s.2 (P + 28) (5 * h + 4)).toInt = vc
def prS (sg : Int) (l : List Int) : List (Int × Int × Int × Int) := l.map (fun q => (q, 1, -1, sg))
/-- the slots of a HEAD -/
def hSlt (K L : Int → Int) (h : Int) (σ : RSt) : List (Int × Int × Int × Int) := nmS 0 h (h_f K L σ) ++ nmS 3 h (h_v K L σ) ++ [(-1, 4, (h_3 K L σ).2, h)]
section ZQ9
variable {d P : Nat} {s s' s'' : zS} {K L : Int → Int} {n lo hi t : Int} {a1 a2 a3 a4 x : Int32} {R R' : List Nat} {σ : RSt}
theorem i_div5 {x : Int32} {a : Int} (hx : x.toInt = a) (h : 0 ≤ a) : (x / 5).toInt = a / 5 := by
  obtain ⟨n, h1, rfl, rfl⟩ := i_nat hx h
  rw [Int32.toInt_div, nI_toInt h1, show (5 : Int32).toInt = 5 by decide, Int.tdiv_eq_ediv_of_nonneg h]
  exact i_bm (by omega)
theorem i_div10 {x : Int32} {a : Int} (hx : x.toInt = a) (h : 0 ≤ a) : (x / 10).toInt = a / 10 := by
  obtain ⟨n, h1, rfl, rfl⟩ := i_nat hx h
  rw [Int32.toInt_div, nI_toInt h1, show (10 : Int32).toInt = 10 by decide, Int.tdiv_eq_ediv_of_nonneg h]
  exact i_bm (by omega)
theorem i_div3 {x : Int32} {a : Int} (hx : x.toInt = a) (h : 0 ≤ a) : (x / 3).toInt = a / 3 := by
  obtain ⟨n, h1, rfl, rfl⟩ := i_nat hx h
  rw [Int32.toInt_div, nI_toInt h1, show (3 : Int32).toInt = 3 by decide, Int.tdiv_eq_ediv_of_nonneg h]
  exact i_bm (by omega)
/-- addSig -/
theorem zs_55 (hP : P = 3 ∨ P = 39) (hD : RDz K L P n s) (h1 : -1 ≤ a1.toInt ∧ a1.toInt ≤ 5000) (h2 : -1 ≤ a2.toInt ∧ a2.toInt ≤ 5000) (h3 : -1 ≤ a3.toInt ∧ a3.toInt ≤ 5000) (h4 : -1 ≤ a4.toInt ∧ a4.toInt ≤ 5000) : Zt (d + 9) (wd P 55) 55 [.ref P, .int a1, .int a2, .int a3, .int a4] s (fun v s' => v = none ∧ FZq [28] P s s' ∧ RS P s' = RS P s ∧ RDz K L P n s' ∧ s'.2 (P + 12) = s.2 (P + 12) ∧ s'.2 (P + 22) = s.2 (P + 22) ∧ ∀ k : Nat, zsz s (P + 28) = 5 * (k : Int) → k + 1 ≤ 4000 → zsz s' (P + 28) = 5 * ((k : Int) + 1) ∧ SGat s' P k a1.toInt a2.toInt a3.toInt a4.toInt) := by
  refine Zt_bd (fun hB => ?_)
  have g := BD_sz hP hB
  have hw := BD_wd hP hB a1.toInt
  refine zc_55 hP ?_
  unfold v_55_0
  refine ⟨by omega, fun s1 hs1 => ?_⟩
  have ew : (zg s1 (P + 10) a1).toInt = KI (s.2 (P + 10)) a1.toInt := by
    rw [zg_K, hs1]
    unfold za
    split
    · rw [zf_2]
      refine congrArg (fun f => KI f a1.toInt) (funext (fun j => ?_))
      rw [zr_2, if_neg (by omega)]
    · rfl
  refine ⟨by rw [ew]; omega, fun s2 hs2 => ⟨by omega, fun s3 hs3 => ⟨by omega, fun s4 hs4 => ⟨by omega, fun s5 hs5 => ?_⟩⟩⟩⟩
  have e5 : s5 = zaL (P + 28) [a1, zg s1 (P + 10) a1, a2, a3, a4] s := by
    rw [hs5, hs4, hs3, hs2, hs1]
    rfl
  obtain ⟨q1, q2, q3, q4, q5, q6, q7⟩ := zaL_q (vs := [a1, zg s1 (P + 10) a1, a2, a3, a4]) hP (show 28 ∈ rwL by decide) g
  rw [← e5] at q1 q2 q3 q4 q5 q6 q7
  clear e5 hs5 hs4 hs3 hs2
  refine ⟨rfl, q1, q3, FZq_RDz q1 (fun r hr => by rw [List.mem_singleton.mp hr]; decide) hP hD q4, q5, q6, fun k hk hk2 => ?_⟩
  obtain ⟨z1, z2⟩ := q7 (by rw [(limR hP).2.2.2.1, hk]; simp only [List.length_cons, List.length_nil]; omega)
  have ez : (zsz s (P + 28)).toNat = 5 * k := by omega
  rw [ez] at z2
  have e10 : s5.2 (P + 10) = s.2 (P + 10) := FZq_row q1 (by decide) (by decide) (by decide)
  refine ⟨by rw [z1, hk]; simp only [List.length_cons, List.length_nil]; omega, congrArg Int32.toInt (z2 0 a1 rfl), ?_, by rw [z2 2 a2 rfl], by rw [z2 3 a3 rfl], by rw [z2 4 a4 rfl]⟩
  rw [z2 1 _ rfl, ew, e10]
/-- readParams: k slots stood -/
def PMq (K L : Int → Int) (P : Nat) (n sg : Int) (s s' : zS) (r : Int32) : Prop := RS P s' = p_l K L (e_f K L) 93 7 (RS P s) ∧ RDz K L P n s' ∧ FZq [30] P s s' ∧ (1 ≤ r.toInt ∧ r.toInt ≤ 7) ∧ s'.2 (P + 12) = s.2 (P + 12) ∧ s'.2 (P + 22) = s.2 (P + 22) ∧ ∀ k : Nat, (p_l K L (e_f K L) 93 7 (RS P s)).1 = 0 → zsz s (P + 30) = 5 * (k : Int) → (k : Int) + 1 ≤ (RS P s).2 → r.toInt = ((p_ls K (e_f K L) 7 (RS P s)).length : Int) ∧ zsz s' (P + 30) = 5 * ((k : Int) + ((p_ls K (e_f K L) 7 (RS P s)).length : Int)) ∧ SLat s' P k (prS sg (p_ls K (e_f K L) 7 (RS P s))) ∧ (k : Int) + ((p_ls K (e_f K L) 7 (RS P s)).length : Int) + 1 ≤ (p_l K L (e_f K L) 93 7 (RS P s)).2
set_option maxHeartbeats 2000000 in
theorem zs_64 (hP : P = 3 ∨ P = 39) (hT : TXp K L n) (h : RDz K L P n s) (h1 : -1 ≤ a1.toInt ∧ a1.toInt ≤ 5000) : Zt 40 (wd P 64) 64 [.ref 82, .int a1] s (fun v s' => ∃ r : Int32, v = some (.int r) ∧ PMq K L P n a1.toInt s s' r) := by
  refine zc_64 (d := 31) hP ?_
  have hn := hT.1
  have mo : ∀ {u u' : zS}, FZr P u u' → FZq [30] P u u' := fun hh => FZq_mo (FZq_r hh) hP (fun r hr => absurd hr List.not_mem_nil) (fun r hr => by rw [List.mem_singleton.mp hr]; decide)
  unfold v_64_0 vl_64_2
  refine ⟨fun b1 b2 t => b1 = a1 ∧ ∃ j : Nat, j ≤ 6 ∧ b2.toInt = 6 - (j : Int) ∧ RDz K L P n t ∧ FZq [30] P s t ∧ t.2 (P + 12) = s.2 (P + 12) ∧ t.2 (P + 22) = s.2 (P + 22) ∧ p_l K L (e_f K L) 93 (j + 1) (RS P t) = p_l K L (e_f K L) 93 7 (RS P s) ∧ ∀ k : Nat, (RS P t).1 = 0 → zsz s (P + 30) = 5 * (k : Int) → (k : Int) + 1 ≤ (RS P s).2 → ∃ pre : List Int, (pre.length : Int) = b2.toInt ∧ pre ++ p_ls K (e_f K L) (j + 1) (RS P t) = p_ls K (e_f K L) 7 (RS P s) ∧ zsz t (P + 30) = 5 * ((k : Int) + (pre.length : Int)) ∧ SLat t P k (prS a1.toInt pre) ∧ (k : Int) + (pre.length : Int) + 1 ≤ (RS P t).2, fun _ b2 _ => (10 - b2.toInt).toNat, ⟨rfl, 6, by omega, by rw [i0]; decide, h, mo FZr_rf, rfl, rfl, rfl, fun k _ hk hk2 => ⟨[], by rw [i0]; rfl, rfl, by rw [hk]; show _ = 5 * ((k : Int) + ((0 : Nat) : Int)); omega, SLat_nil, by show (k : Int) + ((0 : Nat) : Int) + 1 ≤ _; omega⟩⟩, ?_⟩
  rintro b1 b2 t ⟨rfl, j, g1, g2, g3, g5, g5', g6, g7, g8⟩
  unfold v_64_2
  refine Zt_bd (fun hB => ?_)
  refine Zt.imp (Zt.mo (d := 9) (by omega) (zs_54k (d := 0) (a1 := t.1 82 3) (a2 := 1) (a3 := -1) (a4 := b1) hP (BD_sz hP hB) g3 (by have := g3.2.2; omega) (by decide) (by decide) h1)) ?_
  rintro v1 s2 ⟨rfl, q1, q2, q3, q4, q5, q6, q7⟩
  refine ⟨rfl, ?_⟩
  have body : ∀ z : Int32, decide (¬ z.toInt = 0) = decide (j = 0) → v_64_17 (fun j => Zt (31 + 8) (wd P j) j) P (fun a1' a2' s' => (a1' = b1 ∧ ∃ j : Nat, j ≤ 6 ∧ a2'.toInt = 6 - (j : Int) ∧ RDz K L P n s' ∧ FZq [30] P s s' ∧ s'.2 (P + 12) = s.2 (P + 12) ∧ s'.2 (P + 22) = s.2 (P + 22) ∧ p_l K L (e_f K L) 93 (j + 1) (RS P s') = p_l K L (e_f K L) 93 7 (RS P s) ∧ ∀ k : Nat, (RS P s').1 = 0 → zsz s (P + 30) = 5 * (k : Int) → (k : Int) + 1 ≤ (RS P s).2 → ∃ pre : List Int, (pre.length : Int) = a2'.toInt ∧ pre ++ p_ls K (e_f K L) (j + 1) (RS P s') = p_ls K (e_f K L) 7 (RS P s) ∧ zsz s' (P + 30) = 5 * ((k : Int) + (pre.length : Int)) ∧ SLat s' P k (prS b1.toInt pre) ∧ (k : Int) + (pre.length : Int) + 1 ≤ (RS P s').2) ∧ (10 - a2'.toInt).toNat < (10 - b2.toInt).toNat) b1 b2 z s2 (fun v s' => ∃ r : Int32, v = some (.int r) ∧ PMq K L P n b1.toInt s s' r) := by
    intro z hzz
    unfold v_64_17
    refine Zt.imp (Zt.mo (d := 9) (by omega) (zs_74 (d := 0) (a1 := z) hP hT q4)) ?_
    rintro v5 s6 ⟨rfl, ⟨w1, w2, w3⟩, w4⟩
    rw [hzz, q3] at w1
    refine ⟨rfl, fun x7 hx7 => ?_⟩
    have e7 := hx7 (by omega)
    have F6 : FZq [30] P s s6 := FZq_tr g5 (FZq_tr q1 (mo w3))
    have r12 : s6.2 (P + 12) = s.2 (P + 12) := by rw [w4, q5, g5']
    have r22 : s6.2 (P + 22) = s.2 (P + 22) := by rw [w4, q6, g6]
    have dat : ∀ k : Nat, (RS P s6).1 = 0 → zsz s (P + 30) = 5 * (k : Int) → (k : Int) + 1 ≤ (RS P s).2 → ∃ pre : List Int, (pre.length : Int) = x7.toInt ∧ pre ++ (if j ≠ 0 ∧ t_k K 44 (RS P s6) = true then p_ls K (e_f K L) j (a_d (RS P s6)) else []) = p_ls K (e_f K L) 7 (RS P s) ∧ zsz s6 (P + 30) = 5 * ((k : Int) + (pre.length : Int)) ∧ SLat s6 P k (prS b1.toInt pre) ∧ (k : Int) + (pre.length : Int) + 1 ≤ (RS P s6).2 := by
      intro k hf hk hk2
      rw [w1] at hf
      obtain ⟨e1, e2, e3, e4⟩ := ef_0 hf
      obtain ⟨pre, c1, c2, c3, c4, c5⟩ := g8 k e1 hk hk2
      have hat := g3.2.2
      have hRt : (RS P t).2 = (t.1 82 3).toInt := rfl
      have ekp : zsz t (P + 30) = 5 * (((k + pre.length : Nat)) : Int) := by
        rw [c3]
        omega
      obtain ⟨y1, y2⟩ := q7 (k + pre.length) ekp (by omega)
      have z36 : zsz s6 (P + 30) = zsz s2 (P + 30) := FZq_sz (FZq_r w3) List.not_mem_nil hP (by decide)
      have eR : (RS P s6).2 = (RS P t).2 + 1 := by rw [w1, e4]
      refine ⟨pre ++ [(RS P t).2], by rw [List.length_append]; show ((pre.length + 1 : Nat) : Int) = _; omega, ?_, ?_, ?_, ?_⟩
      · rw [pls_s, ← w1] at c2
        rw [← c2, List.append_assoc]
        rfl
      · rw [z36, y1, List.length_append]
        show _ = 5 * ((k : Int) + ((pre.length + 1 : Nat) : Int))
        omega
      · unfold prS at c4 ⊢
        rw [List.map_append]
        refine SLat_app (SLat_q c4 (FZq_tr q1 (mo w3)) (by rw [List.length_map, c3]; exact Int.le_refl _)) ?_
        rw [List.length_map]
        exact SLat_q (R := []) (s := s2) y2 (FZq_r w3) (by rw [y1]; show 5 * (((k + pre.length : Nat) : Int) + ((1 : Nat) : Int)) ≤ _; omega)
      · rw [List.length_append]
        show (k : Int) + ((pre.length + 1 : Nat) : Int) + 1 ≤ _
        omega
    have fin : ∀ u : zS, RDz K L P n u → FZr P s6 u → u.2 = s6.2 → (RS P u) = RS P s6 → e_k K L 93 (RS P u) = p_l K L (e_f K L) 93 7 (RS P s) → ((RS P s6).1 = 0 → ¬ (j ≠ 0 ∧ t_k K 44 (RS P s6) = true)) → v_64_26 (fun j => Zt (31 + 8) (wd P j) j) P b1 x7 u (fun v s' => ∃ r : Int32, v = some (.int r) ∧ PMq K L P n b1.toInt s s' r) := by
      intro u u1 u3 u4 u5 u6 u7
      unfold v_64_26
      refine Zt.imp (Zt.mo (d := 9) (by omega) (zs_73 (d := 0) (a1 := 93) hP hT u1 (by decide))) ?_
      rintro v1 s9 ⟨rfl, ⟨c1, c2, c3⟩, c4⟩
      rw [show (93 : Int32).toInt = 93 by decide, u6] at c1
      refine ⟨rfl, x7, rfl, c1, c2, FZq_tr F6 (FZq_tr (mo u3) (mo c3)), by omega, by rw [c4, u4]; exact r12, by rw [c4, u4]; exact r22, fun k hr hk hk2 => ?_⟩
      rw [← u6] at hr
      obtain ⟨f1, f2, f3⟩ := ek_0 hr
      rw [u5] at f1 f2 f3
      obtain ⟨pre, d1, d2, d3, d4, d5⟩ := dat k f1 hk hk2
      rw [if_neg (u7 f1), List.append_nil] at d2
      rw [← d2, ← u6, u5, f3]
      dsimp only
      have e9 : s9.2 = s6.2 := by rw [c4, u4]
      have ez : zsz s9 (P + 30) = zsz s6 (P + 30) := by
        rw [FZq_sz (FZq_r c3) List.not_mem_nil hP (by decide), FZq_sz (FZq_r u3) List.not_mem_nil hP (by decide)]
      exact ⟨by omega, by rw [ez, d3], SLat_eq d4 (fun i _ => by rw [e9]), by omega⟩
    rw [p_l, ← w1] at g7
    refine ⟨fun h6 => ?_, fun h6 => ?_⟩
    · have ej : j = 0 := by omega
      rw [if_neg (fun w => w.1 ej)] at g7
      exact fin s6 w2 FZr_rf rfl rfl g7 (fun _ w => w.1 ej)
    · refine Zt.imp (Zt.mo (d := 9) (by omega) (zs_72 (d := 0) (a1 := 44) hP hT w2 (by decide))) ?_
      rintro v8 s9 ⟨r10, rfl, hr, r4⟩
      rw [show (44 : Int32).toInt = 44 by decide] at hr
      refine ⟨r10, rfl, fun hne => ?_, fun heq => ?_⟩
      · rcases hr with ⟨y1, y2, y3, y4, y5⟩ | ⟨y1, -⟩
        · have ej : ¬ j = 0 := by omega
          rw [if_pos ⟨ej, y2⟩] at g7
          obtain ⟨f0, f1⟩ := tk_t y2
          have eR2 : (RS P s9).2 = (RS P s6).2 + 1 := by rw [y3]; rfl
          refine ⟨⟨rfl, j - 1, by omega, by omega, y4, FZq_tr F6 (mo y5), by rw [r4]; exact r12, by rw [r4]; exact r22, by rw [y3, show j - 1 + 1 = j by omega]; exact g7, fun k _ hk hk2 => ?_⟩, by omega⟩
          obtain ⟨pre, d1, d2, d3, d4, d5⟩ := dat k f0 hk hk2
          rw [if_pos ⟨ej, y2⟩] at d2
          exact ⟨pre, d1, by rw [y3, show j - 1 + 1 = j by omega]; exact d2, by rw [FZq_sz (FZq_r y5) List.not_mem_nil hP (by decide)]; exact d3, SLat_eq d4 (fun i _ => by rw [r4]), by omega⟩
        · omega
      · rcases hr with ⟨y1, -⟩ | ⟨y1, y2, y3, y4, y5⟩
        · omega
        · have hno : ¬ (j ≠ 0 ∧ t_k K 44 (RS P s6) = true) := fun w => by
            rw [y2] at w
            cases w.2
          rw [if_neg hno] at g7
          exact fin s9 y4 y5 r4 y3 (by rw [y3]; exact g7) (fun _ => hno)
  refine ⟨fun w => body 0 ?_, fun w => body 1 ?_⟩
  · rw [decide_eq_false (show ¬ ¬ (0 : Int32).toInt = 0 by decide), decide_eq_false (by omega)]
  · rw [decide_eq_true (show ¬ (1 : Int32).toInt = 0 by decide), decide_eq_true (by omega)]
end ZQ9
