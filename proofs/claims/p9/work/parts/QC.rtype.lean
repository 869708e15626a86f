/-! ===== readType ===== -/
def hsL (K L : Int → Int) : Int → List Int → List (Int × Int × Int × Int)
  | _, [] => []
  | h, q :: l => hSlt K L h (0, q + 1) ++ hsL K L (h + 1) l
def SGhs (K L : Int → Int) (s : zS) (P : Nat) : Nat → Int → List Int → Prop
  | _, _, [] => True
  | h, b, q :: l => SGat s P h q b ((h_f K L (0, q + 1)).length : Int) ((h_v K L (0, q + 1)).length : Int) ∧ SGhs K L s P (h + 1) (b + ((hSlt K L (h : Int) (0, q + 1)).length : Int)) l
/-- a type's FORMALS, its members, its slots -/
def tFo (K L : Int → Int) (b : Bool) (σ : RSt) : List Int := if t_k K 91 (y_2 K L b σ) = true then l_nm K L (a_d (y_2 K L b σ)) else []
def tMe (K L : Int → Int) (b : Bool) (σ : RSt) : List Int := l_mb K (y_m K L b σ) 7 (y_5 K L b σ)
def tSt (K L : Int → Int) (b : Bool) (σ : RSt) : Bool := t_k K 4 (y_3 K L b σ)
def tSlt (K L : Int → Int) (h : Int) (b : Bool) (σ : RSt) : List (Int × Int × Int × Int) := nmS 0 (-1) (tFo K L b σ) ++ (if tSt K L b σ = true then nmS 2 (-1) (tMe K L b σ) else hsL K L h (tMe K L b σ))
def tNh (K L : Int → Int) (b : Bool) (σ : RSt) : Nat := if tSt K L b σ = true then 0 else (tMe K L b σ).length
section ZQC
variable {d P k : Nat} {s s' s'' u u' u'' : zS} {K L : Int → Int} {n lo hi t c kd sg : Int} {a1 a2 a3 a4 a5 a6 x r : Int32} {R R' : List Nat} {σ : RSt} {Ls : List (Int × Int × Int × Int)} {b : Bool}
theorem hsL_app : ∀ (l : List Int) (h q : Int), hsL K L h (l ++ [q]) = hsL K L h l ++ hSlt K L (h + (l.length : Int)) (0, q + 1)
  | [], h, q => by
    show hSlt K L h (0, q + 1) ++ [] = [] ++ hSlt K L (h + ((0 : Nat) : Int)) (0, q + 1)
    rw [List.append_nil, List.nil_append, show h + ((0 : Nat) : Int) = h by omega]
  | y :: l, h, q => by
    show hSlt K L h (0, y + 1) ++ hsL K L (h + 1) (l ++ [q]) = (hSlt K L h (0, y + 1) ++ hsL K L (h + 1) l) ++ hSlt K L (h + ((l.length + 1 : Nat) : Int)) (0, q + 1)
    rw [hsL_app l (h + 1) q, List.append_assoc, show h + 1 + (l.length : Int) = h + ((l.length + 1 : Nat) : Int) by omega]
theorem SGhs_app : ∀ (l : List Int) (h : Nat) (b q : Int), SGhs K L s P h b l → SGat s P (h + l.length) q (b + ((hsL K L (h : Int) l).length : Int)) ((h_f K L (0, q + 1)).length : Int) ((h_v K L (0, q + 1)).length : Int) → SGhs K L s P h b (l ++ [q])
  | [], h, b, q, _, g => by
    refine ⟨?_, trivial⟩
    have e : b + ((hsL K L (h : Int) []).length : Int) = b := by show b + ((0 : Nat) : Int) = b; omega
    rw [e] at g
    exact g
  | y :: l, h, b, q, g, g2 => by
    refine ⟨g.1, SGhs_app l (h + 1) _ q g.2 ?_⟩
    have e : (hsL K L (h : Int) (y :: l)).length = (hSlt K L (h : Int) (0, y + 1)).length + (hsL K L ((h : Int) + 1) l).length := by
      show (hSlt K L (h : Int) (0, y + 1) ++ hsL K L ((h : Int) + 1) l).length = _
      rw [List.length_append]
    rw [e, List.length_cons] at g2
    rw [show h + 1 + l.length = h + (l.length + 1) by omega, show ((h + 1 : Nat) : Int) = (h : Int) + 1 by omega]
    have e2 : b + ((hSlt K L (h : Int) (0, y + 1)).length : Int) + ((hsL K L ((h : Int) + 1) l).length : Int) = b + (((hSlt K L (h : Int) (0, y + 1)).length + (hsL K L ((h : Int) + 1) l).length : Nat) : Int) := by omega
    rw [e2]
    exact g2
theorem SGhs_q (hF : FZq R P s s') (hR : ∀ r ∈ R, r ∈ rwL) : ∀ (l : List Int) (h : Nat) (b : Int), SGhs K L s P h b l → 5 * ((h : Int) + (l.length : Int)) ≤ zsz s (P + 28) → SGhs K L s' P h b l
  | [], _, _, _, _ => trivial
  | y :: l, h, b, g, hz => by
    rw [List.length_cons] at hz
    exact ⟨SGat_q g.1 hF hR (by omega), SGhs_q hF hR l (h + 1) _ g.2 (by omega)⟩
theorem lmb_s (f : Bool → RSt → RSt) (j : Nat) (σ : RSt) : l_mb K f (j + 1) σ = if σ.1 = 0 ∧ ¬ K σ.2 = 125 then σ.2 :: l_mb K f j (f (decide (j = 0)) σ) else [] := by rw [l_mb]
theorem pmb_s (f : Bool → RSt → RSt) (j : Nat) (σ : RSt) : p_mb K f (j + 1) σ = if σ.1 = 0 ∧ ¬ K σ.2 = 125 then p_mb K f j (f (decide (j = 0)) σ) else σ := by rw [p_mb]
theorem pmb_f {f : Bool → RSt → RSt} (h : ¬ σ.1 = 0) : ∀ j, p_mb K f j σ = σ
  | 0 => rfl
  | j + 1 => by rw [pmb_s, if_neg (fun w => h w.1)]
theorem hd_le (h : (p_hd K L σ).1 = 0) : σ.1 = 0 ∧ σ.2 ≤ (p_hd K L σ).2 := by
  have := hd_fw h
  exact ⟨this.1, by omega⟩
theorem ms_fw : Fw (m_s K L) := fun b σ h => by
  unfold m_s at h ⊢
  obtain ⟨e1, e2, e3⟩ := ek_0 h
  have := nf_fw _ _ e1
  rw [e3]
  exact ⟨this.1, by dsimp only; omega⟩
theorem mi_fw : Fw (m_i K L) := fun b σ h => by
  unfold m_i at h ⊢
  obtain ⟨e1, e2, e3⟩ := ek_0 h
  have h1 := hd_fw e1
  have h2 := ef_0 h1.1
  rw [e3]
  rw [h2.2.2.2] at h1 ⊢
  exact ⟨h2.1, by dsimp only at *; omega⟩
/-- what readType does -/
def TYq (K L : Int → Int) (P : Nat) (n : Int) (b : Bool) (s s' : zS) : Prop := RS P s' = p_ty K L b (RS P s) ∧ RDz K L P n s' ∧ FZq [24, 28, 30, 32] P s s' ∧ ∀ k h T D : Nat, (p_ty K L b (RS P s)).1 = 0 → zsz s (P + 30) = 5 * (k : Int) → zsz s (P + 28) = 5 * (h : Int) → zsz s (P + 24) = 6 * (T : Int) → zsz s (P + 32) = 3 * (D : Int) → (k : Int) ≤ (RS P s).2 → (h : Int) ≤ (RS P s).2 → T + 1 ≤ 24 → D + 1 ≤ 84 → DSt K L P s s' k (tSlt K L h b (RS P s)) ∧ zsz s' (P + 28) = 5 * ((h : Int) + (tNh K L b (RS P s) : Int)) ∧ ((h : Int) + (tNh K L b (RS P s) : Int) ≤ (RS P s').2) ∧ (tSt K L b (RS P s) = false → SGhs K L s' P h ((k : Int) + ((tFo K L b (RS P s)).length : Int)) (tMe K L b (RS P s))) ∧ zsz s' (P + 24) = 6 * ((T : Int) + 1) ∧ zsz s' (P + 32) = 3 * ((D : Int) + 1) ∧ (∀ i : Nat, (s'.2 (P + 22) i).toInt = if i = T then ((tFo K L b (RS P s)).length : Int) else (s.2 (P + 22) i).toInt) ∧ TYat s' P T ((RS P s).2 + 1) (if tSt K L b (RS P s) = true then 4 else 5) k (if tSt K L b (RS P s) = true then (k : Int) + ((tFo K L b (RS P s)).length : Int) else (h : Int)) ((tMe K L b (RS P s)).length : Int) (-1) ∧ DCat s' P D (T : Int) k ((k : Int) + ((tSlt K L h b (RS P s)).length : Int))
theorem nmS_len {l : List Int} : (nmS kd sg l).length = l.length := by
  unfold nmS
  rw [List.length_map]
theorem nmS_app {l l' : List Int} : nmS kd sg (l ++ l') = nmS kd sg l ++ nmS kd sg l' := by
  unfold nmS
  rw [List.map_append]
set_option maxHeartbeats 4000000 in
/-- the members, and the end; s2 stands behind { -/
theorem zs_62l (hP : P = 3 ∨ P = 39) (hT : TXp K L n) {s2 : zS} (hD2 : RDz K L P n s2) (hF2 : FZq [24, 28, 30, 32] P s s2) (h22 : s2.2 (P + 22) = s.2 (P + 22)) (e5 : RS P s2 = y_5 K L b (RS P s)) (ha1 : a1.toInt = zsz s (P + 30) / 5 ∧ 0 ≤ a1.toInt ∧ a1.toInt ≤ 4000) (ha2 : -1 ≤ a2.toInt ∧ a2.toInt ≤ 5000 ∧ ((RS P s2).1 = 0 → a2.toInt = (RS P s).2 + 1)) (ha3 : 0 ≤ a3.toInt ∧ a3.toInt ≤ 7) (ha4 : (¬ a4.toInt = 0 ∧ tSt K L b (RS P s) = true) ∨ (a4.toInt = 0 ∧ tSt K L b (RS P s) = false)) (ha5 : -1 ≤ a5.toInt ∧ a5.toInt ≤ 5000) (hz2 : zsz s2 (P + 28) = zsz s (P + 28) ∧ zsz s2 (P + 24) = zsz s (P + 24) ∧ zsz s2 (P + 32) = zsz s (P + 32)) (hd : ∀ k h : Nat, (RS P s2).1 = 0 → zsz s (P + 30) = 5 * (k : Int) → zsz s (P + 28) = 5 * (h : Int) → (k : Int) ≤ (RS P s).2 → DSt K L P s s2 k (nmS 0 (-1) (tFo K L b (RS P s))) ∧ a3.toInt = ((tFo K L b (RS P s)).length : Int) ∧ a5.toInt = (if tSt K L b (RS P s) = true then (k : Int) + ((tFo K L b (RS P s)).length : Int) else (h : Int)) ∧ (RS P s).2 + 3 ≤ (RS P s2).2) : v_62_64 (fun j => Zt (43 + 8) (wd P j) j) P a1 a2 a3 a4 a5 s2 (fun v s' => v = none ∧ TYq K L P n b s s') := by
  have hn := hT.1
  have ml : ∀ r ∈ [24, 28, 30, 32], r ∈ rwL := by decide
  have mo0 : ∀ {u u' : zS}, FZr P u u' → FZq [24, 28, 30, 32] P u u' := fun hh => FZq_mo (FZq_r hh) hP (fun r hr => absurd hr List.not_mem_nil) ml
  have moR : ∀ {R : List Nat} {u u' : zS}, (∀ r ∈ R, r ∈ [24, 28, 30, 32]) → FZq R P u u' → FZq [24, 28, 30, 32] P u u' := fun hs hh => FZq_mo hh hP hs ml
  unfold v_62_64 vl_62_67
  refine ⟨fun b1 b2 b3 b4 b5 b6 t => b1 = a1 ∧ b2 = a2 ∧ b3 = a3 ∧ b4 = a4 ∧ b5 = a5 ∧ ∃ j : Nat, j ≤ 7 ∧ b6.toInt = 7 - (j : Int) ∧ RDz K L P n t ∧ FZq [24, 28, 30, 32] P s t ∧ t.2 (P + 22) = s.2 (P + 22) ∧ zsz t (P + 24) = zsz s (P + 24) ∧ zsz t (P + 32) = zsz s (P + 32) ∧ p_mb K (y_m K L b (RS P s)) j (RS P t) = p_mb K (y_m K L b (RS P s)) 7 (y_5 K L b (RS P s)) ∧ (j = 0 → ¬ (RS P t).1 = 0) ∧ ∀ k h : Nat, (RS P t).1 = 0 → zsz s (P + 30) = 5 * (k : Int) → zsz s (P + 28) = 5 * (h : Int) → (k : Int) ≤ (RS P s).2 → (h : Int) ≤ (RS P s).2 → (RS P s2).1 = 0 ∧ ∃ pre : List Int, (pre.length : Int) = b6.toInt ∧ pre ++ l_mb K (y_m K L b (RS P s)) j (RS P t) = tMe K L b (RS P s) ∧ (RS P s).2 + 3 + (pre.length : Int) ≤ (RS P t).2 ∧ DSt K L P s t k (nmS 0 (-1) (tFo K L b (RS P s)) ++ (if tSt K L b (RS P s) = true then nmS 2 (-1) pre else hsL K L h pre)) ∧ zsz t (P + 28) = 5 * ((h : Int) + (if tSt K L b (RS P s) = true then 0 else (pre.length : Int))) ∧ (tSt K L b (RS P s) = false → SGhs K L t P h ((k : Int) + ((tFo K L b (RS P s)).length : Int)) pre), fun _ _ _ _ _ b6 _ => (10 - b6.toInt).toNat, ⟨rfl, rfl, rfl, rfl, rfl, 7, by omega, by rw [i0]; decide, hD2, hF2, h22, hz2.2.1, hz2.2.2, by rw [e5], by omega, fun k h hf hk hh hk2 hh2 => ?_⟩, ?_⟩
  · obtain ⟨d1, d2, d3, d4⟩ := hd k h hf hk hh hk2
    refine ⟨hf, [], by rw [i0]; rfl, by rw [e5]; rfl, by show (RS P s).2 + 3 + ((0 : Nat) : Int) ≤ _; omega, ?_, ?_, fun _ => trivial⟩
    · have e : (if tSt K L b (RS P s) = true then nmS 2 (-1) [] else hsL K L h []) = [] := by split <;> rfl
      rw [e, List.append_nil]
      exact d1
    · rw [hz2.1, hh]
      split
      · omega
      · show _ = 5 * ((h : Int) + ((0 : Nat) : Int))
        omega
  rintro b1 b2 b3 b4 b5 b6 t ⟨rfl, rfl, rfl, rfl, rfl, j, g1, g2, g3, g4, g5, g6, g7, g8, g9, g10⟩
  -- the end
  have fin : ¬ (¬ j = 0 ∧ (RS P t).1 = 0 ∧ ¬ K (RS P t).2 = 125) → v_62_115 (fun j => Zt (43 + 8) (wd P j) j) P b1 b2 b3 b4 b5 b6 t (fun v s' => v = none ∧ TYq K L P n b s s') := by
    intro hno
    have ePm : p_mb K (y_m K L b (RS P s)) 7 (y_5 K L b (RS P s)) = RS P t := by
      rw [← g8]
      cases j with
      | zero => rfl
      | succ j => rw [pmb_s, if_neg (fun w => hno ⟨by omega, w⟩)]
    unfold v_62_115
    refine Zt.imp (Zt.mo (d := 9) (by omega) (zs_73 (d := 0) (a1 := 125) hP hT g3 (by decide))) ?_
    rintro v1 s3 ⟨rfl, ⟨p1, p2, p3⟩, p4⟩
    rw [show (125 : Int32).toInt = 125 by decide, ← ePm] at p1
    have p1' : RS P s3 = p_ty K L b (RS P s) := p1
    refine ⟨rfl, ?_⟩
    have last : ∀ fm : Int32, fm.toInt = (if tSt K L b (RS P s) = true then 4 else 5) → v_62_126 (fun j => Zt (43 + 8) (wd P j) j) P b1 b2 b3 b4 b5 b6 b2 fm s3 (fun v s' => v = none ∧ TYq K L P n b s s') := by
      intro fm hfm
      have hfm2 : fm.toInt = 4 ∨ fm.toInt = 5 := by
        rw [hfm]
        split <;> omega
      unfold v_62_126
      refine Zt.imp (Zt.mo (d := 10) (by omega) (zs_56 (d := 0) (a1 := b2) (a2 := fm) (a3 := b1) (a4 := b3) (a5 := b5) (a6 := b6) hP p2 (by omega) (by omega) (by omega) ha3 ha5 (by omega))) ?_
      rintro v5 s6 ⟨rfl, c1, c2, c3, c4, c5⟩
      refine ⟨rfl, rfl, by rw [c2, p1'], c3, FZq_tr g4 (FZq_tr (mo0 p3) (moR (by decide) c1)), fun k h T D hr hk hh hTT hDD hk2 hh2 hT2 hD2 => ?_⟩
      have hr' : (e_k K L 125 (RS P t)).1 = 0 := by
        rw [← ePm]
        exact hr
      obtain ⟨f1, f2, f3⟩ := ek_0 hr'
      obtain ⟨f0, pre, d1, d2, d3, d4, d5, d6⟩ := g10 k h f1 hk hh hk2 hh2
      obtain ⟨m1, m2, m3, m4⟩ := hd k h f0 hk hh hk2
      have hemp : l_mb K (y_m K L b (RS P s)) j (RS P t) = [] := by
        cases j with
        | zero => rfl
        | succ j => rw [lmb_s, if_neg (fun w => w.2 f2)]
      rw [hemp, List.append_nil] at d2
      rw [d2] at d1 d3 d4 d5 d6
      have eR3 : (RS P s3).2 = (RS P t).2 + 1 := by
        rw [p1]
        show (e_k K L 125 (p_mb K (y_m K L b (RS P s)) 7 (y_5 K L b (RS P s)))).2 = _
        rw [ePm, f3]
      have z24 : zsz s3 (P + 24) = 6 * (T : Int) := by rw [FZq_sz (FZq_r p3) List.not_mem_nil hP (by decide), g6, hTT]
      have z32 : zsz s3 (P + 32) = 3 * (D : Int) := by rw [FZq_sz (FZq_r p3) List.not_mem_nil hP (by decide), g7, hDD]
      obtain ⟨x1, x2, x3, x4, x5⟩ := c5 T D z24 z32 hT2 hD2
      have D3 := DSt_ps d4 (u' := s3) (by rw [p4]) (by rw [p4]) (FZq_sz (FZq_r p3) List.not_mem_nil hP (by decide)) (by omega)
      have D6 := DSt_ps D3 (u' := s6) (FZq_row c1 (by decide) (by decide) (by decide)) c4 (FZq_sz c1 (by decide) hP (by decide)) (by rw [c2]; exact Int.le_refl _)
      have z28 : zsz s6 (P + 28) = zsz t (P + 28) := by rw [FZq_sz c1 (by decide) hP (by decide), FZq_sz (FZq_r p3) List.not_mem_nil hP (by decide)]
      have ek : b1.toInt = (k : Int) := by rw [ha1.1, hk]; omega
      have enh : ((h : Int) + (if tSt K L b (RS P s) = true then 0 else ((tMe K L b (RS P s)).length : Int))) = (h : Int) + (tNh K L b (RS P s) : Int) := by
        unfold tNh
        split <;> rfl
      have esl : nmS 0 (-1) (tFo K L b (RS P s)) ++ (if tSt K L b (RS P s) = true then nmS 2 (-1) (tMe K L b (RS P s)) else hsL K L h (tMe K L b (RS P s))) = tSlt K L h b (RS P s) := rfl
      rw [esl] at D6
      refine ⟨D6, by rw [z28, d5, enh], ?_, fun hs => ?_, x1, x2, fun i => ?_, ?_, ?_⟩
      · rw [c2, eR3]
        unfold tNh
        split <;> omega
      · refine SGhs_q c1 (by decide) _ _ _ (SGhs_q (FZq_r p3) (fun r hr => absurd hr List.not_mem_nil) _ _ _ (d6 hs) ?_) ?_
        · rw [d5, hs]
          exact Int.le_refl _
        · rw [FZq_sz (FZq_r p3) List.not_mem_nil hP (by decide), d5, hs]
          exact Int.le_refl _
      · rw [x3 i]
        by_cases ei : i = T
        · rw [if_pos ei, if_pos ei, m2]
        · rw [if_neg ei, if_neg ei, p4, g5]
      · rw [ha2.2.2 f0, hfm, ek, m3, ← d1] at x4
        exact x4
      · have e30 : zsz s3 (P + 30) / 5 = (k : Int) + ((tSlt K L h b (RS P s)).length : Int) := by
          rw [← esl, D3.1]
          omega
        rw [ek, e30] at x5
        exact x5
    rcases ha4 with ⟨h4, hs⟩ | ⟨h4, hs⟩
    · exact ⟨fun w => absurd w h4, fun _ => last 4 (by rw [hs, if_pos rfl]; decide)⟩
    · exact ⟨fun _ => last 5 (by rw [hs, if_neg (by decide)]; decide), fun w => absurd h4 w⟩
  unfold v_62_67
  rw [zg_K, g3.1]
  refine ⟨fun w => fin (fun q => by omega), fun w => ⟨fun w2 => fin (fun q => w2 q.2.1), fun h0 => ⟨fun w3 => fin (fun q => q.2.2 w3), fun hk => ?_⟩⟩⟩
  have hj : ¬ j = 0 := fun q => g9 q h0
  obtain ⟨j, rfl⟩ : ∃ i, j = i + 1 := ⟨j - 1, by omega⟩
  have h00 : (RS P t).1 = 0 := h0
  have hk0 : ¬ K (RS P t).2 = 125 := hk
  rw [pmb_s, if_pos ⟨h00, hk0⟩] at g8
  -- behind a member: ;
  have semi : ∀ u : zS, RDz K L P n u → FZq [24, 28, 30, 32] P s u → u.2 (P + 22) = s.2 (P + 22) → zsz u (P + 24) = zsz s (P + 24) → zsz u (P + 32) = zsz s (P + 32) → e_k K L 59 (RS P u) = y_m K L b (RS P s) (decide (j = 0)) (RS P t) → (∀ k h : Nat, (RS P u).1 = 0 → zsz s (P + 30) = 5 * (k : Int) → zsz s (P + 28) = 5 * (h : Int) → (k : Int) ≤ (RS P s).2 → (h : Int) ≤ (RS P s).2 → ∀ pre : List Int, (pre.length : Int) = b6.toInt → (RS P s).2 + 3 + (pre.length : Int) ≤ (RS P t).2 → DSt K L P s t k (nmS 0 (-1) (tFo K L b (RS P s)) ++ (if tSt K L b (RS P s) = true then nmS 2 (-1) pre else hsL K L h pre)) → zsz t (P + 28) = 5 * ((h : Int) + (if tSt K L b (RS P s) = true then 0 else (pre.length : Int))) → (tSt K L b (RS P s) = false → SGhs K L t P h ((k : Int) + ((tFo K L b (RS P s)).length : Int)) pre) → DSt K L P s u k (nmS 0 (-1) (tFo K L b (RS P s)) ++ (if tSt K L b (RS P s) = true then nmS 2 (-1) (pre ++ [(RS P t).2]) else hsL K L h (pre ++ [(RS P t).2]))) ∧ zsz u (P + 28) = 5 * ((h : Int) + (if tSt K L b (RS P s) = true then 0 else ((pre ++ [(RS P t).2]).length : Int))) ∧ (tSt K L b (RS P s) = false → SGhs K L u P h ((k : Int) + ((tFo K L b (RS P s)).length : Int)) (pre ++ [(RS P t).2])) ∧ (RS P t).2 < (RS P u).2) → v_62_110 (fun j => Zt (43 + 8) (wd P j) j) P (fun a1' a2' a3' a4' a5' a6' s' => (a1' = b1 ∧ a2' = b2 ∧ a3' = b3 ∧ a4' = b4 ∧ a5' = b5 ∧ ∃ j : Nat, j ≤ 7 ∧ a6'.toInt = 7 - (j : Int) ∧ RDz K L P n s' ∧ FZq [24, 28, 30, 32] P s s' ∧ s'.2 (P + 22) = s.2 (P + 22) ∧ zsz s' (P + 24) = zsz s (P + 24) ∧ zsz s' (P + 32) = zsz s (P + 32) ∧ p_mb K (y_m K L b (RS P s)) j (RS P s') = p_mb K (y_m K L b (RS P s)) 7 (y_5 K L b (RS P s)) ∧ (j = 0 → ¬ (RS P s').1 = 0) ∧ ∀ k h : Nat, (RS P s').1 = 0 → zsz s (P + 30) = 5 * (k : Int) → zsz s (P + 28) = 5 * (h : Int) → (k : Int) ≤ (RS P s).2 → (h : Int) ≤ (RS P s).2 → (RS P s2).1 = 0 ∧ ∃ pre : List Int, (pre.length : Int) = a6'.toInt ∧ pre ++ l_mb K (y_m K L b (RS P s)) j (RS P s') = tMe K L b (RS P s) ∧ (RS P s).2 + 3 + (pre.length : Int) ≤ (RS P s').2 ∧ DSt K L P s s' k (nmS 0 (-1) (tFo K L b (RS P s)) ++ (if tSt K L b (RS P s) = true then nmS 2 (-1) pre else hsL K L h pre)) ∧ zsz s' (P + 28) = 5 * ((h : Int) + (if tSt K L b (RS P s) = true then 0 else (pre.length : Int))) ∧ (tSt K L b (RS P s) = false → SGhs K L s' P h ((k : Int) + ((tFo K L b (RS P s)).length : Int)) pre)) ∧ (10 - a6'.toInt).toNat < (10 - b6.toInt).toNat) b1 b2 b3 b4 b5 b6 (t.1 82 3) u (fun v s' => v = none ∧ TYq K L P n b s s') := by
    intro u u1 u2 u3 u4 u5 u6 u7
    unfold v_62_110
    refine Zt.imp (Zt.mo (d := 9) (by omega) (zs_73 (d := 0) (a1 := 59) hP hT u1 (by decide))) ?_
    rintro v1 s3 ⟨rfl, ⟨p1, p2, p3⟩, p4⟩
    rw [show (59 : Int32).toInt = 59 by decide] at p1
    refine ⟨rfl, fun x3 hx3 => ?_⟩
    have e3 := hx3 (by omega)
    have p1' : RS P s3 = y_m K L b (RS P s) (decide (j = 0)) (RS P t) := p1.trans u6
    refine ⟨⟨rfl, rfl, rfl, rfl, rfl, j, by omega, by omega, p2, FZq_tr u2 (mo0 p3), by rw [p4]; exact u3, by rw [FZq_sz (FZq_r p3) List.not_mem_nil hP (by decide)]; exact u4, by rw [FZq_sz (FZq_r p3) List.not_mem_nil hP (by decide)]; exact u5, by rw [p1']; exact g8, fun ej => ?_, fun k h hf hk hh hk2 hh2 => ?_⟩, by omega⟩
    · rw [p1', ej]
      intro hf
      have hfw : ∀ σ', (y_m K L b (RS P s) true σ').1 = 0 → False := fun σ' hq => by
        unfold y_m at hq
        split at hq
        · unfold m_s n_f at hq
          have := (pt_fw 10 _ _ (ek_0 hq).1).1
          exact ef_t this
        · unfold m_i at hq
          exact ef_t (hd_fw (ek_0 hq).1).1
      exact hfw _ hf
    · rw [p1] at hf
      obtain ⟨f1, f2, f3⟩ := ek_0 hf
      obtain ⟨f0, pre, d1, d2, d3, d4, d5, d6⟩ := g10 k h h00 hk hh hk2 hh2
      obtain ⟨q1, q2, q3, q4⟩ := u7 k h f1 hk hh hk2 hh2 pre d1 d3 d4 d5 d6
      have eR3 : (RS P s3).2 = (RS P u).2 + 1 := by rw [p1, f3]
      refine ⟨f0, pre ++ [(RS P t).2], by rw [List.length_append]; show ((pre.length + 1 : Nat) : Int) = _; omega, ?_, by rw [List.length_append]; show (RS P s).2 + 3 + ((pre.length + 1 : Nat) : Int) ≤ _; omega, DSt_ps q1 (by rw [p4]) (by rw [p4]) (FZq_sz (FZq_r p3) List.not_mem_nil hP (by decide)) (by omega), by rw [FZq_sz (FZq_r p3) List.not_mem_nil hP (by decide)]; exact q2, fun hs => ?_⟩
      · rw [lmb_s, if_pos ⟨h00, hk0⟩] at d2
        rw [p1', List.append_assoc]
        exact d2
      · refine SGhs_q (FZq_r p3) (fun r hr => absurd hr List.not_mem_nil) _ _ _ (q3 hs) ?_
        rw [q2, hs]
        exact Int.le_refl _
  have body : ∀ z : Int32, decide (¬ z.toInt = 0) = decide (j = 0) → v_62_91 (fun j => Zt (43 + 8) (wd P j) j) P (fun a1' a2' a3' a4' a5' a6' s' => (a1' = b1 ∧ a2' = b2 ∧ a3' = b3 ∧ a4' = b4 ∧ a5' = b5 ∧ ∃ j : Nat, j ≤ 7 ∧ a6'.toInt = 7 - (j : Int) ∧ RDz K L P n s' ∧ FZq [24, 28, 30, 32] P s s' ∧ s'.2 (P + 22) = s.2 (P + 22) ∧ zsz s' (P + 24) = zsz s (P + 24) ∧ zsz s' (P + 32) = zsz s (P + 32) ∧ p_mb K (y_m K L b (RS P s)) j (RS P s') = p_mb K (y_m K L b (RS P s)) 7 (y_5 K L b (RS P s)) ∧ (j = 0 → ¬ (RS P s').1 = 0) ∧ ∀ k h : Nat, (RS P s').1 = 0 → zsz s (P + 30) = 5 * (k : Int) → zsz s (P + 28) = 5 * (h : Int) → (k : Int) ≤ (RS P s).2 → (h : Int) ≤ (RS P s).2 → (RS P s2).1 = 0 ∧ ∃ pre : List Int, (pre.length : Int) = a6'.toInt ∧ pre ++ l_mb K (y_m K L b (RS P s)) j (RS P s') = tMe K L b (RS P s) ∧ (RS P s).2 + 3 + (pre.length : Int) ≤ (RS P s').2 ∧ DSt K L P s s' k (nmS 0 (-1) (tFo K L b (RS P s)) ++ (if tSt K L b (RS P s) = true then nmS 2 (-1) pre else hsL K L h pre)) ∧ zsz s' (P + 28) = 5 * ((h : Int) + (if tSt K L b (RS P s) = true then 0 else (pre.length : Int))) ∧ (tSt K L b (RS P s) = false → SGhs K L s' P h ((k : Int) + ((tFo K L b (RS P s)).length : Int)) pre)) ∧ (10 - a6'.toInt).toNat < (10 - b6.toInt).toNat) b1 b2 b3 b4 b5 b6 (t.1 82 3) z t (fun v s' => v = none ∧ TYq K L P n b s s') := by
    intro z hz
    unfold v_62_91
    refine Zt.imp (Zt.mo (d := 9) (by omega) (zs_74 (d := 0) (a1 := z) hP hT g3)) ?_
    rintro v1 s3 ⟨rfl, ⟨p1, p2, p3⟩, p4⟩
    rw [hz] at p1
    have hat : (RS P t).2 = (t.1 82 3).toInt := rfl
    refine ⟨rfl, fun h4 => ?_, fun h4 => ?_⟩
    · -- a HEAD
      have hs : tSt K L b (RS P s) = false := by
        rcases ha4 with ⟨q, -⟩ | ⟨-, q⟩
        · exact absurd h4 q
        · exact q
      have hym : y_m K L b (RS P s) = m_i K L := by
        unfold y_m
        unfold tSt at hs
        rw [hs, if_neg (by decide)]
      refine Zt.imp (Zt.mo (d := 42) (by omega) (zs_66 (a1 := t.1 82 3) hP hT p2 (by have := g3.2.2; omega))) ?_
      rintro v3 s4 ⟨rfl, q1, q2, q3, q4, q5⟩
      refine ⟨rfl, semi s4 q2 (FZq_tr g4 (FZq_tr (mo0 p3) (moR (by decide) q3))) (by rw [q4, p4, g5]) ?_ ?_ ?_ (fun k h hf hk hh hk2 hh2 pre d1 d3 d4 d5 d6 => ?_)⟩
      · rw [FZq_sz q3 (by decide) hP (by decide), FZq_sz (FZq_r p3) List.not_mem_nil hP (by decide), g6]
      · rw [FZq_sz q3 (by decide) hP (by decide), FZq_sz (FZq_r p3) List.not_mem_nil hP (by decide), g7]
      · rw [q1, p1, hym]
        rfl
      · rw [q1] at hf
        have hef := hd_fw hf
        rw [p1] at hef
        obtain ⟨e1, e2, e3, e4⟩ := ef_0 hef.1
        have eS3 : RS P s3 = (0, (RS P t).2 + 1) := by rw [p1, e4]
        rw [hs, if_neg (by decide)] at d4 d5
        have z28 : zsz s3 (P + 28) = 5 * ((h + pre.length : Nat) : Int) := by
          rw [FZq_sz (FZq_r p3) List.not_mem_nil hP (by decide), d5]
          omega
        have D3 := DSt_ps d4 (u' := s3) (by rw [p4]) (by rw [p4]) (FZq_sz (FZq_r p3) List.not_mem_nil hP (by decide)) (by rw [eS3]; dsimp only; omega)
        obtain ⟨w1, w2, w3⟩ := q5 s k (h + pre.length) _ hf D3 z28 (by rw [eS3]; dsimp only; omega)
        rw [eS3] at w1 w3
        rw [hs, if_neg (by decide), if_neg (by decide)]
        refine ⟨?_, ?_, fun _ => ?_, ?_⟩
        · rw [hsL_app, ← List.append_assoc]
          rw [show ((h + pre.length : Nat) : Int) = (h : Int) + (pre.length : Int) by omega] at w1
          exact w1
        · rw [w2, List.length_append]
          show _ = 5 * ((h : Int) + ((pre.length + 1 : Nat) : Int))
          omega
        · refine SGhs_app _ _ _ _ (SGhs_q q3 (by decide) _ _ _ (SGhs_q (FZq_r p3) (fun r hr => absurd hr List.not_mem_nil) _ _ _ (d6 hs) ?_) ?_) ?_
          · rw [d5]
            exact Int.le_refl _
          · rw [z28]
            omega
          · rw [List.length_append, nmS_len, ← hat] at w3
            rw [show (k : Int) + ((tFo K L b (RS P s)).length : Int) + ((hsL K L (h : Int) pre).length : Int) = (k : Int) + (((tFo K L b (RS P s)).length + (hsL K L (h : Int) pre).length : Nat) : Int) by omega]
            exact w3
        · rw [q1]
          have := hef.2
          rw [e4] at this
          rw [p1, e4]
          dsimp only at this ⊢
          omega
    · -- a FIELD
      have hs : tSt K L b (RS P s) = true := by
        rcases ha4 with ⟨-, q⟩ | ⟨q, -⟩
        · exact q
        · exact absurd q h4
      have hym : y_m K L b (RS P s) = m_s K L := by
        unfold y_m
        unfold tSt at hs
        rw [hs, if_pos rfl]
      refine Zt_bd (fun hB2 => ?_)
      refine Zt.imp (Zt.mo (d := 9) (by omega) (zs_54k (d := 0) (a1 := t.1 82 3) (a2 := 2) (a3 := s3.1 82 3) (a4 := -1) hP (BD_sz hP hB2) p2 (by have := g3.2.2; omega) (by decide) (by have := p2.2.2; omega) (by decide))) ?_
      rintro v5 s6 ⟨rfl, q1, q2, q3, q4, q5, q6, q7⟩
      refine ⟨rfl, ?_⟩
      refine Zt.imp (Zt.mo (d := 32) (by omega) (zs_67 hP hT 10 (by omega) 1 0 s6 (by decide) (by decide) q4)) ?_
      rintro v7 s8 ⟨rfl, w0⟩
      rw [decide_eq_false (show ¬ 6 ≤ (0 : Int32).toInt by decide)] at w0
      have w0' := w0
      obtain ⟨⟨w1, w2, w3⟩, w4⟩ := w0
      refine ⟨rfl, semi s8 w2 (FZq_tr g4 (FZq_tr (mo0 p3) (FZq_tr (moR (by decide) q1) (mo0 w3)))) (by rw [w3.2 _ (by omega), q6, p4, g5]) ?_ ?_ ?_ (fun k h hf hk hh hk2 hh2 pre d1 d3 d4 d5 d6 => ?_)⟩
      · rw [FZq_sz (FZq_r w3) List.not_mem_nil hP (by decide), FZq_sz q1 (by decide) hP (by decide), FZq_sz (FZq_r p3) List.not_mem_nil hP (by decide), g6]
      · rw [FZq_sz (FZq_r w3) List.not_mem_nil hP (by decide), FZq_sz q1 (by decide) hP (by decide), FZq_sz (FZq_r p3) List.not_mem_nil hP (by decide), g7]
      · rw [w1, q3, p1, hym]
        rfl
      · rw [w1] at hf
        have hpf := pt_fw 10 _ _ hf
        rw [q3, p1] at hpf
        obtain ⟨e1, e2, e3, e4⟩ := ef_0 hpf.1
        have eS3 : RS P s3 = (0, (RS P t).2 + 1) := by rw [p1, e4]
        rw [hs, if_pos rfl] at d4 d5
        have D3 := DSt_ps d4 (u' := s3) (by rw [p4]) (by rw [p4]) (FZq_sz (FZq_r p3) List.not_mem_nil hP (by decide)) (by rw [eS3]; dsimp only; omega)
        have D8 := DSt_sl (q0 := (t.1 82 3).toInt) (kd := 2) (sg := -1) D3 q1 q3 q5 (fun k' hk1 hk2 => by
          have := q7 k' hk1 hk2
          rw [show (2 : Int32).toInt = 2 by decide, show (-1 : Int32).toInt = -1 by decide] at this
          exact this) (by have := p2.2.2.2; have e : (RS P s3).2 = (s3.1 82 3).toInt := rfl; omega) w0' hf hP
        rw [hs, if_pos rfl, if_pos rfl]
        refine ⟨?_, ?_, (fun q => by cases q), ?_⟩
        · rw [nmS_app, ← List.append_assoc]
          rw [eS3] at D8
          exact D8
        · rw [FZq_sz (FZq_r w3) List.not_mem_nil hP (by decide), FZq_sz q1 (by decide) hP (by decide), FZq_sz (FZq_r p3) List.not_mem_nil hP (by decide), d5]
        · rw [w1, q3]
          have := hpf.2
          rw [e4] at this
          rw [p1, e4]
          dsimp only at this ⊢
          omega
  refine ⟨fun w6 => body 0 ?_, fun w6 => body 1 ?_⟩
  · rw [decide_eq_false (show ¬ ¬ (0 : Int32).toInt = 0 by decide), decide_eq_false (by omega)]
  · rw [decide_eq_true (show ¬ (1 : Int32).toInt = 0 by decide), decide_eq_true (by omega)]
end ZQC
