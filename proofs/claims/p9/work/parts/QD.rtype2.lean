/-! ===== readType: the whole ===== -/
section ZQD
variable {d P k : Nat} {s s' s'' u u' u'' : zS} {K L : Int → Int} {n lo hi t c kd sg : Int} {a1 a2 a3 a4 a5 a6 x r : Int32} {R R' : List Nat} {σ : RSt} {Ls : List (Int × Int × Int × Int)} {b : Bool}
theorem DSt_1 (h : zsz u (P + 30) = 5 * (k : Int)) (h12 : u.2 (P + 12) = s.2 (P + 12)) (h1 : (k : Int) + 1 ≤ (RS P u).2) (h2 : (RS P s).2 ≤ (RS P u).2) : DSt K L P s u k [] := ⟨by rw [h]; show _ = 5 * ((k : Int) + ((0 : Nat) : Int)); omega, SLat_nil, h2, fun q _ => by rw [h12], by show (k : Int) + ((0 : Nat) : Int) + 1 ≤ _; omega, fun q hq => absurd hq List.not_mem_nil⟩
theorem y2_0 (h : (y_2 K L b σ).1 = 0) : σ.1 = 0 ∧ K σ.2 = 3 ∧ b = false ∧ y_1 K L b σ = (0, σ.2 + 1) ∧ y_2 K L b σ = (0, σ.2 + 2) := by
  unfold y_2 at h ⊢
  obtain ⟨e1, e2, e3⟩ := ek_0 h
  unfold y_1 at e1 e2 e3 ⊢
  obtain ⟨f1, f2, f3⟩ := ek_0 e1
  unfold y_0 at f1 f2 f3 e3 ⊢
  by_cases hc : t_k K 3 σ = true ∧ b = true
  · rw [if_pos hc] at f1
    dsimp only at f1
    omega
  · rw [if_neg hc] at f1 f2 f3 e3 ⊢
    refine ⟨f1, f2, ?_, f3, ?_⟩
    · cases b with
      | false => rfl
      | true => exact absurd ⟨decide_eq_true ⟨f1, f2⟩, rfl⟩ hc
    · rw [e3, f3, show σ.2 + 1 + 1 = σ.2 + 2 by omega]
set_option maxHeartbeats 4000000 in
theorem zs_62 (hP : P = 3 ∨ P = 39) (hT : TXp K L n) (hD : RDz K L P n s) : Zt 52 (wd P 62) 62 [.ref 82] s (fun v s' => v = none ∧ TYq K L P n (decide (24 ≤ zsz s (P + 24) / 6)) s s') := by
  refine Zt_bd (fun hB => ?_)
  have hz := BD_sz hP hB
  have hn := hT.1
  have l24 := hz 24 (by decide)
  have l28 := hz 28 (by decide)
  have l30 := hz 30 (by decide)
  rw [(limR hP).2.1] at l24
  rw [(limR hP).2.2.2.1] at l28
  rw [(limR hP).2.2.2.2.1] at l30
  have et : (s.1 (P + 24) 2 / 6).toInt = zsz s (P + 24) / 6 := i_div6 rfl l24.1
  have ml : ∀ r ∈ [24, 28, 30, 32], r ∈ rwL := by decide
  have mo0 : ∀ {u u' : zS}, FZr P u u' → FZq [24, 28, 30, 32] P u u' := fun hh => FZq_mo (FZq_r hh) hP (fun r hr => absurd hr List.not_mem_nil) ml
  have moR : ∀ {R : List Nat} {u u' : zS}, (∀ r ∈ R, r ∈ [24, 28, 30, 32]) → FZq R P u u' → FZq [24, 28, 30, 32] P u u' := fun hs hh => FZq_mo hh hP hs ml
  generalize hb : decide (24 ≤ zsz s (P + 24) / 6) = b
  refine zc_62 (d := 43) hP ?_
  -- from the { on: s4 stands ahead of it
  have opn : ∀ (a1 a2 a3 a4 : Int32) (s4 : zS), RDz K L P n s4 → zSz P s4 → FZq [24, 28, 30, 32] P s s4 → s4.2 (P + 22) = s.2 (P + 22) → RS P s4 = y_4 K L b (RS P s) → (a1.toInt = zsz s (P + 30) / 5) → (-1 ≤ a2.toInt ∧ a2.toInt ≤ 5000 ∧ ((RS P s4).1 = 0 → a2.toInt = (RS P s).2 + 1)) → (0 ≤ a3.toInt ∧ a3.toInt ≤ 7) → ((¬ a4.toInt = 0 ∧ tSt K L b (RS P s) = true) ∨ (a4.toInt = 0 ∧ tSt K L b (RS P s) = false)) → (zsz s4 (P + 28) = zsz s (P + 28) ∧ zsz s4 (P + 24) = zsz s (P + 24) ∧ zsz s4 (P + 32) = zsz s (P + 32)) → (∀ k h : Nat, (RS P s4).1 = 0 → zsz s (P + 30) = 5 * (k : Int) → zsz s (P + 28) = 5 * (h : Int) → (k : Int) ≤ (RS P s).2 → DSt K L P s s4 k (nmS 0 (-1) (tFo K L b (RS P s))) ∧ a3.toInt = ((tFo K L b (RS P s)).length : Int) ∧ (RS P s).2 + 2 ≤ (RS P s4).2) → v_62_52 (fun j => Zt (43 + 8) (wd P j) j) P a1 a2 a3 a4 s4 (fun v s' => v = none ∧ TYq K L P n b s s') := by
    intro a1 a2 a3 a4 s4 t1 tz t2 t3 t4 t5 t6 t7 t8 t9 t10
    unfold v_62_52
    refine Zt.imp (Zt.mo (d := 9) (by omega) (zs_73 (d := 0) (a1 := 123) hP hT t1 (by decide))) ?_
    rintro v1 s5 ⟨rfl, ⟨p1, p2, p3⟩, p4⟩
    rw [show (123 : Int32).toInt = 123 by decide, t4] at p1
    have p1' : RS P s5 = y_5 K L b (RS P s) := p1
    have z28 : zsz s5 (P + 28) = zsz s (P + 28) := by rw [FZq_sz (FZq_r p3) List.not_mem_nil hP (by decide), t9.1]
    have back : (RS P s5).1 = 0 → (RS P s4).1 = 0 ∧ (RS P s5).2 = (RS P s4).2 + 1 := fun hf => by
      rw [p1', show y_5 K L b (RS P s) = e_k K L 123 (RS P s4) by rw [t4]; rfl] at hf ⊢
      obtain ⟨f1, f2, f3⟩ := ek_0 hf
      exact ⟨f1, by rw [f3]⟩
    have dat : ∀ k h : Nat, (RS P s5).1 = 0 → zsz s (P + 30) = 5 * (k : Int) → zsz s (P + 28) = 5 * (h : Int) → (k : Int) ≤ (RS P s).2 → DSt K L P s s5 k (nmS 0 (-1) (tFo K L b (RS P s))) ∧ a3.toInt = ((tFo K L b (RS P s)).length : Int) ∧ (RS P s).2 + 3 ≤ (RS P s5).2 := fun k h hf hk hh hk2 => by
      obtain ⟨f1, f2⟩ := back hf
      obtain ⟨d1, d2, d3⟩ := t10 k h f1 hk hh hk2
      exact ⟨DSt_ps d1 (by rw [p4]) (by rw [p4]) (FZq_sz (FZq_r p3) List.not_mem_nil hP (by decide)) (by omega), d2, by omega⟩
    refine ⟨rfl, fun w4 => ?_, fun w4 => ?_⟩
    · have hs : tSt K L b (RS P s) = false := by
        rcases t8 with ⟨q, -⟩ | ⟨-, q⟩
        · exact absurd w4 q
        · exact q
      have e5 : (s5.1 (P + 28) 2 / 5).toInt = zsz s (P + 28) / 5 := by
        have : (s5.1 (P + 28) 2).toInt = zsz s (P + 28) := z28
        exact i_div5 this l28.1
      refine zs_62l hP hT p2 (FZq_tr t2 (mo0 p3)) (by rw [p4]; exact t3) p1' ⟨t5, by omega, by omega⟩ ⟨t6.1, t6.2.1, fun hf => t6.2.2 (back hf).1⟩ t7 t8 (by omega) ⟨z28, by rw [FZq_sz (FZq_r p3) List.not_mem_nil hP (by decide)]; exact t9.2.1, by rw [FZq_sz (FZq_r p3) List.not_mem_nil hP (by decide)]; exact t9.2.2⟩ (fun k h hf hk hh hk2 => ?_)
      obtain ⟨d1, d2, d3⟩ := dat k h hf hk hh hk2
      refine ⟨d1, d2, ?_, d3⟩
      rw [hs, if_neg (by decide), e5, hh]
      omega
    · have hs : tSt K L b (RS P s) = true := by
        rcases t8 with ⟨-, q⟩ | ⟨q, -⟩
        · exact q
        · exact absurd q w4
      have tz5 : zSz P s5 := zSz_q (FZq_r p3) hP tz (fun r hr => absurd hr List.not_mem_nil)
      have l5 := tz5 30 (by decide)
      rw [(limR hP).2.2.2.2.1] at l5
      have e5 : (s5.1 (P + 30) 2 / 5).toInt = zsz s5 (P + 30) / 5 := i_div5 rfl l5.1
      refine zs_62l hP hT p2 (FZq_tr t2 (mo0 p3)) (by rw [p4]; exact t3) p1' ⟨t5, by omega, by omega⟩ ⟨t6.1, t6.2.1, fun hf => t6.2.2 (back hf).1⟩ t7 t8 (by omega) ⟨z28, by rw [FZq_sz (FZq_r p3) List.not_mem_nil hP (by decide)]; exact t9.2.1, by rw [FZq_sz (FZq_r p3) List.not_mem_nil hP (by decide)]; exact t9.2.2⟩ (fun k h hf hk hh hk2 => ?_)
      obtain ⟨d1, d2, d3⟩ := dat k h hf hk hh hk2
      refine ⟨d1, d2, ?_, d3⟩
      rw [hs, if_pos rfl, e5, d1.1, nmS_len]
      omega
  -- struct or interface: s3 stands there
  have frm : ∀ (a1 a2 a3 : Int32) (s3 : zS), RDz K L P n s3 → zSz P s3 → FZq [24, 28, 30, 32] P s s3 → s3.2 (P + 22) = s.2 (P + 22) → RS P s3 = y_3 K L b (RS P s) → (a1.toInt = zsz s (P + 30) / 5) → (-1 ≤ a2.toInt ∧ a2.toInt ≤ 5000 ∧ ((RS P s3).1 = 0 → a2.toInt = (RS P s).2 + 1)) → (0 ≤ a3.toInt ∧ a3.toInt ≤ 7) → (zsz s3 (P + 28) = zsz s (P + 28) ∧ zsz s3 (P + 24) = zsz s (P + 24) ∧ zsz s3 (P + 32) = zsz s (P + 32)) → (∀ k h : Nat, (RS P s3).1 = 0 → zsz s (P + 30) = 5 * (k : Int) → zsz s (P + 28) = 5 * (h : Int) → (k : Int) ≤ (RS P s).2 → DSt K L P s s3 k (nmS 0 (-1) (tFo K L b (RS P s))) ∧ a3.toInt = ((tFo K L b (RS P s)).length : Int) ∧ (RS P s).2 + 2 ≤ (RS P s3).2) → v_62_42 (fun j => Zt (43 + 8) (wd P j) j) P a1 a2 a3 s3 (fun v s' => v = none ∧ TYq K L P n b s s') := by
    intro a1 a2 a3 s3 t1 tz t2 t3 t4 t5 t6 t7 t9 t10
    unfold v_62_42
    refine Zt.imp (Zt.mo (d := 9) (by omega) (zs_72 (d := 0) (a1 := 4) hP hT t1 (by decide))) ?_
    rintro v1 s4 ⟨x3, rfl, hr, r4⟩
    rw [show (4 : Int32).toInt = 4 by decide] at hr
    have keep : ∀ (u : zS), FZr P s3 u → u.2 = s3.2 → (RS P s3).2 ≤ (RS P u).2 → ∀ k h : Nat, (RS P s3).1 = 0 → zsz s (P + 30) = 5 * (k : Int) → zsz s (P + 28) = 5 * (h : Int) → (k : Int) ≤ (RS P s).2 → DSt K L P s u k (nmS 0 (-1) (tFo K L b (RS P s))) ∧ a3.toInt = ((tFo K L b (RS P s)).length : Int) ∧ (RS P s).2 + 2 ≤ (RS P u).2 := fun u hu hu2 hle k h hf hk hh hk2 => by
      obtain ⟨d1, d2, d3⟩ := t10 k h hf hk hh hk2
      exact ⟨DSt_ps d1 (by rw [hu2]) (by rw [hu2]) (FZq_sz (FZq_r hu) List.not_mem_nil hP (by decide)) hle, d2, by omega⟩
    refine ⟨x3, rfl, fun w => ?_, fun w => ?_⟩
    · rcases hr with ⟨y1, y2, y3, y4, y5⟩ | ⟨y1, -⟩
      · have hs : tSt K L b (RS P s) = true := by
          unfold tSt
          rw [← t4]
          exact y2
        have e4 : RS P s4 = y_4 K L b (RS P s) := by
          unfold y_4
          rw [← t4, if_pos y2]
          exact y3
        have hle : (RS P s3).2 ≤ (RS P s4).2 := by
          rw [y3]
          unfold a_d
          dsimp only
          omega
        have f0 := (tk_t y2).1
        exact opn a1 a2 a3 x3 s4 y4 (zSz_q (FZq_r y5) hP tz (fun r hr => absurd hr List.not_mem_nil)) (FZq_tr t2 (mo0 y5)) (by rw [r4]; exact t3) e4 t5 ⟨t6.1, t6.2.1, fun _ => t6.2.2 f0⟩ t7 (Or.inl ⟨w, hs⟩) ⟨by rw [FZq_sz (FZq_r y5) List.not_mem_nil hP (by decide)]; exact t9.1, by rw [FZq_sz (FZq_r y5) List.not_mem_nil hP (by decide)]; exact t9.2.1, by rw [FZq_sz (FZq_r y5) List.not_mem_nil hP (by decide)]; exact t9.2.2⟩ (fun k h _ hk hh hk2 => keep s4 y5 r4 hle k h f0 hk hh hk2)
      · omega
    · rcases hr with ⟨y1, -⟩ | ⟨-, y2, y3, y4, y5⟩
      · omega
      have hs : tSt K L b (RS P s) = false := by
        unfold tSt
        rw [← t4]
        exact y2
      refine Zt.imp (Zt.mo (d := 9) (by omega) (zs_73 (d := 0) (a1 := 5) hP hT y4 (by decide))) ?_
      rintro v4 s5 ⟨rfl, ⟨p1, p2, p3⟩, p4⟩
      rw [show (5 : Int32).toInt = 5 by decide, y3] at p1
      have e4 : RS P s5 = y_4 K L b (RS P s) := by
        unfold y_4
        rw [← t4, if_neg (by rw [y2]; decide)]
        exact p1
      have back : (RS P s5).1 = 0 → (RS P s3).1 = 0 ∧ (RS P s3).2 ≤ (RS P s5).2 := fun hf => by
        rw [p1] at hf ⊢
        obtain ⟨f1, f2, f3⟩ := ek_0 hf
        rw [f3]
        exact ⟨f1, by dsimp only; omega⟩
      refine ⟨rfl, opn a1 a2 a3 x3 s5 p2 (zSz_q (FZq_r p3) hP (zSz_q (FZq_r y5) hP tz (fun r hr => absurd hr List.not_mem_nil)) (fun r hr => absurd hr List.not_mem_nil)) (FZq_tr t2 (FZq_tr (mo0 y5) (mo0 p3))) (by rw [p4, r4]; exact t3) e4 t5 ⟨t6.1, t6.2.1, fun hf => t6.2.2 (back hf).1⟩ t7 (Or.inr ⟨w, hs⟩) ⟨by rw [FZq_sz (FZq_r p3) List.not_mem_nil hP (by decide), FZq_sz (FZq_r y5) List.not_mem_nil hP (by decide)]; exact t9.1, by rw [FZq_sz (FZq_r p3) List.not_mem_nil hP (by decide), FZq_sz (FZq_r y5) List.not_mem_nil hP (by decide)]; exact t9.2.1, by rw [FZq_sz (FZq_r p3) List.not_mem_nil hP (by decide), FZq_sz (FZq_r y5) List.not_mem_nil hP (by decide)]; exact t9.2.2⟩ (fun k h hf hk hh hk2 => keep s5 (FZr_tr y5 p3) (by rw [p4, r4]) (back hf).2 k h (back hf).1 hk hh hk2)⟩
  -- from 'type' on: s0 stands there
  have beg : ∀ s0 : zS, RDz K L P n s0 → FZr P s s0 → s0.2 = s.2 → RS P s0 = y_0 K L b (RS P s) → v_62_18 (fun j => Zt (43 + 8) (wd P j) j) P s0 (fun v s' => v = none ∧ TYq K L P n b s s') := by
    intro s0 t1 t2 t3 t4
    unfold v_62_18
    refine Zt.imp (Zt.mo (d := 9) (by omega) (zs_73 (d := 0) (a1 := 3) hP hT t1 (by decide))) ?_
    rintro v1 s1 ⟨rfl, ⟨p1, p2, p3⟩, p4⟩
    rw [show (3 : Int32).toInt = 3 by decide, t4] at p1
    have p1' : RS P s1 = y_1 K L b (RS P s) := p1
    refine ⟨rfl, ?_⟩
    refine Zt.imp (Zt.mo (d := 9) (by omega) (zs_73 (d := 0) (a1 := 1) hP hT p2 (by decide))) ?_
    rintro v3 s2 ⟨rfl, ⟨q1, q2, q3⟩, q4⟩
    rw [show (1 : Int32).toInt = 1 by decide, p1'] at q1
    have q1' : RS P s2 = y_2 K L b (RS P s) := q1
    refine ⟨rfl, ?_⟩
    refine Zt.imp (Zt.mo (d := 9) (by omega) (zs_72 (d := 0) (a1 := 91) hP hT q2 (by decide))) ?_
    rintro v5 s3 ⟨x7, rfl, hr, r4⟩
    rw [show (91 : Int32).toInt = 91 by decide] at hr
    have F2 : FZr P s s2 := FZr_tr t2 (FZr_tr p3 q3)
    have L2 : s2.2 = s.2 := by rw [q4, p4, t3]
    have F1 : FZr P s s1 := FZr_tr t2 p3
    have e1 : (s1.1 (P + 30) 2 / 5).toInt = zsz s (P + 30) / 5 := by
      have : (s1.1 (P + 30) 2).toInt = zsz s (P + 30) := FZq_sz (FZq_r F1) List.not_mem_nil hP (by decide)
      exact i_div5 this l30.1
    have na : ∀ {τ : RSt}, (y_2 K L b (RS P s)).1 = 0 → (s1.1 82 3).toInt = (RS P s).2 + 1 := fun {τ} hf => by
      have := (y2_0 hf).2.2.2.1
      rw [← p1'] at this
      exact congrArg Prod.snd this
    have rng : -1 ≤ (s1.1 82 3).toInt ∧ (s1.1 82 3).toInt ≤ 5000 := by
      have := p2.2.2
      omega
    refine ⟨x7, rfl, fun w => ?_, fun w => ?_⟩
    · rcases hr with ⟨y1, -⟩ | ⟨-, y2, y3, y4, y5⟩
      · omega
      have hno : ¬ t_k K 91 (y_2 K L b (RS P s)) = true := by rw [← q1', y2]; decide
      have e3 : RS P s3 = y_3 K L b (RS P s) := by
        unfold y_3
        rw [if_neg hno, y3, q1']
      have ef : tFo K L b (RS P s) = [] := if_neg hno
      have F3 : FZr P s s3 := FZr_tr F2 y5
      have eR : RS P s3 = y_2 K L b (RS P s) := y3.trans q1'
      refine frm _ _ 0 s3 y4 (zSz_q (FZq_r F3) hP hz (fun r hr => absurd hr List.not_mem_nil)) (mo0 F3) (by rw [r4, L2]) e3 e1 ⟨rng.1, rng.2, fun hf => na (τ := RS P s3) (by rw [← eR]; exact hf)⟩ (by rw [i0]; decide) ⟨FZq_sz (FZq_r F3) List.not_mem_nil hP (by decide), FZq_sz (FZq_r F3) List.not_mem_nil hP (by decide), FZq_sz (FZq_r F3) List.not_mem_nil hP (by decide)⟩ (fun k h hf hk hh hk2 => ?_)
      rw [eR] at hf
      obtain ⟨-, -, -, -, e2⟩ := y2_0 hf
      have eR2 : (RS P s3).2 = (RS P s).2 + 2 := by rw [eR, e2]
      rw [ef]
      exact ⟨DSt_1 (by rw [FZq_sz (FZq_r F3) List.not_mem_nil hP (by decide), hk]) (by rw [r4, L2]) (by omega) (by omega), by rw [i0]; rfl, by omega⟩
    · rcases hr with ⟨-, y2, y3, y4, y5⟩ | ⟨y1, -⟩
      · have hyes : t_k K 91 (y_2 K L b (RS P s)) = true := by rw [← q1']; exact y2
        have F3 : FZr P s s3 := FZr_tr F2 y5
        have eR : RS P s3 = a_d (y_2 K L b (RS P s)) := by rw [y3, q1']
        have ef : tFo K L b (RS P s) = l_nm K L (a_d (y_2 K L b (RS P s))) := if_pos hyes
        have e3 : y_3 K L b (RS P s) = p_nm K L 93 (a_d (y_2 K L b (RS P s))) := if_pos hyes
        have tz3 : zSz P s3 := zSz_q (FZq_r F3) hP hz (fun r hr => absurd hr List.not_mem_nil)
        refine Zt.imp (Zt.mo (d := 40) (by omega) (zs_65 (a1 := 93) (a2 := 0) (a3 := -1) hP hT y4 tz3 (Or.inl (by decide)) (by decide) (by decide))) ?_
        rintro v8 s9 ⟨x10, rfl, hN⟩
        rw [show (93 : Int32).toInt = 93 by decide, show (0 : Int32).toInt = 0 by decide, show (-1 : Int32).toInt = -1 by decide] at hN
        have y0 := (tk_t hyes).1
        refine ⟨x10, rfl, frm _ _ x10 s9 hN.2.1 hN.2.2.2.1 (FZq_tr (mo0 F3) (moR (by decide) hN.2.2.1)) (by rw [hN.2.2.2.2.2.1, r4, L2]) (by rw [hN.1, eR, e3]) e1 ⟨rng.1, rng.2, fun _ => na (τ := RS P s3) y0⟩ (by have := hN.2.2.2.2.1; omega) ⟨by rw [FZq_sz hN.2.2.1 (by decide) hP (by decide), FZq_sz (FZq_r F3) List.not_mem_nil hP (by decide)], by rw [FZq_sz hN.2.2.1 (by decide) hP (by decide), FZq_sz (FZq_r F3) List.not_mem_nil hP (by decide)], by rw [FZq_sz hN.2.2.1 (by decide) hP (by decide), FZq_sz (FZq_r F3) List.not_mem_nil hP (by decide)]⟩ (fun k h hf hk hh hk2 => ?_)⟩
        obtain ⟨-, -, -, -, e2⟩ := y2_0 y0
        have eR2 : (RS P s3).2 = (RS P s).2 + 3 := by
          rw [eR, e2]
          unfold a_d
          dsimp only
          omega
        have d3 : DSt K L P s s3 k [] := DSt_1 (by rw [FZq_sz (FZq_r F3) List.not_mem_nil hP (by decide), hk]) (by rw [r4, L2]) (by omega) (by omega)
        have hf' : (p_nm K L 93 (RS P s3)).1 = 0 := by rw [← hN.1]; exact hf
        obtain ⟨m1, m2, m3⟩ := DSt_nm d3 hN hf'
        rw [List.nil_append, eR] at m1
        rw [eR] at m2
        rw [ef]
        refine ⟨m1, m2, ?_⟩
        rw [hN.1]
        have := (pnm_fw hf').2
        omega
      · omega
  unfold v_62_0
  rw [zg_K, hD.1, et]
  have hkd : ∀ {p : Prop}, (¬ (K (s.1 82 3).toInt = 3) ∨ b = false → y_0 K L b (RS P s) = RS P s) := fun {p} hc => by
    unfold y_0
    refine if_neg (fun q => ?_)
    rcases hc with hc | hc
    · exact hc (tk_t q.1).2
    · rw [hc] at q
      cases q.2
  refine ⟨fun w => beg s hD FZr_rf rfl (hkd (p := True) (Or.inl w)).symm, fun w => ⟨fun w2 => beg s hD FZr_rf rfl (hkd (p := True) (Or.inr (by rw [← hb]; exact decide_eq_false (by omega)))).symm, fun w2 => ?_⟩⟩
  refine Zt.imp (Zt.mo (d := 9) (by omega) (zs_38 (d := 0) (a1 := 5) (a2 := s.1 82 3) hP hT hD (by decide) hD.2.2)) ?_
  rintro v1 s2 ⟨rfl, ⟨p1, p2, p3⟩, p4⟩
  refine ⟨rfl, beg s2 p2 p3 p4 ?_⟩
  rw [p1]
  have hbt : b = true := by rw [← hb]; exact decide_eq_true (by omega)
  unfold y_0
  rw [hbt]
  by_cases h0 : (RS P s).1 = 0
  · rw [if_pos ⟨h0, by decide⟩, if_pos ⟨decide_eq_true ⟨h0, w⟩, rfl⟩]
    rfl
  · rw [if_neg (fun q => h0 q.1), if_neg (fun q => h0 (tk_t q.1).1)]
end ZQD
