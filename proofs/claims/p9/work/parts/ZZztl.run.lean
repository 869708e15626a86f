/-! ===== the class: run ===== -/
/-- how a run begins -/
def X0p (K L W ar kd : Int → Int) (TN Ls : List Int) (mB L0 : Int) : PMs := (5, mnC K L W ar kd TN Ls mB, [], 0, ([], []), [], [], L0, 0, 0)
section ZTN
variable {K L W ar kd : Int → Int} {TN Ls : List Int} {n k0 mB k z L0 lo hi sa : Int} {P d N : Nat} {s s' : zS} {a1 a2 : Int32} {Y : PMs} {gg : Int × Int}
theorem PGz_v (hP : P = 3 ∨ P = 39) (h1 : s'.2 = s.2) (h2 : ∀ c q, ¬ c = 0 → c < 75 → s'.1 c q = s.1 c q) {g2 : Int × Int} (h3 : (s'.1 0 11).toInt = g2.1 ∧ (s'.1 0 12).toInt = g2.2) (g : PGz K L W ar kd TN Ls n k0 mB P k z gg s) : PGz K L W ar kd TN Ls n k0 mB P k z g2 s' := by
  obtain ⟨g1, g2', g3, g4, g5, -⟩ := g
  have hf : ∀ q, s'.1 P q = s.1 P q := fun q => h2 P q (by omega) (by omega)
  refine ⟨CSz_g hP (fun r _ => by rw [h1]) (fun j _ => by rw [h1]) (fun j _ => by rw [h1]) (fun j _ => by rw [h1]) (fun b hb => h2 b 2 (by omega) (by omega)) g1, g2', fun g p hg => ?_, ?_, ?_, h3⟩
  · have e : fnc s' P (g : Int) 8 = fnc s P (g : Int) 8 := by
      unfold fnc
      rw [h1]
    rw [e]
    exact LYz_k (fun j _ _ => by rw [h1]) (Int.le_refl _) (fun j _ => by rw [h1]) (Int.le_refl _) (g3 g p hg)
  · rw [hf 12]
    exact LYz_k (fun j _ _ => by rw [h1]) (Int.le_refl _) (fun j _ => by rw [h1]) (Int.le_refl _) g4
  · rw [hf 13, hf 10]
    exact ⟨kpz_k (fun j _ _ => by rw [h1]) (Int.le_refl _) g5.1, g5.2.1, C0z_m (fun C g => LYz_k (fun j _ _ => by rw [h1]) (Int.le_refl _) (fun j _ => by rw [h1]) (Int.le_refl _) g) g5.2.2⟩
theorem VLk_r {nT T : Int} {vs : Vls} (h : s'.2 = s.2) (g : VLk ar nT P T k s vs) : VLk ar nT P T k s' vs := fun v A ps hv => by
  obtain ⟨g1, g2, g3⟩ := g v A ps hv
  rw [h]
  refine ⟨⟨g1.1, fun i c hc => ?_, g1.2.2⟩, g2, g3⟩
  rw [h]
  exact g1.2.1 i c hc
/-- use, at any zone -/
theorem zs_81r (hP : P = 3 ∨ P = 39) : Zu (d + 18) [(75, 0), (75, 1), (75, 2)] [] [(75, 2, P + 22), (75, 1, P + 18), (75, 0, P)] 81 [.ref 75, .ref P, .int a2] s (fun v s' => v = none ∧ s'.2 = s.2 ∧ s'.1 75 3 = a2 ∧ ((s'.1 75 4).toInt = -1 ∧ (s'.1 75 6).toInt = -1) ∧ ∀ b q, ¬ b = 75 → s'.1 b q = s.1 b q) := by
  rw [show d + 18 = d + 9 + 9 by omega]
  refine zc_81 hP ?_
  unfold v_81_0
  intro s1 hs1
  refine Zt.mo (d := 9) (by omega) (zc_82 (d := 0) hP ?_)
  unfold v_82_0
  intro q1 hq1 q2 hq2 s3 hs3
  have F : ∀ c q, s3.1 c q = if c = 75 ∧ q = 6 then -1 else if c = 75 ∧ q = 5 then -1 else if c = 75 ∧ q = 4 then -1 else if c = 75 ∧ q = 3 then a2 else s.1 c q := fun c q => by rw [hs3, zf_1, hq2, zf_1, hq1, zf_1, hs1, zf_1]
  refine ⟨rfl, rfl, by rw [hs3, zf_2, hq2, zf_2, hq1, zf_2, hs1, zf_2], ?_, ⟨?_, ?_⟩, fun b q hb => ?_⟩
  · rw [F, if_neg (by decide), if_neg (by decide), if_neg (by decide), if_pos ⟨rfl, rfl⟩]
  · rw [F, if_neg (by decide), if_neg (by decide), if_pos ⟨rfl, rfl⟩]
    decide
  · rw [F, if_pos ⟨rfl, rfl⟩]
    decide
  · rw [F, if_neg (fun z => hb z.1), if_neg (fun z => hb z.1), if_neg (fun z => hb z.1), if_neg (fun z => hb z.1)]
/-- run: as the pure machine runs -/
theorem zs_142 (hP : P = 3 ∨ P = 39) (h : PRm K L W ar kd n lo hi TN Ls) (hC : PCk K L W ar kd TN Ls mB) (G : PGz K L W ar kd TN Ls n k0 mB P k z gg s) (hld : ¬ gg.1 = 0) (hn : 1 ≤ a1.toInt ∧ a1.toInt ≤ 5000) (hs0 : 0 ≤ gg.2 ∧ gg.2 ≤ 60000) (hL : L0 = min a1.toInt (60000 - gg.2)) (hN : N < 1000000) (hS : PSn ar (fcD K L W ar kd TN Ls) (mvC K L W ar kd TN Ls) N (X0p K L W ar kd TN Ls mB L0) Y) (hY : ¬ Y.1 = 5) : Zu (d + 72) [(75, 0), (75, 1), (75, 2), (105, 5)] [(0, 9, P)] [] 142 [.ref 0, .int a1] s (fun v s' => ∃ r : Int32, v = some (.int r) ∧ r.toInt = Y.1 ∧ HLz K L W ar kd TN Ls n k0 mB P k z (gg.1, gg.2 + (L0 - Y.2.2.2.2.2.2.2.1)) L0 Y s') := by
  rw [show d + 72 = d + 63 + 9 by omega]
  refine zc_142 hP ?_
  unfold v_142_0
  have g11 : (s.1 0 11).toInt = gg.1 := G.2.2.2.2.2.1
  refine ⟨fun w => absurd (g11.symm.trans w) hld, fun _ => ⟨fun w => by omega, fun _ => ⟨fun _ => ?_, fun w => by omega⟩⟩⟩
  refine Zu.imp (Zu.mo (d := 18) (by omega) (zs_81r (d := 0) (a2 := 4218) hP)) ?_
  rintro v1 s2 ⟨rfl, r2, t2, ⟨t4, t6⟩, f2⟩
  refine ⟨rfl, fun x3 hx3 x4 hx4 => ?_⟩
  have G2 : PGz K L W ar kd TN Ls n k0 mB P k z gg s2 := PGz_v hP r2 (fun c q _ hc => f2 c q (by omega)) (by rw [f2 0 11 (by decide), f2 0 12 (by decide)]; exact G.2.2.2.2.2) G
  have g12 : (s2.1 0 12).toInt = gg.2 := G2.2.2.2.2.2.2
  rw [g12] at hx3
  have ex3 := hx3 (by omega)
  have ex4 : x4.toInt = L0 := by rw [hx4, ex3, hL]
  have hL0 : 0 ≤ L0 ∧ L0 ≤ 5000 := by omega
  refine Zu.imp (Zu.mo (d := 18) (by omega) (zc_18 (d := 9) (Q := fun v s6 => v = none ∧ MRz K L W ar kd TN Ls n k0 mB P k z gg L0 (X0p K L W ar kd TN Ls mB L0) s6) hP ?_)) ?_
  · unfold v_18_0
    refine Zt.mo (d := 9) (by omega) (zc_17 (d := 0) hP ?_)
    unfold v_17_0
    intro q1 hq1 q2 hq2 q3 hq3
    refine ⟨rfl, fun s3 hs3 s4 hs4 s5 hs5 s6 hs6 s7 hs7 => ⟨rfl, ?_⟩⟩
    obtain ⟨m12, hm12⟩ : ∃ x, x = s3.1 P 12 := ⟨_, rfl⟩
    rw [← hm12] at hs4
    have F : ∀ c q, s7.1 c q = if c = 111 ∧ q = 2 then 0 else if c = 105 ∧ q = 8 then 0 else if c = 105 ∧ q = 7 then 0 else if c = 105 ∧ q = 6 then m12 else if c = 105 ∧ q = 9 then x4 else if c = 105 ∧ q = 13 then 5 else if c = 105 ∧ q = 11 then 0 else if c = 105 ∧ q = 10 then 0 else s2.1 c q := fun c q => by rw [hs7, zf_1, hs6, zf_1, hs5, zf_1, hs4, zf_1, hs3, zf_1, hq3, zf_1, hq2, zf_1, hq1, zf_1]
    have e312 : m12 = s2.1 P 12 := by rw [hm12, hs3, zf_1, if_neg (fun z => by omega), hq3, zf_1, if_neg (fun z => by omega), hq2, zf_1, if_neg (fun z => by omega), hq1, zf_1, if_neg (fun z => by omega)]
    have r7 : s7.2 = s2.2 := by rw [hs7, zf_2, hs6, zf_2, hs5, zf_2, hs4, zf_2, hs3, zf_2, hq3, zf_2, hq2, zf_2, hq1, zf_2]
    have fo : ∀ c q, ¬ c = 105 → ¬ c = 111 → s7.1 c q = s2.1 c q := fun c q h1 h2 => by rw [F, if_neg (fun z => h2 z.1), if_neg (fun z => h1 z.1), if_neg (fun z => h1 z.1), if_neg (fun z => h1 z.1), if_neg (fun z => h1 z.1), if_neg (fun z => h1 z.1), if_neg (fun z => h1 z.1), if_neg (fun z => h1 z.1)]
    have G7 : PGz K L W ar kd TN Ls n k0 mB P k z gg s7 := PGz_v hP r7 (fun c q _ hc => fo c q (by omega) (by omega)) (by rw [fo 0 11 (by decide) (by decide), fo 0 12 (by decide) (by decide)]; exact G2.2.2.2.2.2) G2
    have i0 : (0 : Int32).toInt = 0 := by decide
    refine ⟨G7, 4218, ⟨⟨?_, Int.le_refl _, ?_⟩, ?_, ?_⟩, ⟨⟨?_, ?_, ?_, ?_, ?_, ?_, ?_⟩, ?_, ?_, ?_, Nat.zero_le _, Nat.zero_le _⟩, ⟨?_, hC.2, ⟨⟨Nat.zero_le _, Nat.zero_le _⟩, (fun A hA => by cases hA), (fun A hA => by cases hA)⟩⟩, (fun j it hj => by cases hj), (fun v A ps hv => by cases hv), rfl⟩
    · rw [fo 75 3 (by decide) (by decide), t2]
      decide
    · show 4218 + L0 ≤ 9218
      omega
    · rw [fo 75 4 (by decide) (by decide)]
      exact t4
    · rw [fo 75 6 (by decide) (by decide)]
      exact t6
    · rw [F, if_neg (by decide), if_neg (by decide), if_neg (by decide), if_neg (by decide), if_neg (by decide), if_pos ⟨rfl, rfl⟩]
      decide
    · show _ = L0
      rw [F, if_neg (by decide), if_neg (by decide), if_neg (by decide), if_neg (by decide), if_pos ⟨rfl, rfl⟩]
      exact ex4
    · show _ = L0 - L0
      rw [F, if_neg (by decide), if_neg (by decide), if_neg (by decide), if_neg (by decide), if_neg (by decide), if_neg (by decide), if_neg (by decide), if_pos ⟨rfl, rfl⟩, i0]
      omega
    · show _ = (0 : Int)
      rw [F, if_neg (by decide), if_neg (by decide), if_neg (by decide), if_neg (by decide), if_neg (by decide), if_neg (by decide), if_pos ⟨rfl, rfl⟩, i0]
    · show _ = ((0 : Nat) : Int)
      rw [F, if_neg (by decide), if_neg (by decide), if_pos ⟨rfl, rfl⟩, i0]
      rfl
    · show _ = ((0 : Nat) : Int)
      rw [F, if_neg (by decide), if_pos ⟨rfl, rfl⟩, i0]
      rfl
    · show _ = ((0 : Nat) : Int)
      rw [F, if_pos ⟨rfl, rfl⟩, i0]
      rfl
    · show 0 ≤ L0 ∧ L0 ≤ L0 ∧ L0 ≤ 5000
      omega
    · show 0 ≤ (0 : Int) ∧ (0 : Int) ≤ L0 - L0
      omega
    · show ((0 : Nat) : Int) ≤ L0 - L0
      omega
    · show LYz P k z s7 (s7.1 105 6).toInt (mnC K L W ar kd TN Ls mB)
      rw [F, if_neg (by decide), if_neg (by decide), if_neg (by decide), if_pos ⟨rfl, rfl⟩, e312, ← fo P 12 (by omega) (by omega)]
      exact G7.2.2.2.1
  rintro v5 s6 ⟨rfl, M6⟩
  refine ⟨rfl, ?_⟩
  refine Zt.imp (Zt.mo (d := 54) (by omega) (zs_19 (d := 0) hP h hC rfl M6 hN hS hY)) ?_
  rintro v7 s8 ⟨rfl, H1, ⟨H2, H3, H4, H5, H6⟩, H7, H8⟩
  refine ⟨rfl, fun x9 hx9 s10 hs10 => ?_⟩
  have q12 : (s8.1 0 12).toInt = gg.2 := H1.2.2.2.2.2.2
  have q11 : (s8.1 0 11).toInt = gg.1 := H1.2.2.2.2.2.1
  rw [q12, H3] at hx9
  have ex9 := hx9 (by omega)
  have F : ∀ c q, s10.1 c q = if c = 0 ∧ q = 12 then x9 else s8.1 c q := fun c q => by rw [hs10, zf_1]
  have r10 : s10.2 = s8.2 := by rw [hs10, zf_2]
  have fo : ∀ c q, ¬ (c = 0 ∧ q = 12) → s10.1 c q = s8.1 c q := fun c q hq => by rw [F, if_neg hq]
  refine ⟨_, rfl, by rw [fo 105 13 (by decide)]; exact H2, PGz_v hP r10 (fun c q h0 _ => fo c q (fun z => h0 z.1)) ⟨by rw [fo 0 11 (by decide)]; exact q11, ?_⟩ H1, ⟨by rw [fo 105 13 (by decide)]; exact H2, by rw [fo 105 10 (by decide)]; exact H3, by rw [fo 105 11 (by decide)]; exact H4, H5, H6⟩, fun w => by rw [fo 105 12 (by decide)]; exact H7 w, fun w => ?_⟩
  · show _ = gg.2 + (L0 - Y.2.2.2.2.2.2.2.1)
    rw [F, if_pos ⟨rfl, rfl⟩]
    exact ex9
  · obtain ⟨T, v, y1, y2, y3, y4, y5⟩ := H8 w
    exact ⟨T, v, y1, y2, y3, by rw [fo 105 14 (by decide)]; exact y4, VLk_r r10 y5⟩
end ZTN
