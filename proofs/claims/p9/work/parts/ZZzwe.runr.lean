/-! ===== run: class and reference ===== -/
/-- one TYPE reads one way -/
theorem isR_un {ar : Int → Int} : ∀ (A B : List Int) (k : Int), isR ar k A → isR ar k B → (∀ (i : Nat) (c d : Int), A[i]? = some c → B[i]? = some d → c = d) → A = B
  | [], [], _, _, _, _ => rfl
  | [], d :: B, k, h, g, _ => absurd (show k = 0 from h) (by have := g.1; omega)
  | c :: A, [], k, h, g, _ => absurd (show k = 0 from g) (by have := h.1; omega)
  | c :: A, d :: B, k, h, g, e => by
    have e0 : c = d := e 0 c d rfl rfl
    subst e0
    rw [isR_un A B _ h.2.2 g.2.2 (fun i x y hx hy => e (i + 1) x y hx hy)]
theorem s_247g {own : Nat → Nat × Nat} {b n W N T F H S0 : Nat} {G : PG} {S O : Nat} {s : yS} {a1 : Int32} (h90' : ¬ (s.1 90).toInt = 0) (hn' : 1 ≤ a1.toInt ∧ a1.toInt ≤ 5000) (hC : CK own b n N T F H S0 G s) (hL : Lx b n W s) (hP : PT b n N F H G S O s) (hM : MN b n N H G S O s) (h29 : (s.1 29).toInt = (b : Int)) (h94 : 0 ≤ (s.1 94).toInt ∧ (s.1 94).toInt ≤ 60000) (hS : S ≤ 8210) (hN : N ≤ 12006) : Tot 1514 247 [.ref 213, .int a1] s (fun v s' => ∃ r : Int32, v = some (.int r) ∧ ∃ Vn vt L : Nat, RTm own b n W N T F H S0 G S O 1 0 0 Vn vt L s') := by
  obtain ⟨d1, d2, d3, d4, d5, d6, d7, d8, d9, d10⟩ := id hC
  have hb := d1.1
  refine t_247 ?_
  unfold w_247_0
  rintro s1 rfl
  unfold w_247_12
  refine ⟨fun w => absurd w h90', fun h90 => ⟨fun w => by omega, fun hlo => ⟨fun hhi => ?_, fun w => by omega⟩⟩⟩
  rintro s2 rfl s3 rfl s4 rfl s5 rfl s6 rfl s7 rfl s8 rfl s9 rfl s10 rfl s11 rfl
  have e75 : s.1 29 = s.1 75 := Int32.toInt_inj.mp (by omega)
  obtain ⟨t, ht⟩ : ∃ t, t = sf (sf (sf (sf (sf (sf (sf (sf (sf (sf (sf s 0 0) 75 ((sf s 0 0).1 29)) 96 a1) 95 0) 98 0) 97 13000) 105 0) 106 0) 93 0) 92 (-1)) 70 0 := ⟨_, rfl⟩
  rw [← ht]
  have t2 : t.2 = s.2 := by rw [ht]; rfl
  have tk : ∀ k, k ∉ r7K → t.1 k = s.1 k := by
    intro k hk
    have hh : ∀ j, j ∈ r7K → ¬ k = j := fun j hj w => hk (by rw [w]; exact hj)
    rw [ht, sf_1, if_neg (hh 70 (by decide)), sf_1, if_neg (hh 92 (by decide)), sf_1, if_neg (hh 93 (by decide)), sf_1, if_neg (hh 106 (by decide)), sf_1, if_neg (hh 105 (by decide)), sf_1, if_neg (hh 97 (by decide)), sf_1, if_neg (hh 98 (by decide)), sf_1, if_neg (hh 95 (by decide)), sf_1, if_neg (hh 96 (by decide)), sf_1]
    by_cases e : k = 75
    · rw [if_pos e, e]
      show s.1 29 = s.1 75
      exact e75
    · rw [if_neg e, sf_1, if_neg (hh 0 (by decide))]
  have t70 : (t.1 70).toInt = ((0 : Nat) : Int) := by rw [ht]; rfl
  have t96 : t.1 96 = a1 := by rw [ht]; rfl
  have t95 : (t.1 95).toInt = ((0 : Nat) : Int) := by rw [ht]; rfl
  have t98 : (t.1 98).toInt = ((0 : Nat) : Int) := by rw [ht]; rfl
  have t97 : (t.1 97).toInt = ((13000 : Nat) : Int) := by rw [ht]; rfl
  have t105 : (t.1 105).toInt = ((0 : Nat) : Int) := by rw [ht]; rfl
  have t106 : (t.1 106).toInt = ((0 : Nat) : Int) := by rw [ht]; rfl
  have t93 : (t.1 93).toInt = 0 := by rw [ht]; rfl
  have t94 : t.1 94 = s.1 94 := by rw [ht]; rfl
  clear ht
  refine Tot.imp (Tot.mono (by omega) (s_188 (d := 0) (E := 0) t70 (by omega))) ?_
  rintro v u ⟨rfl, x, hx, hu⟩
  have uc : ∀ q i, ¬ (q = 266 ∧ i < 2) → u.2.1 q i = s.2.1 q i := fun q i w => by
    rw [hu, ← t2]
    show (sa (sa t 266 (2 * 0) 0) 266 (2 * 0 + 1) 0).2.1 q i = _
    rw [sa_2, if_neg (fun w' => w ⟨w'.1, by omega⟩), sa_2, if_neg (fun w' => w ⟨w'.1, by omega⟩)]
  have u0 : (u.2.1 266 0).toInt = 0 := by
    rw [hu]
    show ((sa (sa t 266 (2 * 0) 0) 266 (2 * 0 + 1) 0).2.1 266 0).toInt = 0
    rw [sa_2, if_neg (fun w => by omega), sa_2, if_pos ⟨rfl, rfl⟩]
    decide
  have u1 : (u.2.1 266 1).toInt = 0 := by
    rw [hu]
    show ((sa (sa t 266 (2 * 0) 0) 266 (2 * 0 + 1) 0).2.1 266 1).toInt = 0
    rw [sa_2, if_pos ⟨rfl, rfl⟩]
    decide
  have uk : ∀ k, ¬ k = 70 → u.1 k = t.1 k := fun k hk => by
    rw [hu, sf_1, if_neg hk]
    rfl
  have u70 : (u.1 70).toInt = ((1 : Nat) : Int) := by
    rw [hu]
    show x.toInt = _
    omega
  have ul : u.2.2 = s.2.2 := by rw [hu, ← t2]; rfl
  clear hu
  have uX : RX r7K 0 0 0 13000 s u := ⟨fun k hk => (uk k (fun w => hk (by rw [w]; decide))).trans (tk k hk), fun q i _ c2 _ _ _ _ => uc q i (fun w => c2 ⟨Or.inr w.1, by omega⟩), ul, fun i => by rw [uc 264 i (fun w => by omega)]; exact d5 i, fun i => by rw [uc 265 i (fun w => by omega)]; exact d6 i⟩
  have uR : RTm own b n W N T F H S0 G S O 1 0 0 0 13000 0 u := by
    refine ⟨RX_CK hC uX (by decide) (by omega), Lx_eq hL (RX_row uX (by decide)) (RX_row uX (by decide)) (RX_row uX (by decide)), PT_ca hP (fun f _ => by rw [RX_row uX (by decide)]) (fun l h _ _ => RX_CA uX (by omega) (by omega)), u70, by rw [uk 105 (by decide)]; exact t105, by rw [uk 106 (by decide)]; exact t106, by rw [uk 98 (by decide)]; exact t98, by rw [uk 97 (by decide)]; exact t97, by rw [uk 95 (by decide)]; exact t95, by rw [uk 96 (by decide), t96]; exact hhi, by rw [uk 96 (by decide), t96]; omega, by rw [uk 94 (by decide), t94]; exact h94, by rw [uk 93 (by decide), t93]; omega, by omega, by omega, by omega, fun v hv => by omega, hS, by omega⟩
  obtain ⟨e, l, hh, A, k1, k2, k3, k4, k5, k6⟩ := MN_ca (s' := u) hM (by rw [RX_row uX (by decide)]) (by rw [RX_row uX (by decide)]) (fun i _ _ => by rw [RX_row uX (by decide)]) (fun l h _ _ => RX_CA uX (by omega) (by omega))
  have hg0 := (RX_CK hC uX (by decide) (by omega)).2.2.2.2.2.1 0
  have hg1 := (RX_CK hC uX (by decide) (by omega)).2.2.2.2.2.1 1
  have uC : RCx G none 1 0 0 13000 0 0 (u.2.1 265 0).toInt.toNat [] (u.2.1 265 1).toInt.toNat [] u := by
    refine ⟨by omega, ⟨⟨?_, ?_, by decide, fun a A hA => ?_⟩, ⟨?_, ?_, by decide, fun a A hA => ?_⟩⟩, ⟨fun c hc => envS_lt hc, fun c hc => ?_, fun c hc => absurd hc id⟩, fun k A hA => ?_⟩
    · show (u.2.1 265 0).toInt = _
      omega
    · exact u0
    · rw [List.getElem?_nil] at hA
      cases hA
    · show (u.2.1 265 1).toInt = _
      omega
    · exact u1
    · rw [List.getElem?_nil] at hA
      cases hA
    · rw [envS_2 (by omega) (grp_none (Or.inr (by show 0 ≤ _; omega)))]
      exact grp_none (Or.inr (by show 0 ≤ _; omega))
    · cases hA
  have u29 : (u.1 29).toInt = (b : Int) := by rw [uX.1 29 (by decide)]; exact h29
  rw [show (u.1 29).toInt.toNat = b by omega]
  refine ⟨_, rfl, by omega, ?_⟩
  refine Tot.imp (REH_all (own := own) (W := W) (T := T) (F := F) (S0 := S0) 41 0 rfl 11 u _ 0 _ none l hh e 0 0 _ _ 1 0 0 13000 0 [] [] A uR uC (fun f hf => by cases hf) k4 k3 hN (by omega) (by omega) k1 (by decide) t70) ?_
  rintro v w ⟨r, rfl, g0, wX, Vn, vt, L, wR, g1, g2, g3, g4⟩
  refine ⟨r, rfl, ?_⟩
  rintro s18 rfl s19 rfl
  obtain ⟨q1, q2, q3, q4, q5, q6, q7, q8, q9, q10, q11, q12, q13, q14, q15, q16, q17, q18, q19⟩ := id wR
  have fX0 : RX [91, 103] 1 0 Vn vt w (sf (sf w 91 r) 103 ((sf w 91 r).1 102)) := RX_sf (RX_sf (RX_rf q1.2.2.2.2.1 q1.2.2.2.2.2.1) (by decide)) (by decide)
  exact ⟨_, rfl, Vn, vt, L, RT_rx wR fX0 (by decide) q4 q5 q6 q7 q8 q9 q11 q12 q13 (Nat.le_refl _) (Nat.le_refl _) q16 q19⟩
/-- the run's values, in the reference -/
theorem vRn_of {own : Nat → Nat × Nat} {b n W N T F H S0 S O E pl c Vn vt L : Nat} {G : PG} {s : yS} {ar : Int → Int} {mT : Int} {vs : Vls} (ha : ∀ c, 0 ≤ ar c ∧ ar c ≤ 7) (hR : RTm own b n W N T F H S0 G S O E pl c Vn vt L s) (hS : S ≤ 10 + 4100 * (b + 1)) (hV : vRl ar mT G s vs) (hVn : Vn = vs.length) : vRn ar mT b s vs ∧ ∀ (v : Nat) (A : List Int) (ps : List Nat), vs[v]? = some (A, ps) → ¬ (s.2.1 235 (24 * b + (A.headD 0).toNat)).toInt = 0 := by
  have key : ∀ (v : Nat) (A : List Int) (ps : List Nat), vs[v]? = some (A, ps) → ((isR ar 1 A ∧ ∀ c ∈ A, 0 ≤ c ∧ c < mT) ∧ RVa ar b s v A ∧ (s.2.1 239 (24 * b + (A.headD 0).toNat)).toInt = (ps.length : Int) ∧ ∀ (k u : Nat), ps[k]? = some u → (s.2.1 277 (6 * v + k)).toInt = (u : Int) ∧ u < v) ∧ ¬ (s.2.1 235 (24 * b + (A.headD 0).toNat)).toInt = 0 := by
    intro v A ps hv
    have hvl : v < vs.length := (List.getElem?_eq_some_iff.mp hv).1
    obtain ⟨t1, t2, ⟨t3, -⟩, t4⟩ := hV v A ps hv
    obtain ⟨r1, r2, r3, r4, r5, r6, r7, r8, r9, r10, r11, r12, r13, r14, r15, r16, r17, r18, r19⟩ := hR
    obtain ⟨d1, d2, d3, d4, d5, d6, d7, d8, d9, d10⟩ := r1
    obtain ⟨hb, hn, hT24, hF60, hH, r33, r52, hA⟩ := d1
    have gTe : gT G = T := by
      rw [← d8]
      show (s.2.1 233 b).toInt.toNat = T
      omega
    obtain ⟨p, l, x, As, q1, q2, ⟨q3, q3'⟩, q4, q5, q6, q7, q8, q9, q10⟩ := r17 v (by omega)
    have hxT : x / 8 < T := by rw [← gTe]; exact q7
    obtain ⟨-, -, -, -, -, -, m1, m2, -⟩ := hA.1 (x / 8) hxT
    have gfe : gfd G (x / 8) = (s.2.1 239 (24 * b + x / 8)).toInt.toNat := by
      rw [← d8]
      show pgT s b 239 (x / 8) = _
      unfold pgT nT
      rw [if_pos (by omega)]
    have gse : gst G (x / 8) = (s.2.1 235 (24 * b + x / 8)).toInt.toNat := by
      rw [← d8]
      show pgT s b 235 (x / 8) = _
      unfold pgT nT
      rw [if_pos (by omega)]
    unfold VT at t2
    rw [q1, q2, Int.toNat_natCast, Int.toNat_natCast] at t2
    have hl : l = A.length := by
      have e := congrArg List.length t2
      rw [seg_len, enN_len] at e
      exact e
    have hd := hd_enN ha t1.2.2 (t2.symm.trans q5.1)
    have hW := RWel_of d5 (enN_nn ha ⟨Int.le_refl _, Int.le_refl _⟩ (fun c hc => (cd_cl t1.2.2 c hc).1)) (show seg s p (A.map (rhE ar 0 0)).length = nE (A.map (rhE ar 0 0)) by rw [List.length_map, ← hl]; exact t2)
    refine ⟨⟨⟨t1.1, fun c hc => ⟨(cd_cl t1.2.2 c hc).1, t1.2.1.2 c hc (cd_cl t1.2.2 c hc).2⟩⟩, ⟨p, q1, by rw [q2, hl], by omega, fun i c hc => ?_⟩, ?_, t4⟩, ?_⟩
    · have e := hW i (rhE ar 0 0 c) (by rw [List.getElem?_map, hc]; rfl)
      rw [show (p : Int) + (i : Int) = ((p + i : Nat) : Int) by omega, KI_n] at e
      rw [e]
      exact rhE_0 (cd_cl t1.2.2 c (List.mem_of_getElem? hc)).2
    · rw [t3, hd.2.2.1, gfe]
      omega
    · rw [hd.2.2.1]
      rw [gse] at q8
      omega
  exact ⟨fun v A ps hv => (key v A ps hv).1, fun v A ps hv => (key v A ps hv).2⟩
/-- the latest run's value, in class and reference -/
theorem VEx_of {G : PG} {K L W ar kd : Int → Int} {TN Ls : List Int} {nI k0 lo hi k T A' : Int} {C b : Nat} {vs : Vls} {v : Nat} {z : zS} {s : yS} (hPR : PRm K L W ar kd nI lo hi TN Ls) (hCS : CSz K L W ar kd TN Ls nI k0 C z) (hk : k ≤ 82938) (hTB : TBa K L W ar kd TN Ls nI (b : Int) A' s) (hV : vRl ar (TN.length : Int) G s vs) (hvR : vRn ar (TN.length : Int) b s vs ∧ ∀ (v : Nat) (A : List Int) (ps : List Nat), vs[v]? = some (A, ps) → ¬ (s.2.1 235 (24 * b + (A.headD 0).toNat)).toInt = 0) (hL : VLk ar (TN.length : Int) C T k z vs) (hT : T ≤ 9218) (hlen : (vs.length : Int) ≤ 5000) (hv : v < vs.length) (h14 : (z.1 105 14).toInt = (plv vs v : Int)) (h103 : (s.1 103).toInt = (v : Int)) : VEx ar (TN.length : Int) k b C z s := by
  obtain ⟨hvr, h235⟩ := hvR
  refine ⟨vs, v, ⟨fun u B ps hu => ?_, fun u B ps hu w hw => ?_, fun u B ps hu => ?_, ⟨by decide, by omega⟩, fun u hu => ?_⟩, hvr, hv, h14, h103⟩
  · obtain ⟨g1, g2, g3⟩ := hL u B ps hu
    exact ⟨⟨⟨g1.1.1, by have := g1.1.2; omega⟩, g1.2⟩, g2, g3⟩
  · obtain ⟨j, hj⟩ := List.mem_iff_getElem?.mp hw
    exact ((hV u B ps hu).2.2.2 j w hj).2
  · obtain ⟨⟨q1, q1'⟩, -, q3, -⟩ := hvr u B ps hu
    have hc := q1' _ (List.mem_of_getElem? (hd_R q1))
    have e : (24 * (b : Int) + B.headD 0).toNat = 24 * b + (B.headD 0).toNat := by omega
    have hkd : kd (B.headD 0) = 1 := by
      rcases (hTB.1.2.1 (B.headD 0) hc.1 hc.2).1 with w | w
      · exact w.1
      · have w2 := w.2
        rw [e] at w2
        exact absurd w2 (h235 u B ps hu)
    have t3 := (hTB.2.2.2 (B.headD 0) hkd).2
    rw [e, q3] at t3
    rw [(cz_fl hPR hCS hkd).2.2.1]
    exact t3.symm
  · have := plv_7 hL u (by omega)
    omega
section ZWE
variable {h : xH} {s : yS}
/-- neither runs -/
theorem zn_142 {P : Nat} {z : zS} {a1 : Int32} (hP : P = 3 ∨ P = 39) (hg : ¬ (¬ (z.1 0 11).toInt = 0 ∧ 1 ≤ a1.toInt ∧ a1.toInt ≤ 5000)) : Zu 9 [(75, 0), (75, 1), (75, 2), (105, 5)] [(0, 9, P)] [] 142 [.ref 0, .int a1] z (fun v s' => v = some (.int (-1)) ∧ s' = z) := by
  refine zc_142 (d := 0) hP ?_
  unfold v_142_0 v_142_9
  exact ⟨fun _ => ⟨rfl, rfl⟩, fun w => ⟨fun _ => ⟨rfl, rfl⟩, fun w1 => ⟨fun w2 => absurd ⟨w, by omega, w2⟩ hg, fun _ => ⟨rfl, rfl⟩⟩⟩⟩
theorem rn_247 {a1 : Int32} (hg : ¬ (¬ (s.1 90).toInt = 0 ∧ 1 ≤ a1.toInt ∧ a1.toInt ≤ 5000)) : Tot 1514 247 [.ref 213, .int a1] s (fun v s' => v = some (.int (-1)) ∧ s' = sf s 0 0) := by
  refine t_247 (d := 1513) ?_
  intro s1 e1
  subst e1
  exact ⟨fun _ => ⟨rfl, rfl⟩, fun w => ⟨fun _ => ⟨rfl, rfl⟩, fun w1 => ⟨fun w2 => absurd ⟨w, by omega, w2⟩ hg, fun _ => ⟨rfl, rfl⟩⟩⟩⟩
set_option maxRecDepth 20000 in
set_option maxHeartbeats 2000000 in
theorem Y_run (hL : LSr h s) (a1 : Int32) : PXr 142 [.ref 0, .int a1] 247 [.ref 213, .int a1] h True := by
  obtain ⟨l1, l2, l3, l4, l5, l6, l7⟩ := id hL.1
  obtain ⟨-, z, C, S, q1, q2, q3, q4, q5, q6, q7⟩ := id hL
  have hC : C = 3 ∨ C = 39 := by omega
  obtain ⟨v, h1, cs, sl, e, e2, e3⟩ := K_142 h [.ref 0, .int a1] l1 ⟨⟨0, rfl, cmem_ok rfl⟩, vK_int a1, trivial⟩
  obtain ⟨u, rfl, x, rfl, -⟩ := (show rOK (some kint) v from e2)
  have e' := yex_mono (show 13 ≤ 1514 by decide) _ _ _ _ e
  have hrc : rc h1 1 = rc h 1 := e3.2.1.1.2.2.resolve_left (wmem_no rfl)
  have f9 : fld h1 0 9 = some (.ref C) := (e3.2.1.2 0 9 (by decide) (wmem_no (by rw [show wc 0 = 11 by decide +kernel]; rfl))).trans q3
  have f10 : fld h1 0 10 = some (.ref S) := (e3.2.1.2 0 10 (by decide) (wmem_no (by rw [show wc 0 = 11 by decide +kernel]; rfl))).trans q4
  have hEX : EXh h1 := EX_of l1 l7 (by decide) (cw_of q3) (zw_142 (d := 0) hC (SN_st l7)) _ _ _ _ e'
  have fin : ∀ (z1 : zS) (s0 : yS), zI h1 z1 → LPz C z1 s0 ∧ LPe C z1 s0 ∧ MKl z1 s0 → s0.1 2 = s.1 2 → s0.2.1 214 = s.2.1 214 → Tot 1514 247 [.ref 213, .int a1] s (fun v s' => ∃ r : Int32, v = some (.int r) ∧ (x = r ∧ s' = s0) ∧ RIv s') → PXr 142 [.ref 0, .int a1] 247 [.ref 213, .int a1] h True := fun z1 s0 hz1 hp t2 t214 hT => by
    refine pair_r (R := fun r s' => x = r ∧ s' = s0) hL.1 e' (cp_of e3 (JJ_fr e3 rfl l2)) ((z_fr e3 rfl).trans l5) hEX hT (Nat.le_refl _) (fun r s' g => ⟨by rw [g.2, t2], fun j hj => ?_, fun _ => g.1⟩) (fun r s' g _ => by rw [g.2]; exact ⟨z1, C, S, hz1, q2, f9, f10, hp⟩)
    rw [g.2] at hj ⊢
    rw [rv_same hrc j, t214]
    exact l6 j (by rw [← t2]; exact hj)
  by_cases hgo : ¬ (s.1 90).toInt = 0 ∧ 1 ≤ a1.toInt ∧ a1.toInt ≤ 5000
  rotate_left
  · have hgz : ¬ (¬ (z.1 0 11).toInt = 0 ∧ 1 ≤ a1.toInt ∧ a1.toInt ≤ 5000) := fun w => hgo ⟨fun w0 => w.1 (q5.1.2.1.mpr w0), w.2⟩
    obtain ⟨z1, ⟨r1, r2⟩, p3, -, -⟩ := cz_of l1 q1 (cw_of q3) e' (zn_142 hC hgz)
    rw [r2] at p3
    refine fin z (sf s 0 0) p3 ⟨LP_k (KZ_o KZ_rf) RKq_0.1 (fun _ w => w) q5 (fun w => ?_), LPe_k hC rfl ⟨rfl, rfl⟩ RKe_0.1 q6 (fun _ => PZk_rf), MKl_k rfl rfl ⟨rfl, rfl, rfl⟩ rfl RKe_0.2 q7⟩ rfl rfl (Tot.imp (rn_247 hgo) (fun v s' g => ⟨-1, g.1, ⟨Value.int.inj (Option.some.inj r1), g.2⟩, by rw [g.2]; exact RI_0 l3⟩))
    obtain ⟨K, L, W, ar, n, m, G1, G2⟩ := q5.2 w
    exact ⟨K, L, W, ar, n, m, G1, RL_k G1.1 l3 rfl (fun nb w1 _ w3 => RKq_0.2.2 nb w1 w3) (fun nb w1 _ => RKq_0.2.1 nb w1) G2⟩
  obtain ⟨h90, hn⟩ := hgo
  obtain ⟨K, L, W, ar, nI, m, G1, G2⟩ := q5.2 h90
  obtain ⟨nb, b1, b2, b3, b4, b5, b6, b7, b8, b9, b10⟩ := id l3
  obtain ⟨d1, d2, d3⟩ := b9 h90
  obtain ⟨own, n', W', N', T, F, H, S0, G, S', O, k1, k2, k3, k4, k5, k6, k7, k8, k9⟩ := id d1
  obtain ⟨⟨rl, -⟩, hFO, p1, p2, p3, p4⟩ := id G2
  rw [b2] at rl
  obtain ⟨A, A0, A1, r1, r2, r3, r4, xm, ym, r5, r6⟩ := rl
  obtain ⟨L0, hL0⟩ : ∃ L0 : Int, L0 = min a1.toInt (60000 - (s.1 94).toInt) := ⟨_, rfl⟩
  have M := m_247 (a1 := a1) (A0 := A0) (A1 := A1) (L0 := L0) G1.1 hFO (by omega) ⟨p1, p2, p3, p4⟩ ⟨⟨A, by omega, r2⟩, fun i t w1 w2 => by
    obtain ⟨x', y', v1, v2⟩ := r4 i t w1 w2
    exact ⟨x', y', by omega, v2⟩, xm, ym, r6⟩ k1 k2 k3 k4 b2 b6 (by omega) (by omega) h90 hn hL0
  obtain ⟨v0, s0, ⟨m1, m2, m3, m4⟩, o1, o2⟩ := Tot_and M (Tot_and (s_247 (a1 := a1) k1 k2 k3 k4 b2 b6 (by omega) (by omega)) (Tot_and (R_247 (a1 := a1) h90 l3) (s_247g (a1 := a1) h90 hn k1 k2 k3 k4 b2 b6 (by omega) (by omega))))
  obtain ⟨r, Y, N, rfl, y1, y2, y3, y4, y5, ⟨⟨y6, y6'⟩, y7, y8, y9⟩, y10⟩ := m1
  have hX : RX r7K 0 0 0 13000 s s0 := by
    obtain ⟨r', -, hx | ⟨-, -, hx, -⟩⟩ := m2
    · rw [hx]
      exact ⟨fun k hk => by rw [sf_1, if_neg (fun w => hk (by rw [w]; decide))], fun _ _ _ _ _ _ _ _ => rfl, rfl, b3, b4⟩
    · exact hx
  obtain ⟨⟨x29, x75, x90⟩, xC, xF⟩ := RKq_r hX
  obtain ⟨c1, c2, k0, kk, zz, PG, PGs⟩ := id G1
  have g12 : (gz z).2 = (s.1 94).toInt := by
    show (z.1 0 12).toInt = _
    rw [q5.1.1]
  obtain ⟨z1, ⟨rr, hrr, hy, HL⟩, w3, pv, -⟩ := cz_of l1 q1 (cw_of q3) e' (zs_142 (d := 0) (a1 := a1) (L0 := L0) hC c1 c2.1 PG (fun w => h90 (q5.1.2.1.mp w)) hn (by rw [g12]; exact b6) (by rw [g12]; exact hL0) y2 y1 y4)
  obtain ⟨PG1, ⟨t13, t10, t11, -⟩, t12, tV⟩ := HL
  have e11 : (z1.1 0 11).toInt = (gz z).1 := PG1.2.2.2.2.2.1
  have e12 : (z1.1 0 12).toInt = (gz z).2 + (L0 - Y.2.2.2.2.2.2.2.1) := PG1.2.2.2.2.2.2
  have eg : gz z1 = ((gz z).1, (gz z).2 + (L0 - Y.2.2.2.2.2.2.2.1)) := Prod.ext e11 e12
  have ex : x = r := Int32.toInt_inj.mp (by rw [← y3, ← hy, Value.int.inj (Option.some.inj hrr)])
  have hRL : RLq K L W ar nI m s0 := RL_k c1 l3 x29 (fun nb w1 _ w3 => xF nb w1 w3) (fun nb w1 _ => xC nb w1) G2
  have n99 : ¬ (C, 99) ∈ wrt [(0, 9, C)] 142 [.ref 0, .int a1] := by
    rcases hC with rfl | rfl
    · exact fun w => absurd (show (3, 99) ∈ [(3, 98), (0, 111)] from w) (by decide)
    · exact fun w => absurd (show (39, 99) ∈ [(39, 98), (0, 111)] from w) (by decide)
  obtain ⟨v1, v2⟩ := (fvC hC pv).1 n99
  have hO : OZo z z1 := OZ_v pv (by
    rcases hC with rfl | rfl
    · exact fun w => absurd (show (0, 207) ∈ [(3, 98), (0, 111)] from w) (by decide)
    · exact fun w => absurd (show (0, 207) ∈ [(39, 98), (0, 111)] from w) (by decide))
  have h91 : (s0.1 91).toInt = (z1.1 105 13).toInt := by rw [y5, t13, y3]
  have hEx : ∃ (ar : Int → Int) (nT : Int) (pw : Int → List Int) (A : List Int) (k : Int) (nb : Nat), PEx ar nT pw A k nb C z1 s0 := by
    obtain ⟨ar', nT', pw, A', k', nb', ⟨f1, f2⟩, ⟨f3, f4⟩, ⟨⟨f5, f5'⟩, f6, f7, f8⟩, ⟨f9, f10⟩, -⟩ := q6.2.2.2 h90
    have ear : ar' = ar := f5.1.symm.trans PG.1.1.1.2.2.2
    subst ear
    have enT : nT' = ((tnF K (lsF K L)).length : Int) := by
      have e : (z.1 (C + 24) 2).toInt = 6 * ((tnF K (lsF K L)).length : Int) := PG.1.1.2.2.1.1
      omega
    subst enT
    have hk2 := PG1.2.1
    have ek : k' = kk := by
      have e := PG.2.2.2.2.1.2.1
      omega
    subst ek
    obtain rfl : nb' = nb := by omega
    obtain ⟨u1, u2, u3⟩ := PG.2.2.2.2.1.1
    have eA : A' = (exE6 K L W ar' (kdF K L (lsF K L)) (tnF K (lsF K L)) (lsF K L) mnS 10 (m + 1)).2 := isR_un _ _ 1 f6.2.2.1 (exE_g (EWd_mn (B := 0) (b := 0) c1 (Int.le_refl _) (Int.le_refl _)) (fun A hA => by cases hA) rfl (Nat.zero_le _) (Nat.zero_le _) 10 (by decide) (Nat.le_refl _) (m + 1) p1 p2).1.1 (fun i x y hx hy => (f6.2.1 i x hx).symm.trans (u3 i y hy))
    obtain ⟨r1', r2', r3'⟩ := PG1.2.2.2.2.1.1
    rw [← eA] at r2' r3'
    have F1 : RFs nb' s s0 := RFs_x b1 hX
    refine ⟨ar', ((tnF K (lsF K L)).length : Int), pw, A', k', nb', ⟨by rw [x29]; exact f1, f2⟩, ⟨f3, f4⟩, ⟨⟨NMz_k hC v1 f5, by rw [(v1 _ (pTb_r hC 24 (by decide))).2]; exact f5'⟩, ⟨⟨by omega, Or.inr ⟨r1', r2'⟩⟩, r3', f6.2.2⟩, PG1.2.2.2.2.1.2.1, f8⟩, ⟨NMr_k f2 F1 x29 f4 f9, MNr_k F1 f6.2.2.2.1.1 f10⟩, fun w => ?_⟩
    rw [y5] at w
    obtain ⟨g1, g2, wv, g3, g4, g5⟩ := y10 w
    obtain ⟨T', v', ⟨i1, i2⟩, i3, i4, i5, i6⟩ := tV (y3.trans w)
    rw [g5] at i3
    have i3 : (some (Sum.inr wv) : Option Itm) = some (Sum.inr v') := i3
    obtain ⟨rr', -, Vn, vt, L', hRT⟩ := m4
    obtain ⟨⟨⟨AA, A0', A1', -, hTBa, -⟩, -⟩, -⟩ := id hRL
    rw [x29, b2] at hTBa
    have hVn : Vn = Y.2.2.2.2.2.2.1.length := by
      have e := hRT.2.2.2.2.2.2.1
      omega
    exact VEx_of c1 PG1.1 hk2.2.2.1 hTBa g1 (vRn_of f3 hRT k5 g1 hVn) i6 i1 i2 i4 i5 (by have e := Sum.inr.inj (Option.some.inj i3); rw [g3, e])
  have hMk : MKl z1 s0 := MKl_k (ic_of (by decide +kernel) (by decide +kernel) q1 w3 e3) (ic_of (by decide +kernel) (by decide +kernel) q1 w3 e3) (MZ_v pv (by
    rcases hC with rfl | rfl
    · exact fun w => absurd (show (0, 198) ∈ [(3, 98), (0, 111)] from w) (by decide)
    · exact fun w => absurd (show (0, 198) ∈ [(39, 98), (0, 111)] from w) (by decide))) x90 ⟨⟨hX.1 109 (by decide), hX.1 110 (by decide), hX.1 112 (by decide)⟩, RX_row hX (by decide)⟩ q7
  have hLe : LPe C z1 s0 := by
    obtain ⟨l, o1, o2⟩ := q6.1
    exact ⟨⟨l, OUz_k hO o1, OUr_k ⟨hX.1 120 (by decide), RX_row hX (by decide)⟩ o2⟩, by rw [h91], fun w => absurd (by rw [← x90]; exact w) h90, fun _ => hEx⟩
  refine fin z1 s0 w3 ⟨⟨⟨Int32.toInt_inj.mp (by rw [e12, y6, g12]), ?_, ?_, fun w => absurd (by rw [← x90]; exact w) h90⟩, fun _ => ⟨K, L, W, ar, nI, m, ⟨c1, c2, k0, kk, zz, by rw [eg]; exact PG1, by rw [PL_sz hC (fvC hC pv) n99]; exact PGs⟩, hRL⟩⟩, hLe, hMk⟩ m3.2.1.1 m3.2.1.2 ⟨_, s0, ⟨r, rfl, ⟨ex, rfl⟩, m3.2.2⟩, o1, o2⟩
  · rw [e11, x90]
    exact q5.1.2.1
  · rw [y3] at t13
    refine ⟨⟨Int32.toInt_inj.mp (by rw [t11, y7]), Int32.toInt_inj.mp (by rw [t10, y6'])⟩, fun w => Int32.toInt_inj.mp ?_, fun w => Int32.toInt_inj.mp ?_⟩
    · rw [t13] at w
      rw [t12 (y3.trans w), y8 w]
    · rw [t13] at w
      rw [y9 w]
      decide
end ZWE
