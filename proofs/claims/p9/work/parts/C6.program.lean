/-! ===== program ===== -/
/-- readAll, with how many METHODs there are -/
theorem h179 (e b n W : Nat) (s : yS) (hA : AI b n W s s) : Tot (e + 39) 179 [.ref 213] s (fun v s' => v = none ∧ AQ b n W s s' ∧ ((s'.1 8).toInt = 0 → cM s' (4002 * b) (s'.1 26).toInt.toNat ≤ 1000)) := by
  refine Tot.imp (s_179 hA) ?_
  rintro v s' ⟨rfl, hQ⟩
  refine ⟨rfl, hQ, fun h8 => ?_⟩
  have h1 := (hQ.1.2.2.2.2.2.1 h8).2
  have h2 := hQ.1.2.1.2.2.2.2 h8
  have h3 := hQ.1.1.2.1
  have e : cM s' (4002 * b) (s'.1 26).toInt.toNat = cm b s' := rfl
  rw [e]
  omega
section P0
variable {Lg Lg' : (Nat → Nat → Int64) → Prop}
variable {own : Nat → Nat × Nat} {b n W N T F H : Nat} {z s u : yS}
theorem p69 (hLW : ∀ l, Lg' l → Lg l ∧ WKp b W l) (f1 : BKF b z u) (f2 : ∀ k, k ∉ pK → u.1 k = z.1 k) (f3 : TYN u) (f4 : GC u) (f6 : 0 ≤ (u.1 8).toInt ∧ (u.1 8).toInt ≤ 70000) (f7 : (u.1 30).toInt = (b : Int)) (fb : b < 2) (f9 : Lg' u.2.2 ∧ (∃ W2 : Nat, (u.2.1 220 b).toInt = (W2 : Int) ∧ W2 ≤ 2100) ∧ (u.1 2).toInt = 0 ∧ (u.1 26).toInt ≤ 4002 * (b : Int) + 4002) (hC : RC b T F H u) (hW : (u.1 8).toInt = 0 → Lx b n W u ∧ RAq own b n N T F H u ∧ (u.1 65).toInt = ((10 + 4100 * b : Nat) : Int) ∧ (u.1 75).toInt = (b : Int) ∧ (u.1 85).toInt = ((60000 * b : Nat) : Int) ∧ ES own b n N u 259 b ∧ 4002 * b ≤ N ∧ N ≤ 4002 * b + 2760 ∧ cM u (4002 * b) N ≤ 1000) : wl_230_69 (Tot 571) 0 u (PQ Lg b z) := by
  refine ⟨fun a1 w => w.1 = u.1 ∧ w.2.2 = u.2.2 ∧ (∀ q i, ¬ (q = 264 ∧ i < 6) → w.2.1 q i = u.2.1 q i) ∧ TYN w ∧ ∃ i : Nat, a1.toInt = (i : Int) ∧ i ≤ 6 ∧ ∀ j, j < i → tyE w j = 8 * (5000 + j), fun a1 _ => (10 - a1.toInt).toNat, ⟨rfl, rfl, fun _ _ _ => rfl, f3, 0, rfl, by omega, fun j hj => by omega⟩, ?_⟩
  rintro a1 w ⟨w1, w2, w3, w4, i, i1, i2, i3⟩
  unfold w_230_69
  refine ⟨fun hend => ?_, fun hmore => ⟨by omega, fun x3 hx3 => ⟨by omega, fun x4 hx4 => ⟨by omega, ?_⟩⟩⟩⟩
  · rintro s1 rfl s2 rfl
    obtain ⟨t, ht⟩ : ∃ t, t = sf (sf w 64 100000) 70 0 := ⟨_, rfl⟩
    rw [← ht]
    have t2 : t.2 = w.2 := by rw [ht]; rfl
    have tk : ∀ k, ¬ k = 64 → ¬ k = 70 → t.1 k = u.1 k := fun k k1 k2 => by rw [ht, sf_1, if_neg k2, sf_1, if_neg k1, w1]
    have t64 : (t.1 64).toInt = 100000 := by rw [ht]; rfl
    have t70 : (t.1 70).toInt = 0 := by rw [ht]; rfl
    clear ht
    have tr : ∀ q, ¬ q = 264 → t.2.1 q = u.2.1 q := fun q hq => funext (fun i => by rw [t2]; exact w3 q i (fun w => hq w.1))
    have tB : BKF b u t := fun q i hn => by
      rw [t2]
      exact w3 q i (fun w => hn (Or.inr (Or.inl ⟨w.1, Or.inl w.2⟩)))
    have hRC : RC b T F H t := by
      obtain ⟨c1, c2, c3, c4, c5, c6, c7⟩ := hC
      exact ⟨c1, c2, c3, by rw [tr 233 (by decide)]; exact c4, by rw [tr 252 (by decide)]; exact c5, by rw [tr 263 (by decide)]; exact c6, by rw [tk 42 (by decide) (by decide)]; exact c7⟩
    have nd : ND N u t := ⟨fun q hq x _ => by rw [tr q ((show ∀ q ∈ ndB, ¬ q = 264 by decide) q hq)], tr 215 (by decide), tr 217 (by decide)⟩
    refine p91 (own := own) (n := n) (W := W) (N := N) (H := H) hLW ⟨BKF_tr f1 tB, fun k hk => ?_, fun i => by rw [t2]; exact w4 i, fun i => by rw [tr 265 (by decide)]; exact f4 i, fun a ha => ?_, by rw [tk 8 (by decide) (by decide)]; exact f6, by rw [tk 30 (by decide) (by decide)]; exact f7, fb, ⟨by rw [t2, w2]; exact f9.1, by rw [tr 220 (by decide)]; exact f9.2.1, by rw [tk 2 (by decide) (by decide), tk 26 (by decide) (by decide)]; exact f9.2.2⟩⟩ hRC.2.2.2.2.1 hRC.2.2.2.2.2.1 hC.1 hC.2.1 (fun h0 => ?_)
    · rw [tk k (fun w => hk (by rw [w]; decide)) (fun w => hk (by rw [w]; decide))]
      exact f2 k hk
    · have : tyE t a = tyE w a := by unfold tyE; rw [t2]
      rw [this]
      exact i3 a (by omega)
    · rw [tk 8 (by decide) (by decide)] at h0
      obtain ⟨k1, k2, k3, k4, k5, k6, k7, k8, k9⟩ := hW h0
      exact ⟨Lx_eq k1 (tr 215 (by decide)) (tr 216 (by decide)) (tr 217 (by decide)), hRC, RAq_eq k2 nd (fun p hp => tr p (fun w => by subst w; revert hp; decide)) (fun _ _ => rfl) (Nat.le_refl _), by rw [tk 65 (by decide) (by decide)]; exact k3, t64, t70, by rw [tk 75 (by decide) (by decide)]; exact k4, by rw [tk 85 (by decide) (by decide)]; exact k5, ES_eq nd (by rw [tr 259 (by decide)]) (fun _ _ => rfl) (Nat.le_refl _) k6, k7, k8, by rw [cM_eq (tr 221 (by decide))]; exact k9⟩
  · rintro s5 rfl
    rw [show a1.toInt.toNat = i by omega]
    refine ⟨by omega, fun x6 hx6 => ⟨⟨w1, w2, fun q j c1 => ?_, fun j => ?_, i + 1, by omega, by omega, fun j hj => ?_⟩, by show (10 - x6.toInt).toNat < (10 - a1.toInt).toNat; omega⟩⟩
    · rw [sa_2, if_neg (fun w => c1 ⟨w.1, by omega⟩)]
      exact w3 q j c1
    · rw [sa_2]
      by_cases ej : j = i
      · rw [if_pos ⟨rfl, ej⟩]
        omega
      · rw [if_neg (fun w => ej w.2)]
        exact w4 j
    · unfold tyE
      rw [sa_2]
      by_cases ej : j = i
      · rw [if_pos ⟨rfl, ej⟩, ej]
        omega
      · rw [if_neg (fun w => ej w.2)]
        exact i3 j (by omega)
/-- program: a text on the tape is read into the bank that is not now's -/
theorem s_230 (hb : b < 2) (h29 : (s.1 29).toInt = 1 - (b : Int)) (ht : 0 ≤ (s.1 2).toInt ∧ (s.1 2).toInt ≤ 4000) (hT : TYN s) (hG : GC s) : Tot 572 230 [.ref 213] s (PQ (LFr b s.2.2) b s) := by
  refine t_230 ?_
  unfold w_230_0
  rintro s1 rfl
  refine ⟨by show -2147483648 ≤ 1 - (s.1 29).toInt ∧ 1 - (s.1 29).toInt ≤ 2147483647; omega, ?_⟩
  rintro x2 hx2 s3 rfl s4 rfl
  have ex2 : x2.toInt = (b : Int) := by
    have : (sf s 0 0).1 29 = s.1 29 := rfl
    rw [this] at hx2
    omega
  obtain ⟨t, ht0⟩ : ∃ t, t = sf (sf (sf s 0 0) 30 x2) 9 ((sf (sf s 0 0) 30 x2).1 30) := ⟨_, rfl⟩
  rw [← ht0]
  have t2 : t.2 = s.2 := by rw [ht0]; rfl
  have tk : ∀ k, k ∉ [0, 9, 30] → t.1 k = s.1 k := fun k hk => by
    rw [ht0, sf_1, if_neg (fun w => hk (by rw [w]; decide)), sf_1, if_neg (fun w => hk (by rw [w]; decide)), sf_1, if_neg (fun w => hk (by rw [w]; decide))]
  have t9 : (t.1 9).toInt = (b : Int) := by rw [ht0]; exact ex2
  have t30 : (t.1 30).toInt = (b : Int) := by rw [ht0]; exact ex2
  have t0 : t.1 0 = 0 := by rw [ht0]; rfl
  clear ht0
  refine Tot.imp (Tot.mono (by omega) (s_161 (d := 0) (b := b) (by omega) t9)) ?_
  rintro v s5 ⟨rfl, k1, k2, k3, W0', k4, k5, k6, k7⟩
  refine ⟨rfl, ?_⟩
  refine Tot.imp (Tot.mono (by omega) (s_162 (d := 0) (b := b) (W0 := W0') (by omega) (by rw [k1]; exact t9) (by rw [k1, tk 2 (by decide)]; exact ht) k4 k5 k7)) ?_
  rintro v z ⟨rfl, q1, q2, q3, q4, q5, n, W, q6, q7, q8⟩
  refine ⟨rfl, ?_⟩
  have zk : ∀ k, k ∉ [0, 2, 3, 7, 8, 9, 30] → z.1 k = s.1 k := fun k hk => by
    rw [q4 k (fun w => hk ((show ∀ k ∈ [2, 3, 7, 8], k ∈ [0, 2, 3, 7, 8, 9, 30] by decide) k w)), k1]
    exact tk k (fun w => hk ((show ∀ k ∈ [0, 9, 30], k ∈ [0, 2, 3, 7, 8, 9, 30] by decide) k w))
  have z30 : (z.1 30).toInt = (b : Int) := by rw [q4 30 (by decide), k1]; exact t30
  have z0 : z.1 0 = 0 := by rw [q4 0 (by decide), k1]; exact t0
  have zB : BKF b s z := by
    refine BKF_tr (s' := s5) (fun q i hn => ?_) (BKF_cf q5)
    by_cases e : q = 220
    · subst e
      rw [k3 i (fun w => hn (Or.inl (by rw [show bl 220 = 1 by decide]; omega))), t2]
    · rw [k2 q e, t2]
  have z64 : z.2.1 264 = s.2.1 264 := by rw [q5.1 264 (by decide), k2 264 (by decide), t2]
  have z65 : z.2.1 265 = s.2.1 265 := by rw [q5.1 265 (by decide), k2 265 (by decide), t2]
  rw [show (z.1 30).toInt = (b : Int) from z30]
  refine ⟨by omega, ?_⟩
  rintro x9 hx9 s10 rfl
  have a30 : ∀ v, (sf z 26 v).1 30 = z.1 30 := fun _ => rfl
  rw [a30, z30]
  refine ⟨by omega, ?_⟩
  rintro s11 rfl
  have b30 : ∀ (w : yS) p i v, (sa w p i v).1 30 = w.1 30 := fun _ _ _ _ => rfl
  rw [b30, a30, z30]
  refine ⟨by omega, ?_⟩
  rintro s12 rfl
  rw [b30, b30, a30, z30]
  refine ⟨by omega, ?_⟩
  rintro x13 hx13 s14 rfl
  have c30 : ∀ (w : yS) v, (sf w 42 v).1 30 = w.1 30 := fun _ _ => rfl
  rw [c30, b30, b30, a30, z30]
  refine ⟨by omega, ?_⟩
  rintro s15 rfl
  have eb : (b : Int).toNat = b := by omega
  rw [eb]
  obtain ⟨y, hy⟩ : ∃ y, y = sa (sf (sa (sa (sf z 26 x9) 233 b 0) 252 b 0) 42 x13) 263 b 0 := ⟨_, rfl⟩
  rw [← hy]
  have yk : ∀ k, ¬ k = 26 → ¬ k = 42 → y.1 k = z.1 k := fun k h1 h2 => by
    rw [hy]
    show (sf (sa (sa (sf z 26 x9) 233 b 0) 252 b 0) 42 x13).1 k = _
    rw [sf_1, if_neg h2]
    show (sf z 26 x9).1 k = _
    rw [sf_1, if_neg h1]
  have y26 : (y.1 26).toInt = 4002 * (b : Int) := by rw [hy]; exact hx9
  have y42 : (y.1 42).toInt = 204 * (b : Int) := by rw [hy]; exact hx13
  have yc : ∀ q i, ¬ ((q = 233 ∨ q = 252 ∨ q = 263) ∧ i = b) → y.2.1 q i = z.2.1 q i := fun q i w => by
    rw [hy, sa_2, if_neg (fun e => w ⟨by omega, e.2⟩)]
    show (sa (sa (sf z 26 x9) 233 b 0) 252 b 0).2.1 q i = _
    rw [sa_2, if_neg (fun e => w ⟨by omega, e.2⟩), sa_2, if_neg (fun e => w ⟨by omega, e.2⟩)]
    rfl
  have y63 : (y.2.1 263 b).toInt = 0 := by
    rw [hy, sa_2, if_pos ⟨rfl, rfl⟩]
    decide
  have y52 : (y.2.1 252 b).toInt = 0 := by
    rw [hy, sa_2, if_neg (fun w => by omega)]
    show ((sa (sa (sf z 26 x9) 233 b 0) 252 b 0).2.1 252 b).toInt = 0
    rw [sa_2, if_pos ⟨rfl, rfl⟩]
    decide
  have y33 : (y.2.1 233 b).toInt = 0 := by
    rw [hy, sa_2, if_neg (fun w => by omega)]
    show ((sa (sa (sf z 26 x9) 233 b 0) 252 b 0).2.1 233 b).toInt = 0
    rw [sa_2, if_neg (fun w => by omega), sa_2, if_pos ⟨rfl, rfl⟩]
    decide
  have y22 : y.2.2 = z.2.2 := by rw [hy]; rfl
  clear hy
  have yr : ∀ q, ¬ (q = 233 ∨ q = 252 ∨ q = 263) → y.2.1 q = z.2.1 q := fun q hq => funext (fun i => yc q i (fun w => hq w.1))
  have yB : BKF b z y := fun q i hn => yc q i (fun w => hn (Or.inl (by
    have e : bl q = 1 := by rcases w.1 with e | e | e <;> rw [e] <;> decide
    rw [e]
    omega)))
  have y8 : (y.1 8).toInt = 0 := by rw [yk 8 (by decide) (by decide)]; exact q2
  have y7 : (y.1 7).toInt = 4002 * (b : Int) := by rw [yk 7 (by decide) (by decide)]; exact q1
  have yL : Lx b n W y := Lx_eq q6 (yr 215 (by decide)) (yr 216 (by decide)) (yr 217 (by decide))
  have hAI : AI b n W y y := by
    refine ⟨⟨yL, ?_, hb, by rw [yk 30 (by decide) (by decide)]; exact z30, by omega, fun _ => ⟨by omega, by rw [show cm b y = 0 by show cMr _ _ (y.1 26).toInt.toNat = 0; rw [show (y.1 26).toInt.toNat = 4002 * b by omega]; unfold cMr; rw [Nat.sub_self]; rfl]; omega⟩, fun q => absurd y8 q⟩, NF_rf, 0, 0, 0, ⟨by omega, by omega, by omega, y33, y52, by rw [y63]; rfl, by rw [y42]; omega⟩, fun _ => ⟨fun _ => (0, 0), fun d hd => by omega, fun d hd => by omega, fun d hd => by omega, ⟨fun d hd => by omega, fun d hd => by omega, fun d hd => by omega⟩, fun _ => 0, rfl, rfl, fun i j hi => by omega, fun i hi => by omega⟩⟩
    unfold Rd
    omega
  refine Tot.imp (Tot.mono (by omega) (h179 0 b n W y hAI)) ?_
  rintro v r ⟨rfl, ⟨hTS, hNF, T, F, H, hRC, hq⟩, hcM⟩
  refine ⟨rfl, ?_⟩
  obtain ⟨g1, g2, g3, g4, g5, g6, g7⟩ := id hTS
  have hN := TS_N hTS (by omega)
  rintro s18 rfl
  have d30 : (sf r 75 (r.1 30)).1 30 = r.1 30 := rfl
  rw [d30, g4]
  refine ⟨by omega, fun x19 hx19 => ⟨by omega, ?_⟩⟩
  rintro x20 hx20 s21 rfl
  have e30 : (sf (sf r 75 (r.1 30)) 65 x20).1 30 = r.1 30 := rfl
  rw [e30, g4]
  refine ⟨by omega, ?_⟩
  rintro x22 hx22 s23 rfl
  obtain ⟨u, hu⟩ : ∃ u, u = sf (sf (sf r 75 (r.1 30)) 65 x20) 85 x22 := ⟨_, rfl⟩
  rw [← hu]
  have u2 : u.2 = r.2 := by rw [hu]; rfl
  have uk : ∀ k, k ∉ [65, 75, 85] → u.1 k = r.1 k := fun k hk => by
    rw [hu, sf_1, if_neg (fun w => hk (by rw [w]; decide)), sf_1, if_neg (fun w => hk (by rw [w]; decide)), sf_1, if_neg (fun w => hk (by rw [w]; decide))]
  have u75 : (u.1 75).toInt = (b : Int) := by rw [hu]; exact g4
  have u65 : (u.1 65).toInt = ((10 + 4100 * b : Nat) : Int) := by rw [hu]; show x20.toInt = _; omega
  have u85 : (u.1 85).toInt = ((60000 * b : Nat) : Int) := by rw [hu]; show x22.toInt = _; omega
  clear hu
  have r64 : u.2.1 264 = s.2.1 264 := by rw [u2, NF_row hNF (by decide), yr 264 (by omega)]; exact z64
  have r65 : u.2.1 265 = s.2.1 265 := by rw [u2, NF_row hNF (by decide), yr 265 (by omega)]; exact z65
  have hu8 : 0 ≤ (u.1 8).toInt ∧ (u.1 8).toInt ≤ 70000 := by
    rw [uk 8 (by decide)]
    have := g2
    unfold Rd at this
    omega
  have uB : BKF b s u := BKF_tr zB (BKF_tr yB (BKF_tr (BKF_nf hNF) (BKF_2 u2)))
  have uf : ∀ k, k ∉ pK → u.1 k = s.1 k := fun k hk => by
    rw [uk k (fun w => hk ((show ∀ k ∈ [65, 75, 85], k ∈ pK by decide) k w)), hNF.1 k (fun w => hk ((show ∀ k ∈ FL, k ∈ pK by decide) k w)), yk k (fun w => hk (by rw [w]; decide)) (fun w => hk (by rw [w]; decide))]
    exact zk k (fun w => hk ((show ∀ k ∈ [0, 2, 3, 7, 8, 9, 30], k ∈ pK by decide) k w))
  have uW : ∃ W2 : Nat, (u.2.1 220 b).toInt = (W2 : Int) ∧ W2 ≤ 2100 := ⟨W, by rw [u2, NF_row hNF (by decide), yr 220 (by omega)]; exact q7, q6.2.2.1⟩
  have uT : (u.1 2).toInt = 0 := by rw [uk 2 (by decide), hNF.1 2 (by decide), yk 2 (by decide) (by decide)]; exact q3
  have uRC : RC b T F H u := by
    obtain ⟨c1, c2, c3, c4, c5, c6, c7⟩ := hRC
    exact ⟨c1, c2, c3, by rw [u2]; exact c4, by rw [u2]; exact c5, by rw [u2]; exact c6, by rw [uk 42 (by decide)]; exact c7⟩
  have uL : LFr b s.2.2 u.2.2 := fun q i hi => by
    rw [u2, hNF.2.2, y22, q5.2.2.2 q i hi, k6 q i hi, t2]
  have uK : WKp b W u.2.2 := by
    rw [u2, hNF.2.2, y22]
    exact q8
  by_cases h8 : (r.1 8).toInt = 0
  · obtain ⟨own, o1, o2⟩ := hq h8
    have nd : ND (r.1 26).toInt.toNat r u := ⟨fun q _ x _ => by rw [u2], by rw [u2], by rw [u2]⟩
    exact p69 (Lg' := fun l => LFr b s.2.2 l ∧ WKp b W l) (own := own) (n := n) (W := W) (N := (r.1 26).toInt.toNat) (fun _ h => h) uB uf (fun i => by rw [r64]; exact hT i) (fun i => by rw [r65]; exact hG i) hu8 (by rw [uk 30 (by decide)]; exact g4) hb ⟨⟨uL, uK⟩, uW, uT, by rw [uk 26 (by decide)]; omega⟩ uRC (fun _ => ⟨Lx_eq g1 (by rw [u2]) (by rw [u2]) (by rw [u2]), RAq_eq o1 nd (fun p _ => by rw [u2]) (fun _ _ => rfl) (Nat.le_refl _), u65, u75, u85, ES_eq nd (by rw [u2]) (fun _ _ => rfl) (Nat.le_refl _) o2, by omega, by omega, by rw [cM_eq (s := r) (by rw [u2])]; exact hcM h8⟩)
  · exact p69 (Lg' := fun l => LFr b s.2.2 l ∧ WKp b W l) (own := fun _ => (0, 0)) (n := n) (W := W) (N := 0) (fun _ h => h) uB uf (fun i => by rw [r64]; exact hT i) (fun i => by rw [r65]; exact hG i) hu8 (by rw [uk 30 (by decide)]; exact g4) hb ⟨⟨uL, uK⟩, uW, uT, by rw [uk 26 (by decide)]; omega⟩ uRC (fun q => absurd q (by rw [uk 8 (by decide)]; exact h8))
end P0
