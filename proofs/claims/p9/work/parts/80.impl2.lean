theorem im63 {e b n N T F H P Q E c : Nat} {As Bs : List (List Nat)} {own : Nat → Nat × Nat} {a1 a2 a3 a4 a5 a6 a7 a8 : Int32} {s u : yS} {x x' tp tl sp sl : Nat} (hS : ST b n own N T F H s) (hR : RSH b H s) (hD : RSD b T s) (hF : RSF b T s) (hso : ∀ f, f < F → 0 ≤ (s.2.1 261 (60 * b + f)).toInt) (hB : BP s) (h75 : (s.1 75).toInt = (b : Int)) (hP1 : 13000 ≤ P) (hQ : P ≤ Q ∧ Q ≤ 199800) (hE : (s.1 70).toInt = (E : Int)) (hE2 : E ≤ 290) (hu : BF P E s u) (hu64 : (u.1 64).toInt = (Q : Int)) (h6 : a6 = s.1 64) (h8 : a8.toInt = 24 * (b : Int) + c) (hc : c < T) (h5 : a5.toInt = (c : Int)) (h3 : a3.toInt = (tp : Int)) (ht : seg u tp tl = x :: As.flatten) (hAs : ∀ B ∈ As, isF 1 B) (hxl : As.length = x % 8) (hx6 : As.length ≤ 6) (htP : tp + tl ≤ Q) (h7 : a7.toInt = (sp : Int)) (hs : seg u sp sl = x' :: Bs.flatten) (hBs : ∀ B ∈ Bs, isF 1 B) (hxl' : Bs.length = x' % 8) (hx6' : Bs.length ≤ 6) (hsP : sp + sl ≤ Q) (hx' : x' / 8 < T) {Φ : Prop} (hΦ : (∀ j, j < ghm (pg s b H) c → ∃ g cd, isHd (pg s b H) (x' / 8) (gwd (pg s b H) (ghf (pg s b H) c + j)) g cd ∧ alk (pg s b H) (ghf (pg s b H) c + j) (1000 + 6 * c) As g cd Bs) → Φ) : wl_195_63 (Tot (e + 4)) a1 a2 a3 a4 a5 a6 a7 a8 1 0 u (fun v s' => WF P E s s' ∧ ∃ r : Int32, v = some (.int r) ∧ 0 ≤ r.toInt ∧ r.toInt ≤ 2 ∧ (r.toInt = 1 → Φ)) := by
  obtain ⟨hb, hn, hT24, hF60, hH, r33, r52, hA⟩ := id hS
  have e8 : a8.toInt.toNat = 24 * b + c := by omega
  have n33 : nT s 233 b = T := by unfold nT; omega
  have n52 : nT s 252 b = F := by unfold nT; omega
  obtain ⟨G, hGG⟩ : ∃ G, G = pg s b H := ⟨_, rfl⟩
  obtain ⟨d1, d2, d3, d4, d5, d6, d7, d8, d9, d10, d11, d12, d13⟩ := hA.1 c hc
  have ghm_e : ghm G c = (s.2.1 243 (24 * b + c)).toInt.toNat := by
    rw [hGG]; show pgT s b 243 c = _; unfold pgT; rw [n33, if_pos hc]; rfl
  have ghf_e : ghf G c = (s.2.1 242 (24 * b + c)).toInt.toNat - 204 * b := by
    rw [hGG]; show pgT s b 242 c - 204 * b = _; unfold pgT; rw [n33, if_pos hc]; rfl
  have gF_e : gF G = F := by rw [hGG]; exact n52
  have gwd_e : ∀ h, h < H → gwd G h = (s.2.1 217 (s.2.1 244 (204 * b + h)).toInt.toNat).toInt := by
    intro h hh
    rw [hGG]; show (if h < H then _ else _) = _; rw [if_pos hh]; rfl
  rw [← hGG] at hΦ
  -- any state whose tables are those of s, whose ty is that of u ahead of Q
  have base : ∀ w : yS, (∀ q, q ∉ [264, 265, 266, 267, 268] → w.2.1 q = s.2.1 q) → (∀ j, j < Q → w.2.1 264 j = u.2.1 264 j) → ST b n own N T F H w ∧ RSH b H w ∧ BP w ∧ pg w b H = G ∧ (∀ f, f < F → 0 ≤ (w.2.1 261 (60 * b + f)).toInt) ∧ seg w tp tl = x :: As.flatten ∧ seg w sp sl = x' :: Bs.flatten := by
    intro w hr hty
    have hty2 : ∀ j, j < 13000 → w.2.1 264 j = s.2.1 264 j := fun j hj => by
      rw [hty j (by omega)]
      exact hu.2.1 264 j (fun w => by omega) (fun w => by omega) (fun w => by omega)
    refine ⟨⟨hb, hn, hT24, hF60, hH, by rw [hr 233 (by decide)]; exact r33, by rw [hr 252 (by decide)]; exact r52, RAq_eq hA ⟨fun q hq i _ => by rw [hr q (by revert q; decide)], hr 215 (by decide), hr 217 (by decide)⟩ (fun p hp => hr p ?_) (fun _ _ => rfl) (Nat.le_refl _)⟩, fun h hh => ?_, fun a ha => ?_, ?_, fun f hf => by rw [hr 261 (by decide)]; exact hso f hf, ?_, ?_⟩
    · rcases hp with hp | hp | hp | hp | hp | hp
      · clear hr; revert p; decide
      · clear hr; revert p; decide
      · clear hr; revert p; decide
      · clear hr; revert p; decide
      · clear hr; revert p; decide
      · rw [hp]; decide
    · obtain ⟨g1, g2, g3⟩ := hR h hh
      refine ⟨fun k hk => (SY_eq hr hty2 (by decide) (g1 k (by rw [← hr 245 (by decide)]; exact hk))).1, fun k hk => (SY_eq hr hty2 (by decide) (g2 k (by rw [← hr 248 (by decide)]; exact hk))).1, (SY_eq hr hty2 (by decide) g3).1⟩
    · unfold tyE
      rw [hty2 a (by omega)]
      exact hB a ha
    · rw [hGG]
      exact pg_eq hr hty2 r33 hR hD hF
    · rw [← ht]
      exact seg_eq (fun j _ h2 => hty j (by omega))
    · rw [← hs]
      exact seg_eq (fun j _ h2 => hty j (by omega))
  have ur : ∀ q, q ∉ [264, 265, 266, 267, 268] → u.2.1 q = s.2.1 q := by
    intro q hq
    funext i
    refine hu.2.1 q i (fun w => hq (by rw [w.1]; decide)) (fun w => hq ?_) (fun w => hq ?_)
    · rcases w.1 with w | w <;> rw [w] <;> decide
    · rcases w.1 with w | w <;> rw [w] <;> decide
  have wbase : ∀ w, WF Q E u w → ST b n own N T F H w ∧ RSH b H w ∧ BP w ∧ pg w b H = G ∧ (∀ f, f < F → 0 ≤ (w.2.1 261 (60 * b + f)).toInt) ∧ seg w tp tl = x :: As.flatten ∧ seg w sp sl = x' :: Bs.flatten := fun w hw => base w (fun q hq => by rw [WF_row hw hq, ur q hq]) (fun j hj => hw.2.1 264 j (fun w => by omega) (fun w => by omega) (fun w => by omega))
  have end103 : ∀ (w : yS) (a9 a10 : Int32), WF Q E u w → 0 ≤ a9.toInt → a9.toInt ≤ 2 → (a9.toInt = 1 → ∀ j, j < ghm G c → ∃ g cd, isHd G (x' / 8) (gwd G (ghf G c + j)) g cd ∧ alk G (ghf G c + j) (1000 + 6 * c) As g cd Bs) → w_195_103 (Tot (e + 4)) a1 a2 a3 a4 a5 a6 a7 a8 a9 a10 w (fun v s' => WF P E s s' ∧ ∃ r : Int32, v = some (.int r) ∧ 0 ≤ r.toInt ∧ r.toInt ≤ 2 ∧ (r.toInt = 1 → Φ)) := by
    intro w a9 a10 hw k1 k2 k3
    unfold w_195_103
    rintro s1 rfl
    refine ⟨⟨fun k hk => ?_, fun q i w1 w2 w3 => ?_, ?_, hw.2.2.2.1, hw.2.2.2.2⟩, a9, rfl, k1, k2, fun q => hΦ (k3 q)⟩
    · rw [sf_1]
      split
      · rename_i w
        rw [w, h6]
      · rename_i w
        rw [hw.1 k hk]
        exact hu.1 k (fun m => by
          rcases List.mem_cons.mp m with m | m
          · exact w m
          · exact hk (by revert m; simp only [List.mem_cons]; grind))
    · show w.2.1 q i = _
      rw [hw.2.1 q i (fun z => w1 ⟨z.1, by omega⟩) w2 w3]
      exact hu.2.1 q i w1 w2 w3
    · show w.2.2 = _
      rw [hw.2.2.1, hu.2.2.1]
  refine ⟨fun z1 z2 z3 z4 z5 z6 z7 z8 z9 z10 w => z1 = a1 ∧ z2 = a2 ∧ z3 = a3 ∧ z4 = a4 ∧ z5 = a5 ∧ z6 = a6 ∧ z7 = a7 ∧ z8 = a8 ∧ WF Q E u w ∧ 0 ≤ z9.toInt ∧ z9.toInt ≤ 2 ∧ ∃ k : Nat, z10.toInt = (k : Int) ∧ k ≤ ghm G c ∧ (z9.toInt = 1 → ∀ j, j < k → ∃ g cd, isHd G (x' / 8) (gwd G (ghf G c + j)) g cd ∧ alk G (ghf G c + j) (1000 + 6 * c) As g cd Bs), fun _ _ _ _ _ _ _ _ _ z10 _ => (100 - z10.toInt).toNat, ⟨rfl, rfl, rfl, rfl, rfl, rfl, rfl, rfl, WF_rf hu.2.2.2.1 hu.2.2.2.2, by decide, by decide, 0, by decide, by omega, fun _ j hj => absurd hj (by omega)⟩, ?_⟩
  rintro z1 z2 z3 z4 z5 z6 z7 z8 z9 z10 w ⟨y1, y2, y3, y4, y5, y6, y7, y8, hw, m1, m2, k, m3, m4, m5⟩
  have y1 := y1.symm
  have y2 := y2.symm
  have y3 := y3.symm
  have y4 := y4.symm
  have y5 := y5.symm
  have y6 := y6.symm
  have y7 := y7.symm
  have y8 := y8.symm
  subst y1 y2 y3 y4 y5 y6 y7 y8
  obtain ⟨b1, b2, b3, b4, b5, b6, b7⟩ := wbase w hw
  have wr : ∀ q, q ∉ [264, 265, 266, 267, 268] → w.2.1 q = s.2.1 q := fun q hq => by rw [WF_row hw hq, ur q hq]
  unfold w_195_63
  rw [e8, wr 243 (by decide), wr 242 (by decide), wr 244 (by decide), wr 217 (by decide)]
  refine ⟨by clear m5; omega, fun q => end103 w z9 z10 hw m1 m2 (fun q1 j hj => m5 q1 j (by clear m5; omega)), fun q => ⟨fun q2 => end103 w z9 z10 hw m1 m2 (fun q1 => absurd q1 q2), fun q2 => ?_⟩⟩
  have m5 := m5 q2
  obtain ⟨hh, hhd⟩ : ∃ hh, hh = ghf G c + k := ⟨_, rfl⟩
  have hhH : hh < H := by clear m5; omega
  have tk := tk_in hb hn (hA.2.1 hh hhH).1.1
  refine ⟨by clear m5; omega, by clear m5; omega, fun x1 hx1 => ?_⟩
  have ex1 : x1.toInt.toNat = 204 * b + hh := by clear m5; omega
  have hx1' : x1.toInt = 204 * (b : Int) + hh := by clear m5; omega
  rw [ex1]
  refine ⟨by clear m5; omega, ⟨tk.1, tk.2.1⟩, ?_⟩
  have nx : ∀ (t : yS) (t0 : Int32), WF Q E u t → 0 ≤ t0.toInt → t0.toInt ≤ 2 → (t0.toInt = 1 → ∃ g cd, isHd G (x' / 8) (gwd G (ghf G c + k)) g cd ∧ alk G (ghf G c + k) (1000 + 6 * c) As g cd Bs) → (-2147483648 ≤ z10.toInt + 1 ∧ z10.toInt + 1 ≤ 2147483647) ∧ ∀ y : Int32, y.toInt = z10.toInt + 1 → ((a1 = a1 ∧ a2 = a2 ∧ a3 = a3 ∧ a4 = a4 ∧ a5 = a5 ∧ a6 = a6 ∧ a7 = a7 ∧ a8 = a8 ∧ WF Q E u t ∧ 0 ≤ t0.toInt ∧ t0.toInt ≤ 2 ∧ ∃ k : Nat, y.toInt = (k : Int) ∧ k ≤ ghm G c ∧ (t0.toInt = 1 → ∀ j, j < k → ∃ g cd, isHd G (x' / 8) (gwd G (ghf G c + j)) g cd ∧ alk G (ghf G c + j) (1000 + 6 * c) As g cd Bs)) ∧ (100 - y.toInt).toNat < (100 - z10.toInt).toNat) := by
    intro t t0 ht k1 k2 k3
    refine ⟨by clear m5 k3; omega, fun y hy => ⟨⟨rfl, rfl, rfl, rfl, rfl, rfl, rfl, rfl, ht, k1, k2, k + 1, by clear m5 k3; omega, by clear m5 k3; omega, fun q1 j hj => ?_⟩, by clear m5 k3; omega⟩⟩
    by_cases hjk : j = k
    · rw [hjk]
      exact k3 q1
    · exact m5 j (by clear m5 k3; omega)
  have tysp : tyE w sp = x' := by
    cases sl with
    | zero => cases b7
    | succ sl => exact (List.cons.inj b7).1
  have sl1 : 1 ≤ sl := by
    cases sl with
    | zero => cases b7
    | succ sl => omega
  refine Tot.imp (Tot.mono (by clear m5; omega) (s_193 (e := 0) (p := sp) (c := x' / 8) b1 hw.2.2.2.1 (by rw [hw.1 75 (by decide), hu.1 75 (by decide)]; exact h75) h7 (by clear m5; omega) (by rw [tysp]) hx' b5)) ?_
  rintro v w2 ⟨xa, ya, rfl, r, rfl, hr⟩
  rw [b4, ← gwd_e hh hhH, hhd] at hr
  have WF2 : WF Q E u (sf (sf w 73 xa) 74 ya) := ⟨fun k hk => by
    rw [sf_1, if_neg (fun z => hk (by rw [z]; decide)), sf_1, if_neg (fun z => hk (by rw [z]; decide))]
    exact hw.1 k hk, hw.2.1, hw.2.2.1, hw.2.2.2.1, hw.2.2.2.2⟩
  refine ⟨r, rfl, fun r0 => nx _ 0 WF2 (by decide) (by decide) (fun q1 => absurd q1 (by decide)), fun r0 => ?_⟩
  obtain ⟨-, g, cd, g1, g2, g3, g4⟩ := hr.resolve_right (fun z => r0 z.1)
  have hcd : cd ≤ 10000 := by
    rcases g4 with ⟨-, k', q1, -, -, -, q5, -⟩ | ⟨-, j', q1, -, -, q5, -⟩
    · rw [gF_e] at q1
      omega
    · omega
  obtain ⟨v1, v2, v3, v4, -, v6, v7⟩ := wbase _ WF2
  refine Tot.imp (s_196 (e := e) (E := E) (P := Q) (c := c) (h := hh) (g := g) (cd := cd) (tp := tp) (tl := tl) (sp := sp) (sl := sl) (x := x) (x' := x') (As := As) (Bs := Bs) v1 v2 hw.2.2.2.1 hw.2.2.2.2 v3 (by show (w.1 75).toInt = _; rw [hw.1 75 (by decide), hu.1 75 (by decide)]; exact h75) (by show (w.1 64).toInt = _; rw [hw.1 64 (by decide)]; exact hu64) (by clear m5; omega) hQ.2 (by show (w.1 70).toInt = _; rw [hw.1 70 (by decide), hu.1 70 (by decide)]; exact hE) hE2 hx1' hhH g2 g1 h5 (by clear m5; omega) h3 v6 hAs hxl hx6 htP h7 v7 hBs hxl' hx6' hsP g3 hcd) ?_
  rintro v t ⟨t1, r2, rfl, t2, t3, t4⟩
  rw [v4, hhd] at t4
  exact ⟨r2, rfl, nx t r2 (WF_tr WF2 t1 (Nat.le_refl _) (Nat.le_refl _)) t2 t3 (fun q1 => ⟨g, cd, g4, t4 q1⟩)⟩
