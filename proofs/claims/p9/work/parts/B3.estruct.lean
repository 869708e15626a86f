section ES2
variable {own : Nat → Nat × Nat} {b n W N T F H S0 : Nat} {G : PG} {S O E pl c Vn vt L : Nat} {s : yS} {fo : Option Nat} {fr ev b0 b1 m hi : Nat} {As Bs : List (List Nat)}
/-- the new value is laid; u the state once all parts are on the pile and the step is spent -/
theorem st58 {d k Vn' vt' L' p x : Nat} {A : List Nat} {Cs : List (List Nat)} {τ : Nat → Option (List Nat)} {a1 a2 a3 a4 a5 a6 a7 a8 : Int32} {u : yS} (hsX : RX rK E pl Vn vt s u) (hR : RTm own b n W N T F H S0 G S O E (pl + k) c Vn' vt' L' u) (hV : Vn ≤ Vn') (hvt : vt ≤ vt') (hL : L ≤ L') (hVL : Vn' + 1 ≤ L') (hW : WG G H) (hsc : scC G H (scX G fo)) (hτ : wEnv G (scX G fo) τ) (hA : okE G (scX G fo) A) (hB : okBa G A) (hc : cutT A x Cs) (hx : x / 8 < gT G) (hst : ¬ gst G (x / 8) = 0) (hk : k = gfd G (x / 8)) (hpl : pl + 6 ≤ 4000) (h5 : a5.toInt = (p : Int)) (h6 : a6.toInt = ((subs τ A).length : Int)) (hl6 : (subs τ A).length ≤ 60) (hp : p + (subs τ A).length ≤ vt' ∧ ((10 + 4100 * b ≤ p ∧ p + (subs τ A).length ≤ S) ∨ 13000 ≤ p)) (hseg : seg u p (subs τ A).length = subs τ A) (h7 : a7.toInt = (pl : Int)) (hpa : ∀ j, j < k → ∃ w : Nat, (u.2.1 278 (pl + j)).toInt = (w : Int) ∧ w < Vn' ∧ impl G (VT u w) (subs τ (subs (envS (1000 + 6 * (x / 8)) Cs 0 []) (gft G (x / 8) j)))) (t0 : Int32) (ht0 : t0.toInt = 0) : w_241_58 (Tot d) a1 a2 a3 a4 a5 a6 a7 a8 t0 u (EvQ own b n W N T F H S0 G S O E pl c Vn vt L τ A s) := by
  have hv := RT_vt hR
  have hT := hW.1.1
  obtain ⟨r1, r2, r3, r4, r5, r6, r7, r8, r9, r10, r11, r12, r13, r14, r15, r16, r17, r18, r19⟩ := id hR
  have hk6 := (hW.2.1 _ hx).2.1
  obtain ⟨oA, kA⟩ := wEnv_ok hT hτ hA
  have hcut := cut_subs hc oA (hτ.1 _ (by omega))
  have hCm : Cs.length = gfm G (x / 8) := by
    rw [hc.2.2]
    rcases (okE_cut hc hA).1 with z | z
    · exact z.2
    · omega
  unfold w_241_58
  refine ⟨fun w => absurd ht0 w, fun _ => ⟨by omega, ?_⟩⟩
  rintro s1 rfl
  have e98 : (sa u 275 (u.1 98).toInt.toNat a5).1 98 = u.1 98 := rfl
  rw [e98, show (u.1 98).toInt.toNat = Vn' by omega]
  refine ⟨by omega, ?_⟩
  rintro s2 rfl
  refine ⟨fun v1 v2 v3 v4 v5 v6 v7 v8 w => v7 = a7 ∧ v4.toInt = 0 ∧ w.1 = u.1 ∧ w.2.2 = u.2.2 ∧ (∀ q i, ¬ ((q = 275 ∨ q = 276) ∧ i = Vn') → ¬ (q = 277 ∧ 6 * Vn' ≤ i) → w.2.1 q i = u.2.1 q i) ∧ w.2.1 275 Vn' = a5 ∧ w.2.1 276 Vn' = a6 ∧ ∃ j : Nat, v8.toInt = (pl : Int) + j ∧ j ≤ k ∧ ∀ i, i < j → w.2.1 277 (6 * Vn' + i) = u.2.1 278 (pl + i), fun _ _ _ _ _ _ _ v8 _ => (5000 - v8.toInt).toNat, ⟨rfl, ht0, rfl, rfl, fun q i c1 c2 => ?_, ?_, ?_, 0, by omega, by omega, fun i hi => by omega⟩, ?_⟩
  · rw [sa_2, if_neg (fun w => c1 ⟨Or.inr w.1, w.2⟩), sa_2, if_neg (fun w => c1 ⟨Or.inl w.1, w.2⟩)]
  · rw [sa_2, if_neg (fun w => by omega), sa_2, if_pos ⟨rfl, rfl⟩]
  · rw [sa_2, if_pos ⟨rfl, rfl⟩]
  rintro v1 v2 v3 v4 v5 v6 v7 v8 w ⟨y7, y4, w1, w2, w3, w4, w5, j, j1, j2, j3⟩
  have y7 := y7.symm
  subst y7
  unfold w_241_75
  rw [w1]
  refine ⟨fun hend => ?_, fun hmore => ⟨by omega, fun x4 hx4 => ⟨by omega, fun x5 hx5 => ⟨by omega, fun x6 hx6 => ⟨by omega, by omega, ?_⟩⟩⟩⟩⟩
  · have ej : j = k := by omega
    subst ej
    rintro s3 rfl
    have e98' : (sf w 102 (u.1 98)).1 98 = u.1 98 := by show w.1 98 = _; rw [w1]
    rw [e98']
    refine ⟨by omega, ?_⟩
    rintro x2 hx2 s4 rfl
    unfold w_241_106
    rintro s5 rfl
    obtain ⟨f, hf⟩ : ∃ f, f = sf (sf (sf w 102 (u.1 98)) 98 x2) 105 a7 := ⟨_, rfl⟩
    rw [← hf]
    have f2 : f.2 = w.2 := by rw [hf]; rfl
    have fk : ∀ k, k ∉ [98, 102, 105] → f.1 k = u.1 k := fun k hk => by
      rw [hf, sf_1, if_neg (fun w => hk (by rw [w]; decide)), sf_1, if_neg (fun w => hk (by rw [w]; decide)), sf_1, if_neg (fun w => hk (by rw [w]; decide)), w1]
    have f102 : (f.1 102).toInt = (Vn' : Int) := by rw [hf]; exact r7
    have f98 : (f.1 98).toInt = (Vn' : Int) + 1 := by rw [hf]; show x2.toInt = _; omega
    have f105 : (f.1 105).toInt = (pl : Int) := by rw [hf]; exact h7
    clear hf
    have fX : RX [98, 102, 105] E pl Vn' vt' u f := ⟨fk, fun q i _ _ _ c4 c5 _ => by rw [f2]; exact w3 q i (fun w => c4 ⟨w.1, by omega⟩) c5, by rw [f2]; exact w2, fun i => by rw [f2, w3 264 i (fun w => by omega) (fun w => by omega)]; exact r1.2.2.2.2.1 i, fun i => by rw [f2, w3 265 i (fun w => by omega) (fun w => by omega)]; exact r1.2.2.2.2.2.1 i⟩
    have segf : seg f p (subs τ A).length = subs τ A := by rw [RX_seg fX hp.1 (by omega)]; exact hseg
    have hVOK : VOK G b S vt' f Vn' := by
      refine ⟨p, (subs τ A).length, x, Cs.map (subs τ), by rw [f2, w4]; exact h5, by rw [f2, w5]; exact h6, hp, hl6, by rw [segf]; exact hcut, by rw [segf]; exact kA, hx, hst, st_env hW hsc hτ hA hB hc hx, fun i hi => ?_⟩
      obtain ⟨z, z1, z2, z3⟩ := hpa i (by omega)
      have okF := (hW.2.2.2.2.1 _ hx i hi).1
      rw [dcl_put hT hτ hCm okF] at z3
      refine ⟨z, by rw [f2, j3 i (by omega)]; exact z1, z2, ?_⟩
      rw [RX_VT fX z2 (r17 z z2) (by omega)]
      exact z3
    have fR : RTm own b n W N T F H S0 G S O E pl c (Vn' + 1) vt' L' f := RT_new hR fX (by decide) hVOK (by rw [fk 70 (by decide)]; exact r4) f105 (by rw [fk 106 (by decide)]; exact r6) f98 (by rw [fk 97 (by decide)]; exact r8) (by rw [fk 95 (by decide)]; exact r9) (by rw [fk 96 (by decide)]; exact r11) (by rw [fk 94 (by decide)]; exact r12) (by rw [fk 93 (by decide)]; exact r13) (Nat.le_refl _) hVL r19
    refine ⟨v4, rfl, by omega, RX_tr hsX fX (by decide) (Nat.le_refl _) (Nat.le_refl _) hV hvt, Vn' + 1, vt', L', fR, by omega, hvt, hL, fun _ => ⟨Vn', f102, by omega, ?_⟩⟩
    have eVT : VT f Vn' = subs τ A := by
      unfold VT
      rw [f2, w4, w5, show a5.toInt.toNat = p by omega, show a6.toInt.toNat = (subs τ A).length by omega]
      exact segf
    rw [eVT]
    exact ⟨x, Cs.map (subs τ), hcut, Or.inl ⟨Or.inr hst, rfl⟩⟩
  · rintro s7 rfl
    rw [show x6.toInt.toNat = 6 * Vn' + j by omega, show v8.toInt.toNat = pl + j by omega]
    have e278 : w.2.1 278 (pl + j) = u.2.1 278 (pl + j) := w3 278 (pl + j) (fun w => by omega) (fun w => by omega)
    rw [e278]
    refine ⟨by omega, fun x8 hx8 => ⟨⟨rfl, y4, w1, w2, fun q i c1 c2 => ?_, ?_, ?_, j + 1, by omega, by omega, fun i hi => ?_⟩, by show (5000 - x8.toInt).toNat < (5000 - v8.toInt).toNat; omega⟩⟩
    · rw [sa_2, if_neg (fun w => c2 ⟨w.1, by omega⟩)]
      exact w3 q i c1 c2
    · rw [sa_2, if_neg (fun w => by omega)]
      exact w4
    · rw [sa_2, if_neg (fun w => by omega)]
      exact w5
    · rw [sa_2]
      by_cases w' : i = j
      · rw [if_pos ⟨rfl, by omega⟩, w']
      · rw [if_neg (fun w => by omega)]
        exact j3 i (by omega)
theorem s_241 {d e : Nat} {A : List Nat} {a1 a2 a3 : Int32} (ih : REH own b n W N T F H S0 G S O c m d) (hd : 4 ≤ d) (hR : RTm own b n W N T F H S0 G S O E pl c Vn vt L s) (hX : RCx G fo E pl Vn vt fr ev b0 As b1 Bs s) (hfo : ∀ f, fo = some f → f < F) (hw : (s.2.1 221 e).toInt = 2) (hB : wB G b (scX G fo) (tVX G fo) S s (wE G H b n (scX G fo) (tVX G fo) S O s m) hi e A) (he : e < 12006) (hhi : hi ≤ N) (hN : N ≤ 12006) (hpl : pl + 7 * (m + 1) + 80 * (40 - c) ≤ 4000) (hE : E ≤ c + 1) (h1 : a1.toInt = (e : Int)) (h2 : a2.toInt = (fr : Int)) (h3 : a3.toInt = (ev : Int)) : Tot (d + 1) 241 [.ref 213, .int a1, .int a2, .int a3] s (EvQ own b n W N T F H S0 G S O E pl c Vn vt L (envS b0 As b1 Bs) A s) := by
  have hv := RT_vt hR
  obtain ⟨r1, r2, r3, r4, r5, r6, r7, r8, r9, r10, r11, r12, r13, r14, r15, r16, r17, r18, r19⟩ := id hR
  obtain ⟨x1, x2, x3, x4⟩ := id hX
  have hG := r1.2.2.2.2.2.2.2.2.1
  have hT := hG.1.1
  have gF' : gF G = F := by rw [← r1.2.2.2.2.2.2.2.1]; exact (pgA r1.1).2.1
  have hsc := scX_ok hG gF' hfo
  obtain ⟨y, h, y1, y2, y3, y4, y5, x, Cs, y6, y7, y8, cs, l1, l2, l3⟩ : ∃ y h : Nat, (s.2.1 229 e).toInt = (y : Int) ∧ e < y ∧ y < h ∧ h ≤ hi ∧ wT G b (scX G fo) S s y A ∧ ∃ (x : Nat) (Cs : List (List Nat)), cutT A x Cs ∧ x / 8 < gT G ∧ ¬ gst G (x / 8) = 0 ∧ wL G s (wE G H b n (scX G fo) (tVX G fo) S O s m) (s.2.1 224 e).toInt h hi (gfd G (x / 8)) (fun k => subs (envS (1000 + 6 * (x / 8)) Cs 0 []) (gft G (x / 8) k)) := by
    rcases hB with ⟨q, -⟩ | ⟨-, q⟩
    · omega
    · exact q
  obtain ⟨-, -, -, -, -, -, okA, okB⟩ := id y5
  have h6 := (hG.2.1 _ y7).2.1
  have hCm : Cs.length = gfm G (x / 8) := by
    rw [y6.2.2]
    rcases (okE_cut y6 okA).1 with z | z
    · exact z.2
    · omega
  have e1 : a1.toInt.toNat = e := by omega
  refine t_241 ?_
  unfold w_241_0
  rw [e1]
  refine ⟨by omega, ?_⟩
  refine Tot.imp (Tot.mono (by omega) (s_239 (d := 0) hR (by omega) y5 y1 h3 x1 x2 x3)) ?_
  rintro v t ⟨r, rfl, tX, vt1, L1, tR, g1, g2, g3, g4, -⟩
  have hv1 := RT_vt tR
  obtain ⟨q1, q2, q3, q4, q5, q6, q7, q8, q9, q10, q11, q12, q13, q14, q15, q16, q17, q18, q19⟩ := id tR
  have tX' : RX rK E pl Vn vt s t := RX_mo tX (by decide) (Nat.le_refl _) (Nat.le_refl _) (Nat.le_refl _) (Nat.le_refl _)
  have tC : RCx G fo E pl Vn vt1 fr ev b0 As b1 Bs t := RCx_rx hX tX r17 (by omega) (Nat.le_refl _) (Nat.le_refl _) (Nat.le_refl _) g1
  have tca : ∀ lo hi, CA b n lo hi S O s t := fun lo hi => RX_CA tX (by omega) (by omega)
  obtain ⟨fT, hfT⟩ : ∃ fT, fT = (fun k => subs (envS (1000 + 6 * (x / 8)) Cs 0 []) (gft G (x / 8) k)) := ⟨_, rfl⟩
  have okf : ∀ k, k < cs.length → okE G (scX G fo) (fT k) := by
    intro k hk
    rw [hfT]
    refine okE_subs hT (hG.2.2.2.2.1 _ y7 k (by omega)).1 (fun c hc => envS_lt hc) (fun c hc' => ?_)
    obtain ⟨B, b1, b2⟩ := dcl_cov (b1 := 0) (Bs := []) hCm hc'
    exact Or.inl ⟨B, b1, (okE_cut y6 okA).2 B b2⟩
  have csT : ∀ (k : Nat) (q : Nat × Nat × Nat), cs[k]? = some q → h ≤ q.1 ∧ q.1 ≤ q.2.2 ∧ q.2.2 < q.2.1 ∧ q.2.1 ≤ hi ∧ ∃ B, wE G H b n (scX G fo) (tVX G fo) S O t m q.1 q.2.1 q.2.2 B ∧ impl G B (fT k) := by
    intro k q hk
    obtain ⟨z1, z2, z3, z4, B, z5, z6⟩ := l3 k q hk
    exact ⟨z1, z2, z3, z4, B, wE_eq (Nat.le_refl _) (Nat.le_refl _) (tca _ _) z5, by rw [hfT]; exact z6⟩
  have e224 : t.2.1 224 e = s.2.1 224 e := by rw [RX_row tX (by decide)]
  have ch0 : chn t (s.2.1 224 e).toInt (cs.map (·.2.2)) := chn_row (RX_row tX (by decide)) _ _ l2
  refine ⟨r, rfl, by omega, ?_⟩
  rw [e224]
  refine ⟨fun v1 v2 v3 v4 v5 v6 v7 v8 u => v2 = a2 ∧ v3 = a3 ∧ v5 = t.1 107 ∧ v6 = t.1 108 ∧ v7 = t.1 105 ∧ (v4.toInt = 0 → r.toInt = 0) ∧ ∃ k : Nat, PAr own b n W N T F H S0 G S O E pl c Vn vt1 L1 (envS b0 As b1 Bs) fT cs t k v8.toInt v4.toInt u, fun _ _ _ _ _ _ _ _ u => ((pl : Int) + 8 - (u.1 105).toInt).toNat, ⟨rfl, rfl, rfl, rfl, rfl, fun w => w, 0, Vn, vt1, L1, RX_rf q1.2.2.2.2.1 q1.2.2.2.2.2.1, tR, Nat.le_refl _, Nat.le_refl _, Nat.le_refl _, by omega, g3, fun _ => ⟨ch0, fun j q hj => by omega⟩⟩, ?_⟩
  rintro v1 v2 v3 v4 v5 v6 v7 v8 u ⟨z2, z3, z5, z6, z7, z4, k, hI⟩
  have z2 := z2.symm
  have z3 := z3.symm
  have z5 := z5.symm
  have z6 := z6.symm
  have z7 := z7.symm
  subst z2 z3 z5 z6 z7
  obtain ⟨Vn', vt', L', uX, uR, k1, k2, k3, k4, k5, k6⟩ := id hI
  have hv' := RT_vt uR
  obtain ⟨m1, m2, m3, m4, m5, m6, m7, m8, m9, m10, m11, m12, m13, m14, m15, m16, m17, m18, m19⟩ := id uR
  have suX : RX rK E pl Vn vt s u := RX_tr tX' uX (fun _ w => w) (Nat.le_refl _) (Nat.le_refl _) (Nat.le_refl _) g1
  -- an end that is not 0
  have bad : ∀ (w : yS) (L2 : Nat) (t0 : Int32) (b1' b2' b3' b4' b5' b6' b8' : Int32), RX rK E pl Vn vt s w → RTm own b n W N T F H S0 G S O E (pl + k) c Vn' vt' L2 w → L' ≤ L2 → 0 ≤ t0.toInt → ¬ t0.toInt = 0 → w_241_106 (Tot d) b1' b2' b3' t0 b5' b6' (t.1 105) b8' w (EvQ own b n W N T F H S0 G S O E pl c Vn vt L (envS b0 As b1 Bs) A s) := by
    intro w L2 t0 b1' b2' b3' b4' b5' b6' b8' wX wR hL2 ht ht0
    unfold w_241_106
    rintro s1 rfl
    obtain ⟨n1, n2, n3, n4, n5, n6, n7, n8, n9, n10, n11, n12, n13, n14, n15, n16, n17, n18, n19⟩ := id wR
    have hv2 := RT_vt wR
    refine ⟨t0, rfl, ht, RX_sf wX (by decide), Vn', vt', L2, RT_rx wR (RX_sf (k := 105) (v := t.1 105) (RX_rf (ks := [105]) (E := E) (pl := pl) (Vn := Vn') (vt := vt') n1.2.2.2.2.1 n1.2.2.2.2.2.1) (by decide)) (by decide) n4 q5 n6 n7 n8 n9 n11 n12 n13 (Nat.le_refl _) (Nat.le_refl _) n16 n19, by omega, by omega, by omega, fun q => absurd q ht0⟩
  have fin : (v4.toInt = 0 → k = cs.length) → w_241_51 (Tot d) v1 a2 a3 v4 (t.1 107) (t.1 108) (t.1 105) v8 u (EvQ own b n W N T F H S0 G S O E pl c Vn vt L (envS b0 As b1 Bs) A s) := by
    intro hend
    unfold w_241_51
    refine ⟨fun hne => ?_, fun h0 => ?_⟩
    · unfold w_241_58
      exact ⟨fun _ => bad u L' v4 v1 a2 a3 v4 _ _ v8 suX uR (Nat.le_refl _) k5 hne, fun w => absurd w hne⟩
    · refine Tot.imp (Tot.mono (by omega) (r_237 (d := 0) uR)) ?_
      rintro v w ⟨x3', rfl, wX, w2, L2, wR, hL2, hr, -⟩
      have swX : RX rK E pl Vn vt s w := RX_tr suX (RX_mo wX (by decide) (Nat.le_refl _) (Nat.le_refl _) (Nat.le_refl _) (Nat.le_refl _)) (fun _ w => w) (Nat.le_refl _) (by omega) k1 (by omega)
      refine ⟨x3', rfl, ?_⟩
      by_cases hx3 : x3'.toInt = 0
      · obtain ⟨-, hL3⟩ := hr.resolve_right (fun w => by omega)
        obtain ⟨p, p1, p2, p3, p4, p5⟩ := g4 (z4 h0)
        have ek := hend h0
        obtain ⟨-, k8⟩ := k6 h0
        have segw : seg w p (subs (envS b0 As b1 Bs) A).length = subs (envS b0 As b1 Bs) A := by
          rw [seg_2 w2, RX_seg uX p4.1 (by omega)]
          exact p5
        refine st58 (k := k) (x := x) (Cs := Cs) (p := p) swX wR (by omega) (by omega) (by omega) (by omega) hG hsc x3 okA okB y6 y7 y8 (by omega) (by omega) p1 p2 p3 (by omega) segw q5 (fun j hj => ?_) x3' hx3
        have hjl : j < cs.length := by omega
        obtain ⟨z, z1', z2', z3'⟩ := k8 j cs[j] hj (List.getElem?_eq_getElem hjl)
        refine ⟨z, by rw [w2]; exact z1', z2', ?_⟩
        rw [hfT] at z3'
        have : VT w z = VT u z := by
          unfold VT
          rw [w2]
          exact seg_2 w2
        rw [this]
        exact z3'
      · unfold w_241_58
        exact ⟨fun _ => bad w L2 x3' v1 a2 a3 v4 _ _ v8 swX wR hL2 (by omega) hx3, fun w => absurd w hx3⟩
  unfold w_241_22
  refine ⟨fun hneg => fin (fun h0 => ?_), fun hpos => ⟨fun hne => fin (fun q => absurd q hne), fun h0 => ?_⟩⟩
  · obtain ⟨k7, -⟩ := k6 h0
    cases hdr : cs.drop k with
    | nil =>
      have := List.drop_eq_nil_iff.mp hdr
      omega
    | cons q cs' =>
      rw [hdr] at k7
      have : v8.toInt = (q.2.2 : Int) := k7.1
      omega
  · obtain ⟨k7, -⟩ := k6 h0
    cases hdr : cs.drop k with
    | nil =>
      rw [hdr] at k7
      have : v8.toInt = -1 := k7
      omega
    | cons q cs' =>
      rw [hdr] at k7
      have hz8 : v8.toInt = (q.2.2 : Int) := k7.1
      have hck : cs[k]? = some q := by
        have := congrArg List.head? hdr
        rw [List.head?_drop] at this
        exact this
      obtain ⟨c1, c2, c3, c4, -⟩ := csT k q hck
      rw [h0] at hI
      have hkl := cs_lt hck
      refine Tot.imp (PAr_step ih tR tC hfo csT okf (by omega) hhi hN (by omega) hE hI hck hz8 h2 h3) ?_
      rintro v u1 ⟨x3', rfl, n1, n2, n3⟩
      rw [show (u1.1 105).toInt.toNat = pl + k by omega]
      refine ⟨x3', rfl, by omega, ?_⟩
      rintro s4 rfl
      have e105 : (sa u1 278 (pl + k) (u1.1 102)).1 105 = u1.1 105 := rfl
      rw [e105]
      refine ⟨by omega, ?_⟩
      rintro x5 hx5 s6 rfl
      have e225 : (sf (sa u1 278 (pl + k) (u1.1 102)) 105 x5).2.1 225 v8.toInt.toNat = t.2.1 225 q.2.2 := by
        show (sa u1 278 (pl + k) (u1.1 102)).2.1 225 v8.toInt.toNat = _
        rw [sa_2, if_neg (fun w => by omega), n2, show v8.toInt.toNat = q.2.2 by omega]
      rw [e225]
      refine ⟨by omega, ⟨rfl, rfl, rfl, rfl, rfl, fun _ => z4 h0, k + 1, n3 x5 (by omega)⟩, ?_⟩
      show ((pl : Int) + 8 - x5.toInt).toNat < ((pl : Int) + 8 - (u.1 105).toInt).toNat
      omega
end ES2
