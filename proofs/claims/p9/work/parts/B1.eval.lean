/-! ===== eval: its world ===== -/
section EV1
variable (own : Nat → Nat × Nat) (b n W N T F H S0 : Nat) (G : PG) (S O : Nat)
/-- where E is evaluated: the env, the variables on the pile -/
def RCx (fo : Option Nat) (E pl Vn vt fr ev b0 : Nat) (As : List (List Nat)) (b1 : Nat) (Bs : List (List Nat)) (s : yS) : Prop := ev < E ∧ EV s ev vt b0 As b1 Bs ∧ wEnv G (scX G fo) (envS b0 As b1 Bs) ∧ ∀ (k : Nat) (A : List Nat), tVX G fo k = some A → fr + k < pl ∧ ∃ v : Nat, (s.2.1 278 (fr + k)).toInt = (v : Int) ∧ v < Vn ∧ impl G (VT s v) (subs (envS b0 As b1 Bs) A)
def EvQ (E pl c Vn vt L : Nat) (τ : Nat → Option (List Nat)) (A : List Nat) (s : yS) (v : Option Value) (s' : yS) : Prop := ∃ r : Int32, v = some (.int r) ∧ 0 ≤ r.toInt ∧ RX rK E pl Vn vt s s' ∧ ∃ Vn' vt' L' : Nat, RTm own b n W N T F H S0 G S O E pl c Vn' vt' L' s' ∧ Vn ≤ Vn' ∧ vt ≤ vt' ∧ L ≤ L' ∧ (r.toInt = 0 → ∃ w : Nat, (s'.1 102).toInt = (w : Int) ∧ w < Vn' ∧ impl G (VT s' w) (subs τ A))
end EV1
section EV2
variable {own : Nat → Nat × Nat} {b n W N T F H S0 : Nat} {G : PG} {S O E pl c Vn vt L : Nat} {s s' : yS} {fo : Option Nat} {fr ev b0 b1 : Nat} {As Bs : List (List Nat)}
theorem RCx_rx {ks : List Nat} {E' pl' Vn' vt' : Nat} (h : RCx G fo E pl Vn vt fr ev b0 As b1 Bs s) (hw : RX ks E pl Vn vt s s') (hall : ∀ v, v < Vn → VOK G b S vt s v) (hv : vt ≤ 20000) (hE : E ≤ E') (hp : pl ≤ pl') (hV : Vn ≤ Vn') (ht : vt ≤ vt') : RCx G fo E' pl' Vn' vt' fr ev b0 As b1 Bs s' := by
  obtain ⟨h1, h2, h3, h4⟩ := h
  refine ⟨by omega, RX_EV h2 hw h1 hv ht, h3, fun k A hA => ?_⟩
  obtain ⟨k1, v, k2, k3, k4⟩ := h4 k A hA
  refine ⟨by omega, v, ?_, by omega, ?_⟩
  · rw [hw.2.1 278 (fr + k) (fun w => by omega) (fun w => by omega) (fun w => by omega) (fun w => by omega) (fun w => by omega) (fun w => by omega)]
    exact k2
  · rw [RX_VT hw k3 (hall v k3) hv]
    exact k4
/-- what is below a struct's TYPE is that TYPE -/
theorem impl_st {V I : List Nat} {x : Nat} {Cs : List (List Nat)} (hc : cutT I x Cs) (hs : ¬ gst G (x / 8) = 0) (h : impl G V I) : V = I := by
  obtain ⟨y, Ds, hc', h⟩ := h
  obtain ⟨e1, e2⟩ := cutT_inj hc hc'
  subst e1 e2
  rcases h with ⟨-, h⟩ | ⟨-, h, -⟩
  · exact h
  · exact absurd h hs
theorem VOK_vSt {v : Nat} (h : VOK G b S vt s v) : vSt G (VT s v) := by
  obtain ⟨p, l, x, As, h1, h2, h3, h4, h5, h6, h7, h8, -⟩ := h
  have : VT s v = seg s p l := by unfold VT; rw [show (s.2.1 275 v).toInt.toNat = p by omega, show (s.2.1 276 v).toInt.toNat = l by omega]
  rw [this]
  exact ⟨h6, x, As, h5, h7, h8⟩
theorem dcl_put {sc : Nat → Prop} {τ : Nat → Option (List Nat)} {D : Nat} {Cs : List (List Nat)} {Lt : List Nat} (hT : gT G ≤ 24) (hτ : wEnv G sc τ) (hC : Cs.length = gfm G D) (hL : okE G (scDg G D) Lt) : subs τ (subs (envS (1000 + 6 * D) Cs 0 []) Lt) = subs (envS (1000 + 6 * D) (Cs.map (subs τ)) 0 []) Lt := by
  rw [subs_env]
  · rfl
  · intro x hx
    rcases hL.2 x hx with w | ⟨w1, w2, w3⟩
    · exact Or.inr (hτ.1 _ (by omega))
    · obtain ⟨A, k1, -⟩ := dcl_cov (b1 := 0) (Bs := []) hC w3
      exact Or.inl ⟨A, k1⟩
/-- spend, in a run -/
theorem r_237 {d : Nat} (hR : RTm own b n W N T F H S0 G S O E pl c Vn vt L s) : Tot (d + 1) 237 [.ref 213, .int 1] s (fun v s' => ∃ r : Int32, v = some (.int r) ∧ RX [94, 95] E pl Vn vt s s' ∧ s'.2 = s.2 ∧ ∃ L' : Nat, RTm own b n W N T F H S0 G S O E pl c Vn vt L' s' ∧ L ≤ L' ∧ ((r.toInt = 0 ∧ L' = L + 1) ∨ r.toInt = 2) ∧ ((r.toInt = 0 ∧ 1 ≤ lft s ∧ usd 1 s s') ∨ (r.toInt = 2 ∧ lft s < 1 ∧ usd (lft s) s s'))) := by
  obtain ⟨r1, r2, r3, r4, r5, r6, r7, r8, r9, r10, r11, r12, r13, r14, r15, r16, r17, r18, r19⟩ := id hR
  refine Tot.imp (s_237 (d := d) (m := 1) (by decide) (by omega) (by omega) r10 r12) ?_
  rintro v w ⟨X1, X3, r, rfl, rfl, g1, g2, g3, g4, g5⟩
  obtain ⟨L', hL'⟩ : ∃ L' : Nat, X1.toInt = (L' : Int) := ⟨X1.toInt.toNat, by omega⟩
  have zX : RX [94, 95] E pl Vn vt s (sf (sf s 95 X1) 94 X3) := RX_sf (RX_sf (RX_rf r1.2.2.2.2.1 r1.2.2.2.2.2.1) (by decide)) (by decide)
  refine ⟨r, rfl, zX, rfl, L', RT_rx hR zX (by decide) r4 r5 r6 r7 r8 hL' (by show (L' : Int) ≤ (s.1 96).toInt; omega) (by show 0 ≤ X3.toInt ∧ X3.toInt ≤ 60000; omega) (by show 0 ≤ (s.1 93).toInt ∧ (s.1 93).toInt ≤ (L' : Int); omega) (by omega) (Nat.le_refl _) (by omega) r19, by omega, ?_, ?_⟩
  · rcases g5 with ⟨g5, g6, -⟩ | g5
    · exact Or.inl ⟨g5, by omega⟩
    · exact Or.inr g5.1
  · rcases g5 with ⟨g5, g6, g7, g8⟩ | ⟨g5, g6, g7, g8⟩
    · exact Or.inl ⟨g5, g8, g6, g7⟩
    · exact Or.inr ⟨g5, g8, g6, g7⟩
/-- evalField -/
theorem s_242 {d e hi m w0 : Nat} {A0 A : List Nat} {τ : Nat → Option (List Nat)} {a1 : Int32} (hR : RTm own b n W N T F H S0 G S O E pl c Vn vt L s) (hτ : wEnv G (scX G fo) τ) (hA0 : okE G (scX G fo) A0) (hw : (s.2.1 221 e).toInt = 3) (hP : wP G H b n (scX G fo) S O s (wE G H b n (scX G fo) (tVX G fo) S O s m) hi e A0 A) (he : e < 12006) (h1 : a1.toInt = (e : Int)) (h102 : (s.1 102).toInt = (w0 : Int)) (hw0 : w0 < Vn) (hi0 : impl G (VT s w0) (subs τ A0)) : Tot (d + 2) 242 [.ref 213, .int a1] s (EvQ own b n W N T F H S0 G S O E pl c Vn vt L τ A s) := by
  have hv := RT_vt hR
  obtain ⟨r1, r2, r3, r4, r5, r6, r7, r8, r9, r10, r11, r12, r13, r14, r15, r16, r17, r18, r19⟩ := id hR
  have hG := r1.2.2.2.2.2.2.2.2.1
  obtain ⟨x, Cs, k, c1, c2, c3, c4, c5, c6⟩ : ∃ (x : Nat) (Cs : List (List Nat)) (k : Nat), cutT A0 x Cs ∧ x / 8 < gT G ∧ ¬ gst G (x / 8) = 0 ∧ (s.2.1 226 e).toInt = (k : Int) ∧ k < gfd G (x / 8) ∧ A = subs (envS (1000 + 6 * (x / 8)) Cs 0 []) (gft G (x / 8) k) := by
    rcases hP with ⟨-, h⟩ | ⟨q, -⟩ | ⟨q, -⟩
    · exact h
    · omega
    · omega
  have e1 : a1.toInt.toNat = e := by omega
  have hT := hG.1.1
  -- the value's TYPE
  obtain ⟨oA, kA⟩ := wEnv_ok hT hτ hA0
  have hcut := cut_subs c1 oA (hτ.1 _ (by omega))
  have hVT := impl_st hcut c3 hi0
  obtain ⟨p, l, x', As', v1, v2, v3, v4, v5, v6, v7, v8, v9, v10⟩ := r17 w0 hw0
  have eVT : VT s w0 = seg s p l := by unfold VT; rw [show (s.2.1 275 w0).toInt.toNat = p by omega, show (s.2.1 276 w0).toInt.toNat = l by omega]
  rw [← eVT, hVT] at v5
  obtain ⟨e2, e3⟩ := cutT_inj hcut v5
  subst e2 e3
  obtain ⟨w, w1, w2, w3⟩ := v10 k c5
  have hk6 := (hG.2.1 _ c2).2.1
  have okF := (hG.2.2.2.2.1 _ c2 k c5).1
  have hCm : Cs.length = gfm G (x / 8) := by
    rw [c1.2.2]
    rcases (okE_cut c1 hA0).1 with z | z
    · exact z.2
    · omega
  rw [← dcl_put hT hτ hCm okF, ← c6] at w3
  refine t_242 ?_
  unfold w_242_0
  refine Tot.imp (r_237 (d := d) hR) ?_
  rintro v s1 ⟨r, rfl, zX, z2, L', RT1, hL, hr, -⟩
  have e102 : s1.1 102 = s.1 102 := zX.1 102 (by decide)
  unfold w_242_20
  rw [e1]
  have zX' : RX rK E pl Vn vt s s1 := RX_mo zX (by decide) (Nat.le_refl _) (Nat.le_refl _) (Nat.le_refl _) (Nat.le_refl _)
  refine ⟨r, rfl, fun hr0 => ⟨r, rfl, by omega, zX', Vn, vt, L', RT1, Nat.le_refl _, Nat.le_refl _, hL, fun q => absurd q hr0⟩, fun hr0 => ?_⟩
  rw [e102, z2]
  refine ⟨by omega, fun x4 hx4 => ⟨by omega, by omega, fun x5 hx5 => ⟨by omega, ?_⟩⟩⟩
  rintro s6 rfl
  rw [show x5.toInt.toNat = 6 * w0 + k by omega]
  have X6 : RX rK E pl Vn vt s (sf s1 102 (s.2.1 277 (6 * w0 + k))) := RX_sf zX' (by decide)
  obtain ⟨q1, q2, q3, q4, q5, q6, q7, q8, q9, q10, q11, q12, q13, q14, q15, q16, q17, q18, q19⟩ := id RT1
  refine ⟨r, rfl, by omega, X6, Vn, vt, L', RT_rx hR X6 (by decide) q4 q5 q6 q7 q8 q9 q11 q12 q13 hL (Nat.le_refl _) q16 q19, Nat.le_refl _, Nat.le_refl _, hL, fun _ => ⟨w, w1, by omega, ?_⟩⟩
  rw [RX_VT X6 (by omega) (r17 w (by omega)) (by omega)]
  exact w3
/-- evalAssert -/
theorem s_243 {d e hi m w0 : Nat} {A0 A : List Nat} {a1 a2 : Int32} (hR : RTm own b n W N T F H S0 G S O E pl c Vn vt L s) (hE : E ≤ 280) (hX : RCx G fo E pl Vn vt fr ev b0 As b1 Bs s) (hw : (s.2.1 221 e).toInt = 5) (hP : wP G H b n (scX G fo) S O s (wE G H b n (scX G fo) (tVX G fo) S O s m) hi e A0 A) (he : e < 12006) (h1 : a1.toInt = (e : Int)) (h2 : a2.toInt = (ev : Int)) (h102 : (s.1 102).toInt = (w0 : Int)) (hw0 : w0 < Vn) : Tot (d + 6) 243 [.ref 213, .int a1, .int a2] s (EvQ own b n W N T F H S0 G S O E pl c Vn vt L (envS b0 As b1 Bs) A s) := by
  have hv := RT_vt hR
  obtain ⟨r1, r2, r3, r4, r5, r6, r7, r8, r9, r10, r11, r12, r13, r14, r15, r16, r17, r18, r19⟩ := id hR
  obtain ⟨x1, x2, x3, x4⟩ := id hX
  have hG := r1.2.2.2.2.2.2.2.2.1
  have hT := hG.1.1
  obtain ⟨y, y1, y2, y3, y4, y5, y6⟩ : ∃ y : Nat, (s.2.1 229 e).toInt = (y : Int) ∧ e < y ∧ y < hi ∧ wT G b (scX G fo) S s y A ∧ 4002 * (b : Int) ≤ (s.2.1 223 e).toInt ∧ (s.2.1 223 e).toInt < 4002 * (b : Int) + n := by
    rcases hP with ⟨q, -⟩ | ⟨-, h⟩ | ⟨q, -⟩
    · omega
    · exact h
    · omega
  have okA : okE G (scX G fo) A := by
    obtain ⟨p, l, -, -, -, -, k, -⟩ := y4
    exact k
  obtain ⟨τ, hτ⟩ : ∃ τ, τ = envS b0 As b1 Bs := ⟨_, rfl⟩
  obtain ⟨oA, kA⟩ := wEnv_ok hT x3 okA
  have e1 : a1.toInt.toNat = e := by omega
  refine t_243 ?_
  unfold w_243_0
  rw [e1]
  refine ⟨by omega, ?_⟩
  refine Tot.imp (Tot.mono (by omega) (s_239 (d := 0) hR (by omega) y4 y1 h2 x1 x2 x3)) ?_
  rintro v t ⟨r, rfl, tX, vt1, L1, R1, g1, g2, g3, g4, -⟩
  rw [← hτ] at kA g4 ⊢
  have tX' : RX rK E pl Vn vt s t := RX_mo tX (by decide) (Nat.le_refl _) (Nat.le_refl _) (Nat.le_refl _) (Nat.le_refl _)
  have hv1 := RT_vt R1
  obtain ⟨q1, q2, q3, q4, q5, q6, q7, q8, q9, q10, q11, q12, q13, q14, q15, q16, q17, q18, q19⟩ := id R1
  refine ⟨r, rfl, fun hle => ?_, fun hgt => ⟨r, rfl, g3, tX', Vn, vt1, L1, R1, Nat.le_refl _, g1, g2, fun q => absurd q (by omega)⟩⟩
  obtain ⟨p, p1, p2, p3, p4, p5⟩ := g4 (by omega)
  rintro s4 rfl
  obtain ⟨pv, lv, xv, Av, v1, v2, v3, v4, v5, v6, v7, v8, -⟩ := q17 w0 hw0
  rw [show (s.1 102).toInt.toNat = w0 by omega]
  have R4 : RTm own b n W N T F H S0 G S O E pl c Vn vt1 L1 (sf t 64 100000) := RT_rx R1 (RX_sf (k := 64) (v := 100000) (RX_rf (ks := [64]) (E := E) (pl := pl) (Vn := Vn) (vt := vt1) q1.2.2.2.2.1 q1.2.2.2.2.2.1) (by decide)) (by decide) q4 q5 q6 q7 q8 q9 q11 q12 q13 (Nat.le_refl _) (Nat.le_refl _) q16 q19
  obtain ⟨d1, d2, d3, d4, d5, d6, d7, d8, d9, d10⟩ := id R4.1
  obtain ⟨rH, rD, rF⟩ := RSx_of (fun q i hv => SYo_SY (d2 q i hv))
  have gT' : gT G = T := by rw [← d8]; exact (pgA d1).1
  obtain ⟨z, Zs, cz⟩ := cutT_ex kA.1
  have hz6 : Zs.length ≤ 6 ∧ z / 8 < T := by
    rw [cz.2.2]
    rcases (okE_cut cz kA).1 with w | w
    · have := (d9.2.1 _ w.1).1
      omega
    · exact absurd w.2.2 id
  have sg1 : seg (sf t 64 100000) pv lv = seg t pv lv := seg_2 (s := t) rfl
  have sg2 : seg (sf t 64 100000) p (subs τ A).length = subs τ A := by
    refine Eq.trans (seg_2 (s := t) ?_) p5
    rfl
  have eVT : VT t w0 = seg t pv lv := by unfold VT; rw [show (t.2.1 275 w0).toInt.toNat = pv by omega, show (t.2.1 276 w0).toInt.toNat = lv by omega]
  refine ⟨by omega, by omega, ?_⟩
  refine Tot.imp (Tot.mono (by omega) (s_195 (e := 0) (P := 100000) (E := E) (p := pv) (l := lv) (t := p) (m := (subs τ A).length) (x := z) (As := Zs) d1 rH rD rF d3 d4 d5 d6 d7 (by show (100000 : Int32).toInt = _; decide) (by omega) (by omega) q4 (by omega) v1 v2 p1 p2 (by omega) (by omega) (by rw [d8, sg1]; exact ok_Sub d9 gT' scC_0 v6) (by rw [sg2]; exact cz) hz6.1 (Or.inl hz6.2))) ?_
  rintro v u ⟨hWF, x7, rfl, z0, z2, hi7⟩
  rw [d8, sg1, sg2, ← eVT] at hi7
  have uX1 : RX rK E pl Vn vt1 t u := RX_tr (RX_sf (k := 64) (v := 100000) (RX_rf (ks := rK) (E := E) (pl := pl) (Vn := Vn) (vt := vt1) q1.2.2.2.2.1 q1.2.2.2.2.2.1) (by decide)) (RX_xf (pl := pl) (Vn := Vn) (vt := vt1) (show XF [71, 72, 73, 74] 100000 E (sf t 64 100000) u from hWF)) (by decide) (Nat.le_refl _) (Nat.le_refl _) (Nat.le_refl _) (Nat.le_refl _)
  have uk : ∀ k, k ∉ [64, 71, 72, 73, 74] → u.1 k = t.1 k := fun k hk => by
    rw [hWF.1 k (fun w => hk (by clear hk; revert k; decide)), sf_1, if_neg (fun w => hk (by rw [w]; decide))]
  have Ru : RTm own b n W N T F H S0 G S O E pl c Vn vt1 L1 u := RT_rx R1 uX1 (by decide) (by rw [uk 70 (by decide)]; exact q4) (by rw [uk 105 (by decide)]; exact q5) (by rw [uk 106 (by decide)]; exact q6) (by rw [uk 98 (by decide)]; exact q7) (by rw [uk 97 (by decide)]; exact q8) (by rw [uk 95 (by decide)]; exact q9) (by rw [uk 96 (by decide)]; exact q11) (by rw [uk 94 (by decide)]; exact q12) (by rw [uk 93 (by decide)]; exact q13) (Nat.le_refl _) (Nat.le_refl _) q16 q19
  have uX : RX rK E pl Vn vt s u := RX_tr tX' uX1 (fun _ w => w) (Nat.le_refl _) (Nat.le_refl _) (Nat.le_refl _) g1
  refine ⟨x7, rfl, fun h72 => ?_, fun h72 => ⟨4, rfl, by decide, uX, Vn, vt1, L1, Ru, Nat.le_refl _, g1, g2, fun q => absurd q (by decide)⟩⟩
  refine Tot.imp (Tot.mono (by omega) (r_237 (d := 0) Ru)) ?_
  rintro v f ⟨x10, rfl, fX, f2, L2, Rf, hL2, hr, -⟩
  refine ⟨x10, rfl, ?_⟩
  rintro s11 rfl
  have fX' : RX rK E pl Vn vt s (sf f 102 (s.1 102)) := RX_sf (RX_tr uX (RX_mo fX (by decide) (Nat.le_refl _) (Nat.le_refl _) (Nat.le_refl _) (Nat.le_refl _)) (fun _ w => w) (Nat.le_refl _) (Nat.le_refl _) (Nat.le_refl _) g1) (by decide)
  have fX1 : RX rK E pl Vn vt1 t (sf f 102 (s.1 102)) := RX_sf (RX_tr uX1 (RX_mo fX (by decide) (Nat.le_refl _) (Nat.le_refl _) (Nat.le_refl _) (Nat.le_refl _)) (fun _ w => w) (Nat.le_refl _) (Nat.le_refl _) (Nat.le_refl _) (Nat.le_refl _)) (by decide)
  obtain ⟨m1, m2, m3, m4, m5, m6, m7, m8, m9, m10, m11, m12, m13, m14, m15, m16, m17, m18, m19⟩ := id Rf
  have Rg : RTm own b n W N T F H S0 G S O E pl c Vn vt1 L2 (sf f 102 (s.1 102)) := RT_rx R1 fX1 (by decide) m4 m5 m6 m7 m8 m9 m11 m12 m13 (by omega) (Nat.le_refl _) m16 m19
  unfold w_243_60
  have hx10 : 0 ≤ x10.toInt := by omega
  refine ⟨fun h10 => ⟨x10, rfl, hx10, fX', Vn, vt1, L2, Rg, Nat.le_refl _, g1, by omega, fun q => absurd q h10⟩, fun h10 => ⟨fun h7 => ⟨x10, rfl, hx10, fX', Vn, vt1, L2, Rg, Nat.le_refl _, g1, by omega, fun _ => ⟨w0, h102, hw0, ?_⟩⟩, fun h7 => ⟨by omega, ?_⟩⟩⟩
  · rw [RX_VT fX1 hw0 (q17 w0 hw0) (by omega)]
    exact hi7 (by omega)
  · have r23 : (sf f 102 (s.1 102)).2.1 223 e = s.2.1 223 e := by rw [RX_row fX' (by decide)]
    rw [r23]
    have hn := r2.2.1
    have hb3 := r2.1
    refine ⟨by omega, ?_⟩
    rintro s12 rfl
    obtain ⟨g, hg⟩ : ∃ g, g = sf (sf f 102 (s.1 102)) 92 ((sf f 102 (s.1 102)).2.1 216 (s.2.1 223 e).toInt.toNat) := ⟨_, rfl⟩
    rw [← hg]
    have gX : RX rK E pl Vn vt s g := by rw [hg]; exact RX_sf fX' (by decide)
    have gX1 : RX rK E pl Vn vt1 t g := by rw [hg]; exact RX_sf fX1 (by decide)
    have Rh : RTm own b n W N T F H S0 G S O E pl c Vn vt1 L2 g := RT_rx R1 gX1 (by decide) (by rw [hg]; exact m4) (by rw [hg]; exact m5) (by rw [hg]; exact m6) (by rw [hg]; exact m7) (by rw [hg]; exact m8) (by rw [hg]; exact m9) (by rw [hg]; exact m11) (by rw [hg]; exact m12) (by rw [hg]; exact m13) (by omega) (Nat.le_refl _) m16 m19
    exact ⟨1, rfl, by decide, gX, Vn, vt1, L2, Rh, Nat.le_refl _, g1, by omega, fun q => absurd q (by decide)⟩
end EV2
