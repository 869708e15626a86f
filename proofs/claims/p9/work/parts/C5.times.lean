/-! ===== program: three times through what is declared ===== -/
section PT3
variable {Lg Lg' : (Nat → Nat → Int64) → Prop}
variable {own : Nat → Nat × Nat} {b n W N T F H S0 : Nat} {G : PG} {z z1 s u : yS}
theorem p96 {d : Nat} {Iv : Nat → yS → Prop} {R91 : Int32 → yS → Prop} {a1 : Int32} {u0 : yS} {P : Option Value → yS → Prop} (hI0 : Iv 0 u0) (hb : b < 2) (hTF : T + F ≤ 84) (ha1 : 0 ≤ a1.toInt ∧ a1.toInt ≤ 2) (h30 : ∀ i u, Iv i u → (u.1 30).toInt = (b : Int) ∧ (u.2.1 263 b).toInt = (T : Int) + F) (step : ∀ i u (a2 : Int32), Iv i u → i < T + F → (u.1 8).toInt = 0 → a2 = u.2.1 262 (84 * b + i) → Tot d 231 [.ref 213, .int a1, .int a2] u (fun v s' => v = none ∧ Iv (i + 1) s')) (fin : ∀ i u, Iv i u → ((u.1 8).toInt = 0 → i = T + F) → ∀ x : Int32, x.toInt = a1.toInt + 1 → R91 x u) : wl_230_96 (Tot d) R91 a1 0 u0 P := by
  refine ⟨fun z1 z2 w => z1 = a1 ∧ ∃ i : Nat, z2.toInt = (i : Int) ∧ i ≤ T + F ∧ Iv i w, fun _ z2 _ => (100 - z2.toInt).toNat, ⟨rfl, 0, rfl, by omega, hI0⟩, ?_⟩
  rintro z1 z2 w ⟨e1, i, i1, i2, hI⟩
  have e1 := e1.symm
  subst e1
  obtain ⟨k1, k2⟩ := h30 i w hI
  unfold w_230_96 w_230_120
  rw [show (w.1 30).toInt.toNat = b by omega]
  refine ⟨by omega, fun hend => ⟨by omega, fun x hx => fin i w hI (fun _ => by omega) x hx⟩, fun hmore => ⟨fun hne => ⟨by omega, fun x hx => fin i w hI (fun q => absurd q hne) x hx⟩, fun h0 => ⟨by omega, fun x1 hx1 => ⟨by omega, fun x2 hx2 => ⟨by omega, ?_⟩⟩⟩⟩⟩
  rw [show x2.toInt.toNat = 84 * b + i by omega]
  refine Tot.imp (step i w _ hI (by omega) h0 rfl) ?_
  rintro v s3 ⟨rfl, hI3⟩
  exact ⟨rfl, by omega, fun x5 hx5 => ⟨⟨rfl, i + 1, by omega, by omega, hI3⟩, by show (100 - x5.toInt).toNat < (100 - z2.toInt).toNat; omega⟩⟩
theorem PF_fo (hF : PFm Lg b z z1) (h : FO z1 u) : PFm Lg b z u := by
  obtain ⟨f1, f2, f3, f4, f5, f6, f7, f8, f9⟩ := hF
  have h2 := FO_2 h
  refine ⟨BKF_tr f1 (BKF_2 h2), fun k hk => ?_, fun i => by rw [h2]; exact f3 i, fun i => by rw [h2]; exact f4 i, fun a ha => ?_, FO_8 h, by rw [FO_1 h (by decide)]; exact f7, f8, ⟨by rw [h2]; exact f9.1, by rw [h2]; exact f9.2.1, by rw [FO_1 h (k := 2) (by decide), FO_1 h (k := 26) (by decide)]; exact f9.2.2⟩⟩
  · rw [FO_1 h (fun w => hk (by rw [w]; decide))]
    exact f2 k hk
  · have := f5 a ha
    unfold tyE at this ⊢
    rw [h2]
    exact this
theorem PF_fz (hF : PFm Lg b z z1) (h : FZ b z1 u) (hT : TYN u) (h8 : 0 ≤ (u.1 8).toInt ∧ (u.1 8).toInt ≤ 70000) : PFm Lg b z u := by
  obtain ⟨f1, f2, f3, f4, f5, f6, f7, f8, f9⟩ := hF
  refine ⟨BKF_tr f1 (BKF_fz h), fun k hk => ?_, hT, fun i => ?_, fun a ha => ?_, h8, by rw [h.1 30 (by decide)]; exact f7, f8, ⟨by rw [h.2.2]; exact f9.1, by rw [FZ_row h (by decide)]; exact f9.2.1, by rw [h.1 2 (by decide), h.1 26 (by decide)]; exact f9.2.2⟩⟩
  · rw [h.1 k (fun w => hk ((show ∀ k ∈ [8, 65, 76, 77, 78], k ∈ pK by decide) k w))]
    exact f2 k hk
  · rw [h.2.1 265 i (fun w => by omega) (fun w => by omega) (fun w => by omega)]
    exact f4 i
  · have := f5 a ha
    unfold tyE at this ⊢
    rw [h.2.1 264 a (fun w => by omega) (fun w => by omega) (fun w => by omega)]
    exact this
theorem PF_xf {ks : List Nat} (hF : PFm Lg b z z1) (h : XF ks 100000 0 z1 u) (hk : ∀ k, k ∈ ks → k ∈ pK) (h30 : 30 ∉ ks ∧ 2 ∉ ks ∧ 26 ∉ ks) (h8 : 0 ≤ (u.1 8).toInt ∧ (u.1 8).toInt ≤ 70000) : PFm Lg b z u := PF_tf (lo := 4002 * b) (hi := 4002 * b) (S := 10 + 4100 * b) (O := 60000 * b) hF (TF_xf h) hk h30 (Nat.le_refl _) (by omega) (Nat.le_refl _) (Nat.le_refl _) h8
theorem PF_sfr (hF : PFm Lg b z z1) (h : SFr z1 u) : PFm Lg b z u := by
  obtain ⟨f1, f2, f3, f4, f5, f6, f7, f8, f9⟩ := hF
  refine ⟨BKF_tr f1 (BKF_sfr h), fun k hk => ?_, fun i => by rw [h.2.1 264 (by decide)]; exact f3 i, fun i => by rw [h.2.1 265 (by decide)]; exact f4 i, fun a ha => ?_, h.2.2.2.1, by rw [h.1 30 (by decide)]; exact f7, f8, ⟨by rw [h.2.2.1]; exact f9.1, by rw [h.2.1 220 (by decide)]; exact f9.2.1, by rw [h.1 2 (by decide), h.1 26 (by decide)]; exact f9.2.2⟩⟩
  · rw [h.1 k (fun w => hk (by rw [w]; decide))]
    exact f2 k hk
  · have := f5 a ha
    unfold tyE at this ⊢
    rw [h.2.1 264 (by decide)]
    exact this
/-- read, nothing resolved yet -/
def W0 (own : Nat → Nat × Nat) (b n W N T F H : Nat) (u : yS) : Prop := Lx b n W u ∧ RC b T F H u ∧ RAq own b n N T F H u ∧ (u.1 65).toInt = ((10 + 4100 * b : Nat) : Int) ∧ (u.1 64).toInt = 100000 ∧ (u.1 70).toInt = 0 ∧ (u.1 75).toInt = (b : Int) ∧ (u.1 85).toInt = ((60000 * b : Nat) : Int) ∧ ES own b n N u 259 b ∧ 4002 * b ≤ N ∧ N ≤ 4002 * b + 2760 ∧ cM u (4002 * b) N ≤ 1000
/-- all words resolved -/
def W2 (own : Nat → Nat × Nat) (b n W N T F H S0 : Nat) (G : PG) (u : yS) : Prop := CK own b n N T F H S0 G u ∧ Lx b n W u ∧ (∀ q i, vS b T H u q i → RV b n N H G u q i) ∧ (u.1 65).toInt = (S0 : Int) ∧ 10 + 4100 * b ≤ S0 ∧ (u.1 64).toInt = 100000 ∧ (u.1 70).toInt = 0 ∧ (u.1 85).toInt = ((60000 * b : Nat) : Int) ∧ (∃ D : Nat × Nat → Bool, S0 ≤ 10 + 4100 * b + cnt own D (4002 * b) N ∧ ∀ p, p.1 ∉ slR → D p = false) ∧ ES own b n N u 259 b ∧ N ≤ 4002 * b + 2760 ∧ cM u (4002 * b) N ≤ 1000
theorem W0_P1 (hF : PFm Lg b z u) (h : W0 own b n W N T F H u) : P1 own b n W N T F H u 0 u := by
  obtain ⟨f1, f2, f3, f4, f5, f6, f7, f8, f9⟩ := hF
  obtain ⟨w1, w2, w3, w4, w5, w6, w7, w8, w9, w10, w11, w12⟩ := h
  obtain ⟨c1, c2, c3, c4, c5, c6, c7⟩ := w2
  exact ⟨fun _ => false, ⟨w1, ⟨f8, w1.2.1, c1, c2, by omega, c4, c5, w3⟩, w7, f3, f6, w10, w11, ⟨10 + 4100 * b, w4, Nat.le_refl _, by omega⟩, ⟨fun _ _ => rfl, fun _ _ _ _ _ => rfl, rfl⟩, fun _ q i _ w => absurd w Bool.false_ne_true⟩, fun p w => absurd w Bool.false_ne_true, fun _ i hi => by omega⟩
theorem P1_W2 (hF : PFm Lg b z z1) (h : W0 own b n W N T F H z1) (hP : P1 own b n W N T F H z1 (T + F) u) (h0 : (u.1 8).toInt = 0) : ∃ (S0 : Nat) (G : PG), W2 own b n W N T F H S0 G u := by
  obtain ⟨f1, f2, f3, f4, f5, f6, f7, f8, f9⟩ := hF
  obtain ⟨w1, w2, w3, w4, w5, w6, w7, w8, w9, w10, w11, w12⟩ := h
  obtain ⟨S0, g1, g2, g3, g4, g5⟩ := P1_CK hP h0 f5 f4
  obtain ⟨D, S1, d1, d2, d3⟩ := P1_cnt hP
  have eS : S1 = S0 := by omega
  subst eS
  obtain ⟨D', hPH, -⟩ := id hP
  have fz := hPH.2.2.2.2.2.2.2.2.1
  have r : ∀ q, q ∉ [231, 232, 261, 264] → u.2.1 q = z1.2.1 q := fun q hq => funext (fun i => fz.2.1 q i (fun w => hq (by rcases w.1 with e | e <;> rw [e] <;> decide)) (fun w => hq (by rw [w.1]; decide)) (fun w => hq (by rw [w.1]; decide)))
  refine ⟨S1, pg u b H, g4, hPH.1, g5, d1, g3, by rw [fz.1 64 (by decide)]; exact w5, by rw [fz.1 70 (by decide)]; exact w6, by rw [fz.1 85 (by decide)]; exact w8, ⟨D, d2, d3⟩, ES_eq (s := z1) ⟨fun q hq x _ => by rw [r q ((show ∀ q ∈ ndB, q ∉ [231, 232, 261, 264] by decide) q hq)], r 215 (by decide), r 217 (by decide)⟩ (by rw [r 259 (by decide)]) (fun _ _ => rfl) (Nat.le_refl _) w9, w11, by rw [cM_eq (r 221 (by decide))]; exact w12⟩
theorem W2_WV (h : W2 own b n W N T F H S0 G u) (h8 : 0 ≤ (u.1 8).toInt ∧ (u.1 8).toInt ≤ 70000) : WV own b n N T F H S0 W 100000 0 G u := by
  obtain ⟨w1, w2, w3, w4, w5, w6, w7, w8, w9, w10, w11, w12⟩ := h
  have hb := w1.1.1
  exact ⟨⟨w1, w2, h8, w6, by omega, by omega, w7, by omega⟩, by omega, by omega, w3⟩
theorem W2_xf (h : W2 own b n W N T F H S0 G z1) (hX : XF b5K 100000 0 z1 u) : W2 own b n W N T F H S0 G u := by
  obtain ⟨w1, w2, w3, w4, w5, w6, w7, w8, w9, w10, w11, w12⟩ := h
  have r : ∀ q, q ∉ [264, 265, 266, 267, 268] → u.2.1 q = z1.2.1 q := fun q hq => XF_row hX hq
  refine ⟨CK_xf w1 hX (by decide) (by omega), Lx_xf w2 hX, fun q i hv => ?_, by rw [hX.1 65 (by decide)]; exact w4, w5, by rw [hX.1 64 (by decide)]; exact w6, by rw [hX.1 70 (by decide)]; exact w7, by rw [hX.1 85 (by decide)]; exact w8, w9, ES_eq (s := z1) ⟨fun q hq x _ => by rw [r q ((show ∀ q ∈ ndB, q ∉ [264, 265, 266, 267, 268] by decide) q hq)], r 215 (by decide), r 217 (by decide)⟩ (by rw [r 259 (by decide)]) (fun _ _ => rfl) (Nat.le_refl _) w10, w11, by rw [cM_eq (r 221 (by decide))]; exact w12⟩
  have hv' := (vS_xf hX).mp hv
  exact RV_xf hX (by omega) (slR_64 (vS_q hv')) (w3 q i hv')
theorem W2_FI {z2 : yS} (h : W2 own b n W N T F H S0 G z1) (hX : SFr z1 z2) : FIk own b n W N T F H S0 G 0 z2 := by
  obtain ⟨w1, w2, w3, w4, w5, w6, w7, w8, ⟨D, d1, d2⟩, w10, w11, w12⟩ := h
  have r : ∀ q, q ∉ [269, 273, 274] → z2.2.1 q = z1.2.1 q := fun q hq => hX.2.1 q (fun w => hq (by rw [w]; decide))
  refine ⟨S0, 60000 * b, D, ⟨CK_rows w1 r (by rw [hX.1 75 (by decide)]; exact w1.2.2.2.2.2.2.1), Lx_eq w2 (r 215 (by decide)) (r 216 (by decide)) (r 217 (by decide)), hX.2.2.2.1, by rw [hX.1 65 (by decide)]; exact w4, by rw [hX.1 85 (by decide)]; exact w8, Nat.le_refl _, w5, w1.2.2.2.2.2.2.2.2.2, Nat.le_refl _⟩, d1, by omega, fun f _ => d2 _ (nlR (Or.inl rfl)), d2 _ (nlR (Or.inr rfl)), by rw [hX.1 70 (by decide)]; exact w7, fun f hf => by omega, ES_eq (s := z1) ⟨fun q hq x _ => by rw [r q ((show ∀ q ∈ ndB, q ∉ [269, 273, 274] by decide) q hq)], r 215 (by decide), r 217 (by decide)⟩ (by rw [r 259 (by decide)]) (fun _ _ => rfl) (Nat.le_refl _) w10, w11, by rw [cM_eq (r 221 (by decide))]; exact w12⟩
/-- three times -/
theorem p91 (hLW : ∀ l, Lg' l → Lg l ∧ WKp b W l) (hF : PFm Lg' b z u) (h52 : (u.2.1 252 b).toInt = (F : Int)) (h63 : (u.2.1 263 b).toInt = (T : Int) + F) (hT24 : T ≤ 24) (hF60 : F ≤ 60) (h0 : (u.1 8).toInt = 0 → W0 own b n W N T F H u) : wl_230_91 (Tot 571) 0 u (PQ Lg b z) := by
  refine ⟨fun a1 w => ∃ t : Nat, a1.toInt = (t : Int) ∧ t ≤ 3 ∧ PFm Lg' b z w ∧ (w.2.1 252 b).toInt = (F : Int) ∧ (w.2.1 263 b).toInt = (T : Int) + F ∧ ((w.1 8).toInt = 0 → (t ≤ 1 → W0 own b n W N T F H w) ∧ (2 ≤ t → ∃ (S0 : Nat) (G : PG), W2 own b n W N T F H S0 G w)), fun a1 _ => (10 - a1.toInt).toNat, ⟨0, rfl, by omega, hF, h52, h63, fun q => ⟨fun _ => h0 q, fun q => by omega⟩⟩, ?_⟩
  clear h0 h63 h52 hF
  rintro a1 w ⟨t, t1, t2, hF, h52, h63, hW⟩
  obtain ⟨f1, f2, f3, f4, f5, f6, f7, fb, f9⟩ := id hF
  unfold w_230_91 w_230_127
  refine ⟨fun h3 => ⟨fun hne => ?_, fun h8 => ?_⟩, fun h3 => ?_⟩
  · exact p129 (own := own) (n := n) (W := W) (N := N) (T := T) (H := H) (S0 := 0) (G := pg w 0 0) (k := 0) hLW rfl hF h52 (by omega) hF60 (fun q => absurd q hne)
  · obtain ⟨S0, G, w2⟩ := (hW h8).2 (by omega)
    refine Tot.imp (Tot.mono (by omega) (s_215 (e := 0) w2.1 w2.2.1 f6 f7)) ?_
    rintro v s1 ⟨rfl, hS⟩
    exact ⟨rfl, p129 (own := own) (n := n) (W := W) (N := N) (T := T) (H := H) (S0 := S0) (G := G) (k := 0) hLW rfl (PF_sfr hF hS) (by rw [hS.2.1 252 (by decide)]; exact h52) (by omega) hF60 (fun _ => W2_FI w2 hS)⟩
  · by_cases h8 : (w.1 8).toInt = 0
    · obtain ⟨w0, w2⟩ := hW h8
      have ht : t = 0 ∨ t = 1 ∨ t = 2 := by omega
      rcases ht with e | e | e
      · subst e
        have hw := w0 (by omega)
        refine p96 (b := b) (T := T) (F := F) (Iv := fun _ v => FO w v) (FO_rf f6) fb (by omega) (by omega) (fun i v hv => ⟨by rw [FO_1 hv (by decide)]; exact f7, by rw [FO_2 hv]; exact h63⟩) (fun i v a2 hv hi hv0 ha2 => ?_) (fun i v hv hend x hx => ?_)
        · have ev := FO_0 hv hv0
          rw [ev] at ha2 ⊢
          refine Tot.imp (Tot.mono (by omega) (s_231a (e := 0) (i := i) hw.1 fb f6 f7 hw.2.1 hw.2.2.1 hi t1 ha2)) ?_
          rintro v' s' ⟨rfl, k⟩
          exact ⟨rfl, k⟩
        · refine ⟨⟨1, by omega, by omega, PF_fo hF hv, by rw [FO_2 hv]; exact h52, by rw [FO_2 hv]; exact h63, fun q => ⟨fun _ => ?_, fun q => by omega⟩⟩, by show (10 - x.toInt).toNat < (10 - a1.toInt).toNat; omega⟩
          rw [FO_0 hv q]
          exact hw
      · subst e
        have hw := w0 (by omega)
        have prow : ∀ i v, P1 own b n W N T F H w i v → FZ b w v ∧ TYN v ∧ (0 ≤ (v.1 8).toInt ∧ (v.1 8).toInt ≤ 70000) := fun i v hv => by
          obtain ⟨D, hP, -⟩ := hv
          exact ⟨hP.2.2.2.2.2.2.2.2.1, hP.2.2.2.1, hP.2.2.2.2.1⟩
        have pr : ∀ i v, P1 own b n W N T F H w i v → ∀ q, q ∉ [231, 232, 261, 264] → v.2.1 q = w.2.1 q := fun i v hv q hq => by
          have fz := (prow i v hv).1
          exact funext (fun i => fz.2.1 q i (fun w => hq (by rcases w.1 with e | e <;> rw [e] <;> decide)) (fun w => hq (by rw [w.1]; decide)) (fun w => hq (by rw [w.1]; decide)))
        refine p96 (b := b) (T := T) (F := F) (Iv := fun i v => P1 own b n W N T F H w i v) (W0_P1 hF hw) fb (by omega) (by omega) (fun i v hv => ⟨by rw [(prow i v hv).1.1 30 (by decide)]; exact f7, by rw [pr i v hv 263 (by decide)]; exact h63⟩) (fun i v a2 hv hi hv0 ha2 => ?_) (fun i v hv hend x hx => ?_)
        · exact Tot.mono (by omega) (s_231b hv hi hv0 (by rw [(prow i v hv).1.1 30 (by decide)]; exact f7) t1 ha2)
        · refine ⟨⟨2, by omega, by omega, PF_fz hF (prow i v hv).1 (prow i v hv).2.1 (prow i v hv).2.2, by rw [pr i v hv 252 (by decide)]; exact h52, by rw [pr i v hv 263 (by decide)]; exact h63, fun q => ⟨fun q => by omega, fun _ => ?_⟩⟩, by show (10 - x.toInt).toNat < (10 - a1.toInt).toNat; omega⟩
          have ei := hend q
          subst ei
          exact P1_W2 hF hw hv q
      · subst e
        obtain ⟨S0, G, hw⟩ := w2 (by omega)
        refine p96 (b := b) (T := T) (F := F) (Iv := fun _ v => XF b5K 100000 0 w v ∧ f8 w v) ⟨XF_rf f3 f4, f6, fun q => q⟩ fb (by omega) (by omega) (fun i v hv => ⟨by rw [hv.1.1 30 (by decide)]; exact f7, by rw [XF_row hv.1 (by decide)]; exact h63⟩) (fun i v a2 hv hi hv0 ha2 => ?_) (fun i v hv hend x hx => ?_)
        · refine Tot.imp (Tot.mono (by omega) (s_231c (W2_WV (W2_xf hw hv.1) hv.2.1) (by rw [hv.1.1 30 (by decide)]; exact f7) hi t1 ha2)) ?_
          rintro v' s' ⟨rfl, k1, k2⟩
          exact ⟨rfl, XF5_tr hv.1 k1, f8_tr hv.2 k2⟩
        · exact ⟨⟨3, by omega, by omega, PF_xf hF hv.1 (by decide) (by decide) hv.2.1, by rw [XF_row hv.1 (by decide)]; exact h52, by rw [XF_row hv.1 (by decide)]; exact h63, fun q => ⟨fun q => by omega, fun _ => ⟨S0, G, W2_xf hw hv.1⟩⟩⟩, by show (10 - x.toInt).toNat < (10 - a1.toInt).toNat; omega⟩
    · refine p96 (b := b) (T := T) (F := F) (Iv := fun _ v => v = w) rfl fb (by omega) (by omega) (fun i v hv => by rw [hv]; exact ⟨f7, h63⟩) (fun i v a2 hv hi hv0 ha2 => by rw [hv] at hv0; exact absurd hv0 h8) (fun i v hv hend x hx => ?_)
      rw [hv]
      exact ⟨⟨t + 1, by omega, by omega, hF, h52, h63, fun q => absurd q h8⟩, by show (10 - x.toInt).toNat < (10 - a1.toInt).toNat; omega⟩
end PT3
