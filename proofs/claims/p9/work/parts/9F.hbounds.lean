/-! ===== headBounds, typeBounds, selves ===== -/
section HB
variable {own : Nat → Nat × Nat} {b n N T F H S0 W P E : Nat} {G : PG} {s : yS}
theorem RV_xf {ks : List Nat} {P' E' q i : Nat} {s s' : yS} (hX : XF ks P' E' s s') (hP : 13000 ≤ P') (hq : q ∉ [264, 265, 266, 267, 268]) (h : RV b n N H G s q i) : RV b n N H G s' q i := by
  obtain ⟨y, h, p, l, sc, k1, k2, k3, k4, k5, k6, k7⟩ := h
  have r : ∀ q, q ∉ [264, 265, 266, 267, 268] → s'.2.1 q = s.2.1 q := fun q hq => XF_row hX hq
  exact ⟨y, h, p, l, sc, by rw [r q hq]; exact k1, k2, k3, isY_eq (r 215 (by decide)) (r 217 (by decide)) 11 h y (fun x _ _ => ⟨by rw [r 221 (by decide)], by rw [r 222 (by decide)], by rw [r 224 (by decide)], fun _ => by rw [r 226 (by decide)], fun _ => by rw [r 225 (by decide)]⟩) k4, rsv_eq k4 (fun x _ _ => ⟨by rw [r 231 (by decide)], by rw [r 232 (by decide)], by rw [r 224 (by decide)], fun _ => by rw [r 225 (by decide)]⟩) (fun i j1 j2 => hX.2.1 264 i (fun w => by omega) (fun w => by omega) (fun w => by omega)) k5, k6, k7⟩
theorem slR_64 : ∀ {q : Nat}, q ∈ slR → q ∉ [264, 265, 266, 267, 268] := by decide
/-- all slots, and the state of the work -/
def WV (own : Nat → Nat × Nat) (b n N T F H S0 W P E : Nat) (G : PG) (s : yS) : Prop := WS own b n N T F H S0 b n W P E G s ∧ E ≤ 289 ∧ N ≤ 12006 ∧ ∀ q i, vS b T H s q i → RV b n N H G s q i
theorem WV_xf {s s' : yS} (h : WV own b n N T F H S0 W P E G s) (hX : XF b5K P E s s') (h8 : f8 s s') : WV own b n N T F H S0 W P E G s' := by
  obtain ⟨w1, w2, w3, w4⟩ := h
  refine ⟨WS_xf w1 hX (by decide) w1.2.2.2.2.1 h8.1, w2, w3, fun q i hv => ?_⟩
  have hv' := (vS_eq (fun q hq => XF_row hX (by revert q; decide))).mp hv
  exact RV_xf hX w1.2.2.2.2.1 (slR_64 (vS_q hv')) (w4 q i hv')
/-- bounds of a slot -/
theorem b_211 {q i : Nat} {a1 : Int32} (h : WV own b n N T F H S0 W P E G s) (hv : vS b T H s q i) (h1 : a1 = s.2.1 q i) : Tot 18 211 [.ref 213, .int a1] s (fun v s' => v = none ∧ XF b5K P E s s' ∧ f8 s s') := by
  obtain ⟨w1, w2, w3, w4⟩ := h
  obtain ⟨y, h, p, l, sc, k1, k2, k3, k4, k5, k6, k7⟩ := w4 q i hv
  refine Tot.imp (s_211 (own := own) (S0 := S0) w2 k6 (fun x hx => hx) 11 s a1 y h p l w1 k4 (by omega) k5 k7 (by rw [h1]; exact k1)) ?_
  rintro v s' ⟨rfl, x1, x2, -⟩
  exact ⟨rfl, x1, x2⟩
theorem XF5_tr {s s' s'' : yS} (h : XF b5K P E s s') (h' : XF b5K P E s' s'') : XF b5K P E s s'' := XF_tr h h' (fun _ w => w) (Nat.le_refl _) (Nat.le_refl _)
theorem vS_xf {s s' : yS} {q i : Nat} (hX : XF b5K P E s s') : vS b T H s' q i ↔ vS b T H s q i := vS_eq (fun q hq => XF_row hX (by revert q; decide))
theorem s_213 {h : Nat} {a1 : Int32} (hW : WV own b n N T F H S0 W P E G s) (hh : h < H) (h1 : a1.toInt = 204 * (b : Int) + (h : Nat)) : Tot 19 213 [.ref 213, .int a1] s (fun v s' => v = none ∧ XF b5K P E s s' ∧ f8 s s') := by
  have hb := hW.1.1.1.1
  have hH := hW.1.1.1.2.2.2.2.1
  have e1 : a1.toInt.toNat = 204 * b + h := by omega
  refine t_213 ?_
  unfold w_213_0
  have row : ∀ u, XF b5K P E s u → ∀ q, q ∉ [264, 265, 266, 267, 268] → u.2.1 q = s.2.1 q := fun u hu q hq => XF_row hu hq
  have hA := hW.1.1.1.2.2.2.2.2.2.2.2.1 h hh
  obtain ⟨⟨-, t1, t2, -, t4, t5, -⟩, -⟩ := hA
  have fin : ∀ u, XF b5K P E s u → f8 s u → ∀ a2, w_213_46 (Tot 18) a1 a2 u (fun v s' => v = none ∧ XF b5K P E s s' ∧ f8 s s') := by
    intro u uX uf a2
    unfold w_213_46 w_213_55
    rw [e1]
    refine ⟨fun _ => ⟨rfl, uX, uf⟩, fun _ => ⟨by omega, ?_⟩⟩
    refine Tot.imp (b_211 (q := 251) (i := 204 * b + h) (WV_xf hW uX uf) (Or.inr (Or.inr (Or.inr (Or.inr ⟨h, hh, rfl, rfl⟩)))) rfl) ?_
    rintro v u' ⟨rfl, x1, x2⟩
    exact ⟨rfl, rfl, XF5_tr uX x1, f8_tr uf x2⟩
  have mid : ∀ u, XF b5K P E s u → f8 s u → wl_213_25 (Tot 18) a1 0 u (fun v s' => v = none ∧ XF b5K P E s s' ∧ f8 s s') := by
    intro u uX uf
    refine ⟨fun z1 z2 t => z1 = a1 ∧ 0 ≤ z2.toInt ∧ z2.toInt ≤ 6 ∧ XF b5K P E s t ∧ f8 s t, fun _ z2 _ => (7 - z2.toInt).toNat, ⟨rfl, by decide, by decide, uX, uf⟩, ?_⟩
    rintro z1 z2 t ⟨y1, y2, y3, tX, tf⟩
    have y1 := y1.symm
    subst y1
    unfold w_213_25
    rw [e1, row t tX 248 (by decide)]
    refine ⟨by omega, fun _ => fin t tX tf z2, fun hgt => ⟨fun _ => fin t tX tf z2, fun _ => ⟨by omega, fun x1 hx1 => ⟨by omega, fun x2 hx2 => ⟨by omega, ?_⟩⟩⟩⟩⟩
    rw [show x2.toInt.toNat = 6 * (204 * b + h) + z2.toInt.toNat by omega]
    refine Tot.imp (b_211 (q := 250) (i := 6 * (204 * b + h) + z2.toInt.toNat) (WV_xf hW tX tf) ((vS_xf tX).mpr (Or.inr (Or.inr (Or.inr (Or.inl ⟨h, _, hh, by unfold nT; omega, rfl, rfl⟩))))) rfl) ?_
    rintro v u' ⟨rfl, x1, x2⟩
    exact ⟨rfl, by omega, fun x5 hx5 => ⟨⟨rfl, by omega, by omega, XF5_tr tX x1, f8_tr tf x2⟩, by show (7 - x5.toInt).toNat < (7 - z2.toInt).toNat; omega⟩⟩
  refine ⟨fun z1 z2 t => z1 = a1 ∧ 0 ≤ z2.toInt ∧ z2.toInt ≤ 6 ∧ XF b5K P E s t ∧ f8 s t, fun _ z2 _ => (7 - z2.toInt).toNat, ⟨rfl, by decide, by decide, XF_rf hW.1.1.2.2.2.2.1 hW.1.1.2.2.2.2.2.1, f8_rf hW.1.2.2.1⟩, ?_⟩
  rintro z1 z2 t ⟨y1, y2, y3, tX, tf⟩
  have y1 := y1.symm
  subst y1
  unfold w_213_2 w_213_23
  rw [e1, row t tX 245 (by decide)]
  refine ⟨by omega, fun _ => mid t tX tf, fun hgt => ⟨fun _ => mid t tX tf, fun _ => ⟨by omega, fun x1 hx1 => ⟨by omega, fun x2 hx2 => ⟨by omega, ?_⟩⟩⟩⟩⟩
  rw [show x2.toInt.toNat = 6 * (204 * b + h) + z2.toInt.toNat by omega]
  refine Tot.imp (b_211 (q := 247) (i := 6 * (204 * b + h) + z2.toInt.toNat) (WV_xf hW tX tf) ((vS_xf tX).mpr (Or.inr (Or.inr (Or.inl ⟨h, _, hh, by unfold nT; omega, rfl, rfl⟩)))) rfl) ?_
  rintro v u' ⟨rfl, x1, x2⟩
  exact ⟨rfl, by omega, fun x5 hx5 => ⟨⟨rfl, by omega, by omega, XF5_tr tX x1, f8_tr tf x2⟩, by show (7 - x5.toInt).toNat < (7 - z2.toInt).toNat; omega⟩⟩
theorem s_214 {d : Nat} {a1 : Int32} (hW : WV own b n N T F H S0 W P E G s) (hd : d < T) (h1 : a1.toInt = 24 * (b : Int) + (d : Nat)) : Tot 20 214 [.ref 213, .int a1] s (fun v s' => v = none ∧ XF b5K P E s s' ∧ f8 s s') := by
  have hb := hW.1.1.1.1
  have hT24 := hW.1.1.1.2.2.1
  have hH := hW.1.1.1.2.2.2.2.1
  have e1 : a1.toInt.toNat = 24 * b + d := by omega
  refine t_214 ?_
  unfold w_214_0
  have row : ∀ u, XF b5K P E s u → ∀ q, q ∉ [264, 265, 266, 267, 268] → u.2.1 q = s.2.1 q := fun u hu q hq => XF_row hu hq
  have hA := hW.1.1.1.2.2.2.2.2.2.2.1 d hd
  obtain ⟨-, -, -, t4, t5, -, t7, t8, -, t10, t11, t12, t13⟩ := hA
  have fin : ∀ u, XF b5K P E s u → f8 s u → ∀ a2, w_214_46 (Tot 19) a1 a2 u (fun v s' => v = none ∧ XF b5K P E s s' ∧ f8 s s') := by
    intro u uX uf a2
    unfold w_214_46
    rw [e1, row u uX 242 (by decide)]
    refine ⟨by omega, ?_⟩
    refine ⟨fun z1 z2 t => z1 = a1 ∧ (s.2.1 242 (24 * b + d)).toInt ≤ z2.toInt ∧ z2.toInt ≤ (s.2.1 242 (24 * b + d)).toInt + (s.2.1 243 (24 * b + d)).toInt ∧ XF b5K P E s t ∧ f8 s t, fun _ z2 _ => (1000 - z2.toInt).toNat, ⟨rfl, by omega, by omega, uX, uf⟩, ?_⟩
    rintro z1 z2 t ⟨y1, y2, y3, tX, tf⟩
    have y1 := y1.symm
    subst y1
    unfold w_214_51 w_214_70
    rw [e1, row t tX 242 (by decide), row t tX 243 (by decide)]
    refine ⟨by omega, by omega, by omega, fun x1 hx1 => ⟨fun _ => ⟨rfl, tX, tf⟩, fun hgt => ⟨fun _ => ⟨rfl, tX, tf⟩, fun _ => ?_⟩⟩⟩
    refine Tot.imp (s_213 (h := z2.toInt.toNat - 204 * b) (WV_xf hW tX tf) (by omega) (by omega)) ?_
    rintro v u' ⟨rfl, x1, x2⟩
    exact ⟨rfl, by omega, fun x5 hx5 => ⟨⟨rfl, by omega, by omega, XF5_tr tX x1, f8_tr tf x2⟩, by show (1000 - x5.toInt).toNat < (1000 - z2.toInt).toNat; omega⟩⟩
  have mid : ∀ u, XF b5K P E s u → f8 s u → wl_214_25 (Tot 19) a1 0 u (fun v s' => v = none ∧ XF b5K P E s s' ∧ f8 s s') := by
    intro u uX uf
    refine ⟨fun z1 z2 t => z1 = a1 ∧ 0 ≤ z2.toInt ∧ z2.toInt ≤ 6 ∧ XF b5K P E s t ∧ f8 s t, fun _ z2 _ => (7 - z2.toInt).toNat, ⟨rfl, by decide, by decide, uX, uf⟩, ?_⟩
    rintro z1 z2 t ⟨y1, y2, y3, tX, tf⟩
    have y1 := y1.symm
    subst y1
    unfold w_214_25
    rw [e1, row t tX 239 (by decide)]
    refine ⟨by omega, fun _ => fin t tX tf z2, fun hgt => ⟨fun _ => fin t tX tf z2, fun _ => ⟨by omega, fun x1 hx1 => ⟨by omega, fun x2 hx2 => ⟨by omega, ?_⟩⟩⟩⟩⟩
    rw [show x2.toInt.toNat = 6 * (24 * b + d) + z2.toInt.toNat by omega]
    refine Tot.imp (Tot.mono (by omega) (b_211 (q := 241) (i := 6 * (24 * b + d) + z2.toInt.toNat) (WV_xf hW tX tf) ((vS_xf tX).mpr (Or.inr (Or.inl ⟨d, _, hd, by unfold nT; omega, rfl, rfl⟩))) rfl)) ?_
    rintro v u' ⟨rfl, x1, x2⟩
    exact ⟨rfl, by omega, fun x5 hx5 => ⟨⟨rfl, by omega, by omega, XF5_tr tX x1, f8_tr tf x2⟩, by show (7 - x5.toInt).toNat < (7 - z2.toInt).toNat; omega⟩⟩
  refine ⟨fun z1 z2 t => z1 = a1 ∧ 0 ≤ z2.toInt ∧ z2.toInt ≤ 6 ∧ XF b5K P E s t ∧ f8 s t, fun _ z2 _ => (7 - z2.toInt).toNat, ⟨rfl, by decide, by decide, XF_rf hW.1.1.2.2.2.2.1 hW.1.1.2.2.2.2.2.1, f8_rf hW.1.2.2.1⟩, ?_⟩
  rintro z1 z2 t ⟨y1, y2, y3, tX, tf⟩
  have y1 := y1.symm
  subst y1
  unfold w_214_2 w_214_23
  rw [e1, row t tX 236 (by decide)]
  refine ⟨by omega, fun _ => mid t tX tf, fun hgt => ⟨fun _ => mid t tX tf, fun _ => ⟨by omega, fun x1 hx1 => ⟨by omega, fun x2 hx2 => ⟨by omega, ?_⟩⟩⟩⟩⟩
  rw [show x2.toInt.toNat = 6 * (24 * b + d) + z2.toInt.toNat by omega]
  refine Tot.imp (Tot.mono (by omega) (b_211 (q := 238) (i := 6 * (24 * b + d) + z2.toInt.toNat) (WV_xf hW tX tf) ((vS_xf tX).mpr (Or.inl ⟨d, _, hd, by unfold nT; omega, rfl, rfl⟩)) rfl)) ?_
  rintro v u' ⟨rfl, x1, x2⟩
  exact ⟨rfl, by omega, fun x5 hx5 => ⟨⟨rfl, by omega, by omega, XF5_tr tX x1, f8_tr tf x2⟩, by show (7 - x5.toInt).toNat < (7 - z2.toInt).toNat; omega⟩⟩
end HB
