/-! ===== alike ===== -/
def SY (s : yS) (q i : Nat) : Prop := ∃ y p l : Nat, (s.2.1 q i).toInt = (y : Int) ∧ NY s y p l
theorem SY_ty {s : yS} {q i y p l : Nat} (h : (s.2.1 q i).toInt = (y : Int)) (h2 : NY s y p l) : tyS s q i = seg s p l := by
  obtain ⟨-, a, b, -⟩ := h2
  unfold tyS
  rw [h, show ((y : Int)).toNat = y by omega, a, b]
  rfl
theorem SY_wf {P E q i : Nat} {s s' : yS} (hw : WF P E s s') (hP : 13000 ≤ P) (hq : q ∉ [264, 265, 266, 267, 268]) (h : SY s q i) : SY s' q i ∧ tyS s' q i = tyS s q i := by
  obtain ⟨y, p, l, h1, h2⟩ := h
  have e : (s'.2.1 q i).toInt = (y : Int) := by rw [WF_row hw hq]; exact h1
  have n : NY s' y p l := by
    unfold NY
    rw [WF_row hw (by decide), WF_row hw (by decide)]
    exact h2
  refine ⟨⟨y, p, l, e, n⟩, ?_⟩
  rw [SY_ty e n, SY_ty h1 h2, WF_seg hw (by have := h2.2.2.2; omega)]
/-- the heads are resolved -/
def RSH (b H : Nat) (s : yS) : Prop := ∀ h, h < H → (∀ k : Nat, (k : Int) < (s.2.1 245 (204 * b + h)).toInt → SY s 247 (6 * (204 * b + h) + k)) ∧ (∀ k : Nat, (k : Int) < (s.2.1 248 (204 * b + h)).toInt → SY s 250 (6 * (204 * b + h) + k)) ∧ SY s 251 (204 * b + h)
/-- two heads alike, each under its own env -/
def alk (G : PG) (h ca : Nat) (As : List (List Nat)) (g cb : Nat) (Bs : List (List Nat)) : Prop := ghn G h = ghn G g ∧ (∀ k, k < ghn G h → subs (envS ca As (2000 + 6 * h) (plc (ghn G h))) (ghb G h k) = subs (envS cb Bs (2000 + 6 * g) (plc (ghn G g))) (ghb G g k)) ∧ gvn G h = gvn G g ∧ (∀ k, k < gvn G h → subs (envS ca As (2000 + 6 * h) (plc (ghn G h))) (gvt G h k) = subs (envS cb Bs (2000 + 6 * g) (plc (ghn G g))) (gvt G g k)) ∧ subs (envS ca As (2000 + 6 * h) (plc (ghn G h))) (ght G h) = subs (envS cb Bs (2000 + 6 * g) (plc (ghn G g))) (ght G g)
theorem al122 {e b H P E c h g cd : Nat} {As Bs : List (List Nat)} {a1 a2 a3 a4 a5 ea eb : Int32} {s u : yS} {G : PG} {σa σb : Nat → Option (List Nat)} (hσa : σa = envS (1000 + 6 * c) As (2000 + 6 * h) (plc (ghn G h))) (hσb : σb = envS cd Bs (2000 + 6 * g) (plc (ghn G g))) (hb : b < 2) (hH : H ≤ 204) (hh : h < H) (hg : g < H) (e1 : a1.toInt.toNat = 204 * b + h) (e4 : a4.toInt.toNat = 204 * b + g) (h1 : a1.toInt = 204 * (b : Int) + h) (h4 : a4.toInt = 204 * (b : Int) + g) (hR : RSH b H s)
    (p2 : 0 ≤ (s.2.1 245 (204 * b + h)).toInt) (p3 : (s.2.1 245 (204 * b + h)).toInt ≤ 6) (p5 : 0 ≤ (s.2.1 248 (204 * b + h)).toInt) (p6 : (s.2.1 248 (204 * b + h)).toInt ≤ 6) (q2 : 0 ≤ (s.2.1 245 (204 * b + g)).toInt) (q3 : (s.2.1 245 (204 * b + g)).toInt ≤ 6) (q5 : 0 ≤ (s.2.1 248 (204 * b + g)).toInt) (q6 : (s.2.1 248 (204 * b + g)).toInt ≤ 6)
    (ghn_e : ∀ k, k < H → ghn G k = (s.2.1 245 (204 * b + k)).toInt.toNat) (gvn_e : ∀ k, k < H → gvn G k = (s.2.1 248 (204 * b + k)).toInt.toNat) (ghb_e : ∀ k j, k < H → j < ghn G k → ghb G k j = tyS s 247 (6 * (204 * b + k) + j)) (gvt_e : ∀ k j, k < H → j < gvn G k → gvt G k j = tyS s 250 (6 * (204 * b + k) + j)) (ght_e : ∀ k, k < H → ght G k = tyS s 251 (204 * b + k)) (hnn : ghn G h = ghn G g) (Tu : TYN u) (Gu : GC u) (fu70 : (u.1 70).toInt = (E : Int) + 2) (hE2 : E ≤ 290)
    (stp : ∀ (t : yS) (q i1 i2 : Nat), q ∉ [264, 265, 266, 267, 268] → WF P (E + 2) u t → SY s q i1 → SY s q i2 → Tot (e + 3) 197 [.ref 213, .int (t.2.1 q i1), .int ea, .int (t.2.1 q i2), .int eb] t (fun v t' => WF P (E + 2) u t' ∧ ∃ r : Int32, v = some (.int r) ∧ 0 ≤ r.toInt ∧ r.toInt ≤ 2 ∧ (r.toInt = 1 → subs σa (tyS s q i1) = subs σb (tyS s q i2))))
    (ru : ∀ (t : yS) q i, WF P (E + 2) u t → q ∉ [264, 265, 266, 267, 268] → t.2.1 q i = s.2.1 q i) (wfu : ∀ t (x1 : Int32), WF P (E + 2) u t → x1.toInt = (E : Int) → WF P E s (sf t 70 x1)) : ∀ (t : yS) (t0 : Int32), WF P (E + 2) u t → 0 ≤ t0.toInt → t0.toInt ≤ 2 → (t0.toInt = 1 → (∀ k, k < ghn G h → subs σa (ghb G h k) = subs σb (ghb G g k)) ∧ gvn G h = gvn G g) → wl_196_122 (Tot (e + 3)) a1 a2 a3 a4 a5 ea eb t0 0 t (fun v s' => WF P E s s' ∧ ∃ r : Int32, v = some (.int r) ∧ 0 ≤ r.toInt ∧ r.toInt ≤ 2 ∧ (r.toInt = 1 → alk G h (1000 + 6 * c) As g cd Bs)) := by
  obtain ⟨Rh1, Rh2, Rh3⟩ := hR h hh
  obtain ⟨Rg1, Rg2, Rg3⟩ := hR g hg
  -- the end
  have fin171 : ∀ (t : yS) (a8 a9 t0 : Int32), WF P (E + 2) u t → 0 ≤ t0.toInt → t0.toInt ≤ 2 → (t0.toInt = 1 → alk G h (1000 + 6 * c) As g cd Bs) → w_196_171 (Tot (e + 3)) a1 a2 a3 a4 a5 ea eb a8 a9 t0 t (fun v s' => WF P E s s' ∧ ∃ r : Int32, v = some (.int r) ∧ 0 ≤ r.toInt ∧ r.toInt ≤ 2 ∧ (r.toInt = 1 → alk G h (1000 + 6 * c) As g cd Bs)) := by
    intro t a8 a9 t0 hw k1 k2 k3
    unfold w_196_171
    have e70 : (t.1 70).toInt = (E : Int) + 2 := by rw [hw.1 70 (by decide)]; exact fu70
    refine ⟨by omega, ?_⟩
    rintro x1 hx1 s2 rfl
    exact ⟨wfu t x1 hw (by omega), t0, rfl, k1, k2, k3⟩
  have fin154 : ∀ (t : yS) (a8 a9 : Int32), WF P (E + 2) u t → 0 ≤ a8.toInt → a8.toInt ≤ 2 → (a8.toInt = 1 → (∀ k, k < ghn G h → subs σa (ghb G h k) = subs σb (ghb G g k)) ∧ gvn G h = gvn G g ∧ (∀ k, k < gvn G h → subs σa (gvt G h k) = subs σb (gvt G g k))) → w_196_154 (Tot (e + 3)) a1 a2 a3 a4 a5 ea eb a8 a9 t (fun v s' => WF P E s s' ∧ ∃ r : Int32, v = some (.int r) ∧ 0 ≤ r.toInt ∧ r.toInt ≤ 2 ∧ (r.toInt = 1 → alk G h (1000 + 6 * c) As g cd Bs)) := by
    intro t a8 a9 hw k1 k2 k3
    unfold w_196_154
    rw [e1, e4]
    refine ⟨fun q => fin171 t a8 a9 a8 hw k1 k2 (fun w => absurd w q), fun q => ⟨by omega, by omega, ?_⟩⟩
    refine Tot.imp (stp t 251 _ _ (by decide) hw Rh3 Rg3) ?_
    rintro v t' ⟨w1, r, rfl, w2, w3, w4⟩
    refine ⟨r, rfl, fin171 t' a8 a9 r w1 w2 w3 (fun w => ?_)⟩
    obtain ⟨m1, m2, m3⟩ := k3 q
    unfold alk
    rw [← hσa, ← hσb]
    refine ⟨hnn, m1, m2, m3, ?_⟩
    rw [ght_e h hh, ght_e g hg]
    exact w4 w
  intro t t0 hw k1 k2 k3
  refine ⟨fun d1 d2 d3 d4 d5 d6 d7 d8 d9 w => d1 = a1 ∧ d2 = a2 ∧ d3 = a3 ∧ d4 = a4 ∧ d5 = a5 ∧ d6 = ea ∧ d7 = eb ∧ WF P (E + 2) u w ∧ 0 ≤ d8.toInt ∧ d8.toInt ≤ 2 ∧ (d8.toInt = 1 → (∀ k, k < ghn G h → subs σa (ghb G h k) = subs σb (ghb G g k)) ∧ gvn G h = gvn G g) ∧ ∃ k : Nat, d9.toInt = (k : Int) ∧ k ≤ gvn G h ∧ (d8.toInt = 1 → ∀ j, j < k → subs σa (gvt G h j) = subs σb (gvt G g j)), fun _ _ _ _ _ _ _ _ d9 _ => (100 - d9.toInt).toNat, ⟨rfl, rfl, rfl, rfl, rfl, rfl, rfl, hw, k1, k2, k3, 0, by decide, by omega, fun _ j hj => absurd hj (by omega)⟩, ?_⟩
  rintro d1 d2 d3 d4 d5 d6 d7 d8 d9 w ⟨z1, z2, z3, z4, z5, z6, z7, hw, m1, m2, m3, k, m4, m5, m6⟩
  have z1 := z1.symm
  have z2 := z2.symm
  have z3 := z3.symm
  have z4 := z4.symm
  have z5 := z5.symm
  have z6 := z6.symm
  have z7 := z7.symm
  subst z1 z2 z3 z4 z5 z6 z7
  have c48 : w.2.1 248 (204 * b + h) = s.2.1 248 (204 * b + h) := ru w _ _ hw (by decide)
  have v48 := gvn_e h hh
  unfold w_196_122
  rw [e1, c48]
  refine ⟨by omega, fun q => fin154 w d8 d9 hw m1 m2 (fun w1 => ⟨(m3 w1).1, (m3 w1).2, fun j hj => m6 w1 j (by omega)⟩), fun q => ⟨fun q2 => fin154 w d8 d9 hw m1 m2 (fun w1 => absurd w1 q2), fun q2 => ?_⟩⟩
  have vv := (m3 q2).2
  refine ⟨by omega, fun x1 hx1 => ⟨by omega, fun x2 hx2 => ⟨by omega, by omega, fun x3 hx3 => ⟨by omega, fun x4 hx4 => ⟨by omega, ?_⟩⟩⟩⟩⟩
  have ex2 : x2.toInt.toNat = 6 * (204 * b + h) + k := by omega
  have ex4 : x4.toInt.toNat = 6 * (204 * b + g) + k := by omega
  rw [ex2, ex4]
  have vg := gvn_e g hg
  refine Tot.imp (stp w 250 _ _ (by decide) hw (Rh2 k (by omega)) (Rg2 k (by omega))) ?_
  rintro v t' ⟨w1, r, rfl, w2, w3, w4⟩
  refine ⟨r, rfl, by omega, fun x8 hx8 => ⟨⟨rfl, rfl, rfl, rfl, rfl, rfl, rfl, w1, w2, w3, fun _ => m3 q2, k + 1, by omega, by omega, fun hr j hj => ?_⟩, by show (100 - x8.toInt).toNat < (100 - d9.toInt).toNat; omega⟩⟩
  by_cases hjk : j = k
  · rw [hjk, gvt_e h k hh (by omega), gvt_e g k hg (by omega)]
    exact w4 hr
  · exact m6 q2 j (by omega)
theorem al72 {e b H P E c h g cd : Nat} {As Bs : List (List Nat)} {a1 a2 a3 a4 a5 ea eb : Int32} {s u : yS} {G : PG} {σa σb : Nat → Option (List Nat)} (hσa : σa = envS (1000 + 6 * c) As (2000 + 6 * h) (plc (ghn G h))) (hσb : σb = envS cd Bs (2000 + 6 * g) (plc (ghn G g))) (hb : b < 2) (hH : H ≤ 204) (hh : h < H) (hg : g < H) (e1 : a1.toInt.toNat = 204 * b + h) (e4 : a4.toInt.toNat = 204 * b + g) (h1 : a1.toInt = 204 * (b : Int) + h) (h4 : a4.toInt = 204 * (b : Int) + g) (hR : RSH b H s)
    (p2 : 0 ≤ (s.2.1 245 (204 * b + h)).toInt) (p3 : (s.2.1 245 (204 * b + h)).toInt ≤ 6) (p5 : 0 ≤ (s.2.1 248 (204 * b + h)).toInt) (p6 : (s.2.1 248 (204 * b + h)).toInt ≤ 6) (q2 : 0 ≤ (s.2.1 245 (204 * b + g)).toInt) (q3 : (s.2.1 245 (204 * b + g)).toInt ≤ 6) (q5 : 0 ≤ (s.2.1 248 (204 * b + g)).toInt) (q6 : (s.2.1 248 (204 * b + g)).toInt ≤ 6)
    (ghn_e : ∀ k, k < H → ghn G k = (s.2.1 245 (204 * b + k)).toInt.toNat) (gvn_e : ∀ k, k < H → gvn G k = (s.2.1 248 (204 * b + k)).toInt.toNat) (ghb_e : ∀ k j, k < H → j < ghn G k → ghb G k j = tyS s 247 (6 * (204 * b + k) + j)) (gvt_e : ∀ k j, k < H → j < gvn G k → gvt G k j = tyS s 250 (6 * (204 * b + k) + j)) (ght_e : ∀ k, k < H → ght G k = tyS s 251 (204 * b + k)) (hnn : ghn G h = ghn G g) (Tu : TYN u) (Gu : GC u) (fu70 : (u.1 70).toInt = (E : Int) + 2) (hE2 : E ≤ 290)
    (stp : ∀ (t : yS) (q i1 i2 : Nat), q ∉ [264, 265, 266, 267, 268] → WF P (E + 2) u t → SY s q i1 → SY s q i2 → Tot (e + 3) 197 [.ref 213, .int (t.2.1 q i1), .int ea, .int (t.2.1 q i2), .int eb] t (fun v t' => WF P (E + 2) u t' ∧ ∃ r : Int32, v = some (.int r) ∧ 0 ≤ r.toInt ∧ r.toInt ≤ 2 ∧ (r.toInt = 1 → subs σa (tyS s q i1) = subs σb (tyS s q i2))))
    (ru : ∀ (t : yS) q i, WF P (E + 2) u t → q ∉ [264, 265, 266, 267, 268] → t.2.1 q i = s.2.1 q i) (wfu : ∀ t (x1 : Int32), WF P (E + 2) u t → x1.toInt = (E : Int) → WF P E s (sf t 70 x1)) : wl_196_72 (Tot (e + 3)) a1 a2 a3 a4 a5 ea eb 1 0 u (fun v s' => WF P E s s' ∧ ∃ r : Int32, v = some (.int r) ∧ 0 ≤ r.toInt ∧ r.toInt ≤ 2 ∧ (r.toInt = 1 → alk G h (1000 + 6 * c) As g cd Bs)) := by
  have go122 := al122 (a2 := a2) (a3 := a3) (a5 := a5) hσa hσb hb hH hh hg e1 e4 h1 h4 hR p2 p3 p5 p6 q2 q3 q5 q6 ghn_e gvn_e ghb_e gvt_e ght_e hnn Tu Gu fu70 hE2 stp ru wfu
  obtain ⟨Rh1, -, -⟩ := hR h hh
  obtain ⟨Rg1, -, -⟩ := hR g hg
  have go104 : ∀ (t : yS) (a8 a9 : Int32), WF P (E + 2) u t → 0 ≤ a8.toInt → a8.toInt ≤ 2 → (a8.toInt = 1 → (∀ k, k < ghn G h → subs σa (ghb G h k) = subs σb (ghb G g k))) → w_196_104 (Tot (e + 3)) a1 a2 a3 a4 a5 ea eb a8 a9 t (fun v s' => WF P E s s' ∧ ∃ r : Int32, v = some (.int r) ∧ 0 ≤ r.toInt ∧ r.toInt ≤ 2 ∧ (r.toInt = 1 → alk G h (1000 + 6 * c) As g cd Bs)) := by
    intro t a8 a9 hw k1 k2 k3
    have c48 : t.2.1 248 (204 * b + h) = s.2.1 248 (204 * b + h) := ru t _ _ hw (by decide)
    have c48' : t.2.1 248 (204 * b + g) = s.2.1 248 (204 * b + g) := ru t _ _ hw (by decide)
    have vh := gvn_e h hh
    have vg := gvn_e g hg
    unfold w_196_104 w_196_118 w_196_119
    rw [e1, e4, c48, c48']
    refine ⟨fun q => go122 t a8 hw k1 k2 (fun w => absurd w q), fun q => ⟨by omega, by omega, fun q2 => go122 t a8 hw k1 k2 (fun w => ⟨k3 w, by omega⟩), fun q2 => go122 t 0 hw (by decide) (by decide) (fun w => absurd w (by decide))⟩⟩
  refine ⟨fun d1 d2 d3 d4 d5 d6 d7 d8 d9 w => d1 = a1 ∧ d2 = a2 ∧ d3 = a3 ∧ d4 = a4 ∧ d5 = a5 ∧ d6 = ea ∧ d7 = eb ∧ WF P (E + 2) u w ∧ 0 ≤ d8.toInt ∧ d8.toInt ≤ 2 ∧ ∃ k : Nat, d9.toInt = (k : Int) ∧ k ≤ ghn G h ∧ (d8.toInt = 1 → ∀ j, j < k → subs σa (ghb G h j) = subs σb (ghb G g j)), fun _ _ _ _ _ _ _ _ d9 _ => (100 - d9.toInt).toNat, ⟨rfl, rfl, rfl, rfl, rfl, rfl, rfl, WF_rf Tu Gu, by decide, by decide, 0, by decide, by omega, fun _ j hj => absurd hj (by omega)⟩, ?_⟩
  rintro d1 d2 d3 d4 d5 d6 d7 d8 d9 w ⟨z1, z2, z3, z4, z5, z6, z7, hw, m1, m2, k, m4, m5, m6⟩
  have z1 := z1.symm
  have z2 := z2.symm
  have z3 := z3.symm
  have z4 := z4.symm
  have z5 := z5.symm
  have z6 := z6.symm
  have z7 := z7.symm
  subst z1 z2 z3 z4 z5 z6 z7
  have c45 : w.2.1 245 (204 * b + h) = s.2.1 245 (204 * b + h) := ru w _ _ hw (by decide)
  have vh := ghn_e h hh
  have vg := ghn_e g hg
  unfold w_196_72
  rw [e1, c45]
  refine ⟨by omega, fun q => go104 w d8 d9 hw m1 m2 (fun w1 => fun j hj => m6 w1 j (by omega)), fun q => ⟨fun q2 => go104 w d8 d9 hw m1 m2 (fun w1 => absurd w1 q2), fun q2 => ?_⟩⟩
  refine ⟨by omega, fun x1 hx1 => ⟨by omega, fun x2 hx2 => ⟨by omega, by omega, fun x3 hx3 => ⟨by omega, fun x4 hx4 => ⟨by omega, ?_⟩⟩⟩⟩⟩
  have ex2 : x2.toInt.toNat = 6 * (204 * b + h) + k := by omega
  have ex4 : x4.toInt.toNat = 6 * (204 * b + g) + k := by omega
  rw [ex2, ex4]
  refine Tot.imp (stp w 247 _ _ (by decide) hw (Rh1 k (by omega)) (Rg1 k (by omega))) ?_
  rintro v t' ⟨w1, r, rfl, w2, w3, w4⟩
  refine ⟨r, rfl, by omega, fun x8 hx8 => ⟨⟨rfl, rfl, rfl, rfl, rfl, rfl, rfl, w1, w2, w3, k + 1, by omega, by omega, fun hr j hj => ?_⟩, by show (100 - x8.toInt).toNat < (100 - d9.toInt).toNat; omega⟩⟩
  by_cases hjk : j = k
  · rw [hjk, ghb_e h k hh (by omega), ghb_e g k hg (by omega)]
    exact w4 hr
  · exact m6 q2 j (by omega)
theorem s_196 {e b n N T F H P E c h g cd tp tl sp sl x x' : Nat} {As Bs : List (List Nat)} {own : Nat → Nat × Nat} {a1 a2 a3 a4 a5 : Int32} {s : yS} (hS : ST b n own N T F H s) (hR : RSH b H s) (hT : TYN s) (hG : GC s) (hB : BP s) (h75 : (s.1 75).toInt = (b : Int)) (hP : (s.1 64).toInt = (P : Int)) (hP1 : 13000 ≤ P) (hP2 : P ≤ 199800) (hE : (s.1 70).toInt = (E : Int)) (hE2 : E ≤ 290)
    (h1 : a1.toInt = 204 * (b : Int) + h) (hh : h < H) (h4 : a4.toInt = 204 * (b : Int) + g) (hg : g < H) (h3 : a3.toInt = (c : Int)) (hc : c < 24) (h2 : a2.toInt = (tp : Int)) (ht : seg s tp tl = x :: As.flatten) (hAs : ∀ B ∈ As, isF 1 B) (hxl : As.length = x % 8) (hx6 : As.length ≤ 6) (htP : tp + tl ≤ P) (h5 : a5.toInt = (sp : Int)) (hs : seg s sp sl = x' :: Bs.flatten) (hBs : ∀ B ∈ Bs, isF 1 B) (hxl' : Bs.length = x' % 8) (hx6' : Bs.length ≤ 6) (hsP : sp + sl ≤ P) (h74 : (s.1 74).toInt = (cd : Int)) (hcd : cd ≤ 10000) :
    Tot (e + 4) 196 [.ref 213, .int a1, .int a2, .int a3, .int a4, .int a5] s (fun v s' => WF P E s s' ∧ ∃ r : Int32, v = some (.int r) ∧ 0 ≤ r.toInt ∧ r.toInt ≤ 2 ∧ (r.toInt = 1 → alk (pg s b H) h (1000 + 6 * c) As g cd Bs)) := by
  obtain ⟨hb, hn, hT24, hF60, hH, r33, r52, hA⟩ := id hS
  have e1 : a1.toInt.toNat = 204 * b + h := by omega
  have e4 : a4.toInt.toNat = 204 * b + g := by omega
  obtain ⟨⟨p1, p2, p3, p4, p5, p6, p7⟩, -⟩ := hA.2.1 h hh
  obtain ⟨⟨q1, q2, q3, q4, q5, q6, q7⟩, -⟩ := hA.2.1 g hg
  obtain ⟨G, hGG⟩ : ∃ G, G = pg s b H := ⟨_, rfl⟩
  have ghn_e : ∀ k, k < H → ghn G k = (s.2.1 245 (204 * b + k)).toInt.toNat := fun k hk => by rw [hGG]; show (if k < H then _ else _) = _; rw [if_pos hk]; rfl
  have gvn_e : ∀ k, k < H → gvn G k = (s.2.1 248 (204 * b + k)).toInt.toNat := fun k hk => by rw [hGG]; show (if k < H then _ else _) = _; rw [if_pos hk]; rfl
  have ghb_e : ∀ k j, k < H → j < ghn G k → ghb G k j = tyS s 247 (6 * (204 * b + k) + j) := fun k j hk hj => by
    have hj' : j < nT s 245 (204 * b + k) := by rw [ghn_e k hk] at hj; exact hj
    rw [hGG]; show (if k < H ∧ j < _ then _ else _) = _; rw [if_pos ⟨hk, hj'⟩]
  have gvt_e : ∀ k j, k < H → j < gvn G k → gvt G k j = tyS s 250 (6 * (204 * b + k) + j) := fun k j hk hj => by
    have hj' : j < nT s 248 (204 * b + k) := by rw [gvn_e k hk] at hj; exact hj
    rw [hGG]; show (if k < H ∧ j < _ then _ else _) = _; rw [if_pos ⟨hk, hj'⟩]
  have ght_e : ∀ k, k < H → ght G k = tyS s 251 (204 * b + k) := fun k hk => by rw [hGG]; show (if k < H then _ else _) = _; rw [if_pos hk]
  rw [← hGG]
  refine t_196 ?_
  unfold w_196_0
  rw [e1, e4]
  refine ⟨by omega, by omega, fun heq => ?_, fun _ => ⟨WF_rf hT hG, 0, rfl, by decide, by decide, fun q => absurd q (by decide)⟩⟩
  have hnn : ghn G h = ghn G g := by rw [ghn_e h hh, ghn_e g hg, heq]
  -- env E
  refine Tot.imp (Tot.mono (by omega) (s_188 (d := 0) (E := E) hE (by omega))) ?_
  rintro v s1 ⟨rfl, y1, hy1, es1⟩
  refine ⟨_, rfl, by omega, fun x4 hx4 => ⟨by omega, fun x5 hx5 => ?_⟩⟩
  have r1 : ∀ q, ¬ q = 266 → s1.2.1 q = s.2.1 q := by
    intro q hq
    funext i
    rw [es1]
    show (sa (sa s 266 (2 * E) 0) 266 (2 * E + 1) 0).2.1 q i = _
    rw [sa_2, if_neg (fun w => hq w.1), sa_2, if_neg (fun w => hq w.1)]
  have r1' : ∀ i, i < 2 * E → s1.2.1 266 i = s.2.1 266 i := by
    intro i hi
    rw [es1]
    show (sa (sa s 266 (2 * E) 0) 266 (2 * E + 1) 0).2.1 266 i = _
    rw [sa_2, if_neg (fun w => by omega), sa_2, if_neg (fun w => by omega)]
  have f1 : ∀ k, ¬ k = 70 → s1.1 k = s.1 k := fun k hk => by rw [es1, sf_1, if_neg hk]; rfl
  have T1 : TYN s1 := fun i => by rw [r1 264 (by decide)]; exact hT i
  have sg1 : ∀ p l, seg s1 p l = seg s p l := fun p l => seg_eq (fun i _ _ => by rw [r1 264 (by decide)])
  refine Tot.imp (Tot.mono (by omega) (s_189 (d := 0) (e := E) (g := 0) (c := 1000 + 6 * c) (p := tp) (l := tl) (P := P) (x := x) (As := As) T1 hE (by omega) (by decide) (by decide) (by omega) h2 (by rw [sg1]; exact ht) hAs hxl hx6 htP (by omega))) ?_
  rintro v s6 ⟨rfl, F6, V6⟩
  have f6 : ∀ k, ¬ k = 70 → s6.1 k = s.1 k := fun k hk => by rw [F6.1]; exact f1 k hk
  rw [f6 75 (by decide)]
  have r6 : s6.2.1 245 (204 * b + h) = s.2.1 245 (204 * b + h) := by rw [F6.2.1 245 _ (fun w => by omega), r1 245 (by decide)]
  rw [r6]
  refine ⟨rfl, by omega, fun x8 hx8 => ⟨by omega, fun x9 hx9 => ⟨by omega, fun x10 hx10 => ⟨by omega, fun x11 hx11 => ⟨by omega, ?_⟩⟩⟩⟩⟩
  have B6 : BP s6 := fun a ha => by unfold tyE; rw [GF_ty F6, r1 264 (by decide)]; exact hB a ha
  refine Tot.imp (Tot.mono (by omega) (s_190 (d := 0) (e := E) (c := 2000 + 6 * h) (n := ghn G h) (P := P) B6 hE (by omega) (by omega) (by rw [ghn_e h hh]; omega) (by rw [ghn_e h hh]; omega) (by omega))) ?_
  rintro v s12 ⟨rfl, F12, V12⟩
  have f12 : ∀ k, ¬ k = 70 → s12.1 k = s.1 k := fun k hk => by rw [F12.1]; exact f6 k hk
  have f70 : s12.1 70 = y1 := by rw [F12.1, F6.1, es1]; rfl
  refine ⟨rfl, ?_⟩
  -- env E + 1
  refine Tot.imp (Tot.mono (by omega) (s_188 (d := 0) (E := E + 1) (by rw [f70]; omega) (by omega))) ?_
  rintro v s14 ⟨rfl, y14, hy14, es14⟩
  refine ⟨_, rfl, ?_⟩
  have r14 : ∀ q, ¬ q = 266 → s14.2.1 q = s12.2.1 q := by
    intro q hq
    funext i
    rw [es14]
    show (sa (sa s12 266 (2 * (E + 1)) 0) 266 (2 * (E + 1) + 1) 0).2.1 q i = _
    rw [sa_2, if_neg (fun w => hq w.1), sa_2, if_neg (fun w => hq w.1)]
  have r14' : ∀ i, i < 2 * (E + 1) → s14.2.1 266 i = s12.2.1 266 i := by
    intro i hi
    rw [es14]
    show (sa (sa s12 266 (2 * (E + 1)) 0) 266 (2 * (E + 1) + 1) 0).2.1 266 i = _
    rw [sa_2, if_neg (fun w => by omega), sa_2, if_neg (fun w => by omega)]
  have f14 : ∀ k, ¬ k = 70 → s14.1 k = s.1 k := fun k hk => by rw [es14, sf_1, if_neg hk]; exact f12 k hk
  have ty14 : s14.2.1 264 = s.2.1 264 := by rw [r14 264 (by decide), GF_ty F12, GF_ty F6, r1 264 (by decide)]
  have T14 : TYN s14 := fun i => by rw [ty14]; exact hT i
  have sg14 : ∀ p l, seg s14 p l = seg s p l := fun p l => seg_eq (fun i _ _ => by rw [ty14])
  rw [f14 74 (by decide)]
  refine Tot.imp (Tot.mono (by omega) (s_189 (d := 0) (e := E + 1) (g := 0) (c := cd) (p := sp) (l := sl) (P := P) (x := x') (As := Bs) T14 (by rw [f70]; omega) (by omega) (by decide) (by decide) h74 h5 (by rw [sg14]; exact hs) hBs hxl' hx6' hsP (by omega))) ?_
  rintro v s17 ⟨rfl, F17, V17⟩
  have f17 : ∀ k, ¬ k = 70 → s17.1 k = s.1 k := fun k hk => by rw [F17.1]; exact f14 k hk
  rw [f17 75 (by decide)]
  have r17 : s17.2.1 245 (204 * b + g) = s.2.1 245 (204 * b + g) := by rw [F17.2.1 245 _ (fun w => by omega), r14 245 (by decide), F12.2.1 245 _ (fun w => by omega), F6.2.1 245 _ (fun w => by omega), r1 245 (by decide)]
  rw [r17]
  refine ⟨rfl, by omega, fun x19 hx19 => ⟨by omega, fun x20 hx20 => ⟨by omega, fun x21 hx21 => ⟨by omega, fun x22 hx22 => ⟨by omega, ?_⟩⟩⟩⟩⟩
  have B17 : BP s17 := fun a ha => by unfold tyE; rw [GF_ty F17, ty14]; exact hB a ha
  refine Tot.imp (Tot.mono (by omega) (s_190 (d := 0) (e := E + 1) (c := 2000 + 6 * g) (n := ghn G g) (P := P) B17 (by rw [f70]; omega) (by omega) (by omega) (by rw [ghn_e g hg]; omega) (by rw [ghn_e g hg]; omega) (by omega))) ?_
  rintro v u ⟨rfl, Fu, Vu⟩
  refine ⟨rfl, ?_⟩
  -- both envs stand in u
  have fu : ∀ k, ¬ k = 70 → u.1 k = s.1 k := fun k hk => by rw [Fu.1]; exact f17 k hk
  have fu70 : (u.1 70).toInt = (E : Int) + 2 := by
    rw [Fu.1, F17.1, es14]
    show y14.toInt = _
    omega
  have tyu : u.2.1 264 = s.2.1 264 := by rw [GF_ty Fu, GF_ty F17, ty14]
  have rowu : ∀ q i, ¬ ((q = 265 ∨ q = 266) ∧ 2 * E ≤ i) → ¬ ((q = 267 ∨ q = 268) ∧ 12 * E ≤ i) → u.2.1 q i = s.2.1 q i := by
    intro q i w1 w2
    rw [Fu.2.1 q i (fun w => by omega), F17.2.1 q i (fun w => by omega)]
    have : s14.2.1 q i = s12.2.1 q i := by
      by_cases w : q = 266
      · rw [w]; exact r14' i (by omega)
      · rw [r14 q w]
    rw [this, F12.2.1 q i (fun w => by omega), F6.2.1 q i (fun w => by omega)]
    by_cases w : q = 266
    · rw [w]; exact r1' i (by omega)
    · rw [r1 q w]
  have c12 : ∀ q i, (q = 265 ∨ q = 266) ∧ i < 2 * (E + 1) ∨ (q = 267 ∨ q = 268) ∧ i < 12 * (E + 1) → u.2.1 q i = s12.2.1 q i := by
    intro q i w1
    rw [Fu.2.1 q i (fun w => by omega), F17.2.1 q i (fun w => by omega)]
    by_cases w : q = 266
    · rw [w]; exact r14' i (by omega)
    · rw [r14 q w]
  have tyu12 : u.2.1 264 = s12.2.1 264 := by rw [GF_ty Fu, GF_ty F17, r14 264 (by decide)]
  have VA : EV u E P (1000 + 6 * c) As (2000 + 6 * h) (plc (ghn G h)) := by
    refine ⟨EVg_mv V6 ?_ ?_ (fun a ha => ⟨?_, ?_⟩) (fun j hj => ?_) (Nat.le_refl _), EVg_mv V12 (c12 _ _ (by omega)) (c12 _ _ (by omega)) (fun a ha => ⟨c12 _ _ (by omega), c12 _ _ (by omega)⟩) (fun j hj => by rw [tyu12]) (Nat.le_refl _)⟩
    · rw [c12 _ _ (by omega), F12.2.1 _ _ (fun w => by omega)]
    · rw [c12 _ _ (by omega), F12.2.1 _ _ (fun w => by omega)]
    · rw [c12 _ _ (by omega), F12.2.1 _ _ (fun w => by omega)]
    · rw [c12 _ _ (by omega), F12.2.1 _ _ (fun w => by omega)]
    · rw [tyu12, GF_ty F12]
  have VB : EV u (E + 1) P cd Bs (2000 + 6 * g) (plc (ghn G g)) := by
    refine ⟨EVg_mv V17 (Fu.2.1 _ _ (fun w => by omega)) (Fu.2.1 _ _ (fun w => by omega)) (fun a ha => ⟨Fu.2.1 _ _ (fun w => by omega), Fu.2.1 _ _ (fun w => by omega)⟩) (fun j hj => by rw [GF_ty Fu]) (Nat.le_refl _), Vu⟩
  have Tu : TYN u := fun i => by rw [tyu]; exact hT i
  have Gu : GC u := by
    intro i
    by_cases w0 : i = 2 * E
    · rw [w0, VA.1.1]; omega
    · by_cases w1 : i = 2 * E + 1
      · rw [w1, VA.2.1]; omega
      · by_cases w2 : i = 2 * (E + 1)
        · rw [w2, VB.1.1]; omega
        · by_cases w3 : i = 2 * (E + 1) + 1
          · rw [w3, VB.2.1]; omega
          · rw [Fu.2.1 265 i (fun w => by omega), F17.2.1 265 i (fun w => by omega), r14 265 (by decide), F12.2.1 265 i (fun w => by omega), F6.2.1 265 i (fun w => by omega), r1 265 (by decide)]
            exact hG i
  have SYu : ∀ q i, q ∉ [264, 265, 266, 267, 268] → SY s q i → SY u q i ∧ tyS u q i = tyS s q i := by
    intro q i hq hsy
    have ru : ∀ q' i', q' ∉ [264, 265, 266, 267, 268] → u.2.1 q' i' = s.2.1 q' i' := by
      intro q' i' hq'
      refine rowu q' i' (fun w => hq' ?_) (fun w => hq' ?_)
      · rcases w.1 with w | w <;> rw [w] <;> decide
      · rcases w.1 with w | w <;> rw [w] <;> decide
    obtain ⟨y, p, l, k1, k2⟩ := hsy
    have k1' : (u.2.1 q i).toInt = (y : Int) := by rw [ru q i hq]; exact k1
    have k2' : NY u y p l := by
      unfold NY
      rw [ru 231 y (by decide), ru 232 y (by decide)]
      exact k2
    refine ⟨⟨y, p, l, k1', k2'⟩, ?_⟩
    rw [SY_ty k1' k2', SY_ty k1 k2]
    exact seg_eq (fun j _ _ => by rw [tyu])
  obtain ⟨σa, hσa⟩ : ∃ σ, σ = envS (1000 + 6 * c) As (2000 + 6 * h) (plc (ghn G h)) := ⟨_, rfl⟩
  obtain ⟨σb, hσb⟩ : ∃ σ, σ = envS cd Bs (2000 + 6 * g) (plc (ghn G g)) := ⟨_, rfl⟩
  have stp : ∀ (t : yS) (q i1 i2 : Nat), q ∉ [264, 265, 266, 267, 268] → WF P (E + 2) u t → SY s q i1 → SY s q i2 → Tot (e + 3) 197 [.ref 213, .int (t.2.1 q i1), .int (s.1 70), .int (t.2.1 q i2), .int (s12.1 70)] t (fun v t' => WF P (E + 2) u t' ∧ ∃ r : Int32, v = some (.int r) ∧ 0 ≤ r.toInt ∧ r.toInt ≤ 2 ∧ (r.toInt = 1 → subs σa (tyS s q i1) = subs σb (tyS s q i2))) := by
    intro t q i1 i2 hq hw hs1 hs2
    obtain ⟨k1, k2⟩ := SYu q i1 hq hs1
    obtain ⟨k3, k4⟩ := SYu q i2 hq hs2
    obtain ⟨m1, m2⟩ := SY_wf hw hP1 hq k1
    obtain ⟨m3, m4⟩ := SY_wf hw hP1 hq k3
    obtain ⟨ya, pa, la, n1, n2⟩ := m1
    obtain ⟨yb, pb, lb, n3, n4⟩ := m3
    refine Tot.imp (s_197 (E := E + 2) (P := P) hw.2.2.2.1 hw.2.2.2.2 (by rw [hw.1 64 (by decide), fu 64 (by decide)]; exact hP) hP1 hP2 n1 n2 n3 n4 hE (by rw [f70]; exact hy1) (by omega) (by omega) (EV_wf VA hw (by omega) (Nat.le_refl _)) (EV_wf VB hw (by omega) (Nat.le_refl _))) ?_
    rintro v t' ⟨w1, r, rfl, w2, w3, w4⟩
    refine ⟨WF_tr hw w1 (Nat.le_refl _) (Nat.le_refl _), r, rfl, w2, w3, fun q1 => ?_⟩
    have := w4 q1
    rw [← SY_ty n1 n2, ← SY_ty n3 n4, m2, m4, k2, k4, ← hσa, ← hσb] at this
    exact this
  have ru : ∀ (t : yS) q i, WF P (E + 2) u t → q ∉ [264, 265, 266, 267, 268] → t.2.1 q i = s.2.1 q i := by
    intro t q i hw hq
    rw [WF_row hw hq]
    refine rowu q i (fun w => hq ?_) (fun w => hq ?_)
    · rcases w.1 with w | w <;> rw [w] <;> decide
    · rcases w.1 with w | w <;> rw [w] <;> decide
  have wfu : ∀ t (x1 : Int32), WF P (E + 2) u t → x1.toInt = (E : Int) → WF P E s (sf t 70 x1) := by
    intro t x1 hw hx1
    refine ⟨fun k hk => ?_, fun q i w1 w2 w3 => ?_, ?_, hw.2.2.2.1, hw.2.2.2.2⟩
    · rw [sf_1]
      split
      · rename_i w
        rw [w]
        exact Int32.toInt_inj.mp (by omega)
      · rename_i w
        rw [hw.1 k hk]
        exact fu k w
    · show t.2.1 q i = _
      rw [hw.2.1 q i w1 (fun w => w2 ⟨w.1, by omega⟩) (fun w => w3 ⟨w.1, by omega⟩)]
      exact rowu q i w2 w3
    · show t.2.2 = _
      rw [hw.2.2.1, Fu.2.2, F17.2.2, es14]
      show s12.2.2 = _
      rw [F12.2.2, F6.2.2, es1]
      rfl
  exact al72 hσa hσb hb hH hh hg e1 e4 h1 h4 hR p2 p3 p5 p6 q2 q3 q5 q6 ghn_e gvn_e ghb_e gvt_e ght_e hnn Tu Gu fu70 hE2 stp ru wfu
