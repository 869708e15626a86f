section TM4
variable {own : Nat → Nat × Nat} {b n W N T F H S0 : Nat} {G : PG} {fo : Option Nat} {m p lo hi e a hm S O P E S1 O1 P1 S2 O2 P2 ps ls x h cd : Nat} {A0 M : List Nat} {As Bs : List (List Nat)} {cs : List (Nat × Nat × Nat)} {s s1 t : yS}
/-- the arguments -/
theorem m182 {d : Nat} {a1 a2 a3 a4 a5 a6 a7 : Int32} (ih : TEH own b n W N T F H S0 G fo m d) (hd : 6 ≤ d) (hM : MS own b n W N T F H S0 G fo m p lo hi e a hm S O P E S1 O1 P1 A0 s s1) (hX : ME own b n W N T F H S0 G fo m hi e hm E S1 O1 P1 S2 O2 P2 ps ls x h cd A0 M As Bs cs s1 t) (hbd : (t.1 8).toInt = 0 → ∀ (k : Nat) (B : List Nat), Bs[k]? = some B → impl G B (subs (envS cd As (2000 + 6 * h) Bs) (ghb G h k))) (h1 : a1.toInt = (e : Int)) (h3 : a3.toInt = 204 * (b : Int) + (h : Nat)) (h5 : a5.toInt = (E : Int)) : w_226_182 (Tot (d + 1)) a1 a2 a3 a4 a5 a6 a7 t (MEQ b n H G fo m p lo hi e S O P E s) := by
  obtain ⟨dd, rfl⟩ : ∃ dd, d = dd + 1 := ⟨d - 1, by omega⟩
  have hN := hM.2.1.2.2.1
  have hhN := hM.2.1.2.1
  have c13 := hM.2.2.2.2.2.2.2.2.2.2.2.2.1
  have c14 := hM.2.2.2.2.2.2.2.2.2.2.2.2.2.1
  obtain ⟨x1, x2, x3, x4, x5, x6, x7, x8, x9, x10, x11, x12, x13, x14, x15, x16, x17, x18, x19, x20, x21, x22, x23, x24, x25, x26, x27⟩ := id hX
  obtain ⟨hb, hn, hT24, hF60, hH, gT', gF', hS8⟩ := TW_num x3
  obtain ⟨d1, d2, d3, d4, d5, d6, d7, d8, d9, d10⟩ := id x3.1
  have g := pgA d1
  rw [d8] at g
  obtain ⟨-, -, -, g4, g5, -⟩ := g
  have hv6 := (d9.2.2.1 h x19).2
  have e1 : a1.toInt.toNat = e := by omega
  obtain ⟨fT, hfT⟩ : ∃ fT, fT = (fun k => subs (envS cd As (2000 + 6 * h) Bs) (gvt G h k)) := ⟨_, rfl⟩
  have l5 := x25.2.2.2.2.2.2.2.2.1
  unfold w_226_182
  rw [e1]
  refine ⟨by omega, ?_⟩
  refine ⟨fun z1 z2 z3 z4 z5 z6 z7 w => z1 = a1 ∧ z3 = a3 ∧ z5 = a5 ∧ ∃ k : Nat, z6.toInt = (k : Int) ∧ AIv b n H G fo m hm hi S2 O2 P2 (E + 1) fT cs t k z7.toInt w, fun _ _ _ _ _ z6 _ _ => (7 - z6.toInt).toNat, ⟨rfl, rfl, rfl, 0, by decide, AIv_0 x3 x25 x24 c14⟩, ?_⟩
  rintro z1 z2 z3 z4 z5 z6 z7 w ⟨y1, y3, y5, k, k1, hI⟩
  have y1 := y1.symm
  have y3 := y3.symm
  have y5 := y5.symm
  subst y1 y3 y5
  have fin : ((w.1 8).toInt = 0 → k = cs.length) → w_226_213 (Tot (dd + 2)) a1 z2 a3 z4 a5 z6 z7 w (MEQ b n H G fo m p lo hi e S O P E s) := fun hend => m213 (d := dd) hM hX hfT hbd hI hend h1 h3 h5
  have hkl : k ≤ cs.length ∧ chn t z7.toInt ((cs.drop k).map (·.2.2)) := by
    obtain ⟨S', O', pos, F2, f2, m1, m2, m3, m4, m5, m6, m7, m8, m9, m10, m11, -⟩ := hI
    exact ⟨m10, m11⟩
  unfold w_226_189
  refine ⟨fun hneg => fin (fun _ => ?_), fun hpos => ⟨fun hne => fin (fun q => absurd q hne), fun h0 => ?_⟩⟩
  · cases hdr : cs.drop k with
    | nil =>
      have := List.drop_eq_nil_iff.mp hdr
      omega
    | cons c cs' =>
      have h2 := hkl.2
      rw [hdr] at h2
      have : z7.toInt = (c.2.2 : Int) := h2.1
      omega
  · cases hdr : cs.drop k with
    | nil =>
      have h2 := hkl.2
      rw [hdr] at h2
      have : z7.toInt = -1 := h2
      omega
    | cons c cs' =>
      have h2 := hkl.2
      rw [hdr] at h2
      have hz7 : z7.toInt = (c.2.2 : Int) := h2.1
      have hck : cs[k]? = some c := by
        have := congrArg List.head? hdr
        rw [List.head?_drop] at this
        exact this
      have hkl' := cs_lt hck
      obtain ⟨p1, p2, p3, p4, -⟩ := l5 c (List.mem_of_getElem? hck)
      have r50 : w.2.1 250 = t.2.1 250 := by
        obtain ⟨S', O', pos, F2, -⟩ := hI
        exact TF_row F2 (by decide)
      refine ⟨by omega, fun y1 hy1 => ⟨by omega, fun y2 hy2 => ⟨by omega, ?_⟩⟩⟩
      rw [show y2.toInt.toNat = 6 * (204 * b + h) + k by omega, r50]
      have hkf : k < nT t 248 (204 * b + h) := by rw [← (g4 h x19).2.1]; omega
      have hft := (g5 h k x19).2 hkf
      have okV := (d9.2.2.2.2.2.1 h x19).2.1 k (by omega)
      refine Tot.imp (AIv_step (d := dd + 1) (q := 250) (i := 6 * (204 * b + h) + k) (ev := E) (b0 := cd) (b1 := 2000 + 6 * h) (As := As) (Bs := Bs) (sc2 := scHg G h) ih hd x3 x25 hI hck hz7 (Or.inr (Or.inr (Or.inr (Or.inl ⟨h, k, x19, hkf, rfl, rfl⟩)))) rfl (by rw [← hft]; exact okV.1) h5 (by omega) x26 x27 (env_cov d9 x19 x17 x15 x16 x18 x22 x21) (by rw [hfT]; show subs _ (gvt G h k) = _; rw [hft])) ?_
      rintro v w' ⟨rfl, n1, n2⟩
      refine ⟨rfl, by omega, fun x5' hx5' => ⟨by omega, ?_⟩⟩
      rw [show z7.toInt.toNat = c.2.2 by omega, n2]
      exact ⟨⟨rfl, rfl, rfl, k + 1, by omega, n1⟩, by show (7 - x5'.toInt).toNat < (7 - z6.toInt).toNat; omega⟩
/-- ME stays over the work on TYPES -/
theorem ME_xf {xx : Nat} {t' : yS} (hle : e ≤ hm) (hX : ME own b n W N T F H S0 G fo m hi e hm E S1 O1 P1 S2 O2 P2 ps ls xx h cd A0 M As Bs cs s1 t) (xf : XF b5K P2 (E + 1) t t') (f : f8 t t') : ME own b n W N T F H S0 G fo m hi e hm E S1 O1 P1 S2 O2 P2 ps ls xx h cd A0 M As Bs cs s1 t' := by
  obtain ⟨x1, x2, x3, x4, x5, x6, x7, x8, x9, x10, x11, x12, x13, x14, x15, x16, x17, x18, x19, x20, x21, x22, x23, x24, x25, x26, x27⟩ := hX
  obtain ⟨w1, w2, w3, w4, w5, w6, w7, w8, w9, w10, w11, w12, w13⟩ := id x3
  obtain ⟨hb, hn, hT24, hF60, hH, gT', gF', hS8⟩ := TW_num x3
  have r : ∀ q, q ∉ [264, 265, 266, 267, 268] → t'.2.1 q = t.2.1 q := fun q hq => XF_row xf hq
  have tf : TFr tK b e e S2 P2 (E + 1) O2 t t' := TF_mo (TF_xf (b := b) (lo := e) (hi := e) (S := S2) (O := O2) xf) (by decide) (Nat.le_refl _) (Nat.le_refl _) (Nat.le_refl _) (Nat.le_refl _) (Nat.le_refl _) (Nat.le_refl _)
  have ca : CA b n e hm S2 O2 t t' := by
    refine ⟨fun q hq y _ _ => by rw [r q (by clear r x18 x20 x25; revert q; decide)], fun t' _ _ => by rw [r 217 (by decide)], fun j j1 j2 => xf.2.1 264 j (fun w => by omega) (fun w => by omega) (fun w => by omega), fun j _ _ => by rw [r 270 (by decide)]⟩
  refine ⟨TF_tr x1 tf (by decide) (Nat.le_refl _) ?_ x4 x8 (Nat.le_succ _) x6, f8_tr x2 f, TW_fr x3 tf (by decide) (fun z z1 z2 => by omega) f.1 (by rw [xf.1 64 (by decide)]; exact w5) (by rw [xf.1 70 (by decide)]; exact w6) (by rw [xf.1 65 (by decide)]; exact w7) (by rw [xf.1 85 (by decide)]; exact w8) (Nat.le_refl _) w11 (Nat.le_refl _) w13, x4, x5, x6, x7, x8, x9, by rw [r 271 (by decide)]; exact x10, by rw [r 272 (by decide)]; exact x11, x12, ?_, x14, x15, x16, x17, by rw [r 217 (by decide), r 222 (by decide)]; exact x18, x19, by rw [r 229 (by decide)]; exact wY_eq ca (Nat.le_refl _) x20, x21, x22, x23, by rw [r 224 (by decide)]; exact chn_row (r 225 (by decide)) _ _ x24, ?_, EV_xf x26 xf (Nat.lt_succ_self _) (Nat.le_refl _), ?_⟩
  · exact hle
  · rw [sg_eq (s := t) (fun i _ _ => by rw [r 270 (by decide)])]
    exact x13
  · obtain ⟨y1, y2, y3, y4, y5, y6, y7, y8, y9, y10⟩ := x25
    exact ⟨y1, y2, y3, y4, y5, by rw [cM_eq (r 221 (by decide))]; exact y6, y7, y8, fun c hc => by
      obtain ⟨z1, z2, z3, z4, z5⟩ := y9 c hc
      exact ⟨z1, z2, z3, z4, isE_tf tf z5⟩, y10⟩
  · have six : ∀ {Cs : List (List Nat)} {a : Nat} {A : List Nat}, Cs.length ≤ 6 → Cs[a]? = some A → a < 6 := by
      intro Cs a A h6 hA
      by_cases q : a < Cs.length
      · omega
      · rw [List.getElem?_eq_none (by omega)] at hA
        cases hA
    refine ⟨fun a A hA => ?_, fun a A hA => ?_⟩
    · have := six x26.1.2.2.1 hA
      rw [xf.2.1 267 (12 * E + a) (fun w => by omega) (fun w => by omega) (fun w => by omega)]
      exact x27.1 a A hA
    · have := six x26.2.2.2.1 hA
      rw [xf.2.1 267 (12 * E + 6 + a) (fun w => by omega) (fun w => by omega) (fun w => by omega)]
      exact x27.2 a A hA
theorem m147 {d : Nat} {a1 a2 a3 a4 a5 : Int32} (ih : TEH own b n W N T F H S0 G fo m d) (hd : 6 ≤ d) (hM : MS own b n W N T F H S0 G fo m p lo hi e a hm S O P E S1 O1 P1 A0 s s1) (hX : ME own b n W N T F H S0 G fo m hi e hm E S1 O1 P1 S2 O2 P2 ps ls x h cd A0 M As Bs cs s1 t) (htk : ∀ ys, chn t (t.2.1 229 e).toInt ys → ys.Pairwise (· < ·) ∧ ∀ y ∈ ys, 4002 * (b : Int) ≤ (t.2.1 222 y).toInt ∧ (t.2.1 222 y).toInt < 4002 * (b : Int) + n) (h1 : a1.toInt = (e : Int)) (h3 : a3.toInt = 204 * (b : Int) + (h : Nat)) (h5 : a5.toInt = (E : Int)) : wl_226_147 (Tot (d + 1)) a1 a2 a3 a4 a5 0 (t.2.1 229 e) t (MEQ b n H G fo m p lo hi e S O P E s) := by
  have hN := hM.2.1.2.2.1
  have hhN := hM.2.1.2.1
  have hP1 := nu4 hM.2.1.2.2.2.2.2.2.1 hM.2.2.2.2.2.2.2.2.2.1 hM.2.2.2.2.2.2.2.2.2.2.1
  have hEE := hM.2.1.2.2.2.2.2.2.2
  have c14 := hM.2.2.2.2.2.2.2.2.2.2.2.2.2.1
  obtain ⟨x1, x2, x3, x4, x5, x6, x7, x8, x9, x10, x11, x12, x13, x14, x15, x16, x17, x18, x19, x20, x21, x22, x23, x24, x25, x26, x27⟩ := id hX
  obtain ⟨hb, hn, hT24, hF60, hH, gT', gF', hS8⟩ := TW_num x3
  obtain ⟨w1, w2, w3, w4, w5, w6, w7, w8, w9, w10, w11, w12, w13⟩ := id x3
  obtain ⟨d1, d2, d3, d4, d5, d6, d7, d8, d9, d10⟩ := id w1
  have g := pgA d1
  rw [d8] at g
  obtain ⟨-, -, -, g4, g5, -⟩ := g
  have h6 := (d9.2.2.1 h x19).1
  obtain ⟨ys, z1, z2, z3⟩ := id x20
  obtain ⟨hpw, htk⟩ := htk ys z1
  refine ⟨fun v1 v2 v3 v4 v5 v6 v7 w => v1 = a1 ∧ v3 = a3 ∧ v5 = a5 ∧ XF b5K P2 (E + 1) t w ∧ f8 t w ∧ ∃ k : Nat, v6.toInt = (k : Int) ∧ k ≤ ys.length ∧ chn t v7.toInt (ys.drop k) ∧ ((w.1 8).toInt = 0 → ∀ (j : Nat) (B : List Nat), j < k → Bs[j]? = some B → impl G B (subs (envS cd As (2000 + 6 * h) Bs) (ghb G h j))), fun _ _ _ _ _ v6 _ _ => (7 - v6.toInt).toNat, ⟨rfl, rfl, rfl, XF_rf d5 d6, f8_rf w3, 0, by decide, by omega, z1, fun _ j B hj => by omega⟩, ?_⟩
  rintro v1 v2 v3 v4 v5 v6 v7 w ⟨y1, y3, y5, wX, wf, k, k1, k2, k3, k4⟩
  have y1 := y1.symm
  have y3 := y3.symm
  have y5 := y5.symm
  subst y1 y3 y5
  have hle : e ≤ hm := Nat.le_of_lt hM.2.2.2.2.2.2.2.2.2.2.2.2.1
  have fin : ((w.1 8).toInt = 0 → k = ys.length) → w_226_182 (Tot (d + 1)) a1 v2 a3 v4 a5 v6 v7 w (MEQ b n H G fo m p lo hi e S O P E s) := by
    intro hend
    refine m182 ih hd hM (ME_xf hle hX wX wf) (fun q j B hj => ?_) h1 h3 h5
    have hjl : j < Bs.length := by
      by_cases q : j < Bs.length
      · exact q
      · rw [List.getElem?_eq_none (by omega)] at hj
        cases hj
    exact k4 q j B (by have := hend q; omega) hj
  unfold w_226_147
  refine ⟨fun hneg => fin (fun _ => ?_), fun hpos => ⟨fun hne => fin (fun q => absurd q hne), fun h0 => ?_⟩⟩
  · cases hdr : ys.drop k with
    | nil =>
      have := List.drop_eq_nil_iff.mp hdr
      omega
    | cons c cs' =>
      rw [hdr] at k3
      have : v7.toInt = (c : Int) := k3.1
      omega
  · cases hdr : ys.drop k with
    | nil =>
      rw [hdr] at k3
      have : v7.toInt = -1 := k3
      omega
    | cons y cs' =>
      rw [hdr] at k3
      have hz7 : v7.toInt = (y : Int) := k3.1
      have hck : ys[k]? = some y := by
        have := congrArg List.head? hdr
        rw [List.head?_drop] at this
        exact this
      have hdr' : ys.drop (k + 1) = cs' := by
        rw [drop_get hck] at hdr
        exact (List.cons.inj hdr).2
      have hkl : k < ys.length := by
        by_cases q : k < ys.length
        · exact q
        · rw [List.getElem?_eq_none (by omega)] at hck
          cases hck
      obtain ⟨u1, u2, B, u3, pp, ll, u4, u5, u6, u7, u8, u9⟩ := z3 k y hck
      obtain ⟨n1, n2, n3, n4, n5⟩ := id u4
      have tkr := htk y (List.mem_of_getElem? hck)
      have r : ∀ q, q ∉ [264, 265, 266, 267, 268] → w.2.1 q = t.2.1 q := fun q hq => XF_row wX hq
      have ez : v7.toInt.toNat = y := by omega
      rw [ez]
      refine ⟨by omega, by omega, by omega, fun y1 hy1 => ⟨by omega, fun y2 hy2 => ⟨by omega, by omega, ?_⟩⟩⟩
      rw [show y2.toInt.toNat = 6 * (204 * b + h) + k by omega, r 231 (by decide), r 232 (by decide), r 247 (by decide), r 222 (by decide)]
      have hkf : k < nT t 245 (204 * b + h) := by rw [← (g4 h x19).1]; omega
      have hft := (g5 h k x19).1 hkf
      obtain ⟨yy, p2, l2, o1, o2, o3, o4, o5, o6, o7⟩ := d2 247 (6 * (204 * b + h) + k) (Or.inr (Or.inr (Or.inl ⟨h, k, x19, hkf, rfl, rfl⟩)))
      rw [SY_ty o1 o5] at hft
      have okb := ((d9.2.2.2.2.2.1 h x19).1 k (by omega)).1
      have hP2 : P2 ≤ 199600 := nu7 hP1 x9
      have segw : ∀ {p l}, p + l ≤ 13000 → seg w p l = seg t p l := fun hh => XF_seg wX (by omega)
      refine Tot.imp (Tot.mono (show 0 + 6 ≤ d + 1 by omega) (s_212 (e := 0) (own := own) (S0 := S0) (bt := b) (n2 := n) (W := W) (P := P2) (E := E + 1) (p := pp) (l := ll) (y := yy) (p2 := p2) (l2 := l2) (ev := E) (b0 := cd) (b1 := 2000 + 6 * h) (As := As) (Bs := Bs) (sc := scX G fo) (sc2 := scHg G h) (CK_xf w1 wX (by decide) (by omega)) (Lx_xf w2 wX) wf.1 (by rw [wX.1 64 (by decide)]; exact w5) (by omega) hP2 (by rw [wX.1 70 (by decide)]; exact w6) (by omega) n2 n3 (by omega) (scX_C d9 gF' w4) (by rw [segw n4, u7]; exact u8) o1 (NY_xf o5 wX) (by rw [segw o5.2.2.2.1, ← hft]; exact okb) h5 (by omega) (EV_xf x26 wX (Nat.lt_succ_self _) (Nat.le_refl _)) (env_cov d9 x19 x17 x15 x16 x18 x22 x21) ⟨tkr.1, by omega⟩)) ?_
      rintro v w' ⟨rfl, wX', wf', i1⟩
      rw [segw n4, u7, segw o5.2.2.2.1, ← hft] at i1
      refine ⟨rfl, by omega, fun x5' hx5' => ⟨by omega, ?_⟩⟩
      rw [XF_row wX' (show 225 ∉ [264, 265, 266, 267, 268] by decide), r 225 (by decide)]
      refine ⟨⟨rfl, rfl, rfl, XF_tr wX wX' (fun _ w => w) (Nat.le_refl _) (Nat.le_refl _), f8_tr wf wf', k + 1, by omega, by omega, by rw [hdr']; exact k3.2, fun q j B' hj hB' => ?_⟩, by show (7 - x5'.toInt).toNat < (7 - v6.toInt).toNat; omega⟩
      by_cases w : j = k
      · rw [w, u3] at hB'
        have hB' : B = B' := Option.some.inj hB'
        rw [w, ← hB']
        exact (i1 q).1
      · exact k4 (wf'.2 q) j B' (by omega) hB'
end TM4
