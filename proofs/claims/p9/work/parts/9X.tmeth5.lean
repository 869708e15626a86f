theorem nu15 {S1 S' S'' pos y h' hm e : Nat} (h1 : S' ≤ S1 + (pos - (e + 1))) (h2 : pos ≤ y) (h3 : S'' ≤ S' + (h' - y)) (h4 : e + 1 ≤ pos) (h5 : y < h') : S'' ≤ S1 + (h' - (e + 1)) := by omega
theorem nu16 {S S1 S' e lo hi hm y h' pos z : Nat} (h1 : S1 ≤ S + (e - lo)) (h2 : S' ≤ S1 + (pos - (e + 1))) (h3 : pos ≤ y) (h4 : e + 1 ≤ pos) (h5 : y < h') (h6 : h' ≤ hm) (h7 : hm ≤ hi) (h8 : lo ≤ e) (h9 : S + (hi - lo) ≤ z) : S' + (h' - y) ≤ z := by omega
section TM6
variable {own : Nat → Nat × Nat} {b n W N T F H S0 : Nat} {G : PG} {fo : Option Nat} {m p lo hi e a hm S O P E S1 O1 P1 S2 O2 P2 ps ls x h cd : Nat} {A0 M : List Nat} {As : List (List Nat)} {cs : List (Nat × Nat × Nat)} {ys : List Nat} {s s1 u t : yS}
/-- the rows of a METHOD: TYPES ys, arguments cs -/
def MY (b n m hi e hm : Nat) (ys : List Nat) (cs : List (Nat × Nat × Nat)) (s : yS) : Prop := chn s (s.2.1 229 e).toInt ys ∧ ys.length ≤ 6 ∧ ys.Pairwise (· < ·) ∧ (∀ y ∈ ys, e + 1 ≤ y ∧ ∃ h', h' ≤ hm ∧ (∀ c' ∈ ys, y < c' → h' ≤ c') ∧ isY b n s 11 h' y) ∧ chn s (s.2.1 224 e).toInt (cs.map (·.2.2)) ∧ cs.Pairwise (fun a b => a.2.1 ≤ b.1) ∧ ∀ c ∈ cs, hm ≤ c.1 ∧ c.1 ≤ c.2.2 ∧ c.2.2 < c.2.1 ∧ c.2.1 ≤ hi ∧ isE b n s m c.1 c.2.1 c.2.2
theorem m105 {d : Nat} {a1 a2 a3 a4 : Int32} (ih : TEH own b n W N T F H S0 G fo m d) (hd : 18 ≤ d) (hM : MS own b n W N T F H S0 G fo m p lo hi e a hm S O P E S1 O1 P1 A0 s s1) (hU : MU own b n W N T F H S0 G fo e E S1 O1 P1 O2 P2 ps ls x h cd A0 M As s1 u) (hY : MY b n m hi e hm ys cs s) (hcnt : (u.1 8).toInt = 0 → ys.length = ghn G h ∧ cs.length = gvn G h) (Ft : TFr tK b (e + 1) hm S1 P2 E O2 u t) (ft : f8 u t) (Wt : TW own b n W N T F H S0 G fo S2 O2 P2 E t) (k1 : S1 ≤ S2) (k2 : S2 ≤ S1 + (hm - e)) (hrs : (t.1 8).toInt = 0 → ∀ (k y : Nat), ys[k]? = some y → ∃ p l : Nat, rsv t (vE G (scX G fo)) 11 y p l ∧ 10 + 4100 * b ≤ p ∧ p + l ≤ S2) (h1 : a1.toInt = (e : Int)) (h2 : a2.toInt = (ps : Int)) (h3 : a3.toInt = 204 * (b : Int) + (h : Nat)) (h4 : a4.toInt = (cd : Int)) : wl_226_105 (Tot (d + 1)) a1 a2 a3 a4 (t.2.1 229 e) t (MEQ b n H G fo m p lo hi e S O P E s) := by
  obtain ⟨y1, y2, y3, y4, y5, y6, y7⟩ := id hY
  obtain ⟨c1, c2, c3, c4, c5, c6, c7, c8, c9, c10, c11, c12, c13, c14, c15, c16, c17, c18, c19, c20⟩ := id hM
  obtain ⟨u1, u2, u3, u4, u5, u6, u7, u8, u9, u10, u11, u12, u13, u14, u15, u16, u17, u18, u19, u20⟩ := id hU
  obtain ⟨hb, hn, hT24, hF60, hH, gT', gF', hS8⟩ := TW_num Wt
  obtain ⟨w1, w2, w3, w4, w5, w6, w7, w8, w9, w10, w11, w12, w13⟩ := id Wt
  have hN := c2.2.2.1
  have hhN := c2.2.1
  have hEE := c2.2.2.2.2.2.2.2
  have hP1 := nu4 c2.2.2.2.2.2.2.1 c10 c11
  have hP2 : P2 ≤ 199600 := nu7 hP1 u7
  have rt : ∀ q, q ∉ [226, 230, 231, 232, 264, 265, 266, 267, 268, 270, 271, 272] → t.2.1 q = s.2.1 q := fun q hq => by rw [TF_row Ft hq, TF_row u1 hq, TF_row c3 hq]
  obtain ⟨Bs, hBs⟩ : ∃ Bs, Bs = ys.map (fun y => seg t (t.2.1 231 y).toInt.toNat (t.2.1 232 y).toInt.toNat) := ⟨_, rfl⟩
  have hlen : ys.length = Bs.length := by rw [hBs, List.length_map]
  refine ⟨fun z1 z2 z3 z4 z5 w => z1 = a1 ∧ z2 = a2 ∧ z3 = a3 ∧ z4 = a4 ∧ XF b5K P2 E t w ∧ f8 t w ∧ ∃ k : Nat, k ≤ ys.length ∧ chn t z5.toInt (ys.drop k) ∧ ((w.1 8).toInt = 0 → ∀ (j : Nat) (B : List Nat), j < k → Bs[j]? = some B → okBa G B), fun _ _ _ _ z5 _ => if z5.toInt < 0 then 0 else (13000 - z5.toInt).toNat + 1, ⟨rfl, rfl, rfl, rfl, XF_rf w1.2.2.2.2.1 w1.2.2.2.2.2.1, f8_rf w3, 0, by omega, by rw [rt 229 (by decide)]; exact chn_row (rt 225 (by decide)) _ _ y1, fun _ j B hj => by omega⟩, ?_⟩
  rintro z1 z2 z3 z4 z5 w ⟨v1, v2, v3, v4, wX, wf, k, q1, q2, q3⟩
  have v1 := v1.symm
  have v2 := v2.symm
  have v3 := v3.symm
  have v4 := v4.symm
  subst v1 v2 v3 v4
  have tfw : TFr tK b (e + 1) (e + 1) S2 P2 E O2 t w := TF_mo (TF_xf (b := b) (lo := e + 1) (hi := e + 1) (S := S2) (O := O2) wX) (by decide) (Nat.le_refl _) (Nat.le_refl _) (Nat.le_refl _) (Nat.le_refl _) (Nat.le_refl _) (Nat.le_refl _)
  have Ww : TW own b n W N T F H S0 G fo S2 O2 P2 E w := TW_fr Wt tfw (by decide) (fun z z1 z2 => by omega) wf.1 (by rw [wX.1 64 (by decide)]; exact w5) (by rw [wX.1 70 (by decide)]; exact w6) (by rw [wX.1 65 (by decide)]; exact w7) (by rw [wX.1 85 (by decide)]; exact w8) (Nat.le_refl _) w11 (Nat.le_refl _) w13
  have r : ∀ q, q ∉ [264, 265, 266, 267, 268] → w.2.1 q = t.2.1 q := fun q hq => XF_row wX hq
  have fin : ((w.1 8).toInt = 0 → k = ys.length) → w_226_119 (Tot (d + 1)) a1 a2 a3 a4 z5 w (MEQ b n H G fo m p lo hi e S O P E s) := by
    intro hend
    refine m119 (Bs := Bs) (ys := ys) ih (by omega) hM hU (TF_tr Ft tfw (fun _ w => w) (Nat.le_refl _) (by omega) k1 (Nat.le_refl _) (Nat.le_refl _) (Nat.le_refl _)) (f8_tr ft wf) Ww k1 k2 y1 y2 y3 (fun y hy => ?_) hlen (fun h0 j y hj => ?_) (fun h0 => ?_) y5 y6 y7 h1 h2 h3 h4
    · obtain ⟨-, h', -, -, hy'⟩ := y4 y hy
      obtain ⟨-, -, g1, g2, -⟩ := id hy'
      exact ⟨g1, g2⟩
    · have ek := hend h0
      have hy := List.mem_of_getElem? hj
      obtain ⟨g0, h', g1, g2, g3⟩ := y4 y hy
      have hlt := isY_lt g3
      obtain ⟨pp, ll, g4, g5, g6⟩ := hrs (wf.2 h0) j y hj
      obtain ⟨n1, n2, n3, n4, n5, -⟩ := id g4
      have hjl : j < ys.length := by
        by_cases q : j < ys.length
        · exact q
        · rw [List.getElem?_eq_none (by omega)] at hj
          cases hj
      have hB : Bs[j]? = some (seg t pp ll) := by
        rw [hBs, List.getElem?_map, hj]
        show some (seg t (t.2.1 231 y).toInt.toNat (t.2.1 232 y).toInt.toNat) = _
        rw [show (t.2.1 231 y).toInt.toNat = pp by omega, show (t.2.1 232 y).toInt.toNat = ll by omega]
      refine ⟨by omega, by omega, _, hB, pp, ll, ⟨by omega, by rw [r 231 (by decide)]; exact n1, by rw [r 232 (by decide)]; exact n2, by omega, n4⟩, g5, g6, XF_seg wX (by omega), ⟨rsv_F g4, fun x hx => rsv_V g4 x hx⟩, q3 h0 j _ (by omega) hB⟩
    · have := hcnt ((f8_tr ft wf).2 h0)
      exact ⟨by omega, this.2⟩
  unfold w_226_105
  refine ⟨fun hneg => fin (fun _ => ?_), fun hpos => ⟨fun hne => fin (fun q => absurd q hne), fun h0 => ?_⟩⟩
  · cases hdr : ys.drop k with
    | nil =>
      have := List.drop_eq_nil_iff.mp hdr
      omega
    | cons c cs' =>
      rw [hdr] at q2
      have : z5.toInt = (c : Int) := q2.1
      omega
  · cases hdr : ys.drop k with
    | nil =>
      rw [hdr] at q2
      have : z5.toInt = -1 := q2
      omega
    | cons y ys' =>
      rw [hdr] at q2
      have hz5 : z5.toInt = (y : Int) := q2.1
      have hck : ys[k]? = some y := by
        have := congrArg List.head? hdr
        rw [List.head?_drop] at this
        exact this
      have hdr' : ys.drop (k + 1) = ys' := by
        rw [drop_get hck] at hdr
        exact (List.cons.inj hdr).2
      have hkl : k < ys.length := by
        by_cases q : k < ys.length
        · exact q
        · rw [List.getElem?_eq_none (by omega)] at hck
          cases hck
      obtain ⟨g0, h', g1, g2, g3⟩ := y4 y (List.mem_of_getElem? hck)
      have hlt := isY_lt g3
      obtain ⟨pp, ll, g4, g5, g6⟩ := hrs (wf.2 h0) k y hck
      obtain ⟨n1, n2, n3, n4, n5, -⟩ := id g4
      have hYt : isY b n t 11 h' y := isY_tf Ft (isY_tf u1 (isY_tf c3 g3))
      have hYw : isY b n w 11 h' y := isY_tf tfw hYt
      have hRw : rsv w (vE G (scX G fo)) 11 y pp ll := rsv_eq hYt (fun z _ _ => ⟨by rw [r 231 (by decide)], by rw [r 232 (by decide)], by rw [r 224 (by decide)], fun _ => by rw [r 225 (by decide)]⟩) (fun i j1 j2 => wX.2.1 264 i (fun w => by omega) (fun w => by omega) (fun w => by omega)) g4
      refine Tot.imp (Tot.mono (by omega) (t211 Ww hP2 (by omega) hYw (by omega) hRw g6 hz5)) ?_
      rintro v w' ⟨rfl, wX', wf', o1⟩
      rw [XF_seg wX (by omega)] at o1
      rw [show z5.toInt.toNat = y by omega, XF_row wX' (show 225 ∉ [264, 265, 266, 267, 268] by decide), r 225 (by decide)]
      have hB : Bs[k]? = some (seg t pp ll) := by
        rw [hBs, List.getElem?_map, hck]
        show some (seg t (t.2.1 231 y).toInt.toNat (t.2.1 232 y).toInt.toNat) = _
        rw [show (t.2.1 231 y).toInt.toNat = pp by omega, show (t.2.1 232 y).toInt.toNat = ll by omega]
      refine ⟨rfl, by omega, ⟨rfl, rfl, rfl, rfl, XF_tr wX wX' (fun _ w => w) (Nat.le_refl _) (Nat.le_refl _), f8_tr wf wf', k + 1, by omega, by rw [hdr']; exact q2.2, fun q j B hj hB' => ?_⟩, ?_⟩
      · by_cases w : j = k
        · rw [w, hB] at hB'
          rw [← Option.some.inj hB']
          exact o1 q
        · exact q3 (wf'.2 q) j B (by omega) hB'
      · show (if (t.2.1 225 y).toInt < 0 then 0 else (13000 - (t.2.1 225 y).toInt).toNat + 1) < (if z5.toInt < 0 then 0 else (13000 - z5.toInt).toNat + 1)
        rw [if_neg hpos]
        cases ys' with
        | nil =>
          have : (t.2.1 225 y).toInt = -1 := q2.2
          rw [if_pos (by omega)]
          omega
        | cons y' ys'' =>
          have e' : (t.2.1 225 y).toInt = (y' : Int) := q2.2.1
          have hck' : ys[k + 1]? = some y' := by
            have := congrArg List.head? hdr'
            rw [List.head?_drop] at this
            exact this
          obtain ⟨-, h'', g1', -, g3'⟩ := y4 y' (List.mem_of_getElem? hck')
          have := isY_lt g3'
          have hlt' : y < y' := by
            obtain ⟨r3, r4⟩ := List.getElem?_eq_some_iff.mp hck
            obtain ⟨r5, r6⟩ := List.getElem?_eq_some_iff.mp hck'
            have := List.pairwise_iff_getElem.mp y3 k (k + 1) r3 r5 (by omega)
            rw [r4, r6] at this
            exact this
          rw [if_neg (by omega)]
          omega
/-- TYPES resolved, one by one -/
theorem m83 {d : Nat} {a1 a2 a3 a4 : Int32} (ih : TEH own b n W N T F H S0 G fo m d) (hd : 18 ≤ d) (hM : MS own b n W N T F H S0 G fo m p lo hi e a hm S O P E S1 O1 P1 A0 s s1) (hU : MU own b n W N T F H S0 G fo e E S1 O1 P1 O2 P2 ps ls x h cd A0 M As s1 u) (hY : MY b n m hi e hm ys cs s) (hcnt : (u.1 8).toInt = 0 → ys.length = ghn G h ∧ cs.length = gvn G h) (h1 : a1.toInt = (e : Int)) (h2 : a2.toInt = (ps : Int)) (h3 : a3.toInt = 204 * (b : Int) + (h : Nat)) (h4 : a4.toInt = (cd : Int)) : w_226_83 (Tot (d + 1)) a1 a2 a3 a4 u (MEQ b n H G fo m p lo hi e S O P E s) := by
  obtain ⟨y1, y2, y3, y4, y5, y6, y7⟩ := id hY
  obtain ⟨c1, c2, c3, c4, c5, c6, c7, c8, c9, c10, c11, c12, c13, c14, c15, c16, c17, c18, c19, c20⟩ := id hM
  obtain ⟨u1, u2, u3, u4, u5, u6, u7, u8, u9, u10, u11, u12, u13, u14, u15, u16, u17, u18, u19, u20⟩ := id hU
  obtain ⟨hb, hn, hT24, hF60, hH, gT', gF', hS8⟩ := TW_num u3
  obtain ⟨w1, w2, w3, w4, w5, w6, w7, w8, w9, w10, w11, w12, w13⟩ := id u3
  have hN := c2.2.2.1
  have hhN := c2.2.1
  have e1 : a1.toInt.toNat = e := by omega
  have ru : ∀ q, q ∉ [226, 230, 231, 232, 264, 265, 266, 267, 268, 270, 271, 272] → u.2.1 q = s.2.1 q := fun q hq => by rw [TF_row u1 hq, TF_row c3 hq]
  unfold w_226_83
  rw [e1]
  refine ⟨by omega, ?_⟩
  refine ⟨fun z1 z2 z3 z4 z5 w => z1 = a1 ∧ z2 = a2 ∧ z3 = a3 ∧ z4 = a4 ∧ TFr tK b (e + 1) hm S1 P2 E O2 u w ∧ f8 u w ∧ (∀ k, k ∉ [8, 65] → w.1 k = u.1 k) ∧ ∃ k S' pos : Nat, k ≤ ys.length ∧ chn s z5.toInt (ys.drop k) ∧ (w.1 65).toInt = (S' : Int) ∧ S1 ≤ S' ∧ S' ≤ S1 + (pos - (e + 1)) ∧ e + 1 ≤ pos ∧ pos ≤ hm ∧ (∀ (j y : Nat), k ≤ j → ys[j]? = some y → pos ≤ y) ∧ ((w.1 8).toInt = 0 → ∀ (j y : Nat), j < k → ys[j]? = some y → ∃ p l : Nat, rsv w (vE G (scX G fo)) 11 y p l ∧ 10 + 4100 * b ≤ p ∧ p + l ≤ S'), fun _ _ _ _ z5 _ => if z5.toInt < 0 then 0 else (13000 - z5.toInt).toNat + 1, ⟨rfl, rfl, rfl, rfl, TF_rf w1.2.2.2.2.1 w1.2.2.2.2.2.1, f8_rf w3, fun _ _ => rfl, 0, S1, e + 1, by omega, by rw [ru 229 (by decide)]; exact y1, w7, Nat.le_refl _, by omega, Nat.le_refl _, by omega, fun j y _ hj => (y4 y (List.mem_of_getElem? hj)).1, fun _ j y hj => by omega⟩, ?_⟩
  rintro z1 z2 z3 z4 z5 w ⟨v1, v2, v3, v4, wF, wf, wk, k, S', pos, q1, q2, q3, q4, q5, q6, q7, q8, q9⟩
  have v1 := v1.symm
  have v2 := v2.symm
  have v3 := v3.symm
  have v4 := v4.symm
  subst v1 v2 v3 v4
  have rw' : ∀ q, q ∉ [226, 230, 231, 232, 264, 265, 266, 267, 268, 270, 271, 272] → w.2.1 q = s.2.1 q := fun q hq => by rw [TF_row wF hq, ru q hq]
  have hzone : S' ≤ 10 + 4100 * (b + 1) := by clear ih hcnt q9 q8 y4 y7; have := c2.2.2.2.2.1; omega
  have Ww : TW own b n W N T F H S0 G fo S' O2 P2 E w := TW_fr u3 wF (by decide) (fun z z1 z2 => c2.2.2.2.1 z (by omega) (by omega)) wf.1 (by rw [wk 64 (by decide)]; exact w5) (by rw [wk 70 (by decide)]; exact w6) q3 (by rw [wk 85 (by decide)]; exact w8) q4 hzone (Nat.le_refl _) w13
  unfold w_226_88
  rw [e1]
  refine ⟨fun hneg => ⟨by omega, ?_⟩, fun hpos => ?_⟩
  · have ek : k = ys.length := by
      cases hdr : ys.drop k with
      | nil =>
        have := List.drop_eq_nil_iff.mp hdr
        omega
      | cons c cs' =>
        rw [hdr] at q2
        have : z5.toInt = (c : Int) := q2.1
        omega
    refine m105 ih hd hM hU hY hcnt wF wf Ww q4 (by clear ih hcnt q9 q8 y4 y7; omega) (fun h0 j y hj => q9 h0 j y ?_ hj) h1 h2 h3 h4
    by_cases q : j < ys.length
    · omega
    · rw [List.getElem?_eq_none (by omega)] at hj
      cases hj
  · cases hdr : ys.drop k with
    | nil =>
      rw [hdr] at q2
      have : z5.toInt = -1 := q2
      omega
    | cons y ys' =>
      rw [hdr] at q2
      have hz5 : z5.toInt = (y : Int) := q2.1
      have hck : ys[k]? = some y := by
        have := congrArg List.head? hdr
        rw [List.head?_drop] at this
        exact this
      have hdr' : ys.drop (k + 1) = ys' := by
        rw [drop_get hck] at hdr
        exact (List.cons.inj hdr).2
      have hkl : k < ys.length := by
        by_cases q : k < ys.length
        · exact q
        · rw [List.getElem?_eq_none (by omega)] at hck
          cases hck
      obtain ⟨g0, h', g1, g2, g3⟩ := y4 y (List.mem_of_getElem? hck)
      have hlt := isY_lt g3
      have hpy := q8 k y (Nat.le_refl _) hck
      have hYw : isY b n w 11 h' y := isY_tf wF (isY_tf u1 (isY_tf c3 g3))
      refine Tot.imp (Tot.mono (by omega) (t204 Ww hYw (by omega) hz5 (nu16 c6 q5 hpy q6 hlt g1 c14 c12 c2.2.2.2.2.1))) ?_
      rintro v w' ⟨rfl, F', f', kf', S'', k1, k2, k3, k4⟩
      have wF' : TFr tK b (e + 1) hm S1 P2 E O2 u w' := TF_tr wF F' (fun _ w => w) (by omega) g1 q4 (Nat.le_refl _) (Nat.le_refl _) (Nat.le_refl _)
      have r25 : w'.2.1 225 = s.2.1 225 := by rw [TF_row F' (by decide), rw' 225 (by decide)]
      rw [show z5.toInt.toNat = y by omega, r25]
      refine ⟨rfl, by omega, ⟨rfl, rfl, rfl, rfl, wF', f8_tr wf f', fun k hk => by rw [kf' k hk]; exact wk k hk, k + 1, S'', h', by omega, by rw [hdr']; exact q2.2, k1, by omega, nu15 (hm := hm) q5 hpy k3 q6 hlt, by omega, g1, fun j y' hj hy' => ?_, fun h0 j y' hj hy' => ?_⟩, ?_⟩
      · have hm' := List.mem_of_getElem? hy'
        refine g2 y' hm' ?_
        obtain ⟨r3, r4⟩ := List.getElem?_eq_some_iff.mp hck
        obtain ⟨r5, r6⟩ := List.getElem?_eq_some_iff.mp hy'
        have := List.pairwise_iff_getElem.mp y3 k j r3 r5 (by omega)
        rw [r4, r6] at this
        exact this
      · by_cases w : j = k
        · rw [w, hck] at hy'
          rw [← Option.some.inj hy']
          exact ⟨S', S'' - S', k4 h0, by omega, by omega⟩
        · obtain ⟨pp, ll, n1, n2, n3⟩ := q9 (f'.2 h0) j y' (by omega) hy'
          obtain ⟨-, hj', o1, o2, o3⟩ := y4 y' (List.mem_of_getElem? hy')
          have hlt' : y' < y := by
            obtain ⟨r3, r4⟩ := List.getElem?_eq_some_iff.mp hck
            obtain ⟨r5, r6⟩ := List.getElem?_eq_some_iff.mp hy'
            have := List.pairwise_iff_getElem.mp y3 j k r5 r3 (by omega)
            rw [r4, r6] at this
            exact this
          have hle := o2 y (List.mem_of_getElem? hck) hlt'
          refine ⟨pp, ll, rsv_eq (isY_tf wF (isY_tf u1 (isY_tf c3 o3))) (fun z z1 z2 => ⟨F'.2.1 231 z (fun w => by omega) (fun w => by omega) (fun w => by omega) (fun w => by omega) (fun w => by omega), F'.2.1 232 z (fun w => by omega) (fun w => by omega) (fun w => by omega) (fun w => by omega) (fun w => by omega), by rw [TF_row F' (by decide)], fun _ => by rw [TF_row F' (by decide)]⟩) (fun i j1 j2 => F'.2.1 264 i (fun w => by omega) (fun w => by omega) (fun w => by omega) (fun w => by omega) (fun w => by omega)) n1, n2, by omega⟩
      · show (if (s.2.1 225 y).toInt < 0 then 0 else (13000 - (s.2.1 225 y).toInt).toNat + 1) < (if z5.toInt < 0 then 0 else (13000 - z5.toInt).toNat + 1)
        rw [if_neg hpos]
        cases ys' with
        | nil =>
          have : (s.2.1 225 y).toInt = -1 := q2.2
          rw [if_pos (by omega)]
          omega
        | cons y' ys'' =>
          have e' : (s.2.1 225 y).toInt = (y' : Int) := q2.2.1
          have hck' : ys[k + 1]? = some y' := by
            have := congrArg List.head? hdr'
            rw [List.head?_drop] at this
            exact this
          obtain ⟨-, h'', g1', -, g3'⟩ := y4 y' (List.mem_of_getElem? hck')
          have := isY_lt g3'
          have hlt' : y < y' := by
            obtain ⟨r3, r4⟩ := List.getElem?_eq_some_iff.mp hck
            obtain ⟨r5, r6⟩ := List.getElem?_eq_some_iff.mp hck'
            have := List.pairwise_iff_getElem.mp y3 k (k + 1) r3 r5 (by omega)
            rw [r4, r6] at this
            exact this
          rw [if_neg (by omega)]
          omega
end TM6
