/-- the head is found; u the state then -/
def MU (own : Nat → Nat × Nat) (b n W N T F H S0 : Nat) (G : PG) (fo : Option Nat) (e E S1 O1 P1 O2 P2 ps ls x h cd : Nat) (A0 M : List Nat) (As : List (List Nat)) (s1 u : yS) : Prop := TFr tK b e (e + 1) S1 P1 E O1 s1 u ∧ f8 s1 u ∧ TW own b n W N T F H S0 G fo S1 O2 P2 E u ∧ O1 ≤ O2 ∧ O2 ≤ O1 + 60 ∧ P1 ≤ P2 ∧ P2 ≤ P1 + 66 ∧ (u.2.1 271 e).toInt = (O1 : Int) ∧ (u.2.1 272 e).toInt = (A0.length : Int) ∧ O1 + A0.length ≤ O2 ∧ sg u O1 A0.length = A0 ∧ midT G A0 M ∧ cutT M x As ∧ okE G (scX G fo) M ∧ x / 8 < gT G ∧ isHd G (x / 8) (u.2.1 217 (u.2.1 222 e).toInt.toNat).toInt h cd ∧ h < H ∧ seg u ps ls = M ∧ (ps + ls ≤ S1 ∨ 100000 ≤ ps) ∧ ps + ls ≤ P2
theorem nu12 {S S1 S2 e lo hm hi z : Nat} (h1 : S1 ≤ S + (e - lo)) (h2 : S2 ≤ S1 + (hm - e)) (h3 : lo ≤ e) (h4 : e ≤ hm) (h5 : hm ≤ hi) (h6 : S + (hi - lo) ≤ z) : S2 + (hi - hm) ≤ z := by omega
theorem nu13 {O O1 O2 c c' c'' d : Nat} (h1 : O1 ≤ O + 60 * c) (h2 : O2 ≤ O1 + 60) (h3 : 1 + d + 0 ≤ c') (h4 : c + c' = c'') {z : Nat} (h5 : O + 60 * c'' ≤ z) : O2 + 60 * d ≤ z := by omega
theorem nu14 {P2 P1 m : Nat} (h : P1 + 3000 * m ≤ 198600) (h3 : P2 ≤ P1 + 66) : P2 + 3000 * m ≤ 199000 := by omega
section TM5
variable {own : Nat → Nat × Nat} {b n W N T F H S0 : Nat} {G : PG} {fo : Option Nat} {m p lo hi e a hm S O P E S1 O1 P1 S2 O2 P2 ps ls x h cd : Nat} {A0 M : List Nat} {As Bs : List (List Nat)} {cs : List (Nat × Nat × Nat)} {ys : List Nat} {s s1 u t : yS}
theorem m119 {d : Nat} {a1 a2 a3 a4 a5 : Int32} (ih : TEH own b n W N T F H S0 G fo m d) (hd : 6 ≤ d) (hM : MS own b n W N T F H S0 G fo m p lo hi e a hm S O P E S1 O1 P1 A0 s s1) (hU : MU own b n W N T F H S0 G fo e E S1 O1 P1 O2 P2 ps ls x h cd A0 M As s1 u) (Ft : TFr tK b (e + 1) hm S1 P2 E O2 u t) (ft : f8 u t) (Wt : TW own b n W N T F H S0 G fo S2 O2 P2 E t) (k1 : S1 ≤ S2) (k2 : S2 ≤ S1 + (hm - e)) (hys : chn s (s.2.1 229 e).toInt ys) (hy6 : ys.length ≤ 6) (hpw : ys.Pairwise (· < ·)) (hyt : ∀ y ∈ ys, 4002 * (b : Int) ≤ (s.2.1 222 y).toInt ∧ (s.2.1 222 y).toInt < 4002 * (b : Int) + n) (hlen : ys.length = Bs.length) (hyw : (t.1 8).toInt = 0 → ∀ (k y : Nat), ys[k]? = some y → e < y ∧ y < hm ∧ ∃ B, Bs[k]? = some B ∧ wT G b (scX G fo) S2 t y B) (hcnt : (t.1 8).toInt = 0 → Bs.length = ghn G h ∧ cs.length = gvn G h) (l3 : chn s (s.2.1 224 e).toInt (cs.map (·.2.2))) (l4 : cs.Pairwise (fun a b => a.2.1 ≤ b.1)) (l5 : ∀ c ∈ cs, hm ≤ c.1 ∧ c.1 ≤ c.2.2 ∧ c.2.2 < c.2.1 ∧ c.2.1 ≤ hi ∧ isE b n s m c.1 c.2.1 c.2.2) (h1 : a1.toInt = (e : Int)) (h2 : a2.toInt = (ps : Int)) (h3 : a3.toInt = 204 * (b : Int) + (h : Nat)) (h4 : a4.toInt = (cd : Int)) : w_226_119 (Tot (d + 1)) a1 a2 a3 a4 a5 t (MEQ b n H G fo m p lo hi e S O P E s) := by
  obtain ⟨c1, c2, c3, c4, c5, c6, c7, c8, c9, c10, c11, c12, c13, c14, c15, c16, c17, c18, c19, c20⟩ := id hM
  obtain ⟨u1, u2, u3, u4, u5, u6, u7, u8, u9, u10, u11, u12, u13, u14, u15, u16, u17, u18, u19, u20⟩ := id hU
  obtain ⟨hb, hn, hT24, hF60, hH, gT', gF', hS8⟩ := TW_num Wt
  obtain ⟨w1, w2, w3, w4, w5, w6, w7, w8, w9, w10, w11, w12, w13⟩ := id Wt
  obtain ⟨d1, d2, d3, d4, d5, d6, d7, d8, d9, d10⟩ := id w1
  have hEE := c2.2.2.2.2.2.2.2
  have hlo0 := c2.1
  have hN := c2.2.2.1
  have hhN := c2.2.1
  have e1 : a1.toInt.toNat = e := by omega
  have hP1 := nu4 c2.2.2.2.2.2.2.1 c10 c11
  have hP2 : P2 ≤ 199600 := nu7 hP1 u7
  have Ft1 : TFr tK b e hm S1 P1 E O1 s1 t := TF_tr (TF_mo u1 (fun _ w => w) (Nat.le_refl _) (by omega) (Nat.le_refl _) (Nat.le_refl _) (Nat.le_refl _) (Nat.le_refl _)) Ft (fun _ w => w) (by omega) (Nat.le_refl _) (Nat.le_refl _) u6 (Nat.le_refl _) u4
  have ft1 : f8 s1 t := f8_tr u2 ft
  have hcM := cM_e c17 c13 (Nat.le_refl hm) c14
  have ec0 : cM s hm hm = 0 := by unfold cM; rw [Nat.sub_self]; rfl
  have rt : ∀ q, q ∉ [226, 230, 231, 232, 264, 265, 266, 267, 268, 270, 271, 272] → t.2.1 q = s.2.1 q := fun q hq => by rw [TF_row Ft1 hq, TF_row c3 hq]
  unfold w_226_119
  have t8 := ft.1
  refine ⟨fun hle => ?_, fun hgt => ⟨rfl, m_end hM (TF_mo Ft1 (fun _ w => w) (Nat.le_refl _) c14 (Nat.le_refl _) (Nat.le_refl _) (Nat.le_refl _) (Nat.le_refl _)) ft1 w5 w7 w8 k1 (by clear ih hyw hcnt l5 hyt; omega) u4 (by clear ih hyw hcnt l5 hyt; omega) u6 (Nat.le_trans u7 (Nat.add_le_add_left (by decide) _)) (fun q => absurd q (by omega))⟩⟩
  have h0 : (t.1 8).toInt = 0 := by omega
  have hyw := hyw h0
  obtain ⟨hB, hcs⟩ := hcnt h0
  clear hcnt
  have hcd : cd ≤ 10000 := by
    rcases u16 with ⟨-, k, q1, -, -, -, q2, -⟩ | ⟨-, j, q1, -, -, q2, -⟩
    · omega
    · omega
  have hx6 : x % 8 ≤ 6 := by
    rcases (okE_cut u13 u14).1 with w | w
    · have := (d9.2.1 _ w.1).1
      omega
    · omega
  have segM : seg t ps ls = M := by rw [TF_seg Ft u19 u20 hb]; exact u18
  refine Tot.imp (Tot.mono (by omega) (s_188 (d := 0) w6 (by omega))) ?_
  rintro v s6 ⟨rfl, x8, hx8, rfl⟩
  refine ⟨_, rfl, ?_⟩
  refine Tot.mono (show 0 + 2 ≤ d + 1 by omega) (nenvw (e := 0) (P := P2) (E := E) (p := ps) (l := ls) (x := x) (As := As) (c := cd) d5 d6 w6 (by omega) (by rw [segM]; exact u13.1) u13.2.1 u13.2.2 (by rw [u13.2.2]; exact hx6) u20 (by omega) hcd hx8 h2 h4 (fun t1 tX t70 tV tlo => ⟨rfl, ?_⟩))
  obtain ⟨b1, hb1⟩ : ∃ b1, b1 = (t1.2.1 265 (2 * E + 1)).toInt.toNat := ⟨_, rfl⟩
  rw [← hb1] at tV
  have tl := EVl_of (S := S2) tV tlo (by omega)
  have r1 : ∀ q, q ∉ [264, 265, 266, 267, 268] → t1.2.1 q = t.2.1 q := fun q hq => XF_row tX hq
  have e229 : t1.2.1 229 e = s.2.1 229 e := by rw [r1 229 (by decide), rt 229 (by decide)]
  rw [e1, e229]
  refine ⟨by omega, ?_⟩
  have t175 : (t1.1 75).toInt = (b : Int) := by rw [tX.1 75 (by decide)]; exact d7
  have seg1 : ∀ {p l}, p + l ≤ P2 → seg t1 p l = seg t p l := fun hh => XF_seg tX hh
  have chy : chn t1 (s.2.1 229 e).toInt ys := chn_row (by rw [r1 225 (by decide), rt 225 (by decide)]) _ _ hys
  refine Tot.imp (Tot.mono (by omega) (s_227 (d := 0) (b := b) (e := E) (hh := h) (top := P2) (ys := ys) (Bs := Bs) hb t175 w6 (by omega) h3 (by omega) chy hlen hy6 (fun k y hk => ?_))) ?_
  · obtain ⟨q1, q2, B, q3, pp, ll, q4, q5, q6, q7, q8, q9⟩ := hyw k y hk
    have q44 := q4.2.2.2.1
    refine ⟨pp, ll, NY_xf q4 tX, ?_, ?_, by omega⟩
    · rw [seg1 (by omega), q7]; exact q3
    · rw [seg1 (by omega), q7]; exact q8.1
  rintro v t2 ⟨rfl, hGF, hEV2, hc67⟩
  have cell : ∀ q i, ¬ ((q = 265 ∨ q = 266) ∧ i = 2 * E + 1) → ¬ ((q = 267 ∨ q = 268) ∧ 12 * E + 6 ≤ i ∧ i < 12 * E + 12) → t2.2.1 q i = t1.2.1 q i := fun q i w1 w2 => hGF.2.1 q i (fun w => by omega)
  have X2 : XF [70] P2 E t t2 := by
    refine ⟨fun k hk => by rw [hGF.1]; exact tX.1 k hk, fun q i w1 w2 w3 => ?_, by rw [hGF.2.2]; exact tX.2.2.1, fun i => by rw [cell 264 i (fun w => by omega) (fun w => by omega)]; exact tX.2.2.2.1 i, fun i => ?_⟩
    · rw [cell q i (fun w => w2 ⟨w.1, by omega⟩) (fun w => w3 ⟨w.1, by omega⟩)]
      exact tX.2.1 q i w1 w2 w3
    · by_cases w : i = 2 * E + 1
      · rw [w]
        have := hEV2.1
        omega
      · rw [cell 265 i (fun w' => w w'.2) (fun w => by omega)]
        exact tX.2.2.2.2 i
  have r2 : ∀ q, q ∉ [264, 265, 266, 267, 268] → t2.2.1 q = t.2.1 q := fun q hq => XF_row X2 hq
  have t270 : (t2.1 70).toInt = (E : Int) + 1 := by rw [hGF.1]; exact t70
  have F2 : TFr (70 :: tK) b e hm S1 P1 E O1 s1 t2 := TF_tr (TF_mo Ft1 (by decide) (Nat.le_refl _) (Nat.le_refl _) (Nat.le_refl _) (Nat.le_refl _) (Nat.le_refl _) (Nat.le_refl _)) (TF_xf (b := b) (lo := e) (hi := hm) (S := S2) (O := O2) X2) (by decide) (Nat.le_refl _) (Nat.le_refl _) k1 u6 (Nat.le_refl _) u4
  have e8 : t2.1 8 = t.1 8 := X2.1 8 (by decide)
  have W2 : TW own b n W N T F H S0 G fo S2 O2 P2 (E + 1) t2 := TW_fr Wt (TF_xf (b := b) (lo := e) (hi := e) (S := S2) (O := O2) X2) (by decide) (fun z z1 z2 => by omega) (by rw [e8]; exact w3) (by rw [X2.1 64 (by decide)]; exact w5) (by omega) (by rw [X2.1 65 (by decide)]; exact w7) (by rw [X2.1 85 (by decide)]; exact w8) (Nat.le_refl _) w11 (Nat.le_refl _) w13
  have ca : CA b n e hm S2 O2 t t2 := ⟨fun q hq y _ _ => by rw [r2 q (by clear r2 r1 rt hyt l5 hpw; revert q; decide)], fun t' _ _ => by rw [r2 217 (by decide)], fun j j1 j2 => X2.2.1 264 j (fun w => by omega) (fun w => by omega) (fun w => by omega), fun j _ _ => by rw [r2 270 (by decide)]⟩
  have hV2 : EV t2 E P2 cd As (2000 + 6 * h) Bs := ⟨EVg_mv tV.1 (cell _ _ (fun w => by omega) (fun w => by omega)) (cell _ _ (fun w => by omega) (fun w => by omega)) (fun a ha => ⟨cell _ _ (fun w => by omega) (fun w => by omega), cell _ _ (fun w => by omega) (fun w => by omega)⟩) (fun j _ => cell _ _ (fun w => by omega) (fun w => by omega)) u20, hEV2⟩
  have hl2 : EVl S2 t2 E As Bs := by
    refine ⟨fun a A hA => ?_, fun a A hA => ?_⟩
    · have : a < 6 := by
        have h6 := tV.1.2.2.1
        by_cases q : a < As.length
        · omega
        · rw [List.getElem?_eq_none (by omega)] at hA
          cases hA
      rw [cell 267 (12 * E + a) (fun w => by omega) (fun w => by omega)]
      exact tl.1 a A hA
    · have hal : a < Bs.length := by
        by_cases q : a < Bs.length
        · exact q
        · rw [List.getElem?_eq_none (by omega)] at hA
          cases hA
      obtain ⟨y, hy⟩ : ∃ y, ys[a]? = some y := ⟨ys[a]'(by omega), List.getElem?_eq_getElem (by omega)⟩
      obtain ⟨q1, q2, B, q3, pp, ll, q4, q5, q6, q7, q8, q9⟩ := hyw a y hy
      rw [hA] at q3
      have q3 : A = B := Option.some.inj q3
      rw [hc67 a y hy, r1 231 (by decide), q3, ← q7, seg_len]
      have := q4.2.1
      omega
  have hX : ME own b n W N T F H S0 G fo m hi e hm E S1 O1 P1 S2 O2 P2 ps ls x h cd A0 M As Bs cs s1 t2 := by
    have r3 : ∀ q, q ∉ [226, 230, 231, 232, 264, 265, 266, 267, 268, 270, 271, 272] → t2.2.1 q = s.2.1 q := fun q hq => by rw [r2 q (fun w => hq (by clear hq; revert q; decide)), rt q hq]
    have re : ∀ q, q = 271 ∨ q = 272 → t2.2.1 q e = u.2.1 q e := fun q hq => by
      rw [r2 q (by rcases hq with w | w <;> rw [w] <;> decide)]
      exact Ft.2.1 q e (fun w => by omega) (fun w => by omega) (fun w => by omega) (fun w => by omega) (fun w => by omega)
    have r3u : ∀ q, q ∉ [226, 230, 231, 232, 264, 265, 266, 267, 268, 270, 271, 272] → u.2.1 q = s.2.1 q := fun q hq => by rw [TF_row u1 hq, TF_row c3 hq]
    have ecM2 : cM t2 = cM s := by funext lo hi; exact cM_eq (r3 221 (by decide))
    refine ⟨F2, f8_tr ft1 (f8_eq ft1.1 e8), W2, k1, k2, u4, u5, u6, u7, by rw [re 271 (Or.inl rfl)]; exact u8, by rw [re 272 (Or.inr rfl)]; exact u9, u10, ?_, u12, u13, u14, u15, by rw [r3 217 (by decide), r3 222 (by decide), ← r3u 217 (by decide), ← r3u 222 (by decide)]; exact u16, u17, ⟨ys, ?_, hlen, fun k y hk => ?_⟩, fun B hB' => ?_, hB, hcs, ?_, ⟨by omega, hhN, hN, fun z z1 z2 => c2.2.2.2.1 z (by omega) z2, nu12 c6 k2 c12 (by omega) c14 c2.2.2.2.2.1, ?_, nu14 hP1 u7, by omega, fun c hc => ?_, l4⟩, hV2, hl2⟩
    · rw [sg_eq (s := u) (fun i i1 i2 => ?_)]
      · exact u11
      · rw [r2 270 (by decide)]
        exact Ft.2.1 270 i (fun w => by omega) (fun w => by omega) (fun w => by omega) (fun w => by omega) (fun w => by omega)
    · rw [r3 229 (by decide)]
      exact chn_row (r3 225 (by decide)) _ _ hys
    · obtain ⟨q1, q2, B, q3, q4⟩ := hyw k y hk
      exact ⟨q1, q2, B, q3, wT_eq ca (Nat.le_refl _) (by omega) q2 q4⟩
    · obtain ⟨k, hk⟩ := List.getElem?_of_mem hB'
      have hal : k < Bs.length := by
        by_cases q : k < Bs.length
        · exact q
        · rw [List.getElem?_eq_none (by omega)] at hk
          cases hk
      obtain ⟨y, hy⟩ : ∃ y, ys[k]? = some y := ⟨ys[k]'(by omega), List.getElem?_eq_getElem (by omega)⟩
      obtain ⟨q1, q2, B', q3, pp, ll, q4, q5, q6, q7, q8, q9⟩ := hyw k y hy
      rw [hk] at q3
      rw [Option.some.inj q3]
      exact q8
    · rw [r3 224 (by decide)]
      exact chn_row (r3 225 (by decide)) _ _ l3
    · rw [ecM2]
      exact nu13 c8 u5 (cM_e c17 c13 c14 (Nat.le_refl _)) (cM_add c12 (by omega)) c2.2.2.2.2.2.1
    · obtain ⟨z1, z2, z3, z4, z5⟩ := l5 c hc
      exact ⟨z1, z2, z3, z4, isE_tf F2 (isE_tf c3 z5)⟩
  have r4 : ∀ q, q ∉ [226, 230, 231, 232, 264, 265, 266, 267, 268, 270, 271, 272] → t2.2.1 q = s.2.1 q := fun q hq => by rw [r2 q (fun w => hq (by clear hq; revert q; decide)), rt q hq]
  refine ⟨rfl, by omega, ?_⟩
  refine m147 ih hd hM hX (fun zs hzs => ?_) h1 h3 w6
  rw [r4 229 (by decide)] at hzs
  have hzs' : chn s (s.2.1 229 e).toInt zs := chn_row (s := t2) (by rw [r4 225 (by decide)]) _ _ hzs
  rw [chn_inj hzs' hys, r4 222 (by decide)]
  exact ⟨hpw, hyt⟩
end TM5
