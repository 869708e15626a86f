/-! ===== funcOf, evalCall ===== -/
theorem s_246 {d b F k : Nat} {a1 : Int32} {s : yS} (hb : b < 2) (h75 : (s.1 75).toInt = (b : Int)) (hF : F ≤ 60) (hk : k < F) (h1 : (s.2.1 257 (60 * b + k)).toInt = a1.toInt) (hu : ∀ f, f < F → (s.2.1 257 (60 * b + f)).toInt = a1.toInt → f = k) : Tot (d + 1) 246 [.ref 213, .int a1] s (fun v s' => s' = s ∧ ∃ x : Int32, v = some (.int x) ∧ x.toInt = 60 * (b : Int) + k) := by
  refine t_246 ?_
  unfold w_246_0
  refine ⟨by omega, fun x1 hx1 => ?_⟩
  refine ⟨fun z1 z2 t => z1 = a1 ∧ t = s ∧ ∃ j : Nat, z2.toInt = 60 * (b : Int) + j ∧ j ≤ k, fun _ z2 _ => (1000 - z2.toInt).toNat, ⟨rfl, rfl, 0, by omega, by omega⟩, ?_⟩
  rintro z1 z2 t ⟨y1, y2, j, j1, j2⟩
  have y1 := y1.symm
  have y2 := y2.symm
  subst y1 y2
  unfold w_246_5
  rw [show z2.toInt.toNat = 60 * b + j by omega]
  refine ⟨by omega, fun heq => ⟨rfl, z2, rfl, ?_⟩, fun hne => ⟨by omega, fun x1 hx1 => ⟨⟨rfl, rfl, j + 1, by omega, ?_⟩, by show (1000 - x1.toInt).toNat < (1000 - z2.toInt).toNat; omega⟩⟩⟩
  · have := hu j (by omega) heq
    omega
  · by_cases w : j = k
    · rw [w] at hne
      exact absurd h1 hne
    · omega
theorem hd_no {G : PG} {c h cd : Nat} {w : Int} (a : isHd G c w h cd) (n : noHd G c w) : False := by
  rcases a with ⟨a0, k, a1, a2, a3, -⟩ | ⟨a0, k, a1, a2, a3, -⟩
  · rcases n with ⟨-, n⟩ | ⟨n, -⟩
    · exact n k a1 ⟨a2, a3⟩
    · exact a0 n
  · rcases n with ⟨n, -⟩ | ⟨-, n⟩
    · exact n a0
    · exact n k a1 (by rw [← a2]; exact a3)
section EC
variable {own : Nat → Nat × Nat} {b n W N T F H S0 : Nat} {G : PG} {S O E pl plx c Vn vt L : Nat} {s : yS}
theorem s_245 {d e w0 v kf g t : Nat} {Vs Ds : List (List Nat)} {Ar : List Nat} {wd : Int} {a1 a2 a3 : Int32} (ih : REH own b n W N T F H S0 G S O (c + 1) 11 d) (hd : 4 ≤ d) (hR : RTm own b n W N T F H S0 G S O (E + 1) plx c Vn vt L s) (hc : c < 40) (h93 : (s.1 93).toInt + 1 ≤ (L : Int)) (hE : E ≤ c + 1) (hplx : pl < plx ∧ plx ≤ pl + 7) (hpl : plx + 77 + 80 * (39 - c) ≤ 4000) (hN : N ≤ 12006) (he : e < 12006) (h1 : a1.toInt = (e : Int)) (h2 : a2.toInt = (pl : Int)) (h3 : a3.toInt = (E : Int)) (ht : (s.2.1 222 e).toInt = (t : Int)) (ht2 : t < 12006) (hwd : (s.2.1 217 t).toInt = wd)
    (h278 : (s.2.1 278 pl).toInt = (w0 : Int)) (hw0 : w0 < Vn) (hcV : cutT (VT s w0) v Vs) (f1 : kf < F) (f2 : g = gfh G kf) (f4 : isHd G (v / 8) wd g (4000 + 6 * kf)) (hvT : v / 8 < gT G) (hDs : (s.2.1 266 (2 * E + 1)).toInt = (Ds.length : Int)) (hD6 : Ds.length ≤ 6) (hDc : ∀ (a : Nat) (A : List Nat), Ds[a]? = some A → isF 1 A ∧ ∃ q : Nat, (s.2.1 267 (12 * E + 6 + a)).toInt = (q : Int) ∧ (s.2.1 268 (12 * E + 6 + a)).toInt = (A.length : Int) ∧ seg s q A.length = A ∧ q + A.length ≤ vt)
    (hτ : wEnv G (scHg G g) (envS (4000 + 6 * kf) Vs (2000 + 6 * g) Ds)) (hthis : subs (envS (4000 + 6 * kf) Vs (2000 + 6 * g) Ds) (thisT G kf) = VT s w0) (hres : subs (envS (4000 + 6 * kf) Vs (2000 + 6 * g) Ds) (ght G g) = Ar) (hpx : plx = pl + 1 + gvn G g) (hpa : ∀ j, j < gvn G g → ∃ w : Nat, (s.2.1 278 (pl + 1 + j)).toInt = (w : Int) ∧ w < Vn ∧ impl G (VT s w) (subs (envS (4000 + 6 * kf) Vs (2000 + 6 * g) Ds) (gvt G g j))) : Tot (d + 1) 245 [.ref 213, .int a1, .int a2, .int a3] s (fun v s' => ∃ r : Int32, v = some (.int r) ∧ 0 ≤ r.toInt ∧ RX rK E plx Vn vt s s' ∧ ∃ Vn' vt' L' : Nat, RTm own b n W N T F H S0 G S O (E + 1) plx c Vn' vt' L' s' ∧ Vn ≤ Vn' ∧ vt ≤ vt' ∧ L ≤ L' ∧ (r.toInt = 0 → ∃ w : Nat, (s'.1 102).toInt = (w : Int) ∧ w < Vn' ∧ impl G (VT s' w) Ar)) := by
  have hv := RT_vt hR
  obtain ⟨r1, r2, r3, r4, r5, r6, r7, r8, r9, r10, r11, r12, r13, r14, r15, r16, r17, r18, r19⟩ := id hR
  obtain ⟨d1, d2, d3, d4, d5, d6, d7, d8, d9, d10⟩ := id r1
  obtain ⟨hb, hn, hT24, hF60, hH, r33, r52, hA⟩ := id d1
  have gg := pgA d1
  rw [d8] at gg
  obtain ⟨gT', gF', -, -, -, -, gg7⟩ := gg
  obtain ⟨w1, w2, w3, w4⟩ := d9.2.2.2.2.2.2.1 kf (by omega)
  obtain ⟨p, l, xv, Av, v1, v2, v3, v4, v5, v6, v7, v8, v9, v10⟩ := r17 w0 hw0
  have eVT : VT s w0 = seg s p l := by unfold VT; rw [show (s.2.1 275 w0).toInt.toNat = p by omega, show (s.2.1 276 w0).toInt.toNat = l by omega]
  have n57 : ∀ f, f < F → (s.2.1 257 (60 * b + f)).toInt = 204 * (b : Int) + (gfh G f : Int) := fun f hf => by
    have := (hA.2.2.1 f hf).2.1
    rw [(gg7 f hf).2.1]
    unfold nT
    omega
  have hv6 := (d9.2.2.1 g (by rw [f2]; exact w1)).2
  have e1 : a1.toInt.toNat = e := by omega
  have e2 : a2.toInt.toNat = pl := by omega
  refine t_245 ?_
  unfold w_245_0
  rw [e1, e2, show (s.2.1 278 pl).toInt.toNat = w0 by omega, show (s.2.1 222 e).toInt.toNat = t by omega]
  refine ⟨by omega, by omega, by omega, by omega, ?_⟩
  have hcut := hcV
  rw [eVT] at hcut
  refine Tot.imp (Tot.mono (by omega) (s_193 (e := 0) (H := H) (p := p) (c := v / 8) d1 d5 d7 v1 (by omega) (by rw [(cut_len hcut).2]) (by omega) d3)) ?_
  rintro vv u ⟨X, Y, rfl, r, rfl, hr⟩
  rw [d8, hwd] at hr
  obtain ⟨-, h', cd', q1, q2, q3, q4⟩ := hr.resolve_right (fun w => hd_no f4 w.2.2)
  clear hr
  obtain ⟨e3, e4⟩ := isHd_inj q4 f4
  subst e3 e4
  refine ⟨r, rfl, ?_⟩
  obtain ⟨u, hu⟩ : ∃ u, u = sf (sf s 73 X) 74 Y := ⟨_, rfl⟩
  rw [← hu]
  have u2 : u.2 = s.2 := by rw [hu]; rfl
  have uk : ∀ k, ¬ k = 73 → ¬ k = 74 → u.1 k = s.1 k := fun k k1 k2 => by rw [hu, sf_1, if_neg k2, sf_1, if_neg k1]
  have u73 : u.1 73 = X := by rw [hu]; rfl
  have u74 : u.1 74 = Y := by rw [hu]; rfl
  clear hu
  rw [u73]
  refine Tot.imp (Tot.mono (by omega) (s_246 (d := 0) (b := b) (F := F) (k := kf) (a1 := X) hb (by rw [uk 75 (by decide) (by decide)]; exact d7) hF60 f1 (by rw [u2, n57 kf f1]; omega) (fun f hf heq => ?_))) ?_
  · rw [u2, n57 f hf] at heq
    exact d9.2.2.2.2.2.2.2.1 f kf (by omega) (by omega) (by omega)
  rintro vv u' ⟨es, x6, rfl, hx6⟩
  have es := es.symm
  subst es
  refine ⟨x6, rfl, ?_⟩
  rw [u74]
  have segu : seg u p l = seg s p l := seg_2 u2
  have hV6 : Vs.length ≤ 6 := by
    rw [hcut.2.2]
    rcases (okE_cut hcut v6).1 with z | z
    · have := (d9.2.1 _ z.1).1
      omega
    · omega
  refine Tot.imp (Tot.mono (by omega) (s_189 (d := 0) (e := E) (g := 0) (c := 4000 + 6 * kf) (p := p) (l := l) (P := vt) (x := v) (As := Vs) (fun i => by rw [u2]; exact d5 i) h3 (by omega) (by decide) (by decide) q3 v1 (by rw [segu]; exact hcut.1) hcut.2.1 hcut.2.2 hV6 v3.1 (by omega))) ?_
  rintro vv z ⟨rfl, hGF, hEV⟩
  refine ⟨rfl, ?_⟩
  have z75 : (z.1 75).toInt = (b : Int) := by rw [hGF.1, uk 75 (by decide) (by decide)]; exact d7
  have z73 : (z.1 73).toInt = 204 * (b : Int) + h' := by rw [hGF.1, u73]; exact q2
  refine ⟨by omega, fun y9 hy9 => ⟨by omega, fun y10 hy10 => ⟨by omega, fun y11 hy11 => ⟨by omega, fun y12 hy12 => ⟨by omega, fun y13 hy13 => ⟨by omega, fun y14 hy14 => ⟨by omega, ?_⟩⟩⟩⟩⟩⟩⟩
  rintro s15 rfl
  rw [show y10.toInt.toNat = 2 * E + 1 by omega]
  have p106 : (sa z 265 (2 * E + 1) y14).1 106 = s.1 106 := by show z.1 106 = _; rw [hGF.1, uk 106 (by decide) (by decide)]
  rw [p106]
  refine ⟨by omega, ?_⟩
  rintro x16 hx16 s17 rfl
  have p93 : (sf (sa z 265 (2 * E + 1) y14) 106 x16).1 93 = s.1 93 := by show z.1 93 = _; rw [hGF.1, uk 93 (by decide) (by decide)]
  rw [p93]
  refine ⟨by omega, ?_⟩
  rintro x18 hx18 s19 rfl
  obtain ⟨f, hf⟩ : ∃ f, f = sf (sf (sa z 265 (2 * E + 1) y14) 106 x16) 93 x18 := ⟨_, rfl⟩
  rw [← hf]
  have zc : ∀ q i, ¬ ((q = 265 ∨ q = 266) ∧ i = 2 * E) → ¬ ((q = 267 ∨ q = 268) ∧ 12 * E ≤ i ∧ i < 12 * E + 6) → z.2.1 q i = s.2.1 q i := fun q i w1 w2 => by rw [hGF.2.1 q i (fun w => by omega), u2]
  have fc : ∀ q i, ¬ (q = 265 ∧ i = 2 * E + 1) → f.2.1 q i = z.2.1 q i := fun q i w => by
    rw [hf]
    show (sa z 265 (2 * E + 1) y14).2.1 q i = _
    rw [sa_2, if_neg w]
  have f265 : (f.2.1 265 (2 * E + 1)).toInt = ((2000 + 6 * h' : Nat) : Int) := by
    rw [hf]
    show ((sa z 265 (2 * E + 1) y14).2.1 265 (2 * E + 1)).toInt = _
    rw [sa_2, if_pos ⟨rfl, rfl⟩]
    omega
  have fk : ∀ k, k ∉ [73, 74, 93, 106] → f.1 k = s.1 k := fun k hk => by
    rw [hf, sf_1, if_neg (fun w => hk (by rw [w]; decide)), sf_1, if_neg (fun w => hk (by rw [w]; decide))]
    show z.1 k = _
    rw [hGF.1, uk k (fun w => hk (by rw [w]; decide)) (fun w => hk (by rw [w]; decide))]
  have f106 : (f.1 106).toInt = ((c + 1 : Nat) : Int) := by rw [hf]; show x16.toInt = _; omega
  have f93 : (f.1 93).toInt = (s.1 93).toInt + 1 := by rw [hf]; exact hx18
  have fl : f.2.2 = s.2.2 := by rw [hf]; show z.2.2 = _; rw [hGF.2.2, u2]
  clear hf
  have fX : RX [73, 74, 93, 106] E plx Vn vt s f := by
    refine ⟨fk, fun q i _ c2 c3 _ _ _ => ?_, fl, fun i => by rw [fc 264 i (fun w => by omega), zc 264 i (fun w => by omega) (fun w => by omega)]; exact d5 i, fun i => ?_⟩
    · rw [fc q i (fun w => c2 ⟨Or.inl w.1, by omega⟩), zc q i (fun w => c2 ⟨w.1, by omega⟩) (fun w => c3 ⟨w.1, by omega⟩)]
    · by_cases w : i = 2 * E + 1
      · rw [w]; omega
      · rw [fc 265 i (fun w' => w w'.2)]
        by_cases w' : i = 2 * E
        · rw [w']
          have := hEV.1
          rw [show 2 * E + 0 = 2 * E from rfl] at this
          omega
        · rw [zc 265 i (fun w'' => w' w''.2) (fun w => by omega)]
          exact d6 i
  have fR : RTm own b n W N T F H S0 G S O (E + 1) plx (c + 1) Vn vt L f := RT_rx hR fX (by decide) (by rw [fk 70 (by decide)]; exact r4) (by rw [fk 105 (by decide)]; exact r5) f106 (by rw [fk 98 (by decide)]; exact r7) (by rw [fk 97 (by decide)]; exact r8) (by rw [fk 95 (by decide)]; exact r9) (by rw [fk 96 (by decide)]; exact r11) (by rw [fk 94 (by decide)]; exact r12) (by rw [f93]; omega) (Nat.le_refl _) (Nat.le_refl _) r16 (by omega)
  have fVT : ∀ w, w < Vn → VT f w = VT s w := fun w hw => RX_VT fX hw (r17 w hw) (by omega)
  have fseg : ∀ {p l}, p + l ≤ vt → seg f p l = seg s p l := fun hh => RX_seg fX hh (by omega)
  have fV : EV f E vt (4000 + 6 * kf) Vs (2000 + 6 * h') Ds := by
    refine ⟨EVg_mv (s := z) hEV (fc _ _ (fun w => by omega)) (fc _ _ (fun w => by omega)) (fun a ha => ⟨fc _ _ (fun w => by omega), fc _ _ (fun w => by omega)⟩) (fun j _ => fc _ _ (fun w => by omega)) (Nat.le_refl _), f265, ?_, hD6, fun a A hA => ?_⟩
    · rw [fc 266 _ (fun w => by omega), zc 266 _ (fun w => by omega) (fun w => by omega)]
      exact hDs
    · have ha : a < 6 := by
        by_cases q : a < Ds.length
        · omega
        · rw [List.getElem?_eq_none (by omega)] at hA
          cases hA
      obtain ⟨k1, q, k2, k3, k4, k5⟩ := hDc a A hA
      rw [show 6 * (2 * E + 1) + a = 12 * E + 6 + a by omega]
      refine ⟨k1, q, ?_, ?_, by rw [fseg k5]; exact k4, k5⟩
      · rw [fc 267 _ (fun w => by omega), zc 267 _ (fun w => by omega) (fun w => by omega)]
        exact k2
      · rw [fc 268 _ (fun w => by omega), zc 268 _ (fun w => by omega) (fun w => by omega)]
        exact k3
  have f278 : ∀ i, f.2.1 278 i = s.2.1 278 i := fun i => by rw [fc 278 i (fun w => by omega), zc 278 i (fun w => by omega) (fun w => by omega)]
  have hVst := VOK_vSt (r17 w0 hw0)
  have fC : RCx G (some kf) (E + 1) plx Vn vt pl E (4000 + 6 * kf) Vs (2000 + 6 * h') Ds f := by
    refine ⟨by omega, fV, by show wEnv G (scHg G (gfh G kf)) _; rw [← f2]; exact hτ, fun k A hA => ?_⟩
    have htv : tVX G (some kf) k = if k = 0 then some (thisT G kf) else if k - 1 < gvn G (gfh G kf) then some (gvt G (gfh G kf) (k - 1)) else none := rfl
    rw [htv, ← f2] at hA
    split at hA
    · rename_i hk0
      refine ⟨by omega, w0, by rw [hk0, f278]; exact h278, hw0, ?_⟩
      rw [← Option.some.inj hA, hthis, fVT w0 hw0]
      obtain ⟨-, x0, A0', c0, -, s0⟩ := hVst
      exact ⟨x0, A0', c0, Or.inl ⟨Or.inr s0, rfl⟩⟩
    · rename_i hk0
      split at hA
      · rename_i hk1
        obtain ⟨w, z1, z2, z3⟩ := hpa (k - 1) hk1
        rw [show pl + 1 + (k - 1) = pl + k by omega] at z1
        refine ⟨by omega, w, by rw [f278]; exact z1, z2, ?_⟩
        rw [← Option.some.inj hA, fVT w z2]
        exact z3
      · cases hA
  obtain ⟨eb, lb, hb', Ab, b1, b2, b3, b4, b5⟩ := fR.2.2.1 kf f1
  rw [show x6.toInt.toNat = 60 * b + kf by omega]
  refine ⟨by omega, ?_⟩
  refine Tot.imp (ih f _ a2 a3 (some kf) lb hb' eb pl E (4000 + 6 * kf) (2000 + 6 * h') (E + 1) plx Vn vt L Vs Ds Ab fR fC (fun f' hf' => by cases hf'; exact f1) b4 b3 hN (by omega) (by omega) b1 h2 h3) ?_
  rintro vv s20 ⟨x22, rfl, g0, X20, Vn', vt', L', R20, g1, g2, g3, g4⟩
  obtain ⟨m1, m2, m3, m4, m5, m6, m7, m8, m9, m10, m11, m12, m13, m14, m15, m16, m17, m18, m19⟩ := id R20
  have hv2 := RT_vt R20
  refine ⟨x22, rfl, by omega, ?_⟩
  rintro x23 hx23 s24 rfl
  have sX : RX rK E plx Vn vt s (sf s20 106 x23) := RX_sf (RX_tr (RX_mo fX (by decide) (Nat.le_refl _) (Nat.le_refl _) (Nat.le_refl _) (Nat.le_refl _)) X20 (fun _ w => w) (by omega) (Nat.le_refl _) (Nat.le_refl _) (Nat.le_refl _)) (by decide)
  have R24 : RTm own b n W N T F H S0 G S O (E + 1) plx c Vn' vt' L' (sf s20 106 x23) := RT_rx R20 (RX_sf (k := 106) (v := x23) (RX_rf (ks := [106]) (E := E + 1) (pl := plx) (Vn := Vn') (vt := vt') m1.2.2.2.2.1 m1.2.2.2.2.2.1) (by decide)) (by decide) m4 m5 (by show x23.toInt = _; omega) m7 m8 m9 m11 m12 m13 (Nat.le_refl _) (Nat.le_refl _) m16 (by omega)
  refine ⟨x22, rfl, g0, sX, Vn', vt', L', R24, g1, g2, g3, fun hr => ?_⟩
  obtain ⟨w, z1, z2, z3⟩ := g4 hr
  refine ⟨w, z1, z2, ?_⟩
  have eV2 : VT (sf s20 106 x23) w = VT s20 w := by
    unfold VT
    exact seg_2 (s := s20) rfl
  rw [eV2, ← hres]
  have okAb : okE G (scHg G h') Ab := by
    have b4' := b4
    rw [show scX G (some kf) = scHg G h' by show scHg G (gfh G kf) = _; rw [← f2]] at b4'
    obtain ⟨pp, -, hh⟩ := b4'
    exact (wEp_ok hh).1
  rw [← f2] at b5
  exact impl_sub d9 (scC_h d9 (by rw [f2]; exact w1)) hτ okAb (d9.2.2.2.2.2.1 h' (by rw [f2]; exact w1)).2.2.1 b5 (VOK_vSt (m17 w z2)) z3
end EC
