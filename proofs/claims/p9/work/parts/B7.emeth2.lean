/-! ===== evalMethod: its TYPES ===== -/
section EM2
variable {own : Nat → Nat × Nat} {b n W N T F H S0 : Nat} {G : PG} {S O E pl plx c Vn vt L Vn' vt' L' : Nat} {s u w : yS} {fo : Option Nat} {ev b0 b1 : Nat} {As Bs Zs : List (List Nat)} {ys : List Nat}
/-- j of the TYPES are put -/
def MEI (own : Nat → Nat × Nat) (b n W N T F H S0 : Nat) (G : PG) (S O E plx c Vn' vt' L' : Nat) (τ : Nat → Option (List Nat)) (Zs : List (List Nat)) (ys : List Nat) (r0 : Int) (u : yS) (j : Nat) (x en : Int) (w : yS) : Prop := ∃ vt2 L2 : Nat, RX rK7 E plx Vn' vt' u w ∧ RTm own b n W N T F H S0 G S O (E + 1) plx c Vn' vt2 L2 w ∧ vt' ≤ vt2 ∧ L' ≤ L2 ∧ j ≤ Zs.length ∧ (w.2.1 266 (2 * E + 1)).toInt = (j : Int) ∧ 0 ≤ en ∧ (en = 0 → r0 = 0 ∧ chn u x (ys.drop j) ∧ ∀ (a : Nat) (B : List Nat), a < j → Zs[a]? = some B → ∃ q : Nat, (w.2.1 267 (12 * E + 6 + a)).toInt = (q : Int) ∧ (w.2.1 268 (12 * E + 6 + a)).toInt = ((subs τ B).length : Int) ∧ seg w q (subs τ B).length = subs τ B ∧ q + (subs τ B).length ≤ vt2)
theorem MEI_step {d j y : Nat} {x : Int} {B : List Nat} {r0 : Int} {a1 a2 : Int32} (hR : RTm own b n W N T F H S0 G S O E plx c Vn' vt' L' u) (hev : ev < E) (hEV : EV u ev vt' b0 As b1 Bs) (hτ : wEnv G (scX G fo) (envS b0 As b1 Bs)) (hE : E ≤ 41) (hZ : Zs.length ≤ 6) (hI : MEI own b n W N T F H S0 G S O E plx c Vn' vt' L' (envS b0 As b1 Bs) Zs ys r0 u j x 0 w) (hy : ys[j]? = some y) (hB : Zs[j]? = some B) (hw : wT G b (scX G fo) S u y B) (h1 : a1.toInt = (y : Int)) (h2 : a2.toInt = (ev : Int)) : Tot (d + 3) 239 [.ref 213, .int a1, .int a2] w (fun v s1 => ∃ r : Int32, v = some (.int r) ∧ (s1.2.1 266 (2 * E + 1)).toInt = (j : Int) ∧ s1.2.1 225 = u.2.1 225 ∧ ∀ x12 : Int32, x12.toInt = (j : Int) + 1 → MEI own b n W N T F H S0 G S O E plx c Vn' vt' L' (envS b0 As b1 Bs) Zs ys r0 u (j + 1) (u.2.1 225 y).toInt r.toInt (sa (sa (sa s1 267 (12 * E + 6 + j) (s1.1 107)) 268 (12 * E + 6 + j) (s1.1 108)) 266 (2 * E + 1) x12)) := by
  obtain ⟨τ, hτe⟩ : ∃ τ, τ = envS b0 As b1 Bs := ⟨_, rfl⟩
  have hv := RT_vt hR
  obtain ⟨vt2, L2, wX, wR, k1, k2, k3, k4, -, k5⟩ := hI
  obtain ⟨k6, k7, k8⟩ := k5 rfl
  clear k5
  have hv2 := RT_vt wR
  have hjl : j < Zs.length := by
    by_cases q : j < Zs.length
    · exact q
    · rw [List.getElem?_eq_none (by omega)] at hB
      cases hB
  have wS : S ≤ 8210 := wR.2.2.2.2.2.2.2.2.2.2.2.2.2.2.2.2.2.1
  have h13 := wR.2.2.2.2.2.2.2.2.2.2.2.2.2.2.1
  have h13' := hR.2.2.2.2.2.2.2.2.2.2.2.2.2.2.1
  have wB' : wT G b (scX G fo) S w y B := wT_eq (lo := y) (hi := y + 1) (RX_CA (b := b) (n := n) (S := S) (O := O) wX (by omega) (by omega)) (Nat.le_refl _) (Nat.le_refl _) (by omega) hw
  have wV : EV w ev vt2 b0 As b1 Bs := RX_EV hEV wX hev (by omega) k1
  refine Tot.imp (s_239 (d := d) wR (by omega) wB' h1 h2 (by omega) wV hτ) ?_
  rintro v s1 ⟨r, rfl, sX, vt3, L3, sR, g1, g2, g3, g4, -⟩
  rw [← hτe] at g4 k8 ⊢
  have hv3 := RT_vt sR
  obtain ⟨q1, q2, q3, q4, q5, q6, q7, q8, q9, q10, q11, q12, q13, q14, q15, q16, q17, q18, q19⟩ := id sR
  have low : ∀ q i, ((q = 265 ∨ q = 266) ∧ i < 2 * (E + 1)) ∨ ((q = 267 ∨ q = 268) ∧ i < 12 * (E + 1)) → s1.2.1 q i = w.2.1 q i := fun q i hq => sX.2.1 q i (fun w => by omega) (fun w => by omega) (fun w => by omega) (fun w => by omega) (fun w => by omega) (fun w => by omega)
  refine ⟨r, rfl, by rw [low 266 (2 * E + 1) (by omega)]; exact k4, by rw [RX_row sX (by decide), RX_row wX (by decide)], fun x12 hx12 => ?_⟩
  obtain ⟨f, hf⟩ : ∃ f, f = sa (sa (sa s1 267 (12 * E + 6 + j) (s1.1 107)) 268 (12 * E + 6 + j) (s1.1 108)) 266 (2 * E + 1) x12 := ⟨_, rfl⟩
  rw [← hf]
  have fc : ∀ q i, ¬ (q = 266 ∧ i = 2 * E + 1) → ¬ ((q = 267 ∨ q = 268) ∧ i = 12 * E + 6 + j) → f.2.1 q i = s1.2.1 q i := fun q i w1 w2 => by
    rw [hf, sa_2, if_neg w1, sa_2, if_neg (fun w => w2 ⟨Or.inr w.1, w.2⟩), sa_2, if_neg (fun w => w2 ⟨Or.inl w.1, w.2⟩)]
  have f6 : f.2.1 266 (2 * E + 1) = x12 := by rw [hf, sa_2, if_pos ⟨rfl, rfl⟩]
  have f7 : f.2.1 267 (12 * E + 6 + j) = s1.1 107 := by
    rw [hf, sa_2, if_neg (fun w => by omega), sa_2, if_neg (fun w => by omega), sa_2, if_pos ⟨rfl, rfl⟩]
  have f8' : f.2.1 268 (12 * E + 6 + j) = s1.1 108 := by
    rw [hf, sa_2, if_neg (fun w => by omega), sa_2, if_pos ⟨rfl, rfl⟩]
  have f1 : f.1 = s1.1 := by rw [hf]; rfl
  have fl : f.2.2 = s1.2.2 := by rw [hf]; rfl
  clear hf
  have fX : RX rK7 E plx Vn' vt3 s1 f := by
    refine ⟨fun k _ => by rw [f1], fun q i _ c2 c3 _ _ _ => fc q i (fun w => c2 ⟨Or.inr w.1, by omega⟩) (fun w => c3 ⟨w.1, by omega⟩), fl, fun i => ?_, fun i => ?_⟩
    · rw [fc 264 i (fun w => by omega) (fun w => by omega)]
      exact sX.2.2.2.1 i
    · rw [fc 265 i (fun w => by omega) (fun w => by omega)]
      exact sX.2.2.2.2 i
  have fR : RTm own b n W N T F H S0 G S O (E + 1) plx c Vn' vt3 L3 f := RT_rx sR fX (by decide) (by rw [f1]; exact q4) (by rw [f1]; exact q5) (by rw [f1]; exact q6) (by rw [f1]; exact q7) (by rw [f1]; exact q8) (by rw [f1]; exact q9) (by rw [f1]; exact q11) (by rw [f1]; exact q12) (by rw [f1]; exact q13) (Nat.le_refl _) (Nat.le_refl _) q16 q19
  have sX' : RX rK7 E plx Vn' vt2 w s1 := RX_mo sX (by decide) (by omega) (Nat.le_refl _) (Nat.le_refl _) (Nat.le_refl _)
  refine ⟨vt3, L3, RX_tr wX (RX_tr sX' fX (fun _ w => w) (Nat.le_refl _) (Nat.le_refl _) (Nat.le_refl _) g1) (fun _ w => w) (Nat.le_refl _) (Nat.le_refl _) (Nat.le_refl _) k1, fR, by omega, by omega, by omega, by rw [f6]; omega, g3, fun hr => ⟨k6, ?_, fun a B' ha hB' => ?_⟩⟩
  · have hd := drop_get hy
    rw [hd] at k7
    exact k7.2
  · by_cases ea : a = j
    · subst ea
      have eB : B' = B := Option.some.inj (hB'.symm.trans hB)
      subst eB
      obtain ⟨p, p1, p2, p3, p4, p5⟩ := g4 hr
      refine ⟨p, by rw [f7]; exact p1, by rw [f8']; exact p2, ?_, p4.1⟩
      rw [RX_seg fX p4.1 (by omega)]
      exact p5
    · obtain ⟨q, z1, z2, z3, z4⟩ := k8 a B' (by omega) hB'
      refine ⟨q, ?_, ?_, ?_, by omega⟩
      · rw [fc 267 _ (fun w => by omega) (fun w => by omega), low 267 _ (by omega)]
        exact z1
      · rw [fc 268 _ (fun w => by omega) (fun w => by omega), low 268 _ (by omega)]
        exact z2
      · rw [RX_seg fX (by omega) (by omega), RX_seg sX (by omega) (by omega)]
        exact z3
/-- from the new env to the end; u the state once all arguments are on the pile -/
theorem me52 {d e w0 v kf g t hm : Nat} {Vs : List (List Nat)} {wd : Int} {A : List Nat} {a1 a2 a3 a4 a5 a6 : Int32} (ih : REH own b n W N T F H S0 G S O (c + 1) 11 d) (hd : 4 ≤ d) (h70 : (s.1 70).toInt = (E : Int)) (hX : RX rK E pl Vn vt s u) (hR : RTm own b n W N T F H S0 G S O E plx c Vn' vt' L' u) (hE : E ≤ c + 1) (hplx : pl < plx ∧ plx ≤ pl + 7) (hpl : c < 40 → plx + 77 + 80 * (39 - c) ≤ 4000) (hN : N ≤ 12006) (he : e < 12006) (hhm : hm ≤ 12006) (h1 : a1.toInt = (e : Int)) (h3 : a3.toInt = (ev : Int)) (h4 : a4.toInt = (pl : Int)) (h5 : 0 ≤ a5.toInt) (hV : Vn ≤ Vn') (hv : vt ≤ vt') (hL : L ≤ L') (hev : ev < E) (hEV : EV u ev vt' b0 As b1 Bs) (hτ : wEnv G (scX G fo) (envS b0 As b1 Bs)) (hY : wY G b (scX G fo) S u (u.2.1 229 e).toInt e hm Zs) (hZ : Zs.length ≤ 6)
    (ht : (u.2.1 222 e).toInt = (t : Int)) (ht2 : t < 12006) (hwd : (u.2.1 217 t).toInt = wd) (h278 : (u.2.1 278 pl).toInt = (w0 : Int)) (hw0 : w0 < Vn') (hcV : cutT (VT u w0) v Vs) (f1 : kf < F) (f2 : g = gfh G kf) (f4 : isHd G (v / 8) wd g (4000 + 6 * kf)) (hvT : v / 8 < gT G) (hZF : ∀ B ∈ Zs, isF 1 (subs (envS b0 As b1 Bs) B)) (hτ2 : wEnv G (scHg G g) (envS (4000 + 6 * kf) Vs (2000 + 6 * g) (Zs.map (subs (envS b0 As b1 Bs))))) (hthis : subs (envS (4000 + 6 * kf) Vs (2000 + 6 * g) (Zs.map (subs (envS b0 As b1 Bs)))) (thisT G kf) = VT u w0) (hres : subs (envS (4000 + 6 * kf) Vs (2000 + 6 * g) (Zs.map (subs (envS b0 As b1 Bs)))) (ght G g) = subs (envS b0 As b1 Bs) A)
    (hpx : a5.toInt = 0 → plx = pl + 1 + gvn G g ∧ ∀ j, j < gvn G g → ∃ w : Nat, (u.2.1 278 (pl + 1 + j)).toInt = (w : Int) ∧ w < Vn' ∧ impl G (VT u w) (subs (envS (4000 + 6 * kf) Vs (2000 + 6 * g) (Zs.map (subs (envS b0 As b1 Bs)))) (gvt G g j))) : w_244_52 (Tot (d + 1)) a1 a2 a3 a4 a5 a6 u (EvQ own b n W N T F H S0 G S O E pl c Vn vt L (envS b0 As b1 Bs) A s) := by
  have hvu := RT_vt hR
  have h13 := hR.2.2.2.2.2.2.2.2.2.2.2.2.2.2.1
  have hc40 := hR.2.2.2.2.2.2.2.2.2.2.2.2.2.2.2.2.2.2
  obtain ⟨r1, r2, r3, r4, r5, r6, r7, r8, r9, r10, r11, r12, r13, r14, r15, r16, r17, r18, r19⟩ := id hR
  obtain ⟨ys, y1, y2, y3⟩ := hY
  unfold w_244_52
  refine Tot.imp (Tot.mono (by omega) (s_188 (d := 0) r4 (by omega))) ?_
  rintro v' u1 ⟨rfl, x, hx, hu1⟩
  refine ⟨u.1 70, rfl, by omega, ?_⟩
  rw [show a1.toInt.toNat = e by omega]
  have uc : ∀ q i, ¬ (q = 266 ∧ 2 * E ≤ i) → u1.2.1 q i = u.2.1 q i := fun q i w => by
    rw [hu1]
    show (sa (sa u 266 (2 * E) 0) 266 (2 * E + 1) 0).2.1 q i = _
    rw [sa_2, if_neg (fun w' => w ⟨w'.1, by omega⟩), sa_2, if_neg (fun w' => w ⟨w'.1, by omega⟩)]
  have u6 : (u1.2.1 266 (2 * E + 1)).toInt = 0 := by
    rw [hu1]
    show ((sa (sa u 266 (2 * E) 0) 266 (2 * E + 1) 0).2.1 266 (2 * E + 1)).toInt = 0
    rw [sa_2, if_pos ⟨rfl, rfl⟩]
    decide
  have uk : ∀ k, ¬ k = 70 → u1.1 k = u.1 k := fun k hk => by
    rw [hu1, sf_1, if_neg hk]
    rfl
  have u70 : (u1.1 70).toInt = ((E + 1 : Nat) : Int) := by
    rw [hu1]
    show x.toInt = _
    omega
  have ul : u1.2.2 = u.2.2 := by rw [hu1]; rfl
  clear hu1
  have uX : RX rK7 E plx Vn' vt' u u1 := ⟨fun k hk => uk k (fun w => hk (by rw [w]; decide)), fun q i _ c2 _ _ _ _ => uc q i (fun w => c2 ⟨Or.inr w.1, by omega⟩), ul, fun i => by rw [uc 264 i (fun w => by omega)]; exact r1.2.2.2.2.1 i, fun i => by rw [uc 265 i (fun w => by omega)]; exact r1.2.2.2.2.2.1 i⟩
  have u1R : RTm own b n W N T F H S0 G S O (E + 1) plx c Vn' vt' L' u1 := RT_rx hR uX (by decide) u70 (by rw [uk 105 (by decide)]; exact r5) (by rw [uk 106 (by decide)]; exact r6) (by rw [uk 98 (by decide)]; exact r7) (by rw [uk 97 (by decide)]; exact r8) (by rw [uk 95 (by decide)]; exact r9) (by rw [uk 96 (by decide)]; exact r11) (by rw [uk 94 (by decide)]; exact r12) (by rw [uk 93 (by decide)]; exact r13) (Nat.le_refl _) (Nat.le_refl _) r16 r19
  rw [uc 229 e (fun w => by omega)]
  refine ⟨fun z1 z2 z3 z4 z5 z6 z7 w => z1 = a1 ∧ z3 = a3 ∧ z4 = a4 ∧ z6 = u.1 70 ∧ ∃ j : Nat, MEI own b n W N T F H S0 G S O E plx c Vn' vt' L' (envS b0 As b1 Bs) Zs ys a5.toInt u j z7.toInt z5.toInt w, fun _ _ _ _ _ _ _ w => (20 - (w.2.1 266 (2 * E + 1)).toInt).toNat, ⟨rfl, rfl, rfl, rfl, 0, vt', L', uX, u1R, Nat.le_refl _, Nat.le_refl _, by omega, u6, h5, fun h0 => ⟨h0, y1, fun a B ha => by omega⟩⟩, ?_⟩
  rintro z1 z2 z3 z4 z5 z6 z7 w ⟨e1, e3, e4, e6, j, hI⟩
  have e1 := e1.symm
  have e3 := e3.symm
  have e4 := e4.symm
  have e6 := e6.symm
  subst e1 e3 e4 e6
  obtain ⟨vt2, L2, wX, wR, k1, k2, k3, k4, k5, k6⟩ := id hI
  have hv2 := RT_vt wR
  have swX : RX rK7 E pl Vn vt s w := RX_tr (RX_mo hX (ks := rK7) (fun k hk => List.mem_cons_of_mem _ hk) (Nat.le_refl _) (Nat.le_refl _) (Nat.le_refl _) (Nat.le_refl _)) wX (fun _ w => w) (Nat.le_refl _) (by omega) hV hv
  have fin : (z5.toInt = 0 → j = Zs.length) → w_244_115 (Tot (d + 1)) a1 z2 a3 a4 z5 (u.1 70) z7 w (EvQ own b n W N T F H S0 G S O E pl c Vn vt L (envS b0 As b1 Bs) A s) := by
    intro hend
    refine me115 (w0 := w0) (v := v) (kf := kf) (g := g) (t := t) (Vs := Vs) (Ds := Zs.map (subs (envS b0 As b1 Bs))) (wd := wd) ih hd h70 swX wR hE hplx hpl hN he h1 h4 k5 r4 hV (by omega) (by omega) (fun h0 => ?_)
    have ej := hend h0
    obtain ⟨k7, k8, k9⟩ := k6 h0
    obtain ⟨p1, p2⟩ := hpx k7
    have VTw : ∀ z, z < Vn' → VT w z = VT u z := fun z hz => RX_VT wX hz (r17 z hz) (by omega)
    have c278 : ∀ i, i < plx → w.2.1 278 i = u.2.1 278 i := fun i hi => wX.2.1 278 i (fun w => by omega) (fun w => by omega) (fun w => by omega) (fun w => by omega) (fun w => by omega) (fun w => by omega)
    refine ⟨by rw [RX_row wX (by decide)]; exact ht, ht2, by rw [RX_row wX (by decide)]; exact hwd, by rw [c278 pl hplx.1]; exact h278, hw0, by rw [VTw w0 hw0]; exact hcV, f1, f2, f4, hvT, by rw [List.length_map]; omega, by rw [List.length_map]; exact hZ, fun a A' hA' => ?_, hτ2, by rw [VTw w0 hw0]; exact hthis, hres, p1, fun i hi => ?_⟩
    · rw [List.getElem?_map] at hA'
      obtain ⟨B, b1', b2'⟩ := Option.map_eq_some_iff.mp hA'
      rw [← b2']
      have hal : a < Zs.length := by
        by_cases q : a < Zs.length
        · exact q
        · rw [List.getElem?_eq_none (by omega)] at b1'
          cases b1'
      obtain ⟨q, q1, q2, q3, q4⟩ := k9 a B (by omega) b1'
      exact ⟨hZF B (List.mem_of_getElem? b1'), q, q1, q2, q3, q4⟩
    · obtain ⟨z, z1', z2', z3'⟩ := p2 i hi
      refine ⟨z, by rw [c278 _ (by omega)]; exact z1', z2', ?_⟩
      rw [VTw z z2']
      exact z3'
  unfold w_244_60
  refine ⟨fun hneg => fin (fun h0 => ?_), fun hpos => ⟨fun hne => fin (fun q => absurd q hne), fun h0 => ?_⟩⟩
  · obtain ⟨-, k8, -⟩ := k6 h0
    cases hdr : ys.drop j with
    | nil =>
      have := List.drop_eq_nil_iff.mp hdr
      omega
    | cons q ys' =>
      rw [hdr] at k8
      have : z7.toInt = (q : Int) := k8.1
      omega
  · obtain ⟨-, k8, -⟩ := k6 h0
    cases hdr : ys.drop j with
    | nil =>
      rw [hdr] at k8
      have : z7.toInt = -1 := k8
      omega
    | cons q ys' =>
      rw [hdr] at k8
      have hz7 : z7.toInt = (q : Int) := k8.1
      have hyj : ys[j]? = some q := by
        have := congrArg List.head? hdr
        rw [List.head?_drop] at this
        exact this
      obtain ⟨c1, c2, B, c3, c4⟩ := y3 j q hyj
      rw [h0] at hI
      have hjl : j < Zs.length := by
        by_cases q : j < Zs.length
        · exact q
        · rw [List.getElem?_eq_none (by omega)] at c3
          cases c3
      refine Tot.imp (Tot.mono (by omega) (MEI_step (d := 0) hR hev hEV hτ (by omega) hZ hI hyj c3 c4 hz7 h3)) ?_
      rintro v' s1 ⟨x3, rfl, n1, n2, n3⟩
      refine ⟨x3, rfl, by omega, fun x4 hx4 => ⟨by omega, fun x5 hx5 => ⟨by omega, fun x6 hx6 => ⟨by omega, ?_⟩⟩⟩⟩
      rw [show x5.toInt.toNat = 2 * E + 1 by omega]
      refine ⟨by omega, fun x7 hx7 => ⟨by omega, ?_⟩⟩
      rintro s8 rfl
      rw [show x7.toInt.toNat = 12 * E + 6 + j by omega]
      have e66 : (sa s1 267 (12 * E + 6 + j) (s1.1 107)).2.1 266 (2 * E + 1) = s1.2.1 266 (2 * E + 1) := by rw [sa_2, if_neg (fun w => by omega)]
      rw [e66]
      refine ⟨by omega, fun x9 hx9 => ⟨by omega, by omega, fun x10 hx10 => ⟨by omega, ?_⟩⟩⟩
      rintro s11 rfl
      rw [show x10.toInt.toNat = 12 * E + 6 + j by omega]
      have e66' : (sa (sa s1 267 (12 * E + 6 + j) (s1.1 107)) 268 (12 * E + 6 + j) ((sa s1 267 (12 * E + 6 + j) (s1.1 107)).1 108)).2.1 266 (2 * E + 1) = s1.2.1 266 (2 * E + 1) := by rw [sa_2, if_neg (fun w => by omega), e66]
      rw [e66']
      refine ⟨by omega, by omega, fun x12 hx12 => ⟨by omega, ?_⟩⟩
      rintro s13 rfl
      have n4 := n3 x12 (by omega)
      obtain ⟨f, hf⟩ : ∃ f, f = sa (sa (sa s1 267 (12 * E + 6 + j) (s1.1 107)) 268 (12 * E + 6 + j) (s1.1 108)) 266 (2 * E + 1) x12 := ⟨_, rfl⟩
      have hf' : sa (sa (sa s1 267 (12 * E + 6 + j) (s1.1 107)) 268 (12 * E + 6 + j) ((sa s1 267 (12 * E + 6 + j) (s1.1 107)).1 108)) 266 (2 * E + 1) x12 = f := by rw [hf]; rfl
      rw [hf']
      rw [← hf] at n4
      have f25 : f.2.1 225 = u.2.1 225 := by
        rw [← n2]
        funext i
        rw [hf, sa_2, if_neg (fun w => by omega), sa_2, if_neg (fun w => by omega), sa_2, if_neg (fun w => by omega)]
      have f66 : (f.2.1 266 (2 * E + 1)).toInt = (j : Int) + 1 := by
        rw [hf, sa_2, if_pos ⟨rfl, rfl⟩]
        omega
      clear hf hf'
      rw [f25, show z7.toInt.toNat = q by omega]
      refine ⟨by omega, ⟨rfl, rfl, rfl, rfl, j + 1, n4⟩, ?_⟩
      show (20 - (f.2.1 266 (2 * E + 1)).toInt).toNat < (20 - (w.2.1 266 (2 * E + 1)).toInt).toNat
      omega
end EM2
