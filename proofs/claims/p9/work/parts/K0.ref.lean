/-! ===== the reference, between calls ===== -/
def xRr : List Nat := [214, 264, 265, 266, 267, 268, 269, 275, 276, 277, 278, 279, 280, 281, 282, 283, 284, 285, 286, 287]
theorem nd_xR : ∀ q ∈ ndB, q ∉ xRr := by decide
theorem wR_xR : ∀ q ∈ wR, q ∉ xRr := by decide
theorem tb_xR : ∀ q ∈ tbR, q ∉ xRr := by decide
/-- a program stays where its rows do -/
theorem GPx_x {b : Nat} {s s' : yS} (h : GPx b s) (hF : ∀ q, q ∉ xRr → s'.2.1 q = s.2.1 q) (h264 : ∀ i, i < 8210 → s'.2.1 264 i = s.2.1 264 i) (hl : s'.2.2 = s.2.2) (hT : TYN s') (hG : GC s') (h75 : s'.1 75 = s.1 75) : GPx b s' := by
  obtain ⟨own, n, W, N, T, F, H, S0, G, S, O, k1, k2, k3, k4, k5, k6, k7, k8, k9⟩ := h
  obtain ⟨d1, d2, d3, d4, d5, d6, d7, d8, d9, d10⟩ := id k1
  have hb := d1.1
  have nd : ∀ q, q ∈ ndB → ∀ x, s'.2.1 q x = s.2.1 q x := fun q hq x => by rw [hF q (nd_xR q hq)]
  have ty : ∀ j, j < 8210 → s'.2.1 264 j = s.2.1 264 j := h264
  have ca : ∀ l h, 4002 * b ≤ l → h ≤ N → CA b n l h S O s s' := by
    intro l h h1 h2
    exact ⟨fun q hq x x1 x2 => by rw [hF q (wR_xR q hq)], fun t t1 t2 => by rw [hF 217 (by decide)], fun j j1 j2 => ty j (by omega), fun j j1 j2 => by rw [hF 270 (by decide)]⟩
  refine ⟨own, n, W, N, T, F, H, S0, G, S, O, CK_eq k1 ⟨fun t t1 t2 => ⟨by rw [hF 215 (by decide)], by rw [hF 217 (by decide)]⟩, fun x x1 x2 => ⟨⟨nd _ (by decide) x, nd _ (by decide) x, nd _ (by decide) x, nd _ (by decide) x, nd _ (by decide) x, nd _ (by decide) x, fun _ => nd _ (by decide) x, fun _ => nd _ (by decide) x⟩, nd _ (by decide) x, nd _ (by decide) x⟩, fun p i hp i1 i2 => by rw [hF p (tb_xR p hp)]⟩ (fun y y1 y2 _ => ⟨by rw [hF 231 (by decide)], by rw [hF 232 (by decide)]⟩) (fun j hj => ty j (by omega)) (fun i i1 i2 => by rw [hF 261 (by decide)]) hT hG (by rw [h75]; exact d7), Lx_eq k2 (hF 215 (by decide)) (hF 216 (by decide)) (hF 217 (by decide)), PT_ca k3 (fun f hf => by rw [hF 258 (by decide)]) ca, MN_ca k4 (by rw [hF 259 (by decide)]) (by rw [hF 274 (by decide)]) (fun i i1 i2 => by rw [hF 273 (by decide)]) ca, k5, k6, k7, by rw [hF 220 (by decide)]; exact k8, by rw [hl]; exact k9⟩
/-- values, and where their TYPES stand -/
def VS2 (b T Vn : Nat) (s : yS) : Prop := T ≤ 24 ∧ VSy b T Vn s ∧ ∀ v, v < Vn → ∃ p l : Nat, (s.2.1 275 v).toInt = (p : Int) ∧ (s.2.1 276 v).toInt = (l : Int) ∧ p + l ≤ 20000 ∧ ((10 + 4100 * b ≤ p ∧ p + l ≤ 10 + 4100 * (b + 1)) ∨ 13000 ≤ p)
theorem VS2_fr {b T Vn : Nat} {s s' : yS} (h : VS2 b T Vn s) (h5 : ∀ v, v < Vn → s'.2.1 275 v = s.2.1 275 v ∧ s'.2.1 276 v = s.2.1 276 v ∧ ∀ k, k < 6 → s'.2.1 277 (6 * v + k) = s.2.1 277 (6 * v + k)) (h9 : ∀ i, 24 * b ≤ i → i < 24 * b + 24 → s'.2.1 239 i = s.2.1 239 i) (h4 : ∀ i, ((10 + 4100 * b ≤ i ∧ i < 10 + 4100 * (b + 1)) ∨ (13000 ≤ i ∧ i < 20000)) → s'.2.1 264 i = s.2.1 264 i) : VS2 b T Vn s' := by
  obtain ⟨h24, ⟨g1, g2⟩, g3⟩ := h
  refine ⟨h24, ⟨g1, fun v hv => ?_⟩, fun v hv => ?_⟩
  · obtain ⟨p, l, x, As, q1, q2, q3, q4, q5, q6, q7, q8, q9⟩ := g2 v hv
    obtain ⟨p', l', r1, r2, r3, r4⟩ := g3 v hv
    obtain rfl : p = p' := by omega
    obtain rfl : l = l' := by omega
    obtain ⟨e1, e2, e3⟩ := h5 v hv
    have es : seg s' p l = seg s p l := seg_eq (fun i i1 i2 => h4 i (by omega))
    have hx : x / 8 < T := q6 x (by rw [q5.1]; exact List.mem_cons_self)
    have e9 : s'.2.1 239 (24 * b + x / 8) = s.2.1 239 (24 * b + x / 8) := h9 _ (by omega) (by omega)
    refine ⟨p, l, x, As, by rw [e1]; exact q1, by rw [e2]; exact q2, q3, q4, by rw [es]; exact q5, by rw [es]; exact q6, by rw [e9]; exact q7, by rw [e9]; exact q8, fun k hk => ?_⟩
    rw [e9] at hk
    rw [e3 k (by omega)]
    exact q9 k hk
  · obtain ⟨p, l, r1, r2, r3, r4⟩ := g3 v hv
    obtain ⟨e1, e2, -⟩ := h5 v hv
    exact ⟨p, l, by rw [e1]; exact r1, by rw [e2]; exact r2, r3, r4⟩
theorem RT_VS2 {own : Nat → Nat × Nat} {b n W N T F H S0 : Nat} {G : PG} {S O E pl c Vn vt L : Nat} {s : yS} (h : RTm own b n W N T F H S0 G S O E pl c Vn vt L s) (hS : S ≤ 10 + 4100 * (b + 1)) : VS2 b T Vn s := by
  obtain ⟨r1, r2, r3, r4, r5, r6, r7, r8, r9, r10, r11, r12, r13, r14, r15, r16, r17, r18, r19⟩ := h
  obtain ⟨d1, d2, d3, d4, d5, d6, d7, d8, d9, d10⟩ := r1
  obtain ⟨hb, hn, hT24, hF60, hH, r33, r52, hA⟩ := d1
  have gTe : gT G = T := by
    rw [← d8]
    show (s.2.1 233 b).toInt.toNat = T
    omega
  refine ⟨hT24, ⟨by omega, fun v hv => ?_⟩, fun v hv => ?_⟩
  · obtain ⟨p, l, x, As, q1, q2, ⟨q3, q3'⟩, q4, q5, q6, q7, q8, q9, q10⟩ := r17 v hv
    have hxT : x / 8 < T := by rw [← gTe]; exact q7
    have hR := hA.1 (x / 8) hxT
    obtain ⟨-, -, -, -, -, -, m1, m2, -⟩ := hR
    have gfe : gfd G (x / 8) = (s.2.1 239 (24 * b + x / 8)).toInt.toNat := by
      rw [← d8]
      show pgT s b 239 (x / 8) = _
      unfold pgT nT
      rw [if_pos (by omega)]
    refine ⟨p, l, x, As, q1, q2, by omega, q4, q5, fun y hy => ?_, m1, m2, fun k hk => ?_⟩
    · rcases q6.2 y hy with w | w
      · rw [← gTe]
        exact w.1
      · exact absurd w.2.2 id
    · obtain ⟨w, w1, w2, -⟩ := q10 k (by rw [gfe]; omega)
      exact ⟨w, w1, by omega⟩
  · obtain ⟨p, l, x, As, q1, q2, ⟨q3, q3'⟩, q4, -⟩ := r17 v hv
    exact ⟨p, l, q1, q2, by omega, by omega⟩
/-- what holds between calls -/
def RIv (s : yS) : Prop := ∃ nb : Nat, nb < 2 ∧ (s.1 29).toInt = (nb : Int) ∧ TYN s ∧ GC s ∧ (0 ≤ (s.1 2).toInt ∧ (s.1 2).toInt ≤ 4000) ∧ (0 ≤ (s.1 94).toInt ∧ (s.1 94).toInt ≤ 60000) ∧ sOK s ∧ (0 ≤ (s.1 112).toInt ∧ (s.1 112).toInt ≤ 150) ∧ (¬ (s.1 90).toInt = 0 → GPx nb s ∧ (s.1 75).toInt = (nb : Int) ∧ ((s.1 91).toInt = 0 → ∃ T Vn w : Nat, (s.2.1 233 nb).toInt = (T : Int) ∧ VS2 nb T Vn s ∧ (s.1 103).toInt = (w : Int) ∧ w < Vn)) ∧ (0 ≤ (s.1 109).toInt → RLk s)
theorem RLk_eq {s s' : yS} (h : RLk s) (h1 : s'.1 112 = s.1 112) (h2 : s'.2.1 282 = s.2.1 282) (h3 : s'.2.1 283 = s.2.1 283) : RLk s' := by
  unfold RLk
  rw [h1, h2, h3]
  exact h
theorem sub_a : ∀ q ∈ [214, 284, 285, 286, 287], q ∈ xRr := by decide
theorem sub_b : ∀ k ∈ [0, 2], k ∈ [0, 2, 120, 124] := by decide
theorem sub_c : ∀ q ∈ [214], q ∈ [214, 284, 285, 286, 287] := by decide
theorem RI_k {s s' : yS} (h : RIv s) (hk : ∀ k, k ∉ [0, 2, 120, 124] → s'.1 k = s.1 k) (hr : ∀ q, q ∉ [214, 284, 285, 286, 287] → s'.2.1 q = s.2.1 q) (hl : s'.2.2 = s.2.2) (h2 : 0 ≤ (s'.1 2).toInt ∧ (s'.1 2).toInt ≤ 4000) (hs : sOK s') : RIv s' := by
  obtain ⟨nb, a1, a2, a3, a4, a5, a6, a7, a8, a9, a10⟩ := h
  have hT : TYN s' := fun i => by rw [hr 264 (by decide)]; exact a3 i
  have hG : GC s' := fun i => by rw [hr 265 (by decide)]; exact a4 i
  refine ⟨nb, a1, by rw [hk 29 (by decide)]; exact a2, hT, hG, h2, by rw [hk 94 (by decide)]; exact a6, hs, by rw [hk 112 (by decide)]; exact a8, fun h90 => ?_, fun h109 => ?_⟩
  · rw [hk 90 (by decide)] at h90
    obtain ⟨b1, b2, b3⟩ := a9 h90
    refine ⟨GPx_x b1 (fun q hq => hr q (fun w => hq (sub_a q w))) (fun i _ => by rw [hr 264 (by decide)]) hl hT hG (hk 75 (by decide)), by rw [hk 75 (by decide)]; exact b2, fun h91 => ?_⟩
    rw [hk 91 (by decide)] at h91
    obtain ⟨T, Vn, w, c1, c2, c3, c4⟩ := b3 h91
    exact ⟨T, Vn, w, by rw [hr 233 (by decide)]; exact c1, VS2_fr c2 (fun v _ => ⟨by rw [hr 275 (by decide)], by rw [hr 276 (by decide)], fun k _ => by rw [hr 277 (by decide)]⟩) (fun i _ _ => by rw [hr 239 (by decide)]) (fun i _ => by rw [hr 264 (by decide)]), by rw [hk 103 (by decide)]; exact c3, c4⟩
  · rw [hk 109 (by decide)] at h109
    exact RLk_eq (a10 h109) (hk 112 (by decide)) (hr 282 (by decide)) (hr 283 (by decide))
theorem RI_0 {s : yS} (h : RIv s) : RIv (sf s 0 0) := by
  have h' := h
  obtain ⟨nb, -, -, -, -, a5, -, a7, -⟩ := h'
  refine RI_k h (fun k hk => ?_) (fun _ _ => rfl) rfl a5 a7
  rw [sf_1, if_neg (fun w => hk (by rw [w]; decide))]
/-! the methods -/
theorem R_154 {s : yS} {a b c : Int64} (h : RIv s) : Tot 2 154 [.ref 213, .long a, .long b, .long c] s (fun v s' => v = some (.int (feedn a b c (s.1 2))) ∧ s'.1 2 = feedn a b c (s.1 2) ∧ RIv s') := by
  have h' := h
  obtain ⟨nb, -, -, -, -, a5, -, a7, -⟩ := h'
  refine Tot.imp (s_154 (d := 0) a5) ?_
  rintro v s' ⟨q1, q2, q3, q4⟩
  refine ⟨q1, q3, RI_k h (fun k hk => q4.1 k (fun w => hk (sub_b k w))) (fun q hq => q4.2.1 q (fun w => hq (sub_c q w))) (funext (fun q => q4.2.2 q List.not_mem_nil)) q2 ?_⟩
  unfold sOK
  rw [q4.1 120 (by decide)]
  exact a7
theorem R_248 {s : yS} (h : RIv s) : Tot 1 248 [.ref 213] s (fun v s' => (∃ r : Int32, v = some (.int r)) ∧ (s'.1 2 = s.1 2 ∧ s'.2.1 214 = s.2.1 214) ∧ RIv s') := Tot.imp (s_248 (d := 0)) (fun v s' q => by
  obtain ⟨rfl, rfl⟩ := q
  exact ⟨⟨_, rfl⟩, ⟨rfl, rfl⟩, RI_0 h⟩)
theorem R_249 {s : yS} (h : RIv s) : Tot 1 249 [.ref 213] s (fun v s' => (∃ r : Int32, v = some (.int r)) ∧ (s'.1 2 = s.1 2 ∧ s'.2.1 214 = s.2.1 214) ∧ RIv s') := Tot.imp (s_249 (d := 0)) (fun v s' q => by
  obtain ⟨rfl, rfl⟩ := q
  exact ⟨⟨_, rfl⟩, ⟨rfl, rfl⟩, RI_0 h⟩)
theorem R_259 {s : yS} {a1 : Int32} (h : RIv s) : Tot 2 259 [.ref 213, .int a1] s (fun v s' => (∃ r : Int32, v = some (.int r)) ∧ (s'.1 2 = s.1 2 ∧ s'.2.1 214 = s.2.1 214) ∧ RIv s') := by
  have h' := h
  obtain ⟨nb, -, -, -, -, -, -, -, a8, -⟩ := h'
  refine Tot.imp (s_259 (d := 0) (R := (s.1 112).toInt.toNat) (by omega) (by omega)) ?_
  rintro v s' ⟨rfl, x, rfl⟩
  exact ⟨⟨x, rfl⟩, ⟨rfl, rfl⟩, RI_0 h⟩
theorem R_269 {s : yS} {a1 : Int32} (h : RIv s) : Tot 1 269 [.ref 213, .int a1] s (fun v s' => (∃ r : Int32, v = some (.int r)) ∧ (s'.1 2 = s.1 2 ∧ s'.2.1 214 = s.2.1 214) ∧ RIv s') := by
  have h' := h
  obtain ⟨nb, -, -, -, -, -, -, a7, -⟩ := h'
  refine Tot.imp (s_269 (d := 0) a7.2) ?_
  rintro v s' ⟨⟨x, rfl⟩, rfl⟩
  exact ⟨⟨x, rfl⟩, ⟨rfl, rfl⟩, RI_0 h⟩
theorem R_270 {s : yS} {a1 : Int32} (h : RIv s) : Tot 1 270 [.ref 213, .int a1] s (fun v s' => (∃ r : Int32, v = some (.int r)) ∧ (s'.1 2 = s.1 2 ∧ s'.2.1 214 = s.2.1 214) ∧ RIv s') := by
  have h' := h
  obtain ⟨nb, a1', a2, -⟩ := h'
  refine Tot.imp (s_270 (d := 0) (by omega)) ?_
  rintro v s' ⟨⟨x, rfl⟩, rfl⟩
  exact ⟨⟨x, rfl⟩, ⟨rfl, rfl⟩, RI_0 h⟩
theorem tcE : ∀ q ∈ [233, 239, 275, 276, 277], (q = 233 ∧ bl q = 1) ∨ (q = 239 ∧ bl q = 24) ∨ (bl q = 0) := by decide
theorem tcN : ∀ q ∈ [233, 239, 275, 276, 277], ¬ q = 264 ∧ q ∉ [265, 266, 267, 268, 269] := by decide
theorem tc2_no {q i : Nat} (hq : q ∈ [233, 239, 275, 276, 277]) (hi : q = 239 → i < 48) (h3 : q = 233 → i < 2) : ¬ tc 2 q i := by
  intro w
  have e := tcE q hq
  have n := tcN q hq
  rcases w with w | w | w
  · rcases e with e | e | e
    · rw [e.2] at w
      have := h3 e.1
      omega
    · rw [e.2] at w
      have := hi e.1
      omega
    · rw [e] at w
      omega
  · exact n.1 w.1
  · exact n.2 w
theorem RI_if {s s' : yS} (h : RIv s) (hF : IF s s') (h2 : (s'.1 2).toInt = 0) : RIv s' := by
  obtain ⟨nb, a1, a2, a3, a4, a5, a6, a7, a8, a9, a10⟩ := h
  have hk := hF.2.1
  refine ⟨nb, a1, by rw [hk 29 (by decide)]; exact a2, hF.2.2.2.1, hF.2.2.2.2.1, by omega, by rw [hk 94 (by decide)]; exact a6, by unfold sOK; rw [hk 120 (by decide)]; exact a7, by rw [hk 112 (by decide)]; exact a8, fun h90 => ?_, fun h109 => ?_⟩
  · rw [hk 90 (by decide)] at h90
    obtain ⟨b1, b2, b3⟩ := a9 h90
    refine ⟨GPx_if a1 b1 hF b2, by rw [hk 75 (by decide)]; exact b2, fun h91 => ?_⟩
    rw [hk 91 (by decide)] at h91
    obtain ⟨T, Vn, w, c1, c2, c3, c4⟩ := b3 h91
    refine ⟨T, Vn, w, by rw [hF.1 233 nb (tc2_no (by decide) (fun w => absurd w (by decide)) (fun _ => a1))]; exact c1, VS2_fr c2 (fun v _ => ⟨hF.1 275 v (tc2_no (by decide) (fun w => absurd w (by decide)) (fun w => absurd w (by decide))), hF.1 276 v (tc2_no (by decide) (fun w => absurd w (by decide)) (fun w => absurd w (by decide))), fun k _ => hF.1 277 _ (tc2_no (by decide) (fun w => absurd w (by decide)) (fun w => absurd w (by decide)))⟩) (fun i i1 i2 => hF.1 239 i (tc2_no (by decide) (fun _ => by omega) (fun w => absurd w (by decide)))) (fun i hi => hF.1 264 i ?_), by rw [hk 103 (by decide)]; exact c3, c4⟩
    rintro (w | w | w)
    · rw [show bl 264 = 0 by decide] at w
      omega
    · omega
    · revert w; decide
  · rw [hk 109 (by decide)] at h109
    exact RLk_if (a10 h109) hF
theorem R_236 {s : yS} (h : RIv s) : Tot 31 236 [.ref 213] s (fun v s' => (∃ r : Int32, v = some (.int r)) ∧ (s'.1 2).toInt = 0 ∧ RIv s') := by
  have h' := h
  obtain ⟨nb, a1, a2, a3, a4, a5, a6, a7, a8, a9, a10⟩ := h'
  refine Tot.imp (s_236 a1 (fun w => ⟨(a9 w).1, a2, (a9 w).2.1⟩) a5 a3 a4) ?_
  rintro v s' ⟨r, rfl, -, -, hF, h2⟩
  exact ⟨⟨r, rfl⟩, h2, RI_if h hF h2⟩
theorem R_260 {s : yS} (h : RIv s) : Tot 31 260 [.ref 213] s (fun v s' => (∃ r : Int32, v = some (.int r)) ∧ (s'.1 2).toInt = 0 ∧ RIv s') := by
  have h' := h
  obtain ⟨nb, a1, a2, a3, a4, a5, a6, a7, a8, a9, a10⟩ := h'
  refine Tot.imp (s_260 a1 (fun w => ⟨(a9 w).1, a2, (a9 w).2.1⟩) a10 a5 a3 a4) ?_
  rintro v s' ⟨r, rfl, -, -, hF, h2⟩
  exact ⟨⟨r, rfl⟩, h2, RI_if h hF h2⟩
/-- run -/
theorem rx_xR : ∀ q, q ∉ xRr → q ∉ rR := fun q hq w => hq ((show ∀ q ∈ rR, q ∈ xRr by decide) q w)
set_option maxRecDepth 20000 in
theorem R_247 {s : yS} {a1 : Int32} (h90' : ¬ (s.1 90).toInt = 0) (h : RIv s) : Tot 1514 247 [.ref 213, .int a1] s (fun v s' => (∃ r : Int32, v = some (.int r)) ∧ (s'.1 2 = s.1 2 ∧ s'.2.1 214 = s.2.1 214) ∧ RIv s') := by
  have h' := h
  obtain ⟨nb, a1', a2, a3, a4, a5, a6, a7, a8, a9, a10⟩ := h'
  obtain ⟨b1, b2, b3⟩ := a9 h90'
  obtain ⟨own, n, W, N, T, F, H, S0, G, S, O, k1, k2, k3, k4, k5, k6, k7, k8, k9⟩ := id b1
  refine Tot.imp (s_247 k1 k2 k3 k4 a2 a6 (by omega) (by omega)) ?_
  rintro v s' ⟨r, rfl, rfl | ⟨r0, r91, hX, Vn, vt, L, hR, hw⟩⟩
  · exact ⟨⟨r, rfl⟩, ⟨rfl, rfl⟩, RI_0 h⟩
  · have hk := hX.1
    have g := GPx_x (s' := s') b1 (fun q hq => RX_row hX (rx_xR q hq)) (fun i hi => hX.2.1 264 i (fun w => by omega) (fun w => by omega) (fun w => by omega) (fun w => by omega) (fun w => by omega) (fun w => by omega)) hX.2.2.1 hX.2.2.2.1 hX.2.2.2.2 (hk 75 (by decide))
    refine ⟨⟨r, rfl⟩, ⟨hk 2 (by decide), RX_row hX (by decide)⟩, nb, a1', by rw [hk 29 (by decide)]; exact a2, hX.2.2.2.1, hX.2.2.2.2, by rw [hk 2 (by decide)]; exact a5, hR.2.2.2.2.2.2.2.2.2.2.2.1, by unfold sOK; rw [hk 120 (by decide)]; exact a7, by rw [hk 112 (by decide)]; exact a8, fun _ => ⟨g, by rw [hk 75 (by decide)]; exact b2, fun h91 => ?_⟩, fun h109 => ?_⟩
    · rw [r91] at h91
      obtain ⟨w, w1, w2⟩ := hw h91
      exact ⟨T, Vn, w, hR.1.1.2.2.2.2.2.1, RT_VS2 hR k5, w1, w2⟩
    · rw [hk 109 (by decide)] at h109
      exact RLk_eq (a10 h109) (hk 112 (by decide)) (RX_row hX (by decide)) (RX_row hX (by decide))
/-- instances -/
theorem jf_row {ks : List Nat} {s s' : yS} {q : Nat} (hF : JF ks 0 20000 100000 0 s s') (hq : q ∉ [264, 265, 266, 267, 268, 279, 280, 281, 282, 283]) : s'.2.1 q = s.2.1 q := funext (fun i => hF.2.1 q i (fun w => hq ((show ∀ q ∈ [279, 280, 281, 282, 283], q ∈ [264, 265, 266, 267, 268, 279, 280, 281, 282, 283] by decide) q w.1)) (fun w => hq (by rw [w.1]; decide)) (fun w => hq (by rcases w.1 with w | w <;> rw [w] <;> decide)) (fun w => hq (by rcases w.1 with w | w <;> rw [w] <;> decide)))
theorem jf_xR : ∀ q, q ∉ xRr → q ∉ [264, 265, 266, 267, 268, 279, 280, 281, 282, 283] := fun q hq w => hq ((show ∀ q ∈ [264, 265, 266, 267, 268, 279, 280, 281, 282, 283], q ∈ xRr by decide) q w)
set_option maxRecDepth 20000 in
theorem R_257 {s : yS} (h : RIv s) : Tot 514 257 [.ref 213] s (fun v s' => (∃ r : Int32, v = some (.int r)) ∧ (s'.1 2 = s.1 2 ∧ s'.2.1 214 = s.2.1 214) ∧ RIv s') := by
  have h' := h
  obtain ⟨nb, a1', a2, a3, a4, a5, a6, a7, a8, a9, a10⟩ := h'
  have key : ∀ (own : Nat → Nat × Nat) (b n N T F H S0 : Nat) (G : PG) (S O : Nat), (¬ (s.1 90).toInt = 0 → CK own b n N T F H S0 G s ∧ PT b n N F H G S O s ∧ MN b n N H G S O s ∧ (s.1 29).toInt = (b : Int)) → S ≤ 8210 → N ≤ 12006 → O ≤ 120000 → Tot 514 257 [.ref 213] s (fun v s' => (∃ r : Int32, v = some (.int r)) ∧ (s'.1 2 = s.1 2 ∧ s'.2.1 214 = s.2.1 214) ∧ RIv s') := by
    intro own b n N T F H S0 G S O hC hS hN hO
    refine Tot.imp (s_257 hC hS hN hO) ?_
    rintro v s' ⟨r, rfl, rfl | ⟨r0, r1, h90, hF, hL⟩⟩
    · exact ⟨⟨r, rfl⟩, ⟨rfl, rfl⟩, RI_0 h⟩
    · obtain ⟨b1, b2, b3⟩ := a9 h90
      have hk := hF.1
      have g := GPx_x (s' := s') b1 (fun q hq => jf_row hF (jf_xR q hq)) (fun i hi => hF.2.1 264 i (fun w => absurd w.1 (by decide)) (fun w => by omega) (fun w => by omega) (fun w => by omega)) hF.2.2.1 hF.2.2.2.1 hF.2.2.2.2 (hk 75 (by decide))
      obtain ⟨R, R1, R2, -⟩ := id hL
      refine ⟨⟨r, rfl⟩, ⟨hk 2 (by decide), jf_row hF (by decide)⟩, nb, a1', by rw [hk 29 (by decide)]; exact a2, hF.2.2.2.1, hF.2.2.2.2, by rw [hk 2 (by decide)]; exact a5, by rw [hk 94 (by decide)]; exact a6, by unfold sOK; rw [hk 120 (by decide)]; exact a7, by omega, fun _ => ⟨g, by rw [hk 75 (by decide)]; exact b2, fun h91 => ?_⟩, fun _ => hL⟩
      rw [hk 91 (by decide)] at h91
      obtain ⟨T', Vn, w, c1, c2, c3, c4⟩ := b3 h91
      refine ⟨T', Vn, w, by rw [jf_row hF (by decide)]; exact c1, VS2_fr c2 (fun v _ => ⟨by rw [jf_row hF (by decide)], by rw [jf_row hF (by decide)], fun k _ => by rw [jf_row hF (by decide)]⟩) (fun i _ _ => by rw [jf_row hF (by decide)]) (fun i hi => hF.2.1 264 i (fun w => absurd w.1 (by decide)) (fun w => by omega) (fun w => by omega) (fun w => by omega)), by rw [hk 103 (by decide)]; exact c3, c4⟩
  by_cases h90 : (s.1 90).toInt = 0
  · exact key (fun _ => (0, 0)) 0 0 0 0 0 0 0 (pg s 0 0) 0 0 (fun w => absurd h90 w) (by omega) (by omega) (by omega)
  · obtain ⟨b1, b2, b3⟩ := a9 h90
    obtain ⟨own, n, W, N, T, F, H, S0, G, S, O, k1, k2, k3, k4, k5, k6, k7, k8, k9⟩ := b1
    exact key own nb n N T F H S0 G S O (fun _ => ⟨k1, k3, k4, a2⟩) (by omega) (by omega) (by omega)
/-- print -/
theorem R_268 {s : yS} {a : Int32} (h : RIv s) : Tot 67 268 [.ref 213, .int a] s (fun v s' => (∃ r : Int32, v = some (.int r)) ∧ (s'.1 2 = s.1 2 ∧ s'.2.1 214 = s.2.1 214) ∧ RIv s') := by
  have h' := h
  obtain ⟨nb, a1', a2, a3, a4, a5, a6, a7, a8, a9, a10⟩ := h'
  have key : ∀ (b T Vn : Nat), (¬ (s.1 90).toInt = 0 → NMs b T s ∧ TYN s ∧ (∃ A : List Nat, isF 1 A ∧ (∀ x ∈ A, x / 8 < T) ∧ A.length ≤ 60 ∧ (s.2.1 274 b).toInt = (A.length : Int) ∧ ∀ i, i < A.length → (s.2.1 273 (60 * b + i)).toInt = (A.getD i 0 : Nat)) ∧ ((s.1 91).toInt = 0 → VSy b T Vn s ∧ ∃ w : Nat, (s.1 103).toInt = (w : Int) ∧ w < Vn)) → Tot 67 268 [.ref 213, .int a] s (fun v s' => (∃ r : Int32, v = some (.int r)) ∧ (s'.1 2 = s.1 2 ∧ s'.2.1 214 = s.2.1 214) ∧ RIv s') := by
    intro b T Vn hG
    refine Tot.imp (s_268 hG a7) ?_
    rintro v s' ⟨r, rfl, hx, hs⟩
    refine ⟨⟨r, rfl⟩, ⟨hx.1 2 (by decide), hx.2.1 214 (by decide)⟩, RI_k h (fun k hk => hx.1 k (fun w => hk ((show ∀ k ∈ pnK, k ∈ [0, 2, 120, 124] by decide) k w))) (fun q hq => hx.2.1 q (fun w => hq ((show ∀ q ∈ vR, q ∈ [214, 284, 285, 286, 287] by decide) q w))) (funext (fun q => hx.2.2 q List.not_mem_nil)) (by rw [hx.1 2 (by decide)]; exact a5) hs⟩
  by_cases h90 : (s.1 90).toInt = 0
  · exact key 0 0 0 (fun w => absurd h90 w)
  · obtain ⟨b1, b2, b3⟩ := a9 h90
    obtain ⟨own, n, W, N, T, F, H, S0, G, S, O, k1, k2, k3, k4, k5, k6, k7, k8, k9⟩ := b1
    obtain ⟨d1, d2, d3, d4, d5, d6, d7, d8, d9, d10⟩ := k1
    obtain ⟨hb, hn, hT24, hF60, hH, r33, r52, hA⟩ := d1
    have gTe : gT G = T := by
      rw [← d8]
      show (s.2.1 233 nb).toInt.toNat = T
      omega
    have hN : NMs nb T s := by
      refine ⟨a2, hb, hT24, fun c hc => ?_⟩
      obtain ⟨⟨t1, t2, t3, t4⟩, -⟩ := hA.1 c hc
      obtain ⟨l1, l2, l3, l4, l5, l6⟩ := k2
      obtain ⟨i, hi⟩ : ∃ i : Nat, (s.2.1 234 (24 * nb + c)).toInt.toNat = 4002 * nb + i := ⟨(s.2.1 234 (24 * nb + c)).toInt.toNat - 4002 * nb, by omega⟩
      rw [hi] at t3
      have l := l6 i (by omega) t3
      refine ⟨4002 * nb + i, (s.2.1 217 (4002 * nb + i)).toInt.toNat, by omega, by omega, by omega, by omega, k9 _ (by omega)⟩
    obtain ⟨e, l, hh, A, m1, m2, m3, ⟨p, -, m4⟩, m5, m6⟩ := k4
    have ok := wEp_ok m4
    have hAT : ∀ x ∈ A, x / 8 < T := fun x hx => by
      rcases ok.1.2 x hx with w | w
      · rw [← gTe]
        exact w.1
      · exact absurd w.2.2 id
    have main : ∃ A : List Nat, isF 1 A ∧ (∀ x ∈ A, x / 8 < T) ∧ A.length ≤ 60 ∧ (s.2.1 274 nb).toInt = (A.length : Int) ∧ ∀ i, i < A.length → (s.2.1 273 (60 * nb + i)).toInt = (A.getD i 0 : Nat) := ⟨A, ok.1.1, hAT, ok.2, m5, m6⟩
    by_cases h91 : (s.1 91).toInt = 0
    · obtain ⟨T', Vn, w, c1, c2, c3, c4⟩ := b3 h91
      obtain rfl : T' = T := by omega
      exact key nb T' Vn (fun _ => ⟨hN, a3, main, fun _ => ⟨c2.2.1, w, c3, c4⟩⟩)
    · exact key nb T 0 (fun _ => ⟨hN, a3, main, fun w => absurd w h91⟩)
/-- program -/
theorem tcb_no {b q i nb : Nat} (hb : b < 2) (hnb : nb < 2) (hne : ¬ b = nb) (hq : q ∈ [233, 239, 275, 276, 277]) (hi : q = 239 → 24 * nb ≤ i ∧ i < 24 * nb + 24) (h3 : q = 233 → i = nb) : ¬ tc b q i := by
  intro w
  have e := tcE q hq
  have n := tcN q hq
  rcases w with w | w | w
  · rcases e with e | e | e
    · rw [e.2] at w
      have := h3 e.1
      omega
    · rw [e.2] at w
      have := hi e.1
      omega
    · rw [e] at w
      omega
  · exact n.1 w.1
  · exact n.2 w
theorem R_230 {s : yS} (h : RIv s) : Tot 572 230 [.ref 213] s (fun v s' => (∃ r : Int32, v = some (.int r)) ∧ (s'.1 2).toInt = 0 ∧ RIv s') := by
  have h' := h
  obtain ⟨nb, a1, a2, a3, a4, a5, a6, a7, a8, a9, a10⟩ := h'
  refine Tot.imp (s_230 (b := 1 - nb) (by omega) (by omega) a5 a3 a4) ?_
  rintro v s' ⟨rfl, q1, q2, q3, q4, q5, q6, q7, q8⟩
  refine ⟨⟨_, rfl⟩, q7, ?_⟩
  rcases q8 with ⟨f0, hk, h75⟩ | ⟨f0, hk, h29, h75, ⟨g1, g2, g3, g4, g5, g6, g7⟩, gp, -⟩
  · refine ⟨nb, a1, by rw [hk 29 (by decide)]; exact a2, q2, q3, by omega, by rw [hk 94 (by decide)]; exact a6, by unfold sOK; rw [hk 120 (by decide)]; exact a7, by rw [hk 112 (by decide)]; exact a8, fun h90 => ?_, fun h109 => ?_⟩
    · rw [hk 90 (by decide)] at h90
      obtain ⟨b1, b2, b3⟩ := a9 h90
      refine ⟨GPx_keep (b := 1 - nb) (by omega) a1 (by omega) b1 q1 q6 q4 q2 q3 (by rw [h75]; exact a2), by rw [h75]; exact a2, fun h91 => ?_⟩
      rw [hk 91 (by decide)] at h91
      obtain ⟨T, Vn, w, c1, c2, c3, c4⟩ := b3 h91
      refine ⟨T, Vn, w, by rw [q1 233 nb (tcb_no (nb := nb) (by omega) a1 (by omega) (by decide) (fun w => absurd w (by decide)) (fun _ => rfl))]; exact c1, VS2_fr c2 (fun v _ => ⟨q1 275 v (tcb_no (nb := nb) (by omega) a1 (by omega) (by decide) (fun w => absurd w (by decide)) (fun w => absurd w (by decide))), q1 276 v (tcb_no (nb := nb) (by omega) a1 (by omega) (by decide) (fun w => absurd w (by decide)) (fun w => absurd w (by decide))), fun k _ => q1 277 _ (tcb_no (nb := nb) (by omega) a1 (by omega) (by decide) (fun w => absurd w (by decide)) (fun w => absurd w (by decide)))⟩) (fun i i1 i2 => q1 239 i (tcb_no (nb := nb) (by omega) a1 (by omega) (by decide) (fun _ => ⟨i1, i2⟩) (fun w => absurd w (by decide)))) (fun i hi => q1 264 i ?_), by rw [hk 103 (by decide)]; exact c3, c4⟩
      rintro (w | w | w)
      · rw [show bl 264 = 0 by decide] at w
        omega
      · have : nb = 0 ∨ nb = 1 := by omega
        rcases this with rfl | rfl <;> omega
      · revert w; decide
    · rw [hk 109 (by decide)] at h109
      have e : ∀ q ∈ [282, 283], ∀ i, ¬ tc (1 - nb) q i := by
        intro q hq i w
        have e0 := (show ∀ q ∈ [282, 283], bl q = 0 ∧ ¬ q = 264 ∧ q ∉ [265, 266, 267, 268, 269] by decide) q hq
        rcases w with w | w | w
        · rw [e0.1] at w
          omega
        · exact e0.2.1 w.1
        · exact e0.2.2 w
      exact RLk_eq (a10 h109) (hk 112 (by decide)) (funext (fun i => q1 282 i (e _ (by decide) i))) (funext (fun i => q1 283 i (e _ (by decide) i)))
  · refine ⟨1 - nb, by omega, h29, q2, q3, by omega, by rw [hk 94 (by decide)]; exact a6, by unfold sOK; rw [hk 120 (by decide)]; exact a7, by rw [hk 112 (by decide)]; exact a8, fun _ => ⟨gp, h75, fun h91 => ?_⟩, fun h109 => ?_⟩
    · rw [g2] at h91
      exact absurd h91 (by decide)
    · rw [g6] at h109
      exact absurd h109 (by decide)
theorem R_247' {s : yS} {a1 : Int32} (h : RIv s) : Tot 1514 247 [.ref 213, .int a1] s (fun v s' => (∃ r : Int32, v = some (.int r)) ∧ (s'.1 2 = s.1 2 ∧ s'.2.1 214 = s.2.1 214) ∧ RIv s') := by
  by_cases h90 : (s.1 90).toInt = 0
  · refine t_247 (d := 1513) ?_
    intro s1 e1
    subst e1
    exact ⟨fun _ => ⟨⟨_, rfl⟩, ⟨rfl, rfl⟩, RI_0 h⟩, fun w => absurd h90 w⟩
  · exact R_247 h90 h
