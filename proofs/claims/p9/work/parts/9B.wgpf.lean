theorem pl_13 {p l b : Nat} (h : p + l ≤ 10 + 4100 * (b + 1)) (hb : b < 3) : p + l ≤ 13000 := by
  have : 4100 * (b + 1) ≤ 4100 * 3 := Nat.mul_le_mul_left _ (by omega)
  exact Nat.le_trans h (Nat.le_trans (Nat.add_le_add_left this 10) (by decide))
theorem rsv_mo {s : yS} {V V' : Nat → Prop} (hV : ∀ x, V x → V' x) : ∀ {k y p l : Nat}, rsv s V k y p l → rsv s V' k y p l
  | 0, _, _, _, h => h
  | k + 1, y, p, l, h => by
    obtain ⟨h1, h2, h3, h4, h5, cs, h6, h7, h8⟩ := h
    exact ⟨h1, h2, h3, h4, hV _ h5, cs, h6, h7, (rcs_mo (fun c _ p _ _ hq => rsv_mo hV hq) (by omega) h8).1⟩
/-- a slot's TYPE, with the tree it came from -/
def RV (b n N H : Nat) (G : PG) (s : yS) (q i : Nat) : Prop := ∃ (y h p l : Nat) (sc : Nat → Prop), (s.2.1 q i).toInt = (y : Int) ∧ 4002 * b ≤ y ∧ h ≤ N ∧ isY b n s 11 h y ∧ rsv s (vE G sc) 11 y p l ∧ scC G H sc ∧ p + l ≤ 13000
section WGP
variable {own : Nat → Nat × Nat} {b n W N T F H : Nat} {s z : yS}
theorem VE_vE {G : PG} {sc sc' : Nat → Prop} {x : Nat} (hT : gT G = T) (hfm : ∀ d, d < T → gfm G d = nT z 236 (24 * b + d)) (hs : ∀ c, sc c → sc' c) (h : VE b T z sc x) : vE G sc' x := by
  rcases h with ⟨h1, h2⟩ | ⟨h1, h2, h3⟩
  · exact Or.inl ⟨by omega, by rw [hfm _ h1]; exact h2⟩
  · exact Or.inr ⟨h1, h2, hs _ h3⟩
theorem RSg_ok {G : PG} {V sc' : Nat → Prop} {q i : Nat} (hN : N ≤ 12006) (hV : ∀ x, V x → vE G sc' x) (h : RSg own b n N T V s q i) : okE G sc' (tyS s q i) ∧ (tyS s q i).length ≤ 60 ∧ ((q = 238 ∨ q = 247) → ∃ x As, cutT (tyS s q i) x As ∧ x / 8 < T ∧ (s.2.1 235 (24 * b + x / 8)).toInt = 0) := by
  obtain ⟨y, h, p, l, k1, k2, k3, k4, k5, k6, k7, k7b, k8, k9⟩ := h
  have hl := isY_lt k4
  obtain ⟨g1, g2, g3, g4, -⟩ := id k6
  have hb : b < 3 := by omega
  have hpl : p + l ≤ 13000 := pl_13 k7b (by omega)
  have nY : NY s y p l := ⟨by omega, g1, g2, hpl, g4⟩
  rw [SY_ty k1 nY]
  refine ⟨⟨rsv_F k6, fun x hx => hV x (rsv_V k6 x hx)⟩, by rw [seg_len]; exact g4, fun hq => ?_⟩
  obtain ⟨x, As, hc⟩ := cutT_ex (rsv_F k6)
  have := (cut_len hc).2
  have k9 := k9 hq
  rw [this] at k9
  exact ⟨x, As, hc, k9.1, k9.2⟩
theorem inH_i {G : PG} {hs : Nat → Nat} (hA : RAq own b n N T F H s) (hpg : gT G = T ∧ ∀ d, d < T → ghf G d = nT s 242 (24 * b + d) - 204 * b ∧ ghm G d = nT s 243 (24 * b + d)) (o4 : ∀ i, i < T + F → hs i ≤ hs (i + 1) ∧ ((∃ d, d < T ∧ (s.2.1 262 (84 * b + i)).toInt = (d : Int) ∧ (s.2.1 242 (24 * b + d)).toInt = 204 * (b : Int) + (hs i : Nat) ∧ (hs i : Int) + (s.2.1 243 (24 * b + d)).toInt = (hs (i + 1) : Int)) ∨ (∃ f, f < F ∧ (s.2.1 262 (84 * b + i)).toInt = 100 + (f : Int) ∧ (s.2.1 257 (60 * b + f)).toInt = 204 * (b : Int) + (hs i : Nat) ∧ hs (i + 1) = hs i + 1))) (hT24 : T ≤ 24) {d h : Nat} (hd : inH G d h) : ∃ i, i < T + F ∧ (s.2.1 262 (84 * b + i)).toInt = (d : Int) ∧ hs i ≤ h ∧ h < hs (i + 1) := by
  obtain ⟨d1, d2, d3⟩ := hd
  rw [hpg.1] at d1
  obtain ⟨e1, e2⟩ := hpg.2 d d1
  obtain ⟨i, i1, i2⟩ := hA.2.2.2.1.1 d d1
  refine ⟨i, i1, i2, ?_⟩
  rcases (o4 i i1).2 with ⟨d', q1, q2, q3, q4⟩ | ⟨f, q1, q2, q3, q4⟩
  · have : d' = d := by omega
    subst this
    unfold nT at e1 e2
    omega
  · omega
theorem P1_CK (hP : P1 own b n W N T F H z (T + F) s) (h0 : (s.1 8).toInt = 0) (hBP : BP z) (hGC : GC z) : ∃ S0 : Nat, (s.1 65).toInt = (S0 : Int) ∧ S0 ≤ 10 + 4100 * b + 2760 ∧ 10 + 4100 * b ≤ S0 ∧ CK own b n N T F H S0 (pg s b H) s ∧ ∀ q i, vS b T H s q i → RV b n N H (pg s b H) s q i := by
  obtain ⟨e1, e2⟩ := P1_end hP h0
  obtain ⟨D, hP, -⟩ := hP
  obtain ⟨p1, p2, p3, p4, p5, p6, p7, ⟨S, p8, p8a, p8'⟩, pz, p9⟩ := id hP
  obtain ⟨hb, hn, hT24, hF60, hH, r33, r52, hA⟩ := id p2
  have hcl := cnt_le (own := own) (D := D) (lo := 4002 * b) (N := N)
  have nz : ∀ q, q ∉ [231, 232, 261, 264] → nT z q = nT s q := fun q hq => by unfold nT; rw [PH_row hP hq]
  obtain ⟨g1, g2, g3, g4, g5, g6, g7⟩ := pgA (H := H) p2
  obtain ⟨G, hG⟩ : ∃ G, G = pg s b H := ⟨_, rfl⟩
  rw [← hG] at g1 g2 g3 g4 g5 g6 g7 ⊢
  have hvz : ∀ q i, vS b T H s q i → vS b T H z q i := by
    intro q i hv
    refine (vS_eq (fun q hq => ?_)).mp hv
    exact PH_row hP (by revert q; decide)
  have hfm : ∀ d, d < T → gfm G d = nT z 236 (24 * b + d) := fun d hd => by rw [(g3 d hd).1, nz 236 (by decide)]
  -- scopes
  have scd : ∀ d, d < T → ∀ c, scD b z d c → scDg G d c := by
    rintro d hd c ⟨k, k1, k2⟩
    exact ⟨k, by rw [hfm d hd]; exact k1, k2⟩
  have sch : ∀ h, h < H → ∀ c, scH b T F z h c → scHg G h c := by
    rintro h hh c (⟨k, k1, k2⟩ | ⟨d, d1, d2, d3, d4⟩ | ⟨f, k, f1, f2, f3, f4⟩)
    · rw [nz 245 (by decide)] at k1
      exact Or.inl ⟨k, by rw [(g4 h hh).1]; exact k1, k2⟩
    · rw [nz 242 (by decide)] at d2 d3
      rw [nz 243 (by decide)] at d3
      have := (hA.1 d d1).2.2.2.2.2.2.2.2.2.1
      have t1 : nT s 242 (24 * b + d) = (s.2.1 242 (24 * b + d)).toInt.toNat := rfl
      refine Or.inr (Or.inl ⟨d, ⟨by omega, by rw [(g3 d d1).2.2.1]; omega, by rw [(g3 d d1).2.2.1, (g3 d d1).2.2.2.1]; omega⟩, scd d d1 c d4⟩)
    · rw [nz 257 (by decide)] at f2
      rw [nz 255 (by decide)] at f3
      exact Or.inr (Or.inr ⟨f, by omega, by rw [(g7 f f1).2.1]; omega, k, by rw [(g7 f f1).2.2]; exact f3, f4⟩)
  have hso : ∀ f, f < F → gso G f < T ∧ ¬ gst G (gso G f) = 0 ∧ gfm G (gso G f) = gpm G f := by
    intro f hf
    obtain ⟨c, c1, c2, c3, c4⟩ := e2 f hf
    have : gso G f = c := by rw [(g7 f hf).1]; unfold nT; omega
    rw [this, (g3 c c1).2.1, (g3 c c1).1, (g7 f hf).2.2]
    have h35 := (hA.1 c c1).2.1
    rw [nz 236 (by decide), nz 255 (by decide)] at c4
    rw [← PH_row hP (show 235 ∉ [231, 232, 261, 264] by decide)] at c3
    exact ⟨c1, by unfold nT; omega, c4⟩
  -- the slots
  have ofT : ∀ q d k, d < T → (q = 238 ∨ q = 241) → k < 6 → vS b T H s q (6 * (24 * b + d) + k) → okE G (scDg G d) (tyS s q (6 * (24 * b + d) + k)) ∧ (tyS s q (6 * (24 * b + d) + k)).length ≤ 60 ∧ ((q = 238 ∨ q = 247) → isI G (tyS s q (6 * (24 * b + d) + k))) := by
    intro q d k hd hq hk hv
    have := e1 _ _ (hvz _ _ hv)
    rw [VF_t hq hk] at this
    obtain ⟨k1, k2, k3⟩ := RSg_ok (G := G) (sc' := scDg G d) (by omega) (fun x hx => VE_vE g1 hfm (scd d hd) hx) this
    refine ⟨k1, k2, fun w => ?_⟩
    obtain ⟨x, As, x1, x2, x3⟩ := k3 w
    exact ⟨x, As, x1, by omega, by rw [(g3 _ x2).2.1]; unfold nT; omega⟩
  have ofH : ∀ q h k, h < H → (q = 247 ∨ q = 250) → k < 6 → vS b T H s q (6 * (204 * b + h) + k) → okE G (scHg G h) (tyS s q (6 * (204 * b + h) + k)) ∧ (tyS s q (6 * (204 * b + h) + k)).length ≤ 60 ∧ ((q = 238 ∨ q = 247) → isI G (tyS s q (6 * (204 * b + h) + k))) := by
    intro q h k hh hq hk hv
    have := e1 _ _ (hvz _ _ hv)
    rw [VF_h hq hk] at this
    obtain ⟨k1, k2, k3⟩ := RSg_ok (G := G) (sc' := scHg G h) (by omega) (fun x hx => VE_vE g1 hfm (sch h hh) hx) this
    refine ⟨k1, k2, fun w => ?_⟩
    obtain ⟨x, As, x1, x2, x3⟩ := k3 w
    exact ⟨x, As, x1, by omega, by rw [(g3 _ x2).2.1]; unfold nT; omega⟩
  have ofR : ∀ h, h < H → okE G (scHg G h) (tyS s 251 (204 * b + h)) ∧ (tyS s 251 (204 * b + h)).length ≤ 60 := by
    intro h hh
    have := e1 _ _ (hvz _ _ (Or.inr (Or.inr (Or.inr (Or.inr ⟨h, hh, rfl, rfl⟩)))))
    rw [VF_h1] at this
    obtain ⟨k1, k2, -⟩ := RSg_ok (G := G) (sc' := scHg G h) (by omega) (fun x hx => VE_vE g1 hfm (sch h hh) hx) this
    exact ⟨k1, k2⟩
  have hW : WG G H := by
    have hO := hA.2.2.2.2
    obtain ⟨hs, o1, o2, o3, o4⟩ := hO
    have mono := hs_mono (fun i hi => (o4 i hi).1)
    have hpg : gT G = T ∧ ∀ d, d < T → ghf G d = nT s 242 (24 * b + d) - 204 * b ∧ ghm G d = nT s 243 (24 * b + d) := ⟨g1, fun d hd => ⟨(g3 d hd).2.2.1, (g3 d hd).2.2.2.1⟩⟩
    have ofF : ∀ f, f < F → ∃ i, i < T + F ∧ (s.2.1 262 (84 * b + i)).toInt = 100 + (f : Int) ∧ hs i = gfh G f ∧ hs (i + 1) = hs i + 1 := by
      intro f hf
      obtain ⟨i, i1, i2⟩ := hA.2.2.2.1.2.1 f hf
      refine ⟨i, i1, i2, ?_⟩
      rcases (o4 i i1).2 with ⟨d', q1, q2, q3, q4⟩ | ⟨f', q1, q2, q3, q4⟩
      · omega
      · have : f' = f := by omega
        subst this
        rw [(g7 f' hf).2.1]
        unfold nT
        omega
    have dis : ∀ i j h, i < T + F → j < T + F → hs i ≤ h → h < hs (i + 1) → hs j ≤ h → h < hs (j + 1) → i = j := by
      intro i j h hi hj h1 h2 h3 h4
      rcases Nat.lt_trichotomy i j with e | e | e
      · have := mono j (i + 1) e (by omega)
        omega
      · exact e
      · have := mono i (j + 1) e (by omega)
        omega
    refine ⟨⟨by omega, by omega, hH⟩, fun d hd => ?_, fun h hh => ?_, fun d hd k hk => ?_, fun d hd k hk => ?_, fun h hh => ⟨fun k hk => ?_, fun k hk => ?_, ?_⟩, fun f hf => ?_, fun f f' hf hf' e => ?_, fun f d hf hd => ?_, fun d d' h hd hd' => ?_⟩
    · rw [g1] at hd
      have := hA.1 d hd
      obtain ⟨-, -, -, t4, t5, -, t7, t8, -, t10, t11, t12, t13⟩ := this
      rw [(g3 d hd).1, (g3 d hd).2.2.1, (g3 d hd).2.2.2.1, (g3 d hd).2.2.2.2]
      unfold nT
      omega
    · obtain ⟨⟨-, t1, t2, -, t4, t5, -⟩, -⟩ := hA.2.1 h hh
      rw [(g4 h hh).1, (g4 h hh).2.1]
      unfold nT
      omega
    · rw [g1] at hd
      rw [(g3 d hd).1] at hk
      have h6 := (hA.1 d hd).2.2.2.2.1
      have h6' : nT s 236 (24 * b + d) ≤ 6 := by unfold nT; omega
      rw [(g6 d k hd).1 hk]
      obtain ⟨k1, k2, k3⟩ := ofT 238 d k hd (Or.inl rfl) (by omega) (Or.inl ⟨d, k, hd, hk, rfl, rfl⟩)
      exact ⟨k1, k2, k3 (Or.inl rfl)⟩
    · rw [g1] at hd
      rw [(g3 d hd).2.2.2.2] at hk
      have h6 := (hA.1 d hd).2.2.2.2.2.2.2.1
      have h6' : nT s 239 (24 * b + d) ≤ 6 := by unfold nT; omega
      rw [(g6 d k hd).2 hk]
      obtain ⟨k1, k2, k3⟩ := ofT 241 d k hd (Or.inr rfl) (by omega) (Or.inr (Or.inl ⟨d, k, hd, hk, rfl, rfl⟩))
      exact ⟨k1, k2⟩
    · rw [(g4 h hh).1] at hk
      have h6 := (hA.2.1 h hh).1.2.2.1
      have h6' : nT s 245 (204 * b + h) ≤ 6 := by unfold nT; omega
      rw [(g5 h k hh).1 hk]
      obtain ⟨k1, k2, k3⟩ := ofH 247 h k hh (Or.inl rfl) (by omega) (Or.inr (Or.inr (Or.inl ⟨h, k, hh, hk, rfl, rfl⟩)))
      exact ⟨k1, k2, k3 (Or.inr rfl)⟩
    · rw [(g4 h hh).2.1] at hk
      have h6 := (hA.2.1 h hh).1.2.2.2.2.2.1
      have h6' : nT s 248 (204 * b + h) ≤ 6 := by unfold nT; omega
      rw [(g5 h k hh).2 hk]
      obtain ⟨k1, k2, k3⟩ := ofH 250 h k hh (Or.inr rfl) (by omega) (Or.inr (Or.inr (Or.inr (Or.inl ⟨h, k, hh, hk, rfl, rfl⟩))))
      exact ⟨k1, k2⟩
    · rw [(g4 h hh).2.2.1]
      exact ofR h hh
    · rw [g2] at hf
      rw [g1]
      obtain ⟨-, t2, t3, -⟩ := hA.2.2.1 f hf
      refine ⟨?_, hso f hf⟩
      rw [(g7 f hf).2.1]
      unfold nT
      omega
    · rw [g2] at hf hf'
      obtain ⟨i, i1, i2, i3, i4⟩ := ofF f hf
      obtain ⟨j, j1, j2, j3, j4⟩ := ofF f' hf'
      have := dis i j (gfh G f) i1 j1 (by omega) (by omega) (by omega) (by omega)
      subst this
      omega
    · rw [g2] at hf
      obtain ⟨i, i1, i2, i3, i4⟩ := ofF f hf
      obtain ⟨j, j1, j2, j3, j4⟩ := inH_i hA hpg o4 hT24 hd
      have := dis i j (gfh G f) i1 j1 (by omega) (by omega) (by omega) (by omega)
      subst this
      have := hd.1
      omega
    · obtain ⟨i, i1, i2, i3, i4⟩ := inH_i hA hpg o4 hT24 hd
      obtain ⟨j, j1, j2, j3, j4⟩ := inH_i hA hpg o4 hT24 hd'
      have := dis i j h i1 j1 (by omega) (by omega) (by omega) (by omega)
      subst this
      omega
  refine ⟨S, p8, by omega, p8a, ⟨p2, fun q i hv => ?_, fun f hf => ?_, fun a ha => ?_, p4, fun i => ?_, p3, hG.symm, hW, by omega⟩, fun q i hv => ?_⟩
  · obtain ⟨y, h, p, l, k1, k2, k3, k4, k5, k6, k7, k7b, k8, k9⟩ := e1 q i (hvz q i hv)
    have hl := isY_lt k4
    obtain ⟨m1, m2, m3, m4, -⟩ := id k6
    have hpl : p + l ≤ 13000 := pl_13 k7b (by omega)
    exact ⟨y, p, l, k1, k5 y (Nat.le_refl _) hl, k2, by omega, ⟨by omega, m1, m2, hpl, m4⟩, k7, by omega⟩
  · obtain ⟨c, c1, c2, -⟩ := e2 f hf
    omega
  · have := hBP a ha
    unfold tyE at this ⊢
    rw [pz.2.1 264 a (fun w => by omega) (fun w => by omega) (fun w => by omega)]
    exact this
  · rw [PH_row hP (by decide)]
    exact hGC i
  · obtain ⟨y, h, p, l, k1, k2, k3, k4, k5, k6, k7, k7b, k8, k9⟩ := e1 q i (hvz q i hv)
    have hpl : p + l ≤ 13000 := pl_13 k7b (by omega)
    have hh6 : ∀ d, d < T → nT s 236 (24 * b + d) ≤ 6 ∧ nT s 239 (24 * b + d) ≤ 6 := fun d hd => by
      have := (hA.1 d hd).2.2.2.2.1
      have := (hA.1 d hd).2.2.2.2.2.2.2.1
      unfold nT
      omega
    have hh7 : ∀ h, h < H → nT s 245 (204 * b + h) ≤ 6 ∧ nT s 248 (204 * b + h) ≤ 6 := fun d hd => by
      have := (hA.2.1 d hd).1.2.2.1
      have := (hA.2.1 d hd).1.2.2.2.2.2.1
      unfold nT
      omega
    have tt : ∀ d, d < T → (∀ x, VF b T F z q i x → VE b T z (scD b z d) x) → RV b n N H G s q i := fun d hd w => ⟨y, h, p, l, scDg G d, k1, k2, k3, k4, rsv_mo (fun x hx => VE_vE g1 hfm (scd d hd) (w x hx)) k6, scC_d hW (by omega), hpl⟩
    have th : ∀ h', h' < H → (∀ x, VF b T F z q i x → VE b T z (scH b T F z h') x) → RV b n N H G s q i := fun h' hh w => ⟨y, h, p, l, scHg G h', k1, k2, k3, k4, rsv_mo (fun x hx => VE_vE g1 hfm (sch h' hh) (w x hx)) k6, scC_h hW hh, hpl⟩
    rcases hv with ⟨d, k, w1, w2, w3, w4⟩ | ⟨d, k, w1, w2, w3, w4⟩ | ⟨d, k, w1, w2, w3, w4⟩ | ⟨d, k, w1, w2, w3, w4⟩ | ⟨d, w1, w3, w4⟩
    · have := hh6 d w1
      exact tt d w1 (fun x hx => by rw [w3, w4, VF_t (Or.inl rfl) (by omega)] at hx; exact hx)
    · have := hh6 d w1
      exact tt d w1 (fun x hx => by rw [w3, w4, VF_t (Or.inr rfl) (by omega)] at hx; exact hx)
    · have := hh7 d w1
      exact th d w1 (fun x hx => by rw [w3, w4, VF_h (Or.inl rfl) (by omega)] at hx; exact hx)
    · have := hh7 d w1
      exact th d w1 (fun x hx => by rw [w3, w4, VF_h (Or.inr rfl) (by omega)] at hx; exact hx)
    · exact th d w1 (fun x hx => by rw [w3, w4, VF_h1] at hx; exact hx)
end WGP
