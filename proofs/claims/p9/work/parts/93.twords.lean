/-! ===== typeWords ===== -/
def tSl (z : yS) (d : Nat) (p : Nat × Nat) : Prop := ((p.1 = 238 ∨ p.1 = 241) ∧ p.2 / 6 = d) ∨ ∃ h, nT z 242 d ≤ h ∧ h < nT z 242 d + nT z 243 d ∧ hSl h p
def tDn (z : yS) (d : Nat) (D : Nat × Nat → Bool) : Prop := (∀ j, j < nT z 236 d → D (238, 6 * d + j) = true) ∧ (∀ j, j < nT z 239 d → D (241, 6 * d + j) = true) ∧ ∀ h, nT z 242 d ≤ h → h < nT z 242 d + nT z 243 d → hDn z h D
theorem hDn_mo {z : yS} {h : Nat} {D D' : Nat × Nat → Bool} (hh : hDn z h D) (hD : ∀ p, D p = true → D' p = true) : hDn z h D' := ⟨fun j hj => hD _ (hh.1 j hj), fun j hj => hD _ (hh.2.1 j hj), hD _ hh.2.2⟩
theorem hSl_inj {h h' : Nat} {p : Nat × Nat} (a : hSl h p) (b : hSl h' p) : h = h' := by
  rcases a with ⟨a1, a2⟩ | ⟨a1, a2⟩ <;> rcases b with ⟨b1, b2⟩ | ⟨b1, b2⟩ <;> omega
theorem hSl_n {h : Nat} {p : Nat × Nat} (a : hSl h p) : ¬ (p.1 = 238 ∨ p.1 = 241) := by
  rcases a with ⟨a1, a2⟩ | ⟨a1, a2⟩ <;> omega
section TW
variable {own : Nat → Nat × Nat} {b n W N T F H d : Nat} {D : Nat × Nat → Bool} {z s : yS}
def TP (b : Nat) (s : yS) (d : Nat) : Prop := (s.1 77).toInt = -1 ∧ (s.1 76).toInt = 24 * (b : Int) + (d : Nat) ∧ (s.1 78).toInt = -1
theorem TP_eq {s' : yS} (hh : TP b s d) (hk : ∀ k, k ∉ [8, 65] → s'.1 k = s.1 k) : TP b s' d := by
  unfold TP
  rw [hk 76 (by decide), hk 77 (by decide), hk 78 (by decide)]
  exact hh
theorem TP_PL (hd : d < T) (hh : TP b s d) : PL b T F H s := ⟨Or.inl hh.1, Or.inr ⟨d, hd, hh.2.1⟩, Or.inl hh.2.2⟩
theorem TP_V (hT : T ≤ 24) (hh : TP b s d) (hr : ∀ q ∈ [236, 245, 255], s.2.1 q = z.2.1 q) (h6 : ∀ d, d < T → nT z 236 (24 * b + d) ≤ 6) (c : Nat) (hc : scp b T F H s c) : VE b T z (scD b z d) (8 * c + if c < 1000 then nT s 236 (24 * b + c) else 0) := by
  have e36 : nT s 236 = nT z 236 := by unfold nT; rw [hr 236 (by decide)]
  obtain ⟨h1, h2, h3⟩ := hh
  rcases hc with w | ⟨h', k, w1, w2, w3, w4⟩ | ⟨d', k, w1, w2, w3, w4⟩ | ⟨f', k, w1, w2, w3, w4⟩
  · rw [if_pos (by omega), e36]
    exact VE_c (h6 c w) (Or.inl ⟨w, rfl⟩)
  · omega
  · rw [if_neg (by omega)]
    have : d' = d := by omega
    refine VE_c (by omega) (Or.inr ⟨rfl, by omega, k, ?_, by omega⟩)
    rw [← e36, ← this]
    exact w3
  · omega
theorem VF_t {q j : Nat} (hq : q = 238 ∨ q = 241) (hj : j < 6) : VF b T F z q (6 * (24 * b + d) + j) = VE b T z (scD b z d) := by
  unfold VF
  have : (fun c => if q = 238 ∨ q = 241 then scD b z ((6 * (24 * b + d) + j) / 6 - 24 * b) c else if q = 251 then scH b T F z ((6 * (24 * b + d) + j) - 204 * b) c else scH b T F z ((6 * (24 * b + d) + j) / 6 - 204 * b) c) = scD b z d := by
    funext c
    rw [if_pos hq, show (6 * (24 * b + d) + j) / 6 - 24 * b = d by omega]
  rw [this]
theorem tw51 {a1 a2 : Int32} {D1 : Nat × Nat → Bool} {u : yS} (h61 : KQ s u) (hd : d < T) (h1 : a1.toInt = 24 * (b : Int) + d) (h2 : a2 = u.2.1 242 (24 * b + d)) (hP : PH own b n W N T F H D1 z u) (hD : ∀ p, tSl z (24 * b + d) p → D p = false) (hG : DG (fun p => (p.1 = 238 ∨ p.1 = 241) ∧ p.2 / 6 = 24 * b + d) D D1) (hd1 : ∀ j, j < nT z 236 (24 * b + d) → D1 (238, 6 * (24 * b + d) + j) = true) (hd2 : ∀ j, j < nT z 239 (24 * b + d) → D1 (241, 6 * (24 * b + d) + j) = true) : wl_209_51 (Tot 15) a1 a2 u (fun v s' => v = none ∧ ∃ D', PH own b n W N T F H D' z s' ∧ DG (tSl z (24 * b + d)) D D' ∧ tDn z (24 * b + d) D' ∧ KQ s s') := by
  have f242 : nT u 242 = nT z 242 := by unfold nT; rw [PH_row hP (by decide)]
  have hA0 := hP.2.1.2.2.2.2.2.2.2.1 d hd
  obtain ⟨-, -, -, -, -, -, -, -, -, q10, q11, q12, q13⟩ := hA0
  refine ⟨fun z1 z2 t => z1 = a1 ∧ KQ s t ∧ ∃ hh : Nat, z2.toInt = (hh : Int) ∧ nT z 242 (24 * b + d) ≤ hh ∧ hh ≤ nT z 242 (24 * b + d) + nT z 243 (24 * b + d) ∧ ∃ D2, PH own b n W N T F H D2 z t ∧ DG (fun p => ((p.1 = 238 ∨ p.1 = 241) ∧ p.2 / 6 = 24 * b + d) ∨ ∃ h, nT z 242 (24 * b + d) ≤ h ∧ h < hh ∧ hSl h p) D D2 ∧ (∀ j, j < nT z 236 (24 * b + d) → D2 (238, 6 * (24 * b + d) + j) = true) ∧ (∀ j, j < nT z 239 (24 * b + d) → D2 (241, 6 * (24 * b + d) + j) = true) ∧ ∀ h, nT z 242 (24 * b + d) ≤ h → h < hh → hDn z h D2, fun _ z2 _ => (1000 - z2.toInt).toNat, ⟨rfl, h61, nT z 242 (24 * b + d), ?_, Nat.le_refl _, by omega, D1, hP, DG_mo hG (fun p w => Or.inl w), hd1, hd2, fun h w1 w2 => by omega⟩, ?_⟩
  · rw [h2, ← f242]
    unfold nT
    omega
  clear hP hG hd1 hd2 h61 h2 f242 q10 q11 q12 q13
  rintro z1 z2 t ⟨y1, t61, hh, y2, y3, y4, D2, tP, tG, t38, t41, tH⟩
  have y1 := y1.symm
  subst y1
  obtain ⟨hb, hn, hT24, hF60, hH204, -, -, hA⟩ := id tP.2.1
  obtain ⟨-, -, -, -, -, -, -, -, -, r10, r11, r12, r13⟩ := hA.1 d hd
  have e1 : a1.toInt.toNat = 24 * b + d := by omega
  have f242 : nT z 242 (24 * b + d) = (t.2.1 242 (24 * b + d)).toInt.toNat := by unfold nT; rw [PH_row tP (by decide)]
  have f243 : nT z 243 (24 * b + d) = (t.2.1 243 (24 * b + d)).toInt.toNat := by unfold nT; rw [PH_row tP (by decide)]
  unfold w_209_51
  rw [e1]
  refine ⟨by omega, by omega, by omega, fun x1 hx1 => ⟨fun hle => ?_, fun hgt => ?_⟩⟩
  · have eh : hh = nT z 242 (24 * b + d) + nT z 243 (24 * b + d) := by omega
    rw [eh] at tG tH
    exact ⟨rfl, D2, tP, tG, ⟨t38, t41, tH⟩, t61⟩
  · obtain ⟨h, rfl⟩ : ∃ h, hh = 204 * b + h := ⟨hh - 204 * b, by omega⟩
    refine Tot.imp (s_208 (h := h) tP (by omega) (by omega) (Or.inl ⟨d, hd, h1, by decide, y3, by omega⟩) (fun p hp => DG_f tG (hD p (Or.inr ⟨204 * b + h, y3, by omega, hp⟩)) (fun w => ?_))) ?_
    · rcases w with w | ⟨h', w1, w2, w3⟩
      · exact hSl_n hp w.1
      · have := hSl_inj hp w3
        omega
    · rintro v s' ⟨rfl, D', k1, k2, k3, k4⟩
      refine ⟨rfl, by omega, fun x4 hx4 => ⟨⟨rfl, KQ_tr t61 k4, 204 * b + h + 1, by omega, by omega, by omega, D', k1, DG_tr tG k2 (fun p w => ?_) (fun p w => Or.inr ⟨204 * b + h, y3, by omega, w⟩), fun j hj => k2.1 _ (t38 j hj), fun j hj => k2.1 _ (t41 j hj), fun h' w1 w2 => ?_⟩, by show (1000 - x4.toInt).toNat < (1000 - z2.toInt).toNat; omega⟩⟩
      · rcases w with w | ⟨h', w1, w2, w3⟩
        · exact Or.inl w
        · exact Or.inr ⟨h', w1, by omega, w3⟩
      · by_cases e : h' = 204 * b + h
        · rw [e]; exact k3
        · exact hDn_mo (tH h' w1 (by omega)) k2.1
theorem tw27 {a1 : Int32} {D1 : Nat × Nat → Bool} {u : yS} (h61 : KQ s u) (hd : d < T) (h1 : a1.toInt = 24 * (b : Int) + d) (hH : TP b u d) (hP : PH own b n W N T F H D1 z u) (hD : ∀ p, tSl z (24 * b + d) p → D p = false) (hG : DG (fun p => p.1 = 238 ∧ p.2 / 6 = 24 * b + d) D D1) (hdn : ∀ j, j < nT z 236 (24 * b + d) → D1 (238, 6 * (24 * b + d) + j) = true) : wl_209_27 (Tot 15) a1 0 u (fun v s' => v = none ∧ ∃ D', PH own b n W N T F H D' z s' ∧ DG (tSl z (24 * b + d)) D D' ∧ tDn z (24 * b + d) D' ∧ KQ s s') := by
  refine ⟨fun z1 z4 t => z1 = a1 ∧ 0 ≤ z4.toInt ∧ z4.toInt ≤ 6 ∧ TP b t d ∧ KQ s t ∧ ∃ D2, PH own b n W N T F H D2 z t ∧ DG (fun p => (p.1 = 238 ∨ p.1 = 241 ∧ p.2 < 6 * (24 * b + d) + z4.toInt.toNat) ∧ p.2 / 6 = 24 * b + d) D D2 ∧ (∀ j, j < nT z 236 (24 * b + d) → D2 (238, 6 * (24 * b + d) + j) = true) ∧ (∀ j : Nat, (j : Int) < z4.toInt → D2 (241, 6 * (24 * b + d) + j) = true), fun _ z4 _ => (7 - z4.toInt).toNat, ⟨rfl, by decide, by decide, hH, h61, D1, hP, DG_mo hG (fun p w => ⟨Or.inl w.1, w.2⟩), hdn, fun j hj => i0_lt hj⟩, ?_⟩
  clear hP hG hdn hH h61
  rintro z1 z4 t ⟨y1, y2, y3, tH, t61, D2, tP, tG, t47, t50⟩
  have y1 := y1.symm
  subst y1
  obtain ⟨hb, hn, hT24, hF60, hH204, -, -, hA⟩ := id tP.2.1
  obtain ⟨-, -, -, r4, r5, r6, r7, r8, r9, -⟩ := hA.1 d hd
  have e1 : a1.toInt.toNat = 24 * b + d := by omega
  have hr : ∀ q ∈ [236, 245, 255], t.2.1 q = z.2.1 q := fun q hq => PH_row tP (by revert q; decide)
  have hV := TP_V (F := F) (H := H) hT24 tH hr (PH_h6 tP)
  unfold w_209_27
  rw [e1]
  refine ⟨by omega, fun hle => ⟨by omega, ?_⟩, fun hgt => ⟨by omega, fun x3 hx3 => ⟨by omega, fun x4 hx4 => ⟨by omega, ?_⟩⟩⟩⟩
  · refine tw51 t61 hd h1 rfl tP hD (DG_mo tG (fun p w => ⟨w.1.elim Or.inl (fun w => Or.inr w.1), w.2⟩)) t47 (fun j hj => t50 j ?_)
    have : nT z 239 = nT t 239 := by unfold nT; rw [PH_row tP (by decide)]
    rw [this] at hj
    unfold nT at hj
    omega
  · have e4 : x4.toInt.toNat = 6 * (24 * b + d) + z4.toInt.toNat := by omega
    have hzl : z4.toInt.toNat < (t.2.1 239 (24 * b + d)).toInt.toNat := by omega
    rw [e4]
    refine Tot.imp (Tot.mono (by omega) (ph_204 (q := 241) (i := 6 * (24 * b + d) + z4.toInt.toNat) tP (by decide) (by decide) (DG_f tG (hD _ (Or.inl ⟨Or.inr rfl, by show (6 * (24 * b + d) + z4.toInt.toNat) / 6 = _; omega⟩)) (fun w => by have := w.1; simp at this)) (r9 _ hzl).2 rfl (TP_PL hd tH) (fun c hc => by rw [VF_t (Or.inr rfl) (by omega)]; exact hV c hc))) ?_
    rintro v s' ⟨rfl, k1, k2⟩
    refine ⟨rfl, by omega, fun x7 hx7 => ⟨⟨rfl, by omega, by omega, TP_eq tH k2.1, KQ_tr t61 k2.2, _, k1, DG_tr tG DG_add (fun p w => ⟨w.1.elim Or.inl (fun w => Or.inr ⟨w.1, by omega⟩), w.2⟩) (fun p w => by rw [w]; exact ⟨Or.inr ⟨rfl, by show 6 * (24 * b + d) + z4.toInt.toNat < _; omega⟩, by show (6 * (24 * b + d) + z4.toInt.toNat) / 6 = _; omega⟩), fun j hj => DG_add.1 _ (t47 j hj), fun j hj => ?_⟩, by show (7 - x7.toInt).toNat < (7 - z4.toInt).toNat; omega⟩⟩
    by_cases ej : j = z4.toInt.toNat
    · rw [ej]; exact addD_t
    · exact DG_add.1 _ (t50 j (by omega))
theorem s_209 {a1 : Int32} (hP : PH own b n W N T F H D z s) (hd : d < T) (h1 : a1.toInt = 24 * (b : Int) + (d : Nat)) (hD : ∀ p, tSl z (24 * b + d) p → D p = false) : Tot 16 209 [.ref 213, .int a1] s (fun v s' => v = none ∧ ∃ D', PH own b n W N T F H D' z s' ∧ DG (tSl z (24 * b + d)) D D' ∧ tDn z (24 * b + d) D' ∧ KQ s s') := by
  refine t_209 ?_
  unfold w_209_0
  refine Tot.imp (Tot.mono (by omega) (s_206 (d := 0))) ?_
  rintro v s0 ⟨rfl, rfl⟩
  refine ⟨rfl, ?_⟩
  have P0 : PH own b n W N T F H D z (sf (sf (sf s 76 a1) 77 (-1)) 78 (-1)) := by
    refine PH_mv (s := s) hP (fun k hk => ?_) hP.2.2.2.2.1 (fun w => w) (fun q i _ => rfl) rfl
    rw [sf_1, if_neg (fun w => hk (by rw [w]; decide)), sf_1, if_neg (fun w => hk (by rw [w]; decide)), sf_1, if_neg (fun w => hk (by rw [w]; decide))]
  have H0 : TP b (sf (sf (sf s 76 a1) 77 (-1)) 78 (-1)) d := ⟨by show (-1 : Int32).toInt = -1; decide, h1, by show (-1 : Int32).toInt = -1; decide⟩
  obtain ⟨u0, hu0⟩ : ∃ u, u = sf (sf (sf s 76 a1) 77 (-1)) 78 (-1) := ⟨_, rfl⟩
  have h61 : KQ s u0 := by rw [hu0]; exact ⟨rfl, fun w => w⟩
  rw [← hu0] at P0 H0 ⊢
  clear hu0 hP
  refine ⟨fun z1 z4 t => z1 = a1 ∧ 0 ≤ z4.toInt ∧ z4.toInt ≤ 6 ∧ TP b t d ∧ KQ s t ∧ ∃ D2, PH own b n W N T F H D2 z t ∧ DG (fun p => p.1 = 238 ∧ p.2 < 6 * (24 * b + d) + z4.toInt.toNat ∧ p.2 / 6 = 24 * b + d) D D2 ∧ (∀ j : Nat, (j : Int) < z4.toInt → D2 (238, 6 * (24 * b + d) + j) = true), fun _ z4 _ => (7 - z4.toInt).toNat, ⟨rfl, by decide, by decide, H0, h61, D, P0, DG_rf, fun j hj => i0_lt hj⟩, ?_⟩
  clear P0 H0
  rintro z1 z4 t ⟨y1, y2, y3, tH, t61, D2, tP, tG, t47⟩
  have y1 := y1.symm
  subst y1
  obtain ⟨hb, hn, hT24, hF60, hH204, -, -, hA⟩ := id tP.2.1
  obtain ⟨-, -, -, r4, r5, r6, r7, r8, r9, -⟩ := hA.1 d hd
  have e1 : a1.toInt.toNat = 24 * b + d := by omega
  have hr : ∀ q ∈ [236, 245, 255], t.2.1 q = z.2.1 q := fun q hq => PH_row tP (by revert q; decide)
  have hV := TP_V (F := F) (H := H) hT24 tH hr (PH_h6 tP)
  unfold w_209_7
  rw [e1]
  refine ⟨by omega, fun hle => tw27 t61 hd h1 tH tP hD (DG_mo tG (fun p w => ⟨w.1, w.2.2⟩)) (fun j hj => t47 j ?_), fun hgt => ⟨by omega, fun x3 hx3 => ⟨by omega, fun x4 hx4 => ⟨by omega, ?_⟩⟩⟩⟩
  · have : nT z 236 = nT t 236 := by unfold nT; rw [PH_row tP (by decide)]
    rw [this] at hj
    unfold nT at hj
    omega
  · have e4 : x4.toInt.toNat = 6 * (24 * b + d) + z4.toInt.toNat := by omega
    have hzl : z4.toInt.toNat < (t.2.1 236 (24 * b + d)).toInt.toNat := by omega
    rw [e4]
    refine Tot.imp (Tot.mono (by omega) (ph_207 (q := 238) (i := 6 * (24 * b + d) + z4.toInt.toNat) tP (by decide) (DG_f tG (hD _ (Or.inl ⟨Or.inl rfl, by show (6 * (24 * b + d) + z4.toInt.toNat) / 6 = _; omega⟩)) (fun w => by have := w.2.1; simp at this)) (r6 _ hzl).2 rfl (TP_PL hd tH) (fun c hc => by rw [VF_t (Or.inl rfl) (by omega)]; exact hV c hc))) ?_
    rintro v s' ⟨rfl, k1, k2⟩
    refine ⟨rfl, by omega, fun x7 hx7 => ⟨⟨rfl, by omega, by omega, TP_eq tH k2.1, KQ_tr t61 k2.2, _, k1, DG_tr tG DG_add (fun p w => ⟨w.1, by omega, w.2.2⟩) (fun p w => by rw [w]; exact ⟨rfl, by show 6 * (24 * b + d) + z4.toInt.toNat < _; omega, by show (6 * (24 * b + d) + z4.toInt.toNat) / 6 = _; omega⟩), fun j hj => ?_⟩, by show (7 - x7.toInt).toNat < (7 - z4.toInt).toNat; omega⟩⟩
    by_cases ej : j = z4.toInt.toNat
    · rw [ej]; exact addD_t
    · exact DG_add.1 _ (t47 j (by omega))
end TW
