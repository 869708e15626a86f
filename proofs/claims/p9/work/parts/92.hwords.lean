/-! ===== headWords ===== -/
theorem i0_lt {j : Nat} {p : Prop} (h : (j : Int) < (0 : Int32).toInt) : p := by
  have : (0 : Int32).toInt = 0 := by decide
  exact absurd h (by omega)
/-- the place is head h's -/
def HP (b T F H : Nat) (z s : yS) (h : Nat) : Prop := h < H ∧ (s.1 77).toInt = 204 * (b : Int) + (h : Nat) ∧ ((∃ d, d < T ∧ (s.1 76).toInt = 24 * (b : Int) + (d : Nat) ∧ (s.1 78).toInt = -1 ∧ nT z 242 (24 * b + d) ≤ 204 * b + h ∧ 204 * b + h < nT z 242 (24 * b + d) + nT z 243 (24 * b + d)) ∨ (∃ f, f < F ∧ (s.1 76).toInt = -1 ∧ (s.1 78).toInt = 60 * (b : Int) + (f : Nat) ∧ nT z 257 (60 * b + f) = 204 * b + h))
/-- slots of head h -/
def hSl (h : Nat) (p : Nat × Nat) : Prop := ((p.1 = 247 ∨ p.1 = 250) ∧ p.2 / 6 = h) ∨ (p.1 = 251 ∧ p.2 = h)
def hDn (s : yS) (h : Nat) (D : Nat × Nat → Bool) : Prop := (∀ j, j < nT s 245 h → D (247, 6 * h + j) = true) ∧ (∀ j, j < nT s 248 h → D (250, 6 * h + j) = true) ∧ D (251, h) = true
/-- D' is D and some of X -/
def DG (X : Nat × Nat → Prop) (D D' : Nat × Nat → Bool) : Prop := (∀ p, D p = true → D' p = true) ∧ ∀ p, D' p = true → D p = true ∨ X p
theorem DG_rf {X : Nat × Nat → Prop} {D : Nat × Nat → Bool} : DG X D D := ⟨fun _ h => h, fun _ h => Or.inl h⟩
theorem DG_tr {X Y Z : Nat × Nat → Prop} {D D' D'' : Nat × Nat → Bool} (h : DG X D D') (h' : DG Y D' D'') (hX : ∀ p, X p → Z p) (hY : ∀ p, Y p → Z p) : DG Z D D'' := ⟨fun p hp => h'.1 p (h.1 p hp), fun p hp => (h'.2 p hp).elim (fun w => (h.2 p w).elim Or.inl (fun w => Or.inr (hX p w))) (fun w => Or.inr (hY p w))⟩
theorem DG_mo {X Z : Nat × Nat → Prop} {D D' : Nat × Nat → Bool} (h : DG X D D') (hX : ∀ p, X p → Z p) : DG Z D D' := ⟨h.1, fun p hp => (h.2 p hp).elim Or.inl (fun w => Or.inr (hX p w))⟩
theorem DG_add {D : Nat × Nat → Bool} {q : Nat × Nat} : DG (fun p => p = q) D (addD D q) := by
  refine ⟨fun p hp => by unfold addD; simp [hp], fun p hp => ?_⟩
  unfold addD at hp
  rcases Bool.or_eq_true_iff.mp hp with w | w
  · exact Or.inl w
  · exact Or.inr (by simpa using w)
theorem DG_f {X : Nat × Nat → Prop} {D D' : Nat × Nat → Bool} {p : Nat × Nat} (h : DG X D D') (hD : D p = false) (hX : ¬ X p) : D' p = false := by
  cases e : D' p with
  | false => rfl
  | true =>
    rcases h.2 p e with w | w
    · rw [hD] at w; exact absurd w (by decide)
    · exact absurd w hX
theorem addD_t {D : Nat × Nat → Bool} {q : Nat × Nat} : addD D q q = true := by unfold addD; simp
section HW
variable {own : Nat → Nat × Nat} {b n W N T F H h : Nat} {D : Nat × Nat → Bool} {z s : yS}
theorem HP_PL (hh : HP b T F H z s h) : PL b T F H s := by
  obtain ⟨h1, h2, h3⟩ := hh
  refine ⟨Or.inr ⟨h, h1, h2⟩, ?_, ?_⟩
  · rcases h3 with ⟨d, q1, q2, q3, -⟩ | ⟨f, q1, q2, q3, -⟩
    · exact Or.inr ⟨d, q1, q2⟩
    · exact Or.inl q2
  · rcases h3 with ⟨d, q1, q2, q3, -⟩ | ⟨f, q1, q2, q3, -⟩
    · exact Or.inl q3
    · exact Or.inr ⟨f, q1, q3⟩
theorem HP_eq {s' : yS} (hh : HP b T F H z s h) (hk : ∀ k, k ∉ [8, 65] → s'.1 k = s.1 k) : HP b T F H z s' h := by
  unfold HP
  rw [hk 76 (by decide), hk 77 (by decide), hk 78 (by decide)]
  exact hh
theorem VE_c {sc : Nat → Prop} {c a : Nat} (ha : a ≤ 6) (h : (c < T ∧ a = nT z 236 (24 * b + c)) ∨ (a = 0 ∧ 1000 ≤ c ∧ sc c)) : VE b T z sc (8 * c + a) := by
  unfold VE
  rw [show (8 * c + a) / 8 = c by omega, show (8 * c + a) % 8 = a by omega]
  exact h
theorem HP_V (hT : T ≤ 24) (hh : HP b T F H z s h) (hr : ∀ q ∈ [236, 245, 255], s.2.1 q = z.2.1 q) (h6 : ∀ d, d < T → nT z 236 (24 * b + d) ≤ 6) (c : Nat) (hc : scp b T F H s c) : VE b T z (scH b T F z h) (8 * c + if c < 1000 then nT s 236 (24 * b + c) else 0) := by
  have e36 : nT s 236 = nT z 236 := by unfold nT; rw [hr 236 (by decide)]
  have e45 : nT s 245 = nT z 245 := by unfold nT; rw [hr 245 (by decide)]
  have e55 : nT s 255 = nT z 255 := by unfold nT; rw [hr 255 (by decide)]
  obtain ⟨h1, h2, h3⟩ := hh
  rcases hc with w | ⟨h', k, w1, w2, w3, w4⟩ | ⟨d', k, w1, w2, w3, w4⟩ | ⟨f', k, w1, w2, w3, w4⟩
  · rw [if_pos (by omega), e36]
    exact VE_c (h6 c w) (Or.inl ⟨w, rfl⟩)
  · have : h' = h := by omega
    rw [if_neg (by omega)]
    refine VE_c (by omega) (Or.inr ⟨rfl, by omega, Or.inl ⟨k, ?_, by omega⟩⟩)
    rw [← e45, ← this]
    exact w3
  · rw [if_neg (by omega)]
    rcases h3 with ⟨d, q1, q2, q3, q4, q5⟩ | ⟨f, q1, q2, q3, q4⟩
    · have : d' = d := by omega
      refine VE_c (by omega) (Or.inr ⟨rfl, by omega, Or.inr (Or.inl ⟨d, q1, q4, q5, k, ?_, by omega⟩)⟩)
      rw [← e36, ← this]
      exact w3
    · omega
  · rw [if_neg (by omega)]
    rcases h3 with ⟨d, q1, q2, q3, q4, q5⟩ | ⟨f, q1, q2, q3, q4⟩
    · omega
    · have : f' = f := by omega
      refine VE_c (by omega) (Or.inr ⟨rfl, by omega, Or.inr (Or.inr ⟨f, k, q1, q4, ?_, by omega⟩)⟩)
      rw [← e55, ← this]
      exact w3
theorem VF_h {q j : Nat} (hq : q = 247 ∨ q = 250) (hj : j < 6) : VF b T F z q (6 * (204 * b + h) + j) = VE b T z (scH b T F z h) := by
  unfold VF
  have : (fun c => if q = 238 ∨ q = 241 then scD b z ((6 * (204 * b + h) + j) / 6 - 24 * b) c else if q = 251 then scH b T F z ((6 * (204 * b + h) + j) - 204 * b) c else scH b T F z ((6 * (204 * b + h) + j) / 6 - 204 * b) c) = scH b T F z h := by
    funext c
    rw [if_neg (by omega), if_neg (by omega), show (6 * (204 * b + h) + j) / 6 - 204 * b = h by omega]
  rw [this]
theorem VF_h1 : VF b T F z 251 (204 * b + h) = VE b T z (scH b T F z h) := by
  unfold VF
  have : (fun c => if (251 : Nat) = 238 ∨ (251 : Nat) = 241 then scD b z ((204 * b + h) / 6 - 24 * b) c else if (251 : Nat) = 251 then scH b T F z ((204 * b + h) - 204 * b) c else scH b T F z ((204 * b + h) / 6 - 204 * b) c) = scH b T F z h := by
    funext c
    rw [if_neg (by omega), if_pos rfl, show 204 * b + h - 204 * b = h by omega]
  rw [this]
theorem PH_h6 (hP : PH own b n W N T F H D z s) : ∀ d, d < T → nT z 236 (24 * b + d) ≤ 6 := by
  intro d hd
  have hA := (hP.2.1.2.2.2.2.2.2.2.1 d hd).2.2.2.2.1
  rw [FZ_row hP.2.2.2.2.2.2.2.2.1 (by decide)] at hA
  unfold nT
  omega
theorem PH_row {q : Nat} (hP : PH own b n W N T F H D z s) (hq : q ∉ [231, 232, 261, 264]) : s.2.1 q = z.2.1 q := FZ_row hP.2.2.2.2.2.2.2.2.1 hq
theorem hw27 {a1 a2 a3 : Int32} {D1 : Nat × Nat → Bool} {u : yS} (h61 : KQ s u) (h1 : a1.toInt = 204 * (b : Int) + h) (hH : HP b T F H z u h) (hP : PH own b n W N T F H D1 z u) (hD : ∀ p, hSl (204 * b + h) p → D p = false) (hG : DG (fun p => p.1 = 247 ∧ p.2 / 6 = 204 * b + h) D D1) (hdn : ∀ j, j < nT z 245 (204 * b + h) → D1 (247, 6 * (204 * b + h) + j) = true) : wl_208_27 (Tot 14) a1 a2 a3 0 u (fun v s' => v = none ∧ ∃ D', PH own b n W N T F H D' z s' ∧ DG (hSl (204 * b + h)) D D' ∧ hDn z (204 * b + h) D' ∧ KQ s s') := by
  refine ⟨fun z1 z2 z3 z4 t => z1 = a1 ∧ 0 ≤ z4.toInt ∧ z4.toInt ≤ 6 ∧ HP b T F H z t h ∧ KQ s t ∧ ∃ D2, PH own b n W N T F H D2 z t ∧ DG (fun p => (p.1 = 247 ∨ p.1 = 250 ∧ p.2 < 6 * (204 * b + h) + z4.toInt.toNat) ∧ p.2 / 6 = 204 * b + h) D D2 ∧ (∀ j, j < nT z 245 (204 * b + h) → D2 (247, 6 * (204 * b + h) + j) = true) ∧ (∀ j : Nat, (j : Int) < z4.toInt → D2 (250, 6 * (204 * b + h) + j) = true), fun _ _ _ z4 _ => (7 - z4.toInt).toNat, ⟨rfl, by decide, by decide, hH, h61, D1, hP, DG_mo hG (fun p w => ⟨Or.inl w.1, w.2⟩), hdn, fun j hj => i0_lt hj⟩, ?_⟩
  clear hP hG hdn hH
  rintro z1 z2 z3 z4 t ⟨y1, y2, y3, tH, t61, D2, tP, tG, t47, t50⟩
  have y1 := y1.symm
  subst y1
  have hh := tH.1
  obtain ⟨hb, hn, hT24, hF60, hH204, -, -, hA⟩ := id tP.2.1
  obtain ⟨⟨-, r1, r2, r3, r4, r5, r6⟩, r7⟩ := hA.2.1 h hh
  have e1 : a1.toInt.toNat = 204 * b + h := by omega
  have hr : ∀ q ∈ [236, 245, 255], t.2.1 q = z.2.1 q := fun q hq => PH_row tP (by revert q; decide)
  have hV := HP_V hT24 tH hr (PH_h6 tP)
  unfold w_208_27
  rw [e1]
  refine ⟨by omega, fun hle => ⟨by omega, ?_⟩, fun hgt => ⟨by omega, fun x3 hx3 => ⟨by omega, fun x4 hx4 => ⟨by omega, ?_⟩⟩⟩⟩
  · refine Tot.imp (Tot.mono (by omega) (ph_204 (q := 251) (i := 204 * b + h) tP (by decide) (by decide) (DG_f tG (hD _ (Or.inr ⟨rfl, rfl⟩)) (fun w => by have := w.1; simp at this)) r7 rfl (HP_PL tH) (fun c hc => by rw [VF_h1]; exact hV c hc))) ?_
    rintro v s' ⟨rfl, k1, k2⟩
    refine ⟨rfl, rfl, _, k1, DG_tr tG DG_add (fun p w => Or.inl ⟨w.1.elim Or.inl (fun w => Or.inr w.1), w.2⟩) (fun p w => by rw [w]; exact Or.inr ⟨rfl, rfl⟩), ⟨fun j hj => DG_add.1 _ (t47 j hj), fun j hj => DG_add.1 _ (t50 j ?_), addD_t⟩, KQ_tr t61 k2.2⟩
    have : nT z 248 = nT t 248 := by unfold nT; rw [PH_row tP (by decide)]
    rw [this] at hj
    unfold nT at hj
    omega
  · have e4 : x4.toInt.toNat = 6 * (204 * b + h) + z4.toInt.toNat := by omega
    have hzl : z4.toInt.toNat < (t.2.1 248 (204 * b + h)).toInt.toNat := by omega
    rw [e4]
    refine Tot.imp (Tot.mono (by omega) (ph_204 (q := 250) (i := 6 * (204 * b + h) + z4.toInt.toNat) tP (by decide) (by decide) (DG_f tG (hD _ (Or.inl ⟨Or.inr rfl, by show (6 * (204 * b + h) + z4.toInt.toNat) / 6 = _; omega⟩)) (fun w => by have := w.1; simp at this)) (r6 _ hzl).2 rfl (HP_PL tH) (fun c hc => by rw [VF_h (Or.inr rfl) (by omega)]; exact hV c hc))) ?_
    rintro v s' ⟨rfl, k1, k2⟩
    refine ⟨rfl, by omega, fun x7 hx7 => ⟨⟨rfl, by omega, by omega, HP_eq tH k2.1, KQ_tr t61 k2.2, _, k1, DG_tr tG DG_add (fun p w => ⟨w.1.elim Or.inl (fun w => Or.inr ⟨w.1, by omega⟩), w.2⟩) (fun p w => by rw [w]; exact ⟨Or.inr ⟨rfl, by show 6 * (204 * b + h) + z4.toInt.toNat < _; omega⟩, by show (6 * (204 * b + h) + z4.toInt.toNat) / 6 = _; omega⟩), fun j hj => DG_add.1 _ (t47 j hj), fun j hj => ?_⟩, by show (7 - x7.toInt).toNat < (7 - z4.toInt).toNat; omega⟩⟩
    by_cases ej : j = z4.toInt.toNat
    · rw [ej]; exact addD_t
    · exact DG_add.1 _ (t50 j (by omega))
theorem s_208 {a1 a2 a3 : Int32} (hP : PH own b n W N T F H D z s) (hh : h < H) (h1 : a1.toInt = 204 * (b : Int) + (h : Nat)) (h23 : (∃ d, d < T ∧ a2.toInt = 24 * (b : Int) + (d : Nat) ∧ a3.toInt = -1 ∧ nT z 242 (24 * b + d) ≤ 204 * b + h ∧ 204 * b + h < nT z 242 (24 * b + d) + nT z 243 (24 * b + d)) ∨ (∃ f, f < F ∧ a2.toInt = -1 ∧ a3.toInt = 60 * (b : Int) + (f : Nat) ∧ nT z 257 (60 * b + f) = 204 * b + h)) (hD : ∀ p, hSl (204 * b + h) p → D p = false) : Tot 15 208 [.ref 213, .int a1, .int a2, .int a3] s (fun v s' => v = none ∧ ∃ D', PH own b n W N T F H D' z s' ∧ DG (hSl (204 * b + h)) D D' ∧ hDn z (204 * b + h) D' ∧ KQ s s') := by
  refine t_208 ?_
  unfold w_208_0
  refine Tot.imp (Tot.mono (by omega) (s_206 (d := 0))) ?_
  rintro v s0 ⟨rfl, rfl⟩
  refine ⟨rfl, ?_⟩
  have P0 : PH own b n W N T F H D z (sf (sf (sf s 76 a2) 77 a1) 78 a3) := by
    refine PH_mv (s := s) hP (fun k hk => ?_) hP.2.2.2.2.1 (fun w => w) (fun q i _ => rfl) rfl
    rw [sf_1, if_neg (fun w => hk (by rw [w]; decide)), sf_1, if_neg (fun w => hk (by rw [w]; decide)), sf_1, if_neg (fun w => hk (by rw [w]; decide))]
  have H0 : HP b T F H z (sf (sf (sf s 76 a2) 77 a1) 78 a3) h := ⟨hh, h1, h23⟩
  obtain ⟨u0, hu0⟩ : ∃ u, u = sf (sf (sf s 76 a2) 77 a1) 78 a3 := ⟨_, rfl⟩
  have h61 : KQ s u0 := by rw [hu0]; exact ⟨rfl, fun w => w⟩
  rw [← hu0] at P0 H0 ⊢
  clear hu0 hP h23
  refine ⟨fun z1 z2 z3 z4 t => z1 = a1 ∧ 0 ≤ z4.toInt ∧ z4.toInt ≤ 6 ∧ HP b T F H z t h ∧ KQ s t ∧ ∃ D2, PH own b n W N T F H D2 z t ∧ DG (fun p => p.1 = 247 ∧ p.2 < 6 * (204 * b + h) + z4.toInt.toNat ∧ p.2 / 6 = 204 * b + h) D D2 ∧ (∀ j : Nat, (j : Int) < z4.toInt → D2 (247, 6 * (204 * b + h) + j) = true), fun _ _ _ z4 _ => (7 - z4.toInt).toNat, ⟨rfl, by decide, by decide, H0, h61, D, P0, DG_rf, fun j hj => i0_lt hj⟩, ?_⟩
  clear P0 H0
  rintro z1 z2 z3 z4 t ⟨y1, y2, y3, tH, t61, D2, tP, tG, t47⟩
  have y1 := y1.symm
  subst y1
  obtain ⟨hb, hn, hT24, hF60, hH204, -, -, hA⟩ := id tP.2.1
  obtain ⟨⟨-, r1, r2, r3, r4, r5, r6⟩, r7⟩ := hA.2.1 h hh
  have e1 : a1.toInt.toNat = 204 * b + h := by omega
  have hr : ∀ q ∈ [236, 245, 255], t.2.1 q = z.2.1 q := fun q hq => PH_row tP (by revert q; decide)
  have hV := HP_V hT24 tH hr (PH_h6 tP)
  unfold w_208_7
  rw [e1]
  refine ⟨by omega, fun hle => hw27 t61 h1 tH tP hD (DG_mo tG (fun p w => ⟨w.1, w.2.2⟩)) (fun j hj => t47 j ?_), fun hgt => ⟨by omega, fun x3 hx3 => ⟨by omega, fun x4 hx4 => ⟨by omega, ?_⟩⟩⟩⟩
  · have : nT z 245 = nT t 245 := by unfold nT; rw [PH_row tP (by decide)]
    rw [this] at hj
    unfold nT at hj
    omega
  · have e4 : x4.toInt.toNat = 6 * (204 * b + h) + z4.toInt.toNat := by omega
    have hzl : z4.toInt.toNat < (t.2.1 245 (204 * b + h)).toInt.toNat := by omega
    rw [e4]
    refine Tot.imp (Tot.mono (by omega) (ph_207 (q := 247) (i := 6 * (204 * b + h) + z4.toInt.toNat) tP (by decide) (DG_f tG (hD _ (Or.inl ⟨Or.inl rfl, by show (6 * (204 * b + h) + z4.toInt.toNat) / 6 = _; omega⟩)) (fun w => by have := w.2.1; simp at this)) (r3 _ hzl).2 rfl (HP_PL tH) (fun c hc => by rw [VF_h (Or.inl rfl) (by omega)]; exact hV c hc))) ?_
    rintro v s' ⟨rfl, k1, k2⟩
    refine ⟨rfl, by omega, fun x7 hx7 => ⟨⟨rfl, by omega, by omega, HP_eq tH k2.1, KQ_tr t61 k2.2, _, k1, DG_tr tG DG_add (fun p w => ⟨w.1, by omega, w.2.2⟩) (fun p w => by rw [w]; exact ⟨rfl, by show 6 * (204 * b + h) + z4.toInt.toNat < _; omega, by show (6 * (204 * b + h) + z4.toInt.toNat) / 6 = _; omega⟩), fun j hj => ?_⟩, by show (7 - x7.toInt).toNat < (7 - z4.toInt).toNat; omega⟩⟩
    by_cases ej : j = z4.toInt.toNat
    · rw [ej]; exact addD_t
    · exact DG_add.1 _ (t47 j (by omega))
end HW
