/-! ===== readType ===== -/
theorem zl_le (p : Nat) : zl p ≤ 4002 := by
  unfold zl
  repeat' split
  all_goals omega
theorem NF_20 {b : Nat} {c : Nat → Nat} {s s' : yS} {p : Nat} (h : NF b c s s') (hb : b < 2) (hp : c p = 20000) : s'.2.1 p = s.2.1 p := by
  funext i
  refine h.2.1 p i (fun q => ?_)
  rw [hp] at q
  have := zl_le p
  have : zl p * (b + 1) ≤ 4002 * 2 := Nat.mul_le_mul this (by omega)
  omega
def cT (N d Hh Dd b : Nat) (p : Nat) : Nat := if p ∈ ndB then N else if p ∈ tR then d else if p ∈ t6 then 6 * d else if p ∈ hR then Hh else if p ∈ h6 then 6 * Hh else if p = 262 then Dd else if p = 263 ∨ p = 233 then b else 20000
section CT
variable {N d Hh Dd b p : Nat}
theorem cT_n (hp : p ∈ ndB) : cT N d Hh Dd b p = N := by unfold cT; rw [if_pos hp]
theorem cT_t (hp : p ∈ tR) : cT N d Hh Dd b p = d := by
  have h1 : p ∉ ndB := by revert p; decide
  unfold cT; rw [if_neg h1, if_pos hp]
theorem cT_6 (hp : p ∈ t6) : cT N d Hh Dd b p = 6 * d := by
  have h1 : p ∉ ndB := by revert p; decide
  have h2 : p ∉ tR := by revert p; decide
  unfold cT; rw [if_neg h1, if_neg h2, if_pos hp]
theorem cT_h (hp : p ∈ hR) : cT N d Hh Dd b p = Hh := by
  have h1 : p ∉ ndB := by revert p; decide
  have h2 : p ∉ tR := by revert p; decide
  have h3 : p ∉ t6 := by revert p; decide
  unfold cT; rw [if_neg h1, if_neg h2, if_neg h3, if_pos hp]
theorem cT_h6 (hp : p ∈ h6) : cT N d Hh Dd b p = 6 * Hh := by
  have h1 : p ∉ ndB := by revert p; decide
  have h2 : p ∉ tR := by revert p; decide
  have h3 : p ∉ t6 := by revert p; decide
  have h4 : p ∉ hR := by revert p; decide
  unfold cT; rw [if_neg h1, if_neg h2, if_neg h3, if_neg h4, if_pos hp]
theorem cT_le (h1 : N ≤ 20000) (h2 : 6 * d ≤ 20000) (h3 : 6 * Hh ≤ 20000) (h4 : Dd ≤ 20000) (h5 : b ≤ 2) : cT N d Hh Dd b p ≤ 20000 := by
  unfold cT
  repeat' split
  all_goals omega
end CT
theorem zl_tR {p : Nat} (hp : p ∈ tR) : zl p = 24 := by revert p; decide
theorem zl_t6 {p : Nat} (hp : p ∈ t6) : zl p = 144 := by revert p; decide
/-- a type's name, formals and heads -/
def UB (own : Nat → Nat × Nat) (b n N : Nat) (s : yS) (d Hh K : Nat) : Prop := tkN b n s (s.2.1 234 d).toInt ∧ 0 ≤ (s.2.1 236 d).toInt ∧ (s.2.1 236 d).toInt ≤ 6 ∧ SL own b n N s 237 238 (6 * d) (s.2.1 236 d).toInt.toNat ∧ (s.2.1 242 d).toInt = (Hh : Int) ∧ ∀ h, h < K → RH own b n N s (Hh + h)
theorem UB_eq {own own' : Nat → Nat × Nat} {b n N N' d Hh K : Nat} {s t : yS} (hr : UB own b n N s d Hh K) (nd : ND N s t) (hc : ∀ p ∈ [234, 236, 242], t.2.1 p d = s.2.1 p d) (hc6 : ∀ p ∈ [237, 238], ∀ j, j < 6 → t.2.1 p (6 * d + j) = s.2.1 p (6 * d + j)) (hh : ∀ p ∈ hR, ∀ h, h < K → t.2.1 p (Hh + h) = s.2.1 p (Hh + h)) (hh6 : ∀ p ∈ h6, ∀ i, i < 6 * (Hh + K) → t.2.1 p i = s.2.1 p i) (ho : ∀ x, x < N → own' x = own x) (hN : N ≤ N') : UB own' b n N' t d Hh K := by
  obtain ⟨h1, h2, h3, h4, h5, h6⟩ := hr
  unfold UB
  rw [hc 234 (by decide), hc 236 (by decide), hc 242 (by decide)]
  exact ⟨tkN_eq nd.2.1 nd.2.2 h1, h2, h3, SL_eq h4 nd (fun j hj => ⟨hc6 _ (by decide) j (by omega), hc6 _ (by decide) j (by omega)⟩) ho hN, h5, fun h hk => RH_eq (h6 h hk) nd (fun p hp => hh p hp h hk) (fun p hp j hj => hh6 p hp _ (by omega)) ho hN⟩
/-- a type so far -/
def UI (own : Nat → Nat × Nat) (b n W d Hh Dd : Nat) (s t : yS) : Prop := ∃ K : Nat, K ≤ 6 ∧ TS b n W 0 3 t ∧ NF b (cT (s.1 26).toInt.toNat d Hh Dd b) s t ∧ (s.1 26).toInt ≤ (t.1 26).toInt ∧ (t.1 42).toInt = (Hh : Int) + K ∧ t.2.1 233 = s.2.1 233 ∧ t.2.1 263 = s.2.1 263 ∧ t.2.1 262 = s.2.1 262 ∧ 0 ≤ (t.2.1 235 d).toInt ∧ (t.2.1 235 d).toInt ≤ 1 ∧ 0 ≤ (t.2.1 239 d).toInt ∧ (t.2.1 239 d).toInt ≤ 6 ∧ 0 ≤ (t.2.1 243 d).toInt ∧ (t.2.1 243 d).toInt ≤ 7 ∧
  ((t.1 8).toInt = 0 → (t.2.1 243 d).toInt = (K : Int) ∧ (s.1 7).toInt < (t.1 7).toInt ∧ ∃ own' : Nat → Nat × Nat, (∀ x, x < (s.1 26).toInt.toNat → own' x = own x) ∧ UB own' b n (t.1 26).toInt.toNat t d Hh K ∧ SL own' b n (t.1 26).toInt.toNat t 240 241 (6 * d) (t.2.1 239 d).toInt.toNat)
theorem UI_sf {own : Nat → Nat × Nat} {b n W d Hh Dd : Nat} {s t : yS} {x y : Int32} (hI : UI own b n W d Hh Dd s t) (hT : TS b n W 0 3 (sf (sf t 8 y) 7 x)) (hx : (t.1 7).toInt ≤ x.toInt) (hy : y.toInt = 0 → (t.1 8).toInt = 0) : UI own b n W d Hh Dd s (sf (sf t 8 y) 7 x) := by
  obtain ⟨K, h0, h1, h2, h3, h4, h5, h6, h7, h8, h9, h10, h11, h12, h13, h14⟩ := hI
  refine ⟨K, h0, hT, NF_sf (NF_sf h2 (by decide)) (by decide), h3, h4, h5, h6, h7, h8, h9, h10, h11, h12, h13, fun q => ?_⟩
  obtain ⟨g0, g1, own', g2, g3, g4⟩ := h14 (hy q)
  exact ⟨g0, by show _ < x.toInt; omega, own', g2, UB_eq g3 ⟨fun _ _ _ _ => rfl, rfl, rfl⟩ (fun _ _ => rfl) (fun _ _ _ _ => rfl) (fun _ _ _ _ => rfl) (fun _ _ _ _ => rfl) (fun _ _ => rfl) (Nat.le_refl _), SL_eq g4 ⟨fun _ _ _ _ => rfl, rfl, rfl⟩ (fun _ _ => ⟨rfl, rfl⟩) (fun _ _ => rfl) (Nat.le_refl _)⟩
/-- readType's end -/
def TQ (own : Nat → Nat × Nat) (b n W T D Hh : Nat) (s s' : yS) : Prop := ∃ K : Nat, K ≤ 6 ∧ TS b n W 0 3 s' ∧ NF b (cT (s.1 26).toInt.toNat (24 * b + T) Hh (84 * b + D) b) s s' ∧ (s.1 26).toInt ≤ (s'.1 26).toInt ∧ (s'.1 42).toInt = (Hh : Int) + K ∧ (s'.2.1 233 b).toInt = (T : Int) + 1 ∧ (s'.2.1 263 b).toInt = (D : Int) + 1 ∧
  ((s'.1 8).toInt = 0 → (s.1 7).toInt < (s'.1 7).toInt ∧ (s'.2.1 262 (84 * b + D)).toInt = (T : Int) ∧ 0 ≤ (s'.2.1 235 (24 * b + T)).toInt ∧ (s'.2.1 235 (24 * b + T)).toInt ≤ 1 ∧ 0 ≤ (s'.2.1 239 (24 * b + T)).toInt ∧ (s'.2.1 239 (24 * b + T)).toInt ≤ 6 ∧ (s'.2.1 243 (24 * b + T)).toInt = (K : Int) ∧ ∃ own' : Nat → Nat × Nat, (∀ x, x < (s.1 26).toInt.toNat → own' x = own x) ∧ UB own' b n (s'.1 26).toInt.toNat s' (24 * b + T) Hh K ∧ SL own' b n (s'.1 26).toInt.toNat s' 240 241 (6 * (24 * b + T)) (s'.2.1 239 (24 * b + T)).toInt.toNat)
theorem u145 {own : Nat → Nat × Nat} {e b n W T D Hh : Nat} {a1 : Int32} {s t : yS} (hT : T < 24) (hD : D < 84) (r33 : (s.2.1 233 b).toInt = (T : Int)) (r63 : (s.2.1 263 b).toInt = (D : Int)) (hI : UI own b n W (24 * b + T) Hh (84 * b + D) s t) : w_180_145 (Tot (e + 2)) a1 t (fun v s' => v = none ∧ TQ own b n W T D Hh s s') := by
  have hb := hI.choose_spec.2.1.2.2.1
  unfold w_180_145
  refine Tot.imp (Tot.mono (by omega) (ts_167 (d := 0) (ch := 125) hI.choose_spec.2.1 (by decide) (by decide))) ?_
  rintro v s1 ⟨rfl, x, y, rfl, T1, hx, q1⟩
  refine ⟨rfl, ?_⟩
  have V := UI_sf hI (TS_mo T1 (by decide) (by decide)) hx (fun q => (q1 q).1.1)
  obtain ⟨u, hu⟩ : ∃ u, u = sf (sf t 8 y) 7 x := ⟨_, rfl⟩
  rw [← hu] at V ⊢
  clear T1 q1 hI hu
  obtain ⟨K, h0, h1, h2, h3, h4, h5, h6, h7, h8, h9, h10, h11, h12, h13, h14⟩ := V
  have hn : (u.1 30).toInt = (b : Int) := h1.2.2.2.1
  have en : (u.1 30).toInt.toNat = b := by omega
  rw [en]
  have u33 : u.2.1 233 b = s.2.1 233 b := by rw [h5]
  have u63 : u.2.1 263 b = s.2.1 263 b := by rw [h6]
  rw [u63]
  refine ⟨by omega, fun x3 hx3 => ⟨by omega, by omega, fun x4 hx4 => ⟨by omega, by omega, ?_⟩⟩⟩
  rintro s5 rfl
  have p30 : ∀ (w : yS) (p i : Nat) (v : Int32), (sa w p i v).1 30 = w.1 30 := fun _ _ _ _ => rfl
  simp only [p30, en]
  have ex : x4.toInt.toNat = 84 * b + D := by omega
  rw [ex]
  have v63 : (sa u 262 (84 * b + D) (u.2.1 233 b)).2.1 263 b = s.2.1 263 b := by
    rw [sa_2, if_neg (fun w => by omega)]
    exact u63
  rw [v63]
  refine ⟨by omega, by omega, fun x6 hx6 => ⟨by omega, ?_⟩⟩
  rintro s7 rfl
  have v33 : (sa (sa u 262 (84 * b + D) (u.2.1 233 b)) 263 b x6).2.1 233 b = s.2.1 233 b := by
    rw [sa_2, if_neg (fun w => by omega), sa_2, if_neg (fun w => by omega)]
    exact u33
  simp only [p30, en]
  rw [v33]
  refine ⟨by omega, by omega, fun x8 hx8 => ⟨by omega, ?_⟩⟩
  rintro s9 rfl
  obtain ⟨z, hz⟩ : ∃ z, z = sa (sa (sa u 262 (84 * b + D) (u.2.1 233 b)) 263 b x6) 233 b x8 := ⟨_, rfl⟩
  rw [← hz]
  have z1 : z.1 = u.1 := by rw [hz]; rfl
  have zr : ∀ p, ¬ p = 262 → ¬ p = 263 → ¬ p = 233 → ∀ i, z.2.1 p i = u.2.1 p i := by
    intro p p1 p2 p3 i
    rw [hz, sa_2, if_neg (fun w => p3 w.1), sa_2, if_neg (fun w => p2 w.1), sa_2, if_neg (fun w => p1 w.1)]
  have nd : ND (u.1 26).toInt.toNat u z := by
    rw [hz]
    exact ND_sa (ND_sa (ND_sa ND_rf (by decide)) (by decide)) (by decide)
  have Tz : TS b n W 0 3 z := by
    rw [hz]
    exact TS_sa (TS_sa (TS_sa h1 (by decide)) (by decide)) (by decide)
  have Nz : NF b (cT (s.1 26).toInt.toNat (24 * b + T) Hh (84 * b + D) b) s z := by
    rw [hz]
    refine NF_sa (NF_sa (NF_sa h2 ?_) ?_) ?_
    · rw [show cT (s.1 26).toInt.toNat (24 * b + T) Hh (84 * b + D) b 262 = 84 * b + D from by unfold cT; rw [if_neg (by decide), if_neg (by decide), if_neg (by decide), if_neg (by decide), if_neg (by decide), if_pos rfl], show zl 262 = 84 by decide]
      omega
    · rw [show cT (s.1 26).toInt.toNat (24 * b + T) Hh (84 * b + D) b 263 = b from by unfold cT; rw [if_neg (by decide), if_neg (by decide), if_neg (by decide), if_neg (by decide), if_neg (by decide), if_neg (by decide), if_pos (Or.inl rfl)], show zl 263 = 1 by decide]
      omega
    · rw [show cT (s.1 26).toInt.toNat (24 * b + T) Hh (84 * b + D) b 233 = b from by unfold cT; rw [if_neg (by decide), if_neg (by decide), if_neg (by decide), if_neg (by decide), if_neg (by decide), if_neg (by decide), if_pos (Or.inr rfl)], show zl 233 = 1 by decide]
      omega
  have q35 := zr 235 (by decide) (by decide) (by decide) (24 * b + T)
  have q39 := zr 239 (by decide) (by decide) (by decide) (24 * b + T)
  have q43 := zr 243 (by decide) (by decide) (by decide) (24 * b + T)
  refine ⟨trivial, K, h0, Tz, Nz, by rw [z1]; exact h3, by rw [z1]; exact h4, ?_, ?_, fun q => ?_⟩
  · rw [hz, sa_2, if_pos ⟨rfl, rfl⟩]
    omega
  · rw [hz, sa_2, if_neg (fun w => by omega), sa_2, if_pos ⟨rfl, rfl⟩]
    omega
  · rw [z1] at q ⊢
    obtain ⟨g0, g1, own', g2, g3, g4⟩ := h14 q
    rw [q35, q39, q43]
    refine ⟨g1, ?_, h8, h9, h10, h11, g0, own', g2, UB_eq g3 nd (fun p hp => zr p ?_ ?_ ?_ _) (fun p hp j _ => zr p ?_ ?_ ?_ _) (fun p hp j _ => zr p ?_ ?_ ?_ _) (fun p hp j _ => zr p ?_ ?_ ?_ _) (fun _ _ => rfl) (Nat.le_refl _), SL_eq g4 nd (fun j _ => ⟨zr 240 (by decide) (by decide) (by decide) _, zr 241 (by decide) (by decide) (by decide) _⟩) (fun _ _ => rfl) (Nat.le_refl _)⟩
    · rw [hz, sa_2, if_neg (fun w => by omega), sa_2, if_neg (fun w => by omega), sa_2, if_pos ⟨rfl, rfl⟩, u33]
      exact r33
    all_goals (clear zr; revert p; decide)
