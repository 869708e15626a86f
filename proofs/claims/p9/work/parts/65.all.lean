/-! ===== readAll ===== -/
/-- a type is read -/
def RT (own : Nat → Nat × Nat) (b n N Hh : Nat) (s : yS) (d : Nat) : Prop := tkN b n s (s.2.1 234 d).toInt ∧ 0 ≤ (s.2.1 235 d).toInt ∧ (s.2.1 235 d).toInt ≤ 1 ∧ 0 ≤ (s.2.1 236 d).toInt ∧ (s.2.1 236 d).toInt ≤ 6 ∧ SL own b n N s 237 238 (6 * d) (s.2.1 236 d).toInt.toNat ∧ 0 ≤ (s.2.1 239 d).toInt ∧ (s.2.1 239 d).toInt ≤ 6 ∧ SL own b n N s 240 241 (6 * d) (s.2.1 239 d).toInt.toNat ∧ 204 * (b : Int) ≤ (s.2.1 242 d).toInt ∧ 0 ≤ (s.2.1 243 d).toInt ∧ (s.2.1 243 d).toInt ≤ 6 ∧ (s.2.1 242 d).toInt + (s.2.1 243 d).toInt ≤ (Hh : Int)
def RF (own : Nat → Nat × Nat) (b n N Hh : Nat) (s : yS) (f : Nat) : Prop := RFa b n s f ∧ 204 * (b : Int) ≤ (s.2.1 257 f).toInt ∧ (s.2.1 257 f).toInt < (Hh : Int) ∧ ES own b n N s 258 f
section RTS
variable {own own' : Nat → Nat × Nat} {b n N N' Hh Hh' : Nat} {s t : yS} {d f : Nat}
theorem RT_eq (hr : RT own b n N Hh s d) (nd : ND N s t) (hc : ∀ p ∈ tR, t.2.1 p d = s.2.1 p d) (hc6 : ∀ p ∈ t6, ∀ j, j < 6 → t.2.1 p (6 * d + j) = s.2.1 p (6 * d + j)) (ho : ∀ x, x < N → own' x = own x) (hN : N ≤ N') (hH : Hh ≤ Hh') : RT own' b n N' Hh' t d := by
  obtain ⟨h1, h2, h3, h4, h5, h6, h7, h8, h9, h10, h11, h12, h13⟩ := hr
  unfold RT
  rw [hc 234 (by decide), hc 235 (by decide), hc 236 (by decide), hc 239 (by decide), hc 242 (by decide), hc 243 (by decide)]
  exact ⟨tkN_eq nd.2.1 nd.2.2 h1, h2, h3, h4, h5, SL_eq h6 nd (fun j hj => ⟨hc6 _ (by decide) j (by omega), hc6 _ (by decide) j (by omega)⟩) ho hN, h7, h8, SL_eq h9 nd (fun j hj => ⟨hc6 _ (by decide) j (by omega), hc6 _ (by decide) j (by omega)⟩) ho hN, h10, h11, h12, by omega⟩
theorem RF_eq (hr : RF own b n N Hh s f) (nd : ND N s t) (hc : ∀ p ∈ fR, t.2.1 p f = s.2.1 p f) (ho : ∀ x, x < N → own' x = own x) (hN : N ≤ N') (hH : Hh ≤ Hh') : RF own' b n N' Hh' t f := by
  obtain ⟨h1, h2, h3, h4⟩ := hr
  refine ⟨RFa_eq h1 nd.2.1 nd.2.2 (fun p hp => hc p (by revert p; decide)), by rw [hc 257 (by decide)]; exact h2, by rw [hc 257 (by decide)]; omega, ES_eq nd (hc 258 (by decide)) ho hN h4⟩
end RTS
/-- what was declared, in its order -/
def DC (b T F : Nat) (s : yS) : Prop := (∀ d, d < T → ∃ i, i < T + F ∧ (s.2.1 262 (84 * b + i)).toInt = (d : Int)) ∧ (∀ f, f < F → ∃ i, i < T + F ∧ (s.2.1 262 (84 * b + i)).toInt = 100 + (f : Int)) ∧ ∀ i, i < T + F → (∃ d, d < T ∧ (s.2.1 262 (84 * b + i)).toInt = (d : Int)) ∨ (∃ f, f < F ∧ (s.2.1 262 (84 * b + i)).toInt = 100 + (f : Int))
/-- the heads, in the order of what was declared -/
def HO (b T F H : Nat) (s : yS) : Prop := ∃ hs : Nat → Nat, hs 0 = 0 ∧ hs (T + F) = H ∧ (∀ i j, i < T + F → j < T + F → (s.2.1 262 (84 * b + i)).toInt = (s.2.1 262 (84 * b + j)).toInt → i = j) ∧ ∀ i, i < T + F → hs i ≤ hs (i + 1) ∧ ((∃ d, d < T ∧ (s.2.1 262 (84 * b + i)).toInt = (d : Int) ∧ (s.2.1 242 (24 * b + d)).toInt = 204 * (b : Int) + (hs i : Nat) ∧ (hs i : Int) + (s.2.1 243 (24 * b + d)).toInt = (hs (i + 1) : Int)) ∨ (∃ f, f < F ∧ (s.2.1 262 (84 * b + i)).toInt = 100 + (f : Int) ∧ (s.2.1 257 (60 * b + f)).toInt = 204 * (b : Int) + (hs i : Nat) ∧ hs (i + 1) = hs i + 1))
/-- the tables of bank b -/
def RAq (own : Nat → Nat × Nat) (b n N T F H : Nat) (s : yS) : Prop := (∀ d, d < T → RT own b n N (204 * b + H) s (24 * b + d)) ∧ (∀ h, h < H → RH own b n N s (204 * b + h)) ∧ (∀ f, f < F → RF own b n N (204 * b + H) s (60 * b + f)) ∧ DC b T F s ∧ HO b T F H s
/-- counters -/
def RC (b T F H : Nat) (s : yS) : Prop := T ≤ 24 ∧ F ≤ 60 ∧ H ≤ 6 * T + F ∧ (s.2.1 233 b).toInt = (T : Int) ∧ (s.2.1 252 b).toInt = (F : Int) ∧ (s.2.1 263 b).toInt = (T : Int) + F ∧ (s.1 42).toInt = 204 * (b : Int) + H
def c0 (b : Nat) (p : Nat) : Nat := zl p * b
def AI (b n W : Nat) (s t : yS) : Prop := TS b n W 0 3 t ∧ NF b (c0 b) s t ∧ ∃ T F H : Nat, RC b T F H t ∧ ((t.1 8).toInt = 0 → ∃ own, RAq own b n (t.1 26).toInt.toNat T F H t)
theorem c0_le {b p : Nat} (hb : b < 2) : c0 b p ≤ 20000 := by
  unfold c0
  have := zl_le p
  have : zl p * b ≤ 4002 * 2 := Nat.mul_le_mul this (by omega)
  omega
theorem c0_cT {b N T Hh D : Nat} (hb : b < 2) (hN : 4002 * b ≤ N) (hH : 204 * b ≤ Hh) (p : Nat) : c0 b p ≤ cT N (24 * b + T) Hh (84 * b + D) b p := by
  by_cases h1 : p ∈ ndB
  · rw [cT_n h1]; unfold c0 zl; rw [if_pos h1]; exact hN
  · by_cases h2 : p ∈ tR
    · rw [cT_t h2]; unfold c0; rw [zl_tR h2]; omega
    · by_cases h3 : p ∈ t6
      · rw [cT_6 h3]; unfold c0; rw [zl_t6 h3]; omega
      · by_cases h4 : p ∈ hR
        · rw [cT_h h4]; unfold c0; rw [zl_hR h4]; omega
        · by_cases h5 : p ∈ h6
          · rw [cT_h6 h5]; unfold c0; rw [zl_h6 h5]; omega
          · unfold cT
            rw [if_neg h1, if_neg h2, if_neg h3, if_neg h4, if_neg h5]
            split
            · rename_i q
              rw [q]; unfold c0; rw [show zl 262 = 84 by decide]; omega
            · split
              · rename_i q
                rcases q with q | q <;> rw [q] <;> unfold c0
                · rw [show zl 263 = 1 by decide]; omega
                · rw [show zl 233 = 1 by decide]; omega
              · exact c0_le hb
theorem c0_cU {b N F Hh D : Nat} (hb : b < 2) (hN : 4002 * b ≤ N) (hH : 204 * b ≤ Hh) (p : Nat) : c0 b p ≤ cU N (60 * b + F) Hh (84 * b + D) b p := by
  by_cases h1 : p ∈ ndB
  · rw [cU_n h1]; unfold c0 zl; rw [if_pos h1]; exact hN
  · by_cases h2 : p ∈ fR
    · rw [cU_f h2]; unfold c0; rw [zl_fR h2]; omega
    · by_cases h4 : p ∈ hR
      · rw [cU_h h4]; unfold c0; rw [zl_hR h4]; omega
      · by_cases h5 : p ∈ h6
        · rw [cU_h6 h5]; unfold c0; rw [zl_h6 h5]; omega
        · unfold cU
          rw [if_neg h1, if_neg h2, if_neg h4, if_neg h5]
          split
          · rename_i q
            rw [q]; unfold c0; rw [show zl 262 = 84 by decide]; omega
          · split
            · rename_i q
              rcases q with q | q <;> rw [q] <;> unfold c0
              · rw [show zl 263 = 1 by decide]; omega
              · rw [show zl 252 = 1 by decide]; omega
            · exact c0_le hb
theorem RA_T {own own' : Nat → Nat × Nat} {b n W N T F H K : Nat} {t s' : yS} (hT24 : T < 24) (hb : b < 2) (hN : N = (t.1 26).toInt.toNat) (h : RAq own b n N T F H t) (hF : NF b (cT N (24 * b + T) (204 * b + H) (84 * b + (T + F)) b) t s') (hNN : N ≤ (s'.1 26).toInt.toNat) (h262 : (s'.2.1 262 (84 * b + (T + F))).toInt = (T : Int)) (k1 : 0 ≤ (s'.2.1 235 (24 * b + T)).toInt) (k2 : (s'.2.1 235 (24 * b + T)).toInt ≤ 1) (k3 : 0 ≤ (s'.2.1 239 (24 * b + T)).toInt) (k4 : (s'.2.1 239 (24 * b + T)).toInt ≤ 6) (k5 : (s'.2.1 243 (24 * b + T)).toInt = (K : Int)) (hK : K ≤ 6) (ho : ∀ x, x < N → own' x = own x) (hU : UB own' b n (s'.1 26).toInt.toNat s' (24 * b + T) (204 * b + H) K) (hS : SL own' b n (s'.1 26).toInt.toNat s' 240 241 (6 * (24 * b + T)) (s'.2.1 239 (24 * b + T)).toInt.toNat) : RAq own' b n (s'.1 26).toInt.toNat (T + 1) F (H + K) s' := by
  obtain ⟨a1, a2, a3, a4, a5⟩ := h
  have nd : ND N t s' := ND_nf hF (fun p hp => by rw [cT_n hp]; exact Nat.le_refl _)
  obtain ⟨u1, u2, u3, u4, u5, u6⟩ := hU
  have keep : ∀ p i, i < cT N (24 * b + T) (204 * b + H) (84 * b + (T + F)) b p → s'.2.1 p i = t.2.1 p i := fun p i hi => hF.2.1 p i (fun q => by omega)
  have c62 : cT N (24 * b + T) (204 * b + H) (84 * b + (T + F)) b 262 = 84 * b + (T + F) := by
    unfold cT
    rw [if_neg (by decide), if_neg (by decide), if_neg (by decide), if_neg (by decide), if_neg (by decide), if_pos rfl]
  have k62 : ∀ i, i < T + F → s'.2.1 262 (84 * b + i) = t.2.1 262 (84 * b + i) := fun i hi => keep 262 _ (by rw [c62]; omega)
  refine ⟨fun d hd => ?_, fun h hh => ?_, fun f hf => ?_, ?_, ?_⟩
  · by_cases e : d = T
    · rw [e]
      exact ⟨u1, k1, k2, u2, u3, u4, k3, k4, hS, by omega, by omega, by omega, by omega⟩
    · exact RT_eq (a1 d (by omega)) nd (fun p hp => keep p _ (by rw [cT_t hp]; omega)) (fun p hp j hj => keep p _ (by rw [cT_6 hp]; omega)) ho hNN (by omega)
  · by_cases e : h < H
    · exact RH_eq (a2 h e) nd (fun p hp => keep p _ (by rw [cT_h hp]; omega)) (fun p hp j hj => keep p _ (by rw [cT_h6 hp]; omega)) ho hNN
    · have := u6 (h - H) (by omega)
      rw [show 204 * b + H + (h - H) = 204 * b + h by omega] at this
      exact this
  · refine RF_eq (a3 f hf) nd (fun p hp => ?_) ho hNN (by omega)
    rw [NF_20 hF hb]
    have h1 : p ∉ ndB ∧ p ∉ tR ∧ p ∉ t6 ∧ p ∉ hR ∧ p ∉ h6 ∧ ¬ p = 262 ∧ ¬ (p = 263 ∨ p = 233) := by clear keep; revert p; decide
    unfold cT
    rw [if_neg h1.1, if_neg h1.2.1, if_neg h1.2.2.1, if_neg h1.2.2.2.1, if_neg h1.2.2.2.2.1, if_neg h1.2.2.2.2.2.1, if_neg h1.2.2.2.2.2.2]
  · obtain ⟨d1, d2, d3⟩ := a4
    refine ⟨fun d hd => ?_, fun f hf => ?_, fun i hi => ?_⟩
    · by_cases e : d = T
      · exact ⟨T + F, by omega, by rw [h262, e]⟩
      · obtain ⟨i, i1, i2⟩ := d1 d (by omega)
        exact ⟨i, by omega, by rw [k62 i i1]; exact i2⟩
    · obtain ⟨i, i1, i2⟩ := d2 f hf
      exact ⟨i, by omega, by rw [k62 i i1]; exact i2⟩
    · by_cases e : i = T + F
      · exact Or.inl ⟨T, by omega, by rw [e]; exact h262⟩
      · rw [k62 i (by omega)]
        rcases d3 i (by omega) with ⟨d, q1, q2⟩ | ⟨f, q1, q2⟩
        · exact Or.inl ⟨d, by omega, q2⟩
        · exact Or.inr ⟨f, q1, q2⟩
  · obtain ⟨hs, o1, o2, o3, o4⟩ := a5
    have v62 : ∀ i, i < T + F → ¬ (t.2.1 262 (84 * b + i)).toInt = (T : Int) := by
      intro i hi w
      rcases (o4 i hi).2 with ⟨d, q1, q2, -⟩ | ⟨f, q1, q2, -⟩
      · omega
      · omega
    have r57 : s'.2.1 257 = t.2.1 257 := NF_20 hF hb (by unfold cT; rw [if_neg (by decide), if_neg (by decide), if_neg (by decide), if_neg (by decide), if_neg (by decide), if_neg (by decide), if_neg (by decide)])
    refine ⟨fun i => if i ≤ T + F then hs i else H + K, ?_, ?_, fun i j hi hj e => ?_, fun i hi => ?_⟩
    · show (if (0 : Nat) ≤ T + F then hs 0 else H + K) = 0
      rw [if_pos (Nat.zero_le _)]
      exact o1
    · show (if T + 1 + F ≤ T + F then hs (T + 1 + F) else H + K) = H + K
      rw [if_neg (by omega)]
    · by_cases ei : i = T + F
      · by_cases ej : j = T + F
        · omega
        · rw [ei, h262, k62 j (by omega)] at e
          exact absurd e.symm (v62 j (by omega))
      · by_cases ej : j = T + F
        · rw [ej, h262, k62 i (by omega)] at e
          exact absurd e (v62 i (by omega))
        · rw [k62 i (by omega), k62 j (by omega)] at e
          exact o3 i j (by omega) (by omega) e
    · by_cases ei : i = T + F
      · subst ei
        simp only [if_pos (Nat.le_refl (T + F)), if_neg (show ¬ T + F + 1 ≤ T + F by omega)]
        rw [o2]
        exact ⟨by omega, Or.inl ⟨T, by omega, h262, by rw [u5]; omega, by rw [k5]; omega⟩⟩
      · simp only [if_pos (show i ≤ T + F by omega), if_pos (show i + 1 ≤ T + F by omega)]
        obtain ⟨p1, p2⟩ := o4 i (by omega)
        refine ⟨p1, ?_⟩
        rw [k62 i (by omega)]
        rcases p2 with ⟨d, q1, q2, q3, q4⟩ | ⟨f, q1, q2, q3, q4⟩
        · exact Or.inl ⟨d, by omega, q2, by rw [keep 242 _ (by rw [cT_t (by decide)]; omega)]; exact q3, by rw [keep 243 _ (by rw [cT_t (by decide)]; omega)]; exact q4⟩
        · exact Or.inr ⟨f, q1, q2, by rw [r57]; exact q3, q4⟩
theorem RA_F {own own' : Nat → Nat × Nat} {b n W N T F H : Nat} {t s' : yS} (hT24 : T ≤ 24) (hb : b < 2) (hN : N = (t.1 26).toInt.toNat) (h : RAq own b n N T F H t) (hF : NF b (cU N (60 * b + F) (204 * b + H) (84 * b + (T + F)) b) t s') (hNN : N ≤ (s'.1 26).toInt.toNat) (h262 : (s'.2.1 262 (84 * b + (T + F))).toInt = 100 + (F : Int)) (h257 : (s'.2.1 257 (60 * b + F)).toInt = ((204 * b + H : Nat) : Int)) (hR' : RFa b n s' (60 * b + F)) (ho : ∀ x, x < N → own' x = own x) (hH : RH own' b n (s'.1 26).toInt.toNat s' (204 * b + H)) (hE : ES own' b n (s'.1 26).toInt.toNat s' 258 (60 * b + F)) : RAq own' b n (s'.1 26).toInt.toNat T (F + 1) (H + 1) s' := by
  obtain ⟨a1, a2, a3, a4, a5⟩ := h
  have nd : ND N t s' := ND_nf hF (fun p hp => by rw [cU_n hp]; exact Nat.le_refl _)
  have keep : ∀ p i, i < cU N (60 * b + F) (204 * b + H) (84 * b + (T + F)) b p → s'.2.1 p i = t.2.1 p i := fun p i hi => hF.2.1 p i (fun q => by omega)
  have keep2 : ∀ p, p ∈ tR ∨ p ∈ t6 → s'.2.1 p = t.2.1 p := by
    intro p hp
    refine NF_20 hF hb ?_
    have h1 : p ∉ ndB ∧ p ∉ fR ∧ p ∉ hR ∧ p ∉ h6 ∧ ¬ p = 262 ∧ ¬ (p = 263 ∨ p = 252) := by
      clear keep
      rcases hp with hp | hp
      · revert p; decide
      · revert p; decide
    unfold cU
    rw [if_neg h1.1, if_neg h1.2.1, if_neg h1.2.2.1, if_neg h1.2.2.2.1, if_neg h1.2.2.2.2.1, if_neg h1.2.2.2.2.2]
  have c62 : cU N (60 * b + F) (204 * b + H) (84 * b + (T + F)) b 262 = 84 * b + (T + F) := by
    unfold cU
    rw [if_neg (by decide), if_neg (by decide), if_neg (by decide), if_neg (by decide), if_pos rfl]
  have k62 : ∀ i, i < T + F → s'.2.1 262 (84 * b + i) = t.2.1 262 (84 * b + i) := fun i hi => keep 262 _ (by rw [c62]; omega)
  refine ⟨fun d hd => ?_, fun h hh => ?_, fun f hf => ?_, ?_, ?_⟩
  · exact RT_eq (a1 d (by omega)) nd (fun p hp => by rw [keep2 p (Or.inl hp)]) (fun p hp j hj => by rw [keep2 p (Or.inr hp)]) ho hNN (by omega)
  · by_cases e : h < H
    · exact RH_eq (a2 h e) nd (fun p hp => keep p _ (by rw [cU_h hp]; omega)) (fun p hp j hj => keep p _ (by rw [cU_h6 hp]; omega)) ho hNN
    · rw [show h = H by omega]
      exact hH
  · by_cases e : f = F
    · rw [e]
      exact ⟨hR', by omega, by omega, hE⟩
    · exact RF_eq (a3 f (by omega)) nd (fun p hp => keep p _ (by rw [cU_f hp]; omega)) ho hNN (by omega)
  · obtain ⟨d1, d2, d3⟩ := a4
    refine ⟨fun d hd => ?_, fun f hf => ?_, fun i hi => ?_⟩
    · obtain ⟨i, i1, i2⟩ := d1 d hd
      exact ⟨i, by omega, by rw [k62 i i1]; exact i2⟩
    · by_cases e : f = F
      · exact ⟨T + F, by omega, by rw [h262, e]⟩
      · obtain ⟨i, i1, i2⟩ := d2 f (by omega)
        exact ⟨i, by omega, by rw [k62 i i1]; exact i2⟩
    · by_cases e : i = T + F
      · exact Or.inr ⟨F, by omega, by rw [e]; exact h262⟩
      · rw [k62 i (by omega)]
        rcases d3 i (by omega) with ⟨d, q1, q2⟩ | ⟨f, q1, q2⟩
        · exact Or.inl ⟨d, by omega, q2⟩
        · exact Or.inr ⟨f, by omega, q2⟩
  · obtain ⟨hs, o1, o2, o3, o4⟩ := a5
    have v62 : ∀ i, i < T + F → ¬ (t.2.1 262 (84 * b + i)).toInt = 100 + (F : Int) := by
      intro i hi w
      rcases (o4 i hi).2 with ⟨d, q1, q2, -⟩ | ⟨f, q1, q2, -⟩
      · omega
      · omega
    refine ⟨fun i => if i ≤ T + F then hs i else H + 1, ?_, ?_, fun i j hi hj e => ?_, fun i hi => ?_⟩
    · show (if (0 : Nat) ≤ T + F then hs 0 else H + 1) = 0
      rw [if_pos (Nat.zero_le _)]
      exact o1
    · show (if T + (F + 1) ≤ T + F then hs (T + (F + 1)) else H + 1) = H + 1
      rw [if_neg (by omega)]
    · by_cases ei : i = T + F
      · by_cases ej : j = T + F
        · omega
        · rw [ei, h262, k62 j (by omega)] at e
          exact absurd e.symm (v62 j (by omega))
      · by_cases ej : j = T + F
        · rw [ej, h262, k62 i (by omega)] at e
          exact absurd e (v62 i (by omega))
        · rw [k62 i (by omega), k62 j (by omega)] at e
          exact o3 i j (by omega) (by omega) e
    · by_cases ei : i = T + F
      · subst ei
        simp only [if_pos (Nat.le_refl (T + F)), if_neg (show ¬ T + F + 1 ≤ T + F by omega)]
        rw [o2]
        exact ⟨by omega, Or.inr ⟨F, by omega, h262, by rw [h257]; omega, rfl⟩⟩
      · simp only [if_pos (show i ≤ T + F by omega), if_pos (show i + 1 ≤ T + F by omega)]
        obtain ⟨p1, p2⟩ := o4 i (by omega)
        refine ⟨p1, ?_⟩
        rw [k62 i (by omega)]
        rcases p2 with ⟨d, q1, q2, q3, q4⟩ | ⟨f, q1, q2, q3, q4⟩
        · exact Or.inl ⟨d, by omega, q2, by rw [keep2 242 (Or.inl (by decide))]; exact q3, by rw [keep2 243 (Or.inl (by decide))]; exact q4⟩
        · exact Or.inr ⟨f, by omega, q2, by rw [keep 257 _ (by rw [cU_f (by decide)]; omega)]; exact q3, q4⟩
