/-! ===== rows of names and TYPES; readField ===== -/
def SL (own : Nat → Nat × Nat) (b n N : Nat) (s : yS) (a1 a2 fr k : Nat) : Prop := ∀ j, j < k → tkN b n s (s.2.1 a1 (fr + j)).toInt ∧ YS own b n N s a2 (fr + j)
section SLS
variable {own own' : Nat → Nat × Nat} {b n N N' : Nat} {s t : yS} {a1 a2 fr k : Nat}
theorem SL_eq (h : SL own b n N s a1 a2 fr k) (nd : ND N s t) (hc : ∀ j, j < k → t.2.1 a1 (fr + j) = s.2.1 a1 (fr + j) ∧ t.2.1 a2 (fr + j) = s.2.1 a2 (fr + j)) (ho : ∀ x, x < N → own' x = own x) (hN : N ≤ N') : SL own' b n N' t a1 a2 fr k := by
  intro j hj
  have := hc j hj
  exact ⟨by rw [this.1]; exact tkN_eq nd.2.1 nd.2.2 (h j hj).1, YS_eq nd this.2 ho hN (h j hj).2⟩
theorem SL_add (h : SL own b n N s a1 a2 fr k) (nd : ND N s t) (hc : ∀ j, j < k → t.2.1 a1 (fr + j) = s.2.1 a1 (fr + j) ∧ t.2.1 a2 (fr + j) = s.2.1 a2 (fr + j)) (ho : ∀ x, x < N → own' x = own x) (ho2 : ∀ x, N ≤ x → own' x = (a2, fr + k)) (hN : N ≤ N') (hb : 4002 * b ≤ N) (h1 : tkN b n t (t.2.1 a1 (fr + k)).toInt) (h2 : (t.2.1 a2 (fr + k)).toInt = (N : Int)) (h3 : isY b n t 11 N' N) : SL own' b n N' t a1 a2 fr (k + 1) := by
  intro j hj
  by_cases hjk : j = k
  · subst hjk
    exact ⟨h1, N, N', h2, hb, Nat.le_refl _, h3, fun x x1 _ => ho2 x x1⟩
  · exact SL_eq h nd hc ho hN j (by omega)
theorem SL_0 : SL own b n N s a1 a2 fr 0 := fun j hj => absurd hj (by omega)
theorem isY_nd {k hi x : Nat} (nd : ND N s t) (hh : hi ≤ N) (h : isY b n s k hi x) : isY b n t k hi x := isY_eq2 nd.2.1 nd.2.2 (fun z _ z2 => by
  have := ND_SR nd (x := z) (by omega)
  exact ⟨this.1, fun _ => this.2.1⟩) h
end SLS
def cD (N d : Nat) (p : Nat) : Nat := if p ∈ ndB then N else if p = 240 ∨ p = 241 then 6 * d else if p = 239 then d else 20000
/-- a struct's fields so far -/
def DI (own : Nat → Nat × Nat) (b n W d : Nat) (s t : yS) : Prop := 0 ≤ (t.2.1 239 d).toInt ∧ (t.2.1 239 d).toInt ≤ 6 ∧ TS b n W 0 3 t ∧ NF b (cD (s.1 26).toInt.toNat d) s t ∧ (s.1 26).toInt ≤ (t.1 26).toInt ∧ t.1 42 = s.1 42 ∧ ((t.1 8).toInt = 0 → ∃ own' : Nat → Nat × Nat, (∀ x, x < (s.1 26).toInt.toNat → own' x = own x) ∧ SL own' b n (t.1 26).toInt.toNat t 240 241 (6 * d) (t.2.1 239 d).toInt.toNat)
theorem DI_at {own : Nat → Nat × Nat} {b n W d : Nat} {s t : yS} {x y z : Int32} (h : DI own b n W d s t) (hT : TS b n W 0 3 (sf (sf t 8 y) 7 x)) (hy : y.toInt = 0 → (t.1 8).toInt = 0) : DI own b n W d s (sf (sf (sf t 8 y) 7 x) 27 z) := by
  obtain ⟨h1, h2, h3, h4, h5, h42, h6⟩ := h
  refine ⟨h1, h2, TS_27 hT, NF_sf (NF_sf (NF_sf h4 (by decide)) (by decide)) (by decide), h5, h42, fun q => ?_⟩
  obtain ⟨own', g2, g3⟩ := h6 (hy q)
  exact ⟨own', g2, SL_eq g3 ⟨fun _ _ _ _ => rfl, rfl, rfl⟩ (fun _ _ => ⟨rfl, rfl⟩) (fun _ _ => rfl) (Nat.le_refl _)⟩
theorem s_182 {own : Nat → Nat × Nat} {e b n W d : Nat} {a1 : Int32} {s t : yS} (h : DI own b n W d s t) (hf : (t.1 8).toInt = 0) (h1 : a1.toInt = (d : Int)) (hd : 24 * b ≤ d ∧ d < 24 * (b + 1)) (hs : 4002 * (b : Int) ≤ (s.1 26).toInt) : Tot (e + 26) 182 [.ref 213, .int a1] t (fun v s' => v = none ∧ DI own b n W d s s' ∧ ((s'.1 8).toInt = 0 → (t.1 7).toInt < (s'.1 7).toInt)) := by
  obtain ⟨i1, i2, i3, i4, i5, i42, i6⟩ := id h
  have hb := i3.2.2.1
  have ed : a1.toInt.toNat = d := by omega
  refine t_182 ?_
  unfold w_182_0
  rw [ed]
  have go : ∀ t1 : yS, t1.2 = t.2 → t1.1 42 = s.1 42 → t1.1 26 = t.1 26 → t1.1 7 = t.1 7 → NF b (cD (s.1 26).toInt.toNat d) s t1 → TS b n W 0 0 t1 → ((t1.1 8).toInt = 0 → nmAt t1 → (t.2.1 239 d).toInt ≤ 5) → w_182_14 (Tot (e + 25)) a1 t1 (fun v s' => v = none ∧ DI own b n W d s s' ∧ ((s'.1 8).toInt = 0 → (t.1 7).toInt < (s'.1 7).toInt)) := by
    intro t1 e2 e42 e26 e7 hN hT h5
    unfold w_182_14
    refine Tot.imp (Tot.mono (by omega) (ts_170 (d := 0) hT (by decide) (by decide))) ?_
    rintro v s2 ⟨rfl, x, y, rfl, T2, hx, q2⟩
    refine ⟨_, rfl, ?_⟩
    rintro s4 rfl
    have q8 : (sf (sf (sf t1 8 y) 7 x) 27 0).1 8 = y := rfl
    rw [q8]
    have end27 : ∀ (t0 : Int32) (u : yS), TS b n W 0 1 u → NF b (cD (s.1 26).toInt.toNat d) s u → u.2.1 239 = t.2.1 239 → u.1 42 = s.1 42 → (s.1 26).toInt ≤ (u.1 26).toInt → ((u.1 8).toInt = 0 → nmAt t1 ∧ tkN b n t1 (t1.1 7).toInt ∧ (t.1 7).toInt < (u.1 7).toInt ∧ t0 = t1.1 26 ∧ ND (t1.1 26).toInt.toNat t1 u ∧ u.2.1 240 = t1.2.1 240 ∧ u.2.1 241 = t1.2.1 241 ∧ (t1.1 26).toInt + 1 ≤ (u.1 26).toInt ∧ isY b n u 11 (u.1 26).toInt.toNat (t1.1 26).toInt.toNat) → w_182_27 (Tot (e + 25)) a1 (t1.1 7) t0 u (fun v s' => v = none ∧ DI own b n W d s s' ∧ ((s'.1 8).toInt = 0 → (t.1 7).toInt < (s'.1 7).toInt)) := by
      intro t0 u hU nU r39 u42 n26 hq
      unfold w_182_27 w_182_66
      refine Tot.imp (Tot.mono (by omega) (ts_167 (d := 0) (ch := 59) hU (by decide) (by decide))) ?_
      rintro v s3 ⟨rfl, x3, y3, rfl, T3, hx3, q3⟩
      refine ⟨rfl, ?_⟩
      have p8 : (sf (sf u 8 y3) 7 x3).1 8 = y3 := rfl
      have n3 : NF b (cD (s.1 26).toInt.toNat d) s (sf (sf u 8 y3) 7 x3) := NF_sf (NF_sf nU (by decide)) (by decide)
      rw [p8]
      refine ⟨fun y0 => ⟨rfl, ⟨by show 0 ≤ (u.2.1 239 d).toInt; rw [r39]; exact i1, by show (u.2.1 239 d).toInt ≤ 6; rw [r39]; exact i2, TS_mo T3 (by decide) (by decide), n3, n26, u42, fun q => absurd q y0⟩, fun q => absurd q y0⟩, fun y0 => ?_⟩
      have u8 := (q3 y0).1.1
      obtain ⟨k1, k2, k3, k4, k5, k6, k7, k8, k9⟩ := hq u8
      have f5 := h5 k1.1 k1
      have hr : ∀ w : yS, w.2.1 239 d = t.2.1 239 d → (w.2.1 239 d).toInt = (t.2.1 239 d).toInt := fun w hw => by rw [hw]
      rw [ed]
      have c39 : (sf (sf u 8 y3) 7 x3).2.1 239 d = t.2.1 239 d := by show u.2.1 239 d = _; rw [r39]
      rw [c39]
      refine ⟨by omega, fun x4 hx4 => ⟨by omega, by omega, fun x5 hx5 => ⟨by omega, ?_⟩⟩⟩
      rintro s5 rfl
      refine ⟨by omega, fun x6 hx6 => ⟨by omega, ?_⟩⟩
      have d39 : (sa (sf (sf u 8 y3) 7 x3) 240 x5.toInt.toNat (t1.1 7)).2.1 239 d = t.2.1 239 d := by
        rw [sa_2, if_neg (fun w => by omega)]
        exact c39
      rw [d39]
      refine ⟨by omega, fun x7 hx7 => ⟨by omega, ?_⟩⟩
      rintro s8 rfl
      have e39 : (sa (sa (sf (sf u 8 y3) 7 x3) 240 x5.toInt.toNat (t1.1 7)) 241 x7.toInt.toNat t0).2.1 239 d = t.2.1 239 d := by
        rw [sa_2, if_neg (fun w => by omega)]
        exact d39
      rw [e39]
      refine ⟨by omega, by omega, fun x9 hx9 => ⟨by omega, ?_⟩⟩
      rintro s10 rfl
      have ex5 : x5.toInt.toNat = 6 * d + (t.2.1 239 d).toInt.toNat := by omega
      have ex7 : x7.toInt.toNat = 6 * d + (t.2.1 239 d).toInt.toNat := by omega
      rw [ex5, ex7]
      obtain ⟨K, hK⟩ : ∃ K, K = (t.2.1 239 d).toInt.toNat := ⟨_, rfl⟩
      rw [← hK]
      have e10 : (sa (sa (sa (sf (sf u 8 y3) 7 x3) 240 (6 * d + K) (t1.1 7)) 241 (6 * d + K) t0) 239 d x9).2.1 239 d = x9 := by
        rw [sa_2, if_pos ⟨rfl, rfl⟩]
      refine ⟨rfl, ⟨?_, ?_, TS_sa (TS_sa (TS_sa (TS_mo T3 (by decide) (by decide)) (by decide)) (by decide)) (by decide), NF_sa (NF_sa (NF_sa n3 ?_) ?_) ?_, n26, u42, fun _ => ?_⟩, fun _ => by show _ < x3.toInt; omega⟩
      · rw [e10]; omega
      · rw [e10]; omega
      · have : cD (s.1 26).toInt.toNat d 240 = 6 * d := by unfold cD; rw [if_neg (by decide), if_pos (Or.inl rfl)]
        rw [this, show zl 240 = 144 by decide]
        omega
      · have : cD (s.1 26).toInt.toNat d 241 = 6 * d := by unfold cD; rw [if_neg (by decide), if_pos (Or.inr rfl)]
        rw [this, show zl 241 = 144 by decide]
        omega
      · have : cD (s.1 26).toInt.toNat d 239 = d := by unfold cD; rw [if_neg (by decide), if_neg (by decide), if_pos rfl]
        rw [this, show zl 239 = 24 by decide]
        omega
      · have t8 : (t.1 8).toInt = 0 := hf
        obtain ⟨own', o1, o2⟩ := i6 t8
        have nd : ND (t1.1 26).toInt.toNat t (sa (sa (sa (sf (sf u 8 y3) 7 x3) 240 (6 * d + K) (t1.1 7)) 241 (6 * d + K) t0) 239 d x9) := ND_sa (ND_sa (ND_sa (ND_tr (s' := t1) ⟨fun _ _ _ _ => by rw [e2], by rw [e2], by rw [e2]⟩ k5 (Nat.le_refl _)) (by decide)) (by decide)) (by decide)
        have ndU : ND (u.1 26).toInt.toNat u (sa (sa (sa (sf (sf u 8 y3) 7 x3) 240 (6 * d + K) (t1.1 7)) 241 (6 * d + K) t0) 239 d x9) := ND_sa (ND_sa (ND_sa ⟨fun _ _ _ _ => rfl, rfl, rfl⟩ (by decide)) (by decide)) (by decide)
        have t0e := i3.2.2.2.2.1
        refine ⟨fun z => if z < (t1.1 26).toInt.toNat then own' z else (241, 6 * d + K), fun z hz => ?_, ?_⟩
        · show (if z < _ then _ else _) = _
          rw [if_pos (by rw [e26]; omega)]
          exact o1 z hz
        · rw [e10, show x9.toInt.toNat = K + 1 by omega]
          rw [← e26, ← hK] at o2
          refine SL_add o2 nd (fun j hj => ⟨?_, ?_⟩) (fun z hz => if_pos hz) (fun z hz => if_neg (by omega)) (by show _ ≤ (u.1 26).toInt.toNat; omega) (by rw [e26]; omega) ?_ ?_ (isY_nd ndU (Nat.le_refl _) k9)
          · rw [sa_2, if_neg (fun w => by omega), sa_2, if_neg (fun w => by omega), sa_2, if_neg (fun w => by omega)]
            show u.2.1 240 _ = _
            rw [k6, e2]
          · rw [sa_2, if_neg (fun w => by omega), sa_2, if_neg (fun w => by omega), sa_2, if_neg (fun w => by omega)]
            show u.2.1 241 _ = _
            rw [k7, e2]
          · rw [sa_2, if_neg (fun w => by omega), sa_2, if_neg (fun w => by omega), sa_2, if_pos ⟨rfl, rfl⟩]
            exact tkN_eq (by rw [nd.2.1, e2]) (by rw [nd.2.2, e2]) k2
          · rw [sa_2, if_neg (fun w => by omega), sa_2, if_pos ⟨rfl, rfl⟩, k4]
            rw [e26]
            omega
    have n2 : NF b (cD (s.1 26).toInt.toNat d) s (sf (sf (sf t1 8 y) 7 x) 27 0) := NF_sf (NF_sf (NF_sf hN (by decide)) (by decide)) (by decide)
    refine ⟨fun y0 => end27 _ _ (TS_mo (TS_27 T2) (by decide) (by decide)) n2 (by show t1.2.1 239 = _; rw [e2]) e42 (by show _ ≤ (t1.1 26).toInt; rw [e26]; exact i5) (fun q => absurd q y0), fun y0 => ?_⟩
    have nm := q2 y0
    refine Tot.imp (ts_173 (d := e) (TS_27 (v := 0) T2) (by decide) y0 (by show (0 : Int32).toInt = 0; decide)) ?_
    rintro v s5 ⟨rfl, T5, f5, n5, q5⟩
    have p26 : (sf (sf (sf t1 8 y) 7 x) 27 0).1 26 = t1.1 26 := rfl
    have p7 : (sf (sf (sf t1 8 y) 7 x) 27 0).1 7 = x := rfl
    rw [p26] at f5 n5 q5 ⊢
    rw [p7] at q5
    refine ⟨_, rfl, ?_⟩
    have dv : (t1.1 26).toInt.toNat / 4002 = b := TS_dv (s := sf (sf t1 8 y) 7 x) T2 (by decide)
    refine end27 _ _ (TS_mo T5 (by decide) (by decide)) (NF_tr n2 (NF_fr (c := cD (s.1 26).toInt.toNat d) f5 dv (fun p hp => by unfold cD; rw [if_pos hp, e26]; omega)) (fun _ => Nat.le_refl _)) ?_ ((f5.1 42 (by decide)).trans e42) (by rw [e26] at n5; omega) (fun q => ⟨nm.1, nm.2, by have := (q5 q).1; rw [e7] at hx; omega, rfl, ND_tr (s' := sf (sf (sf t1 8 y) 7 x) 27 0) ⟨fun _ _ _ _ => rfl, rfl, rfl⟩ (ND_fr f5) (Nat.le_refl _), by rw [Fr_row f5 (by decide)]; rfl, by rw [Fr_row f5 (by decide)]; rfl, n5, (q5 q).2⟩)
    rw [Fr_row f5 (by decide)]
    show t1.2.1 239 = _
    rw [e2]
  have hT0 := TS_c (c' := 0) i3 hf
  refine ⟨by omega, fun h6 => go t rfl i42 rfl rfl i4 hT0 (fun _ _ => by omega), fun h6 => ?_⟩
  refine Tot.imp (Tot.mono (by omega) (s_166 (d := 0) i3.1 i3.2.1)) ?_
  rintro v s7 ⟨e7, x9, rfl, h9⟩
  have e7 := e7.symm
  subst e7
  refine ⟨x9, rfl, fun h0 => go t rfl i42 rfl rfl i4 hT0 (fun _ q => absurd q ((h9.resolve_left (fun w => by omega)).2)), fun h0 => ?_⟩
  refine Tot.imp (Tot.mono (by omega) (ts_163 (d := 0) (w := 5) i3 (by decide) (by decide) hf (i3.2.1.2.2.2.2 hf))) ?_
  rintro v s8 ⟨rfl, y, rfl, y0, hT⟩
  exact ⟨rfl, go _ rfl i42 rfl rfl (NF_sf i4 (by decide)) (hT 0 0 (by decide)) (fun q => absurd q y0)⟩
