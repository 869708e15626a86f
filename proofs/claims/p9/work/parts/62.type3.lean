theorem u74 {own : Nat → Nat × Nat} {e b n W T D Hh : Nat} {a1 : Int32} {s t : yS} (hT : T < 24) (hD : D < 84) (hH : 204 * b ≤ Hh ∧ Hh + 6 ≤ 204 * (b + 1)) (h1 : a1.toInt = 24 * (b : Int) + T) (r33 : (s.2.1 233 b).toInt = (T : Int)) (r63 : (s.2.1 263 b).toInt = (D : Int)) (hs : 4002 * (b : Int) ≤ (s.1 26).toInt) (hI : ∀ v : Int32, 0 ≤ v.toInt → v.toInt ≤ 1 → UI own b n W (24 * b + T) Hh (84 * b + D) s (sa t 235 (24 * b + T) v)) (hTt : TS b n W 0 3 t) : w_180_74 (Tot (e + 27)) a1 t (fun v s' => v = none ∧ TQ own b n W T D Hh s s') := by
  have hb := hTt.2.2.1
  have e1 : a1.toInt.toNat = 24 * b + T := by omega
  unfold w_180_74
  refine Tot.imp (Tot.mono (by omega) (s_165 (d := 0) (c := 1) hTt.1 hTt.2.1)) ?_
  rintro v s1 ⟨e0, x3, rfl, hx⟩
  have e0 := e0.symm
  subst e0
  have x01 : x3.toInt = 0 ∨ x3.toInt = 1 := by
    rcases hx with hx | hx
    · exact Or.inr hx.1
    · exact Or.inl hx.1
  refine ⟨x3, rfl, ⟨by omega, x01⟩, ?_⟩
  rintro s4 rfl
  rw [e1]
  have hU := hI x3 (by omega) (by omega)
  have r35 : (sa t 235 (24 * b + T) x3).2.1 235 (24 * b + T) = x3 := by rw [sa_2, if_pos ⟨rfl, rfl⟩]
  have hTU : TS b n W 0 3 (sa t 235 (24 * b + T) x3) := TS_sa hTt (by decide)
  obtain ⟨u, hu⟩ : ∃ u, u = sa t 235 (24 * b + T) x3 := ⟨_, rfl⟩
  have u1 : u.1 = t.1 := by rw [hu]; rfl
  rw [← hu] at hU r35 hTU ⊢
  have go : ∀ w, UI own b n W (24 * b + T) Hh (84 * b + D) s w → w_180_96 (Tot (e + 27)) a1 w (fun v s' => v = none ∧ TQ own b n W T D Hh s s') := by
    intro w hw
    unfold w_180_96
    refine Tot.imp (Tot.mono (by omega) (ts_167 (d := 0) (ch := 123) hw.choose_spec.2.1 (by decide) (by decide))) ?_
    rintro v s1 ⟨rfl, x, y, rfl, T1, hx, q1⟩
    exact ⟨rfl, u99 hT hD hH h1 r33 r63 hs (UI_sf hw (TS_mo T1 (by decide) (by decide)) hx (fun q => (q1 q).1.1))⟩
  rw [r35]
  refine ⟨by omega, fun x0 => ?_, fun x0 => ?_⟩
  · refine Tot.imp (Tot.mono (by omega) (ts_169 (d := 0) (ch := 2) hTU (by decide) (by decide))) ?_
    rintro v s5 ⟨rfl, x, y, rfl, T1, hx, q1⟩
    exact ⟨rfl, go _ (UI_sf hU (TS_mo T1 (by decide) (by decide)) hx (fun q => (q1 q).1))⟩
  · have hx := hx.resolve_right (fun q => x0 q.1)
    have lt : (u.1 7).toInt < 4002 * (b : Int) + n := by
      rw [u1]
      exact Lx_in hTt.1 hTt.2.1 hx.2.1 (by rw [hx.2.2.1]; decide)
    have u8 : (u.1 8).toInt = 0 := by rw [u1]; exact hx.2.1
    have hA := hTU.2.1.2.2.1
    have hA2 := hTU.1.2.1
    refine ⟨by omega, ?_⟩
    rintro x7 hx7 s8 rfl
    have e : sf u 7 x7 = sf (sf u 8 (u.1 8)) 7 x7 := by rw [sf_id]
    have T2 : TS b n W 2 3 (sf u 7 x7) := TS_at hTU u8 hx7 lt
    rw [e] at T2 ⊢
    exact go _ (UI_sf hU (TS_mo T2 (by decide) (by decide)) (by omega) (fun q => q))
theorem s_180 {own : Nat → Nat × Nat} {e b n W T D Hh : Nat} {δ c : Int} {s : yS} (h : TS b n W δ c s) (hδ : 0 ≤ δ) (hf : (s.1 8).toInt = 0) (hw : (s.2.1 215 (s.1 7).toInt.toNat).toInt = 1) (hT : T < 24) (hD : D < 84) (hH : 204 * b ≤ Hh ∧ Hh + 6 ≤ 204 * (b + 1)) (h42 : (s.1 42).toInt = (Hh : Int)) (r33 : (s.2.1 233 b).toInt = (T : Int)) (r63 : (s.2.1 263 b).toInt = (D : Int)) : Tot (e + 28) 180 [.ref 213] s (fun v s' => v = none ∧ TQ own b n W T D Hh s s') := by
  have hb := h.2.2.1
  have hn : (s.1 30).toInt = (b : Int) := h.2.2.2.1
  have en : (s.1 30).toInt.toNat = b := by omega
  have hs := h.2.2.2.2.1
  have hN20 := TS_N h hδ
  have lt := Lx_in h.1 h.2.1 hf (by rw [hw]; decide)
  have hA := h.2.1.2.2.2.2 hf
  have hA2 := h.1.2.1
  refine t_180 ?_
  unfold w_180_0
  rw [en, r33]
  refine ⟨by omega, fun x1 hx1 => ⟨by omega, by omega, fun x2 hx2 => ⟨by omega, fun _ => ⟨by omega, ?_⟩, fun q => absurd q (by omega)⟩⟩⟩
  rintro x3 hx3 s4 rfl
  have T4 : TS b n W (δ + 2) 0 (sf s 7 x3) := TS_at h hf hx3 lt
  refine Tot.imp (Tot.mono (by omega) (ts_170 (d := 0) T4 (by omega) (by decide))) ?_
  rintro v s5 ⟨rfl, x, y, rfl, T5, hx, q5⟩
  have ed : x2.toInt.toNat = 24 * b + T := by omega
  have p7 : (sf s 7 x3).1 7 = x3 := rfl
  rw [p7] at hx
  refine ⟨_, rfl, by omega, ?_⟩
  rintro s8 rfl
  refine ⟨by omega, ?_⟩
  rintro s9 rfl
  refine ⟨by omega, ?_⟩
  rintro s10 rfl
  refine ⟨by omega, ?_⟩
  rintro s11 rfl
  refine ⟨by omega, ?_⟩
  rintro s12 rfl
  rw [ed]
  obtain ⟨d, hd⟩ : ∃ d, d = 24 * b + T := ⟨_, rfl⟩
  have z0 : (0 : Int32).toInt = 0 := by decide
  obtain ⟨u, hu⟩ : ∃ u, u = sa (sa (sa (sa (sa (sf (sf (sf s 7 x3) 8 y) 7 x) 234 (24 * b + T) ((sf s 7 x3).1 7)) 236 (24 * b + T) 0) 239 (24 * b + T) 0) 242 (24 * b + T) ((sa (sa (sa (sf (sf (sf s 7 x3) 8 y) 7 x) 234 (24 * b + T) ((sf s 7 x3).1 7)) 236 (24 * b + T) 0) 239 (24 * b + T) 0).1 42)) 243 (24 * b + T) 0 := ⟨_, rfl⟩
  rw [← hu]
  have u1 : u.1 = (sf (sf (sf s 7 x3) 8 y) 7 x).1 := by rw [hu]; rfl
  have Tu : TS b n W 2 1 u := by
    rw [hu]
    exact TS_sa (TS_sa (TS_sa (TS_sa (TS_sa (TS_mo T5 (by omega) (by omega)) (by decide)) (by decide)) (by decide)) (by decide)) (by decide)
  have Nu : NF b (cT (s.1 26).toInt.toNat (24 * b + T) Hh (84 * b + D) b) s u := by
    rw [hu]
    refine NF_sa (NF_sa (NF_sa (NF_sa (NF_sa (NF_sf (NF_sf (NF_sf NF_rf (by decide)) (by decide)) (by decide)) ?_) ?_) ?_) ?_) ?_
    all_goals (rw [cT_t (by decide), zl_tR (by decide)]; omega)
  have u26 : u.1 26 = s.1 26 := by rw [u1]; rfl
  have u7 : u.1 7 = x := by rw [u1]; rfl
  have u42 : u.1 42 = s.1 42 := by rw [u1]; rfl
  have row : ∀ p, p ∉ [234, 236, 239, 242, 243] → u.2.1 p = s.2.1 p := by
    intro p hp
    funext i
    have k : ∀ q ∈ [234, 236, 239, 242, 243], ∀ j, ¬ (p = q ∧ i = j) := fun q hq j w => hp (by rw [w.1]; exact hq)
    rw [hu, sa_2, if_neg (k 243 (by decide) _), sa_2, if_neg (k 242 (by decide) _), sa_2, if_neg (k 239 (by decide) _), sa_2, if_neg (k 236 (by decide) _), sa_2, if_neg (k 234 (by decide) _)]
    rfl
  have r34 : u.2.1 234 (24 * b + T) = x3 := by
    rw [hu, sa_2, if_neg (fun w => by omega), sa_2, if_neg (fun w => by omega), sa_2, if_neg (fun w => by omega), sa_2, if_neg (fun w => by omega), sa_2, if_pos ⟨rfl, rfl⟩]
    rfl
  have r36 : u.2.1 236 (24 * b + T) = 0 := by
    rw [hu, sa_2, if_neg (fun w => by omega), sa_2, if_neg (fun w => by omega), sa_2, if_neg (fun w => by omega), sa_2, if_pos ⟨rfl, rfl⟩]
  have r39 : u.2.1 239 (24 * b + T) = 0 := by
    rw [hu, sa_2, if_neg (fun w => by omega), sa_2, if_neg (fun w => by omega), sa_2, if_pos ⟨rfl, rfl⟩]
  have r42 : u.2.1 242 (24 * b + T) = s.1 42 := by
    rw [hu, sa_2, if_neg (fun w => by omega), sa_2, if_pos ⟨rfl, rfl⟩]
    rfl
  have r43 : u.2.1 243 (24 * b + T) = 0 := by
    rw [hu, sa_2, if_pos ⟨rfl, rfl⟩]
  have nmu : (u.1 8).toInt = 0 → tkN b n u (u.2.1 234 (24 * b + T)).toInt := by
    intro q
    rw [u1] at q
    rw [r34]
    exact tkN_eq (s := sf s 7 x3) (row 215 (by decide)) (row 217 (by decide)) (q5 q).2
  -- with the formals read: state w
  have go : ∀ (w : yS) (k : Int32), 0 ≤ k.toInt → k.toInt ≤ 6 → TS b n W 0 3 w → NF b (cT (s.1 26).toInt.toNat (24 * b + T) Hh (84 * b + D) b) s w → (s.1 26).toInt ≤ (w.1 26).toInt → w.1 42 = s.1 42 → (∀ p, p ∉ ndB → p ∉ [236, 237, 238] → w.2.1 p = u.2.1 p) → ((w.1 8).toInt = 0 → w.2.1 236 (24 * b + T) = k ∧ (u.1 8).toInt = 0 ∧ (s.1 7).toInt < (w.1 7).toInt ∧ ∃ own' : Nat → Nat × Nat, (∀ x, x < (s.1 26).toInt.toNat → own' x = own x) ∧ SL own' b n (w.1 26).toInt.toNat w 237 238 (6 * (24 * b + T)) k.toInt.toNat) → w_180_74 (Tot (e + 27)) x2 w (fun v s' => v = none ∧ TQ own b n W T D Hh s s') := by
    intro w k k0 k6 wT wN w26 w42 wr wq
    refine u74 hT hD hH (by omega) r33 r63 hs (fun v v0 v1 => ?_) wT
    have cc : ∀ p, ¬ p = 235 → (sa w 235 (24 * b + T) v).2.1 p = w.2.1 p := fun p hp => funext (fun i => by rw [sa_2, if_neg (fun q => hp q.1)])
    have c35 : (sa w 235 (24 * b + T) v).2.1 235 (24 * b + T) = v := by rw [sa_2, if_pos ⟨rfl, rfl⟩]
    have c39 : (sa w 235 (24 * b + T) v).2.1 239 (24 * b + T) = 0 := by rw [cc 239 (by decide), wr 239 (by decide) (by decide), r39]
    have c43 : (sa w 235 (24 * b + T) v).2.1 243 (24 * b + T) = 0 := by rw [cc 243 (by decide), wr 243 (by decide) (by decide), r43]
    refine ⟨0, by decide, TS_sa wT (by decide), NF_sa wN (by rw [cT_t (by decide), zl_tR (by decide)]; omega), w26, by show (w.1 42).toInt = _; rw [w42]; exact h42, ?_, ?_, ?_, by rw [c35]; exact v0, by rw [c35]; exact v1, by rw [c39]; decide, by rw [c39]; decide, by rw [c43]; decide, by rw [c43]; decide, fun q => ?_⟩
    · rw [cc 233 (by decide), wr 233 (by decide) (by decide), row 233 (by decide)]
    · rw [cc 263 (by decide), wr 263 (by decide) (by decide), row 263 (by decide)]
    · rw [cc 262 (by decide), wr 262 (by decide) (by decide), row 262 (by decide)]
    · obtain ⟨m0, m1, m2, own', m3, m4⟩ := wq q
      have nd : ND (w.1 26).toInt.toNat w (sa w 235 (24 * b + T) v) := ND_sa ND_rf (by decide)
      refine ⟨by rw [c43]; decide, m2, own', m3, ⟨?_, ?_, ?_, ?_, ?_, fun h hk => absurd hk (by omega)⟩, ?_⟩
      · rw [cc 234 (by decide), wr 234 (by decide) (by decide)]
        exact tkN_eq (s := u) (by rw [cc 215 (by decide), wr 215 (by decide) (by decide)]) (by rw [cc 217 (by decide), wr 217 (by decide) (by decide)]) (nmu m1)
      · rw [cc 236 (by decide), m0]
        exact k0
      · rw [cc 236 (by decide), m0]
        exact k6
      · rw [cc 236 (by decide), m0]
        exact SL_eq m4 nd (fun j _ => ⟨by rw [cc 237 (by decide)], by rw [cc 238 (by decide)]⟩) (fun _ _ => rfl) (Nat.le_refl _)
      · rw [cc 242 (by decide), wr 242 (by decide) (by decide), r42]
        exact h42
      · rw [c39, z0]
        exact SL_0
  refine Tot.imp (Tot.mono (by omega) (s_164 (d := 0) (c := 91) Tu.1 Tu.2.1)) ?_
  rintro v s7 ⟨e7, x9, rfl, h9⟩
  have e7 := e7.symm
  subst e7
  refine ⟨x9, rfl, fun _ => ?_, fun h0 => ⟨by omega, fun x16 hx16 => ?_⟩⟩
  · refine go u 0 (by decide) (by decide) (TS_mo Tu (by decide) (by decide)) Nu (by rw [u26]; exact Int.le_refl _) u42 (fun _ _ _ => rfl) (fun q => ⟨r36, q, by rw [u7]; omega, own, fun _ _ => rfl, by rw [z0]; exact SL_0⟩)
  · have sg := (h9.resolve_right (fun q => h0 q.1)).2
    refine Tot.imp (Tot.mono (by omega) (s_181 (own := own) (d := e) (fr := 6 * (24 * b + T)) (a1 := 237) (a2 := 238) (M1 := 288) (M2 := 288) Tu (by decide) sg (by omega) (by omega) (by rw [zl_t6 (by decide)]; omega) (by rw [zl_t6 (by decide)]; omega) (by decide) (by decide) (by omega) (by omega) (by decide) (by decide) (by decide))) ?_
    rintro v s17 ⟨k, rfl, k1, k2, k3, k4, k5, k42, k6⟩
    refine ⟨_, rfl, by omega, ?_⟩
    rintro s20 rfl
    rw [u26] at k4 k5 k6
    have cle : ∀ p, cT (s.1 26).toInt.toNat (24 * b + T) Hh (84 * b + D) b p ≤ cF (s.1 26).toInt.toNat 237 238 (6 * (24 * b + T)) p := by
      intro p
      unfold cF
      split
      · rename_i q
        rw [cT_n q]
        exact Nat.le_refl _
      · split
        · rename_i q
          rcases q with q | q
          · rw [q, cT_6 (by decide)]
            exact Nat.le_refl _
          · rw [q, cT_6 (by decide)]
            exact Nat.le_refl _
        · exact cT_le (by omega) (by omega) (by omega) (by omega) (by omega)
    have wr : ∀ p, p ∉ ndB → p ∉ [237, 238] → s17.2.1 p = u.2.1 p := by
      intro p p1 p2
      refine NF_20 k4 hb ?_
      unfold cF
      rw [if_neg p1, if_neg (fun q => p2 (by rcases q with q | q <;> rw [q] <;> decide))]
    have c36 : (sa s17 236 (24 * b + T) k).2.1 236 (24 * b + T) = k := by rw [sa_2, if_pos ⟨rfl, rfl⟩]
    refine go _ k k1 k2 (TS_sa k3 (by decide)) (NF_sa (NF_tr Nu k4 cle) (by rw [cT_t (by decide), zl_tR (by decide)]; omega)) k5 (by show s17.1 42 = _; rw [k42, u42]) (fun p p1 p2 => ?_) (fun q => ?_)
    · rw [← wr p p1 (fun w => p2 (List.mem_cons_of_mem _ w))]
      funext i
      rw [sa_2, if_neg (fun w => p2 (by rw [w.1]; decide))]
    · obtain ⟨g1, own', g2, g3⟩ := k6 q
      rw [u7] at g1
      have nd : ND (s17.1 26).toInt.toNat s17 (sa s17 236 (24 * b + T) k) := ND_sa ND_rf (by decide)
      refine ⟨c36, sg.1, by show _ < (s17.1 7).toInt; omega, own', g2, ?_⟩
      refine SL_eq (s := s17) g3 nd (fun j _ => ⟨?_, ?_⟩) (fun _ _ => rfl) (Nat.le_refl _)
      · rw [sa_2, if_neg (fun w => by omega)]
      · rw [sa_2, if_neg (fun w => by omega)]
theorem s_180x {e b n W : Nat} {δ c : Int} {s : yS} (h : TS b n W δ c s) (hδ : 0 ≤ δ) (hf : (s.1 8).toInt = 0) (r33 : (s.2.1 233 b).toInt = 24) : Tot (e + 2) 180 [.ref 213] s (fun v s' => v = none ∧ ∃ y : Int32, s' = sf s 8 y ∧ ¬ y.toInt = 0 ∧ TS b n W 0 3 s') := by
  have hb := h.2.2.1
  have hn : (s.1 30).toInt = (b : Int) := h.2.2.2.1
  have en : (s.1 30).toInt.toNat = b := by omega
  refine t_180 ?_
  unfold w_180_0
  rw [en, r33]
  refine ⟨by omega, fun x1 hx1 => ⟨by omega, by omega, fun x2 hx2 => ⟨by omega, fun q => absurd rfl q, fun _ => ?_⟩⟩⟩
  refine Tot.imp (Tot.mono (by omega) (ts_163 (d := 0) (w := 5) h hδ (by decide) hf (h.2.1.2.2.2.2 hf))) ?_
  rintro v s8 ⟨rfl, y, rfl, y0, hTT⟩
  exact ⟨rfl, rfl, y, rfl, y0, hTT 0 3 (by decide)⟩
