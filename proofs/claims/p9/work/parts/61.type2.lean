/-- one field or head more; the end -/
theorem u99 {own : Nat → Nat × Nat} {e b n W T D Hh : Nat} {a1 : Int32} {s t : yS} (hT : T < 24) (hD : D < 84) (hH : 204 * b ≤ Hh ∧ Hh + 6 ≤ 204 * (b + 1)) (h1 : a1.toInt = 24 * (b : Int) + T) (r33 : (s.2.1 233 b).toInt = (T : Int)) (r63 : (s.2.1 263 b).toInt = (D : Int)) (hs : 4002 * (b : Int) ≤ (s.1 26).toInt) (hI : UI own b n W (24 * b + T) Hh (84 * b + D) s t) : wl_180_99 (Tot (e + 27)) a1 t (fun v s' => v = none ∧ TQ own b n W T D Hh s s') := by
  refine ⟨fun b1 u => b1 = a1 ∧ UI own b n W (24 * b + T) Hh (84 * b + D) s u, fun _ s' => if (s'.1 8).toInt = 0 then (14000 - (s'.1 7).toInt).toNat + 1 else 0, ⟨rfl, hI⟩, ?_⟩
  clear hI t
  rintro b1 t ⟨eb, hI⟩
  have eb := eb.symm
  subst eb
  have fin : ∀ u, UI own b n W (24 * b + T) Hh (84 * b + D) s u → w_180_145 (Tot (e + 27)) a1 u (fun v s' => v = none ∧ TQ own b n W T D Hh s s') := fun u hu => u145 (e := e + 25) hT hD r33 r63 hu
  obtain ⟨K, i0, i1, i2, i3, i4, i5, i6, i7, i8, i9, i10, i11, i12, i13, i14⟩ := id hI
  have hb := i1.2.2.1
  have e1 : a1.toInt.toNat = 24 * b + T := by omega
  have hN20 := TS_N i1 (by decide)
  have mu : ∀ s' : yS, (t.1 8).toInt = 0 → ((s'.1 8).toInt = 0 → (t.1 7).toInt < (s'.1 7).toInt) → (if (s'.1 8).toInt = 0 then (14000 - (s'.1 7).toInt).toNat + 1 else 0) < (if (t.1 8).toInt = 0 then (14000 - (t.1 7).toInt).toNat + 1 else 0) := by
    intro s' h1 h2
    have := i1.2.1.2.2.2.1
    rw [if_pos h1]
    split
    · rename_i h3
      have := h2 h3
      omega
    · omega
  unfold w_180_99
  refine ⟨fun _ => fin t hI, fun t8 => ?_⟩
  obtain ⟨g0, g1, own', g2, g3, g4⟩ := i14 t8
  refine Tot.imp (Tot.mono (by omega) (s_164 (d := 0) (c := 125) i1.1 i1.2.1)) ?_
  rintro v s7 ⟨e7, x9, rfl, h9⟩
  have e7 := e7.symm
  subst e7
  refine ⟨x9, rfl, fun _ => fin t hI, fun _ => ⟨by omega, fun q35 => ?_, fun q35 => ?_⟩⟩
  · rw [e1]
    -- a head
    have go : ∀ u : yS, u.2 = t.2 → u.1 42 = t.1 42 → u.1 26 = t.1 26 → u.1 7 = t.1 7 → NF b (cT (s.1 26).toInt.toNat (24 * b + T) Hh (84 * b + D) b) s u → TS b n W 0 3 u → ((u.1 8).toInt = 0 → K ≤ 5 ∧ u = t) → w_180_131 (Tot (e + 27)) (fun a1' s' => (a1' = a1 ∧ UI own b n W (24 * b + T) Hh (84 * b + D) s s') ∧ (if (s'.1 8).toInt = 0 then (14000 - (s'.1 7).toInt).toNat + 1 else 0) < (if (t.1 8).toInt = 0 then (14000 - (t.1 7).toInt).toNat + 1 else 0)) a1 u (fun v s' => v = none ∧ TQ own b n W T D Hh s s') := by
      intro u u2 u42 u26 u7 uN uT uq
      -- behind the head
      have last : ∀ (w : yS), TS b n W 0 3 w → NF b (cT (s.1 26).toInt.toNat (24 * b + T) Hh (84 * b + D) b) s w → (s.1 26).toInt ≤ (w.1 26).toInt → (∃ K' : Nat, K' ≤ 6 ∧ (w.1 42).toInt = (Hh : Int) + K' ∧ ((w.1 8).toInt = 0 → K' = K + 1 ∧ (t.1 7).toInt < (w.1 7).toInt ∧ ∃ own'' : Nat → Nat × Nat, (∀ x, x < (s.1 26).toInt.toNat → own'' x = own x) ∧ UB own'' b n (w.1 26).toInt.toNat w (24 * b + T) Hh (K + 1) ∧ SL own'' b n (w.1 26).toInt.toNat w 240 241 (6 * (24 * b + T)) (t.2.1 239 (24 * b + T)).toInt.toNat)) → (∀ p, p ∉ ndB → p ∉ hR → p ∉ h6 → w.2.1 p = t.2.1 p) → (t.2.1 243 (24 * b + T)).toInt ≤ 6 → Tot (e + 27) 167 [.ref 213, .int 59] w (fun v4 s3 => v4 = none ∧ ((0 ≤ a1.toInt ∧ a1.toInt < 48) ∧ ((-2147483648 ≤ (s3.2.1 243 a1.toInt.toNat).toInt + 1 ∧ (s3.2.1 243 a1.toInt.toNat).toInt + 1 ≤ 2147483647) ∧ (∀ x5 : Int32, x5.toInt = (s3.2.1 243 a1.toInt.toNat).toInt + 1 → (0 ≤ a1.toInt ∧ a1.toInt < 48) ∧ (∀ s6, s6 = sa s3 243 a1.toInt.toNat x5 → (a1 = a1 ∧ UI own b n W (24 * b + T) Hh (84 * b + D) s s6) ∧ (if (s6.1 8).toInt = 0 then (14000 - (s6.1 7).toInt).toNat + 1 else 0) < (if (t.1 8).toInt = 0 then (14000 - (t.1 7).toInt).toNat + 1 else 0)))))) := by
        intro w wT wN w26 wq wr l43
        obtain ⟨K', k0, k42, wq⟩ := wq
        refine Tot.imp (Tot.mono (by omega) (ts_167 (d := 0) (ch := 59) wT (by decide) (by decide))) ?_
        rintro v s3 ⟨rfl, x3, y3, rfl, T3, hx3, q3⟩
        rw [e1]
        have r43 : (sf (sf w 8 y3) 7 x3).2.1 243 (24 * b + T) = t.2.1 243 (24 * b + T) := by
          show w.2.1 243 _ = _
          rw [wr 243 (by decide) (by decide) (by decide)]
        rw [r43]
        refine ⟨rfl, by omega, by omega, fun x5 hx5 => ⟨by omega, ?_⟩⟩
        rintro s6 rfl
        have cc : ∀ p, ¬ p = 243 → ∀ i, (sa (sf (sf w 8 y3) 7 x3) 243 (24 * b + T) x5).2.1 p i = w.2.1 p i := by
          intro p hp i
          rw [sa_2, if_neg (fun q => hp q.1)]
          rfl
        have cc' : ∀ p, ¬ p = 243 → (sa (sf (sf w 8 y3) 7 x3) 243 (24 * b + T) x5).2.1 p = w.2.1 p := fun p hp => funext (cc p hp)
        have c43 : (sa (sf (sf w 8 y3) 7 x3) 243 (24 * b + T) x5).2.1 243 (24 * b + T) = x5 := by
          rw [sa_2, if_pos ⟨rfl, rfl⟩]
        refine ⟨⟨rfl, K', k0, TS_sa (TS_mo T3 (by decide) (by decide)) (by decide), NF_sa (NF_sf (NF_sf wN (by decide)) (by decide)) (by rw [cT_t (by decide), zl_tR (by decide)]; omega), w26, k42, ?_, ?_, ?_, ?_, ?_, ?_, ?_, ?_, ?_, fun q => ?_⟩, mu _ t8 (fun q => ?_)⟩
        · rw [cc' 233 (by decide), wr 233 (by decide) (by decide) (by decide), i5]
        · rw [cc' 263 (by decide), wr 263 (by decide) (by decide) (by decide), i6]
        · rw [cc' 262 (by decide), wr 262 (by decide) (by decide) (by decide), i7]
        · rw [cc' 235 (by decide), wr 235 (by decide) (by decide) (by decide)]; exact i8
        · rw [cc' 235 (by decide), wr 235 (by decide) (by decide) (by decide)]; exact i9
        · rw [cc' 239 (by decide), wr 239 (by decide) (by decide) (by decide)]; exact i10
        · rw [cc' 239 (by decide), wr 239 (by decide) (by decide) (by decide)]; exact i11
        · rw [c43]; omega
        · rw [c43]; omega
        · have w8 : (w.1 8).toInt = 0 := (q3 q).1.1
          obtain ⟨m1, m2, own'', m3, m4, m5⟩ := wq w8
          have nd : ND (w.1 26).toInt.toNat w (sa (sf (sf w 8 y3) 7 x3) 243 (24 * b + T) x5) := ND_sa ⟨fun _ _ _ _ => rfl, rfl, rfl⟩ (by decide)
          rw [c43, m1]
          refine ⟨by omega, by show _ < x3.toInt; omega, own'', m3, UB_eq m4 nd (fun p hp => cc p ?_ _) (fun p hp _ _ => cc p ?_ _) (fun p hp _ _ => cc p ?_ _) (fun p hp _ _ => cc p ?_ _) (fun _ _ => rfl) (Nat.le_refl _), ?_⟩
          · clear cc cc'; revert p; decide
          · clear cc cc'; revert p; decide
          · clear cc cc'; revert p; decide
          · clear cc cc'; revert p; decide
          · rw [cc' 239 (by decide), wr 239 (by decide) (by decide) (by decide)]
            exact SL_eq m5 nd (fun j _ => ⟨cc 240 (by decide) _, cc 241 (by decide) _⟩) (fun _ _ => rfl) (Nat.le_refl _)
        · have w8 : (w.1 8).toInt = 0 := (q3 q).1.1
          have m2 := (wq w8).2.1
          show _ < x3.toInt
          omega
      unfold w_180_131
      by_cases u8 : (u.1 8).toInt = 0
      · obtain ⟨k5, ut⟩ := uq u8
        subst ut
        refine Tot.imp (s_183 (own := own') (e := e) (h := Hh + K) i1 (by decide) (by omega) (by omega) t8) ?_
        rintro v w ⟨rfl, q1, q2, q3, q4, q5⟩
        refine ⟨rfl, ?_⟩
        have cle : ∀ p, cT (s.1 26).toInt.toNat (24 * b + T) Hh (84 * b + D) b p ≤ cH (u.1 26).toInt.toNat (Hh + K) p := by
          intro p
          unfold cH
          split
          · rename_i q
            rw [cT_n q]
            omega
          · split
            · rename_i q
              rw [cT_h q]
              omega
            · split
              · rename_i q
                rw [cT_h6 q]
                omega
              · exact cT_le (by omega) (by omega) (by omega) (by omega) (by omega)
        have wr : ∀ p, p ∉ ndB → p ∉ hR → p ∉ h6 → w.2.1 p = u.2.1 p := by
          intro p p1 p2 p3
          refine NF_20 q2 hb ?_
          unfold cH
          rw [if_neg p1, if_neg p2, if_neg p3]
        refine last w q1 (NF_tr i2 q2 cle) (by omega) ⟨K + 1, by omega, by omega, fun q => ?_⟩ wr (by omega)
        obtain ⟨m1, own'', m2, m3⟩ := q5 q
        have nd : ND (u.1 26).toInt.toNat u w := ND_nf q2 (fun p hp => by unfold cH; rw [if_pos hp]; exact Nat.le_refl _)
        refine ⟨rfl, m1, own'', fun x hx => by rw [m2 x (by omega)]; exact g2 x hx, ?_, SL_eq g4 nd (fun j _ => ⟨by rw [wr 240 (by decide) (by decide) (by decide)], by rw [wr 241 (by decide) (by decide) (by decide)]⟩) m2 (by omega)⟩
        have ub := UB_eq (own' := own'') (N' := (w.1 26).toInt.toNat) g3 nd (fun p hp => by rw [wr p (by revert p; decide) (by revert p; decide) (by revert p; decide)]) (fun p hp _ _ => by rw [wr p (by revert p; decide) (by revert p; decide) (by revert p; decide)]) (fun p hp h hk => q2.2.1 p _ (fun q => by rw [cH_r hp] at q; omega)) (fun p hp i hi => q2.2.1 p _ (fun q => by rw [cH_6 hp] at q; omega)) m2 (by omega)
        obtain ⟨b1, b2, b3, b4, b5, b6⟩ := ub
        refine ⟨b1, b2, b3, b4, b5, fun h hk => ?_⟩
        by_cases hkk : h = K
        · rw [hkk]
          exact m3
        · exact b6 h (by omega)
      · refine Tot.imp (Tot.mono (by omega) (s_183f (e := 0) u8 uT.2.1.1)) ?_
        rintro v w ⟨rfl, ew⟩
        have ew := ew.symm
        subst ew
        refine ⟨rfl, last u uT uN (by rw [u26]; exact i3) ⟨K, i0, by rw [u42]; exact i4, fun q => absurd q u8⟩ (fun p _ _ _ => by rw [u2]) (by omega)⟩
    refine ⟨by omega, fun h6 => go t rfl rfl rfl rfl i2 i1 (fun _ => ⟨by omega, rfl⟩), fun h6 => ?_⟩
    refine Tot.imp (Tot.mono (by omega) (s_166 (d := 0) i1.1 i1.2.1)) ?_
    rintro v s7 ⟨e7, x9, rfl, h9⟩
    have e7 := e7.symm
    subst e7
    have wr : ∀ wh : Int32, 1 ≤ wh.toInt ∧ wh.toInt ≤ 15 → w_180_128 (Tot (e + 27)) (fun a1' s' => (a1' = a1 ∧ UI own b n W (24 * b + T) Hh (84 * b + D) s s') ∧ (if (s'.1 8).toInt = 0 then (14000 - (s'.1 7).toInt).toNat + 1 else 0) < (if (t.1 8).toInt = 0 then (14000 - (t.1 7).toInt).toNat + 1 else 0)) a1 wh t (fun v s' => v = none ∧ TQ own b n W T D Hh s s') := by
      intro wh hw
      unfold w_180_128
      refine Tot.imp (Tot.mono (by omega) (ts_163 (d := 0) (w := wh) i1 (by decide) hw t8 (i1.2.1.2.2.2.2 t8))) ?_
      rintro v s8 ⟨rfl, y, rfl, y0, hTT⟩
      exact ⟨rfl, go _ rfl rfl rfl rfl (NF_sf i2 (by decide)) (hTT 0 3 (by decide)) (fun q => absurd q y0)⟩
    exact ⟨x9, rfl, fun _ => wr 1 (by decide), fun _ => wr 5 (by decide)⟩
  · -- a field
    have DI0 : DI own' b n W (24 * b + T) t t := ⟨i10, i11, i1, NF_rf, Int.le_refl _, rfl, fun _ => ⟨own', fun _ _ => rfl, g4⟩⟩
    refine Tot.imp (Tot.mono (by omega) (s_182 (e := e) DI0 t8 (by omega) (by omega) i1.2.2.2.2.1)) ?_
    rintro v w ⟨rfl, ⟨q1, q2, q3, q4, q5, q42, q6⟩, qp⟩
    have wr : ∀ p, p ∉ ndB → ¬ (p = 240 ∨ p = 241) → ¬ p = 239 → w.2.1 p = t.2.1 p := by
      intro p p1 p2 p3
      refine NF_20 q4 hb ?_
      unfold cD
      rw [if_neg p1, if_neg p2, if_neg p3]
    refine ⟨rfl, ⟨rfl, K, i0, q3, ?_, by omega, by rw [q42]; exact i4, ?_, ?_, ?_, ?_, ?_, q1, q2, ?_, ?_, fun q => ?_⟩, mu _ t8 qp⟩
    · refine NF_tr i2 q4 (fun p => ?_)
      unfold cD
      split
      · rename_i q
        rw [cT_n q]
        omega
      · split
        · rename_i q
          rcases q with q | q
          · rw [q, cT_6 (by decide)]; omega
          · rw [q, cT_6 (by decide)]; omega
        · split
          · rename_i q
            rw [q, cT_t (by decide)]
            omega
          · exact cT_le (by omega) (by omega) (by omega) (by omega) (by omega)
    · rw [wr 233 (by decide) (by decide) (by decide), i5]
    · rw [wr 263 (by decide) (by decide) (by decide), i6]
    · rw [wr 262 (by decide) (by decide) (by decide), i7]
    · rw [wr 235 (by decide) (by decide) (by decide)]; exact i8
    · rw [wr 235 (by decide) (by decide) (by decide)]; exact i9
    · rw [wr 243 (by decide) (by decide) (by decide)]; exact i12
    · rw [wr 243 (by decide) (by decide) (by decide)]; exact i13
    · obtain ⟨own'', m2, m3⟩ := q6 q
      have nd : ND (t.1 26).toInt.toNat t w := ND_nf q4 (fun p hp => by unfold cD; rw [if_pos hp]; exact Nat.le_refl _)
      rw [wr 243 (by decide) (by decide) (by decide)]
      refine ⟨g0, by have := qp q; omega, own'', fun x hx => by rw [m2 x (by omega)]; exact g2 x hx, ?_, m3⟩
      exact UB_eq g3 nd (fun p hp => by rw [wr p (by clear wr; revert p; decide) (by clear wr; revert p; decide) (by clear wr; revert p; decide)]) (fun p hp _ _ => by rw [wr p (by clear wr; revert p; decide) (by clear wr; revert p; decide) (by clear wr; revert p; decide)]) (fun p hp _ _ => by rw [wr p (by clear wr; revert p; decide) (by clear wr; revert p; decide) (by clear wr; revert p; decide)]) (fun p hp _ _ => by rw [wr p (by clear wr; revert p; decide) (by clear wr; revert p; decide) (by clear wr; revert p; decide)]) m2 (by omega)
