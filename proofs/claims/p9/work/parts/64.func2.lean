/-- the params of a func so far -/
def QI (b n F : Nat) (s t : yS) : Prop := 0 ≤ (t.2.1 255 (60 * b + F)).toInt ∧ (t.2.1 255 (60 * b + F)).toInt ≤ 7 ∧ ((t.1 8).toInt = 0 → (s.1 7).toInt < (t.1 7).toInt ∧ (t.1 7).toInt + 1 = (t.2.1 256 (60 * b + F)).toInt + 2 * (t.2.1 255 (60 * b + F)).toInt ∧ RFa b n t (60 * b + F))
theorem f70 {own : Nat → Nat × Nat} {e b n W F D Hh : Nat} {a1 : Int32} {s t : yS} (hF : F < 60) (hD : D < 84) (hH : 204 * b ≤ Hh ∧ Hh < 204 * (b + 1)) (h1 : a1.toInt = 60 * (b : Int) + F) (r52 : (s.2.1 252 b).toInt = (F : Int)) (r63 : (s.2.1 263 b).toInt = (D : Int)) (h42 : (s.1 42).toInt = (Hh : Int)) (hs : 4002 * (b : Int) ≤ (s.1 26).toInt) (hX : XI b n W F Hh D s t) (hQ : QI b n F s t) : wl_184_70 (Tot (e + 37)) a1 t (fun v s' => v = none ∧ FQ own b n W F D Hh s s') := by
  refine ⟨fun b1 u => b1 = a1 ∧ XI b n W F Hh D s u ∧ QI b n F s u, fun _ s' => if (s'.1 8).toInt = 0 then (14000 - (s'.1 7).toInt).toNat + 1 else 0, ⟨rfl, hX, hQ⟩, ?_⟩
  clear hX hQ t
  rintro b1 t ⟨eb, hX, hQ⟩
  have eb := eb.symm
  subst eb
  have hb := hX.1.2.2.1
  have e1 : a1.toInt.toNat = 60 * b + F := by omega
  obtain ⟨j1, j2, j3⟩ := id hQ
  have i1 := hX.1
  have mu : ∀ s' : yS, (t.1 8).toInt = 0 → ((s'.1 8).toInt = 0 → (t.1 7).toInt < (s'.1 7).toInt) → (if (s'.1 8).toInt = 0 then (14000 - (s'.1 7).toInt).toNat + 1 else 0) < (if (t.1 8).toInt = 0 then (14000 - (t.1 7).toInt).toNat + 1 else 0) := by
    intro s' h1 h2
    have := i1.2.1.2.2.2.1
    rw [if_pos h1]
    split
    · rename_i h3
      have := h2 h3
      omega
    · omega
  unfold w_184_70
  refine Tot.imp (Tot.mono (by omega) (ts_168 (d := 0) (ch := 44) i1)) ?_
  rintro v s1 ⟨r, rfl, g⟩
  refine ⟨r, rfl, fun r0 => ?_, fun r0 => ?_⟩
  · have es : s1 = t := by
      rcases g with g | g
      · omega
      · exact g.2.2
    have es := es.symm
    subst es
    refine Tot.imp (Tot.mono (by omega) (ts_167 (d := 0) (ch := 93) i1 (by decide) (by decide))) ?_
    rintro v s4 ⟨rfl, x, y, rfl, T4, hx, q4⟩
    refine ⟨rfl, f103 hF hD hH h1 r52 r63 h42 hs (XI_sf hX (TS_mo T4 (by decide) (by decide))) (fun q => ?_)⟩
    obtain ⟨m1, m2, m3⟩ := j3 (q4 q).1.1
    exact ⟨by show _ < x.toInt; omega, RFa_eq m3 rfl rfl (fun _ _ => rfl)⟩
  · obtain ⟨-, sg, x, hx, rfl, T1⟩ := g.resolve_right (fun q => r0 q.1)
    have t8 := sg.1
    obtain ⟨m1, m2, m3⟩ := j3 t8
    have m36 := m3.2.2.2.1
    rw [e1]
    have c55 : (sf t 7 x).2.1 255 (60 * b + F) = t.2.1 255 (60 * b + F) := rfl
    rw [c55]
    have go : ∀ u : yS, u.2 = t.2 → u.1 7 = x → XI b n W F Hh D s u → TS b n W 0 0 u → ((u.1 8).toInt = 0 → nmAt u → (t.2.1 255 (60 * b + F)).toInt ≤ 5) → w_184_88 (Tot (e + 37)) (fun a1' s' => (a1' = a1 ∧ XI b n W F Hh D s s' ∧ QI b n F s s') ∧ (if (s'.1 8).toInt = 0 then (14000 - (s'.1 7).toInt).toNat + 1 else 0) < (if (t.1 8).toInt = 0 then (14000 - (t.1 7).toInt).toNat + 1 else 0)) a1 u (fun v s' => v = none ∧ FQ own b n W F D Hh s s') := by
      intro u u2 u7 uX uT uq
      unfold w_184_88
      refine Tot.imp (Tot.mono (by omega) (ts_170 (d := 0) uT (by decide) (by decide))) ?_
      rintro v s2 ⟨rfl, x2, y2, rfl, T2, hx2, q2⟩
      have d55 : (sf (sf u 8 y2) 7 x2).2.1 255 a1.toInt.toNat = t.2.1 255 (60 * b + F) := by
        show u.2.1 255 a1.toInt.toNat = _
        rw [u2, e1]
      rw [d55]
      refine ⟨_, rfl, by omega, by omega, fun x4 hx4 => ⟨by omega, ?_⟩⟩
      rintro s5 rfl
      rw [e1]
      have c1 : (sa (sf (sf u 8 y2) 7 x2) 255 (60 * b + F) x4).2.1 255 (60 * b + F) = x4 := by rw [sa_2, if_pos ⟨rfl, rfl⟩]
      have c2 : ∀ p, ¬ p = 255 → (sa (sf (sf u 8 y2) 7 x2) 255 (60 * b + F) x4).2.1 p = t.2.1 p := by
        intro p hp
        funext i
        rw [sa_2, if_neg (fun w => hp w.1)]
        show u.2.1 p i = _
        rw [u2]
      refine ⟨⟨rfl, XI_sa (XI_sf uX (TS_mo T2 (by decide) (by decide))) (by decide) hb hF, by rw [c1]; omega, by rw [c1]; omega, fun q => ?_⟩, mu _ t8 (fun q => by show _ < x2.toInt; rw [u7] at hx2; omega)⟩
      have nm := q2 q
      have k5 := uq nm.1.1 nm.1
      obtain ⟨z1, z2, z3, z4, z5⟩ := m3
      have e15 := c2 215 (by decide)
      have e17 := c2 217 (by decide)
      refine ⟨by show _ < x2.toInt; rw [u7] at hx2; omega, ?_, ?_⟩
      · rw [c1, c2 256 (by decide)]
        show x2.toInt + 1 = _
        rw [u7] at hx2
        omega
      · unfold RFa
        rw [c1, c2 253 (by decide), c2 254 (by decide), c2 256 (by decide)]
        refine ⟨tkN_eq e15 e17 z1, tkN_eq e15 e17 z2, by omega, by omega, fun k hk => ?_⟩
        by_cases hkk : (k : Int) < (t.2.1 255 (60 * b + F)).toInt
        · exact tkN_eq e15 e17 (z5 k hkk)
        · have e : (t.2.1 256 (60 * b + F)).toInt + 2 * (k : Int) = (u.1 7).toInt := by
            rw [u7]
            omega
          rw [e]
          exact tkN_eq (s := u) (by rw [e15, u2]) (by rw [e17, u2]) nm.2
    have X1 : XI b n W F Hh D s (sf t 7 x) := by
      have e : sf t 7 x = sf (sf t 8 (t.1 8)) 7 x := by rw [sf_id]
      have T1' := TS_mo T1 (show (0 : Int) ≤ 0 + 2 by decide) (Int.le_refl _)
      rw [e] at T1' ⊢
      exact XI_sf hX T1'
    have T10 := TS_mo (TS_c (c' := 0) T1 t8) (show (0 : Int) ≤ 0 + 2 by decide) (Int.le_refl _)
    refine ⟨by omega, fun h6 => go _ rfl rfl X1 T10 (fun _ _ => by omega), fun h6 => ?_⟩
    refine Tot.imp (Tot.mono (by omega) (s_166 (d := 0) X1.1.1 X1.1.2.1)) ?_
    rintro v s7 ⟨e7, x9, rfl, h9⟩
    have e7 := e7.symm
    subst e7
    refine ⟨x9, rfl, fun h0 => go _ rfl rfl X1 T10 (fun _ q => absurd q ((h9.resolve_left (fun w => by omega)).2)), fun h0 => ?_⟩
    refine Tot.imp (Tot.mono (by omega) (ts_163 (d := 0) (w := 5) X1.1 (by decide) (by decide) t8 (X1.1.2.1.2.2.2.2 t8))) ?_
    rintro v s8 ⟨rfl, y, rfl, y0, hTT⟩
    refine ⟨rfl, go _ rfl rfl ⟨hTT 0 3 (by decide), NF_sf X1.2.1 (by decide), X1.2.2.1, X1.2.2.2.1, X1.2.2.2.2⟩ (hTT 0 0 (by decide)) (fun q => absurd q y0)⟩
theorem s_184 {own : Nat → Nat × Nat} {e b n W F D Hh : Nat} {δ c : Int} {s : yS} (h : TS b n W δ c s) (hδ : 0 ≤ δ) (hf : (s.1 8).toInt = 0) (hw : (s.2.1 215 (s.1 7).toInt.toNat).toInt = 1) (hF : F < 60) (hD : D < 84) (hH : 204 * b ≤ Hh ∧ Hh < 204 * (b + 1)) (h42 : (s.1 42).toInt = (Hh : Int)) (r52 : (s.2.1 252 b).toInt = (F : Int)) (r63 : (s.2.1 263 b).toInt = (D : Int)) : Tot (e + 38) 184 [.ref 213] s (fun v s' => v = none ∧ FQ own b n W F D Hh s s') := by
  have hb := h.2.2.1
  have hn : (s.1 30).toInt = (b : Int) := h.2.2.2.1
  have en : (s.1 30).toInt.toNat = b := by omega
  have hs := h.2.2.2.2.1
  have lt := Lx_in h.1 h.2.1 hf (by rw [hw]; decide)
  have hA := h.2.1.2.2.2.2 hf
  have hA2 := h.1.2.1
  refine t_184 ?_
  unfold w_184_0
  rw [en, r52]
  refine ⟨by omega, fun x1 hx1 => ⟨by omega, by omega, fun x2 hx2 => ⟨by omega, fun _ => ⟨by omega, ?_⟩, fun q => absurd q (by omega)⟩⟩⟩
  rintro x3 hx3 s4 rfl
  have ef : x2.toInt.toNat = 60 * b + F := by omega
  have T4 : TS b n W (δ + 2) 0 (sf s 7 x3) := TS_at h hf hx3 lt
  refine Tot.imp (Tot.mono (by omega) (ts_167 (d := 0) (ch := 40) T4 (by omega) (by decide))) ?_
  rintro v s5 ⟨rfl, x5, y5, rfl, T5, hx5, q5⟩
  refine ⟨rfl, ?_⟩
  refine Tot.imp (Tot.mono (by omega) (ts_170 (d := 0) T5 (by omega) (by decide))) ?_
  rintro v s7 ⟨rfl, x7, y7, rfl, T7, hx7, q7⟩
  refine ⟨_, rfl, by omega, ?_⟩
  rintro s10 rfl
  rw [ef]
  obtain ⟨u, hu⟩ : ∃ u, u = sf (sf (sf (sf (sf s 7 x3) 8 y5) 7 x5) 8 y7) 7 x7 := ⟨_, rfl⟩
  have u2 : u.2 = s.2 := by rw [hu]; rfl
  have Xu : XI b n W F Hh D s u := by
    refine ⟨by rw [hu]; exact TS_mo T7 (by omega) (by decide), ?_, by rw [hu]; rfl, by rw [hu]; rfl, fun p _ => by rw [u2]⟩
    rw [hu]
    exact NF_sf (NF_sf (NF_sf (NF_sf (NF_sf NF_rf (by decide)) (by decide)) (by decide)) (by decide)) (by decide)
  have Tu : TS b n W 0 1 u := by rw [hu]; exact TS_mo T7 (by omega) (by omega)
  have u7 : (s.1 7).toInt < (u.1 7).toInt := by
    rw [hu]
    show _ < x7.toInt
    have : x3.toInt ≤ x5.toInt := hx5
    have : x7.toInt = x5.toInt + 1 := hx7
    omega
  have uq : (u.1 8).toInt = 0 → tkN b n s x5.toInt := fun q => by
    rw [hu] at q
    exact tkN_eq (s := sf (sf (sf s 7 x3) 8 y5) 7 x5) rfl rfl (q7 q).2
  have e5 : (sf (sf (sf s 7 x3) 8 y5) 7 x5).1 7 = x5 := rfl
  rw [e5, ← hu]
  clear T7 q7 T5 q5 hu
  have X10 := XI_sa (p := 253) (v := x5) Xu (by decide) hb hF
  have T10 : TS b n W 0 1 (sa u 253 (60 * b + F) x5) := TS_sa Tu (by decide)
  refine Tot.imp (Tot.mono (by omega) (ts_170 (d := 0) T10 (by omega) (by decide))) ?_
  rintro v s11 ⟨rfl, x11, y11, rfl, T11, hx11, q11⟩
  refine ⟨_, rfl, by omega, ?_⟩
  rintro s14 rfl
  refine ⟨by omega, ?_⟩
  rintro s15 rfl
  refine ⟨by omega, ?_⟩
  rintro s16 rfl
  have e7 : (sa u 253 (60 * b + F) x5).1 7 = u.1 7 := rfl
  rw [e7] at hx11 q11 ⊢
  obtain ⟨t, ht⟩ : ∃ t, t = sa (sa (sa (sf (sf (sa u 253 (60 * b + F) x5) 8 y11) 7 x11) 254 (60 * b + F) (u.1 7)) 255 (60 * b + F) 0) 256 (60 * b + F) (-1) := ⟨_, rfl⟩
  rw [← ht]
  have Xt : XI b n W F Hh D s t := by
    rw [ht]
    exact XI_sa (XI_sa (XI_sa (XI_sf X10 (TS_mo T11 (by decide) (by decide))) (by decide) hb hF) (by decide) hb hF) (by decide) hb hF
  have Tt : TS b n W 0 2 t := by
    rw [ht]
    exact TS_sa (TS_sa (TS_sa (TS_mo T11 (by decide) (by decide)) (by decide)) (by decide)) (by decide)
  have t53 : t.2.1 253 (60 * b + F) = x5 := by
    rw [ht, sa_2, if_neg (fun w => by omega), sa_2, if_neg (fun w => by omega), sa_2, if_neg (fun w => by omega)]
    show (sa u 253 (60 * b + F) x5).2.1 253 _ = _
    rw [sa_2, if_pos ⟨rfl, rfl⟩]
  have t54 : t.2.1 254 (60 * b + F) = u.1 7 := by
    rw [ht, sa_2, if_neg (fun w => by omega), sa_2, if_neg (fun w => by omega), sa_2, if_pos ⟨rfl, rfl⟩]
  have t55 : t.2.1 255 (60 * b + F) = 0 := by
    rw [ht, sa_2, if_neg (fun w => by omega), sa_2, if_pos ⟨rfl, rfl⟩]
  have t1 : t.1 = (sf (sf (sa u 253 (60 * b + F) x5) 8 y11) 7 x11).1 := by rw [ht]; rfl
  have t7 : t.1 7 = x11 := by rw [t1]; rfl
  have r15 : t.2.1 215 = s.2.1 215 := Xt.2.2.2.2 215 (by decide)
  have r17 : t.2.1 217 = s.2.1 217 := Xt.2.2.2.2 217 (by decide)
  have tq : (t.1 8).toInt = 0 → tkN b n t x5.toInt ∧ tkN b n t (u.1 7).toInt := by
    intro q
    rw [t1] at q
    have k := q11 q
    have u8 : (u.1 8).toInt = 0 := k.1.1
    refine ⟨tkN_eq r15 r17 (uq u8), tkN_eq (s := sa u 253 (60 * b + F) x5) ?_ ?_ k.2⟩
    · rw [r15, ← u2]
      funext i
      rw [sa_2, if_neg (fun w => by omega)]
    · rw [r17, ← u2]
      funext i
      rw [sa_2, if_neg (fun w => by omega)]
  clear ht t1 T11 q11
  have z0 : (0 : Int32).toInt = 0 := by decide
  refine Tot.imp (Tot.mono (by omega) (ts_168 (d := 0) (ch := 91) Tt)) ?_
  rintro v s17 ⟨r, rfl, g⟩
  refine ⟨r, rfl, fun r0 => ?_, fun r0 => ?_⟩
  · have es : s17 = t := by
      rcases g with g | g
      · omega
      · exact g.2.2
    have es := es.symm
    subst es
    refine f103 hF hD hH (by omega) r52 r63 h42 hs Xt (fun q => ⟨by rw [t7]; omega, by rw [t53]; exact (tq q).1, by rw [t54]; exact (tq q).2, by rw [t55]; decide, by rw [t55]; decide, fun k hk => ?_⟩)
    rw [t55, z0] at hk
    omega
  · obtain ⟨-, sg, x, hx, rfl, T1⟩ := g.resolve_right (fun q => r0 q.1)
    have t8 := sg.1
    have tq := tq t8
    have hxx : x.toInt = x11.toInt + 1 := by rw [← t7]; exact hx
    have T1' := TS_mo (TS_c (c' := 0) T1 t8) (show (0 : Int) ≤ 0 + 2 by decide) (Int.le_refl _)
    refine Tot.imp (Tot.mono (by omega) (ts_170 (d := 0) T1' (by decide) (by decide))) ?_
    rintro v s20 ⟨rfl, x20, y20, rfl, T20, hx20, q20⟩
    refine ⟨_, rfl, by omega, ?_⟩
    rintro s23 rfl
    refine ⟨by omega, ?_⟩
    rintro s24 rfl
    have e7' : (sf t 7 x).1 7 = x := rfl
    rw [e7'] at hx20 q20 ⊢
    have X1 : XI b n W F Hh D s (sf (sf (sf t 7 x) 8 y20) 7 x20) := ⟨TS_mo T20 (by decide) (by decide), NF_sf (NF_sf (NF_sf Xt.2.1 (by decide)) (by decide)) (by decide), Xt.2.2.1, Xt.2.2.2.1, Xt.2.2.2.2⟩
    obtain ⟨w, hw'⟩ : ∃ w, w = sa (sa (sf (sf (sf t 7 x) 8 y20) 7 x20) 256 (60 * b + F) x) 255 (60 * b + F) 1 := ⟨_, rfl⟩
    rw [← hw']
    have Xw : XI b n W F Hh D s w := by
      rw [hw']
      exact XI_sa (XI_sa X1 (by decide) hb hF) (by decide) hb hF
    have w55 : w.2.1 255 (60 * b + F) = 1 := by rw [hw', sa_2, if_pos ⟨rfl, rfl⟩]
    have w56 : w.2.1 256 (60 * b + F) = x := by rw [hw', sa_2, if_neg (fun q => by omega), sa_2, if_pos ⟨rfl, rfl⟩]
    have wr : ∀ p, ¬ p = 255 → ¬ p = 256 → w.2.1 p = t.2.1 p := by
      intro p p1 p2
      funext i
      rw [hw', sa_2, if_neg (fun q => p1 q.1), sa_2, if_neg (fun q => p2 q.1)]
      rfl
    have o1 : (1 : Int32).toInt = 1 := by decide
    refine f70 hF hD hH (by omega) r52 r63 h42 hs Xw ⟨by rw [w55]; decide, by rw [w55]; decide, fun q => ?_⟩
    have q : y20.toInt = 0 := by rw [hw'] at q; exact q
    have nm := q20 q
    have w7 : w.1 7 = x20 := by rw [hw']; rfl
    rw [w55, w56, w7, o1]
    refine ⟨by omega, by omega, by rw [wr 253 (by decide) (by decide), t53]; exact tkN_eq (wr 215 (by decide) (by decide)) (wr 217 (by decide) (by decide)) tq.1, by rw [wr 254 (by decide) (by decide), t54]; exact tkN_eq (wr 215 (by decide) (by decide)) (wr 217 (by decide) (by decide)) tq.2, by rw [w55]; decide, by rw [w55]; decide, fun k hk => ?_⟩
    rw [w55, o1] at hk
    rw [w56, show (x.toInt + 2 * (k : Int)) = x.toInt by omega]
    exact tkN_eq (s := sf t 7 x) (wr 215 (by decide) (by decide)) (wr 217 (by decide) (by decide)) nm.2
theorem s_184x {e b n W : Nat} {δ c : Int} {s : yS} (h : TS b n W δ c s) (hδ : 0 ≤ δ) (hf : (s.1 8).toInt = 0) (r52 : (s.2.1 252 b).toInt = 60) : Tot (e + 2) 184 [.ref 213] s (fun v s' => v = none ∧ ∃ y : Int32, s' = sf s 8 y ∧ ¬ y.toInt = 0 ∧ TS b n W 0 3 s') := by
  have hb := h.2.2.1
  have hn : (s.1 30).toInt = (b : Int) := h.2.2.2.1
  have en : (s.1 30).toInt.toNat = b := by omega
  refine t_184 ?_
  unfold w_184_0
  rw [en, r52]
  refine ⟨by omega, fun x1 hx1 => ⟨by omega, by omega, fun x2 hx2 => ⟨by omega, fun q => absurd rfl q, fun _ => ?_⟩⟩⟩
  refine Tot.imp (Tot.mono (by omega) (ts_163 (d := 0) (w := 5) h hδ (by decide) hf (h.2.1.2.2.2.2 hf))) ?_
  rintro v s8 ⟨rfl, y, rfl, y0, hTT⟩
  exact ⟨rfl, rfl, y, rfl, y0, hTT 0 3 (by decide)⟩
