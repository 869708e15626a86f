/-! ===== the class: Stock with what its Rows hold: make, instances: a loaded program stays ===== -/
/-- what Stock may write, what is put for PARAMS with it -/
def JFz (P : Nat) (s s' : zS) : Prop := (∀ r, ¬ r = P + 18 → ¬ r = 76 → ¬ r = 78 → ¬ r = 80 → ¬ r = 198 → ¬ r = 200 → ¬ r = 202 → ¬ r = 204 → s'.2 r = s.2 r) ∧ WFz P s s' ∧ ∀ c q, ¬ (c = 197 ∧ (q = 7 ∨ q = 10)) → ¬ (c = 198 ∧ q = 2) → ¬ (c = 200 ∧ q = 2) → ¬ (c = 202 ∧ q = 2) → s'.1 c q = s.1 c q
/-- what instances may write -/
def MKz (P : Nat) (s s' : zS) : Prop := (∀ r, ¬ r = P + 18 → ¬ r = 76 → ¬ r = 78 → ¬ r = 80 → ¬ r = 198 → ¬ r = 200 → ¬ r = 202 → ¬ r = 204 → s'.2 r = s.2 r) ∧ (∀ j : Nat, ((j : Int) < 18 ∨ (138 ≤ (j : Int) ∧ (j : Int) < 9618) ∨ 18738 ≤ (j : Int)) → s'.2 (P + 18) j = s.2 (P + 18) j) ∧ ∀ c q, ¬ c = 75 → ¬ c = 197 → ¬ (c = 198 ∧ q = 2) → ¬ (c = 200 ∧ q = 2) → ¬ (c = 202 ∧ q = 2) → s'.1 c q = s.1 c q
section ZVM
variable {K L W ar kd : Int → Int} {TN Ls : List Int} {n k0 mB k z lo hi g : Int} {P d : Nat} {s s' u w : zS} {gg : Int × Int} {a1 : Int32}
theorem JFz_i (h : IFz P s s') : JFz P s s' := ⟨fun r a1 _ a3 a4 a5 a6 a7 a8 => h.1 r a1 a3 a4 a5 a6 a7 a8, h.2.1, h.2.2⟩
theorem JFz_rf : JFz P s s := JFz_i IFz_rf
theorem JFz_tr (h : JFz P s u) (g : JFz P u w) : JFz P s w := ⟨fun r a1 a2 a3 a4 a5 a6 a7 a8 => (g.1 r a1 a2 a3 a4 a5 a6 a7 a8).trans (h.1 r a1 a2 a3 a4 a5 a6 a7 a8), WFz_tr h.2.1 g.2.1, fun c q a1 a2 a3 a4 => (g.2.2 c q a1 a2 a3 a4).trans (h.2.2 c q a1 a2 a3 a4)⟩
theorem JFz_6 (hP : P = 3 ∨ P = 39) (h1 : u.1 = s.1) (h2 : ∀ r, ¬ r = 76 → u.2 r = s.2 r) : JFz P s u := ⟨fun r _ h _ _ _ _ _ _ => h2 r h, ⟨fun j _ => by rw [h2 _ (by omega)], by rw [h1]; exact Int.le_refl _⟩, fun c q _ _ _ _ => by rw [h1]⟩
theorem IOz_6 (hP : P = 3 ∨ P = 39) (h1 : u.1 = s.1) (h2 : ∀ r, ¬ r = 76 → u.2 r = s.2 r) (g : IOz ar P s) : IOz ar P u := by
  obtain ⟨hT, nx, ts, ca, me, hc, hR⟩ := g
  refine ⟨by rw [h1]; exact hT, nx, ts, ca, me, by rw [h1]; exact hc, IRz_f (fun j _ _ => by rw [h2 _ (by omega)]) (by rw [h1]) (by rw [h1]; exact ⟨rfl, rfl, rfl, rfl⟩) ⟨h2 _ (by decide), h2 _ (by decide), h2 _ (by decide)⟩ hR⟩
theorem PGz_j (hP : P = 3 ∨ P = 39) (h : JFz P s s') (g : PGz K L W ar kd TN Ls n k0 mB P k z gg s) : PGz K L W ar kd TN Ls n k0 mB P k z gg s' := by
  obtain ⟨u, hu⟩ : ∃ u : zS, u = (s'.1, fun r => if r = 76 then s.2 76 else s'.2 r) := ⟨_, rfl⟩
  have u1 : u.1 = s'.1 := by rw [hu]
  have u2 : ∀ r, ¬ r = 76 → u.2 r = s'.2 r := fun r hr => by
    rw [hu]
    exact if_neg hr
  have F : IFz P s u := by
    refine ⟨fun r a1 a3 a4 a5 a6 a7 a8 => ?_, ⟨fun j hj => by rw [u2 _ (by omega)]; exact h.2.1.1 j hj, by rw [u1]; exact h.2.1.2⟩, fun c q a1 a2 a3 a4 => by rw [u1]; exact h.2.2 c q a1 a2 a3 a4⟩
    by_cases e : r = 76
    · rw [hu, e]
      show (if (76 : Nat) = 76 then s.2 76 else s'.2 76) = s.2 76
      exact if_pos rfl
    · rw [u2 r e]
      exact h.1 r a1 e a3 a4 a5 a6 a7 a8
  have Gu := PGz_i hP F g
  clear hu F g h
  obtain ⟨g1, g2, g3, g4, g5, g6⟩ := Gu
  have hr : ∀ r : Nat, r < 36 → s'.2 (P + r) = u.2 (P + r) := fun r r1 => (u2 _ (by omega)).symm
  have hly : ∀ {pc : Int} {C : List Ins}, LYz P k z u pc C → LYz P k z s' pc C := fun g => LYz_k (fun j _ _ => by rw [hr 18 (by decide)]) (Int.le_refl _) (fun j _ => by rw [hr 34 (by decide)]) (Int.le_refl _) g
  refine ⟨CSz_g hP (fun r hr' => hr r (by omega)) (fun j _ => by rw [hr 26 (by decide)]) (fun j hj => by rw [hr 18 (by decide)]) (fun j _ => by rw [hr 20 (by decide)]) (fun b hb => by rw [u1]) g1, g2, fun g p hg => ?_, ?_, ?_, by rw [← u1]; exact g6⟩
  · have e : fnc s' P (g : Int) 8 = fnc u P (g : Int) 8 := by
      unfold fnc
      rw [hr 26 (by decide)]
    rw [e]
    exact hly (g3 g p hg)
  · rw [← u1]
    exact hly g4
  · rw [← u1]
    exact ⟨kpz_k (fun j _ _ => by rw [hr 18 (by decide)]) (Int.le_refl _) g5.1, g5.2.1, C0z_m (fun C g => hly g) g5.2.2⟩
/-- the code of a METHOD that was opened -/
theorem zi_fn (hP : P = 3 ∨ P = 39) (h : PRm K L W ar kd n lo hi TN Ls) (hPk : PCk K L W ar kd TN Ls mB) (hPc : PCc K L W ar kd TN Ls mB) (G : PGz K L W ar kd TN Ls n k0 mB P k z gg s) (hN : SNz s) (hE : EQi ar P s) (hI : IOz ar P s) (hg : -1 ≤ g ∧ 10 * g < (s.1 (P + 26) 2).toInt) (h1 : a1.toInt = fnc s P g 8) : Zt (d + 45) (wd2 P 105) 105 [.ref 197, .int a1] s (fun v s' => v = none ∧ IFz P s s' ∧ IOz ar P s') := by
  rcases Int.lt_or_le g 0 with q | q
  · have e : a1.toInt = 0 := by
      rw [h1]
      unfold fnc
      exact KI_neg (by omega)
    rcases G.2.2.2.2.1.2.2 with q | ⟨f, p, q1, q2⟩
    · exact zi_105 (nX := 0) (nY := 0) hP h G hN rfl q hPk.2 hPc.2 (Or.inl ⟨rfl, rfl⟩) hI e
    · exact zi_105 hP h G hN rfl q2 (hPk.1 f p q1) (hPc.1 f p q1) (Or.inr hE) hI e
  · have hF : (s.1 (P + 26) 2).toInt = 10 * (kFn K Ls : Int) := G.1.2.2.2.2.2.2.1.2.1
    obtain ⟨gn, rfl⟩ : ∃ gn : Nat, g = (gn : Int) := ⟨g.toNat, by omega⟩
    have hl : gn < (fnQi K 0 Ls).length := by
      rw [fnQi_len]
      omega
    obtain ⟨p, hp⟩ : ∃ p, (fnQi K 0 Ls)[gn]? = some p := ⟨_, List.getElem?_eq_getElem hl⟩
    exact zi_105 hP h G hN rfl (G.2.2.1 gn p hp) (hPk.1 gn p hp) (hPc.1 gn p hp) (Or.inr hE) hI h1
set_option maxHeartbeats 2000000 in
/-- make -/
theorem zi_97 (hP : P = 3 ∨ P = 39) (h : PRm K L W ar kd n lo hi TN Ls) (hPk : PCk K L W ar kd TN Ls mB) (hPc : PCc K L W ar kd TN Ls mB) (G : PGz K L W ar kd TN Ls n k0 mB P k z gg s) (hN : SNz s) (h18 : (s.1 75 3).toInt = 18) : Zu (d + 63) [(197, 5), (197, 6)] [(75, 0, P), (75, 1, P + 18), (75, 2, P + 22)] [(197, 6, P + 18), (197, 5, P), (75, 0, P), (75, 1, P + 18), (75, 2, P + 22)] 97 [.ref 197, .ref P] s (fun v s' => v = none ∧ MKz P s s' ∧ PGz K L W ar kd TN Ls n k0 mB P k z gg s') := by
  obtain ⟨ha, h24⟩ := PR_ar h
  have hF60 := h.2.2.1.2
  refine zc_97 (d := d + 54) hP ?_
  unfold v_97_0
  intro s1 hs1 s2 hs2 s3 hs3 s4 hs4 s5 hs5 s6 hs6
  have F6 : ∀ c q, s6.1 c q = if c = 197 ∧ q = 10 then 0 else if c = 197 ∧ q = 8 then 1 else if c = 197 ∧ q = 7 then 9618 else if c = 202 ∧ q = 2 then 0 else if c = 200 ∧ q = 2 then 0 else if c = 198 ∧ q = 2 then 0 else s.1 c q := fun c q => by rw [hs6, zf_1, hs5, zf_1, hs4, zf_1, hs3, zf_1, hs2, zf_1, hs1, zf_1]
  have r6 : s6.2 = s.2 := by rw [hs6, zf_2, hs5, zf_2, hs4, zf_2, hs3, zf_2, hs2, zf_2, hs1, zf_2]
  clear hs1 hs2 hs3 hs4 hs5 hs6
  have o6 : ∀ c q, ¬ c = 197 → ¬ (c = 198 ∧ q = 2) → ¬ (c = 200 ∧ q = 2) → ¬ (c = 202 ∧ q = 2) → s6.1 c q = s.1 c q := fun c q a1 a2 a3 a4 => by rw [F6, if_neg (fun z => a1 z.1), if_neg (fun z => a1 z.1), if_neg (fun z => a1 z.1), if_neg a4, if_neg a3, if_neg a2]
  have N6 : SNz s6 := SNz_2 r6 hN
  have G6 : PGz K L W ar kd TN Ls n k0 mB P k z gg s6 := PGz_v hP r6 (fun c q _ hc => o6 c q (by omega) (by omega) (by omega) (by omega)) (by rw [o6 0 11 (by decide) (by decide) (by decide) (by decide), o6 0 12 (by decide) (by decide) (by decide) (by decide)]; exact G.2.2.2.2.2) G
  have e7 : (s6.1 197 7).toInt = 9618 := by
    rw [F6, if_neg (by decide), if_neg (by decide), if_pos ⟨rfl, rfl⟩]
    decide
  have e198 : s6.1 198 2 = 0 := by rw [F6, if_neg (by decide), if_neg (by decide), if_neg (by decide), if_neg (by decide), if_neg (by decide), if_pos ⟨rfl, rfl⟩]
  have e200 : s6.1 200 2 = 0 := by rw [F6, if_neg (by decide), if_neg (by decide), if_neg (by decide), if_neg (by decide), if_pos ⟨rfl, rfl⟩]
  have e202 : s6.1 202 2 = 0 := by rw [F6, if_neg (by decide), if_neg (by decide), if_neg (by decide), if_pos ⟨rfl, rfl⟩]
  have I6 : IOz ar P s6 := by
    refine ⟨by rw [o6 75 3 (by decide) (by decide) (by decide) (by decide)]; exact h18, 9618, [], 0, 0, ⟨by decide, fun _ => by decide⟩, ⟨e7, by decide, by decide⟩, ⟨by rw [e198]; decide, fun j A hj => by cases hj⟩, ⟨by rw [e200]; decide, fun c hc => absurd hc (Nat.not_lt_zero _)⟩, by rw [e202]; decide, fun c hc => absurd hc (Nat.not_lt_zero _)⟩
  have mk : ∀ (t1 : Int32) (w s1 : zS), JFz P s6 w → s1 = zf w 197 9 t1 → MKz P s s1 ∧ PGz K L W ar kd TN Ls n k0 mB P k z gg s1 := fun t1 w s1 Jw hs1 => by
    have e1 : s1.2 = w.2 := by rw [hs1, zf_2]
    have f1 : ∀ c q, ¬ c = 197 → s1.1 c q = w.1 c q := fun c q hc => by rw [hs1, zf_1, if_neg (fun z => hc z.1)]
    refine ⟨⟨fun r a1 a2 a3 a4 a5 a6 a7 a8 => by rw [e1, Jw.1 r a1 a2 a3 a4 a5 a6 a7 a8, r6], fun j hj => by rw [e1, Jw.2.1.1 j (by rw [e7]; exact hj), r6], fun c q _ a2 a3 a4 a5 => by rw [f1 c q a2, Jw.2.2 c q (fun z => a2 z.1) a3 a4 a5, o6 c q a2 a3 a4 a5]⟩, ?_⟩
    have Gw := PGz_j hP Jw G6
    exact PGz_v hP e1 (fun c q _ hc => f1 c q (by omega)) (by rw [f1 0 11 (by decide), f1 0 12 (by decide)]; exact Gw.2.2.2.2.2) Gw
  refine Zt.imp (Zt.mo (d := 45) (by omega) ((zi_105 (d := 0) (pc := (s6.1 P 12).toInt) (nX := 0) (nY := 0) hP h G6 N6 rfl G6.2.2.2.1 hPk.2 hPc.2 (Or.inl ⟨rfl, rfl⟩) I6 rfl).sn N6)) ?_
  rintro v7 s8 ⟨⟨rfl, F8, I8⟩, N8⟩
  refine ⟨rfl, ?_⟩
  refine ⟨fun _ c3 u => 0 ≤ c3.toInt ∧ c3.toInt ≤ 151 ∧ SNz u ∧ JFz P s6 u ∧ IOz ar P u, fun _ c3 _ => (151 - c3.toInt).toNat, ⟨by decide, by decide, N8, JFz_i F8, I8⟩, ?_⟩
  rintro c2 c3 u ⟨i1, i2, Nu, Ju, Iu⟩
  have out : ∀ (q2 q3 : Int32) (w : zS), JFz P s6 w → v_97_81 (fun j => Zt (d + 54 + 8) (wd2 P j) j) P q2 q3 w (fun v s' => v = none ∧ MKz P s s' ∧ PGz K L W ar kd TN Ls n k0 mB P k z gg s') := fun q2 q3 w Jw => by
    unfold v_97_81 v_97_88
    exact ⟨fun _ => ⟨by decide, fun s1 hs1 => ⟨rfl, mk _ w s1 Jw hs1⟩⟩, fun _ => ⟨by decide, fun s1 hs1 => ⟨rfl, mk _ w s1 Jw hs1⟩⟩⟩
  unfold v_97_35
  refine ⟨fun _ => out _ _ _ Ju, fun y => ?_⟩
  refine Zt.imp (Zt.mo (d := 9) (by omega) (zw_96 (d := 0) hP)) ?_
  rintro v1 s2' ⟨hs, x3, rfl, -⟩
  subst hs
  refine ⟨x3, rfl, fun _ => out _ _ _ Ju, fun _ => ⟨fun _ => out _ _ _ Ju, fun zz0 => Zt_bd (fun hB => ?_)⟩⟩
  have h202 := hB.2 202 2 0 1359 (by decide +kernel) (by decide +kernel)
  refine Zt.imp (Zt.mo (d := 9) (by omega) (zw_96 (d := 0) hP)) ?_
  rintro v4 s5' ⟨hs, x6, rfl, q6⟩
  subst hs
  have e6 := q6 h202.1
  refine ⟨x6, rfl, ?_⟩
  -- CALLS
  refine ⟨fun b2 b3 b4 w => b2 = x6 ∧ b3 = c3 ∧ 0 ≤ b4.toInt ∧ b4.toInt ≤ 151 ∧ SNz w ∧ JFz P s6 w ∧ IOz ar P w, fun _ _ b4 _ => (151 - b4.toInt).toNat, ⟨rfl, rfl, by decide, by decide, Nu, Ju, Iu⟩, ?_⟩
  rintro b2 b3 b4 w ⟨e2, e3, j1, j2, Nw, Jw, Iw⟩
  subst e2 e3
  unfold v_97_50
  refine Zt_bd (fun hBw => ?_)
  have h200 := hBw.2 200 2 0 1510 (by decide +kernel) (by decide +kernel)
  refine Zt.imp (Zt.mo (d := 9) (by omega) (zw_95 (d := 0) hP)) ?_
  rintro v1 s2' ⟨hs, x3', rfl, q3⟩
  subst hs
  have e3 := q3 h200.1
  refine ⟨x3', rfl, fun _ => ?_, fun y4 x4 hx4 => ?_⟩
  rotate_left
  · have ex4 := hx4 (by omega)
    obtain ⟨cn, ecn⟩ : ∃ cn : Nat, b4.toInt = (cn : Int) := ⟨b4.toInt.toNat, by omega⟩
    refine Zt.imp (Zt.mo (d := 36) (by omega) ((zi_99 (d := 0) (c := cn) hP h (PGz_j hP Jw G6) Nw Iw (by omega) (by omega)).sn Nw)) ?_
    rintro v5 s6' ⟨⟨rfl, F6', I6', -⟩, N6'⟩
    refine ⟨rfl, fun x7 hx7 => ?_⟩
    have := hx7 (by omega)
    exact ⟨⟨rfl, rfl, by omega, by omega, N6', JFz_tr Jw (JFz_i F6'), I6'⟩, by dsimp only; omega⟩
  -- METHODS
  refine ⟨fun g2 g3 g4 zq => g3 = b3 ∧ 0 ≤ g4.toInt ∧ g4.toInt ≤ 151 ∧ SNz zq ∧ JFz P s6 zq ∧ IOz ar P zq, fun _ _ g4 _ => (151 - g4.toInt).toNat, ⟨rfl, by omega, by omega, Nw, Jw, Iw⟩, ?_⟩
  rintro g2 g3 g4 zq ⟨k3, k1, k2, Nz, Jz, Iz⟩
  subst k3
  have nx : ∀ (q2 : Int32) (w : zS), SNz w → JFz P s6 w → IOz ar P w → v_97_79 (fun j => Zt (d + 54 + 8) (wd2 P j) j) P (fun _ a3' s' => (0 ≤ a3'.toInt ∧ a3'.toInt ≤ 151 ∧ SNz s' ∧ JFz P s6 s' ∧ IOz ar P s') ∧ (151 - a3'.toInt).toNat < (151 - g3.toInt).toNat) q2 g3 g4 w (fun v s' => v = none ∧ MKz P s s' ∧ PGz K L W ar kd TN Ls n k0 mB P k z gg s') := fun q2 w Nw Jw Iw => by
    unfold v_97_79
    intro x1 hx1
    have := hx1 (by omega)
    exact ⟨⟨by omega, by omega, Nw, Jw, Iw⟩, by omega⟩
  unfold v_97_63
  refine Zt_bd (fun hBz => ?_)
  have h202' := hBz.2 202 2 0 1359 (by decide +kernel) (by decide +kernel)
  refine Zt.imp (Zt.mo (d := 9) (by omega) (zw_96 (d := 0) hP)) ?_
  rintro v1 s2' ⟨hs, x5, rfl, q5⟩
  subst hs
  have e5 := q5 h202'.1
  refine ⟨x5, rfl, fun _ => nx _ _ Nz Jz Iz, fun y5 => ⟨fun _ => nx _ _ Nz Jz Iz, fun z5 x4 hx4 => ?_⟩⟩
  have ex4 := hx4 (by omega)
  obtain ⟨mn, emn⟩ : ∃ mn : Nat, g4.toInt = (mn : Int) := ⟨g4.toInt.toNat, by omega⟩
  have Gz := PGz_j hP Jz G6
  obtain ⟨hA, hSG⟩ := PG_ar h Gz
  have hFz : (s2'.1 (P + 26) 2).toInt = 10 * (kFn K Ls : Int) := Gz.1.2.2.2.2.2.2.1.2.1
  refine Zt.imp (Zt.mo (d := 27) (by omega) ((zi_101 (d := 0) (m := mn) hP hA ha h24 hSG Iz (by omega) (by omega) (by omega)).sn Nz)) ?_
  rintro v5 s6' ⟨⟨f6, r6', E6, x7, rfl, g, gb, gx⟩, N6'⟩
  refine ⟨x7, rfl, ?_⟩
  have J6 := JFz_6 hP f6 r6'
  have efn : fnc s6' P g 8 = fnc s2' P g 8 := by
    unfold fnc
    rw [r6' _ (by omega)]
  refine Zt.imp (Zt.mo (d := 45) (by omega) ((zi_fn (d := 0) (g := g) hP h hPk hPc (PGz_j hP J6 Gz) N6' E6 (IOz_6 hP f6 r6' Iz) (by rw [f6]; exact gb) (by rw [efn]; exact gx)).sn N6')) ?_
  rintro v8 s9 ⟨⟨rfl, F9, I9⟩, N9⟩
  refine ⟨rfl, fun x10 hx10 => ?_⟩
  have := hx10 (by omega)
  exact ⟨⟨rfl, by omega, by omega, N9, JFz_tr Jz (JFz_tr J6 (JFz_i F9)), I9⟩, by dsimp only; omega⟩
/-- made -/
theorem zi_146 (hP : P = 3 ∨ P = 39) : Zu (d + 18) [] [(0, 9, P)] [] 146 [.ref 0, .int a1] s (fun v s' => s' = s ∧ ∃ r : Int32, v = some (.int r)) := by
  refine zc_146 (d := d + 9) hP ?_
  unfold v_146_0
  refine ⟨fun _ => ⟨fun _ => ⟨rfl, _, rfl⟩, fun _ => ⟨rfl, _, rfl⟩, fun _ => ?_, fun _ => ?_⟩, fun _ => ⟨rfl, _, rfl⟩⟩
  · refine Zt.imp (Zt.mo (d := 9) (by omega) (zw_95 (d := 0) hP)) ?_
    rintro v1 s2 ⟨hs, r, rfl, -⟩
    exact ⟨r, rfl, hs, r, rfl⟩
  · refine Zt.imp (Zt.mo (d := 9) (by omega) (zw_96 (d := 0) hP)) ?_
    rintro v1 s2 ⟨hs, r, rfl, -⟩
    exact ⟨r, rfl, hs, r, rfl⟩
theorem MKz_rf : MKz P s s := ⟨fun _ _ _ _ _ _ _ _ _ => rfl, fun _ _ => rfl, fun _ _ _ _ _ _ _ => rfl⟩
/-- instances -/
theorem zi_145 (hP : P = 3 ∨ P = 39) (h : PRm K L W ar kd n lo hi TN Ls) (hPk : PCk K L W ar kd TN Ls mB) (hPc : PCc K L W ar kd TN Ls mB) (G : PGz K L W ar kd TN Ls n k0 mB P k z gg s) (hN : SNz s) : Zu (d + 72) [(75, 0), (75, 1), (75, 2), (197, 5), (197, 6)] [(0, 9, P)] [] 145 [.ref 0] s (fun _ s' => MKz P s s' ∧ PGz K L W ar kd TN Ls n k0 mB P k z gg s') := by
  refine zc_145 (d := d + 63) hP ?_
  have fin : ∀ w : zS, MKz P s w → PGz K L W ar kd TN Ls n k0 mB P k z gg w → v_145_20 (fun j => Zt (d + 63 + 8) (wd2 P j) j) P (d + 63 + 8) w (fun _ s' => MKz P s s' ∧ PGz K L W ar kd TN Ls n k0 mB P k z gg s') := fun w Mw Gw => by
    unfold v_145_20
    refine Zu.imp (Zu.mo (d := 18) (by omega) (zi_146 (d := 0) hP)) ?_
    rintro v1 s2 ⟨hs, r, rfl⟩
    rw [hs]
    exact ⟨r, rfl, Mw, Gw⟩
  unfold v_145_0
  refine ⟨fun _ => ⟨fun _ => fin _ MKz_rf G, fun _ => ?_⟩, fun _ => ⟨MKz_rf, G⟩⟩
  refine Zu.imp (Zu.mo (d := 18) (by omega) ((zs_81r (d := 0) hP).sn hN)) ?_
  rintro v1 s2 ⟨⟨rfl, r2, t2, -, f2⟩, N2⟩
  refine ⟨rfl, ?_⟩
  have G2 : PGz K L W ar kd TN Ls n k0 mB P k z gg s2 := PGz_v hP r2 (fun c q _ hc => f2 c q (by omega)) (by rw [f2 0 11 (by decide), f2 0 12 (by decide)]; exact G.2.2.2.2.2) G
  refine Zu.imp (Zu.mo (d := 63) (by omega) (zi_97 (d := 0) hP h hPk hPc G2 N2 (by rw [t2]; decide))) ?_
  rintro v3 s4 ⟨rfl, M4, G4⟩
  refine ⟨rfl, fin _ ⟨fun r a1 a2 a3 a4 a5 a6 a7 a8 => by rw [M4.1 r a1 a2 a3 a4 a5 a6 a7 a8, r2], fun j hj => by rw [M4.2.1 j hj, r2], fun c q a1 a2 a3 a4 a5 => by rw [M4.2.2 c q a1 a2 a3 a4 a5, f2 c q a1]⟩ G4⟩
end ZVM
