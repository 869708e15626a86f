/-! ===== the class: Stock's addTypes, addMethod, openMethod in any sane state ===== -/
/-- e: endless; nx: where the next copy stands; ty, ca: how many types, cells of CALLS -/
def STq (e nx ty ca : Int) : Prop := (18 ≤ nx ∧ nx ≤ 100000000) ∧ (e = 0 → ty ≤ 150 ∧ ca ≤ 1509 ∧ nx ≤ 15000 + 4000 * (ty + ca))
def STz (s : zS) : Prop := (s.1 75 3).toInt = 18 ∧ STq (s.1 197 10).toInt (s.1 197 7).toInt (s.1 198 2).toInt (s.1 200 2).toInt
section ZZZHA
variable {d P : Nat} {s u : zS} {a1 a2 a3 : Int32}
theorem STz_1 (h : u.1 = s.1) (hS : STz s) : STz u := by
  unfold STz at hS ⊢
  rw [h]
  exact hS
/-- endless -/
theorem STz_e (h : ∀ b q, ¬ (b = 197 ∧ q = 10) → u.1 b q = s.1 b q) (he : (u.1 197 10).toInt = 0 → (s.1 197 10).toInt = 0) (hS : STz s) : STz u := by
  unfold STz STq at hS ⊢
  rw [h 75 3 (by decide), h 197 7 (by decide), h 198 2 (by decide), h 200 2 (by decide)]
  exact ⟨hS.1, hS.2.1, fun z => hS.2.2 (he z)⟩
set_option maxHeartbeats 1000000 in
theorem zw_106 (hP : P = 3 ∨ P = 39) (h1 : sq a1) (hN : SNz s) (hT : STz s) : Zt (d + 27) (wd2 P 106) 106 [.ref 197, .int a1] s (fun v s' => STz s' ∧ ∃ r : Int32, v = some (.int r) ∧ sq r) := by
  have h11 := h1.1
  have h12 := h1.2
  refine zc_106 (d := d + 18) hP ?_
  unfold v_106_0
  refine Zt.imp (Zt.mo (d := 9) (by omega) ((zw_87 (d := 0) (t := 18) (e := 76) hP (by decide) (sq_sn h1) hT.1 (by decide) (SN_E hN (by decide))).sn hN)) ?_
  rintro v1 s2 ⟨⟨p1, p2, -, x3, rfl, p4, -⟩, N2⟩
  refine ⟨x3, rfl, fun s4 hs4 => ?_⟩
  have f4 : s4.1 = s.1 := by
    funext b q
    rw [hs4, zf_1]
    by_cases e : b = 75 ∧ q = 3
    · rw [if_pos e, e.1, e.2]
    · rw [if_neg e, p2 b q e]
  have N4 : SNz s4 := SNz_2 (by rw [hs4, zf_2]) N2
  have T4 : STz s4 := STz_1 f4 hT
  refine ⟨fun x0 => ?_, fun _ s11 hs11 => ⟨STz_e (s := s4) (fun b q hb => by rw [hs11, zf_1, if_neg hb]) (fun z => ?_) T4, -1, rfl, by decide, by decide⟩⟩
  rotate_left
  · rw [hs11, zf_1, if_pos ⟨rfl, rfl⟩] at z
    exact absurd z (by decide)
  have hx3 : x3.toInt ≤ 1000000000 := by
    rcases p4 with e | e | e
    · omega
    · rw [e]; exact h12
    · omega
  have loop : ∀ t0 : Int32, t0.toInt ≤ x3.toInt + 4000 → v_106_33 (fun j => Zt (d + 18 + 8) (wd2 P j) j) P a1 (s.1 75 3) x3 t0 s4 (fun v s' => STz s' ∧ ∃ r : Int32, v = some (.int r) ∧ sq r) := by
    intro t0 ht0
    unfold v_106_33
    refine ⟨fun _ _ b3 b4 b5 u => b3 = x3 ∧ b4 = t0 ∧ x3.toInt ≤ b5.toInt ∧ SNz u ∧ STz u, fun _ _ _ _ b5 _ => (t0.toInt - b5.toInt).toNat, ⟨rfl, rfl, Int.le_refl _, N4, T4⟩, ?_⟩
    rintro b1 b2 b3 b4 b5 u ⟨e3, e4, i1, Nu, Tu⟩
    subst e3 e4
    have out : v_106_62 (fun j => Zt (d + 18 + 8) (wd2 P j) j) P b1 b2 b3 b4 b5 u (fun v s' => STz s' ∧ ∃ r : Int32, v = some (.int r) ∧ sq r) := by
      unfold v_106_62
      refine Zt.imp (Zt.mo (d := 18) (by omega) (zw_98 (d := 0) hP Nu)) ?_
      rintro v1 s2 ⟨hs, x, rfl, q⟩
      subst hs
      exact ⟨x, rfl, Tu, x, rfl, q⟩
    unfold v_106_36 v_106_60
    refine ⟨fun _ => out, fun y => ⟨fun _ => out, fun z => ?_⟩⟩
    refine Zt.imp (Zt.mo (d := 18) (by omega) (zw_98 (d := 0) hP Nu)) ?_
    rintro v1 s2' ⟨hs, x, rfl, -⟩
    subst hs
    refine ⟨x, rfl, fun _ x1 hx1 => ?_, fun _ => ?_⟩
    · have := hx1 (by omega)
      exact ⟨⟨rfl, rfl, by omega, Nu, Tu⟩, by dsimp only; omega⟩
    refine Zt_bd (fun hB => ?_)
    have h198 := hB.2 198 2 0 151 (by decide +kernel) (by decide +kernel)
    have h200 := hB.2 200 2 0 1510 (by decide +kernel) (by decide +kernel)
    obtain ⟨T1, T2⟩ := Tu
    unfold STq at T2
    have T3 := T2.2 z
    refine Zt.imp (Zt.mo (d := 9) (by omega) (zw_83 (d := 0) hP (by omega))) ?_
    rintro v4 s5 ⟨hs5, x6, rfl, r1, r2⟩
    subst hs5
    refine ⟨x6, rfl, fun x7 hx7 => ?_⟩
    have e7 := hx7 (by omega)
    refine Zt.imp (Zt.mo (d := 9) (by omega) ((zw_107 (d := 0) hP rfl (by omega) (by omega)).sn Nu)) ?_
    rintro v8 s9 ⟨⟨m1, m2, m3, x10, rfl, m4⟩, N9⟩
    refine ⟨x10, rfl, by omega, fun s11 hs11 => ?_⟩
    have N11 : SNz s11 := by
      rw [hs11]
      refine SNz_za N9 (fun _ => ?_)
      show -1000 ≤ x10.toInt ∧ x10.toInt ≤ 1000000000
      omega
    refine Zt.imp (Zt.mo (d := 18) (by omega) ((zw_104 (d := 0) hP).sn N11)) ?_
    rintro v12 s13 ⟨⟨rfl, k1, k2, k3⟩, N13⟩
    refine ⟨rfl, fun x1 hx1 => ?_⟩
    have ex1 := hx1 (by omega)
    have g : ∀ b q, ¬ (b = 198 ∧ q = 2) → s11.1 b q = s9.1 b q := fun b q hb => by rw [hs11, za_o hb]
    have g198 : (s11.1 198 2).toInt = if (s9.1 198 2).toInt < 151 then (s9.1 198 2).toInt + 1 else (s9.1 198 2).toInt := by
      rw [hs11, za_n (by rw [m2 198 2 (by decide)]; omega) (by rw [m2 198 2 (by decide)]; omega), show (lim 198 : Int) = 151 by decide +kernel]
    have T13 : STz s13 := by
      unfold STz STq
      rw [k2 75 3 (by decide), g 75 3 (by decide), m2 75 3 (by decide), k2 197 7 (by decide), g 197 7 (by decide), m3, k2 198 2 (by decide), k2 200 2 (by decide)]
      refine ⟨T1, by omega, fun z' => ?_⟩
      obtain ⟨-, k4, k5⟩ := k3 z'
      refine ⟨k4, k5, ?_⟩
      rw [g198, if_pos (by rw [m2 198 2 (by decide)]; omega), m2 198 2 (by decide), g 200 2 (by decide), m2 200 2 (by decide)]
      omega
    exact ⟨⟨rfl, rfl, by omega, N13, T13⟩, by dsimp only; omega⟩
  refine Zt.imp (Zt.mo (d := 18) (by omega) (zw_98 (d := 0) hP N4)) ?_
  rintro v5 s6 ⟨hs6, x7, rfl, -⟩
  subst hs6
  refine ⟨x7, rfl, fun _ => loop x3 (by omega), fun _ => ?_⟩
  refine Zt.imp (Zt.mo (d := 9) (by omega) (zw_83 (d := 0) hP (by omega))) ?_
  rintro v8 s9 ⟨hs9, x10, rfl, r1, r2⟩
  subst hs9
  exact ⟨x10, rfl, loop x10 (by omega)⟩
/-- addMethod -/
theorem zw_100 (hP : P = 3 ∨ P = 39) (h2 : sq a2) (h3 : sq a3) (hN : SNz s) (hT : STz s) : Zt (d + 27) (wd2 P 100) 100 [.ref 197, .int a1, .int a2, .int a3] s (fun v s' => v = none ∧ STz s') := by
  refine zc_100 (d := d + 18) hP ?_
  unfold v_100_0
  intro x1 _
  refine Zt.imp (Zt.mo (d := 9) (by omega) ((zw_102 (d := 0) hP h2 h3 (SN_q 200 hN _)).sn hN)) ?_
  rintro v2 s3 ⟨⟨rfl, f1, -⟩, N3⟩
  refine ⟨rfl, ?_⟩
  refine ⟨fun _ _ _ c4 u => 0 ≤ c4.toInt ∧ c4.toInt ≤ 6 ∧ SNz u ∧ STz u, fun _ _ _ c4 _ => (6 - c4.toInt).toNat, ⟨by decide, by decide, N3, STz_1 f1 hT⟩, ?_⟩
  rintro c1 c2 c3 c4 u ⟨i1, i2, Nu, Tu⟩
  unfold v_100_12
  refine ⟨fun _ => ?_, fun y x4 _ x5 _ x6 _ => ⟨SN_g Nu (by decide) _, fun s7 hs7 x8 hx8 => ?_⟩⟩
  rotate_left
  · have := hx8 (by omega)
    exact ⟨⟨by omega, by omega, by rw [hs7]; exact SNz_zt Nu (fun _ => SN_g Nu (by decide) _), STz_1 (by rw [hs7, zt_1]) Tu⟩, by dsimp only; omega⟩
  refine Zt.imp (Zt.mo (d := 18) (by omega) (zw_103 (d := 0) (a2 := 9) hP (Or.inr rfl) (by decide))) ?_
  rintro v1 s2 ⟨hs2, x3, rfl⟩
  subst hs2
  unfold v_100_53
  refine ⟨x3, rfl, fun _ => ⟨rfl, Tu⟩, fun _ => ?_⟩
  refine ⟨fun _ _ _ b4 w => 0 ≤ b4.toInt ∧ b4.toInt ≤ 9 ∧ SNz w ∧ STz w, fun _ _ _ b4 _ => (9 - b4.toInt).toNat, ⟨by decide, by decide, Nu, Tu⟩, ?_⟩
  rintro b1 b2 b3 b4 w ⟨j1, j2, Nw, Tw⟩
  unfold v_100_39
  refine ⟨fun _ => ?_, fun y => ⟨SN_g Nw (by decide) _, fun s3' hs3 x4 hx4 => ?_⟩⟩
  · refine Zt.imp (Zt.mo (d := 18) (by omega) (zw_104 (d := 0) hP)) ?_
    rintro v1 s2 ⟨rfl, -, k2, k3⟩
    unfold v_100_53
    exact ⟨rfl, rfl, STz_e k2 (fun z => (k3 z).1) Tw⟩
  · have := hx4 (by omega)
    refine ⟨⟨by omega, by omega, by rw [hs3]; exact SNz_za Nw (fun _ => SN_g Nw (by decide) _), ?_⟩, by dsimp only; omega⟩
    have g : ∀ b q, ¬ (b = 202 ∧ q = 2) → s3'.1 b q = w.1 b q := fun b q hb => by rw [hs3, za_o hb]
    unfold STz
    rw [g 75 3 (by decide), g 197 10 (by decide), g 197 7 (by decide), g 198 2 (by decide), g 200 2 (by decide)]
    exact Tw
/-- openMethod -/
theorem zw_101 (hP : P = 3 ∨ P = 39) (hN : SNz s) : Zt (d + 27) (wd2 P 101) 101 [.ref 197, .int a1] s (fun v s' => s'.1 = s.1 ∧ ∃ r : Int32, v = some (.int r)) := by
  refine zc_101 (d := d + 18) hP ?_
  unfold v_101_0
  refine Zt.imp (Zt.mo (d := 18) (by omega) ((zw_86 (d := 0) (e := 76) hP (by decide) (sq_sn (SN_q 202 hN _)) ⟨by decide, by decide⟩ (SN_E hN (by decide))).sn hN)) ?_
  rintro v1 s2 ⟨⟨rfl, f1, f2, -⟩, N2⟩
  refine ⟨rfl, ?_⟩
  refine ⟨fun c1 c2 u => c1 = a1 ∧ 0 ≤ c2.toInt ∧ u.1 = s.1 ∧ (∀ r, ¬ r = 76 → u.2 r = s.2 r) ∧ SNz u, fun _ c2 _ => (1000000000 - c2.toInt).toNat, ⟨rfl, by decide, f1, f2, N2⟩, ?_⟩
  rintro c1 c2 u ⟨e1, i1, i2, i3, Nu⟩
  unfold v_101_14
  intro x1 _
  have hc : (zg u 202 x1).toInt ≤ 1000000000 := (SN_g Nu (e := 202) (by decide) x1).2
  refine ⟨fun _ x2 _ => ⟨i2, _, rfl⟩, fun y x4 _ x5 _ x6 _ => ?_⟩
  refine Zt.imp (Zt.mo (d := 18) (by omega) ((zw_85 (d := 0) (e := 76) hP (by decide) (sq_sn (SN_q 202 Nu _))).sn Nu)) ?_
  rintro v7 s8 ⟨⟨rfl, g1, g2⟩, N8⟩
  refine ⟨rfl, fun x9 hx9 => ?_⟩
  have := hx9 (by omega)
  exact ⟨⟨e1, by omega, g1.trans i2, fun r hr => (g2 r hr).trans (i3 r hr), N8⟩, by dsimp only; omega⟩
end ZZZHA
