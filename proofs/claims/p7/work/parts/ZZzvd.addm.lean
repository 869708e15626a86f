/-! ===== the class: Stock with what its Rows hold: begin, addMethod, openMethod ===== -/
section ZVD
variable {ar : Int → Int} {P d e : Nat} {s s' u w : zS} {nx nx' x b : Int} {A B D : List Int} {ts : List (List Int)} {ca me : Nat} {a1 a2 a3 : Int32}
/-- begin -/
theorem zi_102 (hP : P = 3 ∨ P = 39) (h1 : sq a1) (h2 : sq a2) (h3 : sq a3) : Zt (d + 9) (wd2 P 102) 102 [.ref 197, .int a1, .int a2, .int a3] s (fun v s' => v = none ∧ s'.1 = s.1 ∧ (∀ r, ¬ r = 204 → s'.2 r = s.2 r) ∧ s'.2 204 0 = a1 ∧ s'.2 204 1 = a2 ∧ s'.2 204 2 = a3) := by
  have l4 : (lim 204 : Int) = 9 := by decide +kernel
  have z0 : (0 : Int32).toInt = 0 := by decide
  have z1 : (1 : Int32).toInt = 1 := by decide
  have z2 : (2 : Int32).toInt = 2 := by decide
  refine zc_102 hP ?_
  unfold v_102_0
  refine ⟨h1, fun s1 hs1 => ⟨h2, fun s2 hs2 => ⟨h3, fun s3 hs3 => ?_⟩⟩⟩
  have r3 : ∀ r, ¬ r = 204 → s3.2 r = s.2 r := fun r hr => by rw [hs3, zt_o hr, hs2, zt_o hr, hs1, zt_o hr]
  have f3 : s3.1 = s.1 := by rw [hs3, zt_1, hs2, zt_1, hs1, zt_1]
  have c3 : ∀ j, s3.2 204 j = if j = 2 then a3 else if j = 1 then a2 else if j = 0 then a1 else s.2 204 j := fun j => by
    rw [hs3, zt_in (by rw [l4, z2]; decide), zr_2, hs2, zt_in (by rw [l4, z1]; decide), zr_2, hs1, zt_in (by rw [l4, z0]; decide), zr_2, z0, z1, z2]
    simp only [true_and]
    rfl
  refine ⟨fun _ _ _ c4 u => 0 ≤ c4.toInt ∧ c4.toInt ≤ 6 ∧ u.1 = s.1 ∧ (∀ r, ¬ r = 204 → u.2 r = s.2 r) ∧ u.2 204 0 = a1 ∧ u.2 204 1 = a2 ∧ u.2 204 2 = a3, fun _ _ _ c4 _ => (6 - c4.toInt).toNat, ⟨by decide, by decide, f3, r3, by rw [c3]; rfl, by rw [c3]; rfl, by rw [c3]; rfl⟩, ?_⟩
  rintro c1 c2 c3' c4 u ⟨e1, e2, e3, e4, e5, e6, e7⟩
  unfold v_102_17
  refine ⟨fun _ => ⟨rfl, e3, e4, e5, e6, e7⟩, fun y x1 hx1 s4 hs4 x3 hx3 => ?_⟩
  have ex1 := hx1 (by omega)
  have := hx3 (by omega)
  have c4' : ∀ j, j < 3 → s4.2 204 j = u.2 204 j := fun j hj => by rw [hs4, zt_in (by rw [l4]; omega), zr_2, if_neg (fun q => by omega)]
  exact ⟨⟨by omega, by omega, by rw [hs4, zt_1]; exact e3, fun r hr => by rw [hs4, zt_o hr]; exact e4 r hr, by rw [c4' 0 (by decide)]; exact e5, by rw [c4' 1 (by decide)]; exact e6, by rw [c4' 2 (by decide)]; exact e7⟩, by dsimp only; omega⟩
end ZVD
section ZVE
variable {ar : Int → Int} {P d c : Nat} {s : zS} {a1 a2 a3 : Int32}
set_option maxHeartbeats 2000000 in
/-- addMethod: of the CALL at 10 * c -/
theorem zi_100 (hP : P = 3 ∨ P = 39) (hN : SNz s) (hI : IOz ar P s) (h0 : (s.1 197 10).toInt = 0) (hc : a1.toInt = 10 * (c : Int)) (hcn : 10 * (c : Int) < (s.1 200 2).toInt) (h2 : ∃ A, MDt ar P s (s.1 197 7).toInt a2.toInt A) (h3 : -1 ≤ a3.toInt ∧ 10 * a3.toInt < (s.1 (P + 26) 2).toInt) (hF6 : (s.1 (P + 26) 2).toInt ≤ 600) : Zt (d + 27) (wd2 P 100) 100 [.ref 197, .int a1, .int a2, .int a3] s (fun v s' => v = none ∧ IFz P s s' ∧ IOz ar P s' ∧ s'.1 198 2 = s.1 198 2 ∧ s'.1 200 2 = s.1 200 2) := by
  obtain ⟨hT, nx, ts, ca, me, hcn', hR⟩ := hI
  obtain ⟨⟨n1, n2, n3⟩, r1, r2, r3⟩ := id hR
  have h150 := hcn'.2 h0
  have r2s := r2.1
  have hcc : c < ca := by omega
  obtain ⟨A, hA⟩ := h2
  rw [n1] at hA
  obtain ⟨⟨-, q2, q3⟩, -⟩ := r2.2 c hcc
  have hA2 := hA.2.1
  have l4 : (lim 204 : Int) = 9 := by decide +kernel
  have l2 : (lim 202 : Int) = 1359 := by decide +kernel
  refine zc_100 (d := d + 18) hP ?_
  unfold v_100_0
  intro x1 hx1
  have ex1 := hx1 (by omega)
  have ect : (zg s 200 x1).toInt = KI (s.2 200) (10 * (c : Int) + 2) := by rw [zg_K, ex1, hc]
  refine Zt.imp (Zt.mo (d := 9) (by omega) ((zi_102 (d := 0) hP ⟨by omega, by omega⟩ ⟨by omega, by omega⟩ ⟨by omega, by omega⟩).sn hN)) ?_
  rintro v2 s3 ⟨⟨rfl, f1, f2, f3, f4, f5⟩, N3⟩
  refine ⟨rfl, ?_⟩
  refine ⟨fun c1 _ _ c4 u => c1 = a1 ∧ u.1 = s.1 ∧ (∀ r, ¬ r = 204 → u.2 r = s.2 r) ∧ (u.2 204 0 = a2 ∧ u.2 204 1 = a3 ∧ u.2 204 2 = zg s 200 x1) ∧ SNz u ∧ ∃ i : Nat, c4.toInt = (i : Int) ∧ i ≤ 6 ∧ ∀ i' : Nat, i' < i → (u.2 204 (3 + i')).toInt = KI (s.2 200) (10 * (c : Int) + 3 + (i' : Int)), fun _ _ _ c4 _ => (6 - c4.toInt).toNat, ⟨rfl, f1, f2, ⟨f3, f4, f5⟩, N3, 0, by decide, by decide, fun i' h => absurd h (Nat.not_lt_zero _)⟩, ?_⟩
  rintro c1 c2 c3 c4 u ⟨e1, u1, u2, ⟨u3, u4, u5⟩, Nu, i, i1, i2, i3⟩
  subst e1
  unfold v_100_12
  refine ⟨fun y => ?_, fun y x4 hx4 x5 hx5 x6 hx6 => ⟨SN_g Nu (by decide) _, fun s7 hs7 x8 hx8 => ?_⟩⟩
  rotate_left
  · have ex4 := hx4 (by omega)
    have ex5 := hx5 (by omega)
    have ex6 := hx6 (by omega)
    have ex8 := hx8 (by omega)
    have ez : (zg u 200 x6).toInt = KI (s.2 200) (10 * (c : Int) + 3 + (i : Int)) := by rw [zg_K, u2 200 (by decide), ex6, ex5, hc, i1]
    have r7 : ∀ r j, s7.2 r j = if r = 204 ∧ j = 3 + i then zg u 200 x6 else u.2 r j := fun r j => by rw [hs7, zt_in (by rw [l4]; omega), zr_2, show x4.toInt.toNat = 3 + i by omega]
    refine ⟨⟨rfl, by rw [hs7, zt_1]; exact u1, fun r hr => by rw [hs7, zt_o hr]; exact u2 r hr, ⟨by rw [r7, if_neg (fun q => by omega)]; exact u3, by rw [r7, if_neg (fun q => by omega)]; exact u4, by rw [r7, if_neg (fun q => by omega)]; exact u5⟩, by rw [hs7]; exact SNz_zt Nu (fun _ => SN_g Nu (by decide) _), i + 1, by omega, by omega, fun i' hi' => ?_⟩, by dsimp only; omega⟩
    rw [r7]
    by_cases e : i' = i
    · rw [if_pos ⟨rfl, by omega⟩, e]
      exact ez
    · rw [if_neg (fun q => by omega)]
      exact i3 i' (by omega)
  refine Zt.imp (Zt.mo (d := 18) (by omega) (zw_103 (d := 0) (a2 := 9) hP (Or.inr rfl) (by decide))) ?_
  rintro v1 s2 ⟨hs2, x3, rfl⟩
  subst hs2
  unfold v_100_53
  have R2 : IRz ar P s2 nx ts ca me := IRz_f (fun j _ _ => by rw [u2 _ (by omega)]) (by rw [u1]) (by rw [u1]; exact ⟨rfl, rfl, rfl, rfl⟩) ⟨u2 _ (by decide), u2 _ (by decide), u2 _ (by decide)⟩ hR
  have T2 : (s2.1 75 3).toInt = 18 := by rw [u1]; exact hT
  have F2 : IFz P s s2 := ⟨fun r _ _ _ _ _ _ h => u2 r h, ⟨fun j _ => by rw [u2 _ (by omega)], by rw [u1]; exact Int.le_refl _⟩, fun c q _ _ _ _ => by rw [u1]⟩
  refine ⟨x3, rfl, fun _ => ⟨rfl, F2, ⟨T2, nx, ts, ca, me, ⟨hcn'.1, fun _ => h150⟩, R2⟩, by rw [u1], by rw [u1]⟩, fun _ => ?_⟩
  refine ⟨fun _ _ _ b4 w => SNz w ∧ (∀ b q, ¬ (b = 202 ∧ q = 2) → w.1 b q = s2.1 b q) ∧ (∀ r, ¬ r = 202 → w.2 r = s2.2 r) ∧ ∃ k : Nat, b4.toInt = (k : Int) ∧ k ≤ 9 ∧ (w.1 202 2).toInt = 9 * (me : Int) + (k : Int) ∧ ∀ j : Nat, w.2 202 j = if 9 * me ≤ j ∧ j < 9 * me + k then s2.2 204 (j - 9 * me) else s2.2 202 j, fun _ _ _ b4 _ => (9 - b4.toInt).toNat, ⟨Nu, fun _ _ _ => rfl, fun _ _ => rfl, 0, by decide, by decide, by rw [R2.2.2.2.1]; omega, fun j => by rw [if_neg (fun q => by omega)]⟩, ?_⟩
  rintro b1 b2 b3 b4 w ⟨Nw, w1, w2, k, k1, k2, k3, k4⟩
  unfold v_100_39
  refine ⟨fun y => ?_, fun y => ⟨SN_g Nw (by decide) _, fun s3' hs3 x4 hx4 => ?_⟩⟩
  · have ek : k = 9 := by omega
    subst ek
    refine Zt.imp (Zt.mo (d := 18) (by omega) (zi_104 (d := 0) (ty := ts.length) (ca := ca) (me := me + 1) hP (by rw [w1 198 2 (by decide)]; exact R2.2.1.1) (by rw [w1 200 2 (by decide)]; exact R2.2.2.1.1) (by rw [k3]; omega))) ?_
    rintro v1 s4 ⟨rfl, j1, j2, j3⟩
    unfold v_100_53
    have fo : ∀ b q, ¬ (b = 197 ∧ q = 10) → ¬ (b = 202 ∧ q = 2) → s4.1 b q = s2.1 b q := fun b q h1 h2 => by rw [j2 b q h1, w1 b q h2]
    have ro : ∀ r, ¬ r = 202 → s4.2 r = s2.2 r := fun r hr => by rw [j1, w2 r hr]
    have hfr : ∀ j : Nat, 9618 ≤ (j : Int) → (j : Int) < nx → s4.2 (P + 18) j = s2.2 (P + 18) j := fun j _ _ => by rw [ro _ (by omega)]
    have hws : ∀ j : Nat, 9618 ≤ (j : Int) → (j : Int) < nx → s4.2 (P + 18) j = s.2 (P + 18) j := fun j _ _ => by rw [ro _ (by omega), u2 _ (by omega)]
    have c4' : ∀ j, s4.2 202 j = if 9 * me ≤ j ∧ j < 9 * me + 9 then s2.2 204 (j - 9 * me) else s2.2 202 j := fun j => by
      rw [j1]
      exact k4 j
    refine ⟨rfl, rfl, IFz_tr F2 ⟨fun r _ _ _ _ _ h _ => ro r h, ⟨fun j _ => by rw [ro _ (by omega)], by rw [fo 197 7 (by decide) (by decide)]; exact Int.le_refl _⟩, fun c q h1 _ _ h4 => fo c q (fun z => h1 ⟨z.1, Or.inr z.2⟩) h4⟩, ⟨by rw [fo 75 3 (by decide) (by decide)]; exact T2, nx, ts, ca, me + 1, ⟨by omega, fun z => by have := (j3 z).2; omega⟩, ⟨by rw [fo 197 7 (by decide) (by decide)]; exact R2.1, IRt_f hfr (Int.le_refl _) (fo 198 2 (by decide) (by decide)) (ro 198 (by decide)) R2.2.1, IRc_f hfr (Int.le_refl _) (fo 200 2 (by decide) (by decide)) (ro 200 (by decide)) R2.2.2.1, by rw [j2 202 2 (by decide), k3]; omega, fun m hm => ?_⟩⟩, by rw [fo 198 2 (by decide) (by decide), u1], by rw [fo 200 2 (by decide) (by decide), u1]⟩
    by_cases em : m = me
    · subst em
      have cc : ∀ i : Nat, i < 9 → KI (s4.2 202) (9 * (m : Int) + (i : Int)) = (s2.2 204 i).toInt := fun i hi => by rw [show 9 * (m : Int) + (i : Int) = ((9 * m + i : Nat) : Int) by omega, KI_n, c4', if_pos ⟨by omega, by omega⟩, show 9 * m + i - 9 * m = i by omega]
      have c0 := cc 0 (by decide)
      rw [show 9 * (m : Int) + ((0 : Nat) : Int) = 9 * (m : Int) by omega] at c0
      have c1 : KI (s4.2 202) (9 * (m : Int) + 1) = (s2.2 204 1).toInt := cc 1 (by decide)
      have c2 : KI (s4.2 202) (9 * (m : Int) + 2) = (s2.2 204 2).toInt := cc 2 (by decide)
      have eF : s4.1 (P + 26) 2 = s.1 (P + 26) 2 := by rw [fo (P + 26) 2 (fun z => by omega) (fun z => by omega), u1]
      refine ⟨⟨⟨A, ?_⟩, ?_, fun i hi => ?_⟩, ?_, ?_⟩
      · rw [c0, u3]
        exact MDt_f hws (Int.le_refl _) hA
      · rw [c2, u5, ect]
        exact q2
      · rw [c2, u5, ect] at hi
        obtain ⟨D, hD⟩ := q3 i hi
        refine ⟨D, ?_⟩
        rw [show 9 * (m : Int) + 3 + (i : Int) = 9 * (m : Int) + ((3 + i : Nat) : Int) by omega, cc (3 + i) (by omega), i3 i (by omega)]
        exact MDt_f hws (Int.le_refl _) hD
      · rw [c1, u4]
        exact h3.1
      · rw [c1, u4, eF]
        exact h3.2
    · have hm' := r3.2 m (by omega)
      have e : KI (s4.2 202) (9 * (m : Int) + 1) = KI (s.2 202) (9 * (m : Int) + 1) := by rw [KI_p (by omega), KI_p (by omega), c4', if_neg (fun q => by omega), u2 202 (by decide)]
      refine ⟨CAd_f hws (Int.le_refl _) (by omega) (fun j j1' j2' => ?_) hm'.1, by rw [e, fo (P + 26) 2 (fun z => by omega) (fun z => by omega), u1]; exact hm'.2⟩
      rw [c4', if_neg (fun q => by omega), u2 202 (by decide)]
  · have ex4 := hx4 (by omega)
    have hsz : (w.1 202 2).toInt < (lim 202 : Int) := by rw [l2]; omega
    refine ⟨⟨by rw [hs3]; exact SNz_za Nw (fun _ => SN_g Nw (by decide) _), fun b q hb => by rw [hs3, za_o hb]; exact w1 b q hb, fun r hr => by rw [hs3, za_r hr]; exact w2 r hr, k + 1, by omega, by omega, ?_, fun j => ?_⟩, by dsimp only; omega⟩
    · rw [hs3, za_n (by omega) (by omega), if_pos hsz]
      omega
    · rw [hs3, za_c hsz, k3]
      by_cases ej : j = 9 * me + k
      · rw [if_pos ⟨rfl, by omega⟩, if_pos ⟨by omega, by omega⟩]
        unfold zg
        rw [if_pos (by omega), w2 204 (by decide), show b4.toInt.toNat = j - 9 * me by omega]
      · rw [if_neg (fun q => ej (by have := q.2; omega)), k4]
        by_cases q : 9 * me ≤ j ∧ j < 9 * me + k
        · rw [if_pos q, if_pos ⟨q.1, by omega⟩]
        · rw [if_neg q, if_neg (fun q' => q ⟨q'.1, by omega⟩)]
end ZVE
section ZVF
variable {ar : Int → Int} {P d m : Nat} {s : zS} {a1 : Int32}
set_option maxHeartbeats 2000000 in
/-- openMethod: of the METHOD at 9 * m -/
theorem zi_101 (hP : P = 3 ∨ P = 39) (hA : KI (s.2 (P + 22)) = ar) (h6 : ∀ c, 0 ≤ ar c ∧ ar c ≤ 7) (h24 : ∀ c, 24 ≤ c → ar c = 0) (hS : SGz P s) (hI : IOz ar P s) (hm : a1.toInt = 9 * (m : Int)) (hmn : 9 * (m : Int) < (s.1 202 2).toInt) (hF6 : (s.1 (P + 26) 2).toInt ≤ 600) : Zt (d + 27) (wd2 P 101) 101 [.ref 197, .int a1] s (fun v s' => s'.1 = s.1 ∧ (∀ r, ¬ r = 76 → s'.2 r = s.2 r) ∧ EQi ar P s' ∧ ∃ r : Int32, v = some (.int r) ∧ ∃ g : Int, (-1 ≤ g ∧ 10 * g < (s.1 (P + 26) 2).toInt) ∧ r.toInt = fnc s P g 8) := by
  obtain ⟨hT, nx, ts, ca, me, hcn', hR⟩ := hI
  obtain ⟨⟨n1, n2, n3⟩, r1, r2, r3⟩ := id hR
  have r3s := r3.1
  have hmm : m < me := by omega
  obtain ⟨⟨⟨A, hAm⟩, q2, q3⟩, q4, q5⟩ := r3.2 m hmm
  obtain ⟨⟨A1, A2, A3⟩, ⟨A4, A5⟩, A6⟩ := id hAm
  refine zc_101 (d := d + 18) hP ?_
  unfold v_101_0
  have e0 : (zg s 202 a1).toInt = KI (s.2 202) (9 * (m : Int)) := by rw [zg_K, hm]
  rw [← e0] at A4 A5 A6
  obtain ⟨co, l, rfl⟩ : ∃ co l, A = co :: l := by
    cases A with
    | nil => exact absurd rfl (isR_ne A1)
    | cons co l => exact ⟨co, l, rfl⟩
  obtain ⟨p1, p2, p3⟩ := argT_ok h6 A1
  have hll : (co :: l).length = l.length + 1 := rfl
  have h7 := h6 co
  have wc : KI (s.2 (P + 18)) (zg s 202 a1).toInt = co := by
    have := A6 0 co rfl
    rw [show (zg s 202 a1).toInt + ((0 : Nat) : Int) = (zg s 202 a1).toInt by omega] at this
    exact this
  have wl : WDz P s ((zg s 202 a1).toInt + 1) l := fun i c hc => by
    have := A6 (i + 1) c hc
    rw [show (zg s 202 a1).toInt + ((i + 1 : Nat) : Int) = (zg s 202 a1).toInt + 1 + (i : Int) by omega] at this
    exact this
  have i0 : (0 : Int32).toInt = 0 := by decide
  have TX : ∀ x ∈ argT ar (co :: l), TQi ar x := fun x hx => by
    obtain ⟨i, hi⟩ := List.getElem?_of_mem hx
    have hin : ∀ c ∈ x, c ∈ l := fun c hc => by
      rw [← p1]
      exact List.mem_flatten.mpr ⟨x, hx, hc⟩
    refine ⟨p2 x hx, ?_, fun c hc => A3 c (List.mem_cons_of_mem _ (hin c hc))⟩
    have f1 := fl_take hi
    have f2 := fl_le (argT ar (co :: l)) (i + 1)
    rw [p1] at f2
    omega
  have T24 : ∀ p : Nat, p < 12 → TQi ar [24 + (p : Int)] := fun p hp => ⟨one_R h24 (by omega), by show 1 ≤ 60; decide, fun c hc => by rw [List.mem_singleton.mp hc]; omega⟩
  have Teta : ∀ p, p < 12 → TQi ar (eta (argT ar (co :: l)) [] p) := fun p hp => by
    unfold eta
    by_cases h1 : p < 6
    · rw [if_pos h1]
      by_cases h2 : p < (argT ar (co :: l)).length
      · rw [if_pos h2, List.getD_eq_getElem?_getD, List.getElem?_eq_getElem h2]
        exact TX _ (List.getElem_mem h2)
      · rw [if_neg h2]
        exact T24 p hp
    · rw [if_neg h1, if_neg (show ¬ p - 6 < ([] : List (List Int)).length from Nat.not_lt_zero _)]
      exact T24 p hp
  refine Zt.imp (Zt.mo (d := 10) (by omega) (zs_86u (d := 0) (e := 76) (U := nx) (t := 18) (X := argT ar (co :: l)) (Y := []) hP (by decide) hA h6 h24 hS ⟨by omega, by omega⟩ (fun w => absurd rfl w) (by rw [wc]; exact p3.symm) p2 (by rw [p1]; exact wl) ⟨by rw [p1]; omega, by omega⟩ i0 (fun x hx => by cases hx) (fun i c hc => by cases hc) ⟨Nat.zero_le _, Nat.zero_le _⟩ (by decide) (by rw [p1]; exact Or.inr ⟨by omega, by omega⟩) (fun w => absurd rfl w))) ?_
  rintro v1 s2 ⟨rfl, f1, f2, f3⟩
  refine ⟨rfl, ?_⟩
  have P76 : ¬ P + 18 = 76 ∧ ¬ P + 22 = 76 ∧ ¬ P + 26 = 76 := by omega
  refine ⟨fun c1 c2 u => c1 = a1 ∧ u.1 = s.1 ∧ (∀ r, ¬ r = 76 → u.2 r = s.2 r) ∧ (∃ η : Nat → List Int, ENzu nx P u 76 18 η 12 ∧ ∀ p, p < 12 → TQi ar (η p)) ∧ ∃ i : Nat, c2.toInt = (i : Int) ∧ i ≤ 6, fun _ c2 _ => (6 - c2.toInt).toNat, ⟨rfl, f1, f2, ⟨_, f3, Teta⟩, 0, by decide, by decide⟩, ?_⟩
  rintro c1 c2 u ⟨e1, u1, u2, ⟨η, g1, g2⟩, i, i1, i2⟩
  subst e1
  unfold v_101_14
  intro x1 hx1
  have ex1 := hx1 (by omega)
  have ect : (zg u 202 x1).toInt = KI (s.2 202) (9 * (m : Int) + 2) := by rw [zg_K, u2 202 (by decide), ex1, hm]
  refine ⟨fun _ x2 hx2 => ?_, fun y x4 hx4 x5 hx5 x6 hx6 => ?_⟩
  · have ex2 := hx2 (by omega)
    have efn : (zg u 202 x2).toInt = KI (s.2 202) (9 * (m : Int) + 1) := by rw [zg_K, u2 202 (by decide), ex2, hm]
    refine ⟨u1, u2, ⟨η, by rw [u1, n1]; exact g1, g2⟩, _, rfl, KI (s.2 202) (9 * (m : Int) + 1), ⟨q4, q5⟩, ?_⟩
    have m1 := i_mul (x := zg u 202 x2) (y := 10) rfl (show (10 : Int32).toInt = 10 by decide) (by omega)
    have m2 := i_add (x := zg u 202 x2 * 10) (y := 8) rfl (show (8 : Int32).toInt = 8 by decide) (by omega)
    rw [zg_K, u2 _ P76.2.2, m2, m1, efn]
    unfold fnc
    rw [Int.mul_comm]
  · have ex4 := hx4 (by omega)
    have ex5 := hx5 (by omega)
    have ex6 := hx6 (by omega)
    have hi6 : (i : Int) < KI (s.2 202) (9 * (m : Int) + 2) := by omega
    obtain ⟨B, hB⟩ := q3 i hi6
    have et : (zg u 202 x6).toInt = KI (s.2 202) (9 * (m : Int) + 3 + (i : Int)) := by rw [zg_K, u2 202 (by decide), ex6, ex5, hm, i1]
    obtain ⟨B1, ⟨B4, B5⟩, B6⟩ := id hB
    rw [← et] at B4 B5 B6
    have hBl := B1.2.1
    have B6' : WDz P u (zg u 202 x6).toInt B := fun j c hj => by
      rw [u2 _ P76.1]
      exact B6 j c hj
    refine Zt.imp (Zt.mo (d := 18) (by omega) (zs_85 (d := 0) (e := 76) (p := 6 + i) (B := B) hP (by decide) (by rw [u2 _ P76.2.1]; exact hA) h6 (by omega) (by omega) ⟨by omega, by omega⟩ B1.1 hBl B6')) ?_
    rintro v7 s8 ⟨rfl, k1, k2, x, hx, k3⟩
    refine ⟨rfl, fun x9 hx9 => ?_⟩
    have ex9 := hx9 (by omega)
    obtain ⟨η', hη⟩ : ∃ η' : Nat → List Int, ∀ p, η' p = if p = 6 + i then B else η p := ⟨_, fun _ => rfl⟩
    refine ⟨⟨rfl, k1.trans u1, fun r hr => (k2 r hr).trans (u2 r hr), ⟨η', fun p hp => ?_, fun p hp => ?_⟩, i + 1, by omega, by omega⟩, by dsimp only; omega⟩
    · have w8 : ∀ (y : Int) (D : List Int), WDz P u y D → WDz P s8 y D := fun y D g j c hj => by
        rw [k2 _ P76.1]
        exact g j c hj
      by_cases ep : p = 6 + i
      · subst ep
        rw [hη, if_pos rfl]
        refine ⟨(zg u 202 x6).toInt, ?_, ?_, ⟨by omega, by omega, Or.inr ⟨by omega, by omega⟩, by omega⟩, w8 _ _ B6'⟩
        · rw [KI_n, k3, if_neg (by omega), if_pos rfl]
        · rw [show 12 + ((6 + i : Nat) : Int) = ((12 + (6 + i) : Nat) : Int) by omega, KI_n, k3, if_pos rfl]
          exact hx
      · rw [hη, if_neg ep]
        obtain ⟨y, y1, y2, y3, y4⟩ := g1 p hp
        refine ⟨y, ?_, ?_, y3, w8 _ _ y4⟩
        · rw [KI_n, k3, if_neg (by omega), if_neg ep, ← KI_n]
          exact y1
        · rw [show 12 + (p : Int) = ((12 + p : Nat) : Int) by omega] at y2 ⊢
          rw [KI_n, k3, if_neg (by omega), if_neg (by omega), ← KI_n]
          exact y2
    · by_cases ep : p = 6 + i
      · rw [hη, if_pos ep]
        exact B1
      · rw [hη, if_neg ep]
        exact g2 p hp
end ZVF
