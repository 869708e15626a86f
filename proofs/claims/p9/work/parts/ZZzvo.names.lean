/-! ===== names: the signs of a token in the class, its word's numbers in the reference ===== -/
section ZYH
variable {sg sg' : Nat → Int32} {n k e j l P N d : Nat} {B b : Int} {s0 z : zS} {s t : yS} {Wl : List (Int64 × Int64)}
theorem ecl_w {f : Nat → Int} : ecl ((List.range l).map f) = (Int64.ofInt (wvl (fun i => rkc (f i)) (min l 9)), Int64.ofInt (wvl (fun i => rkc (f (9 + i))) (l - 9))) := by
  have e1 : ((((List.range l).map f).take 9).map rkc) = (List.range (min l 9)).map (fun i => rkc (f i)) := by
    refine List.ext_getElem ?_ (fun i h1 h2 => ?_)
    · rw [List.length_map, List.length_take, List.length_map, List.length_range, List.length_map, List.length_range]
      omega
    · rw [List.getElem_map, List.getElem_take, List.getElem_map, List.getElem_range, List.getElem_map, List.getElem_range]
  have e2 : ((((List.range l).map f).drop 9).map rkc) = (List.range (l - 9)).map (fun i => rkc (f (9 + i))) := by
    refine List.ext_getElem ?_ (fun i h1 h2 => ?_)
    · rw [List.length_map, List.length_drop, List.length_map, List.length_range, List.length_map, List.length_range]
    · rw [List.getElem_map, List.getElem_drop, List.getElem_map, List.getElem_range, List.getElem_map, List.getElem_range]
  unfold ecl
  rw [e1, e2, wvl_num, wvl_num]
/-- a name's token: its signs, its word -/
theorem nm_sg (hX : TXT s0 P n z) (hn : n ≤ 4000) (hA : Agr n (z.2 (P + 2)) sg') (hR : RKp sg' B n n Wl t) {q : Nat} (hq : q ≤ ntk (z.2 (P + 2)) n) (hk : (z.2 (P + 4) q).toInt = 1) : (0 ≤ KI (z.2 (P + 6)) (q : Int) ∧ KI (z.2 (P + 6)) (q : Int) ≤ 5000) ∧ (0 ≤ KI (z.2 (P + 8)) (q : Int) ∧ KI (z.2 (P + 8)) (q : Int) ≤ 5000) ∧ wOK (sgZ P z (q : Int)) ∧ ∃ k : Nat, (t.2.1 217 (B + (q : Int)).toNat).toInt = (k : Int) ∧ Wl[k]? = some (ecl (sgZ P z (q : Int))) := by
  obtain ⟨-, x2, x3, x4, x5, x6, x7⟩ := hX
  have hq2 : q < ntk (z.2 (P + 2)) n := by
    rcases Nat.lt_or_ge q (ntk (z.2 (P + 2)) n) with h | h
    · exact h
    · exfalso
      rw [show q = ntk (z.2 (P + 2)) n by omega, x5] at hk
      omega
  obtain ⟨j, j1, j2, j3⟩ := ntk_sur n q hq2
  obtain ⟨e, y1, y2, y3, y4⟩ := x4 j j1 j2
  have hst : stt sg' j = true := by rw [ag_stt hA j1]; exact j2
  obtain ⟨e', w1, w2, w3⟩ := hR j j1 hst
  have ej : ntk sg' j = ntk (z.2 (P + 2)) j := ag_ntk hA j (by omega)
  rw [ej, j3] at w2 w3
  rw [j3] at y2 y3 y4
  have ee : e = e' := WEd_un y1 (ag_WEd hA w1)
  subst ee
  have hke := y1.1
  have hen := y1.2.1
  rw [hk] at y4
  unfold tkr at w3
  rw [hA j j1] at w3
  rcases y4 with ⟨hl, h⟩ | ⟨hl, h⟩
  · rcases h with ⟨-, hr⟩ | ⟨h12, -⟩
    · omega
    obtain ⟨h1, k, h2, h3⟩ := (w3.1 hl).1 h12
    have e1 : ecw sg' j (e - j) = ecw (z.2 (P + 2)) j (e - j) := ecw_cg (fun i hi => by rw [hA (j + i) (by omega)])
    rw [e1] at h3
    have k6 : KI (z.2 (P + 6)) (q : Int) = (j : Int) := by rw [KI_n]; exact y2
    have k8 : KI (z.2 (P + 8)) (q : Int) = (e : Int) - (j : Int) := by rw [KI_n]; exact y3
    have ew : sgZ P z (q : Int) = (List.range (e - j)).map (fun i => (z.2 (P + 2) (j + i)).toInt) := by
      unfold sgZ
      rw [k6, k8, show ((e : Int) - (j : Int)).toNat = e - j by omega]
      refine List.map_congr_left (fun i _ => ?_)
      rw [show (j : Int) + (i : Int) = ((j + i : Nat) : Int) by omega, KI_n]
    refine ⟨by omega, by omega, ⟨?_, fun x hx => ?_⟩, k, h2, ?_⟩
    · rw [ew, List.length_map, List.length_range]
      omega
    · rw [ew] at hx
      obtain ⟨i, hi, rfl⟩ := List.mem_map.mp hx
      have hi := List.mem_range.mp hi
      exact wd_ch hl y1 i (by omega)
    · rw [h3, ew, ecl_w]
      unfold ecw rgc
      have e9 : (fun i => rkc (z.2 (P + 2) (j + 9 + i)).toInt) = (fun i => rkc (z.2 (P + 2) (j + (9 + i))).toInt) := funext fun i => by rw [Nat.add_assoc]
      rw [e9]
  · exfalso
    rcases h with ⟨hs, hr⟩ | ⟨-, hr⟩
    · rw [← hr] at hs
      exact absurd hs (by decide)
    · omega
set_option maxHeartbeats 2000000 in
/-- the reference's program: words as the lexer left them -/
theorem x_230L (hN : N ≤ 4000) (h2 : (s.1 2).toInt = (N : Int)) (h29 : (s.1 29).toInt = 0 ∨ (s.1 29).toInt = 1) : Par d 230 [.ref 213] s (fun _ s' => ∃ sA t : yS, CAq (s.2.1 214) (4002 * (1 - (s.1 29).toInt)) (1 - (s.1 29).toInt) N sA t ∧ Nq t s') := by
  cases d with
  | zero => exact Par_0
  | succ d =>
    refine pb_230 ?_
    unfold ub_230_0
    intro s1 hs1 _ x2 hx2 s3 hs3 s4 hs4
    obtain ⟨b, hb⟩ : ∃ b, b = x2.toInt := ⟨_, rfl⟩
    have e29 : (s1.1 29).toInt = (s.1 29).toInt := by rw [hs1, sf_1, if_neg (by decide)]
    have hb01 : 0 ≤ b ∧ b ≤ 1 := by
      rw [hb, hx2, e29]
      omega
    have k9 : (s4.1 9).toInt = b := by rw [hs4, sf_1, if_pos rfl, hs3, sf_1, if_pos rfl, hb]
    have k2 : (s4.1 2).toInt = (N : Int) := by
      rw [hs4, sf_1, if_neg (by decide), hs3, sf_1, if_neg (by decide), hs1, sf_1, if_neg (by decide)]
      exact h2
    have r4 : s4.2 = s.2 := by rw [hs4, sf_2, hs3, sf_2, hs1, sf_2]
    refine Par.imp (x_161 k9 hb01.1) ?_
    rintro v6 s5 ⟨rfl, w5, f5⟩
    refine ⟨rfl, ?_⟩
    have r5 : s5.2.1 214 = s.2.1 214 := funext fun i => by rw [f5.2 214 i (by omega), r4]
    refine Par.imp (x_162 (sg := s.2.1 214) (B := 4002 * b) (n := N) r5 (by rw [f5.1]; exact k9) hb01.1 rfl (by rw [f5.1]; exact k2) hN w5) ?_
    rintro v8 s7 ⟨rfl, hC⟩
    refine ⟨rfl, ?_⟩
    have eb : 1 - (s.1 29).toInt = b := by rw [hb, hx2, e29]
    rw [eb]
    intro _ x9 _ s10 hs10 _ s11 hs11 _ s12 hs12 _ x13 _ s14 hs14 _ s15 hs15
    have n10 : Nq s7 s10 := nq_sf hs10 ⟨rfl, rfl⟩
    have n11 : Nq s7 s11 := nq_sa hs11 n10 (by decide)
    have n12 : Nq s7 s12 := nq_sa hs12 n11 (by decide)
    have n14 : Nq s7 s14 := nq_sf hs14 n12
    have n15 : Nq s7 s15 := nq_sa hs15 n14 (by decide)
    refine Par.imp nl_179 ?_
    rintro v17 s16 ⟨rfl, q16⟩
    refine ⟨rfl, ?_⟩
    intro s18 hs18 _ x19 _ _ x20 _ s21 hs21 _ x22 _ s23 hs23
    have n16 := nq_tr n15 q16
    have n18 : Nq s7 s18 := nq_sf hs18 n16
    have n21 : Nq s7 s21 := nq_sf hs21 n18
    have n23 : Nq s7 s23 := nq_sf hs23 n21
    exact nm_230_69 (fun v f q => ⟨_, s7, hC, q⟩) n23
/-- names, behind a good program -/
theorem NMr_of {K L W ar kd : Int → Int} {TN Ls : List Int} {nn mB : Int} {nb : Nat} {u sA : yS} (hX : TXT s0 P n z) (hn : n ≤ 4000) (hA : Agr n (z.2 (P + 2)) sg') (hC : CAq sg' (4002 * (nb : Int)) (nb : Int) n sA t) (hq : Nq t u) (hS : RPs K L W ar kd TN Ls nn (4002 * (nb : Int)) (nb : Int) mB u) (h29 : (u.1 29).toInt = (nb : Int)) (hT : ∀ v ∈ TN, wTk (KI (z.2 (P + 4))) (ntk (z.2 (P + 2)) n : Int) v) (hM : NMs nb TN.length u) : NMr nb (TN.length : Int) (fun c => sgZ P z (TN.getD c.toNat 0)) u := by
  obtain ⟨⟨Wl, c1, c2, -, -⟩, -⟩ := hC
  obtain ⟨u0, ⟨A0, x, y, g1, -⟩, hr, -⟩ := hS
  refine ⟨h29, fun c c0 c1' => ?_⟩
  obtain ⟨i, rfl⟩ : ∃ i : Nat, c = (i : Int) := ⟨c.toNat, by omega⟩
  have hi : i < TN.length := by omega
  have hg : TN[i]? = some TN[i] := List.getElem?_eq_getElem hi
  have hv := hT _ (List.getElem_mem hi)
  obtain ⟨q, hqq⟩ : ∃ q : Nat, TN[i] = (q : Int) := ⟨TN[i].toNat, by have := hv.1; omega⟩
  have hkq : (z.2 (P + 4) q).toInt = 1 := by
    have := hv.2.2
    rw [hqq, KI_n] at this
    exact this
  obtain ⟨-, -, m1, k, m2, m3⟩ := nm_sg hX hn hA c1 (show q ≤ ntk (z.2 (P + 2)) n by have := hv.2.1; omega) hkq
  obtain ⟨-, g4⟩ := g1.1.2.2.2.1
  have g5 := g4 i _ hg
  have eD : TN.getD (i : Int).toNat 0 = (q : Int) := by
    rw [Int.toNat_natCast, List.getD_eq_getElem?_getD, hg]
    exact hqq
  dsimp only
  rw [eD]
  have e34 : (u.2.1 234 (24 * nb + i)).toInt = 4002 * (nb : Int) + (q : Int) := by
    rw [hr 234 (by decide) (by decide), show 24 * nb + i = (24 * (nb : Int) + (i : Int)).toNat by omega, g5, hqq]
  have hk2 : k < 2100 := by
    obtain ⟨tt, w, t1, -, t3, t4, -⟩ := hM.2.2.2 i hi
    have m2' : (u.2.1 217 (4002 * (nb : Int) + (q : Int)).toNat).toInt = (k : Int) := by
      rw [hq.2]
      exact m2
    rw [show (4002 * (nb : Int) + (q : Int)).toNat = tt by omega] at m2'
    omega
  have hn4 := ntk_le (sg := z.2 (P + 2)) (k := n)
  have hq4 := hv.2.1
  rw [hqq] at hq4
  refine ⟨(4002 * (nb : Int) + (q : Int)).toNat, k, ?_, ?_, ?_, m1, by omega, hk2⟩
  · rw [Int.toNat_natCast, e34]
    omega
  · rw [hq.2]
    exact m2
  · obtain ⟨l1, l2⟩ := c2.2 k _ m3
    rw [hq.1, show 2100 * nb + k = (2100 * (nb : Int) + (k : Int)).toNat by omega, l1, l2]
/-- names, behind a good program, in the class -/
theorem NMz_of {K L W ar kd : Int → Int} {TN Ls : List Int} {nn k0 : Int} {u : zS} (hX : TXT s0 P n z) (hn : n ≤ 4000) (hA : Agr n (z.2 (P + 2)) sg') (hR : RKp sg' B n n Wl t) (C : CSz K L W ar kd TN Ls nn k0 P u) (h2 : u.2 (P + 2) = z.2 (P + 2)) (h6 : u.2 (P + 6) = z.2 (P + 6)) (h8 : u.2 (P + 8) = z.2 (P + 8)) (hT : ∀ v ∈ TN, wTk (KI (z.2 (P + 4))) (ntk (z.2 (P + 2)) n : Int) v) : NMz P ar (TN.length : Int) (fun c => sgZ P z (TN.getD c.toNat 0)) u := by
  refine ⟨C.1.1.2.2.2, fun c c0 c1' => ?_⟩
  obtain ⟨i, rfl⟩ : ∃ i : Nat, c = (i : Int) := ⟨c.toNat, by omega⟩
  have hi : i < TN.length := by omega
  have hg : TN[i]? = some TN[i] := List.getElem?_eq_getElem hi
  have hv := hT _ (List.getElem_mem hi)
  obtain ⟨q, hqq⟩ : ∃ q : Nat, TN[i] = (q : Int) := ⟨TN[i].toNat, by have := hv.1; omega⟩
  have hkq : (z.2 (P + 4) q).toInt = 1 := by
    have := hv.2.2
    rw [hqq, KI_n] at this
    exact this
  obtain ⟨m1, m2, -⟩ := nm_sg hX hn hA hR (show q ≤ ntk (z.2 (P + 2)) n by have := hv.2.1; omega) hkq
  have et : tyc u P (i : Int) 0 = (q : Int) := by
    rw [(C.1.2.2.1.2.2 i _ hg).1]
    exact hqq
  have eD : TN.getD (i : Int).toNat 0 = (q : Int) := by
    rw [Int.toNat_natCast, List.getD_eq_getElem?_getD, hg]
    exact hqq
  have es : sgZ P u (q : Int) = sgZ P z (q : Int) := by
    unfold sgZ
    rw [h2, h6, h8]
  dsimp only
  rw [et, eD, es, h6, h8]
  exact ⟨m1, m2, rfl⟩
end ZYH
