/-! ===== the reference: bound, whole ===== -/
section YQB
variable {ar kd : Int → Int} {cf : Nat → Int} {fs : Nat → Nat} {F H d e : Nat} {nT : Int} {tm tn : Int → Nat} {hd : Nat → Nat × Nat × List (List Int)} {hb ow hw : Nat → Int} {Bf : Int → List (List Int)} {b A T ca β0 β1 nX nY c c1 : Int} {s : yS} {a1 : Int32} {bn : Int → List Int} {Z : List Int} {f n : Nat}
theorem sp_cases (hSP : SPe ar cf F H nT hd hb ow Bf β0 β1 nX nY bn) (hc1 : 24 ≤ ca ∧ ca < 36) (hcX : ca < 30 → ca - 24 < nX) (hcY : 30 ≤ ca → ca - 30 < nY) : (∃ (c : Int) (k : Nat), (0 ≤ c ∧ c < nT) ∧ rhC β0 β1 ca = 1000 + 6 * c + (k : Int) ∧ (k : Int) < ar c ∧ bn ca = (Bf c).getD k [] ∧ β0 = 1000 + 6 * c) ∨ (∃ (f k : Nat), f < F ∧ (0 ≤ cf f ∧ cf f < nT) ∧ rhC β0 β1 ca = 4000 + 6 * (f : Int) + (k : Int) ∧ (k : Int) < ar (cf f) ∧ bn ca = (Bf (cf f)).getD k [] ∧ β0 = 4000 + 6 * (f : Int)) ∨ ∃ (h k : Nat), h < H ∧ rhC β0 β1 ca = 2000 + 6 * (h : Int) + (k : Int) ∧ k < (hd h).1 ∧ bn ca = (hd h).2.2.getD k [] ∧ β1 = 2000 + 6 * (h : Int) ∧ hb h = β0 := by
  obtain ⟨-, s2, s3⟩ := hSP
  by_cases h30 : ca < 30
  · have hx := hcX h30
    have er : rhC β0 β1 ca = β0 + (ca - 24) := by
      unfold rhC
      rw [if_neg (by omega), if_pos h30]
    rcases s2 with q | ⟨c, q1, q2, q3, q4⟩
    · omega
    · have q5 := q3 (ca - 24).toNat (by omega)
      rw [show 24 + (((ca - 24).toNat : Nat) : Int) = ca by omega] at q5
      rcases q4 with q4 | ⟨f, q6, q7, q8⟩
      · exact Or.inl ⟨c, (ca - 24).toNat, q1, by omega, by omega, q5, q4⟩
      · refine Or.inr (Or.inl ⟨f, (ca - 24).toNat, q6, by rw [q7]; exact q1, by omega, by rw [q7]; omega, by rw [q7]; exact q5, q8⟩)
  · have hy := hcY (by omega)
    have er : rhC β0 β1 ca = β1 + (ca - 30) := by
      unfold rhC
      rw [if_neg (by omega), if_neg h30, if_pos hc1.2]
    rcases s3 with q | ⟨h, q1, q2, q3, q4, -, q5⟩
    · omega
    · have q6 := q5 (ca - 30).toNat (by omega)
      rw [show 30 + (((ca - 30).toNat : Nat) : Int) = ca by omega] at q6
      exact Or.inr (Or.inr ⟨h, (ca - 30).toNat, q1, by omega, by omega, q6, q3, q4⟩)
/-- a BOUND in its type's codes, put for a func's PARAMS -/
theorem bd_enc (ha : ∀ c, 0 ≤ ar c ∧ ar c ≤ 7) (h24 : ∀ c, 24 ≤ c → ar c = 0) (hc : 0 ≤ c ∧ c < 24) (hn : n ≤ 6) (hA : cdW (n : Int) 0 Z) : (Z.map (rhE ar (1000 + 6 * c) 2000)).flatMap (rpt (1000 + 6 * c) ((List.range n).map (fun j : Nat => [8 * (4000 + 6 * (f : Int) + (j : Int))])) c1 []) = Z.map (rhE ar (4000 + 6 * (f : Int)) β1) := by
  have eX : (List.range n).map (fun j : Nat => [8 * (4000 + 6 * (f : Int) + (j : Int))]) = ((List.range n).map (fun j : Nat => [24 + (j : Int)])).map (List.map (rhE ar (4000 + 6 * (f : Int)) β1)) := by
    rw [List.map_map]
    refine List.map_congr_left (fun j hj => ?_)
    have hj6 := List.mem_range.mp hj
    show [8 * (4000 + 6 * (f : Int) + (j : Int))] = [rhE ar (4000 + 6 * (f : Int)) β1 (24 + (j : Int))]
    unfold rhE rhC
    rw [if_neg (by omega), if_pos (by omega), h24 _ (by omega), show 24 + (j : Int) - 24 = (j : Int) by omega, Int.add_zero]
  have e1 : (Z.map (rhE ar (1000 + 6 * c) 2000)).flatMap (rpt (1000 + 6 * c) ((List.range n).map (fun j : Nat => [8 * (4000 + 6 * (f : Int) + (j : Int))])) c1 []) = (Z.map (rhE ar (1000 + 6 * c) 2000)).flatMap (rpt (1000 + 6 * c) (((List.range n).map (fun j : Nat => [24 + (j : Int)])).map (List.map (rhE ar (4000 + 6 * (f : Int)) β1))) 2000 (([] : List (List Int)).map (List.map (rhE ar (4000 + 6 * (f : Int)) β1)))) := by
    rw [← eX]
    congr 1
    funext x
    exact rpt_c1
  have hlen : ((List.range n).map (fun j : Nat => [24 + (j : Int)])).length = n := by rw [List.length_map, List.length_range]
  rw [e1, enc_put (η := fun p => [24 + (p : Int)]) ha ⟨Or.inl ⟨by omega, by omega⟩, by omega, by omega⟩ (by rw [hlen]; exact hn) Z (by rw [hlen]; exact hA) (fun x hx => ⟨fun w1 w2 => ?_, fun w1 => ?_⟩)]
  · rw [sbs_id Z (fun x hx w1 => ?_)]
    show [24 + (((x - 24).toNat : Nat) : Int)] = [x]
    rw [show 24 + (((x - 24).toNat : Nat) : Int) = x by omega]
  · have := (hA x hx).2.2.1 w1 w2
    rw [List.getD_eq_getElem?_getD, List.getElem?_map, List.getElem?_range (by omega)]
    rfl
  · have := (hA x hx).2.2.2 w1
    omega
theorem getD_mem {L : List (List Int)} {k : Nat} (h : k < L.length) : L.getD k [] ∈ L := by
  rw [List.getD_eq_getElem?_getD, List.getElem?_eq_getElem h]
  exact List.getElem_mem h
set_option maxHeartbeats 4000000 in
/-- bound -/
theorem x_194 (hG : PGr ar kd cf fs F H nT tm tn hd hb ow hw Bf b A s) (hSP : SPe ar cf F H nT hd hb ow Bf β0 β1 nX nY bn) (hc1 : 24 ≤ ca ∧ ca < 36) (hcX : ca < 30 → ca - 24 < nX) (hcY : 30 ≤ ca → ca - 30 < nY) (h1 : a1.toInt = rhC β0 β1 ca) (hT : (s.1 64).toInt = T) (hA : A ≤ T) (he : (s.1 70).toInt = (e : Int)) : Par d 194 [.ref 213, .int a1] s (BDq T (e : Int) ((bn ca).map (rhE ar β0 β1)) s) := by
  cases d with
  | zero => exact Par_0
  | succ d =>
    have hcs := sp_cases hSP hc1 hcX hcY
    rw [← h1] at hcs
    refine pb_194 ?_
    unfold ub_194_0
    refine Par.imp (nw_188 he) ?_
    rintro v2 s1 ⟨x3, rfl, n1, n2, n3, n4, n5, n6, n7⟩
    obtain ⟨⟨g75, gb, gA, gH, gF, gT⟩, gt, gf, gi, gh, g0, ha, h24⟩ := PGr_w (n4 T) hA hG
    have hn8 : s1.1 8 = s.1 8 ∧ s1.1 73 = s.1 73 ∧ s1.1 74 = s.1 74 := ⟨n3 8 (by decide), n3 73 (by decide), n3 74 (by decide)⟩
    have h64 : (s1.1 64).toInt = T := by
      rw [n3 64 (by decide)]
      exact hT
    rw [g75]
    rcases hcs with ⟨c, k, q1, q2, q3, q4, q5⟩ | ⟨f, k, q0, q1, q2, q3, q4, q5⟩ | ⟨h, k, q1, q2, q3, q4, q5, q6⟩
    · obtain ⟨-, t2, t3, t4, t5⟩ := gt c q1.1 q1.2
      have hm := getD_mem (L := Bf c) (k := k) (by omega)
      obtain ⟨u1, u2, u3, -⟩ := t4 _ hm
      have hac : 0 ≤ ar c ∧ ar c ≤ 6 := ⟨(ha c).1, t2.2⟩
      refine ⟨x3, rfl, fun w => ⟨fun w1 _ x4 hx4 _ x5 hx5 _ x6 hx6 _ => ?_, fun w1 => absurd (by omega) w1⟩, fun w => absurd (by omega) w⟩
      have e6 : x6.toInt = 6 * (24 * b + c) + (k : Int) := by omega
      rw [e6]
      refine bd_147 (T' := T) (n4 T) hn8 n2 h64 (Int.le_refl _) hA n1 (t5 k q3) (EVr_nil n6 n7) (Nat.zero_le _) ?_ ?_
      · rw [rpt_nil, q4, q5]
        exact enc_b1 u1
      · rw [List.length_map, q4]
        exact u3
    · obtain ⟨t1, t2, t3, t4, t5⟩ := gt (cf f) q1.1 q1.2
      have hm := getD_mem (L := Bf (cf f)) (k := k) (by omega)
      obtain ⟨u1, u2, u3, -⟩ := t4 _ hm
      obtain ⟨m1, m2, m3, -⟩ := gf.2 f q0
      have hac : 0 ≤ ar (cf f) ∧ ar (cf f) ≤ 6 := ⟨(ha (cf f)).1, t2.2⟩
      refine ⟨x3, rfl, fun w => absurd q2 (by omega), fun w _ x10 hx10 _ x11 hx11 _ x12 hx12 _ x13 hx13 _ x14 hx14 _ _ x15 hx15 _ x16 hx16 _ x17 hx17 _ x18 hx18 _ _ x19 hx19 _ x20 hx20 _ s21 hs21 _ _ s22 hs22 => ?_⟩
      have e11 : x11.toInt = (f : Int) := by omega
      have e14 : x14.toInt = 60 * b + (f : Int) := by omega
      have e18 : x18.toInt = 60 * b + (f : Int) := by omega
      rw [e14, m1] at hx15
      rw [e18, m1] at hx19
      have e15 : x15.toInt = 24 * b + cf f := by omega
      have e16 : x16.toInt.toNat = 2 * e := by omega
      rw [e16] at hs21 hs22
      rw [e15] at hs22
      have c22 : ∀ q j, s22.2.1 q j = if q = 266 ∧ j = 2 * e then s1.2.1 236 (24 * b + cf f).toNat else if q = 265 ∧ j = 2 * e then x20 else s1.2.1 q j := fun q j => by
        rw [hs22, sa_21, hs21, sa_21, sa_21, if_neg (fun z => absurd z.1 (by decide) : ¬ ((236 : Nat) = 265 ∧ (24 * b + cf f).toNat = 2 * e))]
      have W22 : WFr T (e : Int) s s22 := by
        refine WFr_tr (n4 T) ?_ (Int.le_refl _) (Int.le_refl _)
        rw [hs22]
        refine WFr_tr (s' := s21) ?_ (WFr_sa (Or.inr (Or.inl ⟨Or.inr rfl, by omega⟩))) (Int.le_refl _) (Int.le_refl _)
        rw [hs21]
        exact WFr_sa (Or.inr (Or.inl ⟨Or.inl rfl, by omega⟩))
      have f22 : s22.1 = s1.1 := by rw [hs22, sa_1r, hs21, sa_1r]
      refine ⟨fun b1 b2 b4 b5 b6 b7 u => b1 = a1 ∧ b2 = x3 ∧ b4 = x11 ∧ b5 = x15 ∧ b6 = x16 ∧ WFr T (e : Int) s u ∧ (u.1 8 = s.1 8 ∧ u.1 73 = s.1 73 ∧ u.1 74 = s.1 74) ∧ (u.1 70).toInt = (e : Int) + 1 ∧ (u.2.1 265 (2 * e)).toInt = 1000 + 6 * cf f ∧ (u.2.1 266 (2 * e)).toInt = ar (cf f) ∧ (u.2.1 266 (2 * e + 1)).toInt = 0 ∧ ∃ i : Nat, (i : Int) ≤ ar (cf f) ∧ b7.toInt = (i : Int) ∧ (u.1 64).toInt = T + (i : Int) ∧ ∀ j : Nat, j < i → (u.2.1 267 (12 * e + j)).toInt = T + (j : Int) ∧ (u.2.1 268 (12 * e + j)).toInt = 1 ∧ (u.2.1 264 (T + (j : Int)).toNat).toInt = 8 * (4000 + 6 * (f : Int) + (j : Int)), ⟨rfl, rfl, rfl, rfl, rfl, W22, by rw [f22]; exact hn8, by rw [f22]; exact n2, ?_, ?_, ?_, 0, by omega, by decide, by rw [f22, h64]; omega, fun j hj => absurd hj (Nat.not_lt_zero _)⟩, ?_⟩
      · rw [c22, if_neg (fun z => absurd z.1 (by decide)), if_pos ⟨rfl, rfl⟩]
        omega
      · rw [c22, if_pos ⟨rfl, rfl⟩]
        exact t2.1
      · rw [c22, if_neg (fun z => by omega), if_neg (fun z => absurd z.1 (by decide))]
        exact n7
      rintro b1 b2 b4 b5 b6 b7 u ⟨r1, r2, r3, r4, r5, j1, j2, j3, j4, j5, j6, i, o1, o2, o3, o4⟩
      subst r1 r2 r3 r4 r5
      have hGu := PGr_w j1 hA hG
      obtain ⟨-, gtu, -⟩ := hGu
      obtain ⟨-, tu2, -, -, tu5⟩ := gtu (cf f) q1.1 q1.2
      unfold ub_194_58
      rw [e15, tu2.1]
      intro _
      refine ⟨fun z _ y1 hy1 _ y2 hy2 _ y3 hy3 _ y4 hy4 _ => ?_, fun z _ y5 hy5 _ y6 hy6 _ y7 hy7 _ y8 hy8 kt s9 hs9 _ y10 hy10 _ y11 hy11 ky s12 hs12 _ y13 hy13 _ y14 hy14 _ s15 hs15 _ y16 hy16 s17 hs17 _ y18 hy18 => ?_⟩
      · have ei : (i : Int) = ar (cf f) := by omega
        have e4 : y4.toInt = 6 * (24 * b + cf f) + (k : Int) := by omega
        rw [e4]
        have hlen : ((List.range i).map (fun j : Nat => [8 * (4000 + 6 * (f : Int) + (j : Int))])).length = i := by rw [List.length_map, List.length_range]
        have EV : EVr u e (T + (i : Int)) (1000 + 6 * cf f) ((List.range i).map (fun j : Nat => [8 * (4000 + 6 * (f : Int) + (j : Int))])) (u.2.1 265 (2 * e + 1)).toInt [] := by
          refine ⟨⟨j4, by rw [hlen, j5, ei], fun j Y hj hY => ?_⟩, rfl, j6, fun j Y hj => absurd hj (Nat.not_lt_zero _)⟩
          rw [hlen] at hj
          rw [List.getElem?_map, List.getElem?_range hj] at hY
          have eY : [8 * (4000 + 6 * (f : Int) + (j : Int))] = Y := Option.some.inj hY
          obtain ⟨p1, p2, p3⟩ := o4 j hj
          refine ⟨T + (j : Int), ?_, ?_, ?_, ?_⟩
          · rw [show 6 * (2 * e) + j = 12 * e + j by omega]
            exact p1
          · rw [show 6 * (2 * e) + j = 12 * e + j by omega, ← eY]
            exact p2
          · rw [← eY]
            show 0 ≤ T + (j : Int) ∧ T + (j : Int) + ((1 : Nat) : Int) ≤ T + (i : Int)
            omega
          · rw [← eY]
            intro m v hv
            cases m with
            | zero =>
              have ev : 8 * (4000 + 6 * (f : Int) + (j : Int)) = v := by simpa using hv
              rw [KI_p (by omega), ← ev, show T + (j : Int) + ((0 : Nat) : Int) = T + (j : Int) by omega]
              exact p3
            | succ m => cases hv
        refine bd_147 (T' := T + (i : Int)) j1 j2 j3 o3 (by omega) hA n1 (tu5 k q3) EV (by rw [hlen]; omega) ?_ ?_
        · rw [q4, q5]
          exact bd_enc ha h24 ⟨q1.1, by omega⟩ (by omega) (by rw [ei]; exact u1)
        · rw [List.length_map, q4]
          exact u3
      · have e11' : y11.toInt.toNat = 12 * e + i := by omega
        have e14' : y14.toInt.toNat = 12 * e + i := by omega
        rw [e11'] at hs12
        rw [e14'] at hs15
        have f9 : s9.1 = u.1 := by rw [hs9, sa_1r]
        have f15 : s15.1 = u.1 := by rw [hs15, sa_1r, hs12, sa_1r, f9]
        rw [f9] at hs12
        rw [f15] at hy16
        have c17 : ∀ q j, s17.2.1 q j = if q = 268 ∧ j = 12 * e + i then 1 else if q = 267 ∧ j = 12 * e + i then u.1 64 else if q = 264 ∧ j = (u.1 64).toInt.toNat then y8 else u.2.1 q j := fun q j => by
          rw [hs17, sfr_2, hs15, sa_21, hs12, sa_21, hs9, sa_21]
        have W17 : WFr T (e : Int) s s17 := by
          refine WFr_tr j1 ?_ (Int.le_refl _) (Int.le_refl _)
          rw [hs17]
          refine WFr_tr (s' := s15) ?_ (WFr_sf (Or.inr (Or.inl rfl))) (Int.le_refl _) (Int.le_refl _)
          rw [hs15]
          refine WFr_tr (s' := s12) ?_ (WFr_sa (Or.inr (Or.inr ⟨Or.inr rfl, by omega⟩))) (Int.le_refl _) (Int.le_refl _)
          rw [hs12]
          refine WFr_tr (s' := s9) ?_ (WFr_sa (Or.inr (Or.inr ⟨Or.inl rfl, by omega⟩))) (Int.le_refl _) (Int.le_refl _)
          rw [hs9]
          exact WFr_sa (Or.inl ⟨rfl, by omega⟩)
        have k17 : ∀ q, ¬ q = 64 → s17.1 q = u.1 q := fun q hq => by rw [hs17, sfr_1, if_neg hq, f15]
        refine ⟨rfl, rfl, rfl, rfl, rfl, W17, by rw [k17 8 (by decide), k17 73 (by decide), k17 74 (by decide)]; exact j2, by rw [k17 70 (by decide)]; exact j3, ?_, ?_, ?_, i + 1, by omega, by omega, ?_, fun j hj => ?_⟩
        · rw [c17, if_neg (fun z => absurd z.1 (by decide)), if_neg (fun z => absurd z.1 (by decide)), if_neg (fun z => absurd z.1 (by decide))]
          exact j4
        · rw [c17, if_neg (fun z => absurd z.1 (by decide)), if_neg (fun z => absurd z.1 (by decide)), if_neg (fun z => absurd z.1 (by decide))]
          exact j5
        · rw [c17, if_neg (fun z => absurd z.1 (by decide)), if_neg (fun z => absurd z.1 (by decide)), if_neg (fun z => absurd z.1 (by decide))]
          exact j6
        · rw [hs17, sfr_1, if_pos rfl]
          omega
        · by_cases ej : j = i
          · subst ej
            refine ⟨?_, ?_, ?_⟩
            · rw [c17, if_neg (fun z => absurd z.1 (by decide)), if_pos ⟨rfl, rfl⟩]
              exact o3
            · rw [c17, if_pos ⟨rfl, rfl⟩]
              decide
            · rw [c17, if_neg (fun z => absurd z.1 (by decide)), if_neg (fun z => absurd z.1 (by decide)), if_pos ⟨rfl, by omega⟩]
              omega
          · obtain ⟨p1, p2, p3⟩ := o4 j (by omega)
            refine ⟨?_, ?_, ?_⟩
            · rw [c17, if_neg (fun z => absurd z.1 (by decide)), if_neg (fun z => by omega), if_neg (fun z => absurd z.1 (by decide))]
              exact p1
            · rw [c17, if_neg (fun z => by omega), if_neg (fun z => absurd z.1 (by decide)), if_neg (fun z => absurd z.1 (by decide))]
              exact p2
            · rw [c17, if_neg (fun z => absurd z.1 (by decide)), if_neg (fun z => absurd z.1 (by decide)), if_neg (fun z => by omega)]
              exact p3
    · obtain ⟨⟨-, ⟨p1, p2, p3⟩, p4, p5, -⟩, -⟩ := gh h q1
      have hm := getD_mem (L := (hd h).2.2) (k := k) (by omega)
      obtain ⟨u1, u2, u3⟩ := p4 _ hm
      refine ⟨x3, rfl, fun w => ⟨fun w1 => absurd q2 (by omega), fun w1 _ x7 hx7 _ x8 hx8 _ x9 hx9 _ => ?_⟩, fun w => absurd (by omega) w⟩
      have e9 : x9.toInt = 6 * (204 * b + (h : Int)) + (k : Int) := by omega
      rw [e9]
      refine bd_147 (T' := T) (n4 T) hn8 n2 h64 (Int.le_refl _) hA n1 (p5 k q3) (EVr_nil n6 n7) (Nat.zero_le _) ?_ ?_
      · rw [rpt_nil, q4, q5, q6]
      · rw [List.length_map, q4]
        exact u3
end YQB
