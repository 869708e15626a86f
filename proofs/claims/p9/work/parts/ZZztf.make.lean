/-! ===== the class: Machine: leave, makeValue ===== -/
section ZTH
variable {K L W ar kd : Int → Int} {TN Ls : List Int} {n k0 mB k z L0 T l cl fa o lo hi : Int} {P d b v u : Nat} {s s' : zS} {C C' : List Ins} {st s0 : List Itm} {it : Itm} {E E' : Env} {fr : List Frm} {vs : Vls} {a1 a2 : Int32} {A Z : List Int} {ps : List Nat} {q : List Int × List Nat} {gg : Int × Int}
theorem za_r {a r : Nat} {x : Int32} (h : ¬ r = a) : (za s a x).2 r = s.2 r := by
  unfold za
  split
  · funext j
    rw [zf_2, zr_2, if_neg (fun z => h z.1)]
  · rfl
theorem plv_le (h : u ≤ v) : plv vs u ≤ plv vs v := by
  obtain ⟨m, rfl⟩ : ∃ m, v = u + m := ⟨v - u, by omega⟩
  induction m with
  | zero => exact Nat.le_refl _
  | succ m ih =>
    have ih := ih (by omega)
    rcases hq : vs[u + m]? with _ | q
    · have hl : vs.length ≤ u + m := List.getElem?_eq_none_iff.mp hq
      have : plv vs (u + (m + 1)) = plv vs (u + m) := by
        unfold plv
        rw [List.take_of_length_le (show vs.length ≤ u + (m + 1) by omega), List.take_of_length_le hl]
      omega
    · have := plv_s hq
      rw [show u + (m + 1) = u + m + 1 by omega]
      omega
theorem plv_n : plv (vs ++ [q]) (vs.length + 1) = plv vs vs.length + (1 + q.2.length) := by
  rw [plv_s (q := q) (by rw [List.getElem?_append_right (Nat.le_refl _), Nat.sub_self]; rfl), plv_a (Nat.le_refl _)]
/-- leave -/
theorem zs_29 (hP : P = 3 ∨ P = 39) (M : MRz K L W ar kd TN Ls n k0 mB P k z gg L0 (5, C, s0 ++ [.inr v], b, E, fr, vs, l, cl, fa) s) {Y : PMs} (hY : (fr = [] ∧ Y = (0, C, s0 ++ [.inr v], b, E, fr, vs, l, cl, fa)) ∨ ∃ (C' : List Ins) (b' : Nat) (E' : Env) (fr' : List Frm), fr = (C', b', E') :: fr' ∧ b ≤ s0.length ∧ Y = (5, C', (s0 ++ [(.inr v : Itm)]).take b ++ [.inr v], b', E', fr', vs, l, cl, fa)) : Zt (d + 18) (wd2 P 29) 29 [.ref 105] s (fun w s' => w = none ∧ ROk K L W ar kd TN Ls n k0 mB P k z gg L0 Y s') := by
  rw [show d + 18 = d + 9 + 9 by omega]
  refine zc_29 hP ?_
  unfold v_29_0
  refine Zt.imp (Zt.mo (d := 9) (by omega) (MR_pop (d := 0) hP M)) ?_
  rintro w1 s2 ⟨M', -, -, x3, rfl, hx3⟩
  have hx3 : v < vs.length ∧ x3.toInt = (plv vs v : Int) := hx3
  obtain ⟨M1, T, M2, M3, ⟨M4, M4b, M4c⟩, M5, M6, M7⟩ := M'
  have M2 : MTp T l s2 := M2
  have M3 : MFd L0 s2 s0 fr vs l cl := M3
  have M5 : STk ar (TN.length : Int) P T k s2 vs s0 := M5
  have M6 : VLk ar (TN.length : Int) P T k s2 vs := M6
  have M7 : FRk ar (TN.length : Int) P T k z s2 fr b E := M7
  obtain ⟨⟨m1, m2, m3, m4, m5, m6, m7⟩, m8, m9, m10, m11, m12⟩ := M3
  have m8 : 0 ≤ l ∧ l ≤ L0 ∧ L0 ≤ 5000 := m8
  have hT : 18 ≤ T := by have := M2.1.2.1; omega
  have hp7 := plv_7 M6 v (by omega)
  refine ⟨x3, rfl, fun n0 x4 hx4 x5 hx5 s6 hs6 x7 hx7 s8 hs8 x9 hx9 s10 hs10 => ?_, fun n0 s13 hs13 s14 hs14 => ?_⟩
  · rcases hY with ⟨rfl, -⟩ | ⟨C', b', E', fr', rfl, hb, rfl⟩
    · exact absurd m6 n0
    have hfl : ((C', b', E') :: fr').length = fr'.length + 1 := rfl
    rw [hfl] at m6 m12
    obtain ⟨⟨r1, r2, r3⟩, ⟨r4, r5⟩, r6⟩ := M7
    have ex4 := hx4 (by omega)
    have ex5 := hx5 (by omega)
    have e68 : s6.1 105 8 = s2.1 105 8 := by rw [hs6, zf_1, if_neg (by decide)]
    rw [e68] at hx7
    have ex7 := hx7 (by omega)
    have e88 : s8.1 105 8 = s2.1 105 8 := by rw [hs8, zf_1, if_neg (by decide), e68]
    rw [e88] at hx9
    have ex9 := hx9 (by omega)
    have v7 : (zg s2 108 x5).toInt = (b : Int) := by
      rw [zg_K, show x5.toInt = 2 * ((fr'.length + 1 : Nat) : Int) + 1 by omega]
      exact r1
    have v6 : (zg s6 108 x7).toInt = KI (s2.2 108) (2 * ((fr'.length + 1 : Nat) : Int)) := by
      rw [zg_K, hs6, zf_2, show x7.toInt = 2 * ((fr'.length + 1 : Nat) : Int) by omega]
    have F : ∀ c q, s10.1 c q = if c = 105 ∧ q = 8 then x9 else if c = 105 ∧ q = 6 then zg s6 108 x7 else if c = 105 ∧ q = 7 then zg s2 108 x5 else s2.1 c q := fun c q => by rw [hs10, zf_1, hs8, zf_1, hs6, zf_1]
    have r10 : s10.2 = s2.2 := by rw [hs10, zf_2, hs8, zf_2, hs6, zf_2]
    have fk : ∀ q, ¬ (q = 6 ∨ q = 7 ∨ q = 8) → s10.1 105 q = s2.1 105 q := fun q hq => by rw [F, if_neg (fun z => hq (Or.inr (Or.inr z.2))), if_neg (fun z => hq (Or.inl z.2)), if_neg (fun z => hq (Or.inr (Or.inl z.2)))]
    have fo : ∀ c q, ¬ c = 105 → s10.1 c q = s2.1 c q := fun c q hc => by rw [F, if_neg (fun z => hc z.1), if_neg (fun z => hc z.1), if_neg (fun z => hc z.1)]
    have R : RUz P T s2 s10 := RUz_o hP (fun r _ _ _ _ => by rw [r10]) (fun c q h1 _ => fo c q h1)
    have hlb : (s0.take b).length = b := by rw [List.length_take]; omega
    have M10 : MRz K L W ar kd TN Ls n k0 mB P k z gg L0 (5, C', s0.take b, b', E', fr', vs, l, cl, fa) s10 := by
      refine ⟨PGz_u hP hT R M1, T, ?_, ⟨⟨by rw [fk 13 (by decide)]; exact m1, by rw [fk 9 (by decide)]; exact m2, by rw [fk 10 (by decide)]; exact m3, by rw [fk 11 (by decide)]; exact m4, ?_, ?_, by rw [fo 111 2 (by decide)]; exact m7⟩, m8, m9, m10, ?_, ?_⟩, ⟨?_, r4, r5⟩, ?_, VLk_u R (Int.le_refl _) (by rw [r10]) M6, FRk_u hP R (Int.le_refl _) fr' b' E' (fun j _ => by rw [r10]) (fun i _ => by rw [r10]) r6⟩
      · show MTp T l s10
        unfold MTp
        rw [fo 75 3 (by decide), fo 75 4 (by decide), fo 75 6 (by decide)]
        exact M2
      · show _ = (((s0.take b).length : Nat) : Int)
        rw [F, if_neg (by decide), if_neg (by decide), if_pos ⟨rfl, rfl⟩, hlb]
        exact v7
      · show _ = (fr'.length : Int)
        rw [F, if_pos ⟨rfl, rfl⟩]
        omega
      · show (s0.take b).length ≤ 3901
        omega
      · show fr'.length ≤ 40
        omega
      · show LYz P k z s10 (s10.1 105 6).toInt C'
        rw [F, if_neg (by decide), if_pos ⟨rfl, rfl⟩, v6]
        exact RUz_ly hP R r2
      · show STk ar (TN.length : Int) P T k s10 vs (s0.take b)
        intro j x hj
        have hj0 := (List.getElem?_eq_some_iff.mp hj).1
        rw [List.getElem?_take, if_pos (by omega)] at hj
        have := itz_u R (Int.le_refl _) (M5 j x hj)
        rw [r10]
        exact this
    have hl0 : (s0 ++ [(.inr v : Itm)]).take b = s0.take b := List.take_append_of_le_length hb
    obtain ⟨-, T', -, M3', -⟩ := M
    have m11' : (s0 ++ [(.inr v : Itm)]).length ≤ 3901 := M3'.2.2.2.2.1
    rw [List.length_append] at m11'
    have m11' : s0.length + 1 ≤ 3901 := m11'
    refine Zt.imp (Zt.mo (d := 9) (by omega) (MR_push (d := 0) (it := .inr v) (a1 := x3) hP M10 (by omega) (by omega) hx3)) ?_
    rintro w11 s12 ⟨rfl, M12⟩
    refine ⟨rfl, rfl, ?_⟩
    rw [hl0]
    exact ⟨fun _ => M12, fun w => absurd rfl w⟩
  · rcases hY with ⟨rfl, rfl⟩ | ⟨C', b', E', fr', rfl, -, -⟩
    rotate_left
    · have hfl : ((C', b', E') :: fr').length = fr'.length + 1 := rfl
      rw [hfl] at m6
      omega
    refine ⟨rfl, fun w => absurd (show (0 : Int) = 5 from w) (by decide), fun _ => ?_⟩
    have F : ∀ c q, s14.1 c q = if c = 105 ∧ q = 14 then x3 else if c = 105 ∧ q = 13 then 0 else s2.1 c q := fun c q => by rw [hs14, zf_1, hs13, zf_1]
    have r14 : s14.2 = s2.2 := by rw [hs14, zf_2, hs13, zf_2]
    have R : RUz P T s2 s14 := RUz_o hP (fun r _ _ _ _ => by rw [r14]) (fun c q h1 _ => by rw [F, if_neg (fun z => h1 z.1), if_neg (fun z => h1 z.1)])
    have p3 : T + l ≤ 9218 := M2.1.2.2
    have m80 : 0 ≤ l := m8.1
    refine ⟨PGz_u hP hT R M1, ⟨?_, ?_, ?_, m8.1, m8.2.1⟩, fun w => absurd (show (0 : Int) = 1 from w) (by decide), fun _ => ⟨T, v, ⟨by omega, (by have m10 : (vs.length : Int) ≤ L0 - l := m10; show (vs.length : Int) ≤ 5000; omega)⟩, ?_, hx3.1, ?_, VLk_u R (Int.le_refl _) (by rw [r14]) M6⟩⟩
    · rw [F, if_neg (by decide), if_pos ⟨rfl, rfl⟩]
      show (0 : Int32).toInt = 0
      decide
    · rw [F, if_neg (by decide), if_neg (by decide)]
      exact m3
    · rw [F, if_neg (by decide), if_neg (by decide)]
      exact m4
    · show (s0 ++ [(.inr v : Itm)])[(s0 ++ [(.inr v : Itm)]).length - 1]? = some (.inr v)
      rw [List.length_append, show s0.length + ([(.inr v : Itm)]).length - 1 = s0.length from Nat.add_sub_cancel _ _, List.getElem?_append_right (Nat.le_refl _), Nat.sub_self]
      rfl
    · rw [F, if_pos ⟨rfl, rfl⟩]
      exact hx3.2
set_option maxHeartbeats 1000000 in
/-- makeValue -/
theorem zs_26 (hP : P = 3 ∨ P = 39) (M : MRz K L W ar kd TN Ls n k0 mB P k z gg L0 (5, C, s0 ++ .inl A :: ps.map .inr, b, E, fr, vs, l, cl, fa) s) (h1 : a1.toInt = (ps.length : Int)) (h6 : ps.length ≤ 6) {Y : PMs} (hY : (l < 1 ∧ Y = (2, C, s0 ++ .inl A :: ps.map .inr, b, E, fr, vs, 0, cl, fa)) ∨ (1 ≤ l ∧ Y = (5, C, s0 ++ [.inr vs.length], b, E, fr, vs ++ [(A, ps)], l - 1, cl, fa))) : Zt (d + 18) (wd2 P 26) 26 [.ref 105, .int a1] s (fun w s' => w = none ∧ ROk K L W ar kd TN Ls n k0 mB P k z gg L0 Y s') := by
  rw [show d + 18 = d + 9 + 9 by omega]
  refine zc_26 hP ?_
  unfold v_26_0
  refine Zt.imp (Zt.mo (d := 9) (by omega) (MR_take (d := 0) (a1 := 1) hP M (by decide))) ?_
  rintro w1 s2 ⟨-, -, u3⟩
  rcases u3 with ⟨l1, rfl, M'⟩ | ⟨l1, rfl, H'⟩
  rotate_left
  · refine ⟨0, rfl, fun w => absurd (by decide) w, fun _ => ⟨rfl, ?_⟩⟩
    rcases hY with ⟨-, rfl⟩ | ⟨q1, -⟩
    · exact ⟨fun w => absurd (show (2 : Int) = 5 from w) (by decide), fun _ => H'⟩
    · omega
  refine ⟨1, rfl, fun _ x4 hx4 x5 hx5 s6 hs6 => ?_, fun w => absurd w (by decide)⟩
  rcases hY with ⟨q1, -⟩ | ⟨-, rfl⟩
  · omega
  obtain ⟨M1, T, M2, M3, ⟨M4, M4b, M4c⟩, M5, M6, M7⟩ := M'
  have M2 : MTp T (l - 1) s2 := M2
  have M3 : MFd L0 s2 (s0 ++ .inl A :: ps.map .inr) fr vs (l - 1) cl := M3
  have M4 : LYz P k z s2 (s2.1 105 6).toInt C := M4
  have M5 : STk ar (TN.length : Int) P T k s2 vs (s0 ++ .inl A :: ps.map .inr) := M5
  have M6 : VLk ar (TN.length : Int) P T k s2 vs := M6
  have M7 : FRk ar (TN.length : Int) P T k z s2 fr b E := M7
  obtain ⟨⟨m1, m2, m3, m4, m5, m6, m7⟩, m8, m9, m10, m11, m12⟩ := M3
  have hlen : (s0 ++ (.inl A :: ps.map .inr : List Itm)).length = s0.length + (ps.length + 1) := by rw [List.length_append, List.length_cons, List.length_map]
  rw [hlen] at m5 m11
  have hv0 : (vs.length : Int) ≤ L0 - l := by
    obtain ⟨-, T', -, N3, -⟩ := M
    exact N3.2.2.2.1
  have hp7 := plv_7 M6 vs.length (Nat.le_refl _)
  have hT : 18 ≤ T := by have := M2.1.2.1; omega
  have ex4 := hx4 (by omega)
  have ex5 := hx5 (by omega)
  have hlim : lim 111 = 35000 := by decide +kernel
  -- what lies on the stack
  have sA := M5 s0.length (.inl A) (by rw [List.getElem?_append_right (Nat.le_refl _), Nat.sub_self]; rfl)
  have sP : ∀ (i u : Nat), ps[i]? = some u → u < vs.length ∧ KI (s2.2 106) ((s0.length : Int) + 1 + (i : Int)) = (plv vs u : Int) := fun i u hi => by
    have := M5 (s0.length + (i + 1)) (.inr u) (by
      rw [List.getElem?_append_right (by omega), show s0.length + (i + 1) - s0.length = i + 1 by omega, List.getElem?_cons_succ, List.getElem?_map, hi]
      rfl)
    rw [show ((s0.length + (i + 1) : Nat) : Int) = (s0.length : Int) + 1 + (i : Int) by omega] at this
    exact this
  have sR : ∀ i : Nat, i ≤ ps.length → -1000 ≤ KI (s2.2 106) ((s0.length : Int) + (i : Int)) ∧ KI (s2.2 106) ((s0.length : Int) + (i : Int)) ≤ 1000000000 := fun i hi => by
    cases i with
    | zero =>
      have sA : TYc ar (TN.length : Int) 0 0 P T k s2 (KI (s2.2 106) (s0.length : Int)) A := sA.1
      have q0 := sA.1
      have := M1.2.1.2.2.1
      have p3 := M2.1.2.2
      rw [show (s0.length : Int) + ((0 : Nat) : Int) = (s0.length : Int) by omega]
      omega
    | succ i =>
      obtain ⟨u, hu⟩ : ∃ u, ps[i]? = some u := ⟨_, List.getElem?_eq_getElem (by omega)⟩
      obtain ⟨q1, q2⟩ := sP i u hu
      have := plv_le (vs := vs) (show u ≤ vs.length by omega)
      rw [show (s0.length : Int) + ((i + 1 : Nat) : Int) = (s0.length : Int) + 1 + (i : Int) by omega, q2]
      omega
  have F6 : ∀ c q, s6.1 c q = if c = 105 ∧ q = 7 then x5 else s2.1 c q := fun c q => by rw [hs6, zf_1]
  have r6 : s6.2 = s2.2 := by rw [hs6, zf_2]
  have e67 : (s6.1 105 7).toInt = (s0.length : Int) := by
    rw [F6, if_pos ⟨rfl, rfl⟩]
    omega
  refine ⟨fun b1 b2 b3 w => b1 = a1 ∧ b2 = s2.1 111 2 ∧ ∃ i : Nat, i ≤ ps.length + 1 ∧ b3.toInt = (i : Int) ∧ (w.1 111 2).toInt = (plv vs vs.length : Int) + (i : Int) ∧ (∀ c q, ¬ (c = 111 ∧ q = 2) → w.1 c q = s6.1 c q) ∧ (∀ r, ¬ r = 111 → w.2 r = s6.2 r) ∧ (∀ j : Nat, j < plv vs vs.length → w.2 111 j = s6.2 111 j) ∧ ∀ j : Nat, j < i → (w.2 111 (plv vs vs.length + j)).toInt = KI (s2.2 106) ((s0.length : Int) + (j : Int)), fun _ _ b3 _ => (100 - b3.toInt).toNat, ⟨rfl, rfl, 0, Nat.zero_le _, by decide, ?_, fun _ _ _ => rfl, fun _ _ => rfl, fun _ _ => rfl, fun j hj => absurd hj (Nat.not_lt_zero _)⟩, ?_⟩
  · rw [F6, if_neg (by decide), m7]
    show (plv vs vs.length : Int) = (plv vs vs.length : Int) + ((0 : Nat) : Int)
    omega
  rintro b1 b2 b3 w ⟨e1, e2, i, i1, i2, i3, i4, i5, i6, i7⟩
  subst e1 e2
  unfold v_26_19
  refine ⟨fun y => ?_, fun y x3 hx3 => ?_⟩
  · have ei : i = ps.length + 1 := by omega
    subst ei
    have fo : ∀ c q, ¬ (c = 111 ∧ q = 2) → ¬ (c = 105 ∧ q = 7) → w.1 c q = s2.1 c q := fun c q h1 h2 => by rw [i4 c q h1, F6, if_neg h2]
    have R : RUz P T s2 w := RUz_o hP (fun r _ _ h3 _ => by rw [i5 r h3, r6]) (fun c q h1 h2 => fo c q h2 (fun z => h1 z.1))
    have fk : ∀ q, ¬ q = 7 → w.1 105 q = s2.1 105 q := fun q hq => fo 105 q (fun z => absurd z.1 (by decide)) (fun z => hq z.2)
    have f75 : ∀ q, w.1 75 q = s2.1 75 q := fun q => fo 75 q (fun z => absurd z.1 (by decide)) (fun z => absurd z.1 (by decide))
    have hvl : (vs ++ [(A, ps)]).length = vs.length + 1 := by rw [List.length_append]; rfl
    have Mw : MRz K L W ar kd TN Ls n k0 mB P k z gg L0 (5, C, s0, b, E, fr, vs ++ [(A, ps)], l - 1, cl, fa) w := by
      refine ⟨PGz_u hP hT R M1, T, ?_, ⟨⟨by rw [fk 13 (by decide)]; exact m1, by rw [fk 9 (by decide)]; exact m2, by rw [fk 10 (by decide)]; exact m3, by rw [fk 11 (by decide)]; exact m4, ?_, by rw [fk 8 (by decide)]; exact m6, ?_⟩, m8, m9, ?_, ?_, m12⟩, ⟨?_, M4b, M4c⟩, ?_, ?_, FRk_u hP R (Int.le_refl _) fr b E (fun j _ => by rw [i5 108 (by decide), r6]) (fun i _ => by rw [i5 _ (by omega), r6]) M7⟩
      · show MTp T (l - 1) w
        unfold MTp
        rw [f75, f75, f75]
        exact M2
      · show _ = (s0.length : Int)
        rw [i4 105 7 (by decide)]
        exact e67
      · show _ = (plv (vs ++ [(A, ps)]) (vs ++ [(A, ps)]).length : Int)
        rw [hvl, plv_n, i3]
        show (plv vs vs.length : Int) + ((ps.length + 1 : Nat) : Int) = ((plv vs vs.length + (1 + ps.length) : Nat) : Int)
        omega
      · show ((vs ++ [(A, ps)]).length : Int) ≤ L0 - (l - 1)
        rw [hvl]
        omega
      · show s0.length ≤ 3901
        omega
      · show LYz P k z w (w.1 105 6).toInt C
        rw [fk 6 (by decide)]
        exact RUz_ly hP R M4
      · show STk ar (TN.length : Int) P T k w (vs ++ [(A, ps)]) s0
        intro j x hj
        have hj0 := (List.getElem?_eq_some_iff.mp hj).1
        have := itz_v (q := (A, ps)) (itz_u R (Int.le_refl _) (M5 j x (by rw [List.getElem?_append_left hj0]; exact hj)))
        rw [i5 106 (by decide), r6]
        exact this
      · show VLk ar (TN.length : Int) P T k w (vs ++ [(A, ps)])
        intro x B qs hx
        rcases Nat.lt_or_ge x vs.length with q | q
        · rw [List.getElem?_append_left q] at hx
          obtain ⟨g1, g2, g3⟩ := M6 x B qs hx
          have hs := plv_s hx
          have hle := plv_le (vs := vs) (show x + 1 ≤ vs.length by omega)
          have hs : plv vs (x + 1) = plv vs x + (1 + qs.length) := hs
          have kk : ∀ j : Nat, j < plv vs vs.length → KI (w.2 111) (j : Int) = KI (s2.2 111) (j : Int) := fun j hj => by
            rw [KI_p (by omega), KI_p (by omega), show ((j : Int)).toNat = j by omega, i6 j hj, r6]
          rw [plv_a (by omega), kk _ (by omega)]
          refine ⟨RUz_ty R g1 (Int.le_refl _), g2, fun i u hi => ?_⟩
          obtain ⟨y1, y2⟩ := g3 i u hi
          have hi0 := (List.getElem?_eq_some_iff.mp hi).1
          refine ⟨by rw [hvl]; omega, ?_⟩
          rw [plv_a (by omega), show (plv vs x : Int) + 1 + (i : Int) = ((plv vs x + 1 + i : Nat) : Int) by omega, kk _ (by omega), show ((plv vs x + 1 + i : Nat) : Int) = (plv vs x : Int) + 1 + (i : Int) by omega]
          exact y2
        · have hx0 := (List.getElem?_eq_some_iff.mp hx).1
          have ex : x = vs.length := by omega
          subst ex
          rw [List.getElem?_append_right (Nat.le_refl _), Nat.sub_self] at hx
          have hx : (A, ps) = (B, qs) := Option.some.inj hx
          cases hx
          have kk : ∀ j : Nat, j < ps.length + 1 → KI (w.2 111) ((plv vs vs.length : Int) + (j : Int)) = KI (s2.2 106) ((s0.length : Int) + (j : Int)) := fun j hj => by
            rw [← i7 j hj, KI_p (by omega), show ((plv vs vs.length : Int) + (j : Int)).toNat = plv vs vs.length + j by omega]
          rw [plv_a (Nat.le_refl _)]
          have kz0 := kk 0 (by omega)
          rw [show (plv vs vs.length : Int) + ((0 : Nat) : Int) = (plv vs vs.length : Int) by omega, show (s0.length : Int) + ((0 : Nat) : Int) = (s0.length : Int) by omega] at kz0
          refine ⟨by rw [kz0]; exact RUz_ty R sA.1 (Int.le_refl _), ⟨h6, by rw [kz0]; exact sA.2⟩, fun i u hi => ?_⟩
          · have hi0 := (List.getElem?_eq_some_iff.mp hi).1
            obtain ⟨y1, y2⟩ := sP i u hi
            refine ⟨by rw [hvl]; omega, ?_⟩
            have := kk (i + 1) (by omega)
            rw [show (plv vs vs.length : Int) + ((i + 1 : Nat) : Int) = (plv vs vs.length : Int) + 1 + (i : Int) by omega, show (s0.length : Int) + ((i + 1 : Nat) : Int) = (s0.length : Int) + 1 + (i : Int) by omega] at this
            rw [plv_a (by omega), this]
            exact y2
    refine Zt.imp (Zt.mo (d := 9) (by omega) (MR_push (d := 0) (it := .inr vs.length) (a1 := s2.1 111 2) hP Mw (by omega) (by omega) ⟨by rw [hvl]; omega, by rw [plv_a (Nat.le_refl _)]; exact m7⟩)) ?_
    rintro w1 s3 ⟨rfl, M9⟩
    exact ⟨rfl, rfl, fun _ => M9, fun w => absurd rfl w⟩
  · have e7 : (w.1 105 7).toInt = (s0.length : Int) := by
      rw [i4 105 7 (by decide)]
      exact e67
    rw [e7] at hx3
    have ex3 := hx3 (by omega)
    have ev : (zg w 106 x3).toInt = KI (s2.2 106) ((s0.length : Int) + (i : Int)) := by
      rw [zg_K, i5 106 (by decide), r6, ex3, i2]
    refine ⟨by rw [ev]; exact sR i (by omega), fun s4 hs4 x5' hx5' => ?_⟩
    have ex5' := hx5' (by omega)
    refine ⟨⟨rfl, rfl, i + 1, by omega, by omega, ?_, fun c q hc => ?_, fun r hr => ?_, fun j hj => ?_, fun j hj => ?_⟩, by dsimp only; omega⟩
    · rw [hs4, zb_n i3 (by omega) (by rw [hlim]; omega) (by omega)]
      omega
    · rw [hs4, za_o hc, i4 c q hc]
    · rw [hs4, za_r hr, i5 r hr]
    · rw [hs4, zb_c i3 (by omega) (by rw [hlim]; omega), if_neg (by omega), i6 j hj]
    · rw [hs4, zb_c i3 (by omega) (by rw [hlim]; omega)]
      by_cases ej : j = i
      · rw [if_pos (by omega), ev, ej]
      · rw [if_neg (by omega)]
        exact i7 j (by omega)
end ZTH
