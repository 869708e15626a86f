/-! ===== the class: Machine: call, its end ===== -/
section ZTJ
variable {K L W ar kd : Int → Int} {TN Ls : List Int} {n k0 mB k z L0 T l li cl fa o lo hi : Int} {P d b v e : Nat} {s w : zS} {C Cf : List Ins} {s0 : List Itm} {E : Env} {fr : List Frm} {vs : Vls} {a1 a2 a3 a4 a6 a7 a8 : Int32} {A : List Int} {ps as : List Nat} {Bs : List (List Int)} {Y : PMs} {gg : Int × Int}
theorem flt_le : ∀ (Z : List (List Int)) (x : List Int), x ∈ Z → x.length ≤ Z.flatten.length
  | [], x, h => by cases h
  | y :: Z, x, h => by
    rw [List.flatten_cons, List.length_append]
    rcases List.mem_cons.mp h with rfl | h
    · omega
    · have := flt_le Z x h
      omega
theorem fnQi_inv {f : Nat} {p : Nat × Int} (h : (fnQi K 0 Ls)[f]? = some p) : Ls[p.1]? = some p.2 ∧ K p.2 = 6 ∧ f = kFn K (Ls.take p.1) := by
  have hf : f < kFn K Ls := by
    have := (List.getElem?_eq_some_iff.mp h).1
    rw [fnQi_len] at this
    exact this
  obtain ⟨i, t, h1, h6, rfl⟩ := fn_dc (K := K) hf
  have := fnQi_at Ls i 0 t h1 h6
  rw [h, Nat.zero_add] at this
  cases Option.some.inj this
  exact ⟨h1, h6, rfl⟩
theorem fcD_of {c y : Int} {m : Nat} (h : PRm K L W ar kd n lo hi TN Ls) (hc : fcD K L W ar kd TN Ls c y = some (m, Cf)) : ∃ (f : Nat) (p : Nat × Int), fxD K L W TN Ls c y = (f : Int) ∧ f < kFn K Ls ∧ (fnQi K 0 Ls)[f]? = some p ∧ nYf K L p = m ∧ fnC K L W ar kd TN Ls p = Cf ∧ ar c = (nXf K L p : Int) := by
  unfold fcD at hc
  by_cases q : 0 ≤ fxD K L W TN Ls c y
  · rw [if_pos q] at hc
    obtain ⟨p, hp, e⟩ := Option.map_eq_some_iff.mp hc
    have e1 : nYf K L p = m := congrArg Prod.fst e
    have e2 : fnC K L W ar kd TN Ls p = Cf := congrArg Prod.snd e
    obtain ⟨g1, g2, g3⟩ := fnQi_inv hp
    rcases lFw_b (cf := cfO K L W TN Ls) (wf := fun f => hwd K L W Ls (fsd K L Ls f)) (c := c) (x := y) (kFn K Ls) with w | ⟨g, w1, w2, w3, -⟩
    · have : fxD K L W TN Ls c y = -1 := w
      omega
    · have w2 : fxD K L W TN Ls c y = (g : Int) := w2
      have eg : (fxD K L W TN Ls c y).toNat = g := by omega
      rw [eg] at hp g3
      refine ⟨g, p, w2, w1, hp, e1, e2, ?_⟩
      obtain ⟨f1, f2, f3⟩ := fn_fact h g1 g2
      rw [g3, (tb_fn (L := L) (W := W) (TN := TN) g1 g2).2] at w3
      rw [← w3]
      exact f3
  · rw [if_neg q] at hc
    cases hc
set_option maxHeartbeats 1000000 in
/-- behind the TYPES told -/
theorem ca_77 (hP : P = 3 ∨ P = 39) (h : PRm K L W ar kd n lo hi TN Ls) (hC : PCk K L W ar kd TN Ls mB) (M : MRz K L W ar kd TN Ls n k0 mB P k z gg L0 (5, C, s0 ++ .inr v :: as.map .inr, b, E, fr, vs, li, cl, fa) w) (hv : vs[v]? = some (A, ps)) (hE : ENz P w (113 + 2 * (fr.length + 1)) (w.1 75 3).toInt (eta (argT ar A) Bs) 12) (hB : ∀ B ∈ Bs, TGo ar (TN.length : Int) 0 0 B) (hB6 : Bs.length ≤ 6) (h3 : a3.toInt = (s0.length : Int)) (h4 : a4.toInt = KI (w.2 111) (plv vs v : Int)) (hY : (li < 1 ∧ Y = (2, C, s0 ++ .inr v :: as.map .inr, b, E, fr, vs, 0, cl, fa)) ∨ (1 ≤ li ∧ 40 ≤ fr.length ∧ Y = (3, C, s0 ++ .inr v :: as.map .inr, b, E, fr, vs, li - 1, cl, fa)) ∨ (1 ≤ li ∧ fr.length < 40 ∧ ∃ Cf : List Ins, fcD K L W ar kd TN Ls (A.headD 0) a2.toInt = some (Bs.length, Cf) ∧ Y = (5, Cf, s0 ++ .inr v :: as.map .inr, s0.length, (argT ar A, Bs), (C, b, E) :: fr, vs, li - 1, cl + 1, fa))) : v_27_77 (fun j => Zt (d + 17) (wd2 P j) j) P e a1 a2 a3 a4 a6 a7 a8 w (fun r s' => r = none ∧ ROk K L W ar kd TN Ls n k0 mB P k z gg L0 Y s') := by
  unfold v_27_77
  refine Zt.imp (Zt.mo (d := 9) (by omega) (MR_take (d := 0) (a1 := 1) hP M (by decide))) ?_
  rintro w1 s2 ⟨r2, f2, u3⟩
  rcases u3 with ⟨l1, rfl, M'⟩ | ⟨l1, rfl, H'⟩
  rotate_left
  · refine ⟨0, rfl, fun w => absurd (by decide) w, fun _ => ⟨rfl, ?_⟩⟩
    rcases hY with ⟨-, rfl⟩ | ⟨q1, -⟩ | ⟨q1, -⟩
    · exact ⟨fun w => absurd (show (2 : Int) = 5 from w) (by decide), fun _ => H'⟩
    · omega
    · omega
  have hE2 : ENz P s2 (113 + 2 * (fr.length + 1)) (w.1 75 3).toInt (eta (argT ar A) Bs) 12 := ENz_r (by rw [r2]) (by rw [r2]) hE
  obtain ⟨M1, T, M2, M3, ⟨M4, M4b, M4c⟩, M5, M6, M7⟩ := id M'
  have M2 : MTp T (li - 1) s2 := M2
  have M3 : MFd L0 s2 (s0 ++ .inr v :: as.map .inr) fr vs (li - 1) cl := M3
  have M4 : LYz P k z s2 (s2.1 105 6).toInt C := M4
  have M5 : STk ar (TN.length : Int) P T k s2 vs (s0 ++ .inr v :: as.map .inr) := M5
  have M6 : VLk ar (TN.length : Int) P T k s2 vs := M6
  have M7 : FRk ar (TN.length : Int) P T k z s2 fr b E := M7
  obtain ⟨⟨m1, m2, m3, m4, m5, m6, m7⟩, m8, m9, m10, m11, m12⟩ := M3
  have hT : 18 ≤ T := by have := M2.1.2.1; omega
  have eT : (w.1 75 3).toInt = T := by
    rw [← f2 75 3 (fun z => absurd z.1 (by decide))]
    exact M2.1.1
  rw [eT] at hE2
  refine ⟨1, rfl, fun _ => ⟨fun hd40 => ?_, fun hd40 s18 hs18 => ?_⟩, fun w => absurd w (by decide)⟩
  rotate_left
  · -- too deep
    refine ⟨rfl, ?_⟩
    rcases hY with ⟨q1, -⟩ | ⟨-, -, rfl⟩ | ⟨-, q1, -⟩
    · omega
    · refine ⟨fun w => absurd (show (3 : Int) = 5 from w) (by decide), fun _ => ?_⟩
      have F : ∀ c q, s18.1 c q = if c = 105 ∧ q = 13 then 3 else s2.1 c q := fun c q => by rw [hs18, zf_1]
      have r18 : s18.2 = s2.2 := by rw [hs18, zf_2]
      have R : RUz P T s2 s18 := RUz_o hP (fun r _ _ _ _ => by rw [r18]) (fun c q h1 _ => by rw [F, if_neg (fun z => h1 z.1)])
      refine ⟨PGz_u hP hT R M1, ⟨?_, ?_, ?_, m8.1, m8.2.1⟩, fun w => absurd (show (3 : Int) = 1 from w) (by decide), fun w => absurd (show (3 : Int) = 0 from w) (by decide)⟩
      · rw [F, if_pos ⟨rfl, rfl⟩]
        show (3 : Int32).toInt = 3
        decide
      · rw [F, if_neg (by decide)]
        exact m3
      · rw [F, if_neg (by decide)]
        exact m4
    · omega
  rcases hY with ⟨q1, -⟩ | ⟨-, q1, -⟩ | ⟨-, hfr, Cf, hfc, rfl⟩
  · omega
  · omega
  obtain ⟨ha, h24⟩ := PR_ar h
  have hnT := PR_nT h
  obtain ⟨y1, -, -⟩ := M6 v A ps hv
  have e4 : a4.toInt = KI (s2.2 111) (plv vs v : Int) := by rw [r2]; exact h4
  rw [← e4] at y1
  obtain ⟨c, A', rfl⟩ := TYc_ne y1
  have hc := y1.2.2.2.2 c List.mem_cons_self
  have hcT := y1.2.2.2.1.2 c List.mem_cons_self
  have ec : (zg s2 (P + 18) a4).toInt = c := by
    rw [zg_K]
    exact TYc_hd y1
  have hfc : fcD K L W ar kd TN Ls c a2.toInt = some (Bs.length, Cf) := hfc
  obtain ⟨f, p, g1, g2, g3, g4, g5, g6⟩ := fcD_of h hfc
  have hF60 := h.2.2.1.2
  have h24' := h.2.2.1.1
  obtain ⟨-, -, -, -, m5', -⟩ := cz_lk h M1.1
  have hc24 : c < 24 := by omega
  have hcn := hcT hc24
  refine Zt.imp (Zt.mo (d := 9) (by omega) (zs_53 (d := 0) hP m5' hF60 (by rw [ec]; exact ⟨hc.1, hcn, by omega⟩))) ?_
  rintro w4 s5 ⟨hs5, x6, rfl, ex6⟩
  rw [ec, cz_fx h M1.1, g1] at ex6
  refine ⟨x6, rfl, fun x7 hx7 s8 hs8 x9 hx9 s10 hs10 x11 hx11 s12 hs12 x13 hx13 x14 hx14 s15 hs15 s17 hs17 => ?_⟩
  rw [hs5] at hx7 hs8
  have ex7 := hx7 (by omega)
  have e88 : s8.1 105 8 = s2.1 105 8 := by rw [hs8, zf_1, if_neg (by decide)]
  rw [e88] at hx9
  have ex9 := hx9 (by omega)
  have e108 : s10.1 105 8 = x9 := by rw [hs10, zf_1, if_pos ⟨rfl, rfl⟩]
  rw [e108] at hx11
  have ex11 := hx11 (by omega)
  have hlim : lim 108 = 82 := by decide +kernel
  obtain ⟨D, hD⟩ : ∃ D, D = fr.length + 1 := ⟨_, rfl⟩
  have e106 : s10.1 105 6 = s2.1 105 6 := by rw [hs10, zf_1, if_neg (by decide), hs8, zf_1, if_neg (by decide)]
  have e12 : s12 = zr s10 108 (2 * D) (s2.1 105 6) := by
    rw [hs12, zt_in ⟨by omega, by rw [hlim]; omega⟩, e106, show x11.toInt.toNat = 2 * D by omega]
  have e128 : s12.1 105 8 = x9 := by rw [e12, zr_1]; exact e108
  rw [e128] at hx13
  have ex13 := hx13 (by omega)
  have ex14 := hx14 (by omega)
  have e15 : s15 = zr s12 108 (2 * D + 1) a3 := by
    rw [hs15, zt_in ⟨by omega, by rw [hlim]; omega⟩, show x14.toInt.toNat = 2 * D + 1 by omega]
  have F : ∀ c q, s17.1 c q = if c = 105 ∧ q = 6 then zg s15 (P + 26) (x6 * 10 + 8) else if c = 105 ∧ q = 8 then x9 else if c = 105 ∧ q = 11 then x7 else s2.1 c q := fun c q => by rw [hs17, zf_1, e15, zr_1, e12, zr_1, hs10, zf_1, hs8, zf_1]
  have r17 : ∀ r j, s17.2 r j = if r = 108 ∧ j = 2 * D + 1 then a3 else if r = 108 ∧ j = 2 * D then s2.1 105 6 else s2.2 r j := fun r j => by rw [hs17, zf_2, e15, zr_2, e12, zr_2, hs10, zf_2, hs8, zf_2]
  have ro : ∀ r, ¬ r = 108 → s17.2 r = s2.2 r := fun r hr => by
    funext j
    rw [r17, if_neg (fun z => hr z.1), if_neg (fun z => hr z.1)]
  have fk : ∀ q, ¬ (q = 6 ∨ q = 8 ∨ q = 11) → s17.1 105 q = s2.1 105 q := fun q hq => by rw [F, if_neg (fun z => hq (Or.inl z.2)), if_neg (fun z => hq (Or.inr (Or.inl z.2))), if_neg (fun z => hq (Or.inr (Or.inr z.2)))]
  have fo : ∀ c q, ¬ c = 105 → s17.1 c q = s2.1 c q := fun c q hc => by rw [F, if_neg (fun z => hc z.1), if_neg (fun z => hc z.1), if_neg (fun z => hc z.1)]
  have R : RUz P T s2 s17 := RUz_o hP (fun r _ h2 _ _ => ro r h2) (fun c q h1 _ => fo c q h1)
  have v26 : (zg s15 (P + 26) (x6 * 10 + 8)).toInt = fnc s2 P (f : Int) 8 := by
    rw [zg_fn (s := s15) (P := P) (a1 := x6) (c := 8) (k := 8) (by decide) (by decide) (by omega), ex6]
    unfold fnc
    rw [show s15.2 (P + 26) = s2.2 (P + 26) from by
      funext j
      rw [e15, zr_2, if_neg (fun z => by omega), e12, zr_2, if_neg (fun z => by omega), hs10, zf_2, hs8, zf_2]]
  obtain ⟨P1, P2⟩ := argT_P ha y1.2.2.1 y1.2.2.2.2 y1.2.2.2.1.2
  have hX6 := ar_le6 h hc.1 hcT
  have hPG := PGz_u hP hT R M1
  have hXs : ∀ x ∈ argT ar (c :: A'), x.length ≤ 60 := fun x hx => by
    have e := (argT_ok ha y1.2.2.1).1
    have hl := flt_le _ x hx
    have h60 := y1.2.2.2.1.1
    rw [e] at hl
    have : (c :: A').length = A'.length + 1 := rfl
    omega
  have hEk : enK ar (TN.length : Int) (argT ar (c :: A'), Bs) := ⟨⟨by show (argT ar (c :: A')).length ≤ 6; omega, hB6⟩, fun x hx => ⟨(P1 x hx).1, ⟨hXs x hx, (P1 x hx).2.2⟩, (P1 x hx).2.1⟩, hB⟩
  refine ⟨rfl, fun _ => ⟨hPG, T, ?_, ⟨⟨by rw [fk 13 (by decide)]; exact m1, by rw [fk 9 (by decide)]; exact m2, by rw [fk 10 (by decide)]; exact m3, ?_, by rw [fk 7 (by decide)]; exact m5, ?_, by rw [fo 111 2 (by decide)]; exact m7⟩, m8, ?_, m10, m11, ?_⟩, ⟨?_, ?_, hEk⟩, STk_u R (Int.le_refl _) (fun j _ => by rw [ro 106 (by decide)]) M5, VLk_u R (Int.le_refl _) (ro 111 (by decide)) M6, ?_⟩, fun w => absurd rfl w⟩
  · show MTp T (li - 1) s17
    unfold MTp
    rw [fo 75 3 (by decide), fo 75 4 (by decide), fo 75 6 (by decide)]
    exact M2
  · show _ = cl + 1
    rw [F, if_neg (by decide), if_neg (by decide), if_pos ⟨rfl, rfl⟩]
    omega
  · show _ = (((C, b, E) :: fr).length : Int)
    rw [F, if_neg (by decide), if_pos ⟨rfl, rfl⟩]
    show x9.toInt = ((fr.length + 1 : Nat) : Int)
    omega
  · show 0 ≤ cl + 1 ∧ cl + 1 ≤ L0 - (li - 1)
    obtain ⟨-, -, -, N3, -⟩ := M
    have : 0 ≤ cl ∧ cl ≤ L0 - li := N3.2.2.1
    omega
  · show fr.length + 1 ≤ 40
    omega
  · show LYz P k z s17 (s17.1 105 6).toInt Cf
    rw [F, if_pos ⟨rfl, rfl⟩, v26]
    have := RUz_ly hP R (M1.2.2.1 f p g3)
    rw [g5] at this
    exact this
  · show cdK ar (TN.length : Int) ((argT ar (c :: A')).length : Int) (Bs.length : Int) Cf
    have := hC.1 f p g3
    rw [g5, g4, ← g6, ← P2] at this
    exact this
  · show FRk ar (TN.length : Int) P T k z s17 ((C, b, E) :: fr) s0.length (argT ar (c :: A'), Bs)
    have kk : ∀ (j : Nat) (x : Int32), s17.2 108 j = x → KI (s17.2 108) (j : Int) = x.toInt := fun j x e => by
      rw [KI_p (by omega), show ((j : Int)).toNat = j by omega, e]
    refine ⟨⟨?_, ?_, ?_⟩, ⟨M4b, M4c⟩, FRk_u hP R (Int.le_refl _) fr b E (fun j hj => ?_) (fun i _ => ro _ (by omega)) M7⟩
    · have := kk (2 * D + 1) a3 (by rw [r17, if_pos ⟨rfl, rfl⟩])
      rw [show ((2 * D + 1 : Nat) : Int) = 2 * ((fr.length + 1 : Nat) : Int) + 1 by omega] at this
      rw [this]
      exact h3
    · have := kk (2 * D) (s2.1 105 6) (by rw [r17, if_neg (fun z => by omega), if_pos ⟨rfl, rfl⟩])
      rw [show ((2 * D : Nat) : Int) = 2 * ((fr.length + 1 : Nat) : Int) by omega] at this
      rw [this]
      exact RUz_ly hP R M4
    · exact RUz_en hP R (ro _ (by omega)) (Int.le_refl _) hE2
    · rw [r17, if_neg (fun z => by omega), if_neg (fun z => by omega)]
end ZTJ
