/-! ===== the reference: program, with main's TYPE (wip/p11/mkx.py, out of ZZx, ZZy) ===== -/
/-- a program stands, and main's TYPE -/
def RPw (K L W ar kd : Int → Int) (TN Ls : List Int) (n B b mB : Int) (u : yS) : Prop := RPs K L W ar kd TN Ls n B b mB u ∧ (u.2.1 274 b.toNat).toInt = ((exE6 K L W ar kd TN Ls mnS 10 mB).2.length : Int) ∧ ∀ (i : Nat) (c : Int), (exE6 K L W ar kd TN Ls mnS 10 mB).2[i]? = some c → (u.2.1 273 (60 * b + (i : Int)).toNat).toInt = rhE ar 1000 2000 c
section ZYK
variable {K L W ar kd : Int → Int} {n lo hi B b A A0 x y m mB F : Int} {TN Ls : List Int} {d i k : Nat} {t : Int} {a1 a2 : Int32} {s s' u : yS}
theorem u_172w {A : List Int} (hAe : A = (exE6 K L W ar kd TN Ls mnS 10 mB).2) (h30 : (s.1 30).toInt = b) (hb : 0 ≤ b) (h : (s.1 8).toInt = F) (hR : F = 0 → RPg K L W ar kd TN Ls n B b mB s ∧ 0 ≤ (s.1 80).toInt ∧ (s.1 81).toInt = (A.length : Int) ∧ RWel s (s.1 80).toInt (A.map (rhE ar 1000 2000))) (ha : a1.toInt = 0) : ubl_230_172 (Par d) a1 s (pFin F (RPw K L W ar kd TN Ls n B b mB)) := by
  unfold ubl_230_172
  refine ⟨fun c u => u.1 = s.1 ∧ (∀ q, ¬ q = 273 → ¬ q = 274 → u.2.1 q = s.2.1 q) ∧ ∃ i : Nat, c.toInt = (i : Int) ∧ (F = 0 → i ≤ A.length) ∧ (F = 0 → ∀ j, j < i → u.2.1 273 (60 * b + (j : Int)).toNat = s.2.1 264 ((s.1 80).toInt + (j : Int)).toNat), ⟨rfl, fun _ _ _ => rfl, 0, ha, fun _ => Nat.zero_le _, fun _ j hj => absurd hj (Nat.not_lt_zero _)⟩, ?_⟩
  rintro c1 u ⟨i1, i2, i, i3, i4, i5⟩
  unfold ub_230_172
  rw [i1, h30]
  refine ⟨fun hend _ s1 hs1 s2 hs2 => ?_, fun hmore _ x5 hx5 _ x6 hx6 _ x7 hx7 _ _ s8 hs8 _ x9 hx9 => ?_⟩
  · refine Par.imp x_232 ?_
    rintro v4 s3 ⟨rfl, e2, e3⟩
    have k2 : ∀ k, ¬ k = 29 → s2.1 k = s.1 k := fun k hk => by rw [hs2, sf_1, if_neg hk, hs1]; exact congrFun i1 k
    have f3 : ∀ k, k < 90 → ¬ k = 29 → s3.1 k = s.1 k := fun k h1 h2 => (e3 k h1).trans (k2 k h2)
    refine ⟨rfl, ?_⟩
    unfold ub_230_207
    intro s4 hs4
    have f4 : ∀ k, k < 90 → ¬ k = 29 → ¬ k = 75 → s4.1 k = s.1 k := fun k h1 h2 h3 => by rw [hs4, sf_1, if_neg h3]; exact f3 k h1 h2
    have r4 : ∀ q j, s4.2.1 q j = if q = 274 ∧ j = b.toNat then s.1 81 else u.2.1 q j := fun q j => by
      rw [hs4, sf_2, e2, hs2, sf_2, hs1, sa_21]
    refine ⟨_, rfl, by rw [f4 8 (by decide) (by decide) (by decide)]; exact h, fun q => ?_⟩
    obtain ⟨R1, R2, R3, R4⟩ := hR q
    refine ⟨⟨s, R1, fun q q1 q2 => funext fun j => by rw [r4, if_neg (fun w => q2 w.1), i2 q q1 q2], f4 65 (by decide) (by decide) (by decide), f4 26 (by decide) (by decide) (by decide)⟩, ?_, fun j c hc => ?_⟩
    · rw [r4, if_pos ⟨rfl, rfl⟩, R3, hAe]
    · rw [← hAe] at hc
      have hj := (List.getElem?_eq_some_iff.mp hc).1
      have := i4 q
      rw [r4, if_neg (fun w => absurd w.1 (by decide)), i5 q j (by omega)]
      have e := R4 j (rhE ar 1000 2000 c) (by rw [List.getElem?_map, hc]; rfl)
      rw [KI_p (by omega)] at e
      exact e
  · have r8 : ∀ q j, s8.2.1 q j = if q = 273 ∧ j = x6.toInt.toNat then u.2.1 264 x7.toInt.toNat else u.2.1 q j := fun q j => by rw [hs8, sa_21]
    refine ⟨by rw [hs8]; exact i1, fun q q1 q2 => funext fun j => by rw [r8, if_neg (fun w => q1 w.1), i2 q q1 q2], i + 1, by omega, fun q => ?_, fun q j hj => ?_⟩
    · have := (hR q).2.2.1
      omega
    · have hp := (hR q).2.1
      rw [r8]
      by_cases ej : j = i
      · rw [if_pos ⟨rfl, by omega⟩, i2 264 (by decide) (by decide), show x7.toInt.toNat = ((s.1 80).toInt + (j : Int)).toNat by omega]
      · rw [if_neg (fun w => by omega)]
        exact i5 q j (by omega)
set_option maxHeartbeats 4000000 in
/-- E of funcs, and main's -/
theorem u_127w (h : PRm K L W ar kd n lo hi TN Ls) (hxy : B ≤ x ∧ y ≤ (s.1 26).toInt) (hB : 0 ≤ B) (hS : RST K L W ar kd TN Ls n B b A0 x y s) (w30 : (s.1 30).toInt = b) (hEr : ErA K L B s 259 b x y mB) (h8 : (s.1 8).toInt = 0) (h70 : 0 ≤ (s.1 70).toInt) (hA0 : A0 ≤ (s.1 65).toInt) (h65 : (s.1 65).toInt ≤ 60000) (hmP : (p_e K L 10 false (0, mB)).1 = 0) (hm0 : 0 ≤ mB) (hmh : hi ≤ mB) (hmn : nxE K L mB ≤ n) (hF : F = ffs (eFs K L W ar kd TN Ls mB)) : ub_230_127 (Par d) a1 s (pFin F (RPw K L W ar kd TN Ls n B b mB)) := by
  have hb : 0 ≤ b := hS.2.2.2.2.2.2
  have hnn := h.1.1.1
  obtain ⟨⟨hX, hD, hlo, hhi⟩, -⟩ := id h
  obtain ⟨FL, hFL⟩ : ∃ FL, FL = (fnQi K 0 Ls).map (fun p => fnF K L W ar kd TN Ls p.1 p.2) := ⟨_, rfl⟩
  have hFl : FL.length = kFn K Ls := by rw [hFL, List.length_map, fnQi_len]
  have eFF : eFs K L W ar kd TN Ls mB = FL ++ [(exE6 K L W ar kd TN Ls mnS 10 mB).1] := by rw [hFL]; rfl
  rw [eFF, ffs_s] at hF
  unfold ub_230_127 ubl_230_129
  refine ⟨fun c1 u => ∃ f : Nat, f ≤ kFn K Ls ∧ c1.toInt = (f : Int) ∧ (u.1 8).toInt = ffs (FL.take f) ∧ ((u.1 8).toInt = 0 → EF0 (nsD K L Ls) B A0 s u ∧ 0 ≤ (u.1 70).toInt ∧ (s.1 65).toInt ≤ (u.1 65).toInt ∧ (u.1 65).toInt ≤ (s.1 65).toInt + n ∧ ∀ (i : Nat) (t : Int), Ls[i]? = some t → K t = 6 → kFn K (Ls.take i) = f → (u.1 65).toInt ≤ (s.1 65).toInt + t) ∧ ((u.1 8).toInt = 0 → ∀ (i : Nat) (t : Int), Ls[i]? = some t → K t = 6 → kFn K (Ls.take i) < f → ∃ x' y' : Int, (x ≤ x' ∧ y' ≤ y) ∧ eC K L W ar kd TN Ls B (4000 + 6 * (kFn K (Ls.take i) : Int)) (2000 + 6 * (kHd K L (Ls.take i) : Int)) (fnS K L W ar TN Ls i t) A0 (u.1 65).toInt u 10 x' y' (f_7 K L false (0, t)).2 (u.2.1 258 (60 * b + (kFn K (Ls.take i) : Int)).toNat).toInt), ⟨0, Nat.zero_le _, by decide, by rw [List.take_zero]; exact h8, fun _ => ⟨EF0_rf, h70, Int.le_refl _, by omega, fun i t g1 _ _ => ?_⟩, fun _ i t _ _ q => absurd q (Nat.not_lt_zero _)⟩, ?_⟩
  · have := (dcC_at Ls i t lo hi hD g1).1
    omega
  rintro c1 u ⟨f, i1, i2, i3, i4, i9⟩
  have fin : (f = kFn K Ls ∨ ¬ (u.1 8).toInt = 0) → ub_230_149 (Par d) c1 u (pFin F (RPw K L W ar kd TN Ls n B b mB)) := by
    intro hc
    by_cases z : (u.1 8).toInt = 0
    · have hf : f = kFn K Ls := by
        rcases hc with q | q
        · exact q
        · exact absurd z q
      rw [hf, ← hFl, List.take_length] at i3
      rw [if_pos (by rw [← i3]; exact z)] at hF
      obtain ⟨E, j70, j1, j2, -⟩ := i4 z
      unfold ub_230_149
      refine ⟨fun q => absurd z q, fun _ => ?_⟩
      refine Par.imp x_206 ?_
      rintro v2 s1 ⟨rfl, hs1⟩
      refine ⟨rfl, fun s3 hs3 _ => ?_⟩
      have E3 : EF0 (nsD K L Ls) B A0 s s3 := by
        rw [hs3, hs1]
        exact EF0_tr E (EF0_tr (EF0_sf (by unfold fEx; omega)) (EF0_tr (EF0_sf (by unfold fEx; omega)) (EF0_tr (EF0_sf (by unfold fEx; omega)) (EF0_sf (by unfold fEx; omega)))))
      have e30 : (s3.1 30).toInt = b := by rw [E3.1 30 (by unfold fEx; omega)]; exact w30
      have k3 : ∀ k, ¬ k = 64 → ¬ k = 76 → ¬ k = 77 → ¬ k = 78 → s3.1 k = u.1 k := fun k q1 q3 q4 q5 => by
        rw [hs3, sfr_1, if_neg q1, hs1, sfr_1, if_neg q5, sfr_1, if_neg q4, sfr_1, if_neg q3]
      have k64 : (s3.1 64).toInt = 100000 := by
        rw [hs3, sfr_1, if_pos rfl]
        decide
      have k76 : (s3.1 76).toInt = -1 := by
        rw [hs3, sfr_1, if_neg (by decide), hs1, sfr_1, if_neg (by decide), sfr_1, if_neg (by decide), sfr_1, if_pos rfl]
        decide
      have k77 : (s3.1 77).toInt = -1 := by
        rw [hs3, sfr_1, if_neg (by decide), hs1, sfr_1, if_neg (by decide), sfr_1, if_pos rfl]
        decide
      have k78 : (s3.1 78).toInt = -1 := by
        rw [hs3, sfr_1, if_neg (by decide), hs1, sfr_1, if_pos rfl]
        decide
      have k8 := k3 8 (by decide) (by decide) (by decide) (by decide)
      have k65 := k3 65 (by decide) (by decide) (by decide) (by decide)
      have k70 := k3 70 (by decide) (by decide) (by decide) (by decide)
      obtain ⟨ea, ec, ee, qa, qc, -, -, q5', q6'⟩ := hEr
      have q5 : (s3.2.1 259 b.toNat).toInt = ee := by rw [EF0_r E3 (q := 259) (by unfold rEx; omega)]; exact q5'
      have q6 := eT_e E3 _ _ _ _ _ q6'
      have hT3 : eT K L B s3 10 ea ec mB (s3.2.1 259 (s3.1 30).toInt.toNat).toInt := by
        rw [e30, q5]
        exact q6
      refine Par.imp (m_217 (z := ea) (z' := ec) h hB (RST_e h E3 hS) (by rw [k8]; exact z) k64 (by rw [k70]; exact j70) k76 k77 k78 (by rw [k65]; omega) hT3 hmP hm0 hmh hmn (by rw [k65]; omega)) ?_
      rintro v5 s4 ⟨rfl, p1, p2, -, p3⟩
      refine ⟨rfl, ?_⟩
      have e4 : (s4.1 8).toInt = F := by rw [p2, hF]
      unfold ub_230_167
      refine ⟨fun q => u_207 e4 (fun w => q (e4.trans w)), fun _ => u_172w rfl (by rw [(EF0_tr E3 p1).1 30 (by unfold fEx; omega)]; exact w30) hb e4 (fun q => ?_) (by decide)⟩
      obtain ⟨q1, q2, q3, q4, q5⟩ := p3 (by rw [← p2, e4]; exact q)
      have E4 := EF0_tr E3 p1
      have h65u : A0 ≤ (u.1 65).toInt := by omega
      have m65 := q1.2.1.1
      rw [k65] at m65
      have e26 : s4.1 26 = s.1 26 := E4.1 26 (by unfold fEx; omega)
      have r259 : s4.2.1 259 = s3.2.1 259 := EF0_r p1 (q := 259) (by unfold rEx; omega)
      rw [e30] at q5
      refine ⟨⟨A0, x, y, RST_e h E4 hS, ⟨hxy.1, by rw [e26]; exact hxy.2, by omega⟩, fun i t g1 g6 => ?_, ea, ec, ⟨qa, qc⟩, ?_⟩, q4.2.2.1.1, q4.2.1, q4.2.2.2.1⟩
      · have hlt : kFn K (Ls.take i) < f := by
          have := (k_lt (K := K) (L := L) Ls i t g1).2.1
          rw [if_pos g6] at this
          omega
        obtain ⟨x', y', v1, v2⟩ := i9 z i t g1 g6 hlt
        refine ⟨x', y', v1, ?_⟩
        have e258 : s4.2.1 258 = u.2.1 258 := by
          rw [EF0_r p1 (q := 258) (by unfold rEx; omega), hs3, hs1]
          rfl
        rw [e258]
        obtain ⟨d1, d2, -⟩ := dcC_at Ls i t lo hi hD g1
        have hpf := (d2 g6).1
        have hd2 := (d2 g6).2
        have hfn := fn_fw hpf
        obtain ⟨tE, htE⟩ : ∃ tE, tE = (f_7 K L false (0, t)).2 := ⟨_, rfl⟩
        have ef7 : f_7 K L false (0, t) = (0, tE) := by rw [htE]; exact Prod.ext hfn.1 rfl
        obtain ⟨-, -, hpe, hlt', hend⟩ := hfn
        rw [ef7] at hpe hlt' hend
        have hnx : nxE K L tE = (p_e K L 10 false (0, tE)).2 := (pe_g 10 (by decide) false tE hpe).2.2
        have hend : (p_fn K L false (0, t)).2 = nxE K L tE + 1 := by rw [hnx]; exact hend
        rw [← htE] at v2 ⊢
        have c3 : CFq x' y' A0 (u.1 65).toInt u s3 := by
          rw [hs3, hs1]
          exact CFq_tr CFq_sf (CFq_tr CFq_sf (CFq_tr CFq_sf CFq_sf))
        have T3 := eT_e E3 _ _ _ _ _ q6'
        have v3 := eC_T 10 (eC_c 10 c3 (Int.le_refl _) v2)
        have hd := eT_dis (by decide) (by decide) v3 T3 hpe hmP (by omega)
        exact eC_c 10 (CFq_tr c3 (CFq_of p1 q1 q2 hd (eT_h v3).1.1 (by rw [k65]; exact Int.le_refl _))) m65 v2
      · rw [r259]
        exact q5
    · have z1 := z
      rw [i3] at z1
      have e := ffs_take z1
      rw [if_neg (by rw [e]; exact z1), e] at hF
      exact u_149x (by rw [i3, hF]) z
  by_cases w2 : (u.1 8).toInt = 0
  · obtain ⟨E, j70, j1, j2, j6⟩ := i4 w2
    have e30 : (u.1 30).toInt = b := by rw [E.1 30 (by unfold fEx; omega)]; exact w30
    have e252 : (u.2.1 252 (u.1 30).toInt.toNat).toInt = (kFn K Ls : Int) := by
      rw [e30, EF0_r E (q := 252) (by unfold rEx; omega)]
      exact hS.2.2.2.1
    unfold ub_230_129
    intro _
    rw [e252]
    refine ⟨fun w1 => fin (Or.inl (by omega)), fun w1 => ⟨fun z => absurd w2 z, fun _ _ x1 hx1 _ x2 hx2 => ?_⟩⟩
    have hfl : f < kFn K Ls := by omega
    obtain ⟨i, t, h1, h6, ef⟩ := fn_dc (K := K) hfl
    obtain ⟨d1, d2, -⟩ := dcC_at Ls i t lo hi hD h1
    have hpf := (d2 h6).1
    have hd2 := (d2 h6).2
    have hfn := fn_fw hpf
    obtain ⟨tE, htE⟩ : ∃ tE, tE = (f_7 K L false (0, t)).2 := ⟨_, rfl⟩
    have ef7 : f_7 K L false (0, t) = (0, tE) := by rw [htE]; exact Prod.ext hfn.1 rfl
    obtain ⟨-, -, hpe, hlt, hend⟩ := hfn
    rw [ef7] at hpe hlt hend
    have hnx : nxE K L tE = (p_e K L 10 false (0, tE)).2 := (pe_g 10 (by decide) false tE hpe).2.2
    have hlt : tE < nxE K L tE := by rw [hnx]; exact hlt
    have hend : (p_fn K L false (0, t)).2 = nxE K L tE + 1 := by rw [hnx]; exact hend
    have htt : t + 2 ≤ tE := by
      have := srtQ_le (srt_fn (h := 0) (show (f_7 K L false (0, t)).1 = 0 by rw [ef7]))
      rw [← htE] at this
      exact this
    have kt := j6 i t h1 h6 ef.symm
    have hFk : FL[f]? = some (fnF K L W ar kd TN Ls i t) := by
      rw [hFL, List.getElem?_map, ef, fnQi_at Ls i 0 t h1 h6]
      show some (fnF K L W ar kd TN Ls (0 + i) t) = _
      rw [Nat.zero_add]
    refine Par.imp (x_229 h hB (RST_e h E hS) h1 h6 (by rw [hx2, hx1, e30, i2, ef]) w2 (by omega) (by rw [← htE]; omega)) ?_
    rintro v4 s3 ⟨rfl, p1, p2, p3, p4⟩
    rw [← htE] at p4
    refine ⟨rfl, fun _ x5 hx5 => ⟨f + 1, by omega, by omega, ?_, fun z => ?_, fun z i' t' g1 g6 glt => ?_⟩⟩
    · rw [p2, ffs_tk hFk, ← i3, if_pos w2]
    · rw [p2] at z
      obtain ⟨q1, q2, q3, -, -⟩ := p4 z
      refine ⟨EF0_tr E p1, q3, by omega, by omega, fun i' t' g1 g6 ge => ?_⟩
      have hii : i < i' := by
        rcases Nat.lt_or_ge i i' with q | q
        · exact q
        · have := kFn_mo (K := K) Ls i' i q
          omega
      have := dcC_or (K := K) (L := L) Ls i i' t t' lo hi hD h1 g1 hii
      unfold dcNd at this
      rw [if_pos h6, hend] at this
      omega
    · rw [p2] at z
      obtain ⟨q1, q2, q3, q4, q5⟩ := p4 z
      have inj : kFn K (Ls.take i') = f → i' = i := fun ge => by
        rcases Nat.lt_trichotomy i i' with q | q | q
        · have := kFn_mo (K := K) Ls (i + 1) i' q
          rw [show kFn K (Ls.take (i + 1)) = kFn K (Ls.take i) + 1 from by
            rw [List.take_succ, h1]
            show kFn K (Ls.take i ++ [t]) = _
            rw [kFn_app, if_pos h6]] at this
          omega
        · exact q.symm
        · have := kFn_mo (K := K) Ls (i' + 1) i q
          rw [show kFn K (Ls.take (i' + 1)) = kFn K (Ls.take i') + 1 from by
            rw [List.take_succ, g1]
            show kFn K (Ls.take i' ++ [t']) = _
            rw [kFn_app, if_pos g6]] at this
          omega
      by_cases ge : kFn K (Ls.take i') = f
      · have ei := inj ge
        subst ei
        rw [h1] at g1
        have et : t = t' := Option.some.inj g1
        subst et
        rw [← htE]
        exact q5
      · obtain ⟨x', y', v1, v2⟩ := i9 w2 i' t' g1 g6 (by omega)
        have hii : i' < i := by
          rcases Nat.lt_or_ge i' i with q | q
          · exact q
          · have := kFn_mo (K := K) Ls i i' q
            omega
        have ho := dcC_or (K := K) (L := L) Ls i' i t' t lo hi hD g1 h1 hii
        unfold dcNd at ho
        rw [if_pos g6] at ho
        obtain ⟨d1', d2', -⟩ := dcC_at Ls i' t' lo hi hD g1
        have hfn' := fn_fw (d2' g6).1
        obtain ⟨tF, htF⟩ : ∃ tF, tF = (f_7 K L false (0, t')).2 := ⟨_, rfl⟩
        have ef7' : f_7 K L false (0, t') = (0, tF) := by rw [htF]; exact Prod.ext hfn'.1 rfl
        obtain ⟨-, -, hpe', hlt', hend'⟩ := hfn'
        rw [ef7'] at hpe' hlt' hend'
        have hnx' : nxE K L tF = (p_e K L 10 false (0, tF)).2 := (pe_g 10 (by decide) false tF hpe').2.2
        have hend' : (p_fn K L false (0, t')).2 = nxE K L tF + 1 := by rw [hnx']; exact hend'
        rw [← htF] at v2 ⊢
        refine ⟨x', y', v1, ?_⟩
        rw [EF0_r p1 (q := 258) (by unfold rEx; omega)]
        exact eC_c 10 (q4 x' y' tF _ (eC_T 10 v2) hpe' (Or.inl (by omega))) q1 v2
  · unfold ub_230_129
    exact fun _ => ⟨fun _ => fin (Or.inr w2), fun _ => ⟨fun _ => fin (Or.inr w2), fun z => absurd z w2⟩⟩
set_option maxHeartbeats 4000000 in
/-- the looks, one behind another -/
theorem u_91w (hxy : B ≤ x ∧ y ≤ (s.1 26).toInt) (hBb : B = 4002 * b) (hX : TXp K L n) (hb : 0 ≤ b) (hb1 : b ≤ 1) (hB : 0 ≤ B) (hm0 : 0 ≤ m) (hmn : m ≤ n) (hDc : dcC K L 0 m Ls) (hT24 : kTy K Ls ≤ 24 ∧ kFn K Ls ≤ 60) (har : (∀ c, 0 ≤ ar c ∧ ar c ≤ 7) ∧ ∀ c, 24 ≤ c → ar c = 0) (hAt : ∀ (i : Nat) (t : Int), Ls[i]? = some t → ¬ K t = 6 → ar (kTy K (Ls.take i) : Int) = ((tFo K L false (0, t)).length : Int)) (hw : RW0 K L Ls B b x y m s) (hR0 : RBh K L W ar (kdF K L Ls) n B b s (tnF K Ls)) (h8 : (s.1 8).toInt = 0) (h65 : (s.1 65).toInt = 10 + 4100 * b) (h264 : RWel s 0 [40000, 40008, 40016, 40024, 40032, 40040]) (hmP : (p_e K L 10 false (0, m + 1)).1 = 0) (hme : (p_e K L 10 false (0, m + 1)).2 ≤ n) (hF : F = ffs (lvF K L W ar Ls (m + 1))) : ubl_230_91 (Par d) 0 s (pFin F (RPw K L W ar (kdF K L Ls) (tnF K Ls) Ls n B b (m + 1))) := by
  have hn4 := hX.1
  have hTN : ∀ v ∈ tnF K Ls, wTk K n v := tNm_w hDc (Int.le_refl 0) hmn
  have hl : (tnF K Ls).length ≤ 24 := by unfold tnF; rw [List.length_map, tyL_len]; exact hT24.1
  have enx : nxE K L (m + 1) = (p_e K L 10 false (0, m + 1)).2 := (pe_g 10 (by decide) false (m + 1) hmP).2.2
  unfold lvF at hF
  obtain ⟨F2, hF2⟩ : ∃ F2, F2 = frst L (twA W K L Ls Ls.length) 0 := ⟨_, rfl⟩
  obtain ⟨F3, hF3⟩ : ∃ F3, F3 = ffs (alFs K L W ar (kdF K L Ls) (tnF K Ls) (hfS K L Ls) 0 Ls) := ⟨_, rfl⟩
  obtain ⟨F4, hF4⟩ : ∃ F4, F4 = ffs (dLs K L W ar (mvF K L W ar Ls) (tnF K Ls) Ls).flatten := ⟨_, rfl⟩
  obtain ⟨F5, hF5⟩ : ∃ F5, F5 = ffs (L5 (eg5 K L W (kdF K L Ls) (tnF K Ls) Ls) L (tnF K Ls)) := ⟨_, rfl⟩
  obtain ⟨F6, hF6⟩ : ∃ F6, F6 = ffs (eFs K L W ar (kdF K L Ls) (tnF K Ls) Ls (m + 1)) := ⟨_, rfl⟩
  rw [← hF2, ← hF3, ← hF4, ← hF5, ← hF6] at hF
  have n2 : ¬ F2 = 0 → F = F2 := fun q => by rw [hF, ffs_1 q]
  have n3 : F2 = 0 → ¬ F3 = 0 → F = F3 := fun q2 q => by rw [hF, ffs_2 q2, ffs_1 q]
  have n4 : F2 = 0 → F3 = 0 → ¬ F4 = 0 → F = F4 := fun q2 q3 q => by rw [hF, ffs_2 q2, ffs_2 q3, ffs_1 q]
  have n5 : F2 = 0 → F3 = 0 → F4 = 0 → ¬ F5 = 0 → F = F5 := fun q2 q3 q4 q => by rw [hF, ffs_2 q2, ffs_2 q3, ffs_2 q4, ffs_1 q]
  have n6 : F2 = 0 → F3 = 0 → F4 = 0 → F5 = 0 → F = F6 := fun q2 q3 q4 q5 => by
    rw [hF, ffs_2 q2, ffs_2 q3, ffs_2 q4, ffs_2 q5]
    show (if F6 = 0 then (0 : Int) else F6) = F6
    split
    · exact Eq.symm (by assumption)
    · rfl
  have hPR : F2 = 0 → F3 = 0 → PRm K L W ar (kdF K L Ls) n 0 m (tnF K Ls) Ls := fun q2 q3 => by
    refine ⟨⟨hX, hDc, Int.le_refl 0, hmn⟩, rfl, hT24, har, fun i t g1 g6 => ⟨hAt i t g1 g6, kdF_at g1 g6⟩, fun c hc => kdF_no hc, by rw [← hF3]; exact q3, ?_⟩
    intro v hv
    have d3 := twA_mn (W := W) hDc (Int.le_refl 0)
    have e := twA_f hX hDc (Int.le_refl 0) hmn d3
    rw [← hF2, q2] at e
    rcases d3 with ⟨-, q⟩ | ⟨q1, q2'⟩
    · exact q v hv
    · have z3 := SA_lt hDc (Int.le_refl 0) (by omega) q1
      have z4 := hX.2.2 _ z3.1 (by omega)
      rw [if_pos (by omega)] at e
      omega
  obtain ⟨I, hI⟩ : ∃ I : Int32 → yS → Prop, I = fun c1 w => (¬ (w.1 8).toInt = 0 ∧ (w.1 8).toInt = F) ∨ ((w.1 8).toInt = 0 ∧ ((c1 = 0 ∧ w = s) ∨ (c1 = 1 ∧ R8 s w ∧ F2 = 0) ∨ (c1 = 2 ∧ (F2 = 0 ∧ F3 = 0) ∧ RST K L W ar (kdF K L Ls) (tnF K Ls) Ls n B b (w.1 65).toInt x y w ∧ RW0 K L Ls B b x y m w ∧ (w.1 65).toInt ≤ 20000 ∧ w.1 26 = s.1 26) ∨ (c1 = 3 ∧ (F2 = 0 ∧ F3 = 0 ∧ F4 = 0) ∧ RST K L W ar (kdF K L Ls) (tnF K Ls) Ls n B b (w.1 65).toInt x y w ∧ ErA K L B w 259 b x y (m + 1) ∧ (w.1 30).toInt = b ∧ (w.1 70).toInt = 0 ∧ (w.1 65).toInt ≤ 20000 ∧ w.1 26 = s.1 26))) := ⟨_, rfl⟩
  have one : ∀ (x1 c : Int32), x1.toInt = c.toInt → x1 = c := fun x1 c e => Int32.toInt_inj.mp e
  unfold ubl_230_91
  refine ⟨I, by rw [hI]; exact Or.inr ⟨h8, Or.inl ⟨rfl, rfl⟩⟩, ?_⟩
  intro c1 w hIw
  rw [hI] at hIw
  rcases hIw with ⟨z1, z2⟩ | ⟨z, ⟨rfl, rfl⟩ | ⟨rfl, j1, j2⟩ | ⟨rfl, ⟨j1, j2⟩, j3, j4, j5, j26⟩ | ⟨rfl, ⟨j1, j2, j3⟩, j4, j5, j6, j7, j8, j26⟩⟩
  · exact u_91x z2 z1 (fun x1 => by rw [hI]; exact Or.inl ⟨z1, z2⟩)
  · unfold ub_230_91
    refine ⟨fun q => absurd q (by decide), fun _ => ?_⟩
    refine u_t0 hX hb hDc (Int.le_refl 0) hmn hT24.1 hw hR0.2.1 hR0.2.2.1 z (fun x1 u g1 g2 g3 => ?_)
    rw [hI]
    rw [← hF2] at g2
    by_cases q : (u.1 8).toInt = 0
    · exact Or.inr ⟨q, Or.inr (Or.inl ⟨one _ _ (by rw [g3]; decide), g1, by rw [← g2]; exact q⟩)⟩
    · exact Or.inl ⟨q, by rw [g2] at q ⊢; exact (n2 q).symm⟩
  · have hrow : ∀ p, ¬ p = 231 → ¬ p = 232 → ¬ p = 264 → ¬ p = 261 → w.2.1 p = s.2.1 p := fun p _ _ _ _ => by rw [j1.1]
    have hww := RW0_W hrow (j1.2 30 (by decide)) (j1.2 64 (by decide)) (j1.2 70 (by decide)) hw
    have hRw := RBh_W hrow (j1.2 75 (by decide)) hR0
    have w65 : (w.1 65).toInt = 10 + 4100 * b := by rw [j1.2 65 (by decide)]; exact h65
    have w264 : RWel w 0 [40000, 40008, 40016, 40024, 40032, 40040] := fun i c hc => by rw [j1.1]; exact h264 i c hc
    unfold ub_230_91
    refine ⟨fun q => absurd q (by decide), fun _ => ?_⟩
    refine u_t1 hX hb hB (Int.le_refl 0) hmn hDc hww hRw hTN hl ⟨har.2, har.1⟩ (by omega) hT24.1 z (fun x1 u g1 g2 g3 => ?_)
    rw [hI]
    have e3 := alFs_r (W := W) (ar := ar) (kd := kdF K L Ls) (TN := tnF K Ls) hDc (Int.le_refl 0) Ls.length (Nat.le_refl _)
    rw [List.take_length, ← hF3, ← g1] at e3
    by_cases q : (u.1 8).toInt = 0
    · obtain ⟨r1, r2, r3, r4⟩ := RST_1 hb hww hRw (by omega) w264 (g2 q) q
      exact Or.inr ⟨q, Or.inr (Or.inr (Or.inl ⟨one _ _ (by rw [g3]; decide), ⟨j2, by rw [e3]; exact q⟩, r1, r2, by omega, ((g2 q).2.1.1 26 (by decide) (by decide) (by decide) (by decide) (by decide)).trans (j1.2 26 (by decide))⟩))⟩
    · exact Or.inl ⟨q, by rw [← e3] at q ⊢; exact (n3 j2 q).symm⟩
  · unfold ub_230_91
    refine ⟨fun q => absurd q (by decide), fun _ => ?_⟩
    refine u_t2 (mv := mvF K L W ar Ls) (hPR j1 j2) j3 (by omega) j4 rfl z (fun x1 u g1 g2 g3 => ?_)
    rw [hI]
    rw [← hF4] at g2
    by_cases q : (u.1 8).toInt = 0
    · have E : EF0 (nsD K L Ls) B (w.1 65).toInt w u := EF0_wf g1.1 (by omega)
      have e65 : u.1 65 = w.1 65 := g1.1.1 65 (by decide) (by decide) (by decide) (by decide) (by decide) (by decide) (by decide)
      have e30 : u.1 30 = w.1 30 := g1.1.1 30 (by decide) (by decide) (by decide) (by decide) (by decide) (by decide) (by decide)
      refine Or.inr ⟨q, Or.inr (Or.inr (Or.inr ⟨one _ _ (by rw [g3]; decide), ⟨j1, j2, by rw [← g2]; exact q⟩, ?_, ErA_e E j4.2.2.2.1, by rw [e30]; exact j4.2.2.2.2.1, g1.2.2, by rw [e65]; exact j5, (g1.1.1 26 (by decide) (by decide) (by decide) (by decide) (by decide) (by decide) (by decide)).trans j26⟩))⟩
      rw [e65]
      exact RST_e (hPR j1 j2) E j3
    · exact Or.inl ⟨q, by rw [g2] at q ⊢; exact (n4 j1 j2 q).symm⟩
  · unfold ub_230_91
    refine ⟨fun _ => ⟨fun q => absurd z q, fun _ => ?_⟩, fun q => absurd (by decide) q⟩
    refine Par.imp (x_215 (hPR j1 j2) j4 j6 z) ?_
    rintro v2 s1 ⟨rfl, g1, g2⟩
    refine ⟨rfl, ?_⟩
    rw [← hF5] at g2
    by_cases q : (s1.1 8).toInt = 0
    · have E : EF0 (nsD K L Ls) B (w.1 65).toInt w s1 := ⟨fun k hk => g1.2.2 k (fun e => hk (by unfold fEx; omega)), g1.2.1, fun r hr => g1.1 r (fun e => hr (by unfold rEx; omega)), fun j _ => by rw [g1.1 226 (by decide)], fun j _ => by rw [g1.1 230 (by decide)], fun r j hr _ => by rw [g1.1 r (by omega)], fun j _ => by rw [g1.1 264 (by decide)]⟩
      have e65 : s1.1 65 = w.1 65 := g1.2.2 65 (by decide)
      have e70 : s1.1 70 = w.1 70 := g1.2.2 70 (by decide)
      have e30 : s1.1 30 = w.1 30 := g1.2.2 30 (by decide)
      exact u_127w (hPR j1 j2) ⟨hxy.1, by rw [g1.2.2 26 (by decide), j26]; exact hxy.2⟩ hB (RST_e (hPR j1 j2) E j4) (by rw [e30]; exact j6) (ErA_e E j5) q (by rw [e70]; omega) (by rw [e65]; exact Int.le_refl _) (by rw [e65]; omega) hmP (by omega) (by omega) (by rw [enx]; exact hme) (by rw [← hF6]; exact n6 j1 j2 j3 (by rw [← g2]; exact q))
    · exact u_127x (by rw [g2] at q ⊢; exact (n5 j1 j2 j3 q).symm) q
end ZYK
section ZYK2
variable {K L W ar kd : Int → Int} {n B b x y m F : Int} {TN Ls : List Int} {d P N : Nat} {s s' u : yS} {s0 z : zS}
set_option maxHeartbeats 8000000 in
theorem x_230w (hX : TXT s0 P N z) (hN : N ≤ 4000) (hA : Agr N (z.2 (P + 2)) (s.2.1 214)) (h2 : (s.1 2).toInt = (N : Int)) (h29 : (s.1 29).toInt = 0 ∨ (s.1 29).toInt = 1) (hG : GDk (KI (z.2 (P + 4))) (KI (z.2 (P + 6))) ar (ntk (z.2 (P + 2)) N)) : Par d 230 [.ref 213] s (fun v s' => pFin (pgF (KI (z.2 (P + 4))) (KI (z.2 (P + 6))) (KI (z.2 (P + 10))) ar) (fun u => RPw (KI (z.2 (P + 4))) (KI (z.2 (P + 6))) (KI (z.2 (P + 10))) ar (kdF (KI (z.2 (P + 4))) (KI (z.2 (P + 6))) (lsF (KI (z.2 (P + 4))) (KI (z.2 (P + 6))))) (tnF (KI (z.2 (P + 4))) (lsF (KI (z.2 (P + 4))) (KI (z.2 (P + 6))))) (lsF (KI (z.2 (P + 4))) (KI (z.2 (P + 6)))) (ntk (z.2 (P + 2)) N) (4002 * (1 - (s.1 29).toInt)) (1 - (s.1 29).toInt) ((p_al (KI (z.2 (P + 4))) (KI (z.2 (P + 6))) 4000 0 0 (0, 0)).2 + 1) u) v s') := by
  cases d with
  | zero => exact Par_0
  | succ d =>
    refine pb_230 ?_
    unfold ub_230_0
    intro s1 hs1 _ x2 hx2 s3 hs3 s4 hs4
    obtain ⟨b, hb⟩ : ∃ b, b = x2.toInt := ⟨_, rfl⟩
    have e29 : (s1.1 29).toInt = (s.1 29).toInt := by rw [hs1, sf_1, if_neg (by decide)]
    have hb01 : 0 ≤ b ∧ b ≤ 1 := by
      rw [hb, hx2, e29]
      omega
    have k9 : (s4.1 9).toInt = b := by rw [hs4, sf_1, if_pos rfl, hs3, sf_1, if_pos rfl, hb]
    have k30 : s4.1 30 = x2 := by rw [hs4, sf_1, if_neg (by decide), hs3, sf_1, if_pos rfl]
    have k2 : (s4.1 2).toInt = (N : Int) := by
      rw [hs4, sf_1, if_neg (by decide), hs3, sf_1, if_neg (by decide), hs1, sf_1, if_neg (by decide)]
      exact h2
    have r4 : s4.2 = s.2 := by rw [hs4, sf_2, hs3, sf_2, hs1, sf_2]
    refine Par.imp (x_161 k9 hb01.1) ?_
    rintro v6 s5 ⟨rfl, w5, f5⟩
    refine ⟨rfl, ?_⟩
    have r5 : s5.2.1 214 = s.2.1 214 := funext fun i => by rw [f5.2 214 i (by omega), r4]
    refine Par.imp (x_162 (sg := s.2.1 214) (B := 4002 * b) (n := N) r5 (by rw [f5.1]; exact k9) hb01.1 rfl (by rw [f5.1]; exact k2) hN w5) ?_
    rintro v8 s7 ⟨rfl, hC⟩
    refine ⟨rfl, ?_⟩
    obtain ⟨B, hB⟩ : ∃ B, B = 4002 * b := ⟨_, rfl⟩
    rw [← hB] at hC
    have hB0 : 0 ≤ B := by omega
    obtain ⟨hK7, hXp⟩ := RTk_of hX hN hC hB0 hA
    have hQ7 := WEQ_of hX hC hB0 hA
    obtain ⟨-, -, -, c7, c8, -, cF⟩ := hC
    obtain ⟨n, hnn⟩ : ∃ n : Int, n = (ntk (z.2 (P + 2)) N : Int) := ⟨_, rfl⟩
    obtain ⟨K, hK⟩ : ∃ K, K = KI (z.2 (P + 4)) := ⟨_, rfl⟩
    obtain ⟨L, hL⟩ : ∃ L, L = KI (z.2 (P + 6)) := ⟨_, rfl⟩
    obtain ⟨W, hW⟩ : ∃ W, W = KI (z.2 (P + 10)) := ⟨_, rfl⟩
    rw [← hK, ← hL, ← hnn] at hK7 hXp hG
    rw [← hK, ← hW, ← hnn] at hQ7
    rw [← hK, ← hL, ← hW, ← hnn]
    have eb : 1 - (s.1 29).toInt = b := by rw [hb, hx2, e29]
    rw [eb, ← hB]
    obtain ⟨Ψ, hΨ⟩ : ∃ Ψ : yS → Prop, Ψ = (fun u => RPw K L W ar (kdF K L (lsF K L)) (tnF K (lsF K L)) (lsF K L) n B b ((p_al K L 4000 0 0 (0, 0)).2 + 1) u) := ⟨_, rfl⟩
    rw [← hΨ]
    obtain ⟨F, hF⟩ : ∃ F, F = pgF K L W ar := ⟨_, rfl⟩
    rw [← hF]
    have f30 : s7.1 30 = x2 := by rw [cF.1 30 (by decide) (by decide) (by decide) (by decide), f5.1, k30]
    intro _ x9 hx9 s10 hs10 _ s11 hs11 _ s12 hs12 _ x13 hx13 s14 hs14 _ s15 hs15
    have t10 : (s10.1 30).toInt = b := by rw [hs10, sf_1, if_neg (by decide), f30]; exact hb.symm
    have t11 : (s11.1 30).toInt = b := by rw [hs11]; exact t10
    have t12 : (s12.1 30).toInt = b := by rw [hs12]; exact t11
    have t14 : (s14.1 30).toInt = b := by rw [hs14, sf_1, if_neg (by decide)]; exact t12
    have t15 : (s15.1 30).toInt = b := by rw [hs15]; exact t14
    have g15 : ∀ k, ¬ k = 26 → ¬ k = 42 → s15.1 k = s7.1 k := fun k q1 q2 => by
      rw [hs15]
      show s14.1 k = _
      rw [hs14, sf_1, if_neg q2, hs12]
      show s11.1 k = _
      rw [hs11]
      show s10.1 k = _
      rw [hs10, sf_1, if_neg q1]
    have r15 : ∀ p, ¬ p = 233 → ¬ p = 252 → ¬ p = 263 → s15.2.1 p = s7.2.1 p := fun p q1 q2 q3 => funext fun i => by
      rw [hs15, sa_21, if_neg (by omega), hs14, sf_2, hs12, sa_21, if_neg (by omega), hs11, sa_21, if_neg (by omega), hs10, sf_2]
    have e33 : (s15.2.1 233 b.toNat).toInt = 0 := by
      rw [hs15, sa_21, if_neg (by omega), hs14, sf_2, hs12, sa_21, if_neg (by omega), hs11, sa_21, if_pos ⟨rfl, by rw [t10]⟩]
      decide
    have e52 : (s15.2.1 252 b.toNat).toInt = 0 := by
      rw [hs15, sa_21, if_neg (by omega), hs14, sf_2, hs12, sa_21, if_pos ⟨rfl, by rw [t11]⟩]
      decide
    have e63 : (s15.2.1 263 b.toNat).toInt = 0 := by
      rw [hs15, sa_21, if_pos ⟨rfl, by rw [t14]⟩]
      decide
    have e42 : (s15.1 42).toInt = 204 * b := by
      rw [hs15]
      show (s14.1 42).toInt = _
      rw [hs14, sf_1, if_pos rfl, hx13, t12]
    have hK15 : RTk K L B n s15 := RTk_eq (r15 215 (by decide) (by decide) (by decide)) (r15 216 (by decide) (by decide) (by decide)) (r15 217 (by decide) (by decide) (by decide)) hK7
    have hn0 := hXp.1
    have hq15 : RQr B n (0, 0) s15 := ⟨by rw [g15 8 (by decide) (by decide)]; exact c8, fun _ => ⟨by rw [g15 7 (by decide) (by decide), c7]; exact (Int.add_zero B).symm, Int.le_refl _, hn0.1⟩⟩
    refine Par.imp (x_179 hXp hK15 hq15 t15 hb01.1 e33 e52 e63 e42 (by omega)) ?_
    rintro v17 s16 ⟨rfl, q1, q2, q3, q4⟩
    refine ⟨rfl, ?_⟩
    intro s18 hs18 _ x19 hx19 _ x20 hx20 s21 hs21 _ x22 _ s23 hs23
    obtain ⟨x, hx⟩ : ∃ x, x = (s15.1 26).toInt := ⟨_, rfl⟩
    obtain ⟨y, hy⟩ : ∃ y, y = (s16.1 26).toInt := ⟨_, rfl⟩
    rw [← hx, ← hy] at q4
    have t16 : (s16.1 30).toInt = b := by rw [q3.1 30 (by decide) (by decide) (by decide) (by decide) (by decide) (by decide)]; exact t15
    have r217 : s16.2.1 217 = s7.2.1 217 := funext fun i => by
      rw [q3.2.2.1 217 i (by decide) (Or.inl (by unfold nRe nRw; omega)) (by unfold WAl; omega), r15 217 (by decide) (by decide) (by decide)]
    have r23 : s23.2 = s16.2 := by rw [hs23, sf_2, hs21, sf_2, hs18, sf_2]
    have g23 : ∀ k, ¬ k = 65 → ¬ k = 75 → ¬ k = 85 → s23.1 k = s16.1 k := fun k z1 z2 z3 => by rw [hs23, sf_1, if_neg z3, hs21, sf_1, if_neg z1, hs18, sf_1, if_neg z2]
    have k75 : (s23.1 75).toInt = b := by
      rw [hs23, sf_1, if_neg (by decide), hs21, sf_1, if_neg (by decide), hs18, sf_1, if_pos rfl]
      exact t16
    have t18 : (s18.1 30).toInt = b := by rw [hs18, sf_1, if_neg (by decide)]; exact t16
    have k65 : (s23.1 65).toInt = 10 + 4100 * b := by rw [hs23, sf_1, if_neg (by decide), hs21, sf_1, if_pos rfl, hx20, hx19, t18]
    unfold ubl_230_69
    refine ⟨fun c1 u => ∃ k : Nat, k ≤ 6 ∧ c1.toInt = (k : Int) ∧ u.1 = s23.1 ∧ (∀ p, ¬ p = 264 → u.2.1 p = s23.2.1 p) ∧ ∀ j : Nat, j < k → (u.2.1 264 j).toInt = 40000 + 8 * (j : Int), ⟨0, by decide, by decide, rfl, fun _ _ => rfl, fun j hj => by omega⟩, ?_⟩
    rintro c1 u ⟨k, i1, i2, i3, i5, i6⟩
    unfold ub_230_69
    refine ⟨fun w s1' hs1' s2' hs2' => ?_, fun w _ x3 hx3 _ x4 hx4 _ s5' hs5' _ x6 hx6 => ⟨k + 1, by omega, by omega, ?_, fun p hp => funext fun j => ?_, fun j hj => ?_⟩⟩
    · have k6 : k = 6 := by omega
      subst k6
      have gc : ∀ k, ¬ k = 64 → ¬ k = 70 → s2'.1 k = s23.1 k := fun k z1 z2 => by rw [hs2', sf_1, if_neg z2, hs1', sf_1, if_neg z1, i3]
      have rc2 : s2'.2 = u.2 := by rw [hs2', sf_2, hs1', sf_2]
      have rw2 : ∀ p, ¬ p = 231 → ¬ p = 232 → ¬ p = 264 → ¬ p = 261 → s2'.2.1 p = s16.2.1 p := fun p _ _ z _ => by rw [rc2, i5 p z, r23]
      have c8' : (s2'.1 8).toInt = (p_pg K L (0, 0)).1 := by
        rw [gc 8 (by decide) (by decide), g23 8 (by decide) (by decide) (by decide)]
        exact q2
      by_cases hf : (p_pg K L (0, 0)).1 = 0
      rotate_left
      · have eF : F = (p_pg K L (0, 0)).1 := by
          rw [hF]
          unfold pgF
          rw [ffs_1 hf]
        unfold ubl_230_91
        refine ⟨fun _ u => u = s2', rfl, ?_⟩
        intro c1 w hw
        subst hw
        exact u_91x (by rw [c8', eF]) (by rw [c8']; exact hf) (fun _ => rfl)
      · obtain ⟨o1, o2, o3, o4, o5, o6⟩ := hG hf
        obtain ⟨m, hm⟩ : ∃ m, m = (p_al K L 4000 0 0 (0, 0)).2 := ⟨_, rfl⟩
        obtain ⟨Ls, hLs⟩ : ∃ Ls, Ls = l_al K L 4000 0 0 (0, 0) := ⟨_, rfl⟩
        obtain ⟨y1, y2, y3, y4, -, y6, y7, y8⟩ := q4 hf
        have eF : F = ffs (lvF K L W ar Ls (m + 1)) := by
          rw [hF]
          unfold pgF
          rw [ffs_2 hf, hLs, hm]
        rw [← hLs] at o2 o3 y1 y2 y3 y4 y6 y7
        rw [← hm] at o5 o6 y8
        have hDc : dcC K L 0 m Ls := by
          rw [hm, hLs]
          exact dcC_al 4000 0 0 0 o4
        have hlt : m + 1 < (p_e K L 10 false (0, m + 1)).2 := (pe_fw (K := K) (L := L) 10 false (0, m + 1) o5).2
        have hm0 : 0 ≤ m := by
          have key : ∀ (l : List Int) (a c : Int), dcC K L a c l → a ≤ c := fun l => by
            induction l with
            | nil => exact fun a c q => q
            | cons v l ih =>
              intro a c q
              have e1 := dcC_at (v :: l) 0 v a c q rfl
              by_cases c6 : K v = 6
              · have e2 := (e1.2.1 c6)
                have e4 := fn_fw e2.1
                have e5 := srtQ_le (srt_fn (h := 0) e4.1)
                have e6 := e4.2.2.2.2
                have e7 := e4.2.2.2.1
                omega
              · have e2 := (e1.2.2 c6)
                have e3 := e1.1
                have e5 := srtQ_le (srt_ty (h := 0) e2.1)
                omega
          exact key Ls 0 m hDc
        have hw16 : ALr K L B s16 b (204 * b) x y Ls := y1
        have hw : RW0 K L Ls B b x y m s2' := by
          refine ⟨ALr_W rw2 hw16, ?_, ?_, ErA_W rw2 y8, ?_, ?_, ?_⟩
          · rw [rw2 263 (by decide) (by decide) (by decide) (by decide)]
            exact y4
          · rw [rw2 252 (by decide) (by decide) (by decide) (by decide)]
            exact y3
          · rw [gc 30 (by decide) (by decide), g23 30 (by decide) (by decide) (by decide)]
            exact t16
          · rw [hs2', sf_1, if_neg (by decide), hs1', sf_1, if_pos rfl]
            decide
          · rw [hs2', sf_1, if_pos rfl]
            decide
        have hQ2 : WEQ K W B n s2' := by
          unfold WEQ at hQ7 ⊢
          rw [rw2 217 (by decide) (by decide) (by decide) (by decide), r217]
          exact hQ7
        have hK2 : RTk K L B n s2' := RTk_eq (rw2 215 (by decide) (by decide) (by decide) (by decide)) (rw2 216 (by decide) (by decide) (by decide) (by decide)) (rw2 217 (by decide) (by decide) (by decide) (by decide)) q1
        have hR0 : RBh K L W ar (kdF K L Ls) n B b s2' (tnF K Ls) := RBh_of (by rw [gc 75 (by decide) (by decide)]; exact k75) hQ2 hK2 hw.1 (by rw [rw2 233 (by decide) (by decide) (by decide) (by decide)]; exact y2) o2
        have eL : lsF K L = Ls := hLs.symm
        rw [eL, ← hm] at hΨ
        rw [hΨ]
        refine u_91w ⟨?_, ?_⟩ hB hXp hb01.1 hb01.2 hB0 hm0 (by omega) hDc o3 o1 o2 hw hR0 (by rw [c8']; exact hf) (by rw [gc 65 (by decide) (by decide)]; exact k65) ?_ o5 o6 eF
        · have e26 : (s15.1 26).toInt = x9.toInt := by
            rw [hs15]
            show (s14.1 26).toInt = _
            rw [hs14, sf_1, if_neg (by decide), hs12]
            show (s11.1 26).toInt = _
            rw [hs11]
            show (s10.1 26).toInt = _
            rw [hs10, sf_1, if_pos rfl]
          rw [hx, e26, hx9, f30, hB, hb]
          exact Int.le_refl _
        · rw [gc 26 (by decide) (by decide), g23 26 (by decide) (by decide) (by decide), hy]
          exact Int.le_refl _
        intro i c hc
        have hi : i < 6 := by
          have := (List.getElem?_eq_some_iff.mp hc).1
          simpa using this
        rw [Int.zero_add, KI_n, rc2, i6 i hi]
        rcases (by omega : i = 0 ∨ i = 1 ∨ i = 2 ∨ i = 3 ∨ i = 4 ∨ i = 5) with rfl | rfl | rfl | rfl | rfl | rfl
        · cases hc; rfl
        · cases hc; rfl
        · cases hc; rfl
        · cases hc; rfl
        · cases hc; rfl
        · cases hc; rfl
    · rw [hs5']
      exact i3
    · rw [hs5', sa_21, if_neg (by omega), i5 p hp]
    · rw [hs5', sa_21]
      by_cases e : j = k
      · rw [if_pos ⟨rfl, by omega⟩]
        omega
      · rw [if_neg (by omega)]
        exact i6 j (by omega)
end ZYK2
