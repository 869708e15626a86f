/-! ===== the reference: program ===== -/
section ZZX
variable {K L W ar kd : Int → Int} {n lo hi B b A A0 x y m mB F : Int} {TN Ls : List Int} {d i k : Nat} {t : Int} {a1 a2 : Int32} {s s' u : yS}
theorem x_232 : Par d 232 [.ref 213] s (fun v s' => v = none ∧ s'.2 = s.2 ∧ ∀ k, k < 90 → s'.1 k = s.1 k) := by
  cases d with
  | zero => exact Par_0
  | succ d =>
    refine pb_232 ?_
    unfold ub_232_0
    rintro s1 rfl s2 rfl s3 rfl s4 rfl s5 rfl s6 rfl s7 rfl
    refine ⟨rfl, rfl, fun k hk => ?_⟩
    rw [sf_1, if_neg (by omega), sf_1, if_neg (by omega), sf_1, if_neg (by omega), sf_1, if_neg (by omega), sf_1, if_neg (by omega), sf_1, if_neg (by omega), sf_1, if_neg (by omega)]
theorem u_172 (h : (s.1 8).toInt = F) (hR : F = 0 → RPg K L W ar kd TN Ls n B b mB s) : ubl_230_172 (Par d) a1 s (pFin F (RPs K L W ar kd TN Ls n B b mB)) := by
  unfold ubl_230_172
  refine ⟨fun _ u => u.1 = s.1 ∧ ∀ q, ¬ q = 273 → ¬ q = 274 → u.2.1 q = s.2.1 q, ⟨rfl, fun _ _ _ => rfl⟩, ?_⟩
  rintro c1 u ⟨i1, i2⟩
  unfold ub_230_172
  refine ⟨fun _ _ s1 hs1 s2 hs2 => ?_, fun _ _ x5 _ _ x6 _ _ x7 _ _ _ s8 hs8 _ x9 _ => ?_⟩
  · refine Par.imp x_232 ?_
    rintro v4 s3 ⟨rfl, e2, e3⟩
    have k2 : ∀ k, ¬ k = 29 → s2.1 k = s.1 k := fun k hk => by rw [hs2, sf_1, if_neg hk, hs1]; exact congrFun i1 k
    have f3 : ∀ k, k < 90 → ¬ k = 29 → s3.1 k = s.1 k := fun k h1 h2 => (e3 k h1).trans (k2 k h2)
    refine ⟨rfl, ?_⟩
    unfold ub_230_207
    intro s4 hs4
    have f4 : ∀ k, k < 90 → ¬ k = 29 → ¬ k = 75 → s4.1 k = s.1 k := fun k h1 h2 h3 => by rw [hs4, sf_1, if_neg h3]; exact f3 k h1 h2
    refine ⟨_, rfl, by rw [f4 8 (by decide) (by decide) (by decide)]; exact h, fun q => ⟨s, hR q, fun q q1 q2 => ?_, f4 65 (by decide) (by decide) (by decide), f4 26 (by decide) (by decide) (by decide)⟩⟩
    rw [hs4, sf_2, e2, hs2, sf_2, hs1, ← i2 q q1 q2]
    funext j
    rw [sa_21, if_neg (fun w => q2 w.1)]
  · rw [hs8]
    refine ⟨i1, fun q q1 q2 => ?_⟩
    rw [← i2 q q1 q2]
    funext j
    rw [sa_21, if_neg (fun w => q1 w.1)]
set_option maxHeartbeats 4000000 in
/-- E of funcs, and main's -/
theorem u_127 (h : PRm K L W ar kd n lo hi TN Ls) (hxy : B ≤ x ∧ y ≤ (s.1 26).toInt) (hB : 0 ≤ B) (hS : RST K L W ar kd TN Ls n B b A0 x y s) (w30 : (s.1 30).toInt = b) (hEr : ErA K L B s 259 b x y mB) (h8 : (s.1 8).toInt = 0) (h70 : 0 ≤ (s.1 70).toInt) (hA0 : A0 ≤ (s.1 65).toInt) (h65 : (s.1 65).toInt ≤ 60000) (hmP : (p_e K L 10 false (0, mB)).1 = 0) (hm0 : 0 ≤ mB) (hmh : hi ≤ mB) (hmn : nxE K L mB ≤ n) (hF : F = ffs (eFs K L W ar kd TN Ls mB)) : ub_230_127 (Par d) a1 s (pFin F (RPs K L W ar kd TN Ls n B b mB)) := by
  have hb : 0 ≤ b := hS.2.2.2.2.2.2
  have hnn := h.1.1.1
  obtain ⟨⟨hX, hD, hlo, hhi⟩, -⟩ := id h
  obtain ⟨FL, hFL⟩ : ∃ FL, FL = (fnQi K 0 Ls).map (fun p => fnF K L W ar kd TN Ls p.1 p.2) := ⟨_, rfl⟩
  have hFl : FL.length = kFn K Ls := by rw [hFL, List.length_map, fnQi_len]
  have eFF : eFs K L W ar kd TN Ls mB = FL ++ [(exE6 K L W ar kd TN Ls mnS 10 mB).1] := by rw [hFL]; rfl
  rw [eFF, ffs_s] at hF
  unfold ub_230_127 ubl_230_129
  refine ⟨fun c1 u => ∃ f : Nat, f ≤ kFn K Ls ∧ c1.toInt = (f : Int) ∧ (u.1 8).toInt = ffs (FL.take f) ∧ ((u.1 8).toInt = 0 → EF0 (nsD K L Ls) B A0 s u ∧ 0 ≤ (u.1 70).toInt ∧ (s.1 65).toInt ≤ (u.1 65).toInt ∧ (u.1 65).toInt ≤ (s.1 65).toInt + n ∧ ∀ (i : Nat) (t : Int), Ls[i]? = some t → K t = 6 → kFn K (Ls.take i) = f → (u.1 65).toInt ≤ (s.1 65).toInt + t) ∧ ((u.1 8).toInt = 0 → ∀ (i : Nat) (t : Int), Ls[i]? = some t → K t = 6 → kFn K (Ls.take i) < f → ∃ x' y' : Int, (x ≤ x' ∧ y' ≤ y) ∧ eC K L W ar kd TN Ls B (4000 + 6 * (kFn K (Ls.take i) : Int)) (2000 + 6 * (kHd K L (Ls.take i) : Int)) (fnS K L W ar TN Ls i t) A0 (u.1 65).toInt u 10 x' y' (f_7 K L false (0, t)).2 (u.2.1 258 (60 * b + (kFn K (Ls.take i) : Int)).toNat).toInt), ⟨0, Nat.zero_le _, by decide, by rw [List.take_zero]; exact h8, fun _ => ⟨EF0_rf, h70, Int.le_refl _, by omega, fun i t g1 _ _ => ?_⟩, fun _ i t _ _ q => absurd q (Nat.not_lt_zero _)⟩, ?_⟩
  · have := (dcC_at Ls i t lo hi hD g1).1
    omega
  rintro c1 u ⟨f, i1, i2, i3, i4, i9⟩
  have fin : (f = kFn K Ls ∨ ¬ (u.1 8).toInt = 0) → ub_230_149 (Par d) c1 u (pFin F (RPs K L W ar kd TN Ls n B b mB)) := by
    intro hc
    by_cases z : (u.1 8).toInt = 0
    · have hf : f = kFn K Ls := by
        rcases hc with q | q
        · exact q
        · exact absurd z q
      rw [hf, ← hFl, List.take_length] at i3
      rw [if_pos (by rw [← i3]; exact z)] at hF
      obtain ⟨E, j70, j1, j2, -⟩ := i4 z
      unfold ub_230_149
      refine ⟨fun q => absurd z q, fun _ => ?_⟩
      refine Par.imp x_206 ?_
      rintro v2 s1 ⟨rfl, hs1⟩
      refine ⟨rfl, fun s3 hs3 _ => ?_⟩
      have E3 : EF0 (nsD K L Ls) B A0 s s3 := by
        rw [hs3, hs1]
        exact EF0_tr E (EF0_tr (EF0_sf (by unfold fEx; omega)) (EF0_tr (EF0_sf (by unfold fEx; omega)) (EF0_tr (EF0_sf (by unfold fEx; omega)) (EF0_sf (by unfold fEx; omega)))))
      have e30 : (s3.1 30).toInt = b := by rw [E3.1 30 (by unfold fEx; omega)]; exact w30
      have k3 : ∀ k, ¬ k = 64 → ¬ k = 76 → ¬ k = 77 → ¬ k = 78 → s3.1 k = u.1 k := fun k q1 q3 q4 q5 => by
        rw [hs3, sfr_1, if_neg q1, hs1, sfr_1, if_neg q5, sfr_1, if_neg q4, sfr_1, if_neg q3]
      have k64 : (s3.1 64).toInt = 100000 := by
        rw [hs3, sfr_1, if_pos rfl]
        decide
      have k76 : (s3.1 76).toInt = -1 := by
        rw [hs3, sfr_1, if_neg (by decide), hs1, sfr_1, if_neg (by decide), sfr_1, if_neg (by decide), sfr_1, if_pos rfl]
        decide
      have k77 : (s3.1 77).toInt = -1 := by
        rw [hs3, sfr_1, if_neg (by decide), hs1, sfr_1, if_neg (by decide), sfr_1, if_pos rfl]
        decide
      have k78 : (s3.1 78).toInt = -1 := by
        rw [hs3, sfr_1, if_neg (by decide), hs1, sfr_1, if_pos rfl]
        decide
      have k8 := k3 8 (by decide) (by decide) (by decide) (by decide)
      have k65 := k3 65 (by decide) (by decide) (by decide) (by decide)
      have k70 := k3 70 (by decide) (by decide) (by decide) (by decide)
      obtain ⟨ea, ec, ee, qa, qc, -, -, q5', q6'⟩ := hEr
      have q5 : (s3.2.1 259 b.toNat).toInt = ee := by rw [EF0_r E3 (q := 259) (by unfold rEx; omega)]; exact q5'
      have q6 := eT_e E3 _ _ _ _ _ q6'
      have hT3 : eT K L B s3 10 ea ec mB (s3.2.1 259 (s3.1 30).toInt.toNat).toInt := by
        rw [e30, q5]
        exact q6
      refine Par.imp (m_217 (z := ea) (z' := ec) h hB (RST_e h E3 hS) (by rw [k8]; exact z) k64 (by rw [k70]; exact j70) k76 k77 k78 (by rw [k65]; omega) hT3 hmP hm0 hmh hmn (by rw [k65]; omega)) ?_
      rintro v5 s4 ⟨rfl, p1, p2, -, p3⟩
      refine ⟨rfl, ?_⟩
      have e4 : (s4.1 8).toInt = F := by rw [p2, hF]
      unfold ub_230_167
      refine ⟨fun q => u_207 e4 (fun w => q (e4.trans w)), fun _ => u_172 e4 (fun q => ?_)⟩
      obtain ⟨q1, q2, q3, -, q5⟩ := p3 (by rw [← p2, e4]; exact q)
      have E4 := EF0_tr E3 p1
      have h65u : A0 ≤ (u.1 65).toInt := by omega
      have m65 := q1.2.1.1
      rw [k65] at m65
      have e26 : s4.1 26 = s.1 26 := E4.1 26 (by unfold fEx; omega)
      have r259 : s4.2.1 259 = s3.2.1 259 := EF0_r p1 (q := 259) (by unfold rEx; omega)
      rw [e30] at q5
      refine ⟨A0, x, y, RST_e h E4 hS, ⟨hxy.1, by rw [e26]; exact hxy.2, by omega⟩, fun i t g1 g6 => ?_, ea, ec, ⟨qa, qc⟩, ?_⟩
      · have hlt : kFn K (Ls.take i) < f := by
          have := (k_lt (K := K) (L := L) Ls i t g1).2.1
          rw [if_pos g6] at this
          omega
        obtain ⟨x', y', v1, v2⟩ := i9 z i t g1 g6 hlt
        refine ⟨x', y', v1, ?_⟩
        have e258 : s4.2.1 258 = u.2.1 258 := by
          rw [EF0_r p1 (q := 258) (by unfold rEx; omega), hs3, hs1]
          rfl
        rw [e258]
        obtain ⟨d1, d2, -⟩ := dcC_at Ls i t lo hi hD g1
        have hpf := (d2 g6).1
        have hd2 := (d2 g6).2
        have hfn := fn_fw hpf
        obtain ⟨tE, htE⟩ : ∃ tE, tE = (f_7 K L false (0, t)).2 := ⟨_, rfl⟩
        have ef7 : f_7 K L false (0, t) = (0, tE) := by rw [htE]; exact Prod.ext hfn.1 rfl
        obtain ⟨-, -, hpe, hlt', hend⟩ := hfn
        rw [ef7] at hpe hlt' hend
        have hnx : nxE K L tE = (p_e K L 10 false (0, tE)).2 := (pe_g 10 (by decide) false tE hpe).2.2
        have hend : (p_fn K L false (0, t)).2 = nxE K L tE + 1 := by rw [hnx]; exact hend
        rw [← htE] at v2 ⊢
        have c3 : CFq x' y' A0 (u.1 65).toInt u s3 := by
          rw [hs3, hs1]
          exact CFq_tr CFq_sf (CFq_tr CFq_sf (CFq_tr CFq_sf CFq_sf))
        have T3 := eT_e E3 _ _ _ _ _ q6'
        have v3 := eC_T 10 (eC_c 10 c3 (Int.le_refl _) v2)
        have hd := eT_dis (by decide) (by decide) v3 T3 hpe hmP (by omega)
        exact eC_c 10 (CFq_tr c3 (CFq_of p1 q1 q2 hd (eT_h v3).1.1 (by rw [k65]; exact Int.le_refl _))) m65 v2
      · rw [r259]
        exact q5
    · have z1 := z
      rw [i3] at z1
      have e := ffs_take z1
      rw [if_neg (by rw [e]; exact z1), e] at hF
      exact u_149x (by rw [i3, hF]) z
  by_cases w2 : (u.1 8).toInt = 0
  · obtain ⟨E, j70, j1, j2, j6⟩ := i4 w2
    have e30 : (u.1 30).toInt = b := by rw [E.1 30 (by unfold fEx; omega)]; exact w30
    have e252 : (u.2.1 252 (u.1 30).toInt.toNat).toInt = (kFn K Ls : Int) := by
      rw [e30, EF0_r E (q := 252) (by unfold rEx; omega)]
      exact hS.2.2.2.1
    unfold ub_230_129
    intro _
    rw [e252]
    refine ⟨fun w1 => fin (Or.inl (by omega)), fun w1 => ⟨fun z => absurd w2 z, fun _ _ x1 hx1 _ x2 hx2 => ?_⟩⟩
    have hfl : f < kFn K Ls := by omega
    obtain ⟨i, t, h1, h6, ef⟩ := fn_dc (K := K) hfl
    obtain ⟨d1, d2, -⟩ := dcC_at Ls i t lo hi hD h1
    have hpf := (d2 h6).1
    have hd2 := (d2 h6).2
    have hfn := fn_fw hpf
    obtain ⟨tE, htE⟩ : ∃ tE, tE = (f_7 K L false (0, t)).2 := ⟨_, rfl⟩
    have ef7 : f_7 K L false (0, t) = (0, tE) := by rw [htE]; exact Prod.ext hfn.1 rfl
    obtain ⟨-, -, hpe, hlt, hend⟩ := hfn
    rw [ef7] at hpe hlt hend
    have hnx : nxE K L tE = (p_e K L 10 false (0, tE)).2 := (pe_g 10 (by decide) false tE hpe).2.2
    have hlt : tE < nxE K L tE := by rw [hnx]; exact hlt
    have hend : (p_fn K L false (0, t)).2 = nxE K L tE + 1 := by rw [hnx]; exact hend
    have htt : t + 2 ≤ tE := by
      have := srtQ_le (srt_fn (h := 0) (show (f_7 K L false (0, t)).1 = 0 by rw [ef7]))
      rw [← htE] at this
      exact this
    have kt := j6 i t h1 h6 ef.symm
    have hFk : FL[f]? = some (fnF K L W ar kd TN Ls i t) := by
      rw [hFL, List.getElem?_map, ef, fnQi_at Ls i 0 t h1 h6]
      show some (fnF K L W ar kd TN Ls (0 + i) t) = _
      rw [Nat.zero_add]
    refine Par.imp (x_229 h hB (RST_e h E hS) h1 h6 (by rw [hx2, hx1, e30, i2, ef]) w2 (by omega) (by rw [← htE]; omega)) ?_
    rintro v4 s3 ⟨rfl, p1, p2, p3, p4⟩
    rw [← htE] at p4
    refine ⟨rfl, fun _ x5 hx5 => ⟨f + 1, by omega, by omega, ?_, fun z => ?_, fun z i' t' g1 g6 glt => ?_⟩⟩
    · rw [p2, ffs_tk hFk, ← i3, if_pos w2]
    · rw [p2] at z
      obtain ⟨q1, q2, q3, -, -⟩ := p4 z
      refine ⟨EF0_tr E p1, q3, by omega, by omega, fun i' t' g1 g6 ge => ?_⟩
      have hii : i < i' := by
        rcases Nat.lt_or_ge i i' with q | q
        · exact q
        · have := kFn_mo (K := K) Ls i' i q
          omega
      have := dcC_or (K := K) (L := L) Ls i i' t t' lo hi hD h1 g1 hii
      unfold dcNd at this
      rw [if_pos h6, hend] at this
      omega
    · rw [p2] at z
      obtain ⟨q1, q2, q3, q4, q5⟩ := p4 z
      have inj : kFn K (Ls.take i') = f → i' = i := fun ge => by
        rcases Nat.lt_trichotomy i i' with q | q | q
        · have := kFn_mo (K := K) Ls (i + 1) i' q
          rw [show kFn K (Ls.take (i + 1)) = kFn K (Ls.take i) + 1 from by
            rw [List.take_succ, h1]
            show kFn K (Ls.take i ++ [t]) = _
            rw [kFn_app, if_pos h6]] at this
          omega
        · exact q.symm
        · have := kFn_mo (K := K) Ls (i' + 1) i q
          rw [show kFn K (Ls.take (i' + 1)) = kFn K (Ls.take i') + 1 from by
            rw [List.take_succ, g1]
            show kFn K (Ls.take i' ++ [t']) = _
            rw [kFn_app, if_pos g6]] at this
          omega
      by_cases ge : kFn K (Ls.take i') = f
      · have ei := inj ge
        subst ei
        rw [h1] at g1
        have et : t = t' := Option.some.inj g1
        subst et
        rw [← htE]
        exact q5
      · obtain ⟨x', y', v1, v2⟩ := i9 w2 i' t' g1 g6 (by omega)
        have hii : i' < i := by
          rcases Nat.lt_or_ge i' i with q | q
          · exact q
          · have := kFn_mo (K := K) Ls i i' q
            omega
        have ho := dcC_or (K := K) (L := L) Ls i' i t' t lo hi hD g1 h1 hii
        unfold dcNd at ho
        rw [if_pos g6] at ho
        obtain ⟨d1', d2', -⟩ := dcC_at Ls i' t' lo hi hD g1
        have hfn' := fn_fw (d2' g6).1
        obtain ⟨tF, htF⟩ : ∃ tF, tF = (f_7 K L false (0, t')).2 := ⟨_, rfl⟩
        have ef7' : f_7 K L false (0, t') = (0, tF) := by rw [htF]; exact Prod.ext hfn'.1 rfl
        obtain ⟨-, -, hpe', hlt', hend'⟩ := hfn'
        rw [ef7'] at hpe' hlt' hend'
        have hnx' : nxE K L tF = (p_e K L 10 false (0, tF)).2 := (pe_g 10 (by decide) false tF hpe').2.2
        have hend' : (p_fn K L false (0, t')).2 = nxE K L tF + 1 := by rw [hnx']; exact hend'
        rw [← htF] at v2 ⊢
        refine ⟨x', y', v1, ?_⟩
        rw [EF0_r p1 (q := 258) (by unfold rEx; omega)]
        exact eC_c 10 (q4 x' y' tF _ (eC_T 10 v2) hpe' (Or.inl (by omega))) q1 v2
  · unfold ub_230_129
    exact fun _ => ⟨fun _ => fin (Or.inr w2), fun _ => ⟨fun _ => fin (Or.inr w2), fun z => absurd z w2⟩⟩
set_option maxHeartbeats 4000000 in
/-- the looks, one behind another -/
theorem u_91 (hxy : B ≤ x ∧ y ≤ (s.1 26).toInt) (hBb : B = 4002 * b) (hX : TXp K L n) (hb : 0 ≤ b) (hb1 : b ≤ 1) (hB : 0 ≤ B) (hm0 : 0 ≤ m) (hmn : m ≤ n) (hDc : dcC K L 0 m Ls) (hT24 : kTy K Ls ≤ 24 ∧ kFn K Ls ≤ 60) (har : (∀ c, 0 ≤ ar c ∧ ar c ≤ 7) ∧ ∀ c, 24 ≤ c → ar c = 0) (hAt : ∀ (i : Nat) (t : Int), Ls[i]? = some t → ¬ K t = 6 → ar (kTy K (Ls.take i) : Int) = ((tFo K L false (0, t)).length : Int)) (hw : RW0 K L Ls B b x y m s) (hR0 : RBh K L W ar (kdF K L Ls) n B b s (tnF K Ls)) (h8 : (s.1 8).toInt = 0) (h65 : (s.1 65).toInt = 10 + 4100 * b) (h264 : RWel s 0 [40000, 40008, 40016, 40024, 40032, 40040]) (hmP : (p_e K L 10 false (0, m + 1)).1 = 0) (hme : (p_e K L 10 false (0, m + 1)).2 ≤ n) (hF : F = ffs (lvF K L W ar Ls (m + 1))) : ubl_230_91 (Par d) 0 s (pFin F (RPs K L W ar (kdF K L Ls) (tnF K Ls) Ls n B b (m + 1))) := by
  have hn4 := hX.1
  have hTN : ∀ v ∈ tnF K Ls, wTk K n v := tNm_w hDc (Int.le_refl 0) hmn
  have hl : (tnF K Ls).length ≤ 24 := by unfold tnF; rw [List.length_map, tyL_len]; exact hT24.1
  have enx : nxE K L (m + 1) = (p_e K L 10 false (0, m + 1)).2 := (pe_g 10 (by decide) false (m + 1) hmP).2.2
  unfold lvF at hF
  obtain ⟨F2, hF2⟩ : ∃ F2, F2 = frst L (twA W K L Ls Ls.length) 0 := ⟨_, rfl⟩
  obtain ⟨F3, hF3⟩ : ∃ F3, F3 = ffs (alFs K L W ar (kdF K L Ls) (tnF K Ls) (hfS K L Ls) 0 Ls) := ⟨_, rfl⟩
  obtain ⟨F4, hF4⟩ : ∃ F4, F4 = ffs (dLs K L W ar (mvF K L W ar Ls) (tnF K Ls) Ls).flatten := ⟨_, rfl⟩
  obtain ⟨F5, hF5⟩ : ∃ F5, F5 = ffs (L5 (eg5 K L W (kdF K L Ls) (tnF K Ls) Ls) L (tnF K Ls)) := ⟨_, rfl⟩
  obtain ⟨F6, hF6⟩ : ∃ F6, F6 = ffs (eFs K L W ar (kdF K L Ls) (tnF K Ls) Ls (m + 1)) := ⟨_, rfl⟩
  rw [← hF2, ← hF3, ← hF4, ← hF5, ← hF6] at hF
  have n2 : ¬ F2 = 0 → F = F2 := fun q => by rw [hF, ffs_1 q]
  have n3 : F2 = 0 → ¬ F3 = 0 → F = F3 := fun q2 q => by rw [hF, ffs_2 q2, ffs_1 q]
  have n4 : F2 = 0 → F3 = 0 → ¬ F4 = 0 → F = F4 := fun q2 q3 q => by rw [hF, ffs_2 q2, ffs_2 q3, ffs_1 q]
  have n5 : F2 = 0 → F3 = 0 → F4 = 0 → ¬ F5 = 0 → F = F5 := fun q2 q3 q4 q => by rw [hF, ffs_2 q2, ffs_2 q3, ffs_2 q4, ffs_1 q]
  have n6 : F2 = 0 → F3 = 0 → F4 = 0 → F5 = 0 → F = F6 := fun q2 q3 q4 q5 => by
    rw [hF, ffs_2 q2, ffs_2 q3, ffs_2 q4, ffs_2 q5]
    show (if F6 = 0 then (0 : Int) else F6) = F6
    split
    · exact Eq.symm (by assumption)
    · rfl
  have hPR : F2 = 0 → F3 = 0 → PRm K L W ar (kdF K L Ls) n 0 m (tnF K Ls) Ls := fun q2 q3 => by
    refine ⟨⟨hX, hDc, Int.le_refl 0, hmn⟩, rfl, hT24, har, fun i t g1 g6 => ⟨hAt i t g1 g6, kdF_at g1 g6⟩, fun c hc => kdF_no hc, by rw [← hF3]; exact q3, ?_⟩
    intro v hv
    have d3 := twA_mn (W := W) hDc (Int.le_refl 0)
    have e := twA_f hX hDc (Int.le_refl 0) hmn d3
    rw [← hF2, q2] at e
    rcases d3 with ⟨-, q⟩ | ⟨q1, q2'⟩
    · exact q v hv
    · have z3 := SA_lt hDc (Int.le_refl 0) (by omega) q1
      have z4 := hX.2.2 _ z3.1 (by omega)
      rw [if_pos (by omega)] at e
      omega
  obtain ⟨I, hI⟩ : ∃ I : Int32 → yS → Prop, I = fun c1 w => (¬ (w.1 8).toInt = 0 ∧ (w.1 8).toInt = F) ∨ ((w.1 8).toInt = 0 ∧ ((c1 = 0 ∧ w = s) ∨ (c1 = 1 ∧ R8 s w ∧ F2 = 0) ∨ (c1 = 2 ∧ (F2 = 0 ∧ F3 = 0) ∧ RST K L W ar (kdF K L Ls) (tnF K Ls) Ls n B b (w.1 65).toInt x y w ∧ RW0 K L Ls B b x y m w ∧ (w.1 65).toInt ≤ 20000 ∧ w.1 26 = s.1 26) ∨ (c1 = 3 ∧ (F2 = 0 ∧ F3 = 0 ∧ F4 = 0) ∧ RST K L W ar (kdF K L Ls) (tnF K Ls) Ls n B b (w.1 65).toInt x y w ∧ ErA K L B w 259 b x y (m + 1) ∧ (w.1 30).toInt = b ∧ (w.1 70).toInt = 0 ∧ (w.1 65).toInt ≤ 20000 ∧ w.1 26 = s.1 26))) := ⟨_, rfl⟩
  have one : ∀ (x1 c : Int32), x1.toInt = c.toInt → x1 = c := fun x1 c e => Int32.toInt_inj.mp e
  unfold ubl_230_91
  refine ⟨I, by rw [hI]; exact Or.inr ⟨h8, Or.inl ⟨rfl, rfl⟩⟩, ?_⟩
  intro c1 w hIw
  rw [hI] at hIw
  rcases hIw with ⟨z1, z2⟩ | ⟨z, ⟨rfl, rfl⟩ | ⟨rfl, j1, j2⟩ | ⟨rfl, ⟨j1, j2⟩, j3, j4, j5, j26⟩ | ⟨rfl, ⟨j1, j2, j3⟩, j4, j5, j6, j7, j8, j26⟩⟩
  · exact u_91x z2 z1 (fun x1 => by rw [hI]; exact Or.inl ⟨z1, z2⟩)
  · unfold ub_230_91
    refine ⟨fun q => absurd q (by decide), fun _ => ?_⟩
    refine u_t0 hX hb hDc (Int.le_refl 0) hmn hT24.1 hw hR0.2.1 hR0.2.2.1 z (fun x1 u g1 g2 g3 => ?_)
    rw [hI]
    rw [← hF2] at g2
    by_cases q : (u.1 8).toInt = 0
    · exact Or.inr ⟨q, Or.inr (Or.inl ⟨one _ _ (by rw [g3]; decide), g1, by rw [← g2]; exact q⟩)⟩
    · exact Or.inl ⟨q, by rw [g2] at q ⊢; exact (n2 q).symm⟩
  · have hrow : ∀ p, ¬ p = 231 → ¬ p = 232 → ¬ p = 264 → ¬ p = 261 → w.2.1 p = s.2.1 p := fun p _ _ _ _ => by rw [j1.1]
    have hww := RW0_W hrow (j1.2 30 (by decide)) (j1.2 64 (by decide)) (j1.2 70 (by decide)) hw
    have hRw := RBh_W hrow (j1.2 75 (by decide)) hR0
    have w65 : (w.1 65).toInt = 10 + 4100 * b := by rw [j1.2 65 (by decide)]; exact h65
    have w264 : RWel w 0 [40000, 40008, 40016, 40024, 40032, 40040] := fun i c hc => by rw [j1.1]; exact h264 i c hc
    unfold ub_230_91
    refine ⟨fun q => absurd q (by decide), fun _ => ?_⟩
    refine u_t1 hX hb hB (Int.le_refl 0) hmn hDc hww hRw hTN hl ⟨har.2, har.1⟩ (by omega) hT24.1 z (fun x1 u g1 g2 g3 => ?_)
    rw [hI]
    have e3 := alFs_r (W := W) (ar := ar) (kd := kdF K L Ls) (TN := tnF K Ls) hDc (Int.le_refl 0) Ls.length (Nat.le_refl _)
    rw [List.take_length, ← hF3, ← g1] at e3
    by_cases q : (u.1 8).toInt = 0
    · obtain ⟨r1, r2, r3, r4⟩ := RST_1 hb hww hRw (by omega) w264 (g2 q) q
      exact Or.inr ⟨q, Or.inr (Or.inr (Or.inl ⟨one _ _ (by rw [g3]; decide), ⟨j2, by rw [e3]; exact q⟩, r1, r2, by omega, ((g2 q).2.1.1 26 (by decide) (by decide) (by decide) (by decide) (by decide)).trans (j1.2 26 (by decide))⟩))⟩
    · exact Or.inl ⟨q, by rw [← e3] at q ⊢; exact (n3 j2 q).symm⟩
  · unfold ub_230_91
    refine ⟨fun q => absurd q (by decide), fun _ => ?_⟩
    refine u_t2 (mv := mvF K L W ar Ls) (hPR j1 j2) j3 (by omega) j4 rfl z (fun x1 u g1 g2 g3 => ?_)
    rw [hI]
    rw [← hF4] at g2
    by_cases q : (u.1 8).toInt = 0
    · have E : EF0 (nsD K L Ls) B (w.1 65).toInt w u := EF0_wf g1.1 (by omega)
      have e65 : u.1 65 = w.1 65 := g1.1.1 65 (by decide) (by decide) (by decide) (by decide) (by decide) (by decide) (by decide)
      have e30 : u.1 30 = w.1 30 := g1.1.1 30 (by decide) (by decide) (by decide) (by decide) (by decide) (by decide) (by decide)
      refine Or.inr ⟨q, Or.inr (Or.inr (Or.inr ⟨one _ _ (by rw [g3]; decide), ⟨j1, j2, by rw [← g2]; exact q⟩, ?_, ErA_e E j4.2.2.2.1, by rw [e30]; exact j4.2.2.2.2.1, g1.2.2, by rw [e65]; exact j5, (g1.1.1 26 (by decide) (by decide) (by decide) (by decide) (by decide) (by decide) (by decide)).trans j26⟩))⟩
      rw [e65]
      exact RST_e (hPR j1 j2) E j3
    · exact Or.inl ⟨q, by rw [g2] at q ⊢; exact (n4 j1 j2 q).symm⟩
  · unfold ub_230_91
    refine ⟨fun _ => ⟨fun q => absurd z q, fun _ => ?_⟩, fun q => absurd (by decide) q⟩
    refine Par.imp (x_215 (hPR j1 j2) j4 j6 z) ?_
    rintro v2 s1 ⟨rfl, g1, g2⟩
    refine ⟨rfl, ?_⟩
    rw [← hF5] at g2
    by_cases q : (s1.1 8).toInt = 0
    · have E : EF0 (nsD K L Ls) B (w.1 65).toInt w s1 := ⟨fun k hk => g1.2.2 k (fun e => hk (by unfold fEx; omega)), g1.2.1, fun r hr => g1.1 r (fun e => hr (by unfold rEx; omega)), fun j _ => by rw [g1.1 226 (by decide)], fun j _ => by rw [g1.1 230 (by decide)], fun r j hr _ => by rw [g1.1 r (by omega)], fun j _ => by rw [g1.1 264 (by decide)]⟩
      have e65 : s1.1 65 = w.1 65 := g1.2.2 65 (by decide)
      have e70 : s1.1 70 = w.1 70 := g1.2.2 70 (by decide)
      have e30 : s1.1 30 = w.1 30 := g1.2.2 30 (by decide)
      exact u_127 (hPR j1 j2) ⟨hxy.1, by rw [g1.2.2 26 (by decide), j26]; exact hxy.2⟩ hB (RST_e (hPR j1 j2) E j4) (by rw [e30]; exact j6) (ErA_e E j5) q (by rw [e70]; omega) (by rw [e65]; exact Int.le_refl _) (by rw [e65]; omega) hmP (by omega) (by omega) (by rw [enx]; exact hme) (by rw [← hF6]; exact n6 j1 j2 j3 (by rw [← g2]; exact q))
    · exact u_127x (by rw [g2] at q ⊢; exact (n5 j1 j2 j3 q).symm) q
end ZZX
