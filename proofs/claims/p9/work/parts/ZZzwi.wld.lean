/-! ===== the reference: what stands when instances is asked for ===== -/
section ZWI
variable {K L W ar kd : Int → Int} {TN Ls : List Int} {nI lo' hi' mB : Int} {own : Nat → Nat × Nat} {b n N T F H S0 : Nat} {G : PG} {s : yS} {Ag A0 A1 : Int} {S O i : Nat} {t : Int} {Z0 : List Ins} {I : Ins} {nX nY tN : Int}
set_option maxHeartbeats 2000000 in
/-- a func's scope -/
theorem TSc_fn (hT : TWd K L W ar kd TN Ls nI lo' hi' own b n N T F H S0 G Ag s) (h1 : Ls[i]? = some t) (h6 : K t = 6) : TSc K L W ar kd TN Ls nI lo' hi' H G (some (kFn K (Ls.take i))) (4000 + 6 * (kFn K (Ls.take i) : Int)) (2000 + 6 * (kHd K L (Ls.take i) : Int)) (fnS K L W ar TN Ls i t) := by
  obtain ⟨hPR, hG, hC, hTn, hFn, hw, hFD⟩ := hT
  have hkf := kFn_lt h1 h6
  obtain ⟨ha, h24⟩ := PR_ar hPR
  obtain ⟨f, hf⟩ : ∃ f, f = kFn K (Ls.take i) := ⟨_, rfl⟩
  have hfF : f < F := by omega
  obtain ⟨u1, u2, u3, u4, u5, u6, u7, u8, u9, u10⟩ := gu_en hG hC hfF
  obtain ⟨t1, t2⟩ := tb_fn (L := L) (W := W) (TN := TN) h1 h6
  rw [← hf] at t1 t2
  obtain ⟨⟨f1, f2⟩, f3, f4⟩ := fn_fact hPR h1 h6
  have hnT := PR_nT hPR
  have hH204 := hG.1.2.2.2.1
  have hT24 := hG.1.2.2.2.2.2
  have tp6 := (tp_fact hPR h1).1
  unfold dTp at tp6
  rw [if_pos h6] at tp6
  rw [← hf]
  refine ⟨⟨0, 0, by rw [hf]; exact EWd_fn hPR hH204 (Int.le_refl _) (Int.le_refl _) h1 h6⟩, ⟨VTy_fn hPR h1 h6, ?_⟩, Or.inr (by omega), fun h hh _ => ?_, fun k A hk => ?_⟩
  · show (List.map _ _).length + 1 = _ + 1
    rw [List.length_map]
  · have : h = fsd K L Ls f := by omega
    rw [this]
    exact u5
  · have hk : (if k = 0 then some (thisT G f) else if k - 1 < gvn G (gfh G f) then some (gvt G (gfh G f) (k - 1)) else none) = some A := hk
    by_cases k0 : k = 0
    · rw [if_pos k0] at hk
      rw [k0]
      refine ⟨_, rfl, ?_⟩
      rw [← Option.some.inj hk]
      have gg := pgA hC.1
      rw [hC.2.2.2.2.2.2.2.1] at gg
      have gF' := gg.2.1
      have hgp := (hC.2.2.2.2.2.2.2.2.1.2.2.2.2.2.2.1 f (by omega)).2.2.2
      have h3 := (gt_en hG hC (c := gso G f) u9 (by omega)).2.2.1
      rw [u4, t2, f4] at h3
      have egp : gpm G f = (fPa K L false (0, t)).length := by omega
      have ego : (gso G f : Int) = fcd K L W TN t := by rw [u4, t2]
      unfold thisT
      rw [egp]
      show _ = (rhE ar (4000 + 6 * (f : Int)) (2000 + 6 * (kHd K L (Ls.take i) : Int)) (fcd K L W TN t)).toNat :: enN ar (4000 + 6 * (f : Int)) (2000 + 6 * (kHd K L (Ls.take i) : Int)) ((List.range (fPa K L false (0, t)).length).map (fun k : Nat => 24 + (k : Int)))
      rw [rhE_0 (by omega), f4]
      congr 1
      · omega
      · unfold enN nE
        rw [List.map_map, List.map_map]
        refine List.map_congr_left (fun p hp => ?_)
        have hpl := List.mem_range.mp hp
        show 8 * (4000 + 6 * f + p) = (rhE ar (4000 + 6 * (f : Int)) (2000 + 6 * (kHd K L (Ls.take i) : Int)) (24 + (p : Int))).toNat
        have : rhE ar (4000 + 6 * (f : Int)) (2000 + 6 * (kHd K L (Ls.take i) : Int)) (24 + (p : Int)) = 8 * (4000 + 6 * (f : Int) + (p : Int)) + 0 := by
          unfold rhE rhC
          rw [if_neg (by omega), if_pos (by omega), h24 (24 + (p : Int)) (by omega), show 4000 + 6 * (f : Int) + (24 + (p : Int) - 24) = 4000 + 6 * (f : Int) + (p : Int) by omega]
        omega
    · rw [if_neg k0] at hk
      obtain ⟨j, hj⟩ : ∃ j, k = j + 1 := ⟨k - 1, by omega⟩
      rw [hj, show j + 1 - 1 = j by omega] at hk
      by_cases kj : j < gvn G (gfh G f)
      rotate_left
      · rw [if_neg kj] at hk
        cases hk
      rw [if_pos kj] at hk
      obtain ⟨e1, e2, e3, e4, e5, e6⟩ := gh_en hG hC u5 u6
      rw [u3] at hk kj
      have hd0 : (dHd K L t)[0]? = some (f_5 K L false (0, t)).2 := by
        unfold dHd
        rw [if_pos h6]
        rfl
      obtain ⟨b1, b2, b3, -⟩ := tb_hd (W := W) (ar := ar) (TN := TN) h1 hd0
      rw [Nat.add_zero, ← t1] at b1
      have edT : dTp K L t = fPa K L false (0, t) := if_pos h6
      rw [edT] at b1
      rw [e3, b1] at kj
      have kj : j < (h_v K L (0, (f_5 K L false (0, t)).2 + 1)).length := kj
      have hv := List.getElem?_eq_getElem kj
      have hsl := (hSlt_at (K := K) (L := L) (q := (f_5 K L false (0, t)).2) (h := (fsd K L Ls f : Int))).2.1 j _ hv
      rw [hj]
      refine ⟨wdC K L W ar TN (h_f K L (0, (f_5 K L false (0, t)).2 + 1)) (fPa K L false (0, t)) ((h_v K L (0, (f_5 K L false (0, t)).2 + 1))[j] + 1), ?_, ?_⟩
      · show ((h_v K L (0, (f_5 K L false (0, t)).2 + 1)).map (fun v => wdC K L W ar TN (h_f K L (0, (f_5 K L false (0, t)).2 + 1)) (fPa K L false (0, t)) (v + 1)))[j]? = _
        rw [List.getElem?_map, hv]
        rfl
      · rw [← Option.some.inj hk, e5 j (by rw [b1]; exact kj), u7, t1]
        congr 1
        rw [← t1, b1]
        show ((hSlt K L (fsd K L Ls f : Int) (0, (f_5 K L false (0, t)).2 + 1)).map (fun x => wdC K L W ar TN (h_f K L (0, (f_5 K L false (0, t)).2 + 1)) (fPa K L false (0, t)) x.2.2.1)).getD ((h_f K L (0, (f_5 K L false (0, t)).2 + 1)).length + j) [] = _
        rw [List.getD_eq_getElem?_getD, List.getElem?_map, hsl]
        rfl
/-- main's -/
theorem TSc_mn (hT : TWd K L W ar kd TN Ls nI lo' hi' own b n N T F H S0 G Ag s) : TSc K L W ar kd TN Ls nI lo' hi' H G none 1000 2000 mnS := ⟨⟨0, 0, EWd_mn hT.1 (Int.le_refl _) (Int.le_refl _)⟩, ⟨fun A hA => (by cases hA), rfl⟩, Or.inl rfl, fun h _ hpos => absurd hpos (Nat.lt_irrefl 0), fun k A hk => by
  have hk : (none : Option (List Nat)) = some A := hk
  cases hk⟩
theorem gd_of (h1 : inK ar tN nX nY I) (h2 : I.1 = 5 → TGo ar tN nX nY I.2.1) : gdI ar tN nX nY I := by
  refine ⟨fun A hA => ?_, fun h5 => ⟨h2 h5, (h1.2.1 h5).1⟩⟩
  unfold tlI at hA
  by_cases q : I.1 = 2 ∨ I.1 = 6
  · rw [if_pos q] at hA
    rw [List.mem_singleton.mp hA]
    exact h1.1 q
  · rw [if_neg q] at hA
    by_cases q5 : I.1 = 5
    · rw [if_pos q5] at hA
      exact (h1.2.1 q5).2 A hA
    · rw [if_neg q5] at hA
      cases hA
set_option maxHeartbeats 2000000 in
/-- the funcs' E, their code -/
theorem FN_of (hT : TWd K L W ar kd TN Ls nI lo' hi' own b n N T F H S0 G Ag s) (hFO : FOk K L W ar kd TN Ls nI) (hPT : PT b n N F H G S O s) (hPk : PCk K L W ar kd TN Ls mB) (hPc : PCc K L W ar kd TN Ls mB) (hA1 : A1 ≤ 13000) (hE : ∀ (i : Nat) (t : Int), Ls[i]? = some t → K t = 6 → ∃ x' y' : Int, eC K L W ar kd TN Ls (4002 * (b : Int)) (4000 + 6 * (kFn K (Ls.take i) : Int)) (2000 + 6 * (kHd K L (Ls.take i) : Int)) (fnS K L W ar TN Ls i t) A0 A1 s 10 x' y' (f_7 K L false (0, t)).2 (s.2.1 258 (60 * (b : Int) + (kFn K (Ls.take i) : Int)).toNat).toInt) : FNn ar (TN.length : Int) 13000 (wHr (b : Int) s) (hwd K L W Ls) (kHd K L Ls) (kFn K Ls) (cfO K L W TN Ls) (fsd K L Ls) (hdd K L W ar TN Ls) (cdZ K L W ar kd TN Ls Z0) (b : Int) s := fun f hf => by
  obtain ⟨i, t, h1, h6, hfe⟩ := fn_dc (K := K) hf
  obtain ⟨hPR, hG, hC, hTn, hFn, hw, hFD⟩ := id hT
  have hfF : f < F := by omega
  obtain ⟨u1, u2, u3, u4, u5, u6, u7, u8, u9, u10⟩ := gu_en hG hC hfF
  obtain ⟨t1, t2⟩ := tb_fn (L := L) (W := W) (TN := TN) h1 h6
  rw [← hfe] at t1 t2
  obtain ⟨⟨f1, f2⟩, f3, f4⟩ := fn_fact hPR h1 h6
  have hnT := PR_nT hPR
  have hq := fnQi_at Ls i 0 t h1 h6
  rw [Nat.zero_add, ← hfe] at hq
  have ecd : cdZ K L W ar kd TN Ls Z0 (f : Int) = fnC K L W ar kd TN Ls (i, t) := by
    unfold cdZ
    rw [if_pos (by omega), Int.toNat_natCast, hq]
  obtain ⟨x', y', hC1⟩ := hE i t h1 h6
  obtain ⟨e, l, hh, A, p1, p2, p3, p4, -⟩ := hPT f hfF
  obtain ⟨o1, o2, o3, o4⟩ := hFO i t h1 h6
  rw [← hfe] at hC1
  have e60 : (60 * (b : Int) + (f : Int)).toNat = 60 * b + f := by omega
  rw [e60] at hC1 ⊢
  rw [p1] at hC1 ⊢
  have hS := TSc_fn hT h1 h6
  rw [← hfe] at hS
  have hN := TYL hT hS hA1 10 (Nat.le_refl _) 11 l hh e A x' y' _ p4 hC1 o1 o2 o3 o4
  have hd0 : (dHd K L t)[0]? = some (f_5 K L false (0, t)).2 := by
    unfold dHd
    rw [if_pos h6]
    rfl
  obtain ⟨b1, -⟩ := tb_hd (W := W) (ar := ar) (TN := TN) h1 hd0
  rw [Nat.add_zero, ← t1] at b1
  have hbo := (hG.2.2.2.2.1 _ u6).2.1
  rw [u7] at hbo
  have hk6 : ar (cfO K L W TN Ls f) ≤ 6 := (hG.2.1 _ (by rw [t2]; exact f1) (by rw [t2]; omega)).2.1.2
  have h16 := (hd_pu (L := L) (W := W) hPR u6).1.1
  refine ⟨⟨21 * 10, ciE K L W ar kd TN Ls (fnS K L W ar TN Ls i t) 10 (f_7 K L false (0, t)).2, by rw [ecd]; rfl, ?_⟩, hbo, fun I hI => ?_, hk6, h16⟩
  · rw [t1]
    exact hN
  · rw [ecd] at hI
    have k1 := hPk.1 f (i, t) hq I hI
    have k2 := hPc.1 f (i, t) hq I hI
    rw [t2, f4, b1]
    exact gd_of k1 k2
set_option maxHeartbeats 2000000 in
/-- all that instances wants -/
theorem wld_of (hT : TWd K L W ar kd TN Ls nI lo' hi' own b n N T F H S0 G Ag s) (hAg : Ag ≤ 13000) (hFO : FOk K L W ar kd TN Ls nI) (hPT : PT b n N F H G S O s) (hMN : MN b n N H G S O s) (hN6 : N ≤ 12006) (hO : O ≤ 120000) (hS : S ≤ 8210) (hb2 : b < 2) (hPk : PCk K L W ar kd TN Ls mB) (hPc : PCc K L W ar kd TN Ls mB) (hA1 : A1 ≤ 13000) (hE : ∀ (i : Nat) (t : Int), Ls[i]? = some t → K t = 6 → ∃ x' y' : Int, eC K L W ar kd TN Ls (4002 * (b : Int)) (4000 + 6 * (kFn K (Ls.take i) : Int)) (2000 + 6 * (kHd K L (Ls.take i) : Int)) (fnS K L W ar TN Ls i t) A0 A1 s 10 x' y' (f_7 K L false (0, t)).2 (s.2.1 258 (60 * (b : Int) + (kFn K (Ls.take i) : Int)).toNat).toInt) {xm ym : Int} (hEm : eC K L W ar kd TN Ls (4002 * (b : Int)) 1000 2000 mnS A0 A1 s 10 xm ym mB (s.2.1 259 b).toInt) (hmP : (p_e K L 10 false (0, mB)).1 = 0) (hmX : (exE6 K L W ar kd TN Ls mnS 10 mB).1 = 0) (hm0 : 0 ≤ mB) (hmn : nxE K L mB ≤ nI) : WLD own b n N T F H S0 G S O s ar kd (cfO K L W TN Ls) (fsd K L Ls) (kFn K Ls) (kHd K L Ls) (TN.length : Int) (tmd K L Ls) (tnd K L Ls) (hdd K L W ar TN Ls) (hbd K L Ls) (owd K L W TN Ls) (hwd K L W Ls) (Bfd K L W ar TN Ls) Ag 13000 (wHr (b : Int) s) (fxD K L W TN Ls) (mnC K L W ar kd TN Ls mB) (cdZ K L W ar kd TN Ls Z0) ∧ (∃ (fu : Nat) (C0 : List Ins), mnC K L W ar kd TN Ls mB = C0 ++ [lvI] ∧ nNd ar 1000 2000 13000 (wHr (b : Int) s) (hwd K L W Ls) (kHd K L Ls) s fu (s.2.1 259 b).toInt C0) ∧ ∀ I ∈ mnC K L W ar kd TN Ls mB, gdI ar (TN.length : Int) 0 0 I := by
  obtain ⟨hPR, hG, hC, hTn, hFn, hw, hFD⟩ := id hT
  refine ⟨⟨⟨hPT, hN6, hO, hS⟩, hG, ⟨hAg, hb2, Int.le_refl _⟩, fun _ _ => rfl, fun _ _ => rfl, FN_of hT hFO hPT hPk hPc hA1 hE, fun g R its c j t w Ts A Dr Bd gL gR hc hj hk hm => hff hG hAg hTn (fun _ _ => rfl) (fun _ _ => rfl) gL gR hc hj hk hm⟩, ⟨21 * 10, ciE K L W ar kd TN Ls mnS 10 mB, rfl, ?_⟩, fun I hI => gd_of (hPk.2 I hI) (hPc.2 I hI)⟩
  obtain ⟨e, l, hh, A, p1, p2, p3, p4, -⟩ := hMN
  rw [p1] at hEm ⊢
  exact TYL hT (TSc_mn hT) hA1 10 (Nat.le_refl _) 11 l hh e A xm ym mB p4 hEm hmP hmX hm0 hmn
end ZWI
