/-! ===== the reference: typeVar ===== -/
section ZQV
variable {K L W ar kd : Int → Int} {n lo hi B b A0 x y β0 β1 : Int} {TN Ls : List Int} {S : Scp} {s s' u : yS} {d m g i : Nat} {a1 a2 : Int32} {z z' t t0 c l w e T : Int}
theorem RWel_snoc {p : Int} {E : List Int} {j : Nat} {v : Int32} (h : RWel s p E) (hp : 0 ≤ p) (hj : (j : Int) = p + (E.length : Int)) : RWel (sa s 264 j v) p (E ++ [v.toInt]) := fun k c hc => by
  have hk := (List.getElem?_eq_some_iff.mp hc).1
  rw [List.length_append, List.length_singleton] at hk
  rw [KI_p (by omega), sa_21]
  by_cases e : k = E.length
  · rw [if_pos ⟨rfl, by omega⟩]
    rw [e, List.getElem?_append_right (Nat.le_refl _), Nat.sub_self] at hc
    exact Option.some.inj hc
  · rw [if_neg (fun q => by omega)]
    rw [List.getElem?_append_left (by omega)] at hc
    have := h k c hc
    rw [KI_p (by omega)] at this
    exact this
/-- a func: its rows -/
theorem fs_r (h : PRm K L W ar kd n lo hi TN Ls) (hS : RST K L W ar kd TN Ls n B b A0 x y u) (h1 : Ls[i]? = some t0) (h6 : K t0 = 6) : ((u.2.1 253 (60 * b + (kFn K (Ls.take i) : Int)).toNat).toInt = B + (f_1 K L false (0, t0)).2 ∧ (u.2.1 255 (60 * b + (kFn K (Ls.take i) : Int)).toNat).toInt = ((fPa K L false (0, t0)).length : Int) ∧ (fPa K L false (0, t0)).length ≤ 6 ∧ (u.2.1 257 (60 * b + (kFn K (Ls.take i) : Int)).toNat).toInt = 204 * b + (kHd K L (Ls.take i) : Int) ∧ (u.2.1 261 (60 * b + (kFn K (Ls.take i) : Int)).toNat).toInt = fcd K L W TN t0) ∧ ((u.2.1 248 (204 * b + (kHd K L (Ls.take i) : Int)).toNat).toInt = ((h_v K L (0, (f_5 K L false (0, t0)).2 + 1)).length : Int) ∧ (h_v K L (0, (f_5 K L false (0, t0)).2 + 1)).length ≤ 6) ∧ ∀ (k : Nat) (v : Int), (h_v K L (0, (f_5 K L false (0, t0)).2 + 1))[k]? = some v → (u.2.1 249 (6 * (204 * b + (kHd K L (Ls.take i) : Int)) + (k : Int)).toNat).toInt = B + v ∧ RSn K L B (wdT K L (cdOf W (h_f K L (0, (f_5 K L false (0, t0)).2 + 1)) (fPa K L false (0, t0)) TN) ar (4000 + 6 * (kFn K (Ls.take i) : Int)) (2000 + 6 * (kHd K L (Ls.take i) : Int))) u A0 (u.2.1 250 (6 * (204 * b + (kHd K L (Ls.take i) : Int)) + (k : Int)).toNat).toInt (v + 1) ∧ (tlT K L (cdOf W (h_f K L (0, (f_5 K L false (0, t0)).2 + 1)) (fPa K L false (0, t0)) TN) ar 10 (v + 1)).1 = 0 ∧ (p_t K L 10 false (0, v + 1)).1 = 0 := by
  obtain ⟨-, hA, hD, -⟩ := hS
  obtain ⟨-, ⟨a1, -, a3, a4, -⟩, a5, ⟨-, ⟨a6, a7, a8⟩, -⟩, -⟩ := (hA i t0 h1).1 h6
  obtain ⟨⟨-, d2, -⟩, d4⟩ := (hD i t0 h1).1 h6
  have hd0 : (dHd K L t0)[0]? = some (f_5 K L false (0, t0)).2 := by
    unfold dHd
    rw [if_pos h6]
    rfl
  obtain ⟨-, -, -, -, -, hx⟩ := hd_fact h h1 hd0
  have edT : dTp K L t0 = fPa K L false (0, t0) := if_pos h6
  rw [edT] at hx
  obtain ⟨-, s2, -⟩ := hSlt_at (K := K) (L := L) (q := (f_5 K L false (0, t0)).2) (h := ((kHd K L (Ls.take i) + 0 : Nat) : Int))
  refine ⟨⟨a1, a3, a4, a5, d4⟩, ⟨a6, a7⟩, fun k v hv => ⟨(a8 k v hv).1, ?_, ?_, ?_⟩⟩
  · have := d2 k v hv
    unfold wHd at this
    rw [show 204 * b + (kHd K L (Ls.take i) : Int) - 204 * b = (kHd K L (Ls.take i) : Int) by omega] at this
    exact this
  · exact (hx _ (List.mem_of_getElem? (s2 k v hv))).2.2.1
  · exact (hx _ (List.mem_of_getElem? (s2 k v hv))).2.2.2.1
set_option maxHeartbeats 2000000 in
/-- typeOfVar -/
theorem x_219 (hW : EWd K L W ar kd TN Ls n lo hi B b β0 β1 S) (hI : EIn K L W ar kd TN Ls n B b A0 x y β0 β1 S s) (hA : (s.1 65).toInt ≤ 100000) (h1 : Ls[i]? = some t0) (h6 : K t0 = 6) (h78 : (s.1 78).toInt = 60 * b + (kFn K (Ls.take i) : Int)) (hS2 : S.2.1 = fPa K L false (0, t0)) (hS1 : S.1 = h_f K L (0, (f_5 K L false (0, t0)).2 + 1)) (hTy : S.2.2.2.2 = (fcd K L W TN t0 :: (List.range (fPa K L false (0, t0)).length).map (fun k : Nat => 24 + (k : Int))) :: (h_v K L (0, (f_5 K L false (0, t0)).2 + 1)).map (fun v => wdC K L W ar TN S.1 S.2.1 (v + 1))) (hb0 : β0 = 4000 + 6 * (kFn K (Ls.take i) : Int)) (hb1 : β1 = 2000 + 6 * (kHd K L (Ls.take i) : Int)) (ha1 : a1.toInt = e) {k : Nat} (hk : (s.2.1 230 e.toNat).toInt = (k : Int)) (hkl : k < 1 + (h_v K L (0, (f_5 K L false (0, t0)).2 + 1)).length) : Par d 219 [.ref 213, .int a1] s (fun v s' => v = none ∧ EF0 (nsD K L Ls) B A0 s s' ∧ EFl s s' ∧ (s'.1 8 = s.1 8 ∧ s'.1 65 = s.1 65 ∧ ∀ q j, q < 264 → s'.2.1 q j = s.2.1 q j) ∧ TYp ar (TN.length : Int) β0 β1 (S.2.1.length : Int) (S.1.length : Int) s' (s'.1 80).toInt (s'.1 81).toInt (S.2.2.2.2.getD k [])) := by
  cases d with
  | zero => exact Par_0
  | succ d =>
    have hWs := hW
    obtain ⟨hP, -, hSP, hB, hb⟩ := hWs
    obtain ⟨ha, h24⟩ := PR_ar hP
    have h100 := hI.2.2.1.2.1
    have hA0 := hI.2.2.1.1
    obtain ⟨⟨f253, f255, fp6, f257, f261⟩, ⟨f248, fv6⟩, fk⟩ := fs_r hP hI.1 h1 h6
    obtain ⟨⟨fc0, fc1⟩, fc2, fc3⟩ := fn_fact hP h1 h6
    have hnT := PR_nT hP
    have hc24 := hP.2.2.1.1
    refine pb_219 ?_
    unfold ub_219_0
    rw [ha1, hk, h78, f255, f257]
    intro _
    refine ⟨fun w1 _ _ x1 hx1 => ?_, fun w1 _ _ x9 hx9 _ x10 hx10 _ x11 hx11 _ _ _ => ?_⟩
    · have hk0 : k = 0 := by omega
      rw [hk0, hTy]
      show Par d 216 _ s _
      refine Par.imp x_216 ?_
      rintro v3 s2 ⟨rfl, hs2⟩
      obtain ⟨T, hT⟩ : ∃ T, (s.1 64).toInt = T := ⟨_, rfl⟩
      have k2 : ∀ k, ¬ k = 80 → ¬ k = 81 → s2.1 k = s.1 k := fun k q1 q2 => by rw [hs2, sfr_1, if_neg q2, sfr_1, if_neg q1]
      have e2 : s2.2 = s.2 := by rw [hs2]; rfl
      have e80 : (s2.1 80).toInt = T := by
        rw [hs2, sfr_1, if_neg (by decide), sfr_1, if_pos rfl]
        exact hT
      have e81 : (s2.1 81).toInt = ((fPa K L false (0, t0)).length : Int) + 1 := by
        rw [hs2, sfr_1, if_pos rfl]
        exact hx1
      refine ⟨rfl, ?_⟩
      rw [k2 78 (by decide) (by decide), e2, h78, f261, k2 64 (by decide) (by decide), hT]
      intro _ _ x4 hx4 _ x5 hx5 _ s6 hs6
      have e64 : (s6.1 64).toInt = T := by
        rw [hs6, sa_1r, k2 64 (by decide) (by decide)]
        exact hT
      rw [e64]
      intro _ x7 hx7 s8 hs8
      have ec : x5.toInt = rhE ar β0 β1 (fcd K L W TN t0) := by
        unfold rhE rhC
        rw [if_pos (by omega)]
        omega
      refine ⟨fun b1 b2 b3 b4 v => b3.toInt = ((fPa K L false (0, t0)).length : Int) ∧ ∃ p : Nat, p ≤ (fPa K L false (0, t0)).length ∧ b4.toInt = (p : Int) ∧ (v.1 64).toInt = T + 1 + (p : Int) ∧ (∀ k, ¬ k = 64 → v.1 k = s2.1 k) ∧ v.2.2 = s.2.2 ∧ (∀ q j, ¬ q = 264 → v.2.1 q j = s.2.1 q j) ∧ (∀ j : Nat, (j : Int) < T → v.2.1 264 j = s.2.1 264 j) ∧ RWel v T ((fcd K L W TN t0 :: (List.range p).map (fun k : Nat => 24 + (k : Int))).map (rhE ar β0 β1)), ⟨f255, 0, Nat.zero_le _, by decide, ?_, ?_, ?_, ?_, ?_, ?_⟩, ?_⟩
      · rw [hs8, sfr_1, if_pos rfl]
        omega
      · intro k hk
        rw [hs8, sfr_1, if_neg hk, hs6, sa_1r]
      · rw [hs8, sfr_2, hs6]
        show s2.2.2 = s.2.2
        rw [e2]
      · intro q j hq
        rw [hs8, sfr_2, hs6, sa_21, if_neg (fun w => hq w.1), e2]
      · intro j hj
        rw [hs8, sfr_2, hs6, sa_21, if_neg (fun w => by omega), e2]
      · have h0 : RWel s2 T [] := fun k c hc => by cases hc
        have := RWel_snoc (v := x5) (j := T.toNat) h0 (by omega) (by show ((T.toNat : Nat) : Int) = T + ((0 : Nat) : Int); omega)
        rw [ec] at this
        rw [hs8, hs6]
        exact this
      rintro b1 b2 b3 b4 v ⟨v0, p, p1, p2, v1, v2, v3, v4, v5, v6⟩
      have v75 : (v.1 75).toInt = b := by
        rw [v2 75 (by decide), k2 75 (by decide) (by decide)]
        exact hI.1.1.1
      have v78 : (v.1 78).toInt = 60 * b + (kFn K (Ls.take i) : Int) := by
        rw [v2 78 (by decide), k2 78 (by decide) (by decide)]
        exact h78
      unfold ub_219_68
      rw [v75, v78, v1]
      refine ⟨fun w2 => ?_, fun w2 _ y1 hy1 _ y2 hy2 _ y3 hy3 _ y4 hy4 _ y5 hy5 _ y6 hy6 _ s7 hs7 => ?_⟩
      · have hp : p = (fPa K L false (0, t0)).length := by omega
        have EFs : WFr T (s.1 70).toInt s (sf (sf v 80 (s.1 80)) 81 (s.1 81)) := by
          refine ⟨fun k q1 q2 q3 _ _ _ _ => ?_, v3, fun q j hq => v4 q j (by omega), v5, fun q j hq _ => v4 q j (by omega), fun q j hq _ => v4 q j (by omega)⟩
          by_cases q81 : k = 81
          · rw [q81, sfr_1, if_pos rfl]
          · rw [sfr_1, if_neg q81]
            by_cases q80 : k = 80
            · rw [q80, sfr_1, if_pos rfl]
            · rw [sfr_1, if_neg q80, v2 k q2, k2 k q80 q81]
        have back : sf (sf (sf (sf v 80 (s.1 80)) 81 (s.1 81)) 80 (v.1 80)) 81 (v.1 81) = v := by
          refine Prod.ext (funext fun k => ?_) rfl
          rw [sfr_1]
          by_cases q81 : k = 81
          · rw [if_pos q81, q81]
          · rw [if_neg q81, sfr_1]
            by_cases q80 : k = 80
            · rw [if_pos q80, q80]
            · rw [if_neg q80, sfr_1, if_neg q81, sfr_1, if_neg q80]
        have e64' : (sf (sf v 80 (s.1 80)) 81 (s.1 81)).1 64 = v.1 64 := by rw [sfr_1, if_neg (by decide), sfr_1, if_neg (by decide)]
        have e70' : (sf (sf v 80 (s.1 80)) 81 (s.1 81)).1 70 = s.1 70 := by rw [sfr_1, if_neg (by decide), sfr_1, if_neg (by decide), v2 70 (by decide), k2 70 (by decide) (by decide)]
        have F1 : EFl s v := by
          rw [← back]
          exact EFl_tr (EFl_wf EFs hT rfl (by rw [e70']) (by rw [e64']; omega) (by omega)) (EFl_tr (EFl_sf (by omega)) (EFl_sf (by omega)))
        have E1 : EF0 (nsD K L Ls) B A0 s v := by
          rw [← back]
          exact EF0_tr (EF0_wf EFs (by omega)) (EF0_tr (EF0_sf (by unfold fEx; omega)) (EF0_sf (by unfold fEx; omega)))
        have hlen : (fcd K L W TN t0 :: (List.range p).map (fun k : Nat => 24 + (k : Int))).length = p + 1 := by
          rw [List.length_cons, List.length_map, List.length_range]
        refine ⟨rfl, E1, F1, ⟨?_, ?_, fun q j hq => v4 q j (by omega)⟩, ?_⟩
        · rw [v2 8 (by decide), k2 8 (by decide) (by decide)]
        · rw [v2 65 (by decide), k2 65 (by decide) (by decide)]
        · show TYp ar (TN.length : Int) β0 β1 (S.2.1.length : Int) (S.1.length : Int) v (v.1 80).toInt (v.1 81).toInt (fcd K L W TN t0 :: (List.range (fPa K L false (0, t0)).length).map (fun k : Nat => 24 + (k : Int)))
          rw [v2 80 (by decide), v2 81 (by decide), e80, e81, ← hp]
          have hrng : ∀ q ∈ (List.range p).map (fun k : Nat => 24 + (k : Int)), 24 ≤ q ∧ q < 24 + (p : Int) := fun q hq => by
            obtain ⟨j, hj, rfl⟩ := List.mem_map.mp hq
            have := List.mem_range.mp hj
            exact ⟨by omega, by omega⟩
          have hisR : isR ar 1 (fcd K L W TN t0 :: (List.range p).map (fun k : Nat => 24 + (k : Int))) := by
            have e3 : ((List.range p).map (fun k : Nat => [24 + (k : Int)])).flatten = (List.range p).map (fun k : Nat => 24 + (k : Int)) := by
              rw [← List.flatMap_def]
              induction List.range p with
              | nil => rfl
              | cons a l ih =>
                rw [List.flatMap_cons, List.map_cons, ih]
                rfl
            rw [← e3]
            refine isR_cfl ?_ (fun q hq => ?_)
            · rw [List.length_map, List.length_range, fc3]
              omega
            · obtain ⟨j, -, rfl⟩ := List.mem_map.mp hq
              have := h24 (24 + (j : Int)) (by omega)
              exact ⟨by decide, by rw [this]; exact Int.le_refl _, by rw [this]; rfl⟩
          refine ⟨Or.inr (by omega), by rw [hlen]; omega, ⟨by omega, by rw [hlen, v1]; omega⟩, v6, hisR, ⟨by rw [hlen]; omega, fun q hq q24 => ?_⟩, fun q hq => ?_⟩
          · rcases List.mem_cons.mp hq with rfl | hq
            · omega
            · have := hrng q hq
              omega
          · rw [hS2]
            rcases List.mem_cons.mp hq with rfl | hq
            · exact ⟨fc0, by omega, fun w => by omega, fun w => by omega⟩
            · have := hrng q hq
              exact ⟨by omega, by omega, fun _ _ => by omega, fun _ => by omega⟩
      · have e7 : (s7.1 64).toInt = T + 1 + (p : Int) := by rw [hs7, sa_1r]; exact v1
        rw [e7]
        intro _ y8 hy8 s9 hs9 _ y10 hy10
        have hy6' : y6.toInt = rhE ar β0 β1 (24 + (p : Int)) := by
          unfold rhE rhC
          rw [if_neg (by omega), if_pos (by omega), h24 _ (by omega)]
          omega
        refine ⟨v0, p + 1, by omega, by omega, ?_, ?_, ?_, ?_, ?_, ?_⟩
        · rw [hs9, sfr_1, if_pos rfl]
          omega
        · intro k hk
          rw [hs9, sfr_1, if_neg hk, hs7, sa_1r]
          exact v2 k hk
        · rw [hs9, sfr_2, hs7]
          exact v3
        · intro q j hq
          rw [hs9, sfr_2, hs7, sa_21, if_neg (fun w => hq w.1)]
          exact v4 q j hq
        · intro j hj
          rw [hs9, sfr_2, hs7, sa_21, if_neg (fun w => by omega)]
          exact v5 j hj
        · have := RWel_snoc (v := y6) (j := (T + 1 + (p : Int)).toNat) v6 (by omega) (by
            rw [List.length_map, List.length_cons, List.length_map, List.length_range]
            omega)
          rw [hy6'] at this
          rw [hs9, hs7, List.range_succ, List.map_append, List.map_cons, List.map_append, List.map_cons, List.map_nil, List.map_cons, List.map_nil, ← List.cons_append, ← List.map_cons]
          exact this
    · obtain ⟨j, rfl⟩ : ∃ j, k = j + 1 := ⟨k - 1, by omega⟩
      obtain ⟨v, hv⟩ : ∃ v, (h_v K L (0, (f_5 K L false (0, t0)).2 + 1))[j]? = some v := ⟨_, List.getElem?_eq_getElem (by omega)⟩
      obtain ⟨-, g2, g3, g4⟩ := fk j v hv
      have e11 : x11.toInt = 6 * (204 * b + (kHd K L (Ls.take i) : Int)) + (j : Int) := by omega
      rw [e11]
      rw [← hS1, ← hS2] at g2 g3
      rw [← hb0, ← hb1] at g2
      obtain ⟨q1, q2⟩ := ty_of hW hI hA (RSn_A g2 hA0) g3 g4
      have eT : S.2.2.2.2.getD (j + 1) [] = wdC K L W ar TN S.1 S.2.1 (v + 1) := by
        rw [hTy, List.getD_eq_getElem?_getD, List.getElem?_cons_succ, List.getElem?_map, hv]
        rfl
      rw [eT]
      refine Par.imp x_216 ?_
      rintro v3 s2 ⟨rfl, hs2⟩
      have F1 : EFl s s2 := by
        rw [hs2]
        exact EFl_tr (EFl_sf (by omega)) (EFl_sf (by omega))
      refine ⟨rfl, rfl, ?_, F1, ⟨?_, ?_, fun q j _ => by rw [hs2]; rfl⟩, ?_⟩
      · rw [hs2]
        exact EF0_tr (EF0_sf (by unfold fEx; omega)) (EF0_sf (by unfold fEx; omega))
      · rw [hs2, sfr_1, if_neg (by decide), sfr_1, if_neg (by decide)]
      · rw [hs2, sfr_1, if_neg (by decide), sfr_1, if_neg (by decide)]
      · have e80 : s2.1 80 = s.2.1 231 (s.2.1 250 (6 * (204 * b + (kHd K L (Ls.take i) : Int)) + (j : Int)).toNat).toInt.toNat := by
          rw [hs2, sfr_1, if_neg (by decide), sfr_1, if_pos rfl]
        have e81 : s2.1 81 = s.2.1 232 (s.2.1 250 (6 * (204 * b + (kHd K L (Ls.take i) : Int)) + (j : Int)).toNat).toInt.toNat := by
          rw [hs2, sfr_1, if_pos rfl]
        rw [e80, e81]
        exact TYp_f F1 q2
end ZQV
