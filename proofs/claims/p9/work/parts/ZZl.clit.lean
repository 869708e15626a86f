/-! ===== the class: literal ===== -/
section ZZLI
variable {K L W ar kd : Int → Int} {TN Ls : List Int} {n lo hi lo' hi' B b β0 β1 k0 T T0 k t : Int} {S : Scp} {d P m : Nat} {s s' u : zS} {a1 a2 a3 : Int32}
theorem pt_10 (hm : m ≤ 10) (h : (p_t K L m false (0, t)).1 = 0) : (p_t K L 10 false (0, t)).1 = 0 := by
  rw [pt_mono m 10 hm false (0, t) h]
  exact h
set_option maxHeartbeats 4000000 in
theorem zs_10 (hP : P = 3 ∨ P = 39) (hW : EWd K L W ar kd TN Ls n lo' hi' B b β0 β1 S) (hm : m ≤ 10) (ih : C7 K L W ar kd TN Ls n k0 S P lo hi T0 m (d + 11)) (hd : 11 ≤ d) (I : CIn K L W ar kd TN Ls n k0 S P lo hi T0 s) (l1 : S.1.length ≤ 6) (l2 : S.2.1.length ≤ 6) (hT0 : 18 ≤ T0) (hf0 : (s.1 P 14).toInt = 0) (hat : (s.1 84 5).toInt = t) (ht0 : 0 ≤ t) (hp : (p_t K L m false (0, t)).1 = 0) (hAO : AOk K L m 123 125 (nxT K L t) (aHd K L t)) (hn : aHd K L t ≤ n) (hlo : lo ≤ t) (hhi : aHd K L t ≤ hi) (ht : (s.1 75 3).toInt = T) (hT : T0 ≤ T ∧ T ≤ 5000 - 100 * (m : Int)) (hk : (s.1 P 10).toInt = k) (hk0 : k0 ≤ k) (hk1 : 18738 ≤ k) (hk2 : k + 15 * (aHd K L t - t) ≤ 82800) (h1 : a1.toInt = 10 - (m : Int)) (hz : SZc P s t) : Zt (d + 14) (wd P 10) 10 [.ref 84, .int a1] s (fun v s' => ∃ r : Int32, v = some (.int r) ∧ CPz ar (TN.length : Int) S P T k t (aHd K L t) (exL K L W ar kd TN Ls S (exE6 K L W ar kd TN Ls S m) t) (ciL K L W ar TN S (ciE K L W ar kd TN Ls S m) t) s s' r) := by
  have h := hW.1
  obtain ⟨ha, h24⟩ := PR_ar h
  have hnn := h.1.1.1
  have hnT := PR_nT h
  have hc24 := h.2.2.1
  have hgt := nxT_gt (m := m) (by omega) hp
  have hp10 := pt_10 hm hp
  obtain ⟨oa, oE⟩ := AOk_o hm hAO
  have hLt := h.1.1.2.2 t ht0 (by omega)
  obtain ⟨ev, hev⟩ : ∃ ev, ev = exE6 K L W ar kd TN Ls S m := ⟨_, rfl⟩
  obtain ⟨A, hA⟩ : ∃ A, A = wdC K L W ar TN S.1 S.2.1 t := ⟨_, rfl⟩
  obtain ⟨G, hG⟩ : ∃ G, G = slG K L W ar (mvD K L W ar kd TN Ls) (Bfd K L W ar TN Ls) S.2.2.1 TN S.1 S.2.1 t := ⟨_, rfl⟩
  rw [← hev]
  obtain ⟨R, hR⟩ : ∃ R, R = exL K L W ar kd TN Ls S ev t := ⟨_, rfl⟩
  rw [← hR]
  obtain ⟨Cd, hCd⟩ : ∃ Cd, Cd = ciL K L W ar TN S (ciE K L W ar kd TN Ls S m) t := ⟨_, rfl⟩
  rw [← hCd]
  rw [show d + 14 = d + 5 + 9 by omega]
  refine zc_10 hP ?_
  unfold v_10_0
  refine Zt.imp (Zt.mo (d := 22) (by omega) (t_132 (d := 0) (a2 := 1) (t := t) (k := k) hP h I hf0 hat (by decide) ht0 hp10 (by omega) hlo (by omega) hk hk1 (by omega))) ?_
  rintro v1 s2 ⟨x3, rfl, q1, q2, q3⟩
  refine ⟨x3, rfl, fun s4 hs4 => ?_⟩
  have e14 : s4.1 P 14 = s2.1 P 14 := by rw [hs4, zf_1, if_neg (fun z => absurd z.2 (by decide))]
  have e10 : s4.1 P 10 = s2.1 P 10 := by rw [hs4, zf_1, if_neg (fun z => absurd z.2 (by decide))]
  have hkk : -1000 ≤ (s.1 P 10).toInt ∧ (s.1 P 10).toInt ≤ 100000 := by omega
  -- behind a fault
  have bad : ∀ (a4 a5 : Int32) (w w' : zS), w'.2 = w.2 → a5 = zg w (P + 24) (a4 * 6 + 4) → (w'.1 P 14).toInt = R.1 → ¬ R.1 = 0 → v_10_58 (fun j => Zt (d + 5 + 8) (wd P j) j) P a1 (s.1 84 5) (s.1 P 10) a4 a5 w' (fun v s' => ∃ r : Int32, v = some (.int r) ∧ CPz ar (TN.length : Int) S P T k t (aHd K L t) R Cd s s' r) := by
    intro a4 a5 w w' hw2 ha5 hw hR0
    refine l_58x (d := d + 4) hP (by rw [hw]; exact hR0) hkk (fun hB => ?_) (fun s' hs' => ⟨_, rfl, by rw [hs']; exact hw, fun z => absurd z hR0⟩)
    have e5 : a5 = zg w' (P + 24) (a4 * 6 + 4) := by
      rw [ha5]
      unfold zg
      rw [hw2]
    rw [e5]
    have := BD_tyz hP hB (a4 * 6 + 4)
    omega
  by_cases w1 : (tlT K L (cdOf W S.1 S.2.1 TN) ar 10 t).1 = 0
  · obtain ⟨r1, r2, r3, r4, r5⟩ := q3 w1
    have hxT : exT K L W ar kd TN Ls S t = (ffs G, A) := by
      unfold exT
      rw [if_pos w1, hG, hA]
    have hAl : ((tlT K L (cdOf W S.1 S.2.1 TN) ar 10 t).2.length : Int) = (A.length : Int) := by
      rw [hA]
      unfold wdC
      rw [List.length_map]
    rw [hAl] at r1 r5
    have F2 : CFe P T k s s2 := CFe_tl q1 (by omega) hk1
    have F4 : CFe P T k s s4 := by
      rw [hs4]
      exact CFe_tr F2 (CFe_f (Or.inr (Or.inr ⟨rfl, rfl⟩))) (Int.le_refl _) (Int.le_refl _)
    have I4 := CIn_e hP hT0 hT.1 hk0 F4 I
    obtain ⟨o1, o2, o3, o4, o5⟩ := wdC_ok (K := K) (L := L) (W := W) ha l1 l2 (by omega) w1 hp10
    rw [← hA] at o1 o2 o3 o4 o5
    obtain ⟨c, A', eA⟩ : ∃ c A', A = c :: A' := by
      cases hq : A with
      | nil => rw [hq] at o1; exact absurd rfl (isR_ne o1)
      | cons a l => exact ⟨a, l, rfl⟩
    have hst : s4.2 = s2.2 := by rw [hs4]; rfl
    have w4 : WDz P s4 k A := by
      intro i c hc
      rw [hst]
      exact r2 i c (by rw [hA] at hc; exact hc)
    have f4 : ∀ c q, ¬ (c = P ∧ (q = 10 ∨ q = 14)) → ¬ (c = 84 ∧ q = 5) → s4.1 c q = s.1 c q := fun c q z1 z2 => by rw [hs4, zf_1, if_neg z2, q1.1 c q z1]
    have hT4 : (s4.1 75 3).toInt = T := by rw [f4 75 3 (fun z => by omega) (by decide)]; exact ht
    have h41 : [t].map (wdC K L W ar TN S.1 S.2.1) = [A] := by rw [hA]; rfl
    have hfl : ([t].map (wdC K L W ar TN S.1 S.2.1)).flatten = A := by rw [h41, List.flatten_cons, List.flatten_nil, List.append_nil]
    refine Zt.imp (Zt.mo (d := 12) (by omega) (t_135 (d := 0) (T := T) (ys := [t]) hP h I4 l1 l2 (by rw [e14, q2]; exact w1) hT4 ⟨by omega, by omega⟩ (Nat.le_of_ble_eq_true rfl) (fun y hy => by rw [List.mem_singleton.mp hy]; exact ⟨w1, hp10, ht0, by omega⟩) (by rw [hfl, hk]; exact w4) (fun i v hv => ?_) (by rw [hfl, hk]; exact ⟨hk1, by omega⟩) (by rw [hfl, hk, e10]; exact r1))) ?_
    · rw [List.flatMap_cons, List.flatMap_nil, List.append_nil] at hv
      rw [hst, hk]
      exact r3 i v hv
    rintro v5 s6 ⟨rfl, g1, g2, g3⟩
    refine ⟨rfl, ?_⟩
    rw [List.flatMap_cons, List.flatMap_nil, List.append_nil, ← hG] at g3
    have F6 : CFe P T k s s6 := CFe_tr F4 (CFe_rz hP g1 (fun b q _ z => g2 b q z)) (Int.le_refl _) (Int.le_refl _)
    have I6 := CIn_e hP hT0 hT.1 hk0 F6 I
    have f6 : ∀ c q, ¬ (c = P ∧ (q = 10 ∨ q = 14)) → ¬ (c = 84 ∧ q = 5) → s6.1 c q = s.1 c q := fun c q z1 z2 => by rw [g2 c q (fun z => z1 ⟨z.1, Or.inr z.2⟩), f4 c q z1 z2]
    have hk6 : (s6.1 P 10).toInt = k + (A.length : Int) := by rw [g2 P 10 (fun z => absurd z.2 (by decide)), e10]; exact r1
    have at6 : (s6.1 84 5).toInt = nxT K L t := by
      rw [g2 84 5 (fun z => absurd z.2 (by decide)), hs4, zf_1, if_pos ⟨rfl, rfl⟩]
      exact r4
    have w6 : WDz P s6 k A := by
      intro i c hc
      have hi := (List.getElem?_eq_some_iff.mp hc).1
      have := w4 i c hc
      rw [← this, KI_p (by omega), KI_p (by omega), g1.2 _ (Or.inr (by omega))]
    obtain ⟨kA, hkA⟩ : ∃ kA, kA = k + (A.length : Int) := ⟨_, rfl⟩
    have hTA : TYc ar (TN.length : Int) (S.2.1.length : Int) (S.1.length : Int) P T kA s6 k A := ⟨⟨by omega, Or.inr ⟨hk1, by omega⟩⟩, w6, o1, ⟨o2, o4⟩, o3⟩
    rw [eA] at hTA
    have ec : (zg s6 (P + 18) (s.1 P 10)).toInt = c := by
      rw [zg_K, hk]
      exact TYc_hd hTA
    obtain ⟨x4, hx4⟩ : ∃ x, x = zg s6 (P + 18) (s.1 P 10) := ⟨_, rfl⟩
    rw [← hx4] at ec ⊢
    have hc := hTA.2.2.2.2 c List.mem_cons_self
    have hzk := (zInf_k I6.1.1.2.2.1 I6.1.1.2.2.2 (x := x4) (by omega)).2
    rw [ec] at hzk
    have eL6 : KI (s6.2 (P + 6)) = L := I6.1.1.1.2.1
    -- a blame, or none behind a fault
    have blm : ∀ (y : Int32), (y.toInt = 4 ∨ y.toInt = 6) → (ffs G = 0 → R = (y.toInt + 16 * L t, [])) → (¬ ffs G = 0 → R.1 = ffs G) → Zt (d + 5 + 8) (wd P 38) 38 [.ref P, .int y, .int (s.1 84 5)] s6 (fun v8 s9 => v8 = none ∧ v_10_58 (fun j => Zt (d + 5 + 8) (wd P j) j) P a1 (s.1 84 5) (s.1 P 10) x4 (zg s6 (P + 24) (x4 * 6 + 4)) s9 (fun v s' => ∃ r : Int32, v = some (.int r) ∧ CPz ar (TN.length : Int) S P T k t (aHd K L t) R Cd s s' r)) := by
      intro y hy hR1 hR2
      refine Zt.imp (Zt.mo (d := 9) (by omega) (zs_38b (d := 0) hP (by rw [eL6, hat]; omega) (by omega))) ?_
      rintro v8 s9 ⟨rfl, hcs⟩
      refine ⟨rfl, ?_⟩
      rcases hcs with ⟨z0, -, x, hx, rfl⟩ | ⟨hc, rfl⟩
      · rw [eL6, hat] at hx
        rw [g3] at z0
        have eR := hR1 z0
        exact bad _ _ s6 _ rfl rfl (by rw [zf_1, if_pos ⟨rfl, rfl⟩, hx, eR]) (by rw [eR]; show ¬ y.toInt + 16 * L t = 0; omega)
      · have z0 : ¬ ffs G = 0 := fun z => hc ⟨by rw [g3]; exact z, by omega⟩
        exact bad _ _ s9 _ rfl rfl (by rw [g3]; exact (hR2 z0).symm) (by rw [hR2 z0]; exact z0)
    have eR : R = if ffs G = 0 then (if kd c = 1 then (if NV K L (nxT K L t) = (fTy K L W ar TN Ls c).length then (exP K L W ar kd TN Ls S ev (eta (argT ar (c :: A')) []) ((exU K L (nxT K L t) (NV K L (nxT K L t))).zip (fTy K L W ar TN Ls c)), c :: A') else (4 + 16 * L t, [])) else (6 + 16 * L t, [])) else (ffs G, []) := by
      rw [hR]
      unfold exL
      rw [hxT, eA]
      rfl
    refine ⟨fun z => ?_, fun z => ?_⟩
    · have hk1' : kd c = 1 := Decidable.byContradiction (fun q => z (hzk.mpr q))
      obtain ⟨c1, c2, c3, c4, c5, c6, ⟨c7, c7'⟩, c8⟩ := cz_fl h I6.1 hk1'
      rw [if_pos hk1'] at eR
      have t4 : (zg s6 (P + 24) (x4 * 6 + 4)).toInt = ((fTy K L W ar TN Ls c).length : Int) := by
        rw [zg_ty (s := s6) (P := P) (a1 := x4) (c := 4) (k := 4) (by decide) (by decide) (by omega), ec, c3]
      have lst : (zg s6 (P + 12) (s6.1 84 5)).toInt = (NV K L (nxT K L t) : Int) := by
        rw [zg_K, at6]
        exact (I6.2.2.1 (nxT K L t) (by omega) (by omega)).2.1 hAO.1
      rw [lst, t4]
      refine ⟨fun z2 => ?_, fun z2 => blm 4 (Or.inl (by decide)) (fun z3 => ?_) (fun z3 => ?_)⟩
      · rw [if_pos (show NV K L (nxT K L t) = (fTy K L W ar TN Ls c).length by omega)] at eR
        by_cases z3 : ffs G = 0
        · rw [if_pos z3] at eR
          unfold v_10_58
          obtain ⟨x5, hx5⟩ : ∃ x, x = zg s6 (P + 24) (x4 * 6 + 4) := ⟨_, rfl⟩
          rw [← hx5] at t4 ⊢
          have hz6 : SZc P s6 t := SZc_1 (f6 _ _ (by omega) (by omega)) hz
          refine Zt.imp (Zt.mo (d := 9) (by omega) (zs_59c (d := 0) (k := kA) (t := t) (I := (2, A, 0, [], 0)) hP (by decide) hkk (by decide) (by decide) (by decide) (by decide) hz6 (by omega) (fun s' Ds' pc cc => inz_2 (by rw [hk] at cc; exact cc) ⟨hk1, by omega, CFe_wd (CFe_df (t := T) (k := kA) hP Ds') (by omega) (Or.inr ⟨hk1, by omega⟩) w6⟩))) ?_
          rintro v7 s7 ⟨rfl, g7, cd7⟩
          have hz7 : SZc P s7 (nxT K L t) := SZc_c hz6 cd7 (by show ((1 : Nat) : Int) ≤ nxT K L t - t; omega)
          have F7 : CFe P T kA s6 s7 := CFe_df hP g7
          have F7s : CFe P T k s s7 := CFe_tr F6 F7 (Int.le_refl _) (by omega)
          have f7 : ∀ c q, ¬ q = 2 → s7.1 c q = s6.1 c q := fun c q hq => g7.2 c q (fun z => hq z.2)
          have I7 := CIn_e hP hT0 hT.1 hk0 F7s I
          have t3 : (zg s7 (P + 24) (x4 * 6 + 3)).toInt = tyc s6 P c 3 := by
            rw [zg_ty (s := s7) (P := P) (a1 := x4) (c := 3) (k := 3) (by decide) (by decide) (by omega), ec]
            unfold tyc
            rw [CFe_r F7 (by decide) hP]
          have ap2 := (argT_P ha hTA.2.2.1 hTA.2.2.2.2 hTA.2.2.2.1.2).2
          obtain ⟨y3, hy3⟩ : ∃ x, x = zg s7 (P + 24) (x4 * 6 + 3) := ⟨_, rfl⟩
          rw [← hy3] at t3 ⊢
          have hSZ : SSz ar P s7 y3.toInt (fTy K L W ar TN Ls c) := by
            rw [t3]
            intro j M hM
            obtain ⟨v1, v2, v3⟩ := c7 j M hM
            have v4 := c7' j M hM
            have hk0' := I.1.2.2.2.2.1.2
            have es : slc s7 P (tyc s6 P c 3 + (j : Int)) 3 = slc s6 P (tyc s6 P c 3 + (j : Int)) 3 := by
              unfold slc
              rw [CFe_r F7 (by decide) hP]
            rw [es]
            exact ⟨v1, CFe_wd F7 (by omega) (Or.inr ⟨v1.1, by omega⟩) v2, v3⟩
          have hSK : SSk P s7 k0 y3.toInt (fTy K L W ar TN Ls c) := by
            rw [t3]
            intro j M hM
            have es : slc s7 P (tyc s6 P c 3 + (j : Int)) 3 = slc s6 P (tyc s6 P c 3 + (j : Int)) 3 := by
              unfold slc
              rw [CFe_r F7 (by decide) hP]
            rw [es]
            exact c7' j M hM
          have hNV : p_vn K L (p_e K L 11) 123 125 (0, nxT K L t) = NV K L (nxT K L t) := rfl
          refine ⟨rfl, Zt.imp (zs_11 (d := d) (m := m) (o := 123) (c := 125) (A0 := nxT K L t) (b0 := aHd K L t) (N := NV K L (nxT K L t)) (Ys := []) (Zs := fTy K L W ar TN Ls c) (co := c) (O' := A') (k := kA) (T := T) hP h hm ih I7 hT0 (by rw [f7 P 14 (by decide), g3]; exact z3) (by rw [f7 84 5 (by decide)]; exact at6) (by omega) hAO hNV hn (by omega) hhi (by rw [f7 75 3 (by decide), f6 75 3 (fun z => by omega) (by decide)]; exact ht) hT (by rw [f7 P 10 (by decide), hkA]; exact hk6) (by omega) (by omega) (by omega) (by rw [hk]; exact TYc_e F7 hTA (Int.le_refl _) (Int.le_refl _)) TYs_nil (by decide) h1 (by omega) (by omega) hSZ hSK (by omega) (fun M hM => by rw [ap2]; exact c8 M hM) hz7) ?_⟩
          rintro v8 s8 ⟨rfl, u1, u2⟩
          rw [← hev] at u1
          refine ⟨rfl, ?_⟩
          by_cases z8 : (s8.1 P 14).toInt = 0
          rotate_left
          · refine Zt.imp (Zt.mo (d := 9) (by omega) (zs_59 (d := 0) hP (by decide) (by decide) (by omega) (by decide) (by decide) (by decide))) ?_
            rintro v9 s9 ⟨rfl, g9⟩
            have f9 : ∀ c q, ¬ q = 2 → s9.1 c q = s8.1 c q := fun c q hq => g9.2 c q (fun z => hq z.2)
            refine ⟨rfl, _, rfl, ?_, fun z4 => ?_⟩
            · rw [f9 P 14 (by decide), u1, eR]
            · rw [eR] at z4
              exact absurd (by rw [u1]; exact z4) z8
          obtain ⟨y1, y2, y3', k', y4, y5, y6, y7, y8⟩ := u2 z8
          have hz8 : SZc P s8 (aHd K L t - 2) := SZc_c hz7 y7 (by omega)
          refine Zt.imp (Zt.mo (d := 9) (by omega) (zs_59c (d := 0) (k := k') (t := aHd K L t - 2) (I := (3, [], (NV K L (nxT K L t) : Int), [], 0)) hP (by decide) (by decide) (by omega) (by decide) (by decide) (by decide) hz8 (by omega) (fun s' _ pc cc => inz_3 (by rw [show x5.toInt = (NV K L (nxT K L t) : Int) by omega] at cc; exact cc)))) ?_
          rintro v9 s9 ⟨rfl, g9, cd9⟩
          have f9 : ∀ c q, ¬ q = 2 → s9.1 c q = s8.1 c q := fun c q hq => g9.2 c q (fun z => hq z.2)
          refine ⟨rfl, _, rfl, ?_, fun z4 => ?_⟩
          · rw [f9 P 14 (by decide), u1, eR]
          · rw [eR] at z4 ⊢
            have F9 : CFe P T kA s6 s9 := CFe_tr F7 (CFe_tr y1 (CFe_df hP g9) (Int.le_refl _) (Int.le_refl _)) (Int.le_refl _) (Int.le_refl _)
            refine ⟨CFe_tr F6 F9 (Int.le_refl _) (by omega), by rw [f9 84 5 (by decide)]; exact y2, ⟨?_, ?_⟩, T, k', ⟨by rw [f9 75 3 (by decide)]; exact y3', Int.le_refl _, by omega⟩, ⟨by rw [f9 P 10 (by decide)]; exact y4, by omega, by omega⟩, ?_⟩
            · rw [f9 P 10 (by decide), y4, hCd]
              have c68 := CDx_tr (T := T) cd7 y7 y1 y5
              have c69 := CDx_tr (T := T) c68 cd9 (CFe_df hP g9) (Int.le_refl _)
              rw [hA] at c69
              exact CDx_l F6 (f6 _ _ (by omega) (by omega)) (by rw [g1.1 _ (by omega) (by omega) (by omega) (by omega), hst, q1.2.1 _ (by omega) (by omega)]) c69
            · rw [hCd]
              unfold ciL
              rw [List.length_cons, List.length_append]
              show ((_ + 1 + 1 : Nat) : Int) ≤ _
              omega
            rw [hk]
            exact TYc_e F9 hTA (Int.le_refl _) y5
        · rw [if_neg z3] at eR
          exact bad _ _ s6 s6 rfl rfl (by rw [g3, eR]) (by rw [eR]; exact z3)
      · rw [eR, if_pos z3, if_neg (by omega)]
        rfl
      · rw [eR, if_neg z3]
    · have hk1' : ¬ kd c = 1 := hzk.mp z
      rw [if_neg hk1'] at eR
      refine blm 6 (Or.inr (by decide)) (fun z3 => ?_) (fun z3 => ?_)
      · rw [eR, if_pos z3]
        rfl
      · rw [eR, if_neg z3]
  · have eR : R.1 = (tlT K L (cdOf W S.1 S.2.1 TN) ar 10 t).1 := by
      rw [hR]
      unfold exL exT
      rw [if_neg w1, if_neg w1]
    have hf4 : ¬ (s4.1 P 14).toInt = 0 := by rw [e14, q2]; exact w1
    refine Zt.imp (Zt.mo (d := 9) (by omega) (zs_135x (d := 0) hP hf4)) ?_
    rintro v5 s6 ⟨rfl, hs6⟩
    subst hs6
    have b0 : ∀ a4 : Int32, v_10_58 (fun j => Zt (d + 5 + 8) (wd P j) j) P a1 (s.1 84 5) (s.1 P 10) a4 (zg s6 (P + 24) (a4 * 6 + 4)) s6 (fun v s' => ∃ r : Int32, v = some (.int r) ∧ CPz ar (TN.length : Int) S P T k t (aHd K L t) R Cd s s' r) := fun a4 => bad a4 _ s6 s6 rfl rfl (by rw [e14, q2, eR]) (by rw [eR]; exact w1)
    refine ⟨rfl, fun _ => ⟨fun _ => b0 _, fun _ => ?_⟩, fun _ => ?_⟩
    · refine Zt.imp (Zt.mo (d := 9) (by omega) (zs_38x (d := 0) hP hf4)) ?_
      rintro v8 s9 ⟨rfl, hs9⟩
      subst hs9
      exact ⟨rfl, b0 _⟩
    · refine Zt.imp (Zt.mo (d := 9) (by omega) (zs_38x (d := 0) hP hf4)) ?_
      rintro v8 s9 ⟨rfl, hs9⟩
      subst hs9
      exact ⟨rfl, b0 _⟩
end ZZLI
