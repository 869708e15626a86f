/-! ===== the reference: a METHOD, from its env on ===== -/
section ZTM
variable {K L W ar kd : Int → Int} {n lo hi B b A0 x y β0 β1 : Int} {TN Ls : List Int} {S : Scp} {s v0 u : yS} {d m g : Nat} {a1 a2 a3 a4 a5 : Int32} {z z' y1 t c l w w1 e a co : Int} {O' : List Int} {zt : Nat → Int}
theorem GRk_gr {s s' : yS} {g g' : Nat} {X : List (List Int)} (hf : GRf g' s s') (hg : ¬ g = g') (h : GRk s g X) : GRk s' g X := by
  obtain ⟨h0, h1⟩ := h
  refine ⟨h0, fun i Y hY => ?_⟩
  have hi := (List.getElem?_eq_some_iff.mp hY).1
  obtain ⟨v, v1, v2, v3, v4, v5⟩ := h1 i Y hY
  refine ⟨v, by rw [hf.2.2 267 _ (fun q => by omega) (fun q => by omega)]; exact v1, by rw [hf.2.2 268 _ (fun q => by omega) (fun q => by omega)]; exact v2, by rw [hf.1]; exact v3, by rw [hf.1]; exact v4, GRf_el hf v5⟩
theorem exY_at {j : Nat} (h : j < exN K L (a + 1)) : (exY K L (a + 1))[j]? = some (uS (nxT K L) (a + 3) j) := by
  unfold exY
  rw [List.getElem?_map, List.getElem?_range h, show a + 1 + 2 = a + 3 by omega]
  rfl
theorem exY_len : (exY K L (a + 1)).length = exN K L (a + 1) := by
  unfold exY
  rw [List.length_map, List.length_range]
/-- what comes out from the env on -/
def mR (K L W ar kd : Int → Int) (TN Ls : List Int) (S : Scp) (Q : Int → Int × List Int) (η : Nat → List Int) (a : Int) (x : Nat × Nat × List (List Int)) : Int × List Int := if ffs (((exY K L (a + 1)).zip x.2.2).map (fun p => ftk L (exK K L W ar kd TN Ls S (wdC K L W ar TN S.1 S.2.1 p.1) η p.2) p.1)) = 0 then (if ffs (((exU K L (mO K L (a + 1)).2 (NM K L (a + 1))).zip (x.2.2.drop x.1)).map (tkv K L W ar kd TN Ls S Q η)) = 0 then (if 60 < (sbs η (x.2.2.getD (x.1 + x.2.1) [])).length then (9 + 16 * L (a + 1), []) else (0, sbs η (x.2.2.getD (x.1 + x.2.1) []))) else (ffs (((exU K L (mO K L (a + 1)).2 (NM K L (a + 1))).zip (x.2.2.drop x.1)).map (tkv K L W ar kd TN Ls S Q η)), [])) else (ffs (((exY K L (a + 1)).zip x.2.2).map (fun p => ftk L (exK K L W ar kd TN Ls S (wdC K L W ar TN S.1 S.2.1 p.1) η p.2) p.1)), [])
set_option maxHeartbeats 8000000 in
theorem m_119 {Φ Φ1 : yS → Prop} (hst1 : ∀ u u', CFq z y1 A0 (u.1 65).toInt u u' → (u.1 65).toInt ≤ (u'.1 65).toInt → Φ1 u → Φ1 u') (hΦ1 : Φ1 v0) (hΦ : ∀ u, EF0 (nsD K L Ls) B A0 s u → Φ1 u → eAr K L u (eC K L W ar kd TN Ls B β0 β1 S A0 (u.1 65).toInt u m) 40 41 e y1 z' (mO K L (a + 1)).2 → Φ u) (hz0 : 0 ≤ z) (h221 : (s.2.1 221 e.toNat).toInt = 4) (hW : EWd K L W ar kd TN Ls n lo hi B b β0 β1 S) (hm : m ≤ 10) (ih : E217 K L W ar kd TN Ls n B b A0 x y β0 β1 S m) (hI : EIn K L W ar kd TN Ls n B b A0 x y β0 β1 S s) (hEv : EF0 (nsD K L Ls) B A0 s v0) (hFv : EFl s v0) (hNv : NFx z y1 s v0) (h8v : (v0.1 8).toInt = 0) (h65 : (v0.1 65).toInt ≤ (s.1 65).toInt + w1) (h1 : a1.toInt = e) (h222 : (s.2.1 222 e.toNat).toInt = B + (a + 1)) (h229 : (s.2.1 229 e.toNat).toInt = if 0 < exN K L (a + 1) then zt 0 else -1) (hzt : ∀ j, j < exN K L (a + 1) → (0 ≤ zt j ∧ (s.2.1 222 (zt j).toNat).toInt = B + uS (nxT K L) (a + 3) j) ∧ (s.2.1 225 (zt j).toNat).toInt = if j + 1 < exN K L (a + 1) then zt (j + 1) else -1) (hAr : eAr K L s (eT K L B s m) 40 41 e y1 z' (mO K L (a + 1)).2) (hzy : z ≤ y1) (hO : TYp ar (TN.length : Int) β0 β1 (S.2.1.length : Int) (S.1.length : Int) v0 a2.toInt l (co :: O')) (hco : 0 ≤ co ∧ co < (TN.length : Int)) (hg : g < kHd K L Ls) (h3 : a3.toInt = 204 * b + (g : Int)) (h4 : a4.toInt = hbd K L Ls g) (how : owd K L W TN Ls g = co) (hc1 : exN K L (a + 1) = (hdd K L W ar TN Ls g).1) (hc2 : NM K L (a + 1) = (hdd K L W ar TN Ls g).2.1) (hTy : ∀ j, j < exN K L (a + 1) → TYp ar (TN.length : Int) β0 β1 (S.2.1.length : Int) (S.1.length : Int) v0 (v0.2.1 231 (zt j).toNat).toInt (v0.2.1 232 (zt j).toNat).toInt (wdC K L W ar TN S.1 S.2.1 (uS (nxT K L) (a + 3) j)) ∧ 0 ≤ uS (nxT K L) (a + 3) j ∧ uS (nxT K L) (a + 3) j ≤ n) (hm1 : (mO K L (a + 1)).1 = 0) (hOk : AOk K L m 40 41 (mO K L (a + 1)).2 (aPt K L a)) (ha0 : 0 ≤ a) (ham : a + 1 ≤ (mO K L (a + 1)).2) (hn : aPt K L a ≤ n) (hD : ∀ v, (mO K L (a + 1)).2 ≤ v → v < aPt K L a → nsD K L Ls v) (hA : (v0.1 65).toInt + (aPt K L a - (mO K L (a + 1)).2) ≤ 100000) (hw : w1 + (aPt K L a - (mO K L (a + 1)).2) ≤ w) : ub_226_119 (Par d) a1 a2 a3 a4 a5 v0 (EPq K L ar TN Ls B A0 β0 β1 S z z' w (mR K L W ar kd TN Ls S (exE6 K L W ar kd TN Ls S m) (exE K L W ar TN S (co :: O') (a + 1)) a (hdd K L W ar TN Ls g)) Φ s) := by
  have hWs := hW
  obtain ⟨hP, -, hSP, hB, hb⟩ := hWs
  obtain ⟨ha, h24⟩ := PR_ar hP
  have hIv := EIn_f hP hEv hFv hI
  have h100 := hIv.2.2.1.2.1
  have hvA0 := hIv.2.2.1.1
  have hnT := PR_nT hP
  have hc24 := hP.2.2.1.1
  obtain ⟨oa, oE⟩ := AOk_o hm hOk
  obtain ⟨c226, zz, ww, z0, zN, c224, cE, cmo⟩ := eAr_ch hAr hOk
  obtain ⟨M0, hM0⟩ : ∃ M0, M0 = (mO K L (a + 1)).2 := ⟨_, rfl⟩
  have eNM : NM K L (a + 1) = p_vn K L (p_e K L 11) 40 41 (0, M0) := by
    unfold NM
    rw [hM0]
    congr 1
    exact Prod.ext hm1 rfl
  rw [← hM0] at oa oE c226 zN c224 cE cmo hOk hA hD ham hw hΦ
  obtain ⟨N, hN⟩ : ∃ N, N = NM K L (a + 1) := ⟨_, rfl⟩
  rw [← eNM, ← hN] at oE c226 zN c224 cE cmo
  obtain ⟨Q, hQ⟩ : ∃ Q, Q = exE6 K L W ar kd TN Ls S m := ⟨_, rfl⟩
  obtain ⟨Ys, hYs⟩ : ∃ Ys, Ys = (exY K L (a + 1)).map (fun y => wdC K L W ar TN S.1 S.2.1 y) := ⟨_, rfl⟩
  obtain ⟨η, hη⟩ : ∃ η, η = exE K L W ar TN S (co :: O') (a + 1) := ⟨_, rfl⟩
  have hη' : η = eta (argT ar (co :: O')) Ys := by
    rw [hη, hYs]
    rfl
  obtain ⟨Nt, hNt⟩ : ∃ Nt, Nt = exN K L (a + 1) := ⟨_, rfl⟩
  obtain ⟨hx, hhx⟩ : ∃ hx, hx = hdd K L W ar TN Ls g := ⟨_, rfl⟩
  rw [← hQ, ← hη, ← hhx]
  rw [← hNt] at h229 hzt hc1 hTy
  rw [← hhx] at hc1 hc2
  rw [← hN] at hc2
  have hYl : (exY K L (a + 1)).length = Nt := by rw [hNt]; exact exY_len
  have hYa : ∀ j, j < Nt → (exY K L (a + 1))[j]? = some (uS (nxT K L) (a + 3) j) := fun j hj => exY_at (by rw [← hNt]; exact hj)
  have hYsl : Ys.length = Nt := by rw [hYs, List.length_map]; exact hYl
  have hYsa : ∀ j, j < Nt → Ys[j]? = some (wdC K L W ar TN S.1 S.2.1 (uS (nxT K L) (a + 3) j)) := fun j hj => by
    rw [hYs, List.getElem?_map, hYa j hj]
    rfl
  -- the HEAD
  have hHD : ∀ v, EF0 (nsD K L Ls) B A0 s v → HDe ar b A0 v g hx (hbd K L Ls g) (ar co) := fun v hv => by
    have := ((PG_of hP (RST_e hP hv hI.1)).2.2.2.2.1 g hg).1
    rw [how, ← hhx] at this
    exact this
  obtain ⟨-, bO, ⟨-, hT2, -⟩, -⟩ := (PG_of hP hI.1).2.2.2.2.1 g hg
  rw [← hhx] at hT2
  obtain ⟨-, ⟨x16, x26, xlen⟩, xL, -, -, -⟩ := hHD s EF0_rf
  have h6c : ar co ≤ 6 := ar_6 (PG_of hP hI.1) hco.1 (fun _ => hco.2)
  obtain ⟨gP, gL⟩ := argT_P ha hO.2.2.2.2.1 hO.2.2.2.2.2.2 hO.2.2.2.2.2.1.2
  have l6 : (argT ar (co :: O')).length ≤ 6 := by omega
  have hYok : ∀ v ∈ Ys, isR ar 1 v ∧ cdW (S.2.1.length : Int) (S.1.length : Int) v ∧ cdT (TN.length : Int) v := fun v hv => by
    obtain ⟨j, hj, hj2⟩ := List.mem_iff_getElem.mp hv
    have hjn : j < Nt := by omega
    have ev : v = wdC K L W ar TN S.1 S.2.1 (uS (nxT K L) (a + 3) j) := by
      have := hYsa j hjn
      rw [List.getElem?_eq_getElem hj, hj2] at this
      exact Option.some.inj this
    rw [ev]
    obtain ⟨-, -, -, -, q1, ⟨-, q2⟩, q3⟩ := (hTy j hjn).1
    exact ⟨q1, q3, q2⟩
  have hcd : ∀ Z ∈ hx.2.2, cdW ((argT ar (co :: O')).length : Int) (Ys.length : Int) Z := fun Z hZ => by
    rw [gL, hYsl, hc1]
    exact (xL Z hZ).1
  have hpo : ∀ Z ∈ hx.2.2, pOK ar (TN.length : Int) (S.2.1.length : Int) (S.1.length : Int) η Z := fun Z hZ => by
    rw [hη']
    exact pOK_eta l6 gP hYok (hcd Z hZ)
  have hRp : ∀ Z ∈ hx.2.2, (Z.map (rhE ar (hbd K L Ls g) (2000 + 6 * (g : Int)))).flatMap (rpt (hbd K L Ls g) ((argT ar (co :: O')).map (List.map (rhE ar β0 β1))) (2000 + 6 * (g : Int)) (Ys.map (List.map (rhE ar β0 β1)))) = (sbs η Z).map (rhE ar β0 β1) := fun Z hZ => by
    rw [hη']
    exact enc_put ha bO l6 Z (hcd Z hZ) (fun c hc => eta_at l6 ⟨(hcd Z hZ c hc).2.2.1, (hcd Z hZ c hc).2.2.2⟩)
  obtain ⟨L3, hL3⟩ : ∃ L3, L3 = ((exY K L (a + 1)).zip hx.2.2).map (fun p => ftk L (exK K L W ar kd TN Ls S (wdC K L W ar TN S.1 S.2.1 p.1) η p.2) p.1) := ⟨_, rfl⟩
  obtain ⟨LP, hLP⟩ : ∃ LP, LP = ((exU K L M0 N).zip (hx.2.2.drop hx.1)).map (tkv K L W ar kd TN Ls S Q η) := ⟨_, rfl⟩
  obtain ⟨ZR, hZR⟩ : ∃ ZR, ZR = hx.2.2.getD (hx.1 + hx.2.1) [] := ⟨_, rfl⟩
  have hL3l : L3.length = Nt := by
    rw [hL3, List.length_map, List.length_zip, hYl, xlen]
    omega
  have hLPl : LP.length = N := by
    rw [hLP, List.length_map, List.length_zip, exU_len, List.length_drop, xlen]
    omega
  have hRm : mR K L W ar kd TN Ls S Q η a hx = if ffs L3 = 0 then (if ffs LP = 0 then (if 60 < (sbs η ZR).length then (9 + 16 * L (a + 1), []) else (0, sbs η ZR)) else (ffs LP, [])) else (ffs L3, []) := by
    unfold mR
    rw [← hL3, ← hN, ← hM0, ← hLP, ← hZR]
  rw [hRm]
  have hZRm : ZR ∈ hx.2.2 := by
    rw [hZR]
    exact gtD_mem (by omega)
  obtain ⟨e1, hee⟩ : ∃ e1 : Nat, (v0.1 70).toInt = (e1 : Int) := ⟨_, (Int.toNat_of_nonneg hIv.2.2.1.2.2).symm⟩
  unfold ub_226_119
  rw [h1]
  refine ⟨fun _ => ?_, fun w => absurd (by omega) w⟩
  refine Par.imp (nw_188 hee) ?_
  rintro v2 s7 ⟨x3, rfl, n1, n2, n3, n4, n5, n6, n7⟩
  have TY7 : TYp ar (TN.length : Int) β0 β1 (S.2.1.length : Int) (S.1.length : Int) s7 a2.toInt l (co :: O') := by
    obtain ⟨t1, t2, t3, t4, t5⟩ := hO
    refine ⟨by rw [n3 65 (by decide)]; exact t1, t2, ?_⟩
    rw [n3 64 (by decide)]
    exact TYe_w (n4 _) ⟨t3, t4, t5⟩
  refine ⟨x3, rfl, Par.imp (gx_189 ha h6c TY7 n1) ?_⟩
  rintro v10 s9 ⟨rfl, f1, f2, f3, f4⟩
  have W9 : WFr (v0.1 64).toInt (e1 : Int) v0 s9 := WFr_tr (n4 _) (WFr_gr f1 (by omega)) (Int.le_refl _) (Int.le_refl _)
  have fld9 : ∀ k, ¬ k = 70 → s9.1 k = v0.1 k := fun k hk => by rw [f1.1, n3 k hk]
  have E9 : EF0 (nsD K L Ls) B A0 s s9 := EF0_tr hEv (EF0_wf W9 (by omega))
  have h75 : (s9.1 75).toInt = b := by
    rw [fld9 75 (by decide)]
    exact hIv.1.1.1
  refine ⟨rfl, fun _ => ?_⟩
  have c229 : (s9.2.1 229 e.toNat).toInt = if 0 < Nt then zt 0 else -1 := by
    rw [EF0_r E9 (q := 229) (by unfold rEx; omega)]
    exact h229
  refine Par.imp (x_227 (zt := zt) h75 h3 n1 (show Nt ≤ 6 by omega) c229 (fun j hj => ⟨(hzt j hj).1.1, by rw [EF0_r E9 (q := 225) (by unfold rEx; omega)]; exact (hzt j hj).2⟩)) ?_
  rintro v11 s10 ⟨rfl, k1, k2, k3, k4⟩
  have W10 : WFr (v0.1 64).toInt (e1 : Int) v0 s10 := WFr_tr W9 (WFr_gr k1 (by omega)) (Int.le_refl _) (Int.le_refl _)
  have fld : ∀ k, ¬ k = 70 → s10.1 k = v0.1 k := fun k hk => by rw [k1.1, fld9 k hk]
  have e70 : (s10.1 70).toInt = (e1 : Int) + 1 := by rw [k1.1, f1.1]; exact n2
  have E10 : EF0 (nsD K L Ls) B A0 s s10 := EF0_tr hEv (EF0_wf W10 (by omega))
  have r10 : ∀ q j, q < 264 → s10.2.1 q j = v0.2.1 q j := fun q j hq => W10.2.2.1 q j (Or.inl hq)
  have EV10 : EVk s10 e1 (hbd K L Ls g) ((argT ar (co :: O')).map (List.map (rhE ar β0 β1))) (2000 + 6 * (g : Int)) (Ys.map (List.map (rhE ar β0 β1))) := by
    refine ⟨⟨?_, ?_, GRk_gr k1 (by omega) f4⟩, k2, by rw [k3, List.length_map, hYsl], by rw [List.length_map]; omega, fun j Y hY => ?_⟩
    · rw [k1.2.2 265 _ (fun q => by omega) (fun q => by omega), f2]
      exact h4
    · rw [k1.2.2 266 _ (fun q => by omega) (fun q => by omega)]
      exact f3
    · rw [List.getElem?_map] at hY
      obtain ⟨Y', hY', rfl⟩ := Option.map_eq_some_iff.mp hY
      have hj := (List.getElem?_eq_some_iff.mp hY').1
      have hjn : j < Nt := by omega
      have eY : Y' = wdC K L W ar TN S.1 S.2.1 (uS (nxT K L) (a + 3) j) := by
        have := hYsa j hjn
        rw [hY'] at this
        exact Option.some.inj this
      obtain ⟨q1, q2⟩ := k4 j hjn
      obtain ⟨t1, t2, t3, t4, -⟩ := (hTy j hjn).1
      have r9 : ∀ q j, q < 264 → s9.2.1 q j = v0.2.1 q j := fun q j hq => W9.2.2.1 q j (Or.inl hq)
      rw [← eY] at t1 t2 t3 t4
      refine ⟨(v0.2.1 231 (zt j).toNat).toInt, by rw [q1, r9 231 _ (by decide)], by rw [q2, r9 232 _ (by decide), List.length_map]; exact t2, ?_, ?_, WFr_el W10 t3.1 (by rw [List.length_map]; exact t3.2) t4⟩
      · rw [fld 64 (by decide), List.length_map]
        exact t3
      · rw [fld 65 (by decide), List.length_map]
        exact t1
  have hEIn : ∀ v, EF0 (nsD K L Ls) B A0 s v → EFl s10 v → EIn K L W ar kd TN Ls n B b A0 x y β0 β1 S v := by
    intro v v1 g1
    obtain ⟨i1, i2, i3, i4⟩ := hI
    have Fs : EFl s (sf v 70 (v0.1 70)) := EFl_tr hFv (EFl_env W10 rfl (by omega) hee (fld 64 (by decide)) e70 g1 hee)
    have Es : EF0 (nsD K L Ls) B A0 s (sf v 70 (v0.1 70)) := EF0_tr v1 (EF0_sf (by unfold fEx; omega))
    obtain ⟨j1, j2, ⟨j3, j4, j5⟩, j6⟩ := EIn_f hP Es Fs ⟨i1, i2, i3, i4⟩
    refine ⟨RST_e hP v1 i1, j2, ⟨j3, j4, ?_⟩, j6⟩
    rw [g1.1.1, e70]
    omega
  have hLa1 := hP.1.1.2.2 (a + 1) (by omega) (by omega)
  -- the end
  have f241 : ∀ (R : Int × List Int) (b1 b2 b3 b4 b5 b6 b7 : Int32) (v : yS), EF0 (nsD K L Ls) B A0 s v → (v.1 8).toInt = R.1 → 0 ≤ R.1 → (R.1 = 0 → EFl s10 v ∧ NFx y1 z' s10 v ∧ (v.1 65).toInt ≤ (s10.1 65).toInt + (aPt K L a - M0) ∧ TYp ar (TN.length : Int) β0 β1 (S.2.1.length : Int) (S.1.length : Int) v (v.1 71).toInt (v.1 72).toInt R.2 ∧ ∀ i, i < N → eC K L W ar kd TN Ls B β0 β1 S A0 (v.1 65).toInt v m (zz i) (zz (i + 1)) (uS (nxE K L) (M0 + 1) i) (ww i)) → ub_226_241 (Par d) b1 b2 b3 b4 b5 b6 b7 v (EPq K L ar TN Ls B A0 β0 β1 S z z' w R Φ s) := by
    intro R b1 b2 b3 b4 b5 b6 b7 v v1 v2 v2n v3
    unfold ub_226_241
    intro _ y1' hy1' s2 hs2
    refine Par.imp x_216 ?_
    rintro v4 s3 ⟨rfl, hs3⟩
    refine ⟨rfl, rfl, ?_, ?_, v2n, fun q => ?_⟩
    · rw [hs3, hs2]
      exact EF0_tr v1 (EF0_tr (EF0_sf (by unfold fEx; omega)) (EF0_tr (EF0_sf (by unfold fEx; omega)) (EF0_sf (by unfold fEx; omega))))
    · rw [hs3, sfr_1, if_neg (by decide), sfr_1, if_neg (by decide), hs2, sfr_1, if_neg (by decide)]
      exact v2
    · obtain ⟨g1, g2, g3, g4, g5⟩ := v3 q
      have ev70 : (v.1 70).toInt = (e1 : Int) + 1 := by rw [g1.1.1]; exact e70
      have FX : EFl v0 s3 := by
        rw [hs3, hs2]
        exact EFl_tr (EFl_env W10 rfl (by omega) hee (fld 64 (by decide)) e70 g1 (by omega)) (EFl_tr (EFl_sf (by omega)) (EFl_sf (by omega)))
      refine ⟨EFl_tr hFv FX, fun q j hq hj => ?_, ?_, ?_, ?_⟩
      · rw [hs3, sfr_2, sfr_2, hs2, sfr_2]
        by_cases hj1 : z ≤ (j : Int) ∧ (j : Int) < y1
        · exfalso
          have := (cmo 0 N (Nat.zero_le _) (Nat.le_refl _))
          rw [z0, zN] at this
          omega
        · by_cases hj2 : y1 ≤ (j : Int) ∧ (j : Int) < z'
          · exfalso
            omega
          · rw [g2 q j hq hj2, r10 q j (by omega), hNv q j hq hj1]
      · rw [hs3, sfr_1, if_neg (by decide), sfr_1, if_neg (by decide), hs2, sfr_1, if_neg (by decide)]
        rw [fld 65 (by decide)] at g3
        omega
      · have e80 : s3.1 80 = v.1 71 := by
          rw [hs3, sfr_1, if_neg (by decide), sfr_1, if_pos rfl, hs2, sfr_1, if_neg (by decide)]
        have e81 : s3.1 81 = v.1 72 := by
          rw [hs3, sfr_1, if_pos rfl, hs2, sfr_1, if_neg (by decide)]
        rw [e80, e81]
        obtain ⟨t1, t2, t3, t4, t5⟩ := g4
        have k65 : s3.1 65 = v.1 65 := by rw [hs3, sfr_1, if_neg (by decide), sfr_1, if_neg (by decide), hs2, sfr_1, if_neg (by decide)]
        have k64 : s3.1 64 = v.1 64 := by rw [hs3, sfr_1, if_neg (by decide), sfr_1, if_neg (by decide), hs2, sfr_1, if_neg (by decide)]
        refine ⟨by rw [k65]; exact t1, t2, ?_⟩
        rw [k64]
        refine ⟨t3, ?_, t5⟩
        rw [hs3, hs2]
        exact t4
      · have c3v : ∀ {x' y' : Int} {A1 A2 : Int}, CFq x' y' A1 A2 v s3 := by
          rw [hs3, hs2]
          exact CFq_tr CFq_sf (CFq_tr CFq_sf CFq_sf)
        have e65 : s3.1 65 = v.1 65 := by rw [hs3, sfr_1, if_neg (by decide), sfr_1, if_neg (by decide), hs2, sfr_1, if_neg (by decide)]
        have Es3 : EF0 (nsD K L Ls) B A0 s s3 := by
          rw [hs3, hs2]
          exact EF0_tr v1 (EF0_tr (EF0_sf (by unfold fEx; omega)) (EF0_tr (EF0_sf (by unfold fEx; omega)) (EF0_sf (by unfold fEx; omega))))
        have rr : ∀ q, ¬ rEx q → s3.2.1 q = s.2.1 q := fun q hq => EF0_r Es3 hq
        refine hΦ s3 Es3 (hst1 v0 s3 (CFq_tr (CFq_wf W10 (by omega)) (CFq_tr (CFq_or (fun q hq => (EF0_r v1 hq).trans (EF0_r E10 hq).symm) g1 g2 (Or.inl (Int.le_refl _)) hz0 (by rw [fld 65 (by decide)]; exact Int.le_refl _)) c3v)) ?_ hΦ1) (eAr_mk (z := zz) (w := ww) hOk ?_ z0 (by rw [← eNM, ← hN]; exact zN) ?_ ?_)
        · rw [e65, ← fld 65 (by decide)]
          exact g1.2.1.1
        · rw [← eNM, ← hN, Es3.2.2.2.1 _ (by rw [h221]; decide)]
          exact c226
        · rw [← eNM, ← hN, rr 224 (by unfold rEx; omega)]
          exact c224
        · rw [← eNM, ← hN]
          intro i hi
          obtain ⟨-, t2, t3⟩ := cE i hi
          refine ⟨?_, t2, by rw [rr 225 (by unfold rEx; omega)]; exact t3⟩
          rw [e65]
          exact eC_c m c3v (Int.le_refl _) (g5 i hi)
  -- the E of the METHOD
  have f182 : ∀ (b6 b7 : Int32) (v : yS), EF0 (nsD K L Ls) B A0 s v → (v.1 8).toInt = ffs L3 → 0 ≤ ffs L3 → EFl s10 v → (∀ q j, q < 264 → v.2.1 q j = s10.2.1 q j) → v.1 65 = s10.1 65 → ub_226_182 (Par d) a1 a2 a3 a4 x3 b6 b7 v (EPq K L ar TN Ls B A0 β0 β1 S z z' w (if ffs L3 = 0 then (if ffs LP = 0 then (if 60 < (sbs η ZR).length then (9 + 16 * L (a + 1), []) else (0, sbs η ZR)) else (ffs LP, [])) else (ffs L3, [])) Φ s) := by
    intro b6 b7 v v1 v2 v2n v3 v4 v5
    unfold ub_226_182
    rw [h1]
    intro _
    by_cases hf0 : ffs L3 = 0
    · rw [if_pos hf0]
      rw [hf0] at v2
      refine ⟨fun b1 b2 b3 b4 b5 b6 b7 v => b1 = a1 ∧ b3 = a3 ∧ b5 = x3 ∧ EF0 (nsD K L Ls) B A0 s v ∧ ∃ k : Nat, k ≤ N ∧ b6.toInt = (k : Int) ∧ b7.toInt = (if k < N then ww k else -1) ∧ (v.1 8).toInt = ffs (LP.take k) ∧ 0 ≤ ffs (LP.take k) ∧ (ffs (LP.take k) = 0 → EFl s10 v ∧ NFx y1 (zz k) s10 v ∧ (v.1 65).toInt ≤ (s10.1 65).toInt + (uS (nxE K L) (M0 + 1) k - (M0 + 1)) ∧ ∀ i, i < k → eC K L W ar kd TN Ls B β0 β1 S A0 (v.1 65).toInt v m (zz i) (zz (i + 1)) (uS (nxE K L) (M0 + 1) i) (ww i)), ⟨rfl, rfl, rfl, v1, 0, Nat.zero_le _, by decide, ?_, ?_, by rw [List.take_zero]; decide, fun _ => ⟨v3, fun q j hq _ => v4 q j (by omega), ?_, fun i hi => absurd hi (Nat.not_lt_zero _)⟩⟩, ?_⟩
      · rw [EF0_r v1 (q := 224) (by unfold rEx; omega)]
        exact c224
      · rw [v2, List.take_zero]
        rfl
      · rw [v5]
        show (s10.1 65).toInt ≤ (s10.1 65).toInt + ((M0 + 1) - (M0 + 1))
        omega
      rintro b1 b2 b3 b4 b5 b6 b7 v ⟨rb1, rb3, rb5, v1, k, k1', k2', k3', k4', k4n, k5'⟩
      subst rb1 rb3 rb5
      -- behind the E
      have f213 : (v.1 8).toInt = ffs LP → 0 ≤ ffs LP → (ffs LP = 0 → EFl s10 v ∧ NFx y1 z' s10 v ∧ (v.1 65).toInt ≤ (s10.1 65).toInt + (aPt K L a - M0) ∧ ∀ i, i < N → eC K L W ar kd TN Ls B β0 β1 S A0 (v.1 65).toInt v m (zz i) (zz (i + 1)) (uS (nxE K L) (M0 + 1) i) (ww i)) → ub_226_213 (Par d) b1 b2 b3 b4 b5 b6 b7 v (EPq K L ar TN Ls B A0 β0 β1 S z z' w (if ffs LP = 0 then (if 60 < (sbs η ZR).length then (9 + 16 * L (a + 1), []) else (0, sbs η ZR)) else (ffs LP, [])) Φ s) := by
        intro w8 w8n w9
        unfold ub_226_213
        rw [w8]
        refine ⟨fun q => ?_, fun q _ _ _ _ => ?_⟩
        · rw [if_neg q]
          exact f241 (ffs LP, []) _ _ _ _ _ _ _ v v1 w8 w8n (fun q2 => absurd q2 q)
        · rw [if_pos q]
          obtain ⟨g1, g2, g3, g5⟩ := w9 q
          have hIw := hEIn v v1 g1
          have hv100 := hIw.2.2.1.2.1
          have hvA := hIw.2.2.1.1
          have hv65 : (v.1 65).toInt ≤ 100000 := by
            rw [fld 65 (by decide)] at g3
            omega
          obtain ⟨-, -, -, -, -, s251⟩ := hHD v v1
          rw [← hZR] at s251
          obtain ⟨y1', y2', y3', y4'⟩ := s251
          have P1 := x_191 (d := d) (E := ZR.map (rhE ar (hbd K L Ls g) (2000 + 6 * (g : Int)))) (T := (v.1 64).toInt) rfl (EVk_r (EVk_f g1 (by omega) EV10)) n1 y3' ⟨y2'.1, by omega⟩ y4'
          rw [hRp ZR hZRm] at P1
          rw [h3]
          refine Par.imp P1 ?_
          rintro v19 s18 ⟨p1, x20, rfl, hcase⟩
          rw [List.length_map] at hcase
          have h8v' : (v.1 8).toInt = 0 := by omega
          have hev : ((v.1 70).toInt.toNat : Int) = (v.1 70).toInt := Int.toNat_of_nonneg hIw.2.2.1.2.2
          refine ⟨x20, rfl, fun w10 => ?_, fun w10 _ => ?_⟩
          · rcases hcase with ⟨r1, -⟩ | ⟨r1, r2, r3, r4, r5, r6, r7⟩
            · exact absurd r1 w10
            · rw [if_neg (show ¬ 60 < (sbs η ZR).length by omega)]
              have W18 : WFr (v.1 64).toInt (v.1 70).toInt v s18 := WFr_pk p1 r6
              have F18 : EFl v s18 := EFl_wf W18 rfl rfl (by rw [r6 70 (by decide) (by decide) (by decide)]) (by omega) (by omega)
              refine f241 (0, sbs η ZR) _ _ _ _ _ _ _ s18 (EF0_tr v1 (EF0_wf W18 (by omega))) (by rw [r6 8 (by decide) (by decide) (by decide)]; exact h8v') (Int.le_refl _) (fun _ => ⟨EFl_tr g1 F18, fun q j hq hj => by rw [W18.2.2.1 q j (by omega), g2 q j hq hj], by rw [r6 65 (by decide) (by decide) (by decide)]; exact g3, ?_, fun i hi => by rw [r6 65 (by decide) (by decide) (by decide)]; exact eC_c m (CFq_wf W18 (by omega)) (Int.le_refl _) (g5 i hi)⟩)
              rw [r3, r4]
              exact ⟨Or.inr (by omega), rfl, ⟨by omega, by rw [r5]; exact Int.le_refl _⟩, r7, sbs_R ZR 1 (xL ZR hZRm).2.1 (fun c hc w => ⟨h24 c w, (hpo ZR hZRm c hc w).1⟩), ⟨r2, sbs_cdT (hpo ZR hZRm) (hT2 ZR hZRm)⟩, sbs_cdW (hpo ZR hZRm) (xL ZR hZRm).1⟩
          · rcases hcase with ⟨-, r1, r2⟩ | ⟨r1, -⟩
            · rw [if_pos r1]
              have W18 : WFr (v.1 64).toInt (v.1 70).toInt v s18 := WFr_pk p1 (fun k _ _ _ => by rw [r2])
              have E18 : EF0 (nsD K L Ls) B A0 s s18 := EF0_tr v1 (EF0_wf W18 (by omega))
              have c222 : (s18.2.1 222 e.toNat).toInt = B + (a + 1) := by
                rw [EF0_r E18 (q := 222) (by unfold rEx; omega)]
                exact h222
              have h818 : (s18.1 8).toInt = 0 := by rw [r2]; exact h8v'
              rw [h1]
              refine Par.imp (x_163w (L := L) c222 h818 (((RST_e hP E18 hI.1).1.2.2.1 (a + 1) (by omega) (by omega)).2)) ?_
              rintro v8 s19 ⟨rfl, r1', r2'⟩
              rw [if_pos rfl] at r2'
              refine ⟨rfl, f241 (9 + 16 * L (a + 1), []) _ _ _ _ _ _ _ s19 (EF0_tr E18 (EF0_8 r1')) r2' (by show 0 ≤ 9 + 16 * L (a + 1); omega) (fun q => ?_)⟩
              exfalso
              have q : 9 + 16 * L (a + 1) = 0 := q
              omega
            · omega
      have uN : uS (nxE K L) (M0 + 1) k ≤ aPt K L a := by
        by_cases hk0 : k = 0
        · rw [hk0]
          show M0 + 1 ≤ aPt K L a
          omega
        · have := (oE (k - 1) (by omega)).2.2.1
          have e1 : uS (nxE K L) (M0 + 1) k = nxE K L (uS (nxE K L) (M0 + 1) (k - 1)) + 1 := by
            rw [show k = (k - 1) + 1 by omega]
            rfl
          omega
      unfold ub_226_189
      refine ⟨fun w4 => ?_, fun w4 => ⟨fun w5 => ?_, fun w5 _ y1' hy1' _ y2' hy2' _ => ?_⟩⟩
      · have hkN : k = N := by
          by_cases hq : k < N
          · rw [if_pos hq] at k3'
            have := (cE k hq).2.1
            omega
          · omega
        have eF : ffs (LP.take k) = ffs LP := by rw [hkN, ← hLPl, List.take_length]
        rw [eF] at k4' k4n k5'
        refine f213 k4' k4n (fun q => ?_)
        obtain ⟨g1, g2, g3, g5⟩ := k5' q
        rw [hkN, zN] at g2
        exact ⟨g1, g2, by omega, fun i hi => g5 i (by omega)⟩
      · rw [k4'] at w5
        have eF := ffs_take w5
        rw [← eF] at k4' k4n w5
        exact f213 k4' k4n (fun q => absurd q w5)
      · rw [k4'] at w5
        obtain ⟨g1, g2, g3, g5⟩ := k5' w5
        have hkN : k < N := by
          by_cases hq : k < N
          · exact hq
          · rw [if_neg hq] at k3'
            omega
        rw [if_pos hkN] at k3'
        obtain ⟨t1, t2, t3⟩ := cE k hkN
        obtain ⟨o1', o2', o3', -⟩ := oE k hkN
        obtain ⟨Z, hZ⟩ : ∃ Z, (hx.2.2.drop hx.1)[k]? = some Z := ⟨_, List.getElem?_eq_getElem (by rw [List.length_drop]; omega)⟩
        have hZ' : hx.2.2[hx.1 + k]? = some Z := by
          rw [List.getElem?_drop] at hZ
          exact hZ
        have hZm := List.mem_of_getElem? hZ'
        have eZ : hx.2.2.getD (hx.1 + k) [] = Z := by
          rw [List.getD_eq_getElem?_getD, hZ']
          rfl
        have hIw := hEIn v v1 g1
        have e2' : y2'.toInt = 6 * (204 * b + (g : Int)) + (k : Int) := by omega
        have hy : ∀ v', EF0 (nsD K L Ls) B A0 v v' → RSe v' A0 (v.2.1 250 y2'.toInt.toNat).toInt (Z.map (rhE ar (hbd K L Ls g) (2000 + 6 * (g : Int)))) := fun v' hv' => by
          obtain ⟨-, -, -, -, s250, -⟩ := hHD v' (EF0_tr v1 hv')
          have := s250 k (by omega)
          rw [eZ, EF0_r hv' (q := 250) (by unfold rEx; omega)] at this
          rw [e2']
          exact this
        have h8v' : (v.1 8).toInt = 0 := by omega
        have hTv : eT K L B v m (zz k) (zz (k + 1)) (uS (nxE K L) (M0 + 1) k) b7.toInt := by
          rw [k3']
          exact eT_e v1 _ _ _ _ _ t1
        have hAv : (v.1 65).toInt + (nxE K L (uS (nxE K L) (M0 + 1) k) - uS (nxE K L) (M0 + 1) k) ≤ 100000 := by
          rw [fld 65 (by decide)] at g3
          omega
        have hpk := hOk.2.2.1 k (by rw [← eNM, ← hN]; exact hkN)
        have P222 : Par d 222 [.ref 213, .int b7, .int (v.2.1 250 y2'.toInt.toNat), .int b5] v (fun v0 s' => v0 = none ∧ EF0 (nsD K L Ls) B A0 v s' ∧ (s'.1 8).toInt = tkv K L W ar kd TN Ls S Q η (uS (nxE K L) (M0 + 1) k, Z) ∧ 0 ≤ tkv K L W ar kd TN Ls S Q η (uS (nxE K L) (M0 + 1) k, Z) ∧ (tkv K L W ar kd TN Ls S Q η (uS (nxE K L) (M0 + 1) k, Z) = 0 → EFl v s' ∧ NFx (zz k) (zz (k + 1)) v s' ∧ (s'.1 65).toInt ≤ (v.1 65).toInt + (nxE K L (uS (nxE K L) (M0 + 1) k) - uS (nxE K L) (M0 + 1) k) ∧ s'.1 64 = v.1 64 ∧ eC K L W ar kd TN Ls B β0 β1 S A0 (s'.1 65).toInt s' m (zz k) (zz (k + 1)) (uS (nxE K L) (M0 + 1) k) b7.toInt)) := by
          cases d with
          | zero => exact Par_0
          | succ d =>
            have hE217 := ih d b7 (zz k) (zz (k + 1)) (uS (nxE K L) (M0 + 1) k) v hIw h8v' hTv hpk (by omega) (by omega) (fun q q1 q2 => hD q (by omega) (by omega)) hAv
            rw [← hQ] at hE217
            exact x_222 (e := e1) (c0 := hbd K L Ls g) (c1 := 2000 + 6 * (g : Int)) (η := η) (Z := Z) hW hIw hTv hE217 ⟨by omega, by omega⟩ hAv hy (EVk_f g1 (by omega) EV10) (by rw [g1.1.1, e70]; omega) n1 (hRp Z hZm) (xL Z hZm).2.1 (xL Z hZm).1 (hT2 Z hZm) (hpo Z hZm)
        refine Par.imp P222 ?_
        rintro v4 s11 ⟨rfl, r1, r2, r2n, r3⟩
        refine ⟨rfl, fun _ y5 hy5 _ => ?_⟩
        have hLk : LP[k]? = some (tkv K L W ar kd TN Ls S Q η (uS (nxE K L) (M0 + 1) k, Z)) := by
          rw [hLP, List.getElem?_map, zip_at (exU_at hkN) hZ]
          rfl
        have eFs := ffs_tk hLk
        rw [if_pos w5] at eFs
        refine ⟨rfl, rfl, rfl, EF0_tr v1 r1, k + 1, by omega, by omega, ?_, by rw [eFs]; exact r2, by rw [eFs]; exact r2n, fun q => ?_⟩
        · rw [EF0_r r1 (q := 225) (by unfold rEx; omega), EF0_r v1 (q := 225) (by unfold rEx; omega), k3']
          exact t3
        · rw [eFs] at q
          obtain ⟨r4, r5, r6, r7, r8'⟩ := r3 q
          have zm1 := cmo 0 k (Nat.zero_le _) (by omega)
          refine ⟨EFl_tr g1 r4, NFx_tr (x1 := y1) (y1 := zz (k + 1)) g2 r5 ⟨Int.le_refl _, by omega⟩ ⟨by omega, Int.le_refl _⟩, ?_, fun i hi => ?_⟩
          · show (s11.1 65).toInt ≤ (s10.1 65).toInt + (nxE K L (uS (nxE K L) (M0 + 1) k) + 1 - (M0 + 1))
            omega
          · by_cases hik : i = k
            · rw [hik, ← k3']
              exact r8'
            · have zm2 := cmo (i + 1) k (by omega) (by omega)
              have zi := (cE i (by omega)).2.1
              exact eC_c m (CFq_of r1 r4 r5 (Or.inl zm2) zi.1 (Int.le_refl _)) r4.2.1.1 (g5 i (by omega))
    · rw [if_neg hf0]
      refine ⟨fun b1 b2 b3 b4 b5 b6 b7 v => EF0 (nsD K L Ls) B A0 s v ∧ (v.1 8).toInt = ffs L3, ⟨v1, v2⟩, ?_⟩
      rintro b1 b2 b3 b4 b5 b6 b7 v ⟨v1, v2⟩
      have key : ub_226_213 (Par d) b1 b2 b3 b4 b5 b6 b7 v (EPq K L ar TN Ls B A0 β0 β1 S z z' w (ffs L3, []) Φ s) := by
        unfold ub_226_213
        exact ⟨fun _ => f241 (ffs L3, []) _ _ _ _ _ _ _ v v1 v2 v2n (fun q => absurd q hf0), fun w5 => absurd (v2.symm.trans w5) hf0⟩
      unfold ub_226_189
      exact ⟨fun _ => key, fun _ => ⟨fun _ => key, fun w5 => absurd (v2.symm.trans w5) hf0⟩⟩
  -- the TYPES against BOUNDS
  refine ⟨rfl, fun _ => ?_⟩
  refine ⟨fun b1 b2 b3 b4 b5 b6 b7 v => b1 = a1 ∧ b2 = a2 ∧ b3 = a3 ∧ b4 = a4 ∧ b5 = x3 ∧ EF0 (nsD K L Ls) B A0 s v ∧ EFl s10 v ∧ (∀ q j, q < 264 → v.2.1 q j = s10.2.1 q j) ∧ v.1 65 = s10.1 65 ∧ v.1 64 = s10.1 64 ∧ ∃ k : Nat, k ≤ Nt ∧ b6.toInt = (k : Int) ∧ b7.toInt = (if k < Nt then zt k else -1) ∧ (v.1 8).toInt = ffs (L3.take k) ∧ 0 ≤ ffs (L3.take k), ⟨rfl, rfl, rfl, rfl, rfl, E10, EFl_rf, fun _ _ _ => rfl, rfl, rfl, 0, Nat.zero_le _, by decide, ?_, ?_, by rw [List.take_zero]; decide⟩, ?_⟩
  · rw [EF0_r E10 (q := 229) (by unfold rEx; omega)]
    exact h229
  · rw [fld 8 (by decide), h8v, List.take_zero]
    rfl
  rintro b1 b2 b3 b4 b5 b6 b7 v ⟨rb1, rb2, rb3, rb4, rb5, v1, v2, v3, v4, v5, k, kl, kb6, kb7, kf, kn⟩
  subst rb1 rb2 rb3 rb4 rb5
  unfold ub_226_147
  refine ⟨fun w4 => ?_, fun w4 => ⟨fun w5 => ?_, fun w5 _ _ _ y1' hy1' _ y2' hy2' _ _ => ?_⟩⟩
  · have hkN : k = Nt := by
      by_cases hq : k < Nt
      · rw [if_pos hq] at kb7
        have := (hzt k hq).1.1
        omega
      · omega
    rw [hkN, ← hL3l, List.take_length] at kf kn
    exact f182 _ _ v v1 kf kn v2 v3 v4
  · rw [kf] at w5
    have eF := ffs_take w5
    rw [← eF] at kf kn
    exact f182 _ _ v v1 kf kn v2 v3 v4
  · rw [kf] at w5
    have hkN : k < Nt := by
      by_cases hq : k < Nt
      · exact hq
      · rw [if_neg hq] at kb7
        omega
    rw [if_pos hkN] at kb7
    have hIw := hEIn v v1 v2
    obtain ⟨Z, hZ⟩ : ∃ Z, hx.2.2[k]? = some Z := ⟨_, List.getElem?_eq_getElem (by omega)⟩
    have hZm := List.mem_of_getElem? hZ
    have eZ : hx.2.2.getD k [] = Z := by
      rw [List.getD_eq_getElem?_getD, hZ]
      rfl
    have e2' : y2'.toInt = 6 * (204 * b + (g : Int)) + (k : Int) := by omega
    obtain ⟨-, -, -, s247, -, -⟩ := hHD v v1
    have q247 := s247 k (by omega)
    rw [eZ] at q247
    have tyk : TYp ar (TN.length : Int) β0 β1 (S.2.1.length : Int) (S.1.length : Int) v (v.2.1 231 (zt k).toNat).toInt (v.2.1 232 (zt k).toNat).toInt (wdC K L W ar TN S.1 S.2.1 (uS (nxT K L) (a + 3) k)) := by
      rw [v3 231 _ (by decide), v3 232 _ (by decide), r10 231 _ (by decide), r10 232 _ (by decide)]
      have t0 := (hTy k hkN).1
      obtain ⟨t1, t2, t3, t4, t5⟩ := t0
      have : TYp ar (TN.length : Int) β0 β1 (S.2.1.length : Int) (S.1.length : Int) s10 (v0.2.1 231 (zt k).toNat).toInt (v0.2.1 232 (zt k).toNat).toInt (wdC K L W ar TN S.1 S.2.1 (uS (nxT K L) (a + 3) k)) := by
        refine ⟨by rw [fld 65 (by decide)]; exact t1, t2, ?_⟩
        rw [fld 64 (by decide)]
        exact TYe_w W10 ⟨t3, t4, t5⟩
      exact TYp_f v2 this
    obtain ⟨ca, A', eA⟩ : ∃ ca A', wdC K L W ar TN S.1 S.2.1 (uS (nxT K L) (a + 3) k) = ca :: A' := by
      cases hq : wdC K L W ar TN S.1 S.2.1 (uS (nxT K L) (a + 3) k) with
      | nil =>
        rw [hq] at tyk
        exact absurd rfl (isR_ne tyk.2.2.2.2.1)
      | cons a l => exact ⟨a, l, rfl⟩
    rw [eA] at tyk
    have hv100 := hIw.2.2.1.2.1
    have hvA := hIw.2.2.1.1
    have hev : ((v.1 70).toInt.toNat : Int) = (v.1 70).toInt := Int.toNat_of_nonneg hIw.2.2.1.2.2
    have hv65 : (v.1 65).toInt ≤ 100000 := by
      rw [v4, fld 65 (by decide)]
      omega
    have tok7 : (v.2.1 222 (zt k).toNat).toInt = B + uS (nxT K L) (a + 3) k := by
      rw [EF0_r v1 (q := 222) (by unfold rEx; omega)]
      exact (hzt k hkN).1.2
    have hLu : (v.2.1 216 (B + uS (nxT K L) (a + 3) k).toNat).toInt = L (uS (nxT K L) (a + 3) k) := (hIw.1.1.2.2.1 _ (hTy k hkN).2.1 (hTy k hkN).2.2).2
    rw [kb7, e2']
    refine Par.imp (x_212 (A := A0) (T := (v.1 64).toInt) (e := (v.1 70).toInt.toNat) (e0 := e1) (L := L) (PG_of hP hIw.1) hSP rfl (by omega) hev.symm (by omega) tyk.2.2 tyk.2.1 q247 (EVk_r (EVk_f v2 (by omega) EV10)) n1 (hRp Z hZm) (xL Z hZm).2.1 (xL Z hZm).1 (hT2 Z hZm) (hpo Z hZm) tok7 hLu rfl) ?_
    rintro v7 s12 ⟨rfl, o1, ⟨o2, o3⟩, o4⟩
    refine ⟨rfl, fun _ x5 hx5 _ => ?_⟩
    have hLk : L3[k]? = some (ftk L (exK K L W ar kd TN Ls S (wdC K L W ar TN S.1 S.2.1 (uS (nxT K L) (a + 3) k)) η Z) (uS (nxT K L) (a + 3) k)) := by
      rw [hL3, List.getElem?_map, zip_at (hYa k hkN) hZ]
      rfl
    have eFs := ffs_tk hLk
    rw [if_pos w5] at eFs
    refine ⟨rfl, rfl, rfl, rfl, rfl, EF0_tr v1 (EF0_wf o1 (by omega)), EFl_tr v2 (EFl_wf o1 rfl hev.symm o3 (by rw [o2]; exact Int.le_refl _) (by omega)), fun q j hq => by rw [o1.2.2.1 q j (Or.inl hq), v3 q j hq], by rw [o1.1 65 (by decide) (by decide) (by decide) (by decide) (by decide) (by decide) (by decide), v4], by rw [o2, v5], k + 1, by omega, by omega, ?_, ?_, ?_⟩
    · rw [o1.2.2.1 225 _ (by decide), EF0_r v1 (q := 225) (by unfold rEx; omega)]
      exact (hzt k hkN).2
    · rw [eFs, eA]
      exact o4
    · rw [eFs]
      exact ftk_nn (hP.1.1.2.2 _ (hTy k hkN).2.1 (hTy k hkN).2.2).1
end ZTM
