/-! ===== the class: resultType, fitTypes ===== -/
section ZZRT
variable {K L W ar kd : Int → Int} {TN Ls : List Int} {n lo hi lo' hi' k0 co T T0 k t r : Int} {S : Scp} {d P m i : Nat} {s s' u : zS} {a1 a2 a3 a4 a5 : Int32} {A Z O' l y : List Int} {Ys Bs : List (List Int)} {cd : Int → Int}
theorem tl_hd (hL : 0 ≤ L t) (h0 : (tlT K L cd ar (m + 1) t).1 = 0) : ∃ l, (tlT K L cd ar (m + 1) t).2 = (cd t, t) :: l := by
  rw [tlT] at h0 ⊢
  by_cases c1 : cd t < 0
  · rw [if_pos c1] at h0
    have h0 : 2 + 16 * L t = 0 := h0
    omega
  · rw [if_neg c1] at h0 ⊢
    by_cases c2 : ¬ (ntc K L t : Int) = ar (cd t)
    · rw [if_pos c2] at h0
      have h0 : 4 + 16 * L t = 0 := h0
      omega
    · rw [if_neg c2] at h0 ⊢
      by_cases c3 : (tlS (tlT K L cd ar m) (nxT K L) (ntc K L t) (t + 2)).1 = 0
      · rw [if_pos c3] at h0 ⊢
        by_cases c4 : 60 < (tlS (tlT K L cd ar m) (nxT K L) (ntc K L t) (t + 2)).2.length + 1
        · rw [if_pos c4] at h0
          have h0 : 9 + 16 * L t = 0 := h0
          omega
        · rw [if_neg c4]
          exact ⟨_, rfl⟩
      · rw [if_neg c3] at h0
        exact absurd h0 c3
set_option maxHeartbeats 1000000 in
/-- resultType -/
theorem zs_13 (hP : P = 3 ∨ P = 39) (h : PRm K L W ar kd n lo' hi' TN Ls) (I : CIn K L W ar kd TN Ls n k0 S P lo hi T0 s) (hT0 : 18 ≤ T0) (hf0 : (s.1 P 14).toInt = 0) (ht : (s.1 75 3).toInt = T) (hT : T0 ≤ T ∧ T + 180 ≤ 18738) (hk0 : k0 ≤ k) (hk : k ≤ 82938) (hO : TYc ar (TN.length : Int) (S.2.1.length : Int) (S.1.length : Int) P T k s a2.toInt (co :: O')) (hY : TYs ar (TN.length : Int) (S.2.1.length : Int) (S.1.length : Int) P k s a3.toInt Ys) (h4 : a4.toInt = (Ys.length : Int)) {sl q : Int} (hi1 : a1.toInt = sl) (hi2 : 0 ≤ sl ∧ sl ≤ 4990) (hZ0 : 18738 ≤ slc s P sl 3) (hZk : slc s P sl 3 + (Z.length : Int) ≤ k0) (hZw : WDz P s (slc s P sl 3) Z) (hZ1 : isR ar 1 Z) (hZ2 : Z.length ≤ 60) (hZ3 : cdW ((argT ar (co :: O')).length : Int) (Ys.length : Int) Z) (hZ4 : cdT (TN.length : Int) Z) (h5 : a5.toInt = q) (hq : 0 ≤ q ∧ q ≤ n) : Zt (d + 12) (wd P 13) 13 [.ref 84, .int a1, .int a2, .int a3, .int a4, .int a5] s (fun v s' => ∃ r : Int32, v = some (.int r) ∧ (s'.1 P 14).toInt = (if 60 < (sbs (eta (argT ar (co :: O')) Ys) Z).length then 9 + 16 * L q else 0) ∧ ((s'.1 P 14).toInt = 0 → CFe P T k s s' ∧ (∀ c q, ¬ (c = 75 ∧ q = 3) → s'.1 c q = s.1 c q) ∧ s'.2 (P + 34) = s.2 (P + 34) ∧ ∃ T', (s'.1 75 3).toInt = T' ∧ T ≤ T' ∧ T' ≤ T + 60 ∧ TYc ar (TN.length : Int) (S.2.1.length : Int) (S.1.length : Int) P T' k s' r.toInt (sbs (eta (argT ar (co :: O')) Ys) Z) ∧ T ≤ r.toInt)) := by
  obtain ⟨ha, h24⟩ := PR_ar h
  have hc6 := ar_le6 h (c := co) (hO.2.2.2.2 co List.mem_cons_self).1 (hO.2.2.2.1.2 co List.mem_cons_self)
  obtain ⟨ap1, ap2⟩ := argT_P ha hO.2.2.1 hO.2.2.2.2 hO.2.2.2.1.2
  have hη : pOK ar (TN.length : Int) (S.2.1.length : Int) (S.1.length : Int) (eta (argT ar (co :: O')) Ys) Z := pOK_eta (by omega) ap1 (fun y hy => ⟨(hY.2.2.2 y hy).1, (hY.2.2.2 y hy).2.2, (hY.2.2.2 y hy).2.1.2⟩) hZ3
  have hP75 : ¬ (P = 75 ∧ (14 : Nat) = 3) := fun z => absurd z.2 (by decide)
  rw [show d + 12 = d + 3 + 9 by omega]
  refine zc_13 hP ?_
  unfold v_13_0
  refine Zt.imp (Zt.mo (d := 10) (by omega) (t_86 (d := 0) hP h I.1 (T := T) ⟨by omega, by omega⟩ hk hO hY h4)) ?_
  rintro v5 s6 ⟨rfl, f1, f2, f3⟩
  have F6 : CFe P T k s s6 := CFe_en hP f1 f2
  have es : slc s6 P sl 3 = slc s P sl 3 := by
    unfold slc
    rw [CFe_r F6 (by decide) hP]
  refine ⟨rfl, ?_⟩
  have ez : (zg s6 (P + 30) (a1 * 5 + 3)).toInt = slc s P sl 3 := by
    rw [zg_sl (s := s6) (P := P) (a1 := a1) (c := 3) (k := 3) (by decide) (by decide) (by omega), hi1, es]
  obtain ⟨y0, hy0⟩ : ∃ y0, zg s6 (P + 30) (a1 * 5 + 3) = y0 := ⟨_, rfl⟩
  rw [hy0] at ez ⊢
  have I6 := CIn_e hP hT0 hT.1 hk0 F6 I
  refine Zt.imp (Zt.mo (d := 9) (by omega) (t_87 (d := 0) (k := k0) (nX := (S.2.1.length : Int)) (nY := (S.1.length : Int)) hP h I6.1.1.1.2.2.2 (by rw [f1]; exact ht) ⟨by omega, by omega⟩ f3 hη hZ1 hZ2 hZ3 hZ4 (by rw [ez]; exact ⟨hZ0, hZk⟩) (by omega) (by rw [ez]; exact CFe_wd F6 (by omega) (Or.inr ⟨hZ0, by omega⟩) hZw))) ?_
  rintro v9 s10 ⟨g1, x11, rfl, g2⟩
  have F10 : CFe P T k s s10 := CFe_tr F6 (CFe_pf g1) (Int.le_refl _) (Int.le_refl _)
  have hf10 : ∀ c q, ¬ (c = 75 ∧ q = 3) → s10.1 c q = s.1 c q := fun c q hq => by rw [g1.2.2 c q hq, f1]
  have e14 : (s10.1 P 14).toInt = 0 := by rw [hf10 P 14 hP75]; exact hf0
  have hLq := h.1.1.2.2 q hq.1 hq.2
  refine ⟨x11, rfl, fun w => ?_, fun w => ?_⟩
  · rcases g2 with ⟨-, q⟩ | ⟨g2, T', t1, t2, t3, t4, t5⟩
    · omega
    · rw [if_neg (by omega)]
      exact ⟨x11, rfl, e14, fun _ => ⟨F10, hf10, by rw [g1.1 _ (by omega), f2 _ (by omega)], T', t1, t2, t3, TYc_e CFe_rf t4 (Int.le_refl _) hk0, t5⟩⟩
  · rcases g2 with ⟨g2, -⟩ | ⟨-, T', -, -, -, t4, -⟩
    · rw [if_pos g2]
      have eL : KI (s10.2 (P + 6)) = L := by
        rw [CFe_r F10 (by decide) hP]
        exact I.1.1.1.2.1
      refine Zt.imp (Zt.mo (d := 9) (by omega) (zs_38b (d := 0) hP (by rw [eL, h5]; omega) (by decide))) ?_
      rintro v7 s8 ⟨rfl, hc⟩
      refine ⟨rfl, a2, rfl, ?_⟩
      rcases hc with ⟨-, -, x, hx, rfl⟩ | ⟨hc, -⟩
      · rw [eL, h5, show (9 : Int32).toInt = 9 by decide] at hx
        have e : (((zf s10 P 14 x).1 P 14).toInt) = 9 + 16 * L q := by rw [zf_1, if_pos ⟨rfl, rfl⟩, hx]
        exact ⟨e, fun z => by omega⟩
      · exact absurd ⟨e14, by decide⟩ hc
    · exact absurd t4.1.1 w
set_option maxHeartbeats 4000000 in
/-- fitTypes -/
theorem zs_15 (hP : P = 3 ∨ P = 39) (h : PRm K L W ar kd n lo' hi' TN Ls) (I : CIn K L W ar kd TN Ls n k0 S P lo hi T0 s) (hT0 : 18 ≤ T0) (hf0 : (s.1 P 14).toInt = 0) (ht : (s.1 75 3).toInt = T) (hT : T0 ≤ T ∧ T + 180 ≤ 18738) (hk0 : k0 ≤ k) (hk : k ≤ 82877) (hO : TYc ar (TN.length : Int) (S.2.1.length : Int) (S.1.length : Int) P T k s a2.toInt (co :: O')) {ys : List Int} (hY : TYs ar (TN.length : Int) (S.2.1.length : Int) (S.1.length : Int) P k s a3.toInt (ys.map (wdC K L W ar TN S.1 S.2.1))) (htt : TTz P s a3.toInt (ys.flatMap (fun y => (tlT K L (cdOf W S.1 S.2.1 TN) ar 10 y).2.map Prod.snd))) (hys : ∀ y ∈ ys, (tlT K L (cdOf W S.1 S.2.1 TN) ar 10 y).1 = 0 ∧ 0 ≤ y ∧ y ≤ n) (h4 : a4.toInt = (ys.length : Int)) (h1 : 0 ≤ a1.toInt ∧ a1.toInt ≤ 4000) (hB : SSz ar P s a1.toInt Bs) (hBk : SSk P s k0 a1.toInt Bs) (hBl : ys.length ≤ Bs.length) (hBc : ∀ M ∈ Bs, cdW ((argT ar (co :: O')).length : Int) (ys.length : Int) M ∧ cdT (TN.length : Int) M) : Zt (d + 12) (wd P 15) 15 [.ref 84, .int a1, .int a2, .int a3, .int a4] s (fun v s' => v = none ∧ (s'.1 P 14).toInt = ffs ((ys.zip Bs).map (fun p => ftk L (exK K L W ar kd TN Ls S (wdC K L W ar TN S.1 S.2.1 p.1) (eta (argT ar (co :: O')) (ys.map (wdC K L W ar TN S.1 S.2.1))) p.2) p.1)) ∧ (CFe P T k s s' ∧ s'.2 (P + 34) = s.2 (P + 34)) ∧ ∀ c q, ¬ (c = P ∧ q = 14) → s'.1 c q = s.1 c q) := by
  obtain ⟨ha, h24⟩ := PR_ar h
  have hP75 : ¬ (P = 75 ∧ (14 : Nat) = 3) := fun z => absurd z.2 (by decide)
  have h75P : ¬ ((75 : Nat) = P ∧ (3 : Nat) = 14) := fun z => absurd z.2 (by decide)
  obtain ⟨Ys, hYs⟩ : ∃ Ys, Ys = ys.map (wdC K L W ar TN S.1 S.2.1) := ⟨_, rfl⟩
  rw [← hYs] at hY ⊢
  have hYl : Ys.length = ys.length := by rw [hYs, List.length_map]
  obtain ⟨Lf, hLf⟩ : ∃ Lf, Lf = (ys.zip Bs).map (fun p => ftk L (exK K L W ar kd TN Ls S (wdC K L W ar TN S.1 S.2.1 p.1) (eta (argT ar (co :: O')) Ys) p.2) p.1) := ⟨_, rfl⟩
  rw [← hLf]
  have hLl : Lf.length = ys.length := by rw [hLf, List.length_map, List.length_zip]; omega
  obtain ⟨y1, y2, y3, y4⟩ := hY
  rw [show d + 12 = d + 3 + 9 by omega]
  refine zc_15 hP ?_
  unfold v_15_0
  refine ⟨fun b1 b2 b3 b4 b5 b6 w => b1 = a1 ∧ b2 = a2 ∧ b3 = a3 ∧ b4 = a4 ∧ (CFe P T k s w ∧ w.2 (P + 34) = s.2 (P + 34)) ∧ (∀ c q, ¬ (c = P ∧ q = 14) → w.1 c q = s.1 c q) ∧ ∃ i : Nat, i ≤ ys.length ∧ b6.toInt = (i : Int) ∧ b5.toInt = a3.toInt + ((Ys.take i).flatten.length : Int) ∧ (w.1 P 14).toInt = ffs (Lf.take i), fun _ _ _ _ _ b6 _ => (100 - b6.toInt).toNat, ⟨rfl, rfl, rfl, rfl, ⟨CFe_rf, rfl⟩, fun _ _ _ => rfl, 0, Nat.zero_le _, by decide, ?_, ?_⟩, ?_⟩
  · rw [List.take_zero]
    show a3.toInt = a3.toInt + ((0 : Nat) : Int)
    omega
  · rw [List.take_zero]
    exact hf0
  rintro b1 b2 b3 b4 b5 b6 w ⟨e1, e2, e3, e4, ⟨F, F34⟩, g0, i, i1, i2, i3, i4⟩
  subst e1 e2 e3 e4
  have fin : (i = ys.length ∨ ¬ (w.1 P 14).toInt = 0) → v_15_70 (fun j => Zt (d + 3 + 8) (wd P j) j) P b1 b2 b3 b4 b5 b6 w (fun v s' => v = none ∧ (s'.1 P 14).toInt = ffs Lf ∧ (CFe P T k s s' ∧ s'.2 (P + 34) = s.2 (P + 34)) ∧ ∀ c q, ¬ (c = P ∧ q = 14) → s'.1 c q = s.1 c q) := fun hc => by
    refine ⟨rfl, ?_, ⟨F, F34⟩, g0⟩
    rw [i4]
    rcases hc with q | q
    · rw [q, ← hLl, List.take_length]
    · rw [i4] at q
      exact (ffs_take q).symm
  unfold v_15_4
  refine ⟨fun w1 => fin (Or.inl (by omega)), fun w1 => ⟨fun w2 => fin (Or.inr w2), fun w2 => ?_⟩⟩
  have hi : i < ys.length := by omega
  have hv := List.getElem?_eq_getElem hi
  have hb := List.getElem?_eq_getElem (show i < Bs.length by omega)
  have hYi : Ys[i]? = some (wdC K L W ar TN S.1 S.2.1 ys[i]) := by
    rw [hYs, List.getElem?_map, hv]
    rfl
  obtain ⟨o1, o2, o3⟩ := hys _ (List.mem_of_getElem? hv)
  have Iw := CIn_e hP hT0 hT.1 hk0 F I
  have hne : Ys ≠ [] := fun q => by rw [q] at hYl; simp only [List.length_nil] at hYl; omega
  obtain ⟨n1, n2⟩ := y2 hne
  have ft := fl_take hYi
  have fl := fl_le Ys (i + 1)
  obtain ⟨q1, q2, q3⟩ := y4 _ (List.mem_of_getElem? hYi)
  have hAw : TYc ar (TN.length : Int) (S.2.1.length : Int) (S.1.length : Int) P T k w b5.toInt (wdC K L W ar TN S.1 S.2.1 ys[i]) := by
    refine ⟨⟨by omega, Or.inr ⟨by omega, by omega⟩⟩, ?_, q1, q2, q3⟩
    rw [i3]
    exact CFe_wd F (by omega) (Or.inr ⟨by omega, by omega⟩) (WDz_fl Ys i _ b3.toInt y3 hYi)
  obtain ⟨⟨z1, z2⟩, z3, z4, z5, z6⟩ := hB i _ hb
  have z7 := hBk i _ hb
  have esl : slc w P (b1.toInt + (i : Int)) 3 = slc s P (b1.toInt + (i : Int)) 3 := by
    unfold slc
    rw [CFe_r F (by decide) hP]
  obtain ⟨c1, c2⟩ := hBc _ (List.mem_of_getElem? hb)
  have hw75 : (w.1 75 3).toInt = T := by rw [g0 75 3 h75P]; exact ht
  have hk0' := I.1.2.2.2.2.1.2
  have hbl : (ys.length : Int) ≤ 6 := by omega
  refine fpm (k := k) (Ys := Ys) (A := wdC K L W ar TN S.1 S.2.1 ys[i]) (Z := Bs[i]) (sl := b1.toInt + (i : Int)) (d := d) hP h Iw hT0 hw75 hT hk0 (by omega) (TYc_e F hO (Int.le_refl _) (Int.le_refl _)) (TYs_e F ⟨y1, y2, y3, y4⟩ (Int.le_refl _)) (by rw [h4, hYl]) (by rw [i2]) ⟨by omega, by omega⟩ (by rw [esl]; exact z1) (by rw [esl]; exact z7) (by rw [esl]; exact CFe_wd F (by omega) (Or.inr ⟨z1, by omega⟩) z3) z4 z5 (by rw [hYl]; exact c1) c2 hAw ?_
  intro x y u Fu hu hu34 hy hy9
  have Fsu := CFe_tr F Fu (Int.le_refl _) (Int.le_refl _)
  unfold v_15_47
  intro x1 hx1
  have ex1 := hx1 (by omega)
  have eL : KI (u.2 (P + 6)) = L := by
    rw [CFe_r Fsu (by decide) hP]
    exact I.1.1.1.2.1
  have htok : (zg u (P + 20) x1).toInt = ys[i] := by
    rw [zg_K, ex1]
    have key : ∀ (l : List Int) (j : Nat) (v : Int), (∀ y ∈ l, (tlT K L (cdOf W S.1 S.2.1 TN) ar 10 y).1 = 0 ∧ 0 ≤ y ∧ y ≤ n) → l[j]? = some v → (l.flatMap (fun y => (tlT K L (cdOf W S.1 S.2.1 TN) ar 10 y).2.map Prod.snd))[((l.map (wdC K L W ar TN S.1 S.2.1)).take j).flatten.length]? = some v := fun l => by
      induction l with
      | nil => exact fun j v _ hj => by cases hj
      | cons a l ih =>
        intro j v hl hj
        rw [List.flatMap_cons, List.map_cons]
        have hL0 : 0 ≤ L a := by
          obtain ⟨-, q1, q2⟩ := hl a List.mem_cons_self
          exact (h.1.1.2.2 a q1 q2).1
        obtain ⟨l', hl'⟩ := tl_hd (m := 9) hL0 (hl a List.mem_cons_self).1
        cases j with
        | zero =>
          have e : a = v := by simpa using hj
          rw [List.take_zero, hl']
          show some a = some v
          rw [e]
        | succ j =>
          rw [List.take_succ_cons, List.flatten_cons, List.length_append]
          have e1 : (wdC K L W ar TN S.1 S.2.1 a).length = ((tlT K L (cdOf W S.1 S.2.1 TN) ar 10 a).2.map Prod.snd).length := by
            unfold wdC
            rw [List.length_map, List.length_map]
          rw [e1, List.getElem?_append_right (by omega), Nat.add_sub_cancel_left]
          exact ih j v (fun y hy => hl y (List.mem_cons_of_mem _ hy)) (by simpa using hj)
    have k1 := key ys i _ hys hv
    rw [← hYs] at k1
    have k2 := htt _ _ k1
    have hj := (List.getElem?_eq_some_iff.mp k1).1
    rw [show b5.toInt - 18738 = b3.toInt - 18738 + (((Ys.take i).flatten.length : Nat) : Int) by omega]
    have hps : 0 < (wdC K L W ar TN S.1 S.2.1 ys[i]).length := List.length_pos_iff.mpr (isR_ne q1)
    rw [← k2, KI_p (by omega), KI_p (by omega), Fsu.2.2.1 _ (by omega)]
  have e14 : (u.1 P 14).toInt = 0 := by rw [hu P 14 hP75]; exact w2
  have hLy := h.1.1.2.2 ys[i] o2 o3
  have hLk : Lf[i]? = some (ftk L y.toInt ys[i]) := by
    rw [hLf, List.getElem?_map, zip_at hv hb]
    show some (ftk L (exK K L W ar kd TN Ls S (wdC K L W ar TN S.1 S.2.1 ys[i]) (eta (argT ar (co :: O')) Ys) Bs[i]) ys[i]) = _
    rw [← hy]
  have eFs := ffs_tk hLk
  rw [← i4, if_pos w2] at eFs
  refine Zt.imp (Zt.mo (d := 9) (by omega) (zs_38b (d := 0) hP (by rw [eL, htok]; omega) (by omega))) ?_
  rintro v2 s3 ⟨rfl, hc⟩
  refine ⟨rfl, fun s4 hs4 => ?_⟩
  have r3 : s3.2 = u.2 ∧ (∀ c q, ¬ (c = P ∧ q = 14) → s3.1 c q = u.1 c q) ∧ (s3.1 P 14).toInt = ftk L y.toInt ys[i] := by
    rcases hc with ⟨-, q2, x, hx, rfl⟩ | ⟨hc, rfl⟩
    · rw [eL, htok] at hx
      refine ⟨rfl, fun c q hq => by rw [zf_1, if_neg hq], ?_⟩
      rw [zf_1, if_pos ⟨rfl, rfl⟩, hx]
      unfold ftk
      rw [if_neg q2]
    · refine ⟨rfl, fun _ _ _ => rfl, ?_⟩
      have hy0 : y.toInt = 0 := Decidable.byContradiction (fun q => hc ⟨e14, q⟩)
      unfold ftk
      rw [if_pos hy0]
      exact e14
  have F3 : CFe P T k u s3 := ⟨fun r _ _ _ _ _ _ => by rw [r3.1], fun j _ => by rw [r3.1], fun j _ => by rw [r3.1], fun c q _ q2 _ _ => r3.2.1 c q (fun z => q2 ⟨z.1, Or.inr z.2⟩)⟩
  have F4 : CFe P T k s s4 := by
    rw [hs4]
    exact CFe_tr (CFe_tr Fsu F3 (Int.le_refl _) (Int.le_refl _)) (CFe_f (Or.inl ⟨rfl, rfl⟩)) (Int.le_refl _) (Int.le_refl _)
  have hA4 := TYc_e F4 (show TYc ar (TN.length : Int) (S.2.1.length : Int) (S.1.length : Int) P T k s b5.toInt (wdC K L W ar TN S.1 S.2.1 ys[i]) from ⟨hAw.1, by rw [i3]; exact WDz_fl Ys i _ b3.toInt y3 hYi, hAw.2.2⟩) (Int.le_refl _) (Int.le_refl _)
  refine Zt.imp (Zt.mo (d := 9) (by omega) (zs_83 (d := 0) (ar := ar) hP (by rw [CFe_r F4 (by decide) hP]; exact I.1.1.1.2.2.2) ha hA4.2.2.1 (by omega) ⟨by omega, by omega⟩ hA4.2.1)) ?_
  rintro v5 s6 ⟨hs6, x7, rfl, hx7⟩
  subst hs6
  refine ⟨x7, rfl, fun x8 hx8 => ?_⟩
  have ex8 := hx8 (by omega)
  refine ⟨⟨rfl, rfl, rfl, rfl, ⟨F4, by rw [hs4, zf_2, r3.1, hu34, F34]⟩, fun c q hq => ?_, i + 1, by omega, by omega, by omega, ?_⟩, by dsimp only; omega⟩
  · rw [hs4, zf_1]
    by_cases q3 : c = 75 ∧ q = 3
    · rw [if_pos q3, q3.1, q3.2]
      exact g0 75 3 h75P
    · rw [if_neg q3, r3.2.1 c q hq, hu c q q3, g0 c q hq]
  · rw [eFs, hs4, zf_1, if_neg hP75]
    exact r3.2.2
end ZZRT
