/-! ===== the class: Machine: call ===== -/
/-- which func a struct's METHOD is, its code -/
def fxD (K L W : Int → Int) (TN Ls : List Int) (c w : Int) : Int := lFw (cfO K L W TN Ls) (fun f => hwd K L W Ls (fsd K L Ls f)) c w (kFn K Ls)
/-- a func's PARAMS, its METHOD's FORMALS -/
def nXf (K L : Int → Int) (p : Nat × Int) : Nat := (fPa K L false (0, p.2)).length
def nYf (K L : Int → Int) (p : Nat × Int) : Nat := (h_f K L (0, (f_5 K L false (0, p.2)).2 + 1)).length
def fcD (K L W ar kd : Int → Int) (TN Ls : List Int) (c w : Int) : Option (Nat × List Ins) := if 0 ≤ fxD K L W TN Ls c w then ((fnQi K 0 Ls)[(fxD K L W TN Ls c w).toNat]?).map (fun p => (nYf K L p, fnC K L W ar kd TN Ls p)) else none
/-- all code makes sense -/
def PCk (K L W ar kd : Int → Int) (TN Ls : List Int) (mB : Int) : Prop := (∀ (g : Nat) (p : Nat × Int), (fnQi K 0 Ls)[g]? = some p → cdK ar (TN.length : Int) (nXf K L p : Int) (nYf K L p : Int) (fnC K L W ar kd TN Ls p)) ∧ cdK ar (TN.length : Int) 0 0 (mnC K L W ar kd TN Ls mB)
section ZTI
variable {K L W ar kd : Int → Int} {TN Ls : List Int} {n k0 mB k z L0 T T' t l cl fa o lo hi : Int} {P d b v u e p : Nat} {s s' : zS} {C C' Cf : List Ins} {st s0 : List Itm} {it : Itm} {E E' : Env} {fr : List Frm} {vs : Vls} {a1 a2 a3 : Int32} {A B Z : List Int} {ps as : List Nat} {X Y : List (List Int)} {η : Nat → List Int} {gg : Int × Int}
theorem cz_fx (h : PRm K L W ar kd n lo hi TN Ls) (C : CSz K L W ar kd TN Ls n k0 P s) (c y : Int) : lFw (cfO K L W TN Ls) (fun f => fnc s P (f : Int) 6) c y (kFn K Ls) = fxD K L W TN Ls c y := by
  unfold fxD
  refine lFw_cg (kFn K Ls) (fun f hf => ?_)
  obtain ⟨i, t, h1, h6, rfl⟩ := fn_dc (K := K) hf
  obtain ⟨-, -, -, -, -, f5, f6, -⟩ := (C.2.2.2.2.2.1 i t h1).1.1 h6
  have hd0 : (dHd K L t)[0]? = some (f_5 K L false (0, t)).2 := by
    unfold dHd
    rw [if_pos h6]
    rfl
  have t4 := (tb_hd (W := W) (ar := ar) (TN := TN) h1 hd0).2.2.2
  rw [Nat.add_zero] at t4
  rw [f6, (tb_fn (L := L) (W := W) (TN := TN) h1 h6).1, t4]
/-- bind -/
theorem zs_85 (hP : P = 3 ∨ P = 39) (he : skE e = true) (hA : KI (s.2 (P + 22)) = ar) (h6 : ∀ c, 0 ≤ ar c ∧ ar c ≤ 7) (hp : a2.toInt = (p : Int)) (hp12 : p < 12) (h3 : 0 ≤ a3.toInt ∧ a3.toInt ≤ 100000) (hR : isR ar 1 B) (hl : B.length ≤ 60) (hw : WDz P s a3.toInt B) : Zt (d + 18) (wd P 85) 85 [.ref 75, .ref e, .int a2, .int a3] s (fun v s' => v = none ∧ s'.1 = s.1 ∧ (∀ r, ¬ r = e → s'.2 r = s.2 r) ∧ ∃ x : Int32, x.toInt = a3.toInt + (B.length : Int) ∧ ∀ j, s'.2 e j = if j = 12 + p then x else if j = p then a3 else s.2 e j) := by
  rw [show d + 18 = d + 9 + 9 by omega]
  obtain ⟨ep1, ep2, -⟩ := ev_P hP he
  have hlim := ev_l he
  refine zc_85 hP he ?_
  unfold v_85_0
  refine ⟨⟨by omega, by omega⟩, fun s1 hs1 x2 hx2 => ?_⟩
  have ex2 := hx2 (by omega)
  have e1 : s1 = zr s e p a3 := by
    rw [hs1, zt_in ⟨by omega, by rw [hlim]; omega⟩, hp]
    rfl
  have r1 : ∀ r j, s1.2 r j = if r = e ∧ j = p then a3 else s.2 r j := fun r j => by rw [e1, zr_2]
  have o1 : ∀ r, ¬ r = e → s1.2 r = s.2 r := fun r hr => by
    funext j
    rw [r1, if_neg (fun z => hr z.1)]
  refine Zt.imp (Zt.mo (d := 9) (by omega) (zs_83 (d := 0) (ar := ar) (A := B) hP (by rw [o1 _ (fun w => ep2 w.symm)]; exact hA) h6 hR (by omega) h3 (fun i c hc => by rw [o1 _ (fun w => ep1 w.symm)]; exact hw i c hc))) ?_
  rintro v3 s4 ⟨hs4, x5, rfl, ex5⟩
  rw [hs4]
  refine ⟨x5, rfl, ⟨by omega, by omega⟩, fun s6 hs6 => ?_⟩
  have e6 : s6 = zr s1 e (12 + p) x5 := by
    rw [hs6, zt_in ⟨by omega, by rw [hlim]; omega⟩, show x2.toInt.toNat = 12 + p by omega]
  refine ⟨rfl, by rw [e6, zr_1, e1, zr_1], fun r hr => ?_, x5, ex5, fun j => ?_⟩
  · funext j
    rw [e6, zr_2, if_neg (fun z => hr z.1), o1 r hr]
  · rw [e6, zr_2, r1]
    by_cases q : j = 12 + p
    · rw [if_pos ⟨rfl, q⟩, if_pos q]
    · rw [if_neg (fun z => q z.2), if_neg q]
      by_cases q2 : j = p
      · rw [if_pos ⟨rfl, q2⟩, if_pos q2]
      · rw [if_neg (fun z => q2 z.2), if_neg q2]
/-- one TYPE more is put for a METHOD's PARAM -/
theorem ENz_b {x : Int32} (hY : Y.length < 6) (g : ENz P s e T (eta X Y) 12) (he : ¬ e = P + 18) (h2 : ∀ r, ¬ r = e → s'.2 r = s.2 r) (hx : x.toInt = a3.toInt + (B.length : Int)) (hj : ∀ j, s'.2 e j = if j = 12 + (6 + Y.length) then x else if j = 6 + Y.length then a3 else s.2 e j) (h3 : 0 ≤ a3.toInt ∧ a3.toInt ≤ 90000) (ha : APt T a3.toInt B.length) (hl : B.length ≤ 60) (hw : WDz P s a3.toInt B) : ENz P s' e T (eta X (Y ++ [B])) 12 := fun p hp => by
  have w18 : s'.2 (P + 18) = s.2 (P + 18) := h2 _ (fun w => he w.symm)
  have wd : ∀ (y : Int) (D : List Int), WDz P s y D → WDz P s' y D := fun y D g i c hc => by
    rw [w18]
    exact g i c hc
  by_cases q : p = 6 + Y.length
  · have eη : eta X (Y ++ [B]) p = B := by
      unfold eta
      rw [if_neg (by omega), if_pos (by rw [List.length_append]; show p - 6 < Y.length + 1; omega), q, show 6 + Y.length - 6 = Y.length by omega, List.getD_eq_getElem?_getD, List.getElem?_append_right (Nat.le_refl _), Nat.sub_self]
      rfl
    rw [eη]
    refine ⟨a3.toInt, ?_, ?_, ⟨h3.1, h3.2, ha, by omega⟩, wd _ _ hw⟩
    · rw [KI_p (by omega), show ((p : Int)).toNat = p by omega, hj, if_neg (by omega), if_pos q]
    · rw [KI_p (by omega), show (12 + (p : Int)).toNat = 12 + p by omega, hj, if_pos (by omega)]
      exact hx
  · have eη : eta X (Y ++ [B]) p = eta X Y p := by
      unfold eta
      by_cases q6 : p < 6
      · rw [if_pos q6, if_pos q6]
      · rw [if_neg q6, if_neg q6, List.length_append]
        by_cases q7 : p - 6 < Y.length
        · rw [if_pos q7, show ([B] : List (List Int)).length = 1 from rfl, if_pos (show p - 6 < Y.length + 1 by omega), List.getD_eq_getElem?_getD, List.getD_eq_getElem?_getD, List.getElem?_append_left q7]
        · rw [if_neg q7, show ([B] : List (List Int)).length = 1 from rfl, if_neg (show ¬ p - 6 < Y.length + 1 by omega)]
    rw [eη]
    obtain ⟨y, g1, g2, g3, g4⟩ := g p hp
    refine ⟨y, ?_, ?_, g3, wd _ _ g4⟩
    · rw [← g1, KI_p (by omega), KI_p (by omega), hj, if_neg (by omega), if_neg (by omega)]
    · rw [← g2, KI_p (by omega), KI_p (by omega), hj, if_neg (by omega), if_neg (by omega)]
/-- TYPES put one behind the other, from the left -/
theorem ptL_s (A : List Int) (r : List (List Int)) (l : Int) (h : (ptT E A l).1 = 5) : ptL E (A :: r) l = ((ptL E r (ptT E A l).2.2).1, (ptT E A l).2.1 :: (ptL E r (ptT E A l).2.2).2.1, (ptL E r (ptT E A l).2.2).2.2) := if_pos h
theorem ptL_x (A : List Int) (r : List (List Int)) (l : Int) (h : ¬ (ptT E A l).1 = 5) : ptL E (A :: r) l = ((ptT E A l).1, [], (ptT E A l).2.2) := if_neg h
theorem zs_23x (hP : P = 3 ∨ P = 39) (h5 : ¬ (s.1 105 13).toInt = 5) : Zt (d + 9) (wd2 P 23) 23 [.ref 105, .int a1] s (fun v s' => s' = s ∧ v = some (.int 0)) := by
  refine zc_23 hP ?_
  unfold v_23_0
  refine ⟨fun _ => ?_, fun w => absurd w h5⟩
  unfold v_23_10 v_23_11
  refine ⟨fun _ => ?_, fun w => absurd w h5⟩
  unfold v_23_32
  refine ⟨fun _ => ?_, fun w => absurd (show (0 : Int32).toInt = 0 by decide) w⟩
  unfold v_23_46
  exact ⟨Or.inl (by decide), rfl, rfl⟩
/-- a Row of what is put for a call that has not begun -/
theorem MR_env (hP : P = 3 ∨ P = 39) (M : MRz K L W ar kd TN Ls n k0 mB P k z gg L0 (o, C, st, b, E, fr, vs, l, cl, fa) s) (h1 : s'.1 = s.1) (h2 : ∀ r, ¬ r = 113 + 2 * (fr.length + 1) → s'.2 r = s.2 r) : MRz K L W ar kd TN Ls n k0 mB P k z gg L0 (o, C, st, b, E, fr, vs, l, cl, fa) s' := by
  obtain ⟨M1, T, M2, M3, ⟨M4, M4b, M4c⟩, M5, M6, M7⟩ := M
  have M2 : MTp T l s := M2
  have M3 : MFd L0 s st fr vs l cl := M3
  have M4 : LYz P k z s (s.1 105 6).toInt C := M4
  have hfr : fr.length ≤ 40 := M3.2.2.2.2.2
  have hT : 18 ≤ T := by have := M2.1.2.1; omega
  have R : RUz P T s s' := RUz_o hP (fun r _ _ _ h4 => h2 r (by omega)) (fun c q _ _ => by rw [h1])
  refine ⟨PGz_u hP hT R M1, T, ?_, ?_, ⟨?_, M4b, M4c⟩, STk_u R (Int.le_refl _) (fun j _ => by rw [h2 106 (by omega)]) M5, VLk_u R (Int.le_refl _) (h2 111 (by omega)) M6, FRk_u hP R (Int.le_refl _) fr b E (fun j _ => by rw [h2 108 (by omega)]) (fun i hi => h2 _ (by omega)) M7⟩
  · show MTp T l s'
    unfold MTp
    rw [h1]
    exact M2
  · show MFd L0 s' st fr vs l cl
    unfold MFd
    rw [h1]
    exact M3
  · show LYz P k z s' (s'.1 105 6).toInt C
    rw [h1]
    exact RUz_ly hP R M4
theorem HL_env (hP : P = 3 ∨ P = 39) {X : PMs} (ho : ¬ X.1 = 0) (M : HLz K L W ar kd TN Ls n k0 mB P k z gg L0 X s) (h1 : s'.1 = s.1) (he : skE e = true) (h2 : ∀ r, ¬ r = e → s'.2 r = s.2 r) (h113 : 113 ≤ e) : HLz K L W ar kd TN Ls n k0 mB P k z gg L0 X s' := by
  obtain ⟨M1, M2, M3, M4⟩ := M
  have hlt := ev_lt he
  have R : RUz P 18 s s' := RUz_o hP (fun r _ _ _ h4 => h2 r (by omega)) (fun c q _ _ => by rw [h1])
  refine ⟨PGz_u hP (Int.le_refl _) R M1, by rw [h1]; exact M2, fun w => by rw [h1]; exact M3 w, fun w => absurd w ho⟩
end ZTI
