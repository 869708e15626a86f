/-! ===== the class: variable, field ===== -/
/-- what typing leaves: from token t to e, top at T, kept up to k -/
def CPz (ar : Int → Int) (nT : Int) (S : Scp) (P : Nat) (T k t e : Int) (R : Int × List Int) (C : List Ins) (s s' : zS) (r : Int32) : Prop := (s'.1 P 14).toInt = R.1 ∧ (R.1 = 0 → CFe P T k s s' ∧ (s'.1 84 5).toInt = e ∧ (CDx P (s'.1 P 10).toInt s s' C ∧ (C.length : Int) ≤ e - t) ∧ ∃ T' k', ((s'.1 75 3).toInt = T' ∧ T ≤ T' ∧ T' ≤ T + 60) ∧ ((s'.1 P 10).toInt = k' ∧ k ≤ k' ∧ k' ≤ k + 15 * (e - t)) ∧ TYc ar nT (S.2.1.length : Int) (S.1.length : Int) P T' k' s' r.toInt R.2)
section ZZVA
variable {K L W ar kd : Int → Int} {TN Ls : List Int} {n lo hi lo' hi' k0 co T T0 k t e a : Int} {S : Scp} {d P m i : Nat} {s s' u : zS} {a1 a2 a3 a4 a5 : Int32} {A Z O' l y : List Int} {R : Int × List Int}
theorem TYs_nil {nT nX nY r : Int} : TYs ar nT nX nY P k s r [] := ⟨Nat.zero_le _, fun q => absurd rfl q, (fun j c hj => by cases hj), (fun y hy => by cases hy)⟩
theorem CPz_f {f : Int} {r : Int32} {C : List Ins} (h : (s'.1 P 14).toInt = f) (hf : ¬ f = 0) : CPz ar a S P T k t e (f, []) C s s' r := ⟨h, fun z => absurd z hf⟩
set_option maxHeartbeats 1000000 in
/-- variable -/
theorem zs_9 (hP : P = 3 ∨ P = 39) (h : PRm K L W ar kd n lo' hi' TN Ls) (I : CIn K L W ar kd TN Ls n k0 S P lo hi T0 s) (hV : VTy ar (TN.length : Int) S) (hf0 : (s.1 P 14).toInt = 0) (hat : (s.1 84 5).toInt = t) (ht0 : 0 ≤ t ∧ t ≤ n) (ht : (s.1 75 3).toInt = T) (hT : T0 ≤ T) (hk0 : k0 ≤ k) (hk : (s.1 P 10).toInt = k) (hz : SZc P s t) (hz4 : t < 4000) : Zt (d + 10) (wd P 9) 9 [.ref 84] s (fun v s' => ∃ r : Int32, v = some (.int r) ∧ CPz ar (TN.length : Int) S P T k t (t + 1) (exV L W S t) (ciV W S t) s s' r) := by
  have hn := h.1.1.1
  have hLt := h.1.1.2.2 t ht0.1 ht0.2
  have e10 : KI (s.2 (P + 10)) = W := I.1.1.1.2.2.1
  have eL : KI (s.2 (P + 6)) = L := I.1.1.1.2.1
  rw [show d + 10 = d + 1 + 9 by omega]
  refine zc_9 hP ?_
  unfold v_9_0
  intro x1 hx1 s2 hs2
  have ex1 := hx1 (by omega)
  have F2 : CFe P T k s s2 := by rw [hs2]; exact CFe_f (Or.inr (Or.inr ⟨rfl, rfl⟩))
  have I2 : s2.2 = s.2 := by rw [hs2]; rfl
  have f2 : ∀ c q, ¬ (c = 84 ∧ q = 5) → s2.1 c q = s.1 c q := fun c q hq => by rw [hs2, zf_1, if_neg hq]
  have at2 : (s2.1 84 5).toInt = t + 1 := by rw [hs2, zf_1, if_pos ⟨rfl, rfl⟩, ex1, hat]
  have wt : (zg s (P + 10) (s.1 84 5)).toInt = W t := by rw [zg_K, e10, hat]
  obtain ⟨wd0, hwd0⟩ : ∃ x, x = zg s (P + 10) (s.1 84 5) := ⟨_, rfl⟩
  rw [← hwd0] at wt ⊢
  have hf2 : (s2.1 P 14).toInt = 0 := by rw [f2 P 14 (fun z => absurd z.2 (by decide))]; exact hf0
  -- none such
  have none' : ∀ (w : zS), w = s2 → fIx (wEq W t) 0 S.2.2.2.1 < 0 → Zt (d + 1 + 8) (wd P 38) 38 [.ref P, .int 2, .int (s.1 84 5)] w (fun v1 s3 => v1 = none ∧ ∃ r : Int32, some (Value.int (s3.1 84 7)) = some (.int r) ∧ CPz ar (TN.length : Int) S P T k t (t + 1) (exV L W S t) (ciV W S t) s s3 r) := by
    rintro w rfl hx
    have eR : exV L W S t = (2 + 16 * L t, []) := by
      unfold exV
      rw [if_neg (by omega)]
    refine Zt.imp (Zt.mo (d := 9) (by omega) (zs_38b (d := 0) hP (by rw [I2, eL, hat]; omega) (by decide))) ?_
    rintro v1 s3 ⟨rfl, hc⟩
    refine ⟨rfl, _, rfl, ?_⟩
    rw [eR]
    rcases hc with ⟨-, -, x, hx, rfl⟩ | ⟨hc, -⟩
    · rw [I2, eL, hat, show (2 : Int32).toInt = 2 by decide] at hx
      exact CPz_f (by rw [zf_1, if_pos ⟨rfl, rfl⟩, hx]) (by omega)
    · exact absurd ⟨hf2, by decide⟩ hc
  -- found: VAR j
  have found : ∀ (w : zS) (x : Int32) (j : Nat) (A : List Int) (r : Int32), DFz P s2 w → CDx P k s2 w [(1, [], (j : Int), [], 0)] → fIx (wEq W t) 0 S.2.2.2.1 = (j : Int) → S.2.2.2.2[j]? = some A → (0 ≤ r.toInt ∧ (r.toInt + (A.length : Int) ≤ T ∨ (18738 ≤ r.toInt ∧ r.toInt + (A.length : Int) ≤ k))) → WDz P s r.toInt A → CPz ar (TN.length : Int) S P T k t (t + 1) (exV L W S t) (ciV W S t) s w r := by
    intro w x j A r hd hcd hx hA hr hw
    have eR : exV L W S t = (0, A) := by
      unfold exV
      rw [if_pos (by omega), hx, Int.toNat_natCast, List.getD_eq_getElem?_getD, hA]
      rfl
    have Fw : CFe P T k s w := CFe_tr F2 (CFe_df hP hd) (Int.le_refl _) (Int.le_refl _)
    have fw : ∀ c q, ¬ (c = 84 ∧ q = 5) → ¬ q = 2 → w.1 c q = s.1 c q := fun c q h1 h2 => by rw [hd.2 c q (fun z => h2 z.2), f2 c q h1]
    rw [eR]
    refine ⟨by rw [fw P 14 (fun z => absurd z.2 (by decide)) (by decide)]; exact hf0, fun _ => ⟨Fw, by rw [hd.2 84 5 (fun z => absurd z.2 (by decide))]; exact at2, ⟨by rw [fw P 10 (fun z => absurd z.2 (by decide)) (by decide), hk]; unfold ciV; rw [hx]; exact CDx_l F2 (f2 _ _ (fun z => absurd z.2 (by decide))) (by rw [I2]) hcd, by show ((1 : Nat) : Int) ≤ t + 1 - t; omega⟩, T, k, ⟨by rw [fw 75 3 (fun z => absurd z.1 (by decide)) (by decide)]; exact ht, Int.le_refl _, by omega⟩, ⟨by rw [fw P 10 (fun z => absurd z.2 (by decide)) (by decide)]; exact hk, Int.le_refl _, by omega⟩, hr, CFe_wd Fw hr.1 hr.2 hw, hV A (List.mem_of_getElem? hA)⟩⟩
  rcases I.2.2.2.2 with ⟨m1, m2⟩ | ⟨v0, vs, A0, As, b0, y1, y2, y3, y4, y5, y6, y7, y8, y9, y10, y11, y12, y13, y14, y15⟩
  · have e6 : (s2.1 84 6).toInt < 0 := by rw [f2 84 6 (by decide)]; exact m1
    refine ⟨fun _ => ?_, fun z => absurd e6 z⟩
    unfold v_9_43
    refine ⟨fun z => by omega, fun _ => ?_⟩
    unfold v_9_55
    intro x3 hx3
    refine ⟨fun c1 c2 c3 c4 c5 w => w = s2 ∧ c2 = s.1 84 5 ∧ c3 = 0 ∧ c5 = 0, fun _ _ _ _ _ _ => 0, ⟨rfl, rfl, rfl, rfl⟩, ?_⟩
    rintro c1 c2 c3 c4 c5 w ⟨ew, e2, e3, e5⟩
    subst e2 e3 e5
    unfold v_9_74
    exact ⟨fun _ => none' w ew (by rw [m2]; show (-1 : Int) < 0; decide), fun z => absurd (Int.le_refl _) z⟩
  · have e6 : s2.1 84 6 = s.1 84 6 := f2 84 6 (by decide)
    rw [e6]
    refine ⟨fun z => by omega, fun _ => ?_⟩
    have wv : (zg s2 (P + 10) (zg s2 (P + 26) ((s.1 84 6) * 10 + 1))).toInt = W v0 := by
      rw [zg_K, zg_fn (s := s2) (P := P) (a1 := s.1 84 6) (c := 1) (k := 1) (by decide) (by decide) (by omega), I2, e10]
      have : fnc s2 P (s.1 84 6).toInt 1 = fnc s P (s.1 84 6).toInt 1 := by
        unfold fnc
        rw [I2]
      rw [this, y6]
    rw [wv, wt]
    refine ⟨fun z => ?_, fun z => ?_⟩
    · unfold v_9_43
      rw [e6]
      refine ⟨fun _ => ?_, fun z => by omega⟩
      have e75 : s2.1 75 6 = s.1 75 6 := f2 75 6 (by decide)
      have sg4 : (zg s2 (P + 28) ((s2.1 75 6) * 5 + 4)).toInt = (vs.length : Int) := by
        rw [e75, zg_sg (s := s2) (P := P) (a1 := s.1 75 6) (c := 4) (k := 4) (by decide) (by decide) (by omega), ← y11]
        unfold sgc
        rw [I2]
      have sg23 : (zg s2 (P + 28) ((s2.1 75 6) * 5 + 2)).toInt + (zg s2 (P + 28) ((s2.1 75 6) * 5 + 3)).toInt = b0 := by
        rw [e75, zg_sg (s := s2) (P := P) (a1 := s.1 75 6) (c := 2) (k := 2) (by decide) (by decide) (by omega), zg_sg (s := s2) (P := P) (a1 := s.1 75 6) (c := 3) (k := 3) (by decide) (by decide) (by omega), ← y12]
        unfold sgc
        rw [I2]
      unfold v_9_55
      rw [sg23]
      intro x3 hx3
      have ex3 := hx3 (by omega)
      obtain ⟨t0, ht0'⟩ : ∃ x, x = zg s2 (P + 28) ((s2.1 75 6) * 5 + 4) := ⟨_, rfl⟩
      rw [← ht0'] at sg4 ⊢
      refine ⟨fun c1 c2 c3 c4 c5 w => c1 = wd0 ∧ c2 = s.1 84 5 ∧ c3 = t0 ∧ c4 = x3 ∧ w = s2 ∧ ∃ i : Nat, i ≤ vs.length ∧ c5.toInt = (i : Int) ∧ ∀ (j : Nat) (v : Int), j < i → vs[j]? = some v → ¬ W v = W t, fun _ _ _ _ c5 _ => (100 - c5.toInt).toNat, ⟨rfl, rfl, rfl, rfl, rfl, 0, Nat.zero_le _, by decide, fun j v hj => absurd hj (Nat.not_lt_zero _)⟩, ?_⟩
      rintro c1 c2 c3 c4 c5 w ⟨g1, g2, g3, g4, gw, i, i1, i2, i3⟩
      subst g1 g2 g3 g4
      have gw' := gw
      subst gw
      unfold v_9_74
      refine ⟨fun q => none' w gw' ?_, fun q x4 hx4 => ?_⟩
      · have : fIx (wEq W t) 0 S.2.2.2.1 = -1 := by
          rw [y1]
          refine fIx_no _ _ (fun j v hv => ?_)
          unfold wEq
          cases j with
          | zero =>
            have ev : v0 = v := by simpa using hv
            rw [← ev]
            exact decide_eq_false z
          | succ j => exact decide_eq_false (i3 j v (by have := (List.getElem?_eq_some_iff.mp hv).1; rw [List.length_cons] at this; omega) (by simpa using hv))
        omega
      · have hi : i < vs.length := by omega
        have hv := List.getElem?_eq_getElem hi
        have ex4 := hx4 (by omega)
        have hAi := List.getElem?_eq_getElem (show i < As.length by omega)
        have ws : (zg w (P + 10) (zg w (P + 30) (x4 * 5 + 0))).toInt = W vs[i] := by
          rw [zg_K, zg_sl (s := w) (P := P) (a1 := x4) (c := 0) (k := 0) (by decide) (by decide) (by omega), I2, e10, ex4, ex3, i2]
          have : slc w P (b0 + (i : Int)) 0 = slc s P (b0 + (i : Int)) 0 := by
            unfold slc
            rw [I2]
          rw [this, y14 i _ hv]
        rw [ws, wt]
        refine ⟨fun q1 x5 hx5 => ?_, fun q1 x6 hx6 => ?_⟩
        · have ex5 := hx5 (by omega)
          refine ⟨⟨rfl, rfl, rfl, rfl, rfl, i + 1, by omega, by omega, fun j v hj hjv => ?_⟩, by dsimp only; omega⟩
          by_cases ej : j = i
          · rw [ej, hv] at hjv
            rw [← Option.some.inj hjv]
            exact q1
          · exact i3 j v (by omega) hjv
        · have ex6 := hx6 (by omega)
          refine Zt.imp (Zt.mo (d := 9) (by omega) (zs_59c (d := 0) (k := k) (I := (1, [], ((i + 1 : Nat) : Int), [], 0)) hP (by decide) (by omega) (by decide) (by decide) (by decide) (by decide) (SZc_1 (f2 _ _ (fun z => absurd z.2 (by decide))) hz) hz4 (fun s' _ pc c => inz_14 (Or.inl rfl) (by rw [show x6.toInt = ((i + 1 : Nat) : Int) by omega] at c; exact c)))) ?_
          rintro v7 s8 ⟨rfl, g8, c8⟩
          refine ⟨rfl, fun x9 hx9 => ⟨_, rfl, ?_⟩⟩
          have ex9 := hx9 (by omega)
          obtain ⟨z1, z2, z3⟩ := y15 i _ hAi
          have ez : (zg s8 (P + 30) (x9 * 5 + 3)).toInt = slc s P (b0 + (i : Int)) 3 := by
            rw [zg_sl (s := s8) (P := P) (a1 := x9) (c := 3) (k := 3) (by decide) (by decide) (by omega), ex9, ex3, i2]
            unfold slc
            rw [g8.1 (P + 30) (by omega), I2]
          refine found s8 x9 (i + 1) As[i] _ g8 c8 ?_ ?_ ?_ ?_
          · rw [y1]
            have := fIx_at (p := wEq W t) (v0 :: vs) 0 (i + 1) vs[i] (by rw [List.getElem?_cons_succ]; exact hv) (by unfold wEq; exact decide_eq_true q1) (fun j v hj hjv => ?_)
            · rw [this]
              omega
            · unfold wEq
              cases j with
              | zero =>
                have ev : v0 = v := by simpa using hjv
                rw [← ev]
                exact decide_eq_false z
              | succ j => exact decide_eq_false (i3 j v (by omega) (by simpa using hjv))
          · rw [y2, List.getElem?_cons_succ]
            exact hAi
          · rw [ez]
            exact ⟨by omega, Or.inr ⟨z1, by omega⟩⟩
          · rw [ez]
            exact z3
    · refine Zt.imp (Zt.mo (d := 9) (by omega) (zs_59c (d := 0) (k := k) (I := (1, [], ((0 : Nat) : Int), [], 0)) hP (by decide) (by decide) (by decide) (by decide) (by decide) (by decide) (SZc_1 (f2 _ _ (fun z => absurd z.2 (by decide))) hz) hz4 (fun s' _ pc c => inz_14 (Or.inl rfl) c))) ?_
      rintro v4 s5 ⟨rfl, g5, c5⟩
      refine ⟨rfl, _, rfl, ?_⟩
      have e7 : (s5.1 84 7).toInt = 18 := by
        rw [g5.2 84 7 (fun z => absurd z.2 (by decide)), f2 84 7 (by decide)]
        exact y7
      refine found s5 0 0 A0 _ g5 c5 ?_ (by rw [y2]; rfl) (by rw [e7]; exact ⟨by decide, Or.inl (by omega)⟩) (by rw [e7]; exact y9)
      rw [y1]
      show (if wEq W t v0 = true then ((0 : Nat) : Int) else _) = _
      rw [if_pos (by unfold wEq; exact decide_eq_true z)]
set_option maxHeartbeats 2000000 in
/-- field: the point at a, the name behind it -/
theorem zs_12 (hP : P = 3 ∨ P = 39) (h : PRm K L W ar kd n lo' hi' TN Ls) (I : CIn K L W ar kd TN Ls n k0 S P lo hi T0 s) (hT0 : 18 ≤ T0) (hf0 : (s.1 P 14).toInt = 0) (hat : (s.1 84 5).toInt = a + 1) (ha0 : 0 ≤ a ∧ a + 1 ≤ n) (ht : (s.1 75 3).toInt = T) (hT : T0 ≤ T ∧ T + 180 ≤ 18738) (hk0 : k0 ≤ k) (hk : (s.1 P 10).toInt = k) (hk2 : k ≤ 82938) (hA : TYc ar (TN.length : Int) (S.2.1.length : Int) (S.1.length : Int) P T k s a1.toInt A) (h2 : a2.toInt = a) (hz : SZc P s a) (hz4 : a < 4000) : Zt (d + 13) (wd P 12) 12 [.ref 84, .int a1, .int a2] s (fun v s' => ∃ r : Int32, v = some (.int r) ∧ CPz ar (TN.length : Int) S P T k a (a + 2) (exF K L W ar kd TN Ls a A) [(4, [], fIx (wEq W (a + 1)) 0 (fNm K L Ls (A.headD 0)), [], 0)] s s' r ∧ ((exF K L W ar kd TN Ls a A).1 = 0 → T ≤ r.toInt)) := by
  obtain ⟨ha, h24⟩ := PR_ar h
  have hn := h.1.1.1
  have hLa := h.1.1.2.2 a ha0.1 (by omega)
  have hLa1 := h.1.1.2.2 (a + 1) (by omega) ha0.2
  have e10 : KI (s.2 (P + 10)) = W := I.1.1.1.2.2.1
  have eL : KI (s.2 (P + 6)) = L := I.1.1.1.2.1
  obtain ⟨c, A', rfl⟩ := TYc_ne hA
  have hc := hA.2.2.2.2 c List.mem_cons_self
  rw [show d + 13 = d + 4 + 9 by omega]
  refine zc_12 hP ?_
  unfold v_12_0
  intro x1 hx1 s2 hs2
  have ex1 := hx1 (by omega)
  have F2 : CFe P T k s s2 := by rw [hs2]; exact CFe_f (Or.inr (Or.inr ⟨rfl, rfl⟩))
  have I2 : s2.2 = s.2 := by rw [hs2]; rfl
  have f2 : ∀ c q, ¬ (c = 84 ∧ q = 5) → s2.1 c q = s.1 c q := fun c q hq => by rw [hs2, zf_1, if_neg hq]
  have at2 : (s2.1 84 5).toInt = a + 2 := by rw [hs2, zf_1, if_pos ⟨rfl, rfl⟩, ex1, hat]; omega
  have hf2 : (s2.1 P 14).toInt = 0 := by rw [f2 P 14 (fun z => absurd z.2 (by decide))]; exact hf0
  have hT2 : (s2.1 75 3).toInt = T := by rw [f2 75 3 (fun z => absurd z.1 (by decide))]; exact ht
  have hk22 : (s2.1 P 10).toInt = k := by rw [f2 P 10 (fun z => absurd z.2 (by decide))]; exact hk
  have Is2 := CIn_e hP hT0 hT.1 hk0 F2 I
  have ec : (zg s2 (P + 18) a1).toInt = c := by
    rw [zg_K, I2]
    exact TYc_hd hA
  obtain ⟨x4, hx4⟩ : ∃ x, x = zg s2 (P + 18) a1 := ⟨_, rfl⟩
  rw [← hx4] at ec ⊢
  have hzk := (zInf_k Is2.1.1.2.2.1 Is2.1.1.2.2.2 (x := x4) (by omega)).2
  rw [ec] at hzk
  have blm : ∀ (y : Int32) (q : Int32) (tk : Int) (r : Int32) (w : zS), w = s2 → (y.toInt = 2 ∨ y.toInt = 6) → q.toInt = tk → (0 ≤ L tk ∧ L tk ≤ 4000) → exF K L W ar kd TN Ls a (c :: A') = (y.toInt + 16 * L tk, []) → Zt (d + 4 + 8) (wd P 38) 38 [.ref P, .int y, .int q] w (fun v1 s3 => v1 = none ∧ ∃ r' : Int32, some (Value.int r) = some (.int r') ∧ CPz ar (TN.length : Int) S P T k a (a + 2) (exF K L W ar kd TN Ls a (c :: A')) [(4, [], fIx (wEq W (a + 1)) 0 (fNm K L Ls ((c :: A').headD 0)), [], 0)] s s3 r' ∧ ((exF K L W ar kd TN Ls a (c :: A')).1 = 0 → T ≤ r'.toInt)) := by
    rintro y q tk r w rfl hy hq hL eR
    refine Zt.imp (Zt.mo (d := 9) (by omega) (zs_38b (d := 0) hP (by rw [I2, eL, hq]; omega) (by omega))) ?_
    rintro v1 s3 ⟨rfl, hc⟩
    refine ⟨rfl, r, rfl, ?_⟩
    rw [eR]
    rcases hc with ⟨-, -, x, hx, rfl⟩ | ⟨hc, -⟩
    · rw [I2, eL, hq] at hx
      exact ⟨CPz_f (by rw [zf_1, if_pos ⟨rfl, rfl⟩, hx]) (by omega), fun z => by have z : y.toInt + 16 * L tk = 0 := z; omega⟩
    · exact absurd ⟨hf2, by omega⟩ hc
  refine ⟨fun w1 => ?_, fun w1 => ?_⟩
  · have hk1 : kd c = 1 := Decidable.byContradiction (fun q => w1 (hzk.mpr q))
    obtain ⟨c1, c2, c3, c4, c5, c6, ⟨c7, c7'⟩, c8⟩ := cz_fl h Is2.1 hk1
    have eF : exF K L W ar kd TN Ls a (c :: A') = if 0 ≤ fIx (wEq W (a + 1)) 0 (fNm K L Ls c) then (if 60 < (sbs (eta (argT ar (c :: A')) []) ((fTy K L W ar TN Ls c).getD (fIx (wEq W (a + 1)) 0 (fNm K L Ls c)).toNat [])).length then (9 + 16 * L (a + 1), []) else (0, sbs (eta (argT ar (c :: A')) []) ((fTy K L W ar TN Ls c).getD (fIx (wEq W (a + 1)) 0 (fNm K L Ls c)).toNat []))) else (2 + 16 * L (a + 1), []) := by
      unfold exF
      rw [show (c :: A').headD 0 = c from rfl, if_pos hk1]
    have wt : (zg s2 (P + 10) (s.1 84 5)).toInt = W (a + 1) := by rw [zg_K, I2, e10, hat]
    refine ⟨fun b1 b2 b3 b4 b5 w => b1 = a1 ∧ b2 = a2 ∧ b3 = s.1 84 5 ∧ b4 = x4 ∧ w = s2 ∧ ∃ i : Nat, i ≤ (fNm K L Ls c).length ∧ b5.toInt = (i : Int) ∧ ∀ (j : Nat) (v : Int), j < i → (fNm K L Ls c)[j]? = some v → ¬ W v = W (a + 1), fun _ _ _ _ b5 _ => (100 - b5.toInt).toNat, ⟨rfl, rfl, rfl, rfl, rfl, 0, Nat.zero_le _, by decide, fun j v hj => absurd hj (Nat.not_lt_zero _)⟩, ?_⟩
    rintro b1 b2 b3 b4 b5 w ⟨g1, g2, g3, g4, gw, i, i1, i2, i3⟩
    subst g1 g2 g3 g4
    have gw' := gw
    subst gw
    have t4 : (zg w (P + 24) (b4 * 6 + 4)).toInt = ((fTy K L W ar TN Ls c).length : Int) := by
      rw [zg_ty (s := w) (P := P) (a1 := b4) (c := 4) (k := 4) (by decide) (by decide) (by omega), ec, c3]
    have t3 : (zg w (P + 24) (b4 * 6 + 3)).toInt = tyc w P c 3 := by
      rw [zg_ty (s := w) (P := P) (a1 := b4) (c := 3) (k := 3) (by decide) (by decide) (by omega), ec]
    unfold v_12_29
    rw [t4, t3]
    refine ⟨fun q => blm 2 _ (a + 1) _ w gw' (Or.inl (by decide)) hat hLa1 ?_, fun q x5 hx5 => ?_⟩
    · have : fIx (wEq W (a + 1)) 0 (fNm K L Ls c) = -1 := fIx_no _ _ (fun j v hv => by
        unfold wEq
        exact decide_eq_false (i3 j v (by have := (List.getElem?_eq_some_iff.mp hv).1; omega) hv))
      rw [eF, if_neg (by omega)]
      rfl
    · have hi : i < (fNm K L Ls c).length := by omega
      have hv := List.getElem?_eq_getElem hi
      have hZ := List.getElem?_eq_getElem (show i < (fTy K L W ar TN Ls c).length by omega)
      have ex5 := hx5 (by omega)
      have ws : (zg w (P + 10) (zg w (P + 30) (x5 * 5 + 0))).toInt = W (fNm K L Ls c)[i] := by
        rw [zg_K, zg_sl (s := w) (P := P) (a1 := x5) (c := 0) (k := 0) (by decide) (by decide) (by omega), ex5, i2, c6 i _ hv, I2, e10]
      rw [ws, wt]
      refine ⟨fun q1 x7 hx7 => ?_, fun q1 => ?_⟩
      · have ex7 := hx7 (by omega)
        refine ⟨⟨rfl, rfl, rfl, rfl, rfl, i + 1, by omega, by omega, fun j v hj hjv => ?_⟩, by dsimp only; omega⟩
        by_cases ej : j = i
        · rw [ej, hv] at hjv
          rw [← Option.some.inj hjv]
          exact q1
        · exact i3 j v (by omega) hjv
      · have efx : fIx (wEq W (a + 1)) 0 (fNm K L Ls c) = (i : Int) := by
          have := fIx_at (p := wEq W (a + 1)) (fNm K L Ls c) 0 i _ hv (by unfold wEq; exact decide_eq_true q1) (fun j v hj hjv => by
            unfold wEq
            exact decide_eq_false (i3 j v hj hjv))
          rw [this]
          omega
        rw [efx, if_pos (by omega), Int.toNat_natCast, show (fTy K L W ar TN Ls c).getD i [] = (fTy K L W ar TN Ls c)[i] by rw [List.getD_eq_getElem?_getD, hZ]; rfl] at eF
        refine Zt.imp (Zt.mo (d := 9) (by omega) (zs_59c (d := 0) (k := k) (I := (4, [], (i : Int), [], 0)) hP (by decide) (by omega) (by decide) (by decide) (by decide) (by decide) (SZc_1 (f2 _ _ (fun z => absurd z.2 (by decide))) hz) hz4 (fun s' _ pc c => inz_14 (Or.inr rfl) (by rw [i2] at c; exact c)))) ?_
        rintro v8 s9 ⟨rfl, g9, c9⟩
        have F9 : CFe P T k w s9 := CFe_df hP g9
        have F9s : CFe P T k s s9 := CFe_tr F2 F9 (Int.le_refl _) (Int.le_refl _)
        have f9 : ∀ c q, ¬ q = 2 → s9.1 c q = w.1 c q := fun c q hq => g9.2 c q (fun z => hq z.2)
        have I9 := CIn_e hP hT0 hT.1 hk0 F9s I
        obtain ⟨⟨z1, z2⟩, z3, z4, z5, z6⟩ := c7 i _ hZ
        have z7 := c7' i _ hZ
        obtain ⟨z8, z9⟩ := c8 _ (List.mem_of_getElem? hZ)
        have e9 : slc s9 P (tyc w P c 3 + (i : Int)) 3 = slc w P (tyc w P c 3 + (i : Int)) 3 := by
          unfold slc
          rw [CFe_r F9 (by decide) hP]
        have ap2 := (argT_P ha hA.2.2.1 hA.2.2.2.2 hA.2.2.2.1.2).2
        have hk0' := I.1.2.2.2.2.1.2
        refine ⟨rfl, Zt.imp (zs_13 (d := d) (k := k) (Z := (fTy K L W ar TN Ls c)[i]) (Ys := []) (sl := tyc w P c 3 + (i : Int)) (q := a + 1) hP h I9 hT0 (by rw [f9 P 14 (by decide)]; exact hf2) (by rw [f9 75 3 (by decide)]; exact hT2) hT hk0 hk2 (TYc_e F9s hA (Int.le_refl _) (Int.le_refl _)) TYs_nil (by decide) (by rw [ex5, i2]) ⟨by omega, by omega⟩ (by rw [e9]; exact z1) (by rw [e9]; exact z7) (by rw [e9]; exact CFe_wd F9 (by omega) (Or.inr ⟨z1, by omega⟩) z3) z4 z5 (by rw [ap2]; exact z8) z9 hat ⟨by omega, ha0.2⟩) ?_⟩
        rintro v10 s11 ⟨r, rfl, r1, r2⟩
        refine ⟨r, rfl, r, rfl, ?_⟩
        rw [eF]
        by_cases q6 : 60 < (sbs (eta (argT ar (c :: A')) []) (fTy K L W ar TN Ls c)[i]).length
        · rw [if_pos q6] at r1 ⊢
          exact ⟨CPz_f r1 (by omega), fun z => by have z : 9 + 16 * L (a + 1) = 0 := z; omega⟩
        · rw [if_neg q6] at r1 ⊢
          obtain ⟨u1, u2, u0, T', u3, u4, u5, u6, u7⟩ := r2 r1
          refine ⟨⟨r1, fun _ => ⟨CFe_tr F9s u1 (Int.le_refl _) (Int.le_refl _), by rw [u2 84 5 (by decide), f9 84 5 (by decide)]; exact at2, ⟨by rw [u2 P 10 (fun z => absurd z.2 (by decide)), f9 P 10 (by decide), hk22, show ((c :: A').headD 0) = c from rfl, efx]; exact CDx_r u1 (Int.le_refl _) (u2 _ _ (fun z => absurd z.2 (by decide))) u0 (CDx_l F2 (f2 _ _ (fun z => absurd z.2 (by decide))) (by rw [I2]) c9), by show ((1 : Nat) : Int) ≤ a + 2 - a; omega⟩, T', k, ⟨u3, u4, u5⟩, ⟨by rw [u2 P 10 (fun z => absurd z.2 (by decide)), f9 P 10 (by decide)]; exact hk22, Int.le_refl _, by omega⟩, u6⟩⟩, fun _ => u7⟩
  · have hk1 : ¬ kd c = 1 := hzk.mp w1
    refine blm 6 _ a _ s2 rfl (Or.inr (by decide)) h2 hLa ?_
    unfold exF
    rw [show (c :: A').headD 0 = c from rfl, if_neg hk1]
    rfl
end ZZVA
