/-! ===== names of FIELDS and VARS; typeField ===== -/
section ZPN
variable {K L W ar kd : Int → Int} {n lo hi B b A0 x y β0 β1 : Int} {TN Ls : List Int} {S : Scp} {s s' u : yS} {d m g i : Nat} {a1 a2 : Int32} {z z' t c l w w0 y0 e e0 a : Int} {R : Int × List Int}
theorem fIx_app1 {p : Int → Bool} {v : Int} : ∀ (l : List Int) (k : Nat), fIx p k (l ++ [v]) = if 0 ≤ fIx p k l then fIx p k l else if p v = true then (k : Int) + (l.length : Int) else -1
  | [], k => by
    show (if p v = true then (k : Int) else -1) = if (0 : Int) ≤ -1 then -1 else if p v = true then (k : Int) + ((0 : Nat) : Int) else -1
    rw [if_neg (show ¬ (0 : Int) ≤ -1 by decide)]
    by_cases h : p v = true
    · rw [if_pos h, if_pos h]
      omega
    · rw [if_neg h, if_neg h]
  | q :: l, k => by
    show (if p q = true then (k : Int) else fIx p (k + 1) (l ++ [v])) = if 0 ≤ (if p q = true then (k : Int) else fIx p (k + 1) l) then (if p q = true then (k : Int) else fIx p (k + 1) l) else if p v = true then (k : Int) + ((l.length + 1 : Nat) : Int) else -1
    by_cases h : p q = true
    · rw [if_pos h, if_pos h, if_pos (by omega)]
    · rw [if_neg h, if_neg h, fIx_app1 l (k + 1)]
      by_cases h2 : 0 ≤ fIx p (k + 1) l
      · rw [if_pos h2, if_pos h2]
      · rw [if_neg h2, if_neg h2]
        by_cases h3 : p v = true
        · rw [if_pos h3, if_pos h3]
          omega
        · rw [if_neg h3, if_neg h3]
theorem tw1_ds : ∀ (l pre : List Int), (∀ v, ¬ (v, true) ∈ tw1 W pre l) → ∀ (j : Nat) (v : Int), l[j]? = some v → (∀ q ∈ pre, ¬ W q = W v) ∧ ∀ (i : Nat) (q : Int), i < j → l[i]? = some q → ¬ W q = W v
  | [], _, _, j, v, h => by cases h
  | t :: l, pre, hn, 0, v, h => by
    have e : t = v := by simpa using h
    subst e
    refine ⟨fun q hq hw => hn t ?_, fun i q hi => absurd hi (Nat.not_lt_zero _)⟩
    have : anyW W pre t = true := List.any_eq_true.mpr ⟨q, hq, decide_eq_true hw⟩
    show (t, true) ∈ (t, anyW W pre t) :: tw1 W (pre ++ [t]) l
    rw [this]
    exact List.mem_cons_self
  | t :: l, pre, hn, j + 1, v, h => by
    obtain ⟨h1, h2⟩ := tw1_ds l (pre ++ [t]) (fun v hv => hn v (List.mem_cons_of_mem _ hv)) j v h
    refine ⟨fun q hq => h1 q (List.mem_append_left _ hq), fun i q hi hq => ?_⟩
    cases i with
    | zero =>
      have e : t = q := by simpa using hq
      rw [← e]
      exact h1 t (List.mem_append_right _ (List.mem_singleton.mpr rfl))
    | succ i => exact h2 i q (by omega) hq
/-- names that are one by one: the last that is a word is the first -/
theorem fIx_tk {l : List Int} {k : Nat} {v q : Int} (h : l[k]? = some v) (hd : ∀ (i : Nat) (p : Int), i < k → l[i]? = some p → ¬ W p = W v) : fIx (wEq W q) 0 (l.take (k + 1)) = if wEq W q v = true then (k : Int) else fIx (wEq W q) 0 (l.take k) := by
  have hk := (List.getElem?_eq_some_iff.mp h).1
  have e : l.take (k + 1) = l.take k ++ [v] := by
    rw [List.take_succ, h]
    rfl
  have hl : (l.take k).length = k := by
    rw [List.length_take]
    omega
  rw [e, fIx_app1, hl]
  have b := (fIx_lt (p := wEq W q) (l := l.take k)).1
  by_cases h1 : 0 ≤ fIx (wEq W q) 0 (l.take k)
  · rw [if_pos h1, if_neg]
    obtain ⟨i, p, i1, i2, -⟩ := fIx_in (l.take k) 0 h1
    have hi := (List.getElem?_eq_some_iff.mp i1).1
    rw [List.getElem?_take, if_pos (by omega)] at i1
    have n1 := hd i p (by omega) i1
    intro hv
    have w1 : W p = W q := of_decide_eq_true i2
    have w2 : W v = W q := of_decide_eq_true hv
    exact n1 (w1.trans w2.symm)
  · rw [if_neg h1]
    by_cases h2 : wEq W q v = true
    · rw [if_pos h2, if_pos h2]
      omega
    · rw [if_neg h2, if_neg h2]
      omega
/-- the names of a struct's FIELDS -/
theorem me_w (h : PRm K L W ar kd n lo hi TN Ls) (hk : kd c = 1) : (∀ v ∈ fNm K L Ls c, wTk K n v) ∧ ∀ (j : Nat) (v : Int), (fNm K L Ls c)[j]? = some v → ∀ (i : Nat) (q : Int), i < j → (fNm K L Ls c)[i]? = some q → ¬ W q = W v := by
  have hnT := PR_nT h
  obtain ⟨⟨hX, hD, hlo, hhi⟩, -, -, -, hkd, hk0, -, hSA⟩ := h
  have hc : 0 ≤ c ∧ c < (kTy K Ls : Int) := by
    rcases Int.lt_or_le c 0 with q | q
    · have := hk0 c (Or.inl q)
      omega
    · rcases Int.lt_or_le c (kTy K Ls : Int) with q2 | q2
      · exact ⟨q, q2⟩
      · have := hk0 c (Or.inr q2)
        omega
  obtain ⟨i, t, h1, h6, ec⟩ := ty_dc (K := K) (Ls := Ls) hc.1 hc.2
  have k2 := (hkd i t h1 h6).2
  rw [← ec] at k2
  have hst : tSt K L false (0, t) = true := by
    by_cases q : tSt K L false (0, t) = true
    · exact q
    · rw [if_neg q] at k2
      omega
  have eN : fNm K L Ls c = tMe K L false (0, t) := by
    have hat : (tyL K Ls)[c.toNat]? = some t := by
      rw [ec, Int.toNat_natCast]
      exact tyL_at Ls i t h1 h6
    unfold fNm
    rw [hat]
  rw [eN]
  obtain ⟨d1, d2, d3⟩ := dcC_at Ls i t lo hi hD h1
  have hpt := (d3 h6).1
  have hd3 := (d3 h6).2
  have hty := ty_fw hpt
  have h5 := y5_le hty.1
  have hym : y_m K L false (0, t) = m_s K L := if_pos hst
  refine ⟨fun u hu => ?_, fun j v hv => ?_⟩
  · have hu' := hu
    have ht2 := hty
    unfold tMe at hu'
    rw [hym] at hu' ht2
    obtain ⟨z1, z2, z3⟩ := ms_wn 7 _ ht2.2.2.1 u hu'
    have := ht2.2.2.2
    exact ⟨by omega, by omega, z1⟩
  · refine (tw1_ds _ [] (fun q hq => hSA q ⟨i, t, h1, ?_⟩) j v hv).2
    unfold twD twT
    rw [if_neg h6]
    refine List.mem_cons_of_mem _ (List.mem_append_right _ ?_)
    rw [if_pos hst]
    exact hq
/-- the names of a func's VARS -/
theorem va_w (h : PRm K L W ar kd n lo hi TN Ls) (h1 : Ls[i]? = some t) (h6 : K t = 6) : wTk K n (f_1 K L false (0, t)).2 ∧ (∀ v ∈ h_v K L (0, (f_5 K L false (0, t)).2 + 1), wTk K n v) ∧ ∀ (j : Nat) (v : Int), (h_v K L (0, (f_5 K L false (0, t)).2 + 1))[j]? = some v → ¬ W (f_1 K L false (0, t)).2 = W v ∧ ∀ (i : Nat) (q : Int), i < j → (h_v K L (0, (f_5 K L false (0, t)).2 + 1))[i]? = some q → ¬ W q = W v := by
  obtain ⟨⟨hX, hD, hlo, hhi⟩, -, -, -, -, -, -, hSA⟩ := h
  obtain ⟨d1, d2, d3⟩ := dcC_at Ls i t lo hi hD h1
  have hpf := (d2 h6).1
  have hd2 := (d2 h6).2
  have hfn := fn_fw hpf
  obtain ⟨e1, e2, e3, e4⟩ := fn_end hpf
  obtain ⟨w1, w2, w3⟩ := fn_wd hD hlo hhi h1 h6
  obtain ⟨q1, q2⟩ := hd_wn e2
  have h4 := f4_le hfn.1
  obtain ⟨f1, f2, f3, f4, f5, f6, f7, f8, f9, f10⟩ := f7_fw hfn.1
  have e5 : (f_5 K L false (0, t)).2 = (f_4 K L false (0, t)).2 + 1 := by rw [f6]
  refine ⟨w2, fun u hu => ?_, fun j v hv => ?_⟩
  · obtain ⟨z1, z2, z3⟩ := q2 u hu
    have z2' : (f_5 K L false (0, t)).2 + 1 ≤ u := z2
    exact ⟨by omega, by omega, z1⟩
  · obtain ⟨g1, g2⟩ := tw1_ds (W := W) _ [(f_1 K L false (0, t)).2] (fun q hq => hSA q ⟨i, t, h1, by
      unfold twD twF
      rw [if_pos h6]
      exact List.mem_append_right _ (List.mem_cons_of_mem _ (List.mem_append_right _ hq))⟩) j v hv
    exact ⟨g1 _ (List.mem_singleton.mpr rfl), g2⟩
set_option maxHeartbeats 1000000 in
/-- typeField -/
theorem x_223 {Φ0 : yS → Prop} (hst : ∀ u u', CFq z y0 A0 (u.1 65).toInt u u' → (u.1 65).toInt ≤ (u'.1 65).toInt → Φ0 u → Φ0 u') (hye : y0 ≤ e) (hze : z ≤ e ∧ e < z') (hz0 : 0 ≤ z) (hW : EWd K L W ar kd TN Ls n lo hi B b β0 β1 S) (hI : EIn K L W ar kd TN Ls n B b A0 x y β0 β1 S s) (h1 : a1.toInt = e) (h221 : (s.2.1 221 e.toNat).toInt = 3) (h227 : (s.2.1 227 e.toNat).toInt = e0) (h223 : (s.2.1 223 e.toNat).toInt = B + a) (h222 : (s.2.1 222 e.toNat).toInt = B + (a + 1)) (hE : ∀ (d : Nat) (q : Int32), q.toInt = e0 → Par d 217 [.ref 213, .int q] s (EPq K L ar TN Ls B A0 β0 β1 S z y0 w0 R Φ0 s)) (hy : y0 ≤ z') (hw : w0 ≤ w) (ha0 : 0 ≤ a) (hn : a + 1 ≤ n) (hK : K (a + 1) = 1) (hA : (s.1 65).toInt + w0 ≤ 100000) : Par d 223 [.ref 213, .int a1] s (EPq K L ar TN Ls B A0 β0 β1 S z z' w (if R.1 = 0 then exF K L W ar kd TN Ls a R.2 else R) (fun u => Φ0 u ∧ (u.2.1 226 e.toNat).toInt = fIx (wEq W (a + 1)) 0 (fNm K L Ls (R.2.headD 0))) s) := by
  cases d with
  | zero => exact Par_0
  | succ d =>
    have hWs := hW
    obtain ⟨hP, -, hSP, hB, hb⟩ := hWs
    obtain ⟨ha, h24⟩ := PR_ar hP
    have hLa := hP.1.1.2.2 a ha0 (by omega)
    have hLa1 := hP.1.1.2.2 (a + 1) (by omega) hn
    refine pb_223 ?_
    unfold ub_223_0
    rw [h1]
    intro _
    refine Par.imp (hE d _ h227) ?_
    rintro v2 s1 ⟨rfl, p1, p2, p2n, p3⟩
    refine ⟨rfl, fun w1 => ?_, fun w1 => ?_⟩
    · have hR0 : R.1 = 0 := by omega
      rw [if_pos hR0]
      obtain ⟨q1, q2, q3, q4, q5⟩ := p3 hR0
      have hI1 := EIn_f hP p1 q1 hI
      have h81 : (s1.1 8).toInt = 0 := by omega
      obtain ⟨c, A', eA⟩ : ∃ c A', R.2 = c :: A' := by
        cases hR2 : R.2 with
        | nil =>
          rw [hR2] at q4
          exact absurd rfl (isR_ne q4.2.2.2.2.1)
        | cons a l => exact ⟨a, l, rfl⟩
      rw [eA] at q4
      have eF : exF K L W ar kd TN Ls a R.2 = if kd c = 1 then (if 0 ≤ fIx (wEq W (a + 1)) 0 (fNm K L Ls c) then (if 60 < (sbs (eta (argT ar (c :: A')) []) ((fTy K L W ar TN Ls c).getD (fIx (wEq W (a + 1)) 0 (fNm K L Ls c)).toNat [])).length then (9 + 16 * L (a + 1), []) else (0, sbs (eta (argT ar (c :: A')) []) ((fTy K L W ar TN Ls c).getD (fIx (wEq W (a + 1)) 0 (fNm K L Ls c)).toNat []))) else (2 + 16 * L (a + 1), [])) else (6 + 16 * L a, []) := by
        rw [eA]
        rfl
      have r1 : ∀ q, ¬ rEx q → s1.2.1 q = s.2.1 q := p1.2.2.1
      have c222 : (s1.2.1 222 e.toNat).toInt = B + (a + 1) := by rw [r1 222 (by unfold rEx; omega)]; exact h222
      have c223 : (s1.2.1 223 e.toNat).toInt = B + a := by rw [r1 223 (by unfold rEx; omega)]; exact h223
      have c221 : (s1.2.1 221 e.toNat).toInt = 3 := by rw [r1 221 (by unfold rEx; omega)]; exact h221
      have RTk1 := hI1.1.1.2.2.1
      refine Par.imp (x_220 hW hI1 q4) ?_
      rintro v4 s3 ⟨hs3, x5, rfl, hx5⟩
      subst hs3
      refine ⟨x5, rfl, fun w3 _ x6 hx6 _ => ?_, fun w3 _ => ?_⟩
      · have hk : kd c = 1 := by omega
        rw [if_pos hk] at eF
        obtain ⟨hc, ⟨fl6, fln⟩, f239, f240, f241⟩ := fld_r (c := c) hP hI1.1 hk
        obtain ⟨mw, md⟩ := me_w hP hk
        have h75 : (s3.1 75).toInt = b := hI1.1.1.1
        rw [h75] at hx6
        refine Par.imp x_185 ?_
        rintro v8 s7 ⟨hs7, x9, rfl, hx9⟩
        subst hs7
        obtain ⟨tc1, -, -, tc4, -, -⟩ := TYp_c hSP.1 ha q4
        have hc24 := hP.2.2.1.1
        have hnT := PR_nT hP
        rw [tc1, (tc4 (by omega)).2] at hx9
        refine ⟨x9, rfl, fun _ x10 hx10 => ?_⟩
        have e10 : x10.toInt = 24 * b + c := by omega
        refine ⟨fun b1 b2 b3 b4 v => b1 = a1 ∧ b2 = x10 ∧ v = s7 ∧ ∃ k : Nat, k ≤ (fNm K L Ls c).length ∧ b4.toInt = (k : Int) ∧ b3.toInt = fIx (wEq W (a + 1)) 0 ((fNm K L Ls c).take k), ⟨rfl, rfl, rfl, 0, Nat.zero_le _, by decide, by rw [List.take_zero]; exact (show (-1 : Int32).toInt = -1 by decide)⟩, ?_⟩
        rintro b1 b2 b3 b4 v ⟨rb1, rb2, rfl, k, k1, k2, k3⟩
        subst rb1 rb2
        unfold ub_223_39
        rw [e10, f239, h1]
        intro _
        refine ⟨fun w4 => ?_, fun w4 _ x9' hx9' _ x10' hx10' _ _ _ _ => ?_⟩
        · have hkl : k = (fNm K L Ls c).length := by omega
          rw [hkl, List.take_length] at k3
          refine ⟨fun w5 _ s1' hs1' => ?_, fun w5 _ => ?_⟩
          · rw [k3] at w5
            rw [if_pos w5] at eF
            have hlt := (fIx_lt (p := wEq W (a + 1)) (l := fNm K L Ls c)).2
            obtain ⟨j, hj⟩ : ∃ j : Nat, fIx (wEq W (a + 1)) 0 (fNm K L Ls c) = (j : Int) := ⟨_, (Int.toNat_of_nonneg w5).symm⟩
            rw [hj] at eF hlt k3
            rw [Int.toNat_natCast] at eF
            obtain ⟨Z, hZ⟩ : ∃ Z, (fTy K L W ar TN Ls c)[j]? = some Z := ⟨_, List.getElem?_eq_getElem (by omega)⟩
            have eZ : (fTy K L W ar TN Ls c).getD j [] = Z := by
              rw [List.getD_eq_getElem?_getD, hZ]
              rfl
            rw [eZ] at eF
            have Ea : EF0 (nsD K L Ls) B A0 v s1' := by
              rw [hs1']
              exact EF0_sa (Or.inl ⟨rfl, c221⟩)
            have Fa : EFl v s1' := by
              rw [hs1']
              exact EFl_sa (by omega)
            have e80 : s1'.1 = v.1 := by rw [hs1', sa_1r]
            have hTs : TYp ar (TN.length : Int) β0 β1 (S.2.1.length : Int) (S.1.length : Int) s1' (s1'.1 80).toInt (s1'.1 81).toInt (c :: A') := by
              have := TYp_f Fa q4
              rw [e80]
              exact this
            refine Par.imp (x_224 (z := z') (z' := z') hW (EIn_f hP Ea Fa hI1) (by rw [e80]; omega) hTs hk k3 hZ) ?_
            rintro v3 s2 ⟨g1, g2, ⟨g3, g4, g5⟩, x4, rfl, g6⟩
            have E2 : EF0 (nsD K L Ls) B A0 s s2 := EF0_tr p1 (EF0_tr Ea g1)
            refine ⟨x4, rfl, fun w6 => ?_, fun w6 _ => ?_⟩
            · rcases g6 with ⟨g7, -⟩ | ⟨-, g7, g8⟩
              · exact absurd g7 w6
              · unfold ub_223_98
                rw [eF, if_neg g7]
                refine ⟨rfl, E2, ?_, Int.le_refl _, fun _ => ⟨EFl_tr q1 (EFl_tr Fa g2), fun q j hq hj => ?_, ?_, g8, hst v s2 ?_ ?_ q5, ?_⟩⟩
                · rw [g3, e80]
                  exact h81
                · rw [g5 q j hq (by omega), hs1', sa_21, if_neg (by omega), q2 q j hq (by omega)]
                · rw [g4, e80]
                  omega
                · refine CFq_tr (s' := s1') ⟨fun q j _ _ j1 j2 => by rw [hs1', sa_21, if_neg (by omega)], fun j _ _ => by rw [hs1', sa_21, if_neg (by omega)]⟩ ?_
                  rw [← e80]
                  exact CFq_of g1 g2 g5 (Or.inl hy) hz0 (Int.le_refl _)
                · rw [g4, e80]
                  exact Int.le_refl _
                · rw [g5 226 _ (by omega) (by omega), hs1', sa_21, if_pos ⟨rfl, rfl⟩, k3, eA]
                  exact hj.symm
            · rcases g6 with ⟨-, g7⟩ | ⟨g7, -, -⟩
              · have c2 : (s2.2.1 222 e.toNat).toInt = B + (a + 1) := by rw [EF0_r E2 (q := 222) (by unfold rEx; omega)]; exact h222
                have h82 : (s2.1 8).toInt = 0 := by rw [g3, e80]; exact h81
                refine Par.imp (x_163w (L := L) c2 h82 (((RST_e hP E2 hI.1).1.2.2.1 (a + 1) (by omega) hn).2)) ?_
                rintro v6 s5 ⟨rfl, r1', r2'⟩
                rw [if_pos rfl] at r2'
                unfold ub_223_98
                rw [eF, if_pos g7]
                exact ⟨rfl, rfl, EF0_tr E2 (EF0_8 r1'), r2', by show 0 ≤ 9 + 16 * L (a + 1); omega, fun q => by exfalso; have q : 9 + 16 * L (a + 1) = 0 := q; omega⟩
              · omega
          · rw [k3] at w5
            rw [if_neg w5] at eF
            refine Par.imp (x_163w (L := L) c222 h81 ((RTk1 (a + 1) (by omega) hn).2)) ?_
            rintro v8 s5 ⟨rfl, r1', r2'⟩
            rw [if_pos rfl] at r2'
            rw [eF]
            exact ⟨rfl, rfl, EF0_tr p1 (EF0_8 r1'), r2', by show 0 ≤ 2 + 16 * L (a + 1); omega, fun q => by exfalso; have q : 2 + 16 * L (a + 1) = 0 := q; omega⟩
        · have hkl : k < (fNm K L Ls c).length := by omega
          obtain ⟨vk, hvk⟩ : ∃ vk, (fNm K L Ls c)[k]? = some vk := ⟨_, List.getElem?_eq_getElem hkl⟩
          have e10' : x10'.toInt = 6 * (24 * b + c) + (k : Int) := by omega
          have hq := wEq_r hI1.1.1.2.1 (t := a + 1) ⟨by omega, hn, hK⟩ (mw vk (List.mem_of_getElem? hvk))
          have st := fIx_tk (q := a + 1) hvk (md k vk hvk)
          unfold wRf at hq
          rw [e10', f240 k vk hvk, c222]
          unfold ub_223_67
          refine ⟨fun w5 _ x1' hx1' => ⟨rfl, rfl, rfl, k + 1, by omega, by omega, ?_⟩, fun w5 _ x1' hx1' => ⟨rfl, rfl, rfl, k + 1, by omega, by omega, ?_⟩⟩
          · rw [st, hq, decide_eq_false w5, if_neg (by decide)]
            exact k3
          · rw [st, hq, decide_eq_true w5, if_pos rfl]
            exact k2
      · have hk : ¬ kd c = 1 := by omega
        rw [if_neg hk] at eF
        refine Par.imp (x_163w (L := L) c223 h81 ((RTk1 a ha0 (by omega)).2)) ?_
        rintro v8 s5 ⟨rfl, r1', r2'⟩
        rw [if_pos rfl] at r2'
        rw [eF]
        exact ⟨rfl, rfl, EF0_tr p1 (EF0_8 r1'), r2', by show 0 ≤ 6 + 16 * L a; omega, fun q => by exfalso; have q : 6 + 16 * L a = 0 := q; omega⟩
    · have hR0 : ¬ R.1 = 0 := by omega
      rw [if_neg hR0]
      exact ⟨rfl, p1, p2, p2n, fun q => absurd q hR0⟩
end ZPN
