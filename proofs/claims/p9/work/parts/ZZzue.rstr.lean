/-! ===== the reference's run beside the pure machine: a struct ===== -/
section ZUH
variable {K L W ar kd : Int → Int} {TN Ls : List Int} {nI A0 A1 : Int} {own : Nat → Nat × Nat} {b n W' N T F H S0 : Nat} {G : PG} {S O E pl c Vn vt Lc : Nat} {s s' u : yS} {fo : Option Nat} {fr ev b0 b1 m hi : Nat} {As Bs : List (List Nat)} {S' : Scp} {β0 β1 fa lo' hi' : Int} {Ev : Env} {st : List Itm} {bs : Nat} {frs : List Frm} {vs : Vls} {C : List Ins} {nT : Int}
/-- the new value is laid -/
theorem st58s {d k Vn' vt' L' p : Nat} {B : List Int} {vals : List Nat} {vs' : Vls} {P : Option Value → yS → Prop} {a1 a2 a3 a4 a5 a6 a7 a8 : Int32} (hR : RTm own b n W' N T F H S0 G S O E (pl + k) c Vn' vt' L' u) (hVL : Vn' + 1 ≤ L') (hk : k = gfd G (B.headD 0).toNat) (hk6 : k ≤ 6) (hpl : pl + 6 ≤ 4000) (h5 : a5.toInt = (p : Int)) (h6 : a6.toInt = (B.length : Int)) (hp : p + B.length ≤ vt') (hB : TGo ar nT 0 0 B) (hseg : seg u p B.length = enN ar 0 0 B) (h7 : a7.toInt = (pl : Int)) (hV : vRl ar nT G u vs') (hVn : vs'.length = Vn') (hvl : vals.length = k) (hva : ∀ (j w : Nat), vals[j]? = some w → (u.2.1 278 (pl + j)).toInt = (w : Int) ∧ w < vs'.length) (t0 : Int32) (ht0 : t0.toInt = 0) (hP : ∀ (v4 : Int32) (f : yS), v4.toInt = 0 → (∀ k, k ∉ [98, 102, 105] → f.1 k = u.1 k) → (f.1 102).toInt = (Vn' : Int) → (f.1 98).toInt = (Vn' : Int) + 1 → vRl ar nT G f (vs' ++ [(B, vals)]) → P (some (.int v4)) f) : w_241_58 (Tot d) a1 a2 a3 a4 a5 a6 a7 a8 t0 u P := by
  have hv := RT_vt hR
  obtain ⟨r1, r2, r3, r4, r5, r6, r7, r8, r9, r10, r11, r12, r13, r14, r15, r16, r17, r18, r19⟩ := id hR
  unfold w_241_58
  refine ⟨fun w => absurd ht0 w, fun _ => ⟨by omega, ?_⟩⟩
  rintro s1 rfl
  have e98 : (sa u 275 (u.1 98).toInt.toNat a5).1 98 = u.1 98 := rfl
  rw [e98, show (u.1 98).toInt.toNat = Vn' by omega]
  refine ⟨by omega, ?_⟩
  rintro s2 rfl
  refine ⟨fun v1 v2 v3 v4 v5 v6 v7 v8 w => v7 = a7 ∧ v4.toInt = 0 ∧ w.1 = u.1 ∧ w.2.2 = u.2.2 ∧ (∀ q i, ¬ ((q = 275 ∨ q = 276) ∧ i = Vn') → ¬ (q = 277 ∧ 6 * Vn' ≤ i) → w.2.1 q i = u.2.1 q i) ∧ w.2.1 275 Vn' = a5 ∧ w.2.1 276 Vn' = a6 ∧ ∃ j : Nat, v8.toInt = (pl : Int) + j ∧ j ≤ k ∧ ∀ i, i < j → w.2.1 277 (6 * Vn' + i) = u.2.1 278 (pl + i), fun _ _ _ _ _ _ _ v8 _ => (5000 - v8.toInt).toNat, ⟨rfl, ht0, rfl, rfl, fun q i c1 c2 => ?_, ?_, ?_, 0, by omega, by omega, fun i hi => by omega⟩, ?_⟩
  · rw [sa_2, if_neg (fun w => c1 ⟨Or.inr w.1, w.2⟩), sa_2, if_neg (fun w => c1 ⟨Or.inl w.1, w.2⟩)]
  · rw [sa_2, if_neg (fun w => by omega), sa_2, if_pos ⟨rfl, rfl⟩]
  · rw [sa_2, if_pos ⟨rfl, rfl⟩]
  rintro v1 v2 v3 v4 v5 v6 v7 v8 w ⟨y7, y4, w1, w2, w3, w4, w5, j, j1, j2, j3⟩
  have y7 := y7.symm
  subst y7
  unfold w_241_75
  rw [w1]
  refine ⟨fun hend => ?_, fun hmore => ⟨by omega, fun x4 hx4 => ⟨by omega, fun x5 hx5 => ⟨by omega, fun x6 hx6 => ⟨by omega, by omega, ?_⟩⟩⟩⟩⟩
  · have ej : j = k := by omega
    subst ej
    rintro s3 rfl
    have e98' : (sf w 102 (u.1 98)).1 98 = u.1 98 := by show w.1 98 = _; rw [w1]
    rw [e98']
    refine ⟨by omega, ?_⟩
    rintro x2 hx2 s4 rfl
    unfold w_241_106
    rintro s5 rfl
    obtain ⟨f, hf⟩ : ∃ f, f = sf (sf (sf w 102 (u.1 98)) 98 x2) 105 a7 := ⟨_, rfl⟩
    rw [← hf]
    have f2 : f.2 = w.2 := by rw [hf]; rfl
    have fk : ∀ k, k ∉ [98, 102, 105] → f.1 k = u.1 k := fun k hk => by
      rw [hf, sf_1, if_neg (fun w => hk (by rw [w]; decide)), sf_1, if_neg (fun w => hk (by rw [w]; decide)), sf_1, if_neg (fun w => hk (by rw [w]; decide)), w1]
    have f102 : (f.1 102).toInt = (Vn' : Int) := by rw [hf]; exact r7
    have f98 : (f.1 98).toInt = (Vn' : Int) + 1 := by rw [hf]; show x2.toInt = _; omega
    clear hf
    have fX : RX [98, 102, 105] E pl Vn' vt' u f := ⟨fk, fun q i _ _ _ c4 c5 _ => by rw [f2]; exact w3 q i (fun w => c4 ⟨w.1, by omega⟩) c5, by rw [f2]; exact w2, fun i => by rw [f2, w3 264 i (fun w => by omega) (fun w => by omega)]; exact r1.2.2.2.2.1 i, fun i => by rw [f2, w3 265 i (fun w => by omega) (fun w => by omega)]; exact r1.2.2.2.2.2.1 i⟩
    have segf : seg f p B.length = enN ar 0 0 B := by rw [RX_seg fX hp (by omega)]; exact hseg
    refine hP v4 f y4 fk f102 f98 (fun v A ps hv => ?_)
    by_cases hvl' : v < vs'.length
    · rw [List.getElem?_append_left hvl'] at hv
      exact vRl_rx fX r17 (by omega) hVn hV v A ps hv
    · have ev : v = vs'.length := by
        have := (List.getElem?_eq_some_iff.mp hv).1
        rw [List.length_append, List.length_singleton] at this
        omega
      rw [ev, List.getElem?_append_right (Nat.le_refl _), Nat.sub_self] at hv
      have e0 : (B, vals) = (A, ps) := Option.some.inj hv
      have eA : B = A := congrArg Prod.fst e0
      have eP : vals = ps := congrArg Prod.snd e0
      rw [← eA, ← eP, ev, hVn]
      refine ⟨hB, ?_, ⟨by omega, by omega⟩, fun i w' hi => ?_⟩
      · unfold VT
        rw [f2, w4, w5, show a5.toInt.toNat = p by omega, show a6.toInt.toNat = B.length by omega]
        exact segf
      · obtain ⟨z1, z2⟩ := hva i w' hi
        have hil := (List.getElem?_eq_some_iff.mp hi).1
        rw [f2, j3 i (by omega)]
        exact ⟨z1, by omega⟩
  · rintro s7 rfl
    rw [show x6.toInt.toNat = 6 * Vn' + j by omega, show v8.toInt.toNat = pl + j by omega]
    have e278 : w.2.1 278 (pl + j) = u.2.1 278 (pl + j) := w3 278 (pl + j) (fun w => by omega) (fun w => by omega)
    rw [e278]
    refine ⟨by omega, fun x8 hx8 => ⟨⟨rfl, y4, w1, w2, fun q i c1 c2 => ?_, ?_, ?_, j + 1, by omega, by omega, fun i hi => ?_⟩, by show (5000 - x8.toInt).toNat < (5000 - v8.toInt).toNat; omega⟩⟩
    · rw [sa_2, if_neg (fun w => c2 ⟨w.1, by omega⟩)]
      exact w3 q i c1 c2
    · rw [sa_2, if_neg (fun w => by omega)]
      exact w4
    · rw [sa_2, if_neg (fun w => by omega)]
      exact w5
    · rw [sa_2]
      by_cases w' : i = j
      · rw [if_pos ⟨rfl, by omega⟩, w']
      · rw [if_neg (fun w => by omega)]
        exact j3 i (by omega)
/-- what typing says of a struct with its values -/
theorem exL_0 {ev : Int → Int × List Int} {t : Int} (hL : 0 ≤ L t) (h : (exL K L W ar kd TN Ls S' ev t).1 = 0) : (exT K L W ar kd TN Ls S' t).1 = 0 ∧ ∃ Zs : List (List Int), NV K L (nxT K L t) = Zs.length ∧ exP K L W ar kd TN Ls S' ev (eta (argT ar (exT K L W ar kd TN Ls S' t).2) []) ((exU K L (nxT K L t) (NV K L (nxT K L t))).zip Zs) = 0 := by
  unfold exL at h
  by_cases c1 : (exT K L W ar kd TN Ls S' t).1 = 0
  rotate_left
  · rw [if_neg c1] at h
    exact absurd h c1
  rw [if_pos c1] at h
  by_cases c2 : kd ((exT K L W ar kd TN Ls S' t).2.headD 0) = 1
  rotate_left
  · rw [if_neg c2] at h
    have h : 6 + 16 * L t = 0 := h
    omega
  rw [if_pos c2] at h
  by_cases c3 : NV K L (nxT K L t) = (fTy K L W ar TN Ls ((exT K L W ar kd TN Ls S' t).2.headD 0)).length
  rotate_left
  · rw [if_neg c3] at h
    have h : 4 + 16 * L t = 0 := h
    omega
  rw [if_pos c3] at h
  exact ⟨c1, _, c3, h⟩
theorem exT_2 {t : Int} (h : (exT K L W ar kd TN Ls S' t).1 = 0) : (exT K L W ar kd TN Ls S' t).2 = wdC K L W ar TN S'.1 S'.2.1 t := by
  have := exT_0 h
  unfold exT
  rw [if_pos this]
set_option maxHeartbeats 2000000 in
/-- evalStruct -/
theorem m_241 {d e m' : Nat} {A : List Nat} {a1 a2 a3 : Int32} {t y' : Int} (hPR : PRm K L W ar kd nI lo' hi' TN Ls) (hA1 : A1 ≤ 13000) (ih : REH own b n W' N T F H S0 G S O c m d) (ihS : RSm K L W ar kd TN Ls nI A0 A1 own b n W' N T F H S0 G S O c m d) (hd : 4 ≤ d) (hR : RTm own b n W' N T F H S0 G S O E pl c Vn vt Lc s) (hX : RCx G fo E pl Vn vt fr ev b0 As b1 Bs s) (hfo : ∀ f, fo = some f → f < F) (hw : (s.2.1 221 e).toInt = 2) (hB : wB G b (scX G fo) (tVX G fo) S s (wE G H b n (scX G fo) (tVX G fo) S O s m) hi e A) (he : e < 12006) (hhi : hi ≤ N) (hN : N ≤ 12006) (hpl : pl + 7 * (m + 1) + 80 * (40 - c) ≤ 4000) (hE : E ≤ c + 1) (h1 : a1.toInt = (e : Int)) (h2 : a2.toInt = (fr : Int)) (h3 : a3.toInt = (ev : Int)) (hSC : SCx K L W ar kd TN Ls nI A0 A1 b G S' β0 β1 b0 b1 As Bs Ev st bs fr pl frs vs c Vn s) (hm' : m' ≤ 9) (hcK : K (t + 1) = 123 ∨ K (t + 1) = 91) (hH : eHd K L (4002 * (b : Int)) s m' (eC K L W ar kd TN Ls (4002 * (b : Int)) β0 β1 S' A0 A1 s m') (e : Int) y' t) (hcH : cHd K L W ar TN β0 β1 S' A0 A1 s (e : Int) t) (hHO : HOk K L m' t) (hx0 : (exL K L W ar kd TN Ls S' (exE6 K L W ar kd TN Ls S' m') t).1 = 0) (ht0 : 0 ≤ t) (htn : aHd K L t ≤ nI) (hh : st.length + 8 * (m' + 1) ≤ 88 * (c + 1)) : Tot (d + 1) 241 [.ref 213, .int a1, .int a2, .int a3] s (SmQ ar (fcD K L W ar kd TN Ls) (mvC K L W ar kd TN Ls) (TN.length : Int) G (5, ciL K L W ar TN S' (ciE K L W ar kd TN Ls S' m') t ++ C, st, bs, Ev, frs, vs, lft s, (s.1 93).toInt, fa) C st bs Ev frs vs (lft s) fa 1 (8 * (m' : Int) + 8 + 100 * (41 - (c : Int))) s) := by
  have hv := RT_vt hR
  obtain ⟨r1, r2, r3, r4, r5, r6, r7, r8, r9, r10, r11, r12, r13, r14, r15, r16, r17, r18, r19⟩ := id hR
  obtain ⟨x1, x2, x3, x4⟩ := id hX
  have hG := r1.2.2.2.2.2.2.2.2.1
  have hT := hG.1.1
  obtain ⟨ha, h24⟩ := PR_ar hPR
  have gF' : gF G = F := by rw [← r1.2.2.2.2.2.2.2.1]; exact (pgA r1.1).2.1
  obtain ⟨y, h, y1, y2, y3, y4, y5, x, Cs, y6, y7, y8, cs, l1, l2, l3⟩ : ∃ y h : Nat, (s.2.1 229 e).toInt = (y : Int) ∧ e < y ∧ y < h ∧ h ≤ hi ∧ wT G b (scX G fo) S s y A ∧ ∃ (x : Nat) (Cs : List (List Nat)), cutT A x Cs ∧ x / 8 < gT G ∧ ¬ gst G (x / 8) = 0 ∧ wL G s (wE G H b n (scX G fo) (tVX G fo) S O s m) (s.2.1 224 e).toInt h hi (gfd G (x / 8)) (fun k => subs (envS (1000 + 6 * (x / 8)) Cs 0 []) (gft G (x / 8) k)) := by
    rcases hB with ⟨q, -⟩ | ⟨-, q⟩
    · omega
    · exact q
  obtain ⟨-, -, -, -, -, -, okA, okB⟩ := id y5
  have h6 := (hG.2.1 _ y7).2.1
  have hCm : Cs.length = gfm G (x / 8) := by
    rw [y6.2.2]
    rcases (okE_cut y6 okA).1 with z | z
    · exact z.2
    · omega
  -- by tokens
  obtain ⟨⟨hTB, hCD⟩, ⟨⟨hEv, hRl⟩, ⟨hE1, hE2⟩, s16, s26⟩, ⟨hV, hVn⟩, ⟨hVV, hfr, hfc⟩, hl0⟩ := id hSC
  obtain ⟨hp, hO⟩ := hHO.2 hcK
  have gtT := nxT_gt (m := m') (by omega) hp
  obtain ⟨oa, oE⟩ := AOk_o (by omega) hO
  have hLt := hPR.1.1.2.2 t ht0 (by omega)
  obtain ⟨xT, Zs, hZ1, hZ2⟩ := exL_0 hLt.1 hx0
  obtain ⟨-, -, hH3⟩ := hH
  rw [if_pos hcK] at hH3
  obtain ⟨-, k229, yy1, ky, kT, kA⟩ := hH3
  obtain ⟨c226, zz, ww, z0, zN, c224, cE, cmo⟩ := eAr_ch kA hO
  rw [Int.toNat_natCast] at k229 c226 c224
  obtain ⟨NN, hNN⟩ : ∃ NN, NN = p_vn K L (p_e K L 11) 123 125 (0, nxT K L t) := ⟨_, rfl⟩
  have eNV : NV K L (nxT K L t) = NN := by unfold NV; exact hNN.symm
  rw [← hNN] at oE c226 zN c224 cE cmo
  obtain ⟨cl1, cl2⟩ := ch_ww (fun i hi => ⟨by have := (cE i hi).2.1; omega, (cE i hi).2.2⟩) (cs.map (·.2.2)) 0 _ (Nat.zero_le _) c224 l2
  rw [List.length_map, Nat.zero_add] at cl1
  obtain ⟨D, hDe⟩ : ∃ D, D = wdC K L W ar TN S'.1 S'.2.1 t := ⟨_, rfl⟩
  have hp10 : (p_t K L 10 false (0, t)).1 = 0 := by
    rw [pt_mono m' 10 (by omega) false (0, t) hp]
    exact hp
  have hD : TGo ar (TN.length : Int) (Ev.1.length : Int) (Ev.2.length : Int) D := by
    rw [hDe, hE1, hE2]
    exact tg_of hPR s16 s26 hp10 (exT_0 xT)
  have hAD : A = enN ar β0 β1 D := by
    unfold cHd at hcH
    rw [if_pos hcK] at hcH
    have hc1 := hcH.1
    rw [← hDe, show (e : Int) + 1 = (y : Int) by omega] at hc1
    exact wT_en y5 hc1
  obtain ⟨pe1, pe2⟩ := put_enN ha hEv hRl hD
  rw [← hAD] at pe1 pe2
  obtain ⟨τ, hτ⟩ : ∃ τ, τ = envS b0 As b1 Bs := ⟨_, rfl⟩
  obtain ⟨ts, hts⟩ : ∃ ts, ts = exU K L (nxT K L t) NN := ⟨_, rfl⟩
  obtain ⟨cd, hcd⟩ : ∃ cd, cd = ciE K L W ar kd TN Ls S' m' := ⟨_, rfl⟩
  obtain ⟨B, hBe⟩ : ∃ B, B = (ptT Ev D (lft s)).2.1 := ⟨_, rfl⟩
  obtain ⟨XS, hXS⟩ : ∃ XS : PMs, XS = (5, ciL K L W ar TN S' (ciE K L W ar kd TN Ls S' m') t ++ C, st, bs, Ev, frs, vs, lft s, (s.1 93).toInt, fa) := ⟨_, rfl⟩
  have eC0 : ciL K L W ar TN S' (ciE K L W ar kd TN Ls S' m') t ++ C = (2, D, 0, [], 0) :: (ciP cd ts ++ ((3, [], (NN : Int), [], 0) :: C)) := by
    unfold ciL
    rw [eNV, ← hDe, ← hcd, ← hts]
    simp
  have h88 : 88 * (c + 1) ≤ 3608 := by omega
  have hst1 : st.length ≤ 3900 := by omega
  have e1 : a1.toInt.toNat = e := by omega
  rw [← hXS]
  refine t_241 ?_
  unfold w_241_0
  rw [e1]
  refine ⟨by omega, ?_⟩
  refine Tot.imp (Tot.mono (by omega) (s_239 (d := 0) hR (by omega) y5 y1 h3 x1 x2 x3)) ?_
  rintro v tt ⟨r, rfl, tX, vt1, L1', tR, g1, g2, g3, g4, g5⟩
  have hv1 := RT_vt tR
  obtain ⟨q1, q2, q3, q4, q5, q6, q7, q8, q9, q10, q11, q12, q13, q14, q15, q16, q17, q18, q19⟩ := id tR
  have t96 : tt.1 96 = s.1 96 := tX.1 96 (by decide)
  have eN : (subs (envS b0 As b1 Bs) A).length = (sbs (eta Ev.1 Ev.2) D).length := by rw [pe1, enN_len]
  have g5' := g5
  rw [hAD] at g5'
  obtain ⟨ll1, ll2, ll3, ll4, ll5⟩ := pt_link (E := Ev) (β0 := β0) (β1 := β1) (l := lft s) (by rw [← hAD]; exact pe2) (by rw [← hAD]; exact eN) g5' t96 rfl hl0
  have hptl := ptT_l (E := Ev) (A := D) hl0
  have VRt : vRl ar (TN.length : Int) G tt vs := vRl_rx tX r17 (by omega) hVn hV
  have tX' : RX rK E pl Vn vt s tt := RX_mo tX (by decide) (Nat.le_refl _) (Nat.le_refl _) (Nat.le_refl _) (Nat.le_refl _)
  have tC : RCx G fo E pl Vn vt1 fr ev b0 As b1 Bs tt := RCx_rx hX tX r17 (by omega) (Nat.le_refl _) (Nat.le_refl _) (Nat.le_refl _) g1
  have tca : ∀ lo hi, CA b n lo hi S O s tt := fun lo hi => RX_CA tX (by omega) (by omega)
  have tSC : SCx K L W ar kd TN Ls nI A0 A1 b G S' β0 β1 b0 b1 As Bs Ev st bs fr pl frs vs c Vn tt := by
    have := SCx_rx (st' := []) tX (by omega) hA1 (by decide) (Nat.le_refl _) (Nat.le_refl _) VRt hVn ll2 hSC
    rw [List.append_nil] at this
    exact this
  obtain ⟨fT, hfT⟩ : ∃ fT, fT = (fun k => subs (envS (1000 + 6 * (x / 8)) Cs 0 []) (gft G (x / 8) k)) := ⟨_, rfl⟩
  have okf : ∀ k, k < cs.length → okE G (scX G fo) (fT k) := by
    intro k hk
    rw [hfT]
    refine okE_subs hT (hG.2.2.2.2.1 _ y7 k (by omega)).1 (fun c hc => envS_lt hc) (fun c hc' => ?_)
    obtain ⟨B, b1, b2⟩ := dcl_cov (b1 := 0) (Bs := []) hCm hc'
    exact Or.inl ⟨B, b1, (okE_cut y6 okA).2 B b2⟩
  have csT : ∀ (k : Nat) (q : Nat × Nat × Nat), cs[k]? = some q → h ≤ q.1 ∧ q.1 ≤ q.2.2 ∧ q.2.2 < q.2.1 ∧ q.2.1 ≤ hi ∧ ∃ B, wE G H b n (scX G fo) (tVX G fo) S O tt m q.1 q.2.1 q.2.2 B ∧ impl G B (fT k) := by
    intro k q hk
    obtain ⟨z1, z2, z3, z4, B, z5, z6⟩ := l3 k q hk
    exact ⟨z1, z2, z3, z4, B, wE_eq (Nat.le_refl _) (Nat.le_refl _) (tca _ _) z5, by rw [hfT]; exact z6⟩
  have e224 : tt.2.1 224 e = s.2.1 224 e := by rw [RX_row tX (by decide)]
  have ch0 : chn tt (s.2.1 224 e).toInt (cs.map (·.2.2)) := chn_row (RX_row tX (by decide)) _ _ l2
  have hPS0 : PAs ar (fcD K L W ar kd TN Ls) (mvC K L W ar kd TN Ls) (TN.length : Int) G XS cd ts ((3, [], (NN : Int), [], 0) :: C) (st ++ [.inl B]) bs Ev frs vs (lft s) fa 1 (8 * (m' : Int) + 100 * (41 - (c : Int))) pl s 0 r.toInt tt := by
    refine ⟨vs, (s.1 93).toInt, 1, ⟨⟨[], by rw [List.append_nil]⟩, VRt, by rw [hVn]; exact q7⟩, ⟨ll2, by omega, by rw [tX.1 93 (by decide)], kp6_p g5' t96⟩, fun _ => tX.1 92 (by decide), ?_⟩
    have hstep : PSn ar (fcD K L W ar kd TN Ls) (mvC K L W ar kd TN Ls) 1 XS ((ptT Ev D (lft s)).1, ciP cd ts ++ ((3, [], (NN : Int), [], 0) :: C), st ++ [.inl B], bs, Ev, frs, vs, (ptT Ev D (lft s)).2.2, (s.1 93).toInt, fa) := by
      rw [hXS, eC0, hBe]
      exact PSn_1 ⟨rfl, hst1, Or.inr (Or.inl ⟨rfl, rfl⟩)⟩
    by_cases hr0 : r.toInt = 0
    · rw [if_pos hr0] at ll3
      rw [ll3, ← ll1] at hstep
      exact Or.inl ⟨hr0, [], rfl, (fun j w hj => by cases hj), by show ((1 : Nat) : Int) ≤ _ + 1 + ((0 : Nat) : Int); omega, by rw [List.drop_zero, List.map_nil, List.append_nil]; exact hstep⟩
    · rw [if_neg hr0] at ll3
      refine Or.inr ⟨hr0, _, hstep, ll3, by omega, ll1.symm, rfl, fun w => by omega, by show ((1 : Nat) : Int) ≤ _; omega⟩
  refine ⟨r, rfl, by omega, ?_⟩
  rw [e224]
  refine ⟨fun v1 v2 v3 v4 v5 v6 v7 v8 u => v2 = a2 ∧ v3 = a3 ∧ v5 = tt.1 107 ∧ v6 = tt.1 108 ∧ v7 = tt.1 105 ∧ (v4.toInt = 0 → r.toInt = 0) ∧ ∃ k : Nat, PAr own b n W' N T F H S0 G S O E pl c Vn vt1 L1' (envS b0 As b1 Bs) fT cs tt k v8.toInt v4.toInt u ∧ PAs ar (fcD K L W ar kd TN Ls) (mvC K L W ar kd TN Ls) (TN.length : Int) G XS cd ts ((3, [], (NN : Int), [], 0) :: C) (st ++ [.inl B]) bs Ev frs vs (lft s) fa 1 (8 * (m' : Int) + 100 * (41 - (c : Int))) pl s k v4.toInt u, fun _ _ _ _ _ _ _ _ u => ((pl : Int) + 8 - (u.1 105).toInt).toNat, ⟨rfl, rfl, rfl, rfl, rfl, fun w => w, 0, ⟨Vn, vt1, L1', RX_rf q1.2.2.2.2.1 q1.2.2.2.2.2.1, tR, Nat.le_refl _, Nat.le_refl _, Nat.le_refl _, by omega, g3, fun _ => ⟨ch0, fun j q hj => by omega⟩⟩, hPS0⟩, ?_⟩
  rintro v1 v2 v3 v4 v5 v6 v7 v8 u ⟨z2, z3, z5, z6, z7, z4, k, hI, hPS⟩
  have z2 := z2.symm
  have z3 := z3.symm
  have z5 := z5.symm
  have z6 := z6.symm
  have z7 := z7.symm
  subst z2 z3 z5 z6 z7
  obtain ⟨Vn', vt', L', uX, uR, k1, k2, k3, k4, k5, k6⟩ := id hI
  have hv' := RT_vt uR
  have u98 : (u.1 98).toInt = (Vn' : Int) := uR.2.2.2.2.2.2.1
  have u105 : (u.1 105).toInt = ((pl + k : Nat) : Int) := uR.2.2.2.2.1
  have uVL : Vn' ≤ L' := uR.2.2.2.2.2.2.2.2.2.2.2.2.2.1
  -- an end that is not 0
  have bad : ∀ (t0 : Int32) (b1' b2' b3' b5' b6' b8' : Int32), t0.toInt = v4.toInt → ¬ v4.toInt = 0 → w_241_106 (Tot d) b1' b2' b3' t0 b5' b6' (tt.1 105) b8' u (SmQ ar (fcD K L W ar kd TN Ls) (mvC K L W ar kd TN Ls) (TN.length : Int) G XS C st bs Ev frs vs (lft s) fa 1 (8 * (m' : Int) + 8 + 100 * (41 - (c : Int))) s) := by
    intro t0 b1' b2' b3' b5' b6' b8' hte hne
    unfold w_241_106
    rintro s1 rfl
    have kk : ∀ j, ¬ j = 105 → (sf u 105 (tt.1 105)).1 j = u.1 j := fun j hj => by rw [sf_1, if_neg hj]
    have el : lft (sf u 105 (tt.1 105)) = lft u := by
      unfold lft
      rw [kk 96 (by decide), kk 95 (by decide), kk 94 (by decide)]
    obtain ⟨vs', cl', N1, p1, ⟨p4, p5, p6, p7⟩, p8, p9⟩ := hPS
    rcases p9 with ⟨q, -⟩ | ⟨-, Y, w1, w2, w3, w4, w5, w6, w7⟩
    · exact absurd q hne
    · refine ⟨t0, vs', cl', N1, rfl, ⟨p1.1, vRl_2 (s := u) rfl p1.2.1, by rw [kk 98 (by decide)]; exact p1.2.2⟩, ⟨by rw [el]; exact p4, by rw [el]; exact p5, by rw [kk 93 (by decide)]; exact p6, kp6_e (fun k w => by rcases w with rfl | rfl | rfl <;> exact kk _ (by decide)) p7⟩, fun w => by rw [kk 92 (by decide)]; exact p8 (by rw [← hte]; exact w), Or.inr ⟨by rw [hte]; exact hne, Y, w1, by rw [hte]; exact w2, by rw [hte]; exact w3, by rw [el]; exact w4, w5, fun w => by rw [kk 92 (by decide)]; exact w6 (by rw [← hte]; exact w), by rw [el]; omega⟩⟩
  have fin : (v4.toInt = 0 → k = cs.length) → w_241_51 (Tot d) v1 a2 a3 v4 (tt.1 107) (tt.1 108) (tt.1 105) v8 u (SmQ ar (fcD K L W ar kd TN Ls) (mvC K L W ar kd TN Ls) (TN.length : Int) G XS C st bs Ev frs vs (lft s) fa 1 (8 * (m' : Int) + 8 + 100 * (41 - (c : Int))) s) := by
    intro hend
    unfold w_241_51
    refine ⟨fun hne => ?_, fun h0 => ?_⟩
    · unfold w_241_58
      exact ⟨fun _ => bad v4 v1 a2 a3 _ _ v8 rfl hne, fun w => absurd w hne⟩
    · have ek := hend h0
      obtain ⟨vs', cl', N1, ⟨p1, p2, p3⟩, ⟨p4, p5, p6, p7⟩, p8, p9⟩ := hPS
      obtain ⟨vals, w1, w2, w3, w4⟩ : ∃ vals : List Nat, vals.length = k ∧ (∀ (j w : Nat), vals[j]? = some w → (u.2.1 278 (pl + j)).toInt = (w : Int) ∧ w < vs'.length) ∧ (N1 : Int) ≤ 10 * (lft s - lft u) + 1 + (k : Int) ∧ PSn ar (fcD K L W ar kd TN Ls) (mvC K L W ar kd TN Ls) N1 XS (5, ciP cd (ts.drop k) ++ ((3, [], (NN : Int), [], 0) :: C), (st ++ [.inl B]) ++ vals.map .inr, bs, Ev, frs, vs', lft u, cl', fa) := by
        rcases p9 with ⟨-, h⟩ | ⟨h, -⟩
        · exact h
        · exact absurd h0 h
      have hvn' : vs'.length = Vn' := by omega
      have edr : ts.drop k = [] := List.drop_eq_nil_iff.mpr (by rw [hts, exU_len]; omega)
      rw [edr] at w4
      have w4 : PSn ar (fcD K L W ar kd TN Ls) (mvC K L W ar kd TN Ls) N1 XS (5, (3, [], (NN : Int), [], 0) :: C, (st ++ [.inl B]) ++ vals.map .inr, bs, Ev, frs, vs', lft u, cl', fa) := w4
      have hlen : (((st ++ [.inl B]) ++ vals.map .inr : List Itm)).length ≤ 3900 := by
        rw [List.length_append, List.length_append, List.length_map, w1, List.length_singleton]
        omega
      refine Tot.imp (Tot.mono (by omega) (r_237 (d := 0) uR)) ?_
      rintro v w ⟨x3', rfl, wX, w2', L2, wR, hL2, hr', hr⟩
      have w96 : w.1 96 = u.1 96 := wX.1 96 (by decide)
      refine ⟨x3', rfl, ?_⟩
      rcases hr with ⟨gr, gl, gu⟩ | ⟨gr, gl, gu⟩
      · have el := lft_u gu w96
        have hL3 : L2 = L' + 1 := by
          rcases hr' with q | q
          · exact q.2
          · omega
        have hr0 := z4 h0
        have ll3' := ll3
        rw [if_pos hr0] at ll3'
        obtain ⟨p, pp1, pp2, pp3, pp4, pp5⟩ := g4 hr0
        have eB : subs (envS b0 As b1 Bs) A = enN ar 0 0 B := by rw [pe1, hBe, ll5 hr0]
        have tg := TGo_pt (l := lft s) h24 hEv hD ll3'
        rw [← hBe] at tg
        have lB : (subs (envS b0 As b1 Bs) A).length = B.length := by rw [eB, enN_len]
        rw [lB] at pp2 pp4 pp5
        have segw : seg w p B.length = enN ar 0 0 B := by
          rw [seg_2 w2', RX_seg uX pp4.1 (by omega), ← eB]
          exact pp5
        have hdB : k = gfd G (B.headD 0).toNat := by
          obtain ⟨oA, kA'⟩ := wEnv_ok hT x3 okA
          have hcut := cut_subs y6 oA (x3.1 _ (by omega))
          have := hcut.1
          rw [eB] at this
          have := (hd_enN ha tg.2.2 this).2.2.1
          rw [this]
          omega
        refine st58s (k := k) (p := p) (B := B) (vals := vals) (vs' := vs') (nT := (TN.length : Int)) (ar := ar) wR (by omega) hdB (by omega) (by omega) pp1 pp2 (by omega) tg segw q5 (vRl_2 w2' p2) hvn' w1 (fun j w' hj => by rw [w2']; exact w2 j w' hj) x3' gr (fun v4' f y4' fk f102 f98 fV => ?_)
        have elf : lft f = lft w := by
          unfold lft
          rw [fk 96 (by decide), fk 95 (by decide), fk 94 (by decide)]
        refine ⟨v4', vs' ++ [(B, vals)], cl', N1 + 1, rfl, ⟨?_, fV, by rw [f98, List.length_append, List.length_singleton]; omega⟩, ⟨by omega, by omega, by rw [fk 93 (by decide), wX.1 93 (by decide)]; exact p6, kp6_e (fun k w => by rcases w with rfl | rfl | rfl <;> exact fk _ (by decide)) (kp6_tr p7 (kp6_u gu w96))⟩, fun _ => by rw [fk 92 (by decide), wX.1 92 (by decide)]; exact p8 (by omega), Or.inl ⟨y4', Vn', f102, by rw [List.length_append, List.length_singleton]; omega, by omega, ?_⟩⟩
        · obtain ⟨ws, hws⟩ := p1
          exact ⟨ws ++ [(B, vals)], by rw [hws, List.append_assoc]⟩
        · refine PSn_tr _ _ _ _ _ w4 (PSn_1 ⟨rfl, hlen, Or.inr (Or.inr (Or.inl ⟨rfl, Or.inr ⟨by omega, st, B, vals, ?_, ?_, ?_⟩⟩))⟩)
          · rw [List.append_assoc]
            rfl
          · show (vals.length : Int) = (NN : Int)
            omega
          · rw [elf, el, hvn']
      · have hx3 : ¬ x3'.toInt = 0 := by omega
        have el := lft_u gu w96
        unfold w_241_58
        refine ⟨fun _ => ?_, fun q => absurd q hx3⟩
        unfold w_241_106
        rintro s1 rfl
        have kk : ∀ j, ¬ j = 105 → (sf w 105 (tt.1 105)).1 j = w.1 j := fun j hj => by rw [sf_1, if_neg hj]
        have el2 : lft (sf w 105 (tt.1 105)) = lft w := by
          unfold lft
          rw [kk 96 (by decide), kk 95 (by decide), kk 94 (by decide)]
        refine ⟨x3', vs', cl', N1 + 1, rfl, ⟨p1, vRl_2 (s := u) w2' p2, by rw [kk 98 (by decide), wX.1 98 (by decide)]; exact p3⟩, ⟨by omega, by omega, by rw [kk 93 (by decide), wX.1 93 (by decide)]; exact p6, kp6_e (fun k w => by rcases w with rfl | rfl | rfl <;> exact kk _ (by decide)) (kp6_tr p7 (kp6_u gu w96))⟩, fun _ => by rw [kk 92 (by decide), wX.1 92 (by decide)]; exact p8 (by omega), Or.inr ⟨hx3, _, PSn_tr _ _ _ _ _ w4 (PSn_1 ⟨rfl, hlen, Or.inr (Or.inr (Or.inl ⟨rfl, Or.inl ⟨by omega, rfl⟩⟩))⟩), by show (2 : Int) = _; omega, by omega, by show (0 : Int) = _; omega, rfl, fun q => by omega, by omega⟩⟩
  unfold w_241_22
  refine ⟨fun hneg => fin (fun h0 => ?_), fun hpos => ⟨fun hne => fin (fun q => absurd q hne), fun h0 => ?_⟩⟩
  · obtain ⟨k7, -⟩ := k6 h0
    cases hdr : cs.drop k with
    | nil =>
      have := List.drop_eq_nil_iff.mp hdr
      omega
    | cons q cs' =>
      rw [hdr] at k7
      have : v8.toInt = (q.2.2 : Int) := k7.1
      omega
  · obtain ⟨k7, -⟩ := k6 h0
    cases hdr : cs.drop k with
    | nil =>
      rw [hdr] at k7
      have : v8.toInt = -1 := k7
      omega
    | cons q cs' =>
      rw [hdr] at k7
      have hz8 : v8.toInt = (q.2.2 : Int) := k7.1
      have hck : cs[k]? = some q := by
        have := congrArg List.head? hdr
        rw [List.head?_drop] at this
        exact this
      obtain ⟨c1, c2, c3, c4, -⟩ := csT k q hck
      rw [h0] at hI hPS
      have hkl := cs_lt hck
      have hkN : k < NN := by omega
      obtain ⟨ce1, ce2, ce3⟩ := cE k hkN
      have eroot : (q.2.2 : Int) = ww k := by
        have := cl2 k q.2.2 (by rw [List.getElem?_map, hck]; rfl)
        rw [Nat.zero_add] at this
        exact this
      have oEk := oE k hkN
      have hEC : ECx K L W ar kd TN Ls nI A0 A1 b S' β0 β1 m' (zz k) (zz (k + 1)) (uS (nxE K L) (nxT K L t + 1) k) (q.2.2 : Int) tt := by
        refine ⟨?_, by omega, hO.2.2.1 k (by rw [← hNN]; exact hkN), ?_, by omega, by omega⟩
        · rw [eroot]
          exact eC_rx tX (by omega) hA1 ce1
        · refine exP_0 hZ2 (uS (nxE K L) (nxT K L t + 1) k, Zs.getD k []) ?_
          rw [eNV]
          refine List.mem_of_getElem? (i := k) ?_
          rw [List.getElem?_zip_eq_some]
          refine ⟨exU_at hkN, ?_⟩
          rw [List.getD_eq_getElem?_getD, List.getElem?_eq_getElem (by omega)]
          rfl
      refine Tot.imp (Tot_and (PAr_step ih tR tC hfo csT okf (by omega) hhi hN (by omega) hE hI hck hz8 h2 h3) (PAs_step (x5 := 0) (ts := ts) hA1 ih ihS tR tC hfo csT (by omega) hhi hN (by omega) hE hI hck hz8 h2 h3 tSC ⟨[.inl B], rfl⟩ (by rw [hts]; exact exU_at hkN) hEC (by rw [List.length_append, List.length_singleton]; omega) (by rw [hcd] at hPS; exact hPS))) ?_
      rintro v u1 ⟨⟨x3', rfl, n1, n2, n3⟩, x3'', ex, n4⟩
      have ex' : x3' = x3'' := by
        have := Option.some.inj ex
        injection this
      subst ex'
      rw [show (u1.1 105).toInt.toNat = pl + k by omega]
      refine ⟨x3', rfl, by omega, ?_⟩
      rintro s4 rfl
      have e105 : (sa u1 278 (pl + k) (u1.1 102)).1 105 = u1.1 105 := rfl
      rw [e105]
      refine ⟨by omega, ?_⟩
      rintro x5 hx5 s6 rfl
      have e225 : (sf (sa u1 278 (pl + k) (u1.1 102)) 105 x5).2.1 225 v8.toInt.toNat = tt.2.1 225 q.2.2 := by
        show (sa u1 278 (pl + k) (u1.1 102)).2.1 225 v8.toInt.toNat = _
        rw [sa_2, if_neg (fun w => by omega), n2, show v8.toInt.toNat = q.2.2 by omega]
      rw [e225]
      refine ⟨by omega, ⟨rfl, rfl, rfl, rfl, rfl, fun _ => z4 h0, k + 1, n3 x5 (by omega), by rw [hcd]; exact n4 x5⟩, ?_⟩
      show ((pl : Int) + 8 - x5.toInt).toNat < ((pl : Int) + 8 - (u.1 105).toInt).toNat
      omega
end ZUH
