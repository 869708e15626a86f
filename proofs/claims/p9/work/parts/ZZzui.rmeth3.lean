/-! ===== the reference's run beside the pure machine: evalMethod ===== -/
section ZUN
variable {K L W ar kd : Int → Int} {TN Ls : List Int} {nI A0 A1 : Int} {own : Nat → Nat × Nat} {b n W' N T F H S0 : Nat} {G : PG} {S O E pl c Vn vt Lc : Nat} {s : yS} {fo : Option Nat} {S' : Scp} {β0 β1 fa lo' hi' a y' e0 : Int} {fr ev b0 b1 m hi : Nat} {As Bs : List (List Nat)} {Ev : Env} {st : List Itm} {bs : Nat} {frs : List Frm} {vs : Vls} {C : List Ins} {Ai : List Int}
/-- what typing says of the values of a METHOD -/
theorem exM_0 {ev' : Int → Int × List Int} (h : PRm K L W ar kd nI lo' hi' TN Ls) (w40 : ¬ K (a + 1) = 40) (wm : K (a + 2) = 91 ∨ K (a + 2) = 40) (hL : 0 ≤ L (a + 1)) (h0 : (exO K L W ar kd TN Ls S' ev' a Ai).1 = 0) : ∃ (η : Nat → List Int) (Zs : List (List Int)), NM K L (a + 1) ≤ Zs.length ∧ exP K L W ar kd TN Ls S' ev' η ((exU K L (mO K L (a + 1)).2 (NM K L (a + 1))).zip Zs) = 0 := by
  unfold exO at h0
  rw [if_neg w40, if_pos wm] at h0
  unfold exM at h0
  rcases so_pu (L := L) (W := W) (co := (ownT S'.2.2.1 Ai).headD 0) (y := W (a + 1)) h with q | ⟨g, q1, q2, -⟩
  · rw [if_pos (by omega)] at h0
    have h0 : 2 + 16 * L (a + 1) = 0 := h0
    omega
  rw [q1, if_neg (by omega), Int.toNat_natCast] at h0
  obtain ⟨⟨k1, k2, k3⟩, -⟩ := hd_pu (L := L) (W := W) h q2
  obtain ⟨x, hx⟩ : ∃ x, x = hdd K L W ar TN Ls g := ⟨_, rfl⟩
  rw [← hx] at h0 k1 k2 k3
  unfold exC at h0
  by_cases c1 : exN K L (a + 1) = x.1 ∧ NM K L (a + 1) = x.2.1
  rotate_left
  · rw [if_neg c1] at h0
    have h0 : 4 + 16 * L (a + 1) = 0 := h0
    omega
  rw [if_pos c1] at h0
  by_cases c2 : ffs (exB K L W ar kd TN Ls S' (exE K L W ar TN S' (ownT S'.2.2.1 Ai) (a + 1)) x.2.2 (exY K L (a + 1))) = 0
  rotate_left
  · rw [if_neg c2] at h0
    exact absurd h0 c2
  rw [if_pos c2] at h0
  by_cases c3 : exP K L W ar kd TN Ls S' ev' (exE K L W ar TN S' (ownT S'.2.2.1 Ai) (a + 1)) ((exU K L (mO K L (a + 1)).2 (NM K L (a + 1))).zip (x.2.2.drop x.1)) = 0
  rotate_left
  · rw [if_neg c3] at h0
    exact absurd h0 c3
  exact ⟨_, _, by rw [List.length_drop]; omega, c3⟩
set_option maxHeartbeats 4000000 in
/-- evalMethod -/
theorem m_244 {d e w0 m' : Nat} {A0' A : List Nat} {a1 a2 a3 : Int32} (hPR : PRm K L W ar kd nI lo' hi' TN Ls) (hFO : FOk K L W ar kd TN Ls nI) (hA1 : A1 ≤ 13000) (ih : REH own b n W' N T F H S0 G S O c m d) (ih2 : REH own b n W' N T F H S0 G S O (c + 1) 11 d) (ihS : RSm K L W ar kd TN Ls nI A0 A1 own b n W' N T F H S0 G S O c m d) (ihS2 : RSm K L W ar kd TN Ls nI A0 A1 own b n W' N T F H S0 G S O (c + 1) 11 d) (hd : 4 ≤ d) (hR : RTm own b n W' N T F H S0 G S O E pl c Vn vt Lc s) (hX : RCx G fo E pl Vn vt fr ev b0 As b1 Bs s) (hfo : ∀ f, fo = some f → f < F) (hw : (s.2.1 221 e).toInt = 4) (hA0 : okE G (scX G fo) A0') (hP : wP G H b n (scX G fo) S O s (wE G H b n (scX G fo) (tVX G fo) S O s m) hi e A0' A) (he : e < hi) (hhi : hi ≤ N) (hN : N ≤ 12006) (hpl : pl + 7 * (m + 1) + 80 * (40 - c) ≤ 4000) (hE : E ≤ c + 1) (h1 : a1.toInt = (e : Int)) (h2 : a2.toInt = (fr : Int)) (h3 : a3.toInt = (ev : Int)) (h102 : (s.1 102).toInt = (w0 : Int)) (hw0 : w0 < Vn) (hi0 : impl G (VT s w0) (subs (envS b0 As b1 Bs) A0'))
    (hSC : SCx K L W ar kd TN Ls nI A0 A1 b G S' β0 β1 b0 b1 As Bs Ev st bs fr pl frs vs c Vn s) (hm' : m' ≤ 9) (h40 : ¬ K (a + 1) = 40) (hwm : K (a + 2) = 91 ∨ K (a + 2) = 40) (hPt : ePt K L (4002 * (b : Int)) s m' (eC K L W ar kd TN Ls (4002 * (b : Int)) β0 β1 S' A0 A1 s m') e0 (e : Int) y' a) (hcT : cTs K L W ar TN β0 β1 S' A0 A1 s (e : Int) y' a) (hPO : POk K L m' a) (hx0 : (exO K L W ar kd TN Ls S' (exE6 K L W ar kd TN Ls S' m') a Ai).1 = 0) (ha0 : 0 ≤ a) (han : aPt K L a ≤ nI) (hh : st.length + 8 * (m' + 1) ≤ 88 * (c + 1)) : Tot (d + 2) 244 [.ref 213, .int a1, .int a2, .int a3] s (SmQ ar (fcD K L W ar kd TN Ls) (mvC K L W ar kd TN Ls) (TN.length : Int) G (5, ciO K L W ar TN Ls S' (ciE K L W ar kd TN Ls S' m') a Ai ++ C, st ++ [.inr w0], bs, Ev, frs, vs, lft s, (s.1 93).toInt, fa) C st bs Ev frs vs (lft s) fa 0 (8 * (m' : Int) + 6 + 100 * (41 - (c : Int))) s) := by
  have hv := RT_vt hR
  obtain ⟨r1, r2, r3, r4, r5, r6, r7, r8, r9, r10, r11, r12, r13, r14, r15, r16, r17, r18, r19⟩ := id hR
  obtain ⟨x1, x2, x3, x4⟩ := id hX
  have hG := r1.2.2.2.2.2.2.2.2.1
  have hT := hG.1.1
  have hb2 := r1.1.1
  have hn := r2.2.1
  have gF' : gF G = F := by rw [← r1.2.2.2.2.2.2.2.1]; exact (pgA r1.1).2.1
  have hsc := scX_ok hG gF' hfo
  have hM : wM G H b n (scX G fo) S O s (wE G H b n (scX G fo) (tVX G fo) S O s m) hi e A0' A := by
    rcases hP with ⟨q, -⟩ | ⟨q, -⟩ | ⟨-, q⟩
    · omega
    · omega
    · exact q
  obtain ⟨M, x, Ms, h, cd, Zs, t, q, hm, c1, c2, c3, c4, c5, c6, c7, c8, -, -, -, -, -, c9, c10, c11, c12, c13, ⟨cs, l1, l2, l3⟩, c14⟩ := hM
  have okM := mid_okE hT hsc hA0 c1
  have okZ := wY_okE c11
  obtain ⟨v, Vs, cV⟩ := cutT_ex (VOK_vSt (r17 w0 hw0)).1.1
  have hVst := VOK_vSt (r17 w0 hw0)
  obtain ⟨kf, g, f1, f2, f3, f4, f5⟩ := call_hd hG x3 hA0 c1 c2 okM c3 c7 hVst cV hi0
  have hvT : v / 8 < gT G := by
    obtain ⟨-, v', Vs', q1, q2, -⟩ := hVst
    rw [(cutT_inj cV q1).1]
    exact q2
  have hVe : wEnv G (scDg G (v / 8)) (envS (1000 + 6 * (v / 8)) Vs 0 []) := by
    obtain ⟨p, l, x', As', v1, v2, v3, v4, v5, v6, v7, v8, v9, v10⟩ := r17 w0 hw0
    have eVT : VT s w0 = seg s p l := by unfold VT; rw [show (s.2.1 275 w0).toInt.toNat = p by omega, show (s.2.1 276 w0).toInt.toNat = l by omega]
    rw [eVT] at cV
    obtain ⟨e1, e2⟩ := cutT_inj cV v5
    subst e1 e2
    exact v9
  obtain ⟨n1, n2, n3, n4⟩ := call_env hG hsc x3 c2 okM c3 c7 c12 okZ c13 hVst cV hVe f1 f2 f3 f4 f5
  obtain ⟨b1', b2', b3', -⟩ := hG.2.2.2.2.2.1 h c8
  have hAl : Ms.length = gfm G (x / 8) := by
    rw [c2.2.2]
    rcases (okE_cut c2 okM).1 with z | z
    · exact z.2
    · omega
  obtain ⟨fh, hh⟩ := hd_fit (As := Ms) hG c3 c7 hAl
  obtain ⟨fT, hfT⟩ : ∃ fT, fT = (fun k => subs (envS cd Ms (2000 + 6 * h) Zs) (gvt G h k)) := ⟨_, rfl⟩
  have okf : ∀ k, k < cs.length → okE G (scX G fo) (fT k) := by
    intro k hk
    rw [hfT]
    refine okE_subs hT (b2' k (by omega)).1 (fun c hc => envS_lt hc) (fun c hc' => ?_)
    obtain ⟨A', q1, q2⟩ := fit_cov hG hh fh c12 hc'
    exact Or.inl ⟨A', q1, q2.elim ((okE_cut c2 okM).2 A') (okZ A')⟩
  have hg6 := hG.2.2.1 h c8
  have okZ0 : ∀ B ∈ Zs, isF 1 (subs (envS b0 As b1 Bs) B) := fun B hB => (wEnv_ok hT x3 (okZ B hB)).2.1
  have hgv : gvn G h = gvn G g := f5.2.2.1
  -- by tokens
  obtain ⟨⟨hTB, hCD⟩, ⟨⟨hEv, hRl⟩, ⟨hE1, hE2⟩, s16, s26⟩, ⟨hV, hVn⟩, ⟨hVV, hfr, hfc⟩, hl0⟩ := id hSC
  obtain ⟨ha, h24⟩ := PR_ar hPR
  obtain ⟨-, -, hPn⟩ := id hPO
  obtain ⟨po1, po2, po3, po4⟩ := POk_o (by omega) hPO
  obtain ⟨po5, po6⟩ := po4 h40 hwm
  have hO := (hPn h40).2.2.1 hwm
  have hK1 := (hPn h40).1
  obtain ⟨oa, oE⟩ := AOk_o (by omega) hO
  have hmo : mO K L (a + 1) = (0, (mO K L (a + 1)).2) := by
    by_cases q : K (a + 2) = 91
    · rw [((hPn h40).2.1 q).2.2]
    · unfold mO
      rw [show a + 1 + 1 = a + 2 by omega, if_neg q]
  obtain ⟨hp1, -, hp3, hp4⟩ := hPt
  rw [if_neg h40] at hp4
  obtain ⟨hp5, hp6⟩ := hp4
  rw [Int.toNat_natCast] at hp5
  obtain ⟨yy1, kA⟩ : ∃ yy1, eAr K L s (eC K L W ar kd TN Ls (4002 * (b : Int)) β0 β1 S' A0 A1 s m') 40 41 (e : Int) yy1 y' (mO K L (a + 1)).2 := by
    by_cases h91 : K (a + 2) = 91
    · rw [if_pos h91] at hp6
      obtain ⟨-, -, -, y1, -, -, h⟩ := hp6
      exact ⟨y1, h⟩
    · rw [if_neg h91, if_pos (hwm.resolve_left h91)] at hp6
      obtain ⟨-, -, -, h⟩ := hp6
      refine ⟨(e : Int) + 1, ?_⟩
      have : (mO K L (a + 1)).2 = a + 2 := by
        unfold mO
        rw [show a + 1 + 1 = a + 2 by omega, if_neg h91]
      rw [this]
      exact h
  obtain ⟨c226, zz, ww, z0, zN, c224, cE, cmo⟩ := eAr_ch kA hO
  rw [Int.toNat_natCast] at c226 c224
  obtain ⟨NN, hNN⟩ : ∃ NN, NN = p_vn K L (p_e K L 11) 40 41 (0, (mO K L (a + 1)).2) := ⟨_, rfl⟩
  have eNM : NM K L (a + 1) = NN := by
    unfold NM
    rw [hmo]
    exact hNN.symm
  rw [← hNN] at oE c226 zN c224 cE cmo
  obtain ⟨cl1, cl2⟩ := ch_ww (fun i hi => ⟨by have := (cE i hi).2.1; omega, (cE i hi).2.2⟩) (cs.map (·.2.2)) 0 _ (Nat.zero_le _) c224 l2
  rw [List.length_map, Nat.zero_add] at cl1
  obtain ⟨Ys, hYe⟩ : ∃ Ys, Ys = (exY K L (a + 1)).map (fun y => wdC K L W ar TN S'.1 S'.2.1 y) := ⟨_, rfl⟩
  obtain ⟨ts, hts⟩ : ∃ ts, ts = exU K L (mO K L (a + 1)).2 NN := ⟨_, rfl⟩
  have eCO : ciO K L W ar TN Ls S' (ciE K L W ar kd TN Ls S' m') a Ai = ciP (ciE K L W ar kd TN Ls S' m') ts ++ [(5, Ai, (NN : Int), Ys, W (a + 1))] := by
    unfold ciO
    rw [if_neg h40, if_pos hwm, eNM, ← hts, ← hYe]
  have hcdK := ciO_k (cd := ciE K L W ar kd TN Ls S' m') hPR s16 s26 (by omega) hPO hx0 (fun t p q => ciE_k hPR s16 s26 m' (by omega) t p q)
  rw [eCO] at hcdK
  have hYs : ∀ A ∈ Ys, TGo ar (TN.length : Int) (Ev.1.length : Int) (Ev.2.length : Int) A := by
    rw [hE1, hE2]
    exact ((hcdK _ (List.mem_append_right _ List.mem_cons_self)).2.1 rfl).2
  obtain ⟨ηp, Zp, hZ1, hZ2⟩ := exM_0 hPR h40 hwm (hPR.1.1.2.2 (a + 1) (by omega) (by omega)).1 hx0
  rw [eNM] at hZ1
  have hZY : Zs = Ys.map (enN ar β0 β1) := by
    obtain ⟨ys, y1, y2, y3⟩ := id c11
    obtain ⟨zt, k1, k2⟩ := hcT
    rw [Int.toNat_natCast] at k1
    obtain ⟨cy1, cy2⟩ := ch_ww (fun i hi => ⟨by have := (k2 i hi).1; omega, (k2 i hi).2.2⟩) ys 0 _ (Nat.zero_le _) k1 y1
    rw [Nat.zero_add] at cy1
    refine List.ext_getElem? (fun i => ?_)
    rw [List.getElem?_map, hYe, List.getElem?_map]
    unfold exY
    rw [List.getElem?_map]
    by_cases hi : i < exN K L (a + 1)
    · rw [List.getElem?_range hi]
      have hyi : ys[i]? = some ys[i] := List.getElem?_eq_getElem (by omega)
      obtain ⟨-, -, B, b1', b2'⟩ := y3 i _ hyi
      have ez := cy2 i _ hyi
      rw [Nat.zero_add] at ez
      have hc1 := (k2 i hi).2.1.1
      rw [← ez] at hc1
      rw [b1', wT_en b2' hc1, show a + 3 = a + 1 + 2 by omega]
      rfl
    · rw [List.getElem?_eq_none (by omega), List.getElem?_eq_none (by rw [List.length_range]; omega)]
      rfl
  obtain ⟨⟨AW, psW⟩, hvw⟩ : ∃ p, vs[w0]? = some p := ⟨_, List.getElem?_eq_getElem (by omega)⟩
  have hq0 : wTk K nI (a + 1) := ⟨by omega, by omega, hK1⟩
  obtain ⟨XS, hXS⟩ : ∃ XS : PMs, XS = (5, ciP (ciE K L W ar kd TN Ls S' m') ts ++ ((5, Ai, (NN : Int), Ys, W (a + 1)) :: C), st ++ [.inr w0], bs, Ev, frs, vs, lft s, (s.1 93).toInt, fa) := ⟨_, rfl⟩
  have eXS : (5, ciO K L W ar TN Ls S' (ciE K L W ar kd TN Ls S' m') a Ai ++ C, st ++ [.inr w0], bs, Ev, frs, vs, lft s, (s.1 93).toInt, fa) = XS := by
    rw [hXS, eCO, List.append_assoc]
    rfl
  have h88 : 88 * (c + 1) ≤ 3608 := by omega
  rw [eXS]
  refine t_244 ?_
  unfold w_244_0
  rw [show (s.1 105).toInt.toNat = pl by omega, show a1.toInt.toNat = e by omega]
  refine ⟨by omega, ?_⟩
  rintro s1 rfl
  have e105 : (sa s 278 pl (s.1 102)).1 105 = s.1 105 := rfl
  rw [e105]
  refine ⟨by omega, ?_⟩
  rintro x2' hx2 s3 rfl
  refine ⟨by omega, ?_⟩
  obtain ⟨t', ht'⟩ : ∃ t', t' = sf (sa s 278 pl (s.1 102)) 105 x2' := ⟨_, rfl⟩
  rw [← ht']
  have tc : ∀ q i, ¬ (q = 278 ∧ i = pl) → t'.2.1 q i = s.2.1 q i := fun q i w => by
    rw [ht']
    show (sa s 278 pl (s.1 102)).2.1 q i = _
    rw [sa_2, if_neg w]
  have t278 : t'.2.1 278 pl = s.1 102 := by
    rw [ht']
    show (sa s 278 pl (s.1 102)).2.1 278 pl = _
    rw [sa_2, if_pos ⟨rfl, rfl⟩]
  have tk : ∀ k, ¬ k = 105 → t'.1 k = s.1 k := fun k hk => by
    rw [ht', sf_1, if_neg hk]
    rfl
  have t105 : (t'.1 105).toInt = ((pl + 1 : Nat) : Int) := by rw [ht', sf_1, if_pos rfl]; omega
  have tl : t'.2.2 = s.2.2 := by rw [ht']; rfl
  clear ht'
  have tX : RX [105] E pl Vn vt s t' := ⟨fun k hk => tk k (fun w => hk (by rw [w]; decide)), fun q i _ _ _ _ _ w6 => tc q i (fun w => w6 ⟨w.1, by omega⟩), tl, fun i => by rw [tc 264 i (fun w => by omega)]; exact r1.2.2.2.2.1 i, fun i => by rw [tc 265 i (fun w => by omega)]; exact r1.2.2.2.2.2.1 i⟩
  have tR : RTm own b n W' N T F H S0 G S O E (pl + 1) c Vn vt Lc t' := RT_rx hR tX (by decide) (by rw [tk 70 (by decide)]; exact r4) t105 (by rw [tk 106 (by decide)]; exact r6) (by rw [tk 98 (by decide)]; exact r7) (by rw [tk 97 (by decide)]; exact r8) (by rw [tk 95 (by decide)]; exact r9) (by rw [tk 96 (by decide)]; exact r11) (by rw [tk 94 (by decide)]; exact r12) (by rw [tk 93 (by decide)]; exact r13) (Nat.le_refl _) (Nat.le_refl _) r16 r19
  have tC : RCx G fo E (pl + 1) Vn vt fr ev b0 As b1 Bs t' := RCx_rx hX tX r17 (by omega) (Nat.le_refl _) (by omega) (Nat.le_refl _) (Nat.le_refl _)
  have tca : ∀ lo hi, CA b n lo hi S O s t' := fun lo hi => RX_CA tX (by omega) (by omega)
  have csT : ∀ (k : Nat) (q : Nat × Nat × Nat), cs[k]? = some q → hm ≤ q.1 ∧ q.1 ≤ q.2.2 ∧ q.2.2 < q.2.1 ∧ q.2.1 ≤ hi ∧ ∃ B, wE G H b n (scX G fo) (tVX G fo) S O t' m q.1 q.2.1 q.2.2 B ∧ impl G B (fT k) := by
    intro k q hk
    obtain ⟨z1, z2, z3, z4, B, z5, z6⟩ := l3 k q hk
    exact ⟨z1, z2, z3, z4, B, wE_eq (Nat.le_refl _) (Nat.le_refl _) (tca _ _) z5, by rw [hfT]; exact z6⟩
  have VRt : vRl ar (TN.length : Int) G t' vs := vRl_rx tX r17 (by omega) hVn hV
  have tlf : lft t' = lft s := lft_e (fun k w => tk k (by omega))
  have tSC : SCx K L W ar kd TN Ls nI A0 A1 b G S' β0 β1 b0 b1 As Bs Ev st bs fr (pl + 1) frs vs c Vn t' := by
    have := SCx_rx (st' := []) (pl' := pl + 1) tX (by omega) hA1 (by decide) (Nat.le_refl _) (by omega) VRt hVn (by omega) hSC
    rw [List.append_nil] at this
    exact this
  have hPS0 : PAs ar (fcD K L W ar kd TN Ls) (mvC K L W ar kd TN Ls) (TN.length : Int) G XS (ciE K L W ar kd TN Ls S' m') ts ((5, Ai, (NN : Int), Ys, W (a + 1)) :: C) (st ++ [.inr w0]) bs Ev frs vs (lft s) fa 0 (8 * (m' : Int) + 100 * (41 - (c : Int))) (pl + 1) s 0 0 t' := by
    refine ⟨vs, (s.1 93).toInt, 0, ⟨⟨[], by rw [List.append_nil]⟩, VRt, by rw [tk 98 (by decide), hVn]; exact r7⟩, ⟨by omega, by omega, by rw [tk 93 (by decide)], kp6_e (fun k w => by rcases w with rfl | rfl | rfl <;> exact tk _ (by decide)) kp6_rf⟩, fun _ => tk 92 (by decide), Or.inl ⟨rfl, [], rfl, (fun j w hj => by cases hj), by show ((0 : Nat) : Int) ≤ _ + 0 + ((0 : Nat) : Int); omega, ?_⟩⟩
    rw [List.drop_zero, List.map_nil, List.append_nil, tlf, hXS]
    exact PSt_0
  have ch0 : chn t' (s.2.1 224 e).toInt (cs.map (·.2.2)) := chn_row (RX_row tX (by decide)) _ _ l2
  rw [RX_row tX (q := 224) (by decide)]
  refine ⟨fun z1 z2 z3 z4 z5 z6 u => z1 = a1 ∧ z2 = a2 ∧ z3 = a3 ∧ z4 = s.1 105 ∧ ∃ k : Nat, PAr own b n W' N T F H S0 G S O E (pl + 1) c Vn vt Lc (envS b0 As b1 Bs) fT cs t' k z6.toInt z5.toInt u ∧ PAs ar (fcD K L W ar kd TN Ls) (mvC K L W ar kd TN Ls) (TN.length : Int) G XS (ciE K L W ar kd TN Ls S' m') ts ((5, Ai, (NN : Int), Ys, W (a + 1)) :: C) (st ++ [.inr w0]) bs Ev frs vs (lft s) fa 0 (8 * (m' : Int) + 100 * (41 - (c : Int))) (pl + 1) s k z5.toInt u, fun _ _ _ _ _ _ u => ((pl : Int) + 9 - (u.1 105).toInt).toNat, ⟨rfl, rfl, rfl, rfl, 0, ⟨Vn, vt, Lc, RX_rf tX.2.2.2.1 tX.2.2.2.2, tR, Nat.le_refl _, Nat.le_refl _, Nat.le_refl _, by omega, by decide, fun _ => ⟨ch0, fun j q hj => by omega⟩⟩, hPS0⟩, ?_⟩
  rintro z1 z2 z3 z4 z5 z6 u ⟨e1, e2, e3, e4, k, hI, hPS⟩
  have e1 := e1.symm
  have e2 := e2.symm
  have e3 := e3.symm
  have e4 := e4.symm
  subst e1 e2 e3 e4
  obtain ⟨Vn', vt', L', uX, uR, k1, k2, k3, k4, k5, k6⟩ := id hI
  have hv' := RT_vt uR
  have uR105 := uR.2.2.2.2.1
  have suX : RX rK E pl Vn vt s u := RX_tr (RX_mo tX (by decide) (Nat.le_refl _) (Nat.le_refl _) (Nat.le_refl _) (Nat.le_refl _)) uX (fun _ w => w) (Nat.le_refl _) (by omega) (Nat.le_refl _) (Nat.le_refl _)
  have fin : (z5.toInt = 0 → k = cs.length) → w_244_52 (Tot (d + 1)) a1 a2 a3 (s.1 105) z5 z6 u (SmQ ar (fcD K L W ar kd TN Ls) (mvC K L W ar kd TN Ls) (TN.length : Int) G XS C st bs Ev frs vs (lft s) fa 0 (8 * (m' : Int) + 6 + 100 * (41 - (c : Int))) s) := by
    intro hend
    have VTu : VT u w0 = VT s w0 := RX_VT suX hw0 (r17 w0 hw0) (by omega)
    have uC := RCx_rx hX suX r17 (by omega) (Nat.le_refl _) (Nat.le_refl _) k1 k2
    have hM0 : MEq ar (fcD K L W ar kd TN Ls) (mvC K L W ar kd TN Ls) (TN.length : Int) G XS Ai NN Ys (W (a + 1)) C st w0 bs Ev frs vs (lft s) fa (8 * (m' : Int) + 6 + 100 * (41 - (c : Int))) pl s 0 z5.toInt u := by
      obtain ⟨vs', cl', N1, p1, p2, p3, p4⟩ := hPS
      rcases p4 with ⟨q0, vals, w1, w2, w3, w4⟩ | ⟨q0, Y, w1, w2, w3, w4, w5, w6, w7⟩
      · have ek := hend q0
        have edr : ts.drop k = [] := List.drop_eq_nil_iff.mpr (by rw [hts, exU_len]; omega)
        rw [edr, List.append_assoc] at w4
        exact ⟨vs', cl', N1, p1, p2, p3, Or.inl ⟨q0, vals, lft u, [], by omega, w2, ⟨Int.le_refl _, p2.2.1, by omega⟩, w4, rfl⟩⟩
      · exact ⟨vs', cl', N1, p1, p2, p3, Or.inr ⟨q0, Y, w1, w2, w3, w4, w5, w6, by omega⟩⟩
    refine m52 (fo := fo) (w0 := w0) (v := v) (kf := kf) (g := g) (t := t) (hm := hm) (Vs := Vs) (wd := (s.2.1 217 t).toInt) (Zs := Zs) (A := A) hPR hFO hA1 ih2 ihS2 hd (by omega) suX uR hE (by omega) (by omega) hN (by omega) (by omega) h1 h3 r5 k5 k1 k2 x1 uC.2.1 x3 ?_ (by omega) ?_ (by omega) (by rw [RX_row suX (by decide)]) ?_ (by omega) (by rw [VTu]; exact cV) (by omega) f2 f4 hvT okZ0 n1 (by rw [VTu]; exact n4) (by rw [c14]; exact n3) (fun h0 => ?_) hSC hq0 (by omega) hvw hM0 hZY (by rw [c12]; exact f5.1) (fun _ => by omega) hYs (by omega)
    · rw [RX_row suX (q := 229) (by decide)]
      exact wY_eq (RX_CA (b := b) (n := n) (S := S) (O := O) suX (by omega) (by omega)) (Nat.le_refl _) c11
    · rw [RX_row suX (q := 222) (by decide)]
      exact c4
    · rw [uX.2.1 278 pl (fun w => by omega) (fun w => by omega) (fun w => by omega) (fun w => by omega) (fun w => by omega) (fun w => by omega), t278]
      exact h102
    · have ek := hend h0
      obtain ⟨-, k8⟩ := k6 h0
      refine ⟨by omega, fun j hj => ?_⟩
      have hjl : j < cs.length := by omega
      obtain ⟨w, w1, w2, w3⟩ := k8 j cs[j] (by omega) (List.getElem?_eq_getElem hjl)
      refine ⟨w, w1, w2, ?_⟩
      rw [n2 j (by omega)]
      rw [hfT] at w3
      exact w3
  unfold w_244_23
  refine ⟨fun hneg => fin (fun h0 => ?_), fun hpos => ⟨fun hne => fin (fun q => absurd q hne), fun h0 => ?_⟩⟩
  · obtain ⟨k7, -⟩ := k6 h0
    cases hdr : cs.drop k with
    | nil =>
      have := List.drop_eq_nil_iff.mp hdr
      omega
    | cons q cs' =>
      rw [hdr] at k7
      have : z6.toInt = (q.2.2 : Int) := k7.1
      omega
  · obtain ⟨k7, -⟩ := k6 h0
    cases hdr : cs.drop k with
    | nil =>
      rw [hdr] at k7
      have : z6.toInt = -1 := k7
      omega
    | cons q cs' =>
      rw [hdr] at k7
      have hz8 : z6.toInt = (q.2.2 : Int) := k7.1
      have hck : cs[k]? = some q := by
        have := congrArg List.head? hdr
        rw [List.head?_drop] at this
        exact this
      obtain ⟨p1, p2, p3, p4, -⟩ := csT k q hck
      rw [h0] at hI
      have hkl := cs_lt hck
      rw [h0] at hPS
      have hkN : k < NN := by omega
      obtain ⟨ce1, ce2, ce3⟩ := cE k hkN
      have eroot : (q.2.2 : Int) = ww k := by
        have := cl2 k q.2.2 (by rw [List.getElem?_map, hck]; rfl)
        rw [Nat.zero_add] at this
        exact this
      have oEk := oE k hkN
      have hEC : ECx K L W ar kd TN Ls nI A0 A1 b S' β0 β1 m' (zz k) (zz (k + 1)) (uS (nxE K L) ((mO K L (a + 1)).2 + 1) k) (q.2.2 : Int) t' := by
        refine ⟨?_, by omega, hO.2.2.1 k (by rw [← hNN]; exact hkN), ?_, by omega, by omega⟩
        · rw [eroot]
          exact eC_rx tX (by omega) hA1 ce1
        · refine exP_0 hZ2 (uS (nxE K L) ((mO K L (a + 1)).2 + 1) k, Zp.getD k []) ?_
          rw [eNM]
          refine List.mem_of_getElem? (i := k) ?_
          rw [List.getElem?_zip_eq_some]
          refine ⟨exU_at hkN, ?_⟩
          rw [List.getD_eq_getElem?_getD, List.getElem?_eq_getElem (by omega)]
          rfl
      refine Tot.imp (Tot.mono (by omega) (Tot_and (PAr_step ih tR tC hfo csT okf (by omega) hhi hN (by omega) hE hI hck hz8 h2 h3) (PAs_step (x5 := 0) (ts := ts) hA1 ih ihS tR tC hfo csT (by omega) hhi hN (by omega) hE hI hck hz8 h2 h3 tSC ⟨[.inr w0], rfl⟩ (by rw [hts]; exact exU_at hkN) hEC (by rw [List.length_append, List.length_singleton]; omega) hPS))) ?_
      rintro v' u1 ⟨⟨x3', rfl, m1, m2, m3⟩, x3'', ex, m4⟩
      have ex' : x3' = x3'' := by
        have := Option.some.inj ex
        injection this
      subst ex'
      rw [show (u1.1 105).toInt.toNat = pl + 1 + k by omega]
      refine ⟨x3', rfl, by omega, ?_⟩
      rintro s4 rfl
      have e105' : (sa u1 278 (pl + 1 + k) (u1.1 102)).1 105 = u1.1 105 := rfl
      rw [e105']
      refine ⟨by omega, ?_⟩
      rintro x5 hx5 s6 rfl
      have e225 : (sf (sa u1 278 (pl + 1 + k) (u1.1 102)) 105 x5).2.1 225 z6.toInt.toNat = t'.2.1 225 q.2.2 := by
        show (sa u1 278 (pl + 1 + k) (u1.1 102)).2.1 225 z6.toInt.toNat = _
        rw [sa_2, if_neg (fun w => by omega), m2, show z6.toInt.toNat = q.2.2 by omega]
      rw [e225]
      refine ⟨by omega, ⟨rfl, rfl, rfl, rfl, k + 1, m3 x5 (by omega), m4 x5⟩, ?_⟩
      show ((pl : Int) + 9 - x5.toInt).toNat < ((pl : Int) + 9 - (u.1 105).toInt).toNat
      omega
end ZUN
