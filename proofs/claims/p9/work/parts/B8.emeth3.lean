/-! ===== evalMethod: whole ===== -/
section EM3
variable {own : Nat → Nat × Nat} {b n W N T F H S0 : Nat} {G : PG} {S O E pl c Vn vt L : Nat} {s : yS} {fo : Option Nat} {fr ev b0 b1 m hi : Nat} {As Bs : List (List Nat)}
theorem mid_okE {sc : Nat → Prop} {A0 M : List Nat} (hT : gT G ≤ 24) (hsc : scC G H sc) (hA0 : okE G sc A0) (hm : midT G A0 M) : okE G sc M := by
  rcases hm with ⟨-, rfl⟩ | ⟨c, c1, rfl, rfl⟩
  · exact hA0
  · refine (hsc c ?_).2.1
    rcases hA0.2 (8 * c) List.mem_cons_self with q | q
    · omega
    · have := q.2.2
      rw [show 8 * c / 8 = c by omega] at this
      exact this
theorem wY_okE {sc : Nat → Prop} {x : Int} {lo hi : Nat} {Zs : List (List Nat)} (h : wY G b sc S s x lo hi Zs) : ∀ B ∈ Zs, okE G sc B := by
  obtain ⟨ys, -, h2, h3⟩ := h
  intro B hB
  obtain ⟨k, hk⟩ := List.mem_iff_getElem?.mp hB
  have hkl : k < Zs.length := by
    by_cases q : k < Zs.length
    · exact q
    · rw [List.getElem?_eq_none (by omega)] at hk
      cases hk
  obtain ⟨-, -, B', b1, -, -, -, -, -, -, b2, -⟩ := h3 k ys[k] (List.getElem?_eq_getElem (by omega))
  rw [hk] at b1
  rw [Option.some.inj b1]
  exact b2
theorem s_244 {d e w0 : Nat} {A0 A : List Nat} {a1 a2 a3 : Int32} (ih : REH own b n W N T F H S0 G S O c m d) (ih2 : REH own b n W N T F H S0 G S O (c + 1) 11 d) (hd : 4 ≤ d) (hR : RTm own b n W N T F H S0 G S O E pl c Vn vt L s) (hX : RCx G fo E pl Vn vt fr ev b0 As b1 Bs s) (hfo : ∀ f, fo = some f → f < F) (hw : (s.2.1 221 e).toInt = 4) (hA0 : okE G (scX G fo) A0) (hP : wP G H b n (scX G fo) S O s (wE G H b n (scX G fo) (tVX G fo) S O s m) hi e A0 A) (he : e < hi) (hhi : hi ≤ N) (hN : N ≤ 12006) (hpl : pl + 7 * (m + 1) + 80 * (40 - c) ≤ 4000) (hE : E ≤ c + 1) (h1 : a1.toInt = (e : Int)) (h2 : a2.toInt = (fr : Int)) (h3 : a3.toInt = (ev : Int)) (h102 : (s.1 102).toInt = (w0 : Int)) (hw0 : w0 < Vn) (hi0 : impl G (VT s w0) (subs (envS b0 As b1 Bs) A0)) : Tot (d + 2) 244 [.ref 213, .int a1, .int a2, .int a3] s (EvQ own b n W N T F H S0 G S O E pl c Vn vt L (envS b0 As b1 Bs) A s) := by
  have hv := RT_vt hR
  obtain ⟨r1, r2, r3, r4, r5, r6, r7, r8, r9, r10, r11, r12, r13, r14, r15, r16, r17, r18, r19⟩ := id hR
  obtain ⟨x1, x2, x3, x4⟩ := id hX
  have hG := r1.2.2.2.2.2.2.2.2.1
  have hT := hG.1.1
  have hb2 := r1.1.1
  have hn := r2.2.1
  have gF' : gF G = F := by rw [← r1.2.2.2.2.2.2.2.1]; exact (pgA r1.1).2.1
  have hsc := scX_ok hG gF' hfo
  have hM : wM G H b n (scX G fo) S O s (wE G H b n (scX G fo) (tVX G fo) S O s m) hi e A0 A := by
    rcases hP with ⟨q, -⟩ | ⟨q, -⟩ | ⟨-, q⟩
    · omega
    · omega
    · exact q
  obtain ⟨M, x, Ms, h, cd, Zs, t, q, hm, c1, c2, c3, c4, c5, c6, c7, c8, -, -, -, -, -, c9, c10, c11, c12, c13, ⟨cs, l1, l2, l3⟩, c14⟩ := hM
  have okM := mid_okE hT hsc hA0 c1
  have okZ := wY_okE c11
  obtain ⟨v, Vs, cV⟩ := cutT_ex (VOK_vSt (r17 w0 hw0)).1.1
  have hVst := VOK_vSt (r17 w0 hw0)
  obtain ⟨kf, g, f1, f2, f3, f4, f5⟩ := call_hd hG x3 hA0 c1 c2 okM c3 c7 hVst cV hi0
  have hvT : v / 8 < gT G := by
    obtain ⟨-, v', Vs', q1, q2, -⟩ := hVst
    rw [(cutT_inj cV q1).1]
    exact q2
  have hVe : wEnv G (scDg G (v / 8)) (envS (1000 + 6 * (v / 8)) Vs 0 []) := by
    obtain ⟨p, l, x', As', v1, v2, v3, v4, v5, v6, v7, v8, v9, v10⟩ := r17 w0 hw0
    have eVT : VT s w0 = seg s p l := by unfold VT; rw [show (s.2.1 275 w0).toInt.toNat = p by omega, show (s.2.1 276 w0).toInt.toNat = l by omega]
    rw [eVT] at cV
    obtain ⟨e1, e2⟩ := cutT_inj cV v5
    subst e1 e2
    exact v9
  obtain ⟨n1, n2, n3, n4⟩ := call_env hG hsc x3 c2 okM c3 c7 c12 okZ c13 hVst cV hVe f1 f2 f3 f4 f5
  obtain ⟨b1', b2', b3', -⟩ := hG.2.2.2.2.2.1 h c8
  have hAl : Ms.length = gfm G (x / 8) := by
    rw [c2.2.2]
    rcases (okE_cut c2 okM).1 with z | z
    · exact z.2
    · omega
  obtain ⟨fh, hh⟩ := hd_fit (As := Ms) hG c3 c7 hAl
  obtain ⟨fT, hfT⟩ : ∃ fT, fT = (fun k => subs (envS cd Ms (2000 + 6 * h) Zs) (gvt G h k)) := ⟨_, rfl⟩
  have okf : ∀ k, k < cs.length → okE G (scX G fo) (fT k) := by
    intro k hk
    rw [hfT]
    refine okE_subs hT (b2' k (by omega)).1 (fun c hc => envS_lt hc) (fun c hc' => ?_)
    obtain ⟨A', q1, q2⟩ := fit_cov hG hh fh c12 hc'
    exact Or.inl ⟨A', q1, q2.elim ((okE_cut c2 okM).2 A') (okZ A')⟩
  have hg6 := hG.2.2.1 h c8
  have okZ0 : ∀ B ∈ Zs, isF 1 (subs (envS b0 As b1 Bs) B) := fun B hB => (wEnv_ok hT x3 (okZ B hB)).2.1
  have hgv : gvn G h = gvn G g := f5.2.2.1
  refine t_244 ?_
  unfold w_244_0
  rw [show (s.1 105).toInt.toNat = pl by omega, show a1.toInt.toNat = e by omega]
  refine ⟨by omega, ?_⟩
  rintro s1 rfl
  have e105 : (sa s 278 pl (s.1 102)).1 105 = s.1 105 := rfl
  rw [e105]
  refine ⟨by omega, ?_⟩
  rintro x2' hx2 s3 rfl
  refine ⟨by omega, ?_⟩
  obtain ⟨t', ht'⟩ : ∃ t', t' = sf (sa s 278 pl (s.1 102)) 105 x2' := ⟨_, rfl⟩
  rw [← ht']
  have tc : ∀ q i, ¬ (q = 278 ∧ i = pl) → t'.2.1 q i = s.2.1 q i := fun q i w => by
    rw [ht']
    show (sa s 278 pl (s.1 102)).2.1 q i = _
    rw [sa_2, if_neg w]
  have t278 : t'.2.1 278 pl = s.1 102 := by
    rw [ht']
    show (sa s 278 pl (s.1 102)).2.1 278 pl = _
    rw [sa_2, if_pos ⟨rfl, rfl⟩]
  have tk : ∀ k, ¬ k = 105 → t'.1 k = s.1 k := fun k hk => by
    rw [ht', sf_1, if_neg hk]
    rfl
  have t105 : (t'.1 105).toInt = ((pl + 1 : Nat) : Int) := by rw [ht', sf_1, if_pos rfl]; omega
  have tl : t'.2.2 = s.2.2 := by rw [ht']; rfl
  clear ht'
  have tX : RX [105] E pl Vn vt s t' := ⟨fun k hk => tk k (fun w => hk (by rw [w]; decide)), fun q i _ _ _ _ _ w6 => tc q i (fun w => w6 ⟨w.1, by omega⟩), tl, fun i => by rw [tc 264 i (fun w => by omega)]; exact r1.2.2.2.2.1 i, fun i => by rw [tc 265 i (fun w => by omega)]; exact r1.2.2.2.2.2.1 i⟩
  have tR : RTm own b n W N T F H S0 G S O E (pl + 1) c Vn vt L t' := RT_rx hR tX (by decide) (by rw [tk 70 (by decide)]; exact r4) t105 (by rw [tk 106 (by decide)]; exact r6) (by rw [tk 98 (by decide)]; exact r7) (by rw [tk 97 (by decide)]; exact r8) (by rw [tk 95 (by decide)]; exact r9) (by rw [tk 96 (by decide)]; exact r11) (by rw [tk 94 (by decide)]; exact r12) (by rw [tk 93 (by decide)]; exact r13) (Nat.le_refl _) (Nat.le_refl _) r16 r19
  have tC : RCx G fo E (pl + 1) Vn vt fr ev b0 As b1 Bs t' := RCx_rx hX tX r17 (by omega) (Nat.le_refl _) (by omega) (Nat.le_refl _) (Nat.le_refl _)
  have tca : ∀ lo hi, CA b n lo hi S O s t' := fun lo hi => RX_CA tX (by omega) (by omega)
  have csT : ∀ (k : Nat) (q : Nat × Nat × Nat), cs[k]? = some q → hm ≤ q.1 ∧ q.1 ≤ q.2.2 ∧ q.2.2 < q.2.1 ∧ q.2.1 ≤ hi ∧ ∃ B, wE G H b n (scX G fo) (tVX G fo) S O t' m q.1 q.2.1 q.2.2 B ∧ impl G B (fT k) := by
    intro k q hk
    obtain ⟨z1, z2, z3, z4, B, z5, z6⟩ := l3 k q hk
    exact ⟨z1, z2, z3, z4, B, wE_eq (Nat.le_refl _) (Nat.le_refl _) (tca _ _) z5, by rw [hfT]; exact z6⟩
  have ch0 : chn t' (s.2.1 224 e).toInt (cs.map (·.2.2)) := chn_row (RX_row tX (by decide)) _ _ l2
  rw [RX_row tX (q := 224) (by decide)]
  refine ⟨fun z1 z2 z3 z4 z5 z6 u => z1 = a1 ∧ z2 = a2 ∧ z3 = a3 ∧ z4 = s.1 105 ∧ ∃ k : Nat, PAr own b n W N T F H S0 G S O E (pl + 1) c Vn vt L (envS b0 As b1 Bs) fT cs t' k z6.toInt z5.toInt u, fun _ _ _ _ _ _ u => ((pl : Int) + 9 - (u.1 105).toInt).toNat, ⟨rfl, rfl, rfl, rfl, 0, Vn, vt, L, RX_rf tX.2.2.2.1 tX.2.2.2.2, tR, Nat.le_refl _, Nat.le_refl _, Nat.le_refl _, by omega, by decide, fun _ => ⟨ch0, fun j q hj => by omega⟩⟩, ?_⟩
  rintro z1 z2 z3 z4 z5 z6 u ⟨e1, e2, e3, e4, k, hI⟩
  have e1 := e1.symm
  have e2 := e2.symm
  have e3 := e3.symm
  have e4 := e4.symm
  subst e1 e2 e3 e4
  obtain ⟨Vn', vt', L', uX, uR, k1, k2, k3, k4, k5, k6⟩ := id hI
  have hv' := RT_vt uR
  have uR105 := uR.2.2.2.2.1
  have suX : RX rK E pl Vn vt s u := RX_tr (RX_mo tX (by decide) (Nat.le_refl _) (Nat.le_refl _) (Nat.le_refl _) (Nat.le_refl _)) uX (fun _ w => w) (Nat.le_refl _) (by omega) (Nat.le_refl _) (Nat.le_refl _)
  have fin : (z5.toInt = 0 → k = cs.length) → w_244_52 (Tot (d + 1)) a1 a2 a3 (s.1 105) z5 z6 u (EvQ own b n W N T F H S0 G S O E pl c Vn vt L (envS b0 As b1 Bs) A s) := by
    intro hend
    have VTu : VT u w0 = VT s w0 := RX_VT suX hw0 (r17 w0 hw0) (by omega)
    have uC := RCx_rx hX suX r17 (by omega) (Nat.le_refl _) (Nat.le_refl _) k1 k2
    refine me52 (fo := fo) (w0 := w0) (v := v) (kf := kf) (g := g) (t := t) (hm := hm) (Vs := Vs) (wd := (s.2.1 217 t).toInt) (Zs := Zs) ih2 hd r4 suX uR hE (by omega) (by omega) hN (by omega) (by omega) h1 h3 r5 k5 k1 k2 k3 x1 uC.2.1 x3 ?_ (by omega) ?_ (by omega) (by rw [RX_row suX (by decide)]) ?_ (by omega) (by rw [VTu]; exact cV) (by omega) f2 f4 hvT okZ0 n1 (by rw [VTu]; exact n4) (by rw [c14]; exact n3) (fun h0 => ?_)
    · rw [RX_row suX (q := 229) (by decide)]
      exact wY_eq (RX_CA (b := b) (n := n) (S := S) (O := O) suX (by omega) (by omega)) (Nat.le_refl _) c11
    · rw [RX_row suX (q := 222) (by decide)]
      exact c4
    · rw [uX.2.1 278 pl (fun w => by omega) (fun w => by omega) (fun w => by omega) (fun w => by omega) (fun w => by omega) (fun w => by omega), t278]
      exact h102
    · have ek := hend h0
      obtain ⟨-, k8⟩ := k6 h0
      refine ⟨by omega, fun j hj => ?_⟩
      have hjl : j < cs.length := by omega
      obtain ⟨w, w1, w2, w3⟩ := k8 j cs[j] (by omega) (List.getElem?_eq_getElem hjl)
      refine ⟨w, w1, w2, ?_⟩
      rw [n2 j (by omega)]
      rw [hfT] at w3
      exact w3
  unfold w_244_23
  refine ⟨fun hneg => fin (fun h0 => ?_), fun hpos => ⟨fun hne => fin (fun q => absurd q hne), fun h0 => ?_⟩⟩
  · obtain ⟨k7, -⟩ := k6 h0
    cases hdr : cs.drop k with
    | nil =>
      have := List.drop_eq_nil_iff.mp hdr
      omega
    | cons q cs' =>
      rw [hdr] at k7
      have : z6.toInt = (q.2.2 : Int) := k7.1
      omega
  · obtain ⟨k7, -⟩ := k6 h0
    cases hdr : cs.drop k with
    | nil =>
      rw [hdr] at k7
      have : z6.toInt = -1 := k7
      omega
    | cons q cs' =>
      rw [hdr] at k7
      have hz8 : z6.toInt = (q.2.2 : Int) := k7.1
      have hck : cs[k]? = some q := by
        have := congrArg List.head? hdr
        rw [List.head?_drop] at this
        exact this
      obtain ⟨p1, p2, p3, p4, -⟩ := csT k q hck
      rw [h0] at hI
      have hkl := cs_lt hck
      refine Tot.imp (Tot.mono (by omega) (PAr_step ih tR tC hfo csT okf (by omega) hhi hN (by omega) hE hI hck hz8 h2 h3)) ?_
      rintro v' u1 ⟨x3', rfl, m1, m2, m3⟩
      rw [show (u1.1 105).toInt.toNat = pl + 1 + k by omega]
      refine ⟨x3', rfl, by omega, ?_⟩
      rintro s4 rfl
      have e105' : (sa u1 278 (pl + 1 + k) (u1.1 102)).1 105 = u1.1 105 := rfl
      rw [e105']
      refine ⟨by omega, ?_⟩
      rintro x5 hx5 s6 rfl
      have e225 : (sf (sa u1 278 (pl + 1 + k) (u1.1 102)) 105 x5).2.1 225 z6.toInt.toNat = t'.2.1 225 q.2.2 := by
        show (sa u1 278 (pl + 1 + k) (u1.1 102)).2.1 225 z6.toInt.toNat = _
        rw [sa_2, if_neg (fun w => by omega), m2, show z6.toInt.toNat = q.2.2 by omega]
      rw [e225]
      refine ⟨by omega, ⟨rfl, rfl, rfl, rfl, k + 1, m3 x5 (by omega)⟩, ?_⟩
      show ((pl : Int) + 9 - x5.toInt).toNat < ((pl : Int) + 9 - (u.1 105).toInt).toNat
      omega
end EM3
