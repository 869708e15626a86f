/-! ===== the reference's run beside the pure machine: tables; .( TYPE ) ===== -/
/-- the tables that a run reads -/
def TBr (K L W ar kd : Int → Int) (TN Ls : List Int) (n : Int) (b : Nat) (s : yS) : Prop := ∃ A : Int, A ≤ 13000 ∧ PGr ar kd (cfO K L W TN Ls) (fsd K L Ls) (kFn K Ls) (kHd K L Ls) (TN.length : Int) (tmd K L Ls) (tnd K L Ls) (hdd K L W ar TN Ls) (hbd K L Ls) (owd K L W TN Ls) (hwd K L W Ls) (Bfd K L W ar TN Ls) (b : Int) A s ∧ (∀ t : Int, 0 ≤ t → t ≤ n → (s.2.1 216 (4002 * (b : Int) + t).toNat).toInt = L t) ∧ (∀ q0, wTk K n q0 → ∀ h : Nat, h < kHd K L Ls → (wHr (b : Int) s h = (s.2.1 217 (4002 * (b : Int) + q0).toNat).toInt ↔ hwd K L W Ls h = W q0)) ∧ ∀ c : Int, kd c = 1 → (0 ≤ c ∧ c < (TN.length : Int)) ∧ (s.2.1 239 (24 * (b : Int) + c).toNat).toInt = ((fTy K L W ar TN Ls c).length : Int)
section ZUD
variable {K L W ar kd : Int → Int} {TN Ls : List Int} {n : Int} {b : Nat} {s s' : yS} {cf : Nat → Int} {fs : Nat → Nat} {F' H' : Nat} {nT : Int} {tm tn : Int → Nat} {hd : Nat → Nat × Nat × List (List Int)} {hb ow hw : Nat → Int} {Bf : Int → List (List Int)} {bI A y : Int} {E : List Int} {ks : List Nat} {E1 pl Vn vt : Nat}
theorem RX_lo (h : RX ks E1 pl Vn vt s s') {q : Nat} (hq : q < 264) : s'.2.1 q = s.2.1 q := funext fun i => h.2.1 q i (fun w => by omega) (fun w => by omega) (fun w => by omega) (fun w => by omega) (fun w => by omega) (fun w => by omega)
theorem RX_ty (h : RX ks E1 pl Vn vt s s') {j : Nat} (hj : j < vt) (hv : vt ≤ 20000) : s'.2.1 264 j = s.2.1 264 j := h.2.1 264 j (fun w => by omega) (fun w => by omega) (fun w => by omega) (fun w => by omega) (fun w => by omega) (fun w => by omega)
theorem RSe_x (r : ∀ q, q < 264 → s'.2.1 q = s.2.1 q) (t : ∀ j : Nat, (j : Int) < A → s'.2.1 264 j = s.2.1 264 j) (g : RSe s A y E) : RSe s' A y E := by
  obtain ⟨g1, g2, g3, g4⟩ := g
  unfold RSe
  rw [r 231 (by decide), r 232 (by decide)]
  refine ⟨g1, g2, g3, fun i c hc => ?_⟩
  have hi := (List.getElem?_eq_some_iff.mp hc).1
  rw [← g4 i c hc, KI_p (by omega), KI_p (by omega), t _ (by omega)]
theorem PGr_x (r : ∀ q, q < 264 → s'.2.1 q = s.2.1 q) (t : ∀ j : Nat, (j : Int) < A → s'.2.1 264 j = s.2.1 264 j) (h75 : s'.1 75 = s.1 75) (g : PGr ar kd cf fs F' H' nT tm tn hd hb ow hw Bf bI A s) : PGr ar kd cf fs F' H' nT tm tn hd hb ow hw Bf bI A s' := by
  obtain ⟨g1, g2, g3, g4, g5, g6, g7⟩ := g
  refine ⟨by rw [h75]; exact g1, fun c hc0 hc1 => ?_, ?_, fun c hc => ?_, fun q hq => ?_, fun i c hc => ?_, g7⟩
  · obtain ⟨k1, k2, k3, k4, k5⟩ := g2 c hc0 hc1
    rw [r 235 (by decide), r 236 (by decide), r 238 (by decide)]
    exact ⟨k1, k2, k3, k4, fun k hk => RSe_x r t (k5 k hk)⟩
  · unfold PGf at g3 ⊢
    rw [r 252 (by decide), r 261 (by decide), r 257 (by decide)]
    exact g3
  · obtain ⟨k1, k2, k3, k4⟩ := g4 c hc
    rw [r 242 (by decide), r 243 (by decide)]
    exact ⟨k1, k2, k3, k4⟩
  · obtain ⟨k1, k2, k3, k4⟩ := g5 q hq
    obtain ⟨m1, m2, m3, m4, m5, m6⟩ := k1
    refine ⟨⟨?_, m2, m3, fun k hk => ?_, fun k hk => ?_, ?_⟩, k2, k3, fun q' hq' => ?_⟩
    · rw [r 245 (by decide), r 248 (by decide)]
      exact m1
    · rw [r 247 (by decide)]
      exact RSe_x r t (m4 k hk)
    · rw [r 250 (by decide)]
      exact RSe_x r t (m5 k hk)
    · rw [r 251 (by decide)]
      exact RSe_x r t m6
    · have := k4 q' hq'
      unfold wHr at this ⊢
      rw [r 217 (by decide), r 244 (by decide)]
      exact this
  · have hi : i < 6 := (List.getElem?_eq_some_iff.mp hc).1
    have e := g6 i c hc
    rw [KI_p (by omega)] at e ⊢
    rw [t _ (by omega)]
    exact e
theorem TBr_x (r : ∀ q, q < 264 → s'.2.1 q = s.2.1 q) (t : ∀ j : Nat, j < 13000 → s'.2.1 264 j = s.2.1 264 j) (h75 : s'.1 75 = s.1 75) (h : TBr K L W ar kd TN Ls n b s) : TBr K L W ar kd TN Ls n b s' := by
  obtain ⟨A, h1, h2, h3, h4, h5⟩ := h
  refine ⟨A, h1, PGr_x r (fun j hj => t j (by omega)) h75 h2, by rw [r 216 (by decide)]; exact h3, fun q0 hq h hh => ?_, by rw [r 239 (by decide)]; exact h5⟩
  have := h4 q0 hq h hh
  unfold wHr at this ⊢
  rw [r 217 (by decide), r 244 (by decide)]
  exact this
theorem TBr_rx (h : RX ks E1 pl Vn vt s s') (hv : 13000 ≤ vt ∧ vt ≤ 20000) (h75 : 75 ∉ ks) (g : TBr K L W ar kd TN Ls n b s) : TBr K L W ar kd TN Ls n b s' := TBr_x (fun q hq => RX_lo h hq) (fun j hj => RX_ty h (by omega) hv.2) (h.1 75 h75) g
end ZUD
section ZUE
variable {K L W ar kd : Int → Int} {TN Ls : List Int} {nI : Int} {own : Nat → Nat × Nat} {b n W' N T F H S0 : Nat} {G : PG} {S O E pl c Vn vt Lc : Nat} {s s' : yS} {fo : Option Nat} {fr ev b0 b1 : Nat} {As Bs : List (List Nat)} {fc : Int → Int → Option (Nat × List Ins)} {cl fa β0 β1 A0 A1 a : Int} {C : List Ins} {st : List Itm} {bs : Nat} {Ev : Env} {frs : List Frm} {vs : Vls} {S' : Scp}
/-- what a node was resolved to, as elements -/
theorem wT_en {sc : Nat → Prop} {y : Nat} {Ly : List Nat} {D : List Int} {Z : Int} (hT : wT G b sc S s y Ly) (hD : RSe s Z (y : Int) (D.map (rhE ar β0 β1))) : Ly = enN ar β0 β1 D := by
  obtain ⟨p, l, ⟨-, n2, n3, -, -⟩, -, -, n6, -⟩ := hT
  obtain ⟨-, -, d3, d4⟩ := hD
  rw [Int.toNat_natCast] at d3 d4
  rw [n2] at d4
  rw [n3] at d3
  have hl : l = (D.map (rhE ar β0 β1)).length := by omega
  rw [← n6, hl]
  exact seg_of d4
/-- what is put is a TYPE without PARAMS -/
theorem TGo_pt {nT l : Int} {D : List Int} (h24 : ∀ c, 24 ≤ c → ar c = 0) (hE : enK ar nT Ev) (hD : TGo ar nT (Ev.1.length : Int) (Ev.2.length : Int) D) (h : (ptT Ev D l).1 = 5) : TGo ar nT 0 0 (ptT Ev D l).2.1 := by
  have hp := enK_p hE hD.2.2
  unfold ptT at h ⊢
  by_cases c1 : ∀ c ∈ D, c < 24
  · rw [if_pos c1]
    refine ⟨hD.1, hD.2.1, fun c hc => ?_⟩
    have := c1 c hc
    exact ⟨(hD.2.2 c hc).1, by omega, fun w => by omega, fun w => by omega⟩
  · rw [if_neg c1] at h ⊢
    by_cases c2 : 60 < (sbs (eta Ev.1 Ev.2) D).length
    · rw [if_pos c2] at h
      exact absurd (show (4 : Int) = 5 from h) (by decide)
    · rw [if_neg c2] at h ⊢
      by_cases c3 : ((sbs (eta Ev.1 Ev.2) D).length : Int) ≤ l
      · rw [if_pos c3]
        exact ⟨sbs_R D 1 hD.1 (fun c hc w => ⟨h24 c w, (hp c hc w).1⟩), ⟨by show (sbs (eta Ev.1 Ev.2) D).length ≤ 60; omega, sbs_cdT hp hD.2.1.2⟩, sbs_cdW hp hD.2.2⟩
      · rw [if_neg c3] at h
        exact absurd (show (2 : Int) = 5 from h) (by decide)
set_option maxHeartbeats 1000000 in
/-- evalAssert -/
theorem m_243 {d e hi m w0 : Nat} {A0' A : List Nat} {a1 a2 : Int32} (ha : ∀ c, 0 ≤ ar c ∧ ar c ≤ 7) (h24 : ∀ c, 24 ≤ c → ar c = 0) (hTB : TBr K L W ar kd TN Ls nI b s) (hR : RTm own b n W' N T F H S0 G S O E pl c Vn vt Lc s) (hE : E ≤ 280) (hX : RCx G fo E pl Vn vt fr ev b0 As b1 Bs s) (hw : (s.2.1 221 e).toInt = 5) (hP : wP G H b n (scX G fo) S O s (wE G H b n (scX G fo) (tVX G fo) S O s m) hi e A0' A) (he : e < 12006) (h1 : a1.toInt = (e : Int)) (h2 : a2.toInt = (ev : Int)) (h102 : (s.1 102).toInt = (w0 : Int)) (hw0 : w0 < Vn) (hc : cTn K L W ar TN β0 β1 S' A0 A1 s ((e : Int) + 1) (a + 2)) (h229 : (s.2.1 229 e).toInt = (e : Int) + 1) (h223 : (s.2.1 223 e).toInt = 4002 * (b : Int) + a) (haa : 0 ≤ a ∧ a ≤ nI) (hD : TGo ar (TN.length : Int) (Ev.1.length : Int) (Ev.2.length : Int) (wdC K L W ar TN S'.1 S'.2.1 (a + 2))) (hEv : enK ar (TN.length : Int) Ev) (hRl : eRl ar b0 b1 β0 β1 As Bs Ev) (hV : vRl ar (TN.length : Int) G s vs) (hVn : vs.length = Vn) (hcl : (s.1 93).toInt = cl) (hst : st.length + 1 ≤ 3900) (hl0 : 0 ≤ lft s) : Tot (d + 6) 243 [.ref 213, .int a1, .int a2] s (SmQ ar fc (mvC K L W ar kd TN Ls) (TN.length : Int) G (5, (6, wdC K L W ar TN S'.1 S'.2.1 (a + 2), L a, [], 0) :: C, st ++ [.inr w0], bs, Ev, frs, vs, lft s, cl, fa) C st bs Ev frs vs (lft s) fa 0 1 s) := by
  have hv := RT_vt hR
  obtain ⟨r1, r2, r3, r4, r5, r6, r7, r8, r9, r10, r11, r12, r13, r14, r15, r16, r17, r18, r19⟩ := id hR
  obtain ⟨x1, x2, x3, x4⟩ := id hX
  have hG := r1.2.2.2.2.2.2.2.2.1
  have hT := hG.1.1
  obtain ⟨y, y1, y2, y3, y4, y5, y6⟩ : ∃ y : Nat, (s.2.1 229 e).toInt = (y : Int) ∧ e < y ∧ y < hi ∧ wT G b (scX G fo) S s y A ∧ 4002 * (b : Int) ≤ (s.2.1 223 e).toInt ∧ (s.2.1 223 e).toInt < 4002 * (b : Int) + n := by
    rcases hP with ⟨q, -⟩ | ⟨-, h⟩ | ⟨q, -⟩
    · omega
    · exact h
    · omega
  have okA : okE G (scX G fo) A := by
    obtain ⟨p, l, -, -, -, -, k, -⟩ := y4
    exact k
  obtain ⟨D, hDe⟩ : ∃ D, D = wdC K L W ar TN S'.1 S'.2.1 (a + 2) := ⟨_, rfl⟩
  have hAD : A = enN ar β0 β1 D := by
    have hc1 := hc.1
    rw [← hDe, show (e : Int) + 1 = (y : Int) by omega] at hc1
    exact wT_en y4 hc1
  rw [← hDe] at hD ⊢
  obtain ⟨pe1, pe2⟩ := put_enN ha hEv hRl hD
  rw [← hAD] at pe1 pe2
  obtain ⟨τ, hτ⟩ : ∃ τ, τ = envS b0 As b1 Bs := ⟨_, rfl⟩
  obtain ⟨oA, kA⟩ := wEnv_ok hT x3 okA
  obtain ⟨⟨AW, ps⟩, hvw⟩ : ∃ p, vs[w0]? = some p := ⟨_, List.getElem?_eq_getElem (by omega)⟩
  obtain ⟨t1, t2, -, -⟩ := hV w0 AW ps hvw
  have e1 : a1.toInt.toNat = e := by omega
  refine t_243 ?_
  unfold w_243_0
  rw [e1]
  refine ⟨by omega, ?_⟩
  refine Tot.imp (Tot.mono (by omega) (s_239 (d := 0) hR (by omega) y4 y1 h2 x1 x2 x3)) ?_
  rintro v t ⟨r, rfl, tX, vt1, L1, R1, g1, g2, g3, g4, g5⟩
  rw [← hτ] at kA g4 g5 pe1
  have eN : (subs τ A).length = (sbs (eta Ev.1 Ev.2) D).length := by rw [pe1, enN_len]
  have t96 : t.1 96 = s.1 96 := tX.1 96 (by decide)
  have g5' := g5
  rw [hAD] at g5'
  obtain ⟨l1, l2, l3, l4, l5⟩ := pt_link (E := Ev) (β0 := β0) (β1 := β1) (l := lft s) (by rw [← hAD]; exact pe2) (by rw [← hAD]; exact eN) g5' t96 rfl hl0
  have hv1 := RT_vt R1
  have VRt : vRl ar (TN.length : Int) G t vs := vRl_rx tX r17 (by omega) hVn hV
  obtain ⟨q1, q2, q3, q4, q5, q6, q7, q8, q9, q10, q11, q12, q13, q14, q15, q16, q17, q18, q19⟩ := id R1
  have hpl := ptT_l (E := Ev) (A := D) hl0
  have st1 : ((st ++ [.inr w0] : List Itm)).length ≤ 3900 := by rw [List.length_append]; exact hst
  refine ⟨r, rfl, fun hle => ?_, fun hgt => ?_⟩
  · have hr0 : r.toInt = 0 := by omega
    rw [if_pos hr0] at l3
    have l5 := l5 hr0
    obtain ⟨p, p1, p2, p3, p4, p5⟩ := g4 hr0
    rintro s4 rfl
    obtain ⟨pv, lv, xv, Av, v1, v2, v3, v4, v5, v6, v7, v8, -⟩ := q17 w0 hw0
    rw [show (s.1 102).toInt.toNat = w0 by omega]
    have R4 : RTm own b n W' N T F H S0 G S O E pl c Vn vt1 L1 (sf t 64 100000) := RT_rx R1 (RX_sf (k := 64) (v := 100000) (RX_rf (ks := [64]) (E := E) (pl := pl) (Vn := Vn) (vt := vt1) q1.2.2.2.2.1 q1.2.2.2.2.2.1) (by decide)) (by decide) q4 q5 q6 q7 q8 q9 q11 q12 q13 (Nat.le_refl _) (Nat.le_refl _) q16 q19
    obtain ⟨d1, d2, d3, d4, d5, d6, d7, d8, d9, d10⟩ := id R4.1
    obtain ⟨rH, rD, rF⟩ := RSx_of (fun q i hv => SYo_SY (d2 q i hv))
    have gT' : gT G = T := by rw [← d8]; exact (pgA d1).1
    obtain ⟨z, Zs, cz⟩ := cutT_ex kA.1
    have hz6 : Zs.length ≤ 6 ∧ z / 8 < T := by
      rw [cz.2.2]
      rcases (okE_cut cz kA).1 with w | w
      · have := (d9.2.1 _ w.1).1
        omega
      · exact absurd w.2.2 id
    have sg1 : seg (sf t 64 100000) pv lv = seg t pv lv := seg_2 (s := t) rfl
    have sg2 : seg (sf t 64 100000) p (subs τ A).length = subs τ A := Eq.trans (seg_2 (s := t) rfl) p5
    have eVT : VT t w0 = seg t pv lv := by unfold VT; rw [show (t.2.1 275 w0).toInt.toNat = pv by omega, show (t.2.1 276 w0).toInt.toNat = lv by omega]
    -- the same, by codes
    obtain ⟨B, hB⟩ : ∃ B, B = (ptT Ev D (lft s)).2.1 := ⟨_, rfl⟩
    have eB : subs τ A = enN ar 0 0 B := by rw [pe1, hB, l5]
    have tg := TGo_pt (l := lft s) h24 hEv hD l3
    rw [← hB] at tg
    have TBs : TBr K L W ar kd TN Ls nI b (sf t 64 100000) := TBr_x (s := t) (fun _ _ => rfl) (fun _ _ => rfl) rfl (TBr_rx tX (by omega) (by decide) hTB)
    obtain ⟨AA, AA1, AA2, AA3, -, -⟩ := TBs
    obtain ⟨-, t2', -, -⟩ := VRt w0 AW ps hvw
    have nnE : ∀ {Q : List Int}, cdW 0 0 Q → ∀ x ∈ Q.map (rhE ar 1000 2000), 0 ≤ x := fun hQ => enN_nn ha ⟨by decide, by decide⟩ (fun c hc => (cd_cl hQ c hc).1)
    have lvA : lv = (AW.map (rhE ar 1000 2000)).length := by
      have := congrArg List.length (eVT.symm.trans t2')
      rw [seg_len, enN_len] at this
      rw [List.length_map]
      exact this
    have rwA : RWel (sf t 64 100000) (pv : Int) (AW.map (rhE ar 1000 2000)) := by
      refine RWel_of d5 (nnE t1.2.2) ?_
      rw [← lvA, sg1, ← eVT, t2']
      exact enN_0 (fun c hc => (cd_cl t1.2.2 c hc).2)
    have lpB : (subs τ A).length = (B.map (rhE ar 1000 2000)).length := by rw [eB, enN_len, List.length_map]
    have rwB : RWel (sf t 64 100000) (p : Int) (B.map (rhE ar 1000 2000)) := by
      refine RWel_of d5 (nnE tg.2.2) ?_
      rw [← lpB, sg2, eB]
      exact enN_0 (fun c hc => (cd_cl tg.2.2 c hc).2)
    obtain ⟨ca, AW', eAW⟩ : ∃ ca AW', AW = ca :: AW' := by
      cases hq : AW with
      | nil =>
        rw [hq] at t1
        exact absurd rfl (isR_ne t1.1)
      | cons a l => exact ⟨a, l, rfl⟩
    obtain ⟨cb, B', eB'⟩ : ∃ cb B', B = cb :: B' := by
      cases hq : B with
      | nil =>
        rw [hq] at tg
        exact absurd rfl (isR_ne tg.1)
      | cons a l => exact ⟨a, l, rfl⟩
    have h64 : ((sf t 64 100000).1 64).toInt = 100000 := by show (100000 : Int32).toInt = _; decide
    rw [List.length_map] at lvA lpB
    have v1' : ((sf t 64 100000).2.1 275 w0).toInt = (pv : Int) := v1
    have v2' : ((sf t 64 100000).2.1 276 w0).toInt = (lv : Int) := v2
    have p1' : ((sf t 64 100000).1 107).toInt = (p : Int) := p1
    have p2' : ((sf t 64 100000).1 108).toInt = ((subs τ A).length : Int) := p2
    refine ⟨by omega, by omega, ?_⟩
    refine Tot.imp (Tot_par (d' := d + 5) (s_195 (e := 0) (P := 100000) (E := E) (p := pv) (l := lv) (t := p) (m := (subs τ A).length) (x := z) (As := Zs) d1 rH rD rF d3 d4 d5 d6 d7 h64 (by omega) (by omega) q4 (by omega) v1 v2 p1 p2 (by omega) (by omega) (by rw [d8, sg1]; exact ok_Sub d9 gT' scC_0 v6) (by rw [sg2]; exact cz) hz6.1 (Or.inl hz6.2)) (by omega) (x_195 (T := 100000) (e := E) (ca := ca) (A' := AW') (cb := cb) (B' := B') (β0 := 1000) (β1 := 2000) (nX := 0) (nY := 0) (bn := fun _ => []) AA2 ⟨by unfold bOK; omega, Or.inl rfl, Or.inl rfl⟩ h64 (by omega) q4 (by rw [← eAW, v1']; exact ⟨by omega, rwA, t1.1, t1.2.1, t1.2.2⟩) (by rw [← eAW, v2']; omega) (by rw [← eB', p1']; exact ⟨by omega, rwB, tg.1, tg.2.1, tg.2.2⟩) (by rw [← eB', p2']; omega))) ?_
    rintro v u ⟨⟨hWF, x7, rfl, z0, z2, -⟩, -, -, x7', ex7, hx7⟩
    have ex7' : x7 = x7' := by
      have := Option.some.inj ex7
      injection this
    subst ex7'
    have hown : ownT (fun _ => []) (ca :: AW') = ca :: AW' := by
      have := (cd_cl t1.2.2 ca (by rw [eAW]; exact List.mem_cons_self)).2
      exact if_pos this
    rw [hown, ← eAW, ← eB'] at hx7
    have hmv : x7.toInt = cvA (mvC K L W ar kd TN Ls AW B) := hx7
    have hmb : mvC K L W ar kd TN Ls AW B = 0 ∨ mvC K L W ar kd TN Ls AW B = 7 ∨ mvC K L W ar kd TN Ls AW B = 9 := mtV_b
    obtain ⟨cv1, cv0⟩ := cvA_0 hmb
    have uX1 : RX rK E pl Vn vt1 t u := RX_tr (RX_sf (k := 64) (v := 100000) (RX_rf (ks := rK) (E := E) (pl := pl) (Vn := Vn) (vt := vt1) q1.2.2.2.2.1 q1.2.2.2.2.2.1) (by decide)) (RX_xf (pl := pl) (Vn := Vn) (vt := vt1) (show XF [71, 72, 73, 74] 100000 E (sf t 64 100000) u from hWF)) (by decide) (Nat.le_refl _) (Nat.le_refl _) (Nat.le_refl _) (Nat.le_refl _)
    have uk : ∀ k, k ∉ [64, 71, 72, 73, 74] → u.1 k = t.1 k := fun k hk => by
      rw [hWF.1 k (fun w => hk (by clear hk; revert k; decide)), sf_1, if_neg (fun w => hk (by rw [w]; decide))]
    have Ru : RTm own b n W' N T F H S0 G S O E pl c Vn vt1 L1 u := RT_rx R1 uX1 (by decide) (by rw [uk 70 (by decide)]; exact q4) (by rw [uk 105 (by decide)]; exact q5) (by rw [uk 106 (by decide)]; exact q6) (by rw [uk 98 (by decide)]; exact q7) (by rw [uk 97 (by decide)]; exact q8) (by rw [uk 95 (by decide)]; exact q9) (by rw [uk 96 (by decide)]; exact q11) (by rw [uk 94 (by decide)]; exact q12) (by rw [uk 93 (by decide)]; exact q13) (Nat.le_refl _) (Nat.le_refl _) q16 q19
    have VRu : vRl ar (TN.length : Int) G u vs := vRl_rx uX1 q17 (by omega) hVn VRt
    have elu : lft u = lft t := by
      unfold lft
      rw [uk 96 (by decide), uk 95 (by decide), uk 94 (by decide)]
    have u93 : (u.1 93).toInt = cl := by rw [uk 93 (by decide), tX.1 93 (by decide)]; exact hcl
    have u98 : (u.1 98).toInt = (vs.length : Int) := by rw [uk 98 (by decide), hVn]; exact q7
    have u92 : u.1 92 = s.1 92 := by rw [uk 92 (by decide)]; exact tX.1 92 (by decide)
    have u96 : kp6 s u := kp6_e (fun k w => by rcases w with rfl | rfl | rfl <;> exact uk _ (by decide)) (kp6_p g5' t96)
    refine ⟨x7, rfl, fun h72 => ?_, fun h72 => ?_⟩
    · have n9 : ¬ mvC K L W ar kd TN Ls AW B = 9 := fun q => h72 (by rw [hmv, q]; decide)
      refine Tot.imp (Tot.mono (by omega) (r_237 (d := 0) Ru)) ?_
      rintro v f ⟨x10, rfl, fX, f2, L2, Rf, hL2, -, hr⟩
      have f96 : f.1 96 = u.1 96 := fX.1 96 (by decide)
      refine ⟨x10, rfl, ?_⟩
      rintro s11 rfl
      have k11 : ∀ j, ¬ j = 102 → (sf f 102 (s.1 102)).1 j = f.1 j := fun j hj => by rw [sf_1, if_neg hj]
      have fk : ∀ j, ¬ j = 102 → j ∉ [94, 95] → (sf f 102 (s.1 102)).1 j = u.1 j := fun j hj hj2 => by rw [k11 j hj]; exact fX.1 j hj2
      have el11 : lft (sf f 102 (s.1 102)) = lft f := by
        unfold lft
        rw [k11 96 (by decide), k11 95 (by decide), k11 94 (by decide)]
      have V11 : vRl ar (TN.length : Int) G (sf f 102 (s.1 102)) vs := vRl_2 (s := u) f2 VRu
      unfold w_243_60
      refine ⟨fun h10 => ?_, fun h10 => ⟨fun h7 => ?_, fun h7 => ⟨by omega, ?_⟩⟩⟩
      · rcases hr with ⟨g, -⟩ | ⟨gr, gl, gu⟩
        · exact absurd g h10
        · have el := lft_u gu f96
          refine ⟨x10, vs, cl, 1, rfl, ⟨⟨[], by rw [List.append_nil]⟩, V11, by rw [fk 98 (by decide) (by decide)]; exact u98⟩, ⟨by omega, by omega, by rw [fk 93 (by decide) (by decide)]; exact u93, kp6_e (fun k w => by rcases w with rfl | rfl | rfl <;> exact k11 _ (by decide)) (kp6_tr u96 (kp6_u gu f96))⟩, fun _ => by rw [fk 92 (by decide) (by decide)]; exact u92, Or.inr ⟨h10, (2, C, st ++ [.inr w0], bs, Ev, frs, vs, 0, cl, fa), ?_, by rw [gr], by omega, by show (0 : Int) = _; omega, rfl, fun w => by omega, by show ((1 : Nat) : Int) ≤ _; omega⟩⟩
          refine PSn_1 ⟨rfl, st1, Or.inr (Or.inr (Or.inr (Or.inr (Or.inr (Or.inl ⟨rfl, st, w0, AW, ps, rfl, hvw, Or.inr (Or.inr (Or.inl ⟨l3, ?_, ?_, rfl⟩))⟩)))))⟩
          · rw [← hB]; exact n9
          · rw [← l1]; omega
      · rcases hr with ⟨gr, gl, gu⟩ | ⟨g, -⟩
        · have el := lft_u gu f96
          have n7 : ¬ mvC K L W ar kd TN Ls AW B = 7 := fun q => h7 (by rw [hmv, q]; decide)
          refine ⟨x10, vs, cl, 1, rfl, ⟨⟨[], by rw [List.append_nil]⟩, V11, by rw [fk 98 (by decide) (by decide)]; exact u98⟩, ⟨by omega, by omega, by rw [fk 93 (by decide) (by decide)]; exact u93, kp6_e (fun k w => by rcases w with rfl | rfl | rfl <;> exact k11 _ (by decide)) (kp6_tr u96 (kp6_u gu f96))⟩, fun _ => by rw [fk 92 (by decide) (by decide)]; exact u92, Or.inl ⟨h10, w0, h102, by omega, by show ((1 : Nat) : Int) ≤ _; omega, ?_⟩⟩
          refine PSn_1 ⟨rfl, st1, Or.inr (Or.inr (Or.inr (Or.inr (Or.inr (Or.inl ⟨rfl, st, w0, AW, ps, rfl, hvw, Or.inr (Or.inr (Or.inr (Or.inl ⟨l3, ?_, ?_, ?_, ?_⟩)))⟩)))))⟩
          · rw [← hB]; exact n9
          · rw [← l1]; omega
          · rw [← hB]; exact n7
          · rw [← l1, el11, el, elu]
        · exact absurd h10 (by omega)
      · rcases hr with ⟨gr, gl, gu⟩ | ⟨g, -⟩
        · have el := lft_u gu f96
          have r23 : (sf f 102 (s.1 102)).2.1 223 e = s.2.1 223 e := by
            show f.2.1 223 e = _
            rw [f2, RX_lo uX1 (by decide), RX_lo tX (by decide)]
          rw [r23]
          have hn := r2.2.1
          have hb3 := r2.1
          refine ⟨by omega, ?_⟩
          rintro s12 rfl
          have k12 : ∀ j, ¬ j = 102 → ¬ j = 92 → j ∉ [94, 95] → (sf (sf f 102 (s.1 102)) 92 ((sf f 102 (s.1 102)).2.1 216 (s.2.1 223 e).toInt.toNat)).1 j = u.1 j := fun j hj hj2 hj3 => by rw [sf_1, if_neg hj2]; exact fk j hj hj3
          have el12 : lft (sf (sf f 102 (s.1 102)) 92 ((sf f 102 (s.1 102)).2.1 216 (s.2.1 223 e).toInt.toNat)) = lft f := by
            have kk : ∀ j, ¬ j = 102 → ¬ j = 92 → (sf (sf f 102 (s.1 102)) 92 ((sf f 102 (s.1 102)).2.1 216 (s.2.1 223 e).toInt.toNat)).1 j = f.1 j := fun j hj hj2 => by rw [sf_1, if_neg hj2]; exact k11 j hj
            unfold lft
            rw [kk 96 (by decide) (by decide), kk 95 (by decide) (by decide), kk 94 (by decide) (by decide)]
          have m7 : mvC K L W ar kd TN Ls AW B = 7 := cv0.mp (by rw [← hmv]; exact h7)
          refine ⟨1, vs, cl, 1, rfl, ⟨⟨[], by rw [List.append_nil]⟩, vRl_2 (s := u) f2 VRu, by rw [k12 98 (by decide) (by decide) (by decide)]; exact u98⟩, ⟨by omega, by omega, by rw [k12 93 (by decide) (by decide) (by decide)]; exact u93, kp6_e (fun k w => by rcases w with rfl | rfl | rfl <;> (rw [sf_1, if_neg (by decide)]; exact k11 _ (by decide))) (kp6_tr u96 (kp6_u gu f96))⟩, fun w => absurd (by decide) w, Or.inr ⟨by decide, (1, C, st ++ [.inr w0], bs, Ev, frs, vs, (ptT Ev D (lft s)).2.2 - 1, cl, L a), ?_, by show (1 : Int) = (1 : Int32).toInt; decide, by decide, by show (ptT Ev D (lft s)).2.2 - 1 = _; rw [← l1]; omega, rfl, fun _ => ?_, by show ((1 : Nat) : Int) ≤ _; omega⟩⟩
          · refine PSn_1 ⟨rfl, st1, Or.inr (Or.inr (Or.inr (Or.inr (Or.inr (Or.inl ⟨rfl, st, w0, AW, ps, rfl, hvw, Or.inr (Or.inr (Or.inr (Or.inr ⟨l3, ?_, ?_, rfl⟩)))⟩)))))⟩
            · rw [← l1]; omega
            · rw [← hB]; exact m7
          · show ((sf f 102 (s.1 102)).2.1 216 (s.2.1 223 e).toInt.toNat).toInt = L a
            have : (sf f 102 (s.1 102)).2.1 216 = s.2.1 216 := by
              show f.2.1 216 = _
              rw [f2, RX_lo uX1 (by decide), RX_lo tX (by decide)]
            rw [this, h223]
            obtain ⟨-, -, -, w3, -⟩ := hTB
            exact w3 a haa.1 haa.2
        · exact absurd h10 (by omega)
    · have m9 : mvC K L W ar kd TN Ls AW B = 9 := by
        rcases hmb with q | q | q
        · exact absurd (cv1.mpr q) (by rw [← hmv]; omega)
        · exact absurd (cv0.mpr q) (by rw [← hmv]; omega)
        · exact q
      refine ⟨4, vs, cl, 1, rfl, ⟨⟨[], by rw [List.append_nil]⟩, VRu, u98⟩, ⟨by omega, by omega, u93, u96⟩, fun _ => u92, Or.inr ⟨by decide, (4, C, st ++ [.inr w0], bs, Ev, frs, vs, (ptT Ev D (lft s)).2.2, cl, fa), ?_, by show (4 : Int) = (4 : Int32).toInt; decide, by decide, by show (ptT Ev D (lft s)).2.2 = _; rw [← l1]; exact elu.symm, rfl, fun w => absurd w (by decide), by show ((1 : Nat) : Int) ≤ _; omega⟩⟩
      refine PSn_1 ⟨rfl, st1, Or.inr (Or.inr (Or.inr (Or.inr (Or.inr (Or.inl ⟨rfl, st, w0, AW, ps, rfl, hvw, Or.inr (Or.inl ⟨l3, ?_, rfl⟩)⟩)))))⟩
      rw [← hB]
      exact m9
  · have hr0 : ¬ r.toInt = 0 := by omega
    rw [if_neg hr0] at l3
    refine ⟨r, vs, cl, 1, rfl, ⟨⟨[], by rw [List.append_nil]⟩, VRt, by rw [hVn]; exact q7⟩, ⟨by omega, by omega, by rw [tX.1 93 (by decide)]; exact hcl, kp6_p g5' t96⟩, fun _ => tX.1 92 (by decide), Or.inr ⟨hr0, ((ptT Ev D (lft s)).1, C, st ++ [.inr w0], bs, Ev, frs, vs, (ptT Ev D (lft s)).2.2, cl, fa), ?_, l3, by omega, by show (ptT Ev D (lft s)).2.2 = _; rw [← l1], rfl, fun w => by omega, by show ((1 : Nat) : Int) ≤ _; omega⟩⟩
    exact PSn_1 ⟨rfl, st1, Or.inr (Or.inr (Or.inr (Or.inr (Or.inr (Or.inl ⟨rfl, st, w0, AW, ps, rfl, hvw, Or.inl ⟨by rw [l3]; omega, rfl⟩⟩)))))⟩
end ZUE
