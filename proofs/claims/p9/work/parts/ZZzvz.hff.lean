/-! ===== the reference: instances: a METHOD that is found, and how many TYPES it is told ===== -/
section ZVZ
variable {own : Nat → Nat × Nat} {b n N T F H S0 Fk Hk : Nat} {G : PG} {S O : Nat} {ar kd : Int → Int} {tN Z Ag : Int} {wr hw : Nat → Int} {fx : Int → Int → Int} {Dr : Mit → Prop} {Bd : Prop} {its : List Mit} {s g : yS} {c j R : Nat} {cf hb ow : Nat → Int} {fs : Nat → Nat} {hd : Nat → Nat × Nat × List (List Int)} {tm tn : Int → Nat} {Bf : Int → List (List Int)} {t A : List Int} {w : Int} {Ts : List (List Int)}
theorem i32_ex {x : Int} (h0 : 0 ≤ x) (h1 : x ≤ 1000000) : ∃ v : Int32, v.toInt = x := ⟨Int32.ofInt x, Int32.toInt_ofInt_of_le (by omega) (by omega)⟩
set_option maxHeartbeats 4000000 in
theorem hff (hG : PGr ar kd cf fs Fk Hk tN tm tn hd hb ow hw Bf (b : Int) Ag s) (hAg : Ag ≤ 13000) (hTn : (T : Int) = tN) (hwr : ∀ x, x < Hk → wHr (b : Int) s x = wr x) (hfxe : ∀ c w, fx c w = lFw cf (fun f => hw (fs f)) c w Fk) (gL : IL own b n N T F H S0 G S s R g) (gR : RIl ar tN wr hw Hk fx Dr Bd its g) (hc : its[c]? = some (1, t, w, Ts)) (hj : its[j]? = some (0, A, 0, [])) (hk : kd (A.headD 0) = 1) (hm : mvR ar kd cf fs Fk tm tn hw hd A t = 0) : ∃ kf : Nat, kf < Fk ∧ fx (A.headD 0) w = (kf : Int) ∧ Ts.length = (hd (fs kf)).1 := by
  obtain ⟨gJ, M, gW, g70⟩ := gL
  obtain ⟨c1, c2, c3, c4, c5, c6⟩ := id gW
  obtain ⟨M92, M20⟩ := RW_M c2
  obtain ⟨o1, o2, o3, o4, o5, o6, o7⟩ := id c2
  obtain ⟨d1, d2, d3, d4, d5, d6, d7, d8, d9, d10⟩ := id c1
  obtain ⟨rH, rD, rF⟩ := RSx_of (fun q i hv => SYo_SY (d2 q i hv))
  have gT' : gT G = T := by rw [← d8]; exact (pgA d1).1
  have PGg := IN_PG gJ hAg hG
  obtain ⟨g75, gt, gfn, gi, gh, gq, ha, h24⟩ := id PGg
  have hcl := (List.getElem?_eq_some_iff.mp hc).1
  have hjl := (List.getElem?_eq_some_iff.mp hj).1
  have n112 := gR.1.1
  have hjR : j < R := by omega
  have hcR : c < R := by omega
  -- the rows, in both tellings
  have hs0 : (g.2.1 279 j).toInt = 0 := by
    obtain ⟨E, -, -, -, ⟨⟨v1, -⟩, -⟩⟩ := gR.2.2.1 j _ hj
    exact v1
  have hs1 : (g.2.1 279 c).toInt = 1 := by
    obtain ⟨E, -, -, -, ⟨⟨v1, -⟩, -⟩⟩ := gR.2.2.1 c _ hc
    exact v1
  obtain ⟨A', hA', tA, rA3, rA2, rAw⟩ := it_0 gR hjl hs0
  have eAA : A' = A := by
    rw [hj] at hA'
    exact (congrArg (fun x : Mit => x.2.1) (Option.some.inj hA')).symm
  subst eAA
  obtain ⟨E, r1, r2, r3, ⟨v1, v2, v3, v4⟩, ⟨v5, v6⟩, v7⟩ := gR.2.2.1 c _ hc
  have v4 : E = enI ar (t ++ Ts.flatten) := v4
  have v5 : TGo ar tN 0 0 t := v5
  have v2 : (g.2.1 281 c).toInt = (Ts.length : Int) + 1 := v2
  obtain ⟨g0, g01, g02, g03⟩ : ∃ x, x < Hk ∧ (g.2.1 280 c).toInt = wr x ∧ w = hw x := by
    rcases v7 with ⟨q, -⟩ | ⟨-, q⟩ | ⟨q, -⟩
    · exact absurd (show (1 : Nat) = 0 from q) (by decide)
    · exact q
    · exact absurd (show (1 : Nat) = 2 from q) (by decide)
  obtain ⟨p, l, m, t1, t2, t3, t4, t5, t6, t7⟩ := o7 j hjR
  obtain ⟨pc, lc, mc, u1, u2, u3, u4, u5, u6, u7⟩ := o7 c hcR
  obtain ⟨oV, hl60⟩ := t7.2.2.1 hs0
  obtain ⟨l420, I, Ds, eL, iI, oD, eM, rM⟩ := u7.2.2.2 hs1
  have hγ : (0 : Int) ≤ 1000 ∧ (0 : Int) ≤ 2000 := by decide
  have sA : seg g p l = enN ar 1000 2000 A' := by
    rw [t1] at rAw
    have := seg_of rAw
    rw [enI_len, show A'.length = l by omega] at this
    exact this
  have sC : seg g pc lc = enN ar 1000 2000 t ++ enN ar 1000 2000 Ts.flatten := by
    rw [u1] at r3
    have := seg_of r3
    rw [show E.length = lc by omega, v4] at this
    rw [this]
    exact enG_app
  have clt : ∀ x ∈ t, 0 ≤ x := fun x hx => (cd_cl v5.2.2 x hx).1
  rw [sC] at eL
  have iT : isF 1 (enN ar 1000 2000 t) := isF_enG ha hγ t 1 v5.1 clt
  obtain ⟨eI, eD⟩ := isF_inj iT iI eL
  have lI : I.length = t.length := by rw [← eI, enN_len]
  have sC2 : seg g pc lc = I ++ Ds.flatten := by rw [sC, eL]
  obtain ⟨sI, sD, eLn⟩ := seg_cut sC2
  have vI : ∀ x ∈ I, vE G sc0 x := fun x hx => u7.2.1 x (by rw [sC2]; exact List.mem_append_left _ hx)
  obtain ⟨z, Zs, cz⟩ := cutT_ex iI
  have hz6 : Zs.length ≤ 6 ∧ z / 8 < T := by
    rw [cz.2.2]
    rcases (okE_cut cz ⟨iI, vI⟩).1 with w | w
    · have := (d9.2.1 _ w.1).1
      omega
    · exact absurd w.2.2 id
  -- the heads of the two TYPES
  obtain ⟨ca, lA, eA⟩ : ∃ ca lA, A' = ca :: lA := by
    cases A' with
    | nil => exact absurd (TGo_ne tA) (Nat.lt_irrefl 0)
    | cons ca lA => exact ⟨ca, lA, rfl⟩
  obtain ⟨cb, lB, eB⟩ : ∃ cb lB, t = cb :: lB := by
    cases t with
    | nil => exact absurd (TGo_ne v5) (Nat.lt_irrefl 0)
    | cons cb lB => exact ⟨cb, lB, rfl⟩
  have ehd : A'.headD 0 = ca := by
    rw [eA]
    rfl
  rw [ehd] at hk ⊢
  have hA60 := tA.2.1.1
  have hB60 := v5.2.1.1
  obtain ⟨a4, h4⟩ := i32_ex (x := (t.length : Int)) (by omega) (by omega)
  have wt : RWel g (g.2.1 282 c).toInt (enI ar t) := fun i c' hc' => by
    have hi := (List.getElem?_eq_some_iff.mp hc').1
    refine r3 i c' ?_
    rw [v4, enI_app, List.getElem?_append_left hi]
    exact hc'
  have hSE : SPe ar cf Fk Hk tN hd hb ow Bf 1000 2000 0 0 (fun _ => []) := ⟨by unfold bOK; omega, Or.inl rfl, Or.inl rfl⟩
  have X := x_195 (d := 5) (T := 100000) (e := 1) (ca := ca) (A' := lA) (cb := cb) (B' := lB) (β0 := 1000) (β1 := 2000) (nX := 0) (nY := 0) (bn := fun _ => []) (a1 := g.2.1 282 j) (a2 := g.2.1 283 j) (a3 := g.2.1 282 c) (a4 := a4) PGg hSE c3 (by omega) (by rw [g70]; rfl) (by rw [← eA]; exact ⟨⟨by omega, by omega⟩, rAw, tA.1, tA.2.1, tA.2.2⟩) (by rw [← eA]; exact rA3) (by rw [← eB]; exact ⟨⟨by omega, by omega⟩, wt, v5.1, v5.2.1, v5.2.2⟩) (by rw [← eB]; exact h4)
  obtain ⟨vv, u, ⟨⟨-, x7, hx7, -, -, him⟩, -, -, y7, hy7, hyv⟩, -⟩ := Tot_par (s_195 (e := 0) (P := 100000) (E := 1) (p := p) (l := l) (t := pc) (m := I.length) (x := z) (As := Zs) d1 rH rD rF d3 d4 d5 d6 d7 c3 (by omega) (by omega) (by rw [g70]; rfl) (by omega) t1 t2 u1 (by rw [h4, lI]) (by omega) (by omega) (by rw [d8]; exact ok_Sub d9 gT' scC_0 ⟨oV.1, oV.2.1⟩) (by rw [sI]; exact cz) hz6.1 (Or.inl hz6.2)) (Nat.le_refl 5) X
  have exy : x7 = y7 := by
    rw [hx7] at hy7
    cases hy7
    rfl
  have eown : ownT (fun _ => []) (ca :: lA) = ca :: lA := if_pos (cd_cl tA.2.2 ca (by rw [eA]; exact List.mem_cons_self)).2
  rw [eown, ← eA, ← eB] at hyv
  have hm' : mtV ar kd (rso kd cf fs Fk tm tn hw) hw hd tm tn A' A' t = 0 := hm
  rw [hm'] at hyv
  have him := him (by rw [exy, hyv]; rfl)
  rw [d8, sI] at him
  -- what it meets is a METHOD of its struct
  obtain ⟨v, Vs, cV⟩ := cutT_ex oV.1
  have clA : ∀ x ∈ ca :: lA, 0 ≤ x := fun x hx => by
    rw [← eA] at hx
    exact (cd_cl tA.2.2 x hx).1
  have hRA : isR ar 1 (ca :: lA) := by
    rw [← eA]
    exact tA.1
  have cV2 := cV
  rw [sA, eA] at cV2
  obtain ⟨ev, -⟩ := cut_arG ha hγ hRA clA cV2
  have hca24 := (cd_cl tA.2.2 ca (by rw [eA]; exact List.mem_cons_self)).2
  obtain ⟨q1, q2, q3⟩ := rhE_nat (γ0 := 1000) (γ1 := 2000) ha hγ (clA ca List.mem_cons_self)
  have ev8 : ((v / 8 : Nat) : Int) = ca := by
    rw [ev, q2]
    unfold rhC
    rw [if_pos hca24]
  have hcaT : ca < tN := tA.2.1.2 ca (by rw [eA]; exact List.mem_cons_self) hca24
  have hvT : v / 8 < T := by omega
  obtain ⟨y1, y2, -⟩ := gt_en PGg c1 (c := v / 8) hvT (by omega)
  rw [ev8] at y1 y2
  have hst : ¬ gst G (v / 8) = 0 := fun q => by
    have := y2.mp q
    omega
  have vst : vSt G (seg g p l) := ⟨⟨oV.1, oV.2.1⟩, v, Vs, cV, by omega, hst⟩
  obtain ⟨kf, gg, f1, f2, f3, f4, f5, -⟩ := rM (seg g p l) v Vs vst cV (oV.2.2 0 (seg g p l) [] (by rw [List.append_nil]; rfl) oV.1 v Vs cV (by omega)) him
  have gF' : gF G = F := by rw [← d8]; exact (pgA d1).2.1
  obtain ⟨z1, z2, z3, z4, z5, z6, z7, z8, z9, z10⟩ := gu_en PGg c1 (f := kf) (by omega)
  have lDs : Ds.length = Ts.length := by omega
  have eH := gh_en PGg c1 (h := fs kf) z5 z6
  have key : ∀ f, f < F → (gwd G (gfh G f) = (g.2.1 280 c).toInt ↔ hw (fs f) = w) := fun f hf => by
    obtain ⟨m1, m2, m3, m4, m5, m6, -⟩ := gu_en PGg c1 (f := f) hf
    rw [m3, (gh_en PGg c1 (h := fs f) m5 m6).2.2.2.2.2, g02, g03, ← hwr g0 g01, IN_wr gJ]
    exact (hG.2.2.2.2.1 (fs f) m6).2.2.2 g0 g01
  have ew : (g.2.1 280 c).toInt = (g.2.1 280 c).toInt := rfl
  obtain ⟨-, k, a1, a2, a3, a4', a5, a6⟩ := f4.resolve_right (fun q => hst q.1)
  have ek : k = kf := by omega
  subst ek
  refine ⟨k, z1, ?_, ?_⟩
  · rw [hfxe]
    refine lFw_is (by omega) ?_ _ z1 (fun k' b1 b2 => ?_)
    · exact (key k (by omega)).mp a3
    · rintro ⟨e1, e2⟩
      obtain ⟨m1, m2, m3, m4, -⟩ := gu_en PGg c1 (f := k') (by omega)
      exact a6 k' (by omega) b1 ⟨by omega, (key k' (by omega)).mpr e2⟩
  · rw [← lDs, f5, f2, z3, eH.2.1]
end ZVZ
