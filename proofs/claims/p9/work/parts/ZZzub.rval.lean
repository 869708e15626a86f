/-! ===== the reference's run beside the pure machine: values, ends; a FIELD ===== -/
theorem Tot_and {d i : Nat} {vs : List Value} {s : yS} {P Q : Option Value → yS → Prop} (h : Tot d i vs s P) (g : Tot d i vs s Q) : Tot d i vs s (fun v s' => P v s' ∧ Q v s') := by
  obtain ⟨v, s', h1, h0, h2⟩ := h
  obtain ⟨v2, s2, g1, g0, g2⟩ := g
  have hl : (List.replicate 213 (Sum.inr (0, []) : xE)).length = 213 := List.length_replicate
  have e := Option.some.inj ((h2 _ [] hl).symm.trans (g2 _ [] hl))
  have e1 : v = v2 := congrArg Prod.fst e
  have e2 : yh (List.replicate 213 (Sum.inr (0, []) : xE)) [] s' = yh (List.replicate 213 (Sum.inr (0, []) : xE)) [] s2 := congrArg (fun q => q.2.1) e
  have e3 := yh_one hl e2 h0 g0
  subst e1
  subst e3
  exact ⟨v, s', ⟨h1, g1⟩, h0, h2⟩
/-- values: their TYPES, their parts -/
def vRl (ar : Int → Int) (nT : Int) (G : PG) (s : yS) (vs : Vls) : Prop := ∀ (v : Nat) (A : List Int) (ps : List Nat), vs[v]? = some (A, ps) → TGo ar nT 0 0 A ∧ VT s v = enN ar 0 0 A ∧ (ps.length = gfd G (A.headD 0).toNat ∧ ps.length ≤ 6) ∧ ∀ (k u : Nat), ps[k]? = some u → (s.2.1 277 (6 * v + k)).toInt = (u : Int) ∧ u < v
/-- VARS on the pile, on the stack -/
def vVl (s : yS) (st : List Itm) (bs fr nV pl : Nat) : Prop := fr + nV ≤ pl ∧ ∀ k, k < nV → ∃ v : Nat, (s.2.1 278 (fr + k)).toInt = (v : Int) ∧ st[bs + k]? = some (.inr v)
/-- STEPS of this run and STEPS in all go together -/
def kp6 (s s' : yS) : Prop := s'.1 96 = s.1 96 ∧ (s'.1 95).toInt - (s'.1 94).toInt = (s.1 95).toInt - (s.1 94).toInt
theorem kp6_rf {s : yS} : kp6 s s := ⟨rfl, rfl⟩
theorem kp6_tr {s u f : yS} (h : kp6 s u) (g : kp6 u f) : kp6 s f := ⟨g.1.trans h.1, g.2.trans h.2⟩
theorem kp6_u {s s' : yS} {u : Int} (h : usd u s s') (h6 : s'.1 96 = s.1 96) : kp6 s s' := ⟨h6, by have h1 := h.1; have h2 := h.2; omega⟩
theorem kp6_e {s u f : yS} (hk : ∀ k, k = 94 ∨ k = 95 ∨ k = 96 → f.1 k = u.1 k) (h : kp6 s u) : kp6 s f := by
  unfold kp6 at h ⊢
  rw [hk 96 (by decide), hk 95 (by decide), hk 94 (by decide)]
  exact h
theorem kp6_p {s s' : yS} {Ly : List Nat} {N : Nat} {r : Int} (h : ptQ Ly N r s s') (h6 : s'.1 96 = s.1 96) : kp6 s s' := by
  rcases h with ⟨-, -, h⟩ | ⟨-, ⟨-, -, h⟩ | ⟨-, -, -, h⟩ | ⟨-, -, -, h⟩⟩
  · exact kp6_u h h6
  · exact kp6_u h h6
  · exact kp6_u h h6
  · exact kp6_u h h6
/-- how a run from X goes on: behind C with a value more on st, or to its end -/
def SmQ (ar : Int → Int) (fc : Int → Int → Option (Nat × List Ins)) (mv : List Int → List Int → Int) (nT : Int) (G : PG) (X : PMs) (C : List Ins) (st : List Itm) (bs : Nat) (Ev : Env) (frs : List Frm) (vs : Vls) (l fa q Bf : Int) (s : yS) (v : Option Value) (s' : yS) : Prop := ∃ (r : Int32) (vs' : Vls) (cl' : Int) (N : Nat), v = some (.int r) ∧ ((∃ ws, vs' = vs ++ ws) ∧ vRl ar nT G s' vs' ∧ (s'.1 98).toInt = (vs'.length : Int)) ∧ (0 ≤ lft s' ∧ lft s' ≤ l ∧ (s'.1 93).toInt = cl' ∧ kp6 s s') ∧ (¬ r.toInt = 1 → s'.1 92 = s.1 92) ∧ ((r.toInt = 0 ∧ ∃ w : Nat, (s'.1 102).toInt = (w : Int) ∧ w < vs'.length ∧ (N : Int) ≤ 10 * (l - lft s') + q ∧ PSn ar fc mv N X (5, C, st ++ [.inr w], bs, Ev, frs, vs', lft s', cl', fa)) ∨ (¬ r.toInt = 0 ∧ ∃ Y : PMs, PSn ar fc mv N X Y ∧ Y.1 = r.toInt ∧ ¬ r.toInt = 5 ∧ Y.2.2.2.2.2.2.2.1 = lft s' ∧ Y.2.2.2.2.2.2.2.2.1 = cl' ∧ (r.toInt = 1 → (s'.1 92).toInt = Y.2.2.2.2.2.2.2.2.2) ∧ (N : Int) ≤ 10 * (l - lft s') + Bf))
section ZUB
variable {ar : Int → Int} {fc : Int → Int → Option (Nat × List Ins)} {mv : List Int → List Int → Int} {nT : Int} {G : PG} {X Xm : PMs} {C : List Ins} {st : List Itm} {bs : Nat} {Ev : Env} {frs : List Frm} {vs vs1 : Vls} {l l1 fa q q0 Bf : Int} {s s1 s' u : yS} {v : Option Value}
/-- steps ahead -/
theorem SmQ_pre {N0 : Nat} (h0 : PSn ar fc mv N0 X Xm) (hN : (N0 : Int) ≤ 10 * (l - l1) + q0) (hl : l1 ≤ l) (hv : ∃ ws, vs1 = vs ++ ws) (h92 : s1.1 92 = s.1 92) (h96 : kp6 s s1) (h : SmQ ar fc mv nT G Xm C st bs Ev frs vs1 l1 fa q Bf s1 v s') : SmQ ar fc mv nT G X C st bs Ev frs vs l fa (q + q0) (Bf + q0) s v s' := by
  obtain ⟨r, vs', cl', N, h1, ⟨⟨ws, h2⟩, h3, h4⟩, ⟨h5, h6, h7, h7'⟩, h8, h9⟩ := h
  obtain ⟨ws0, hv⟩ := hv
  refine ⟨r, vs', cl', N0 + N, h1, ⟨⟨ws0 ++ ws, by rw [h2, hv, List.append_assoc]⟩, h3, h4⟩, ⟨h5, by omega, h7, kp6_tr h96 h7'⟩, fun w => (h8 w).trans h92, ?_⟩
  rcases h9 with ⟨g1, w, g2, g3, g4, g5⟩ | ⟨g1, Y, g2, g3, g4, g5, g6, g7, g8⟩
  · exact Or.inl ⟨g1, w, g2, g3, by omega, PSn_tr _ _ _ _ _ h0 g5⟩
  · exact Or.inr ⟨g1, Y, PSn_tr _ _ _ _ _ h0 g2, g3, g4, g5, g6, g7, by omega⟩
theorem SmQ_mo {q' Bf' : Int} (hq : q ≤ q') (hB : Bf ≤ Bf') (h : SmQ ar fc mv nT G X C st bs Ev frs vs l fa q Bf s v s') : SmQ ar fc mv nT G X C st bs Ev frs vs l fa q' Bf' s v s' := by
  obtain ⟨r, vs', cl', N, h1, h2, h3, h8, h9⟩ := h
  refine ⟨r, vs', cl', N, h1, h2, h3, h8, ?_⟩
  rcases h9 with ⟨g1, w, g2, g3, g4, g5⟩ | ⟨g1, Y, g2, g3, g4, g5, g6, g7, g8⟩
  · exact Or.inl ⟨g1, w, g2, g3, by omega, g5⟩
  · exact Or.inr ⟨g1, Y, g2, g3, g4, g5, g6, g7, by omega⟩
theorem vRl_rx {ks : List Nat} {E pl Vn vt b S : Nat} (hw : RX ks E pl Vn vt s s') (hall : ∀ v, v < Vn → VOK G b S vt s v) (ht : vt ≤ 20000) (hl : vs.length = Vn) (h : vRl ar nT G s vs) : vRl ar nT G s' vs := fun v A ps hv => by
  obtain ⟨h1, h2, ⟨h3, h3'⟩, h4⟩ := h v A ps hv
  have hvl : v < Vn := by rw [← hl]; exact (List.getElem?_eq_some_iff.mp hv).1
  refine ⟨h1, by rw [RX_VT hw hvl (hall v hvl) ht]; exact h2, ⟨h3, h3'⟩, fun k u hk => ?_⟩
  have hk6 := (List.getElem?_eq_some_iff.mp hk).1
  rw [hw.2.1 277 (6 * v + k) (fun w => by omega) (fun w => by omega) (fun w => by omega) (fun w => by omega) (fun w => by omega) (fun w => by omega)]
  exact h4 k u hk
theorem vVl_rx {ks : List Nat} {E pl pl' Vn vt fr nV : Nat} (hw : RX ks E pl' Vn vt s s') (hp : pl ≤ pl') (h : vVl s st bs fr nV pl) : vVl s' st bs fr nV pl := by
  refine ⟨h.1, fun k hk => ?_⟩
  obtain ⟨v, h1, h2⟩ := h.2 k hk
  have := h.1
  refine ⟨v, ?_, h2⟩
  rw [hw.2.1 278 (fr + k) (fun w => by omega) (fun w => by omega) (fun w => by omega) (fun w => by omega) (fun w => by omega) (fun w => by omega)]
  exact h1
theorem vVl_s {fr nV pl : Nat} {st' : List Itm} (h : vVl s st bs fr nV pl) : vVl s (st ++ st') bs fr nV pl := ⟨h.1, fun k hk => by
  obtain ⟨v, h1, h2⟩ := h.2 k hk
  refine ⟨v, h1, ?_⟩
  rw [List.getElem?_append_left (List.getElem?_eq_some_iff.mp h2).1]
  exact h2⟩
/-- the struct of a TYPE -/
theorem hd_enN {A : List Int} {x : Nat} {L : List Nat} (ha : ∀ c, 0 ≤ ar c ∧ ar c ≤ 7) (hA : cdW 0 0 A) (h : enN ar 0 0 A = x :: L) : 0 ≤ A.headD 0 ∧ A.headD 0 < 24 ∧ (A.headD 0).toNat = x / 8 ∧ A.headD 0 = ((x / 8 : Nat) : Int) := by
  cases A with
  | nil => cases h
  | cons c A =>
    have c0 := cd_cl hA c List.mem_cons_self
    have e : (rhE ar 0 0 c).toNat = x := (List.cons.inj h).1
    rw [rhE_0 c0.2] at e
    have := ha c
    show 0 ≤ c ∧ c < 24 ∧ c.toNat = x / 8 ∧ c = ((x / 8 : Nat) : Int)
    omega
end ZUB
section ZUC
variable {own : Nat → Nat × Nat} {b n W' N T F H S0 : Nat} {G : PG} {S O E pl c Vn vt L : Nat} {s s' : yS} {fo : Option Nat} {ar : Int → Int} {fc : Int → Int → Option (Nat × List Ins)} {mv : List Int → List Int → Int} {nT cl fa I : Int} {C : List Ins} {st : List Itm} {bs : Nat} {Ev : Env} {frs : List Frm} {vs : Vls}
/-- spend(1): a state that is the same but for STEPS -/
theorem vRl_2 (h2 : s'.2 = s.2) (h : vRl ar nT G s vs) : vRl ar nT G s' vs := fun v A ps hv => by
  obtain ⟨h1, h3, h4, h5⟩ := h v A ps hv
  refine ⟨h1, ?_, h4, fun k u hk => by rw [h2]; exact h5 k u hk⟩
  rw [← h3]
  unfold VT
  rw [h2]
  exact seg_2 h2
/-- evalField -/
theorem m_242 {d e hi m w0 : Nat} {A0 A AV : List Nat} {AW : List Int} {ps : List Nat} {τ : Nat → Option (List Nat)} {a1 : Int32} (ha : ∀ c, 0 ≤ ar c ∧ ar c ≤ 7) (hR : RTm own b n W' N T F H S0 G S O E pl c Vn vt L s) (hτ : wEnv G (scX G fo) τ) (hA0 : okE G (scX G fo) A0) (hw : (s.2.1 221 e).toInt = 3) (hP : wP G H b n (scX G fo) S O s (wE G H b n (scX G fo) (tVX G fo) S O s m) hi e A0 A) (he : e < 12006) (h1 : a1.toInt = (e : Int)) (h102 : (s.1 102).toInt = (w0 : Int)) (hw0 : w0 < Vn) (hi0 : impl G (VT s w0) (subs τ A0)) (hI : (s.2.1 226 e).toInt = I) (hV : vRl ar nT G s vs) (hVn : vs.length = Vn) (hcl : (s.1 93).toInt = cl) (hst : st.length + 1 ≤ 3900) (hl0 : 0 ≤ lft s) : Tot (d + 2) 242 [.ref 213, .int a1] s (SmQ ar fc mv nT G (5, (4, [], I, [], 0) :: C, st ++ [.inr w0], bs, Ev, frs, vs, lft s, cl, fa) C st bs Ev frs vs (lft s) fa 0 1 s) := by
  have hv := RT_vt hR
  obtain ⟨r1, r2, r3, r4, r5, r6, r7, r8, r9, r10, r11, r12, r13, r14, r15, r16, r17, r18, r19⟩ := id hR
  have hG := r1.2.2.2.2.2.2.2.2.1
  obtain ⟨x, Cs, k, c1, c2, c3, c4, c5, c6⟩ : ∃ (x : Nat) (Cs : List (List Nat)) (k : Nat), cutT A0 x Cs ∧ x / 8 < gT G ∧ ¬ gst G (x / 8) = 0 ∧ (s.2.1 226 e).toInt = (k : Int) ∧ k < gfd G (x / 8) ∧ A = subs (envS (1000 + 6 * (x / 8)) Cs 0 []) (gft G (x / 8) k) := by
    rcases hP with ⟨-, h⟩ | ⟨q, -⟩ | ⟨q, -⟩
    · exact h
    · omega
    · omega
  have e1 : a1.toInt.toNat = e := by omega
  have hT := hG.1.1
  obtain ⟨oA, kA⟩ := wEnv_ok hT hτ hA0
  have hcut := cut_subs c1 oA (hτ.1 _ (by omega))
  have hVT := impl_st hcut c3 hi0
  obtain ⟨⟨AW, ps⟩, hvw⟩ : ∃ p, vs[w0]? = some p := ⟨_, List.getElem?_eq_getElem (by omega)⟩
  obtain ⟨t1, t2, ⟨t3, t3'⟩, t4⟩ := hV w0 AW ps hvw
  rw [hVT, hcut.1] at t2
  obtain ⟨hd1, -, hd3, -⟩ := hd_enN ha t1.2.2 t2.symm
  rw [hd3] at t3
  have hkp : k < ps.length := by omega
  obtain ⟨uu, huu⟩ : ∃ u, ps[k]? = some u := ⟨_, List.getElem?_eq_getElem hkp⟩
  obtain ⟨t5, t6⟩ := t4 k uu huu
  refine t_242 ?_
  unfold w_242_0
  refine Tot.imp (r_237 (d := d) hR) ?_
  rintro v s1 ⟨r, rfl, zX, z2, L', RT1, hL, -, hr⟩
  have e102 : s1.1 102 = s.1 102 := zX.1 102 (by decide)
  have e96 : s1.1 96 = s.1 96 := zX.1 96 (by decide)
  unfold w_242_20
  rw [e1]
  refine ⟨r, rfl, fun hr0 => ?_, fun hr0 => ?_⟩
  · rcases hr with ⟨g1, -⟩ | ⟨g1, g2, g3⟩
    · exact absurd g1 hr0
    · have el := lft_u g3 e96
      refine ⟨r, vs, cl, 1, rfl, ⟨⟨[], by rw [List.append_nil]⟩, vRl_2 z2 hV, by rw [zX.1 98 (by decide), hVn]; exact r7⟩, ⟨by omega, by omega, by rw [zX.1 93 (by decide)]; exact hcl, kp6_u g3 e96⟩, fun _ => zX.1 92 (by decide), Or.inr ⟨hr0, (2, C, st ++ [.inr w0], bs, Ev, frs, vs, 0, cl, fa), ?_, by rw [g1], by omega, by show (0 : Int) = _; omega, rfl, fun w => by omega, by show ((1 : Nat) : Int) ≤ _; omega⟩⟩
      refine PSn_1 ⟨rfl, by rw [List.length_append]; exact hst, Or.inr (Or.inr (Or.inr (Or.inl ⟨rfl, ?_, Or.inl ⟨by omega, rfl⟩⟩)))⟩
      show 0 ≤ I
      omega
  · rcases hr with ⟨g1, g2, g3⟩ | ⟨g1, -⟩
    · have el := lft_u g3 e96
      rw [e102, z2]
      refine ⟨by omega, fun x4 hx4 => ⟨by omega, by omega, fun x5 hx5 => ⟨by omega, ?_⟩⟩⟩
      rintro s6 rfl
      rw [show x5.toInt.toNat = 6 * w0 + k by omega]
      have k6 : ∀ j, ¬ j = 102 → (sf s1 102 (s.2.1 277 (6 * w0 + k))).1 j = s1.1 j := fun j hj => by rw [sf_1, if_neg hj]
      have el6 : lft (sf s1 102 (s.2.1 277 (6 * w0 + k))) = lft s1 := by
        unfold lft
        rw [k6 96 (by decide), k6 95 (by decide), k6 94 (by decide)]
      refine ⟨r, vs, cl, 1, rfl, ⟨⟨[], by rw [List.append_nil]⟩, vRl_2 z2 hV, by rw [k6 98 (by decide), zX.1 98 (by decide), hVn]; exact r7⟩, ⟨by omega, by omega, by rw [k6 93 (by decide), zX.1 93 (by decide)]; exact hcl, kp6_e (fun k w => by rcases w with rfl | rfl | rfl <;> exact k6 _ (by decide)) (kp6_u g3 e96)⟩, fun _ => by rw [k6 92 (by decide)]; exact zX.1 92 (by decide), Or.inl ⟨hr0, uu, by show (s.2.1 277 (6 * w0 + k)).toInt = _; exact t5, by omega, by show ((1 : Nat) : Int) ≤ _; omega, ?_⟩⟩
      refine PSn_1 ⟨rfl, by rw [List.length_append]; exact hst, Or.inr (Or.inr (Or.inr (Or.inl ⟨rfl, by show 0 ≤ I; omega, Or.inr ⟨by omega, st, w0, uu, AW, ps, rfl, hvw, ?_, ?_⟩⟩)))⟩
      · show ps[I.toNat]? = some uu
        rw [show I.toNat = k by omega]
        exact huu
      · rw [el6, el]
    · exact absurd hr0 (by omega)
end ZUC
