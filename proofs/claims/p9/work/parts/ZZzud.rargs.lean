/-! ===== the reference's run beside the pure machine: E in a list ===== -/
section ZUF
variable {s s' : yS}
/-- two tellings of one row of nodes -/
theorem ch_ww {N : Nat} {ww : Nat → Int} (hw : ∀ i, i < N → 0 ≤ ww i ∧ (s.2.1 225 (ww i).toNat).toInt = if i + 1 < N then ww (i + 1) else -1) : ∀ (cs : List Nat) (j : Nat) (x : Int), j ≤ N → x = (if j < N then ww j else -1) → chn s x cs → j + cs.length = N ∧ ∀ (k c : Nat), cs[k]? = some c → (c : Int) = ww (j + k)
  | [], j, x, hj, hx, h => by
    have h : x = -1 := h
    refine ⟨?_, fun k c hc => by cases hc⟩
    by_cases q : j < N
    · rw [if_pos q] at hx
      have := (hw j q).1
      omega
    · show j + 0 = N
      omega
  | c :: cs, j, x, hj, hx, h => by
    obtain ⟨h1, h2⟩ : x = (c : Int) ∧ chn s (s.2.1 225 c).toInt cs := h
    by_cases q : j < N
    · rw [if_pos q] at hx
      have e := (hw j q).2
      rw [show (ww j).toNat = c by omega] at e
      obtain ⟨g1, g2⟩ := ch_ww hw cs (j + 1) _ (by omega) e h2
      refine ⟨by rw [List.length_cons]; omega, fun k c' hc => ?_⟩
      cases k with
      | zero =>
        have : c = c' := Option.some.inj hc
        show (c' : Int) = ww j
        omega
      | succ k =>
        have := g2 k c' hc
        rw [show j + 1 + k = j + (k + 1) by omega] at this
        exact this
    · rw [if_neg q] at hx
      omega
end ZUF
/-- where an E is evaluated, beside the pure machine -/
def SCx (K L W ar kd : Int → Int) (TN Ls : List Int) (nI A0 A1 : Int) (b : Nat) (G : PG) (S' : Scp) (β0 β1 : Int) (b0 b1 : Nat) (As Bs : List (List Nat)) (Ev : Env) (st : List Itm) (bs fr pl : Nat) (frs : List Frm) (vs : Vls) (c Vn : Nat) (s : yS) : Prop := (TBr K L W ar kd TN Ls nI b s ∧ ∀ (i : Nat) (t : Int), Ls[i]? = some t → K t = 6 → ∃ x' y' : Int, 0 ≤ x' ∧ eC K L W ar kd TN Ls (4002 * (b : Int)) (4000 + 6 * (kFn K (Ls.take i) : Int)) (2000 + 6 * (kHd K L (Ls.take i) : Int)) (fnS K L W ar TN Ls i t) A0 A1 s 10 x' y' (f_7 K L false (0, t)).2 (s.2.1 258 (60 * (b : Int) + (kFn K (Ls.take i) : Int)).toNat).toInt) ∧ ((enK ar (TN.length : Int) Ev ∧ eRl ar b0 b1 β0 β1 As Bs Ev) ∧ (Ev.1.length = S'.2.1.length ∧ Ev.2.length = S'.1.length) ∧ S'.1.length ≤ 6 ∧ S'.2.1.length ≤ 6) ∧ (vRl ar (TN.length : Int) G s vs ∧ vs.length = Vn) ∧ (vVl s st bs fr S'.2.2.2.1.length pl ∧ (¬ S'.2.2.2.1 = [] → ¬ frs = []) ∧ frs.length = c) ∧ 0 ≤ lft s
/-- an E at token t, m' levels -/
def ECx (K L W ar kd : Int → Int) (TN Ls : List Int) (nI A0 A1 : Int) (b : Nat) (S' : Scp) (β0 β1 : Int) (m' : Nat) (x' y' t e : Int) (s : yS) : Prop := eC K L W ar kd TN Ls (4002 * (b : Int)) β0 β1 S' A0 A1 s m' x' y' t e ∧ m' ≤ 10 ∧ (p_e K L m' false (0, t)).1 = 0 ∧ (exE6 K L W ar kd TN Ls S' m' t).1 = 0 ∧ 0 ≤ t ∧ nxE K L t ≤ nI
/-- eval, c calls deep, m levels -/
def RSm (K L W ar kd : Int → Int) (TN Ls : List Int) (nI A0 A1 : Int) (own : Nat → Nat × Nat) (b n W' N T F H S0 : Nat) (G : PG) (S O c m d : Nat) : Prop := ∀ (s : yS) (a1 a2 a3 : Int32) (fo : Option Nat) (lo hi e fr ev b0 b1 E pl Vn vt Lc : Nat) (As Bs : List (List Nat)) (A : List Nat) (S' : Scp) (β0 β1 : Int) (m' : Nat) (x' y' t : Int) (Ev : Env) (st : List Itm) (bs : Nat) (frs : List Frm) (vs : Vls) (fa : Int) (C : List Ins), RTm own b n W' N T F H S0 G S O E pl c Vn vt Lc s → RCx G fo E pl Vn vt fr ev b0 As b1 Bs s → (∀ f, fo = some f → f < F) → wE G H b n (scX G fo) (tVX G fo) S O s m lo hi e A → hi ≤ N → N ≤ 12006 → pl + 7 * m + 80 * (40 - c) ≤ 4000 → E ≤ c + 1 → a1.toInt = (e : Int) → a2.toInt = (fr : Int) → a3.toInt = (ev : Int) → SCx K L W ar kd TN Ls nI A0 A1 b G S' β0 β1 b0 b1 As Bs Ev st bs fr pl frs vs c Vn s → ECx K L W ar kd TN Ls nI A0 A1 b S' β0 β1 m' x' y' t (e : Int) s → st.length + 8 * m' ≤ 88 * (c + 1) → Tot d 240 [.ref 213, .int a1, .int a2, .int a3] s (SmQ ar (fcD K L W ar kd TN Ls) (mvC K L W ar kd TN Ls) (TN.length : Int) G (5, ciE K L W ar kd TN Ls S' m' t ++ C, st, bs, Ev, frs, vs, lft s, (s.1 93).toInt, fa) C st bs Ev frs vs (lft s) fa 1 (8 * (m' : Int) + 100 * (41 - (c : Int))) s)
/-- k of the E are evaluated, their values on the pile from bot on -/
def PAs (ar : Int → Int) (fc : Int → Int → Option (Nat × List Ins)) (mv : List Int → List Int → Int) (nT : Int) (G : PG) (XS : PMs) (cd : Int → List Ins) (ts : List Int) (C2 : List Ins) (st2 : List Itm) (bs : Nat) (Ev : Env) (frs : List Frm) (vs : Vls) (l fa q Bf : Int) (bot : Nat) (s0 : yS) (k : Nat) (en : Int) (u : yS) : Prop := ∃ (vs' : Vls) (cl' : Int) (N : Nat), ((∃ ws, vs' = vs ++ ws) ∧ vRl ar nT G u vs' ∧ (u.1 98).toInt = (vs'.length : Int)) ∧ (0 ≤ lft u ∧ lft u ≤ l ∧ (u.1 93).toInt = cl' ∧ kp6 s0 u) ∧ (¬ en = 1 → u.1 92 = s0.1 92) ∧ ((en = 0 ∧ ∃ vals : List Nat, vals.length = k ∧ (∀ (j w : Nat), vals[j]? = some w → (u.2.1 278 (bot + j)).toInt = (w : Int) ∧ w < vs'.length) ∧ (N : Int) ≤ 10 * (l - lft u) + q + (k : Int) ∧ PSn ar fc mv N XS (5, ciP cd (ts.drop k) ++ C2, st2 ++ vals.map .inr, bs, Ev, frs, vs', lft u, cl', fa)) ∨ (¬ en = 0 ∧ ∃ Y : PMs, PSn ar fc mv N XS Y ∧ Y.1 = en ∧ ¬ en = 5 ∧ Y.2.2.2.2.2.2.2.1 = lft u ∧ Y.2.2.2.2.2.2.2.2.1 = cl' ∧ (en = 1 → (u.1 92).toInt = Y.2.2.2.2.2.2.2.2.2) ∧ (N : Int) ≤ 10 * (l - lft u) + q + 6 + Bf))
section ZUG
variable {K L W ar kd : Int → Int} {TN Ls : List Int} {nI A0 A1 : Int} {own : Nat → Nat × Nat} {b n W' N T F H S0 : Nat} {G : PG} {S O E bot c Vn vt Lc : Nat} {s s' u : yS} {fo : Option Nat} {fr ev b0 b1 m lo hi : Nat} {As Bs : List (List Nat)} {fT : Nat → List Nat} {cs : List (Nat × Nat × Nat)} {S' : Scp} {β0 β1 fa q x y t e : Int} {Ev : Env} {st st2 : List Itm} {bs : Nat} {frs : List Frm} {vs : Vls} {C2 : List Ins} {ks : List Nat} {E1 pl : Nat}
theorem eC_rx {m' : Nat} (h : RX ks E1 pl Vn vt s s') (hv : 13000 ≤ vt ∧ vt ≤ 20000) (hA : A1 ≤ 13000) (g : eC K L W ar kd TN Ls (4002 * (b : Int)) β0 β1 S' A0 A1 s m' x y t e) : eC K L W ar kd TN Ls (4002 * (b : Int)) β0 β1 S' A0 A1 s' m' x y t e := eC_c m' ⟨fun q j q1 q2 _ _ => by rw [RX_lo h (by omega)], fun j _ j2 => RX_ty h (by omega) hv.2⟩ (Int.le_refl _) g
theorem ECx_rx {m' : Nat} (h : RX ks E1 pl Vn vt s s') (hv : 13000 ≤ vt ∧ vt ≤ 20000) (hA : A1 ≤ 13000) (g : ECx K L W ar kd TN Ls nI A0 A1 b S' β0 β1 m' x y t e s) : ECx K L W ar kd TN Ls nI A0 A1 b S' β0 β1 m' x y t e s' := ⟨eC_rx h hv hA g.1, g.2⟩
/-- further, with more values, a greater stack -/
theorem SCx_rx {pl' pl2 Vn' : Nat} {vs' : Vls} {st' : List Itm} (h : RX ks E1 pl2 Vn vt s s') (hv : 13000 ≤ vt ∧ vt ≤ 20000) (hA : A1 ≤ 13000) (h75 : 75 ∉ ks) (hp : pl ≤ pl2) (hp' : pl ≤ pl') (hvs : vRl ar (TN.length : Int) G s' vs') (hvn : vs'.length = Vn') (hl : 0 ≤ lft s') (g : SCx K L W ar kd TN Ls nI A0 A1 b G S' β0 β1 b0 b1 As Bs Ev st bs fr pl frs vs c Vn s) : SCx K L W ar kd TN Ls nI A0 A1 b G S' β0 β1 b0 b1 As Bs Ev (st ++ st') bs fr pl' frs vs' c Vn' s' := by
  obtain ⟨⟨g1, g2⟩, g3, g4, ⟨g5, g6, g7⟩, g8⟩ := g
  have g5' := vVl_s (st' := st') (vVl_rx h hp g5)
  refine ⟨⟨TBr_rx h hv h75 g1, fun i t h1 h6 => ?_⟩, g3, ⟨hvs, hvn⟩, ⟨⟨by have := g5'.1; omega, g5'.2⟩, g6, g7⟩, hl⟩
  obtain ⟨x', y', w1, w2⟩ := g2 i t h1 h6
  refine ⟨x', y', w1, ?_⟩
  rw [RX_lo h (q := 258) (by decide)]
  exact eC_rx h hv hA w2
theorem PSt_0 {fc : Int → Int → Option (Nat × List Ins)} {mv : List Int → List Int → Int} {X : PMs} : PSn ar fc mv 0 X X := rfl
/-- one E more -/
theorem PAs_step {d k m' : Nat} {qn : Nat × Nat × Nat} {x5 : Int32} {xx : Int} {a1 a2 a3 : Int32} {XS : PMs} {ts : List Int} {x' y' t l : Int} {s0 : yS} (hA : A1 ≤ 13000) (ih : REH own b n W' N T F H S0 G S O c m d) (ihS : RSm K L W ar kd TN Ls nI A0 A1 own b n W' N T F H S0 G S O c m d) (hR : RTm own b n W' N T F H S0 G S O E bot c Vn vt Lc s) (hX : RCx G fo E bot Vn vt fr ev b0 As b1 Bs s) (hfo : ∀ f, fo = some f → f < F) (hcs : ∀ (k : Nat) (q : Nat × Nat × Nat), cs[k]? = some q → lo ≤ q.1 ∧ q.1 ≤ q.2.2 ∧ q.2.2 < q.2.1 ∧ q.2.1 ≤ hi ∧ ∃ B, wE G H b n (scX G fo) (tVX G fo) S O s m q.1 q.2.1 q.2.2 B ∧ impl G B (fT k)) (h6 : cs.length ≤ 6) (hhi : hi ≤ N) (hN : N ≤ 12006) (hpl : bot + 6 + 7 * m + 80 * (40 - c) ≤ 4000) (hE : E ≤ c + 1) (hI : PAr own b n W' N T F H S0 G S O E bot c Vn vt Lc (envS b0 As b1 Bs) fT cs s k xx 0 u) (hk : cs[k]? = some qn) (h1 : a1.toInt = (qn.2.2 : Int)) (h2 : a2.toInt = (fr : Int)) (h3 : a3.toInt = (ev : Int)) (hSC : SCx K L W ar kd TN Ls nI A0 A1 b G S' β0 β1 b0 b1 As Bs Ev st bs fr bot frs vs c Vn s) (hst2 : ∃ st', st2 = st ++ st') (ht : ts[k]? = some t) (hEC : ECx K L W ar kd TN Ls nI A0 A1 b S' β0 β1 m' x' y' t (qn.2.2 : Int) s) (hh : st2.length + 6 + 8 * m' ≤ 88 * (c + 1)) (hP : PAs ar (fcD K L W ar kd TN Ls) (mvC K L W ar kd TN Ls) (TN.length : Int) G XS (ciE K L W ar kd TN Ls S' m') ts C2 st2 bs Ev frs vs l fa q (8 * (m' : Int) + 100 * (41 - (c : Int))) bot s0 k 0 u) : Tot d 240 [.ref 213, .int a1, .int a2, .int a3] u (fun v u1 => ∃ r : Int32, v = some (.int r) ∧ ∀ x5 : Int32, PAs ar (fcD K L W ar kd TN Ls) (mvC K L W ar kd TN Ls) (TN.length : Int) G XS (ciE K L W ar kd TN Ls S' m') ts C2 st2 bs Ev frs vs l fa q (8 * (m' : Int) + 100 * (41 - (c : Int))) bot s0 (k + 1) r.toInt (sf (sa u1 278 (bot + k) (u1.1 102)) 105 x5)) := by
  have hv := RT_vt hR
  have h13 := hR.2.2.2.2.2.2.2.2.2.2.2.2.2.2.1
  obtain ⟨r1, r2, r3, r4, r5, r6, r7, r8, r9, r10, r11, r12, r13, r14, r15, r16, r17, r18, r19⟩ := id hR
  obtain ⟨Vn', vt', L', uX, uR, k1, k2, k3, k4, k5, k6⟩ := id hI
  have hv' := RT_vt uR
  have hkl := cs_lt hk
  obtain ⟨c1, c2, c3, c4, B, c5, c6⟩ := hcs k qn hk
  have uC : RCx G fo E (bot + k) Vn' vt' fr ev b0 As b1 Bs u := RCx_rx hX uX r17 (by omega) (Nat.le_refl _) (by omega) k1 k2
  have uE := wE_eq (Nat.le_refl _) (Nat.le_refl _) (RX_CA (b := b) (n := n) (lo := qn.1) (hi := qn.2.1) (S := S) (O := O) uX (by omega) (by omega)) c5
  obtain ⟨vs', cl', N1, ⟨⟨ws, p1⟩, p2, p3⟩, ⟨p4, p5, p6, p7⟩, p8, p9⟩ := hP
  obtain ⟨vals, v1, v2, v3, v4⟩ : ∃ vals : List Nat, vals.length = k ∧ (∀ (j w : Nat), vals[j]? = some w → (u.2.1 278 (bot + j)).toInt = (w : Int) ∧ w < vs'.length) ∧ (N1 : Int) ≤ 10 * (l - lft u) + q + (k : Int) ∧ PSn ar (fcD K L W ar kd TN Ls) (mvC K L W ar kd TN Ls) N1 XS (5, ciP (ciE K L W ar kd TN Ls S' m') (ts.drop k) ++ C2, st2 ++ vals.map .inr, bs, Ev, frs, vs', lft u, cl', fa) := by
    rcases p9 with ⟨-, h⟩ | ⟨h, -⟩
    · exact h
    · exact absurd rfl h
  have u98 : (u.1 98).toInt = (Vn' : Int) := uR.2.2.2.2.2.2.1
  have hvn' : vs'.length = Vn' := by omega
  obtain ⟨stx, hstx⟩ := hst2
  have uS : SCx K L W ar kd TN Ls nI A0 A1 b G S' β0 β1 b0 b1 As Bs Ev (st2 ++ vals.map .inr) bs fr (bot + k) frs vs' c Vn' u := by
    rw [hstx, List.append_assoc]
    exact SCx_rx uX (by omega) hA (by decide) (Nat.le_refl _) (by omega) p2 hvn' p4 hSC
  have ed : ciP (ciE K L W ar kd TN Ls S' m') (ts.drop k) ++ C2 = ciE K L W ar kd TN Ls S' m' t ++ (ciP (ciE K L W ar kd TN Ls S' m') (ts.drop (k + 1)) ++ C2) := by
    have : ts.drop k = t :: ts.drop (k + 1) := drop_get ht
    rw [this]
    unfold ciP
    rw [List.flatMap_cons, List.append_assoc]
  have hsl : ((st2 ++ vals.map .inr : List Itm)).length = st2.length + k := by rw [List.length_append, List.length_map, v1]
  refine Tot.imp (Tot_and (ih u a1 a2 a3 fo qn.1 qn.2.1 qn.2.2 fr ev b0 b1 E (bot + k) Vn' vt' L' As Bs B uR uC hfo uE (by omega) hN (by omega) hE h1 h2 h3) (ihS u a1 a2 a3 fo qn.1 qn.2.1 qn.2.2 fr ev b0 b1 E (bot + k) Vn' vt' L' As Bs B S' β0 β1 m' x' y' t Ev (st2 ++ vals.map .inr) bs frs vs' fa (ciP (ciE K L W ar kd TN Ls S' m') (ts.drop (k + 1)) ++ C2) uR uC hfo uE (by omega) hN (by omega) hE h1 h2 h3 uS (ECx_rx uX (by omega) hA hEC) (by rw [hsl]; omega))) ?_
  rintro v u1 ⟨⟨-, -, -, vX, -⟩, r, vs2, cl2, N2, rfl, ⟨⟨ws2, g1⟩, g2, g3⟩, ⟨g4, g5, g6, g7⟩, g8, g9⟩
  refine ⟨r, rfl, fun x5 => ?_⟩
  obtain ⟨f, hf⟩ : ∃ f, f = sf (sa u1 278 (bot + k) (u1.1 102)) 105 x5 := ⟨_, rfl⟩
  rw [← hf]
  have fk : ∀ j, ¬ j = 105 → f.1 j = u1.1 j := fun j hj => by
    rw [hf, sf_1, if_neg hj]
    rfl
  have fr' : ∀ q i, ¬ (q = 278 ∧ i = bot + k) → f.2.1 q i = u1.2.1 q i := fun q i w => by
    rw [hf]
    show (sa u1 278 (bot + k) (u1.1 102)).2.1 q i = _
    rw [sa_2, if_neg w]
  have f278 : f.2.1 278 (bot + k) = u1.1 102 := by
    rw [hf]
    show (sa u1 278 (bot + k) (u1.1 102)).2.1 278 (bot + k) = _
    rw [sa_2, if_pos ⟨rfl, rfl⟩]
  have elf : lft f = lft u1 := by
    unfold lft
    rw [fk 96 (by decide), fk 95 (by decide), fk 94 (by decide)]
  have vf : vRl ar (TN.length : Int) G f vs2 := fun v A ps hv => by
    obtain ⟨w1, w2, w3, w4⟩ := g2 v A ps hv
    refine ⟨w1, ?_, w3, fun k' u' hk' => by rw [fr' 277 _ (fun w => by omega)]; exact w4 k' u' hk'⟩
    rw [← w2]
    unfold VT
    rw [fr' 275 _ (fun w => by omega), fr' 276 _ (fun w => by omega)]
    exact seg_eq (fun i _ _ => fr' 264 i (fun w => by omega))
  clear hf
  rw [ed] at v4
  refine ⟨vs2, cl2, N1 + N2, ⟨⟨ws ++ ws2, by rw [g1, p1, List.append_assoc]⟩, vf, by rw [fk 98 (by decide)]; exact g3⟩, ⟨by omega, by omega, by rw [fk 93 (by decide)]; exact g6, kp6_e (fun k w => by rcases w with rfl | rfl | rfl <;> exact fk _ (by decide)) (kp6_tr p7 g7)⟩, fun w => by rw [fk 92 (by decide), g8 w]; exact p8 (by decide), ?_⟩
  rw [elf]
  rw [p6] at g9
  rcases g9 with ⟨y1, w, y2, y3, y4, y5⟩ | ⟨y1, Y, y2, y3, y4, y5, y6, y7, y8⟩
  · refine Or.inl ⟨y1, vals ++ [w], by rw [List.length_append, v1]; rfl, fun j w' hj => ?_, by omega, ?_⟩
    · by_cases ej : j < k
      · rw [List.getElem?_append_left (by omega)] at hj
        obtain ⟨z1, z2⟩ := v2 j w' hj
        refine ⟨?_, by rw [g1, List.length_append]; omega⟩
        rw [fr' 278 _ (fun w => by omega), vX.2.1 278 (bot + j) (fun w => by omega) (fun w => by omega) (fun w => by omega) (fun w => by omega) (fun w => by omega) (fun w => by omega)]
        exact z1
      · have ej2 : j = k := by
          have := (List.getElem?_eq_some_iff.mp hj).1
          rw [List.length_append, v1, List.length_singleton] at this
          omega
        rw [ej2, List.getElem?_append_right (by omega), v1, Nat.sub_self] at hj
        have : w = w' := Option.some.inj hj
        rw [ej2, f278, ← this]
        exact ⟨y2, y3⟩
    · have := PSn_tr _ _ _ _ _ v4 y5
      rw [List.map_append, ← List.append_assoc]
      exact this
  · exact Or.inr ⟨y1, Y, PSn_tr _ _ _ _ _ v4 y2, y3, y4, y5, y6, fun w => by rw [fk 92 (by decide)]; exact y7 w, by omega⟩
end ZUG
