/-! ===== a call of the class, and the same call of the reference ===== -/
/-- Rows of code and places are sane -/
def SNh (h : xH) : Prop := ∀ a, skB a = true → ∀ i, -1000 ≤ (rv h a i).toInt ∧ (rv h a i).toInt ≤ skM a
/-- the first words, sane Rows, kept of the program that is loaded -/
def EXh (h : xH) : Prop := SGh h ∧ SNh h ∧ LDh h
/-- between calls: class and reference -/
def LSt (h : xH) (s : yS) : Prop := INV h ∧ JJ h ∧ RIv s ∧ h = yh (h.take 213) (h.drop 288) s ∧ fld h 1 2 = some (.int (s.1 2)) ∧ TPz h s ∧ EXh h
/-- both answer; E: alike -/
def PXq (i : Nat) (vs : List Value) (i' : Nat) (vs' : List Value) (h : xH) (E : Prop) : Prop := ∃ (v v' : Int32) (h1 h2 : xH) (cs sl : Nat) (s' : yS) (fs : List Value), yex 1514 i vs h = some (some (.int v), h1, cs, sl) ∧ h1[213]? = some (.inr (12, fs)) ∧ yex 1514 i' vs' h1 = some (some (.int v'), h2, 0, 0) ∧ LSt h2 s' ∧ h2.length = h.length + cs ∧ Sh h2 = Sh h + sl ∧ (E → v = v')
theorem EX_c {U : List (Nat × Nat)} {h h1 : xH} {cs sl : Nat} (hE : EXh h) (p3 : CSX U h h1 cs sl) : EXh h1 := by
  refine ⟨SG_wk p3.2.2.2.2.1 hE.1, fun a ha i => ?_, p3.2.2.2.2.2.2.2 hE.2.2⟩
  rcases p3.2.2.2.2.2.1 a (sk_row ha) ha i with e | e
  · rw [e]
    exact hE.2.1 a ha i
  · exact e
theorem KL_fr {W : List (Nat × Nat)} {h h1 : xH} {cs sl : Nat} (hc : CST W h h1 cs sl) (w1 : wmem (4, 10) W = false) (w2 : wmem (11, 9) W = false) (w3 : wmem (11, 11) W = false) (hI : INV h) : KLh h h1 := KL_eq (hc.2.1.2 3 10 (by decide) (wmem_no (by rw [show wc 3 = 4 by decide +kernel]; exact w1))) (hc.2.1.2 39 10 (by decide) (wmem_no (by rw [show wc 39 = 4 by decide +kernel]; exact w1))) (hc.2.1.2 0 9 (by decide) (wmem_no (by rw [show wc 0 = 11 by decide +kernel]; exact w2))) (hc.2.1.2 0 11 (by decide) (wmem_no (by rw [show wc 0 = 11 by decide +kernel]; exact w3))) hI
theorem SN_st {h : xH} (hE : EXh h) : SNz (zst h) := fun a ha i => hE.2.1 a ha i
theorem EX_of {d j : Nat} {U : List (Nat × Nat)} {c c' : zW} {vs : List Value} {Q : Option Value → zS → Prop} {h : xH} (hI : INV h) (hE : EXh h) (hd : d ≤ 1514) (hc : ∀ p ∈ c, fld h p.1 p.2.1 = some (.ref p.2.2)) (hz : Zu d U c c' j vs (zst h) Q) : ∀ v h1 cs sl, yex 1514 j vs h = some (v, h1, cs, sl) → EXh h1 := fun v h1 cs sl e => by
  obtain ⟨v', h', cs', sl', s', -, -, p3, p4⟩ := hz h hI ⟨zst_ok hI, hc⟩
  have p4 := yex_mono hd _ _ _ _ p4
  rw [e] at p4
  have eh : h1 = h' := by
    cases p4
    rfl
  rw [eh]
  exact EX_c hE p3.1
theorem cur_of {h : xH} (hI : INV h) : ∃ C, (C = 3 ∨ C = 39) ∧ fld h 0 9 = some (.ref C) := by
  obtain ⟨-, v0, -, -, f0, C, rfl, hC⟩ := fl_of (a := 0) (k := 9) (K := .inr (.inl [3, 39])) hI (by decide +kernel) (by decide +kernel)
  exact ⟨C, in2 hC, f0⟩
theorem cw_of {h : xH} {P : Nat} (f0 : fld h 0 9 = some (.ref P)) : ∀ p ∈ ([(0, 9, P)] : zW), fld h p.1 p.2.1 = some (.ref p.2.2) := fun p hp => by
  rw [List.mem_singleton.mp hp]
  exact f0
theorem kk_of {h : xH} {P : Nat} (hI : INV h) (hJ : JJ h) (hE : EXh h) (hP : P = 3 ∨ P = 39) (f0 : fld h 0 9 = some (.ref P)) : ¬ ((zst h).1 0 11).toInt = 0 → 18 ≤ ((zst h).1 P 10).toInt ∧ ((zst h).1 P 10).toInt ≤ 1300000000 := fun n => by
  have z := zst_ok hI
  have e11 := z.1 0 11 (by decide +kernel)
  have eP := z.1 P 10 (kz_if hP)
  constructor
  · rcases hE.2.2 with q | q
    · rw [q] at e11
      rw [← Value.int.inj (Option.some.inj e11)] at n
      exact absurd (by decide) n
    · obtain ⟨y, y1, y2⟩ := q P f0
      rw [y1] at eP
      rw [← Value.int.inj (Option.some.inj eP)]
      exact y2
  · obtain ⟨x, y, j1, j2, j3, j4⟩ := hJ
    rcases hP with rfl | rfl
    · rw [j1] at eP
      rw [← Value.int.inj (Option.some.inj eP)]
      omega
    · rw [j3] at eP
      rw [← Value.int.inj (Option.some.inj eP)]
      omega
set_option maxRecDepth 20000 in
theorem pair_ok {i i' d : Nat} {vs vs' : List Value} {h h1 : xH} {s : yS} {cs sl : Nat} {v z : Int32} {E : Prop} {R : Int32 → yS → Prop} (hL : LSt h s) (e1 : yex 1514 i vs h = some (some (.int v), h1, cs, sl)) (hc : CPq h h1 cs sl) (hz : fld h1 1 2 = some (.int z)) (hS : EXh h1) (hr : Tot d i' vs' s (fun v' s' => ∃ r : Int32, v' = some (.int r) ∧ R r s' ∧ RIv s')) (hd : d ≤ 1514) (hR : ∀ r s', R r s' → z = s'.1 2 ∧ TPz h1 s' ∧ (E → v = r)) : PXq i vs i' vs' h E := by
  obtain ⟨a1, a2, a3, a4, a5, a6, a7⟩ := hL
  obtain ⟨c1, c2, c3, c4, c5⟩ := hc
  have hl0 := a1.2.2.1
  have hl1 := c1.2.2.1
  have ed := yh_dec hl1 a4 hl0 c3
  have t1 : (h1.take 213).length = 213 := by rw [List.length_take]; omega
  obtain ⟨w, s', ⟨r, rfl, r1, r2⟩, -, r3⟩ := hr
  have e2 := ycx_le d _ _ _ _ (r3 (h1.take 213) (h1.drop 288) t1)
  rw [← ed] at e2
  have hg : ∀ m, (m < 213 ∨ 288 ≤ m) → (yh (h1.take 213) (h1.drop 288) s')[m]? = h1[m]? := fun m hm => by
    rw [yh_get t1]
    rcases hm with hm | hm
    · rw [if_pos hm, List.getElem?_take, if_pos hm]
    · rw [if_neg (by omega), if_neg (by omega), List.getElem?_drop]
      congr 1
      omega
  have hlen : (yh (h1.take 213) (h1.drop 288) s').length = h1.length := by
    rw [yh_len t1, List.length_drop]
    omega
  have hI2 := INV_eq c1 hlen hg
  have flE : ∀ a k, a < 213 → fld (yh (h1.take 213) (h1.drop 288) s') a k = fld h1 a k := fun a k ha => by
    unfold fld
    rw [hg a (Or.inl ha)]
  have hdr : (yh (h1.take 213) (h1.drop 288) s').drop 288 = h1.drop 288 := List.ext_getElem? (fun m => by
    rw [List.getElem?_drop, List.getElem?_drop]
    exact hg _ (Or.inr (by omega)))
  have htk : (yh (h1.take 213) (h1.drop 288) s').take 213 = h1.take 213 := List.ext_getElem? (fun m => by
    rw [List.getElem?_take, List.getElem?_take]
    by_cases hm : m < 213
    · rw [if_pos hm, if_pos hm]
      exact hg _ (Or.inl hm)
    · rw [if_neg hm, if_neg hm])
  have shE : Sh (yh (h1.take 213) (h1.drop 288) s') = Sh h1 := by
    unfold Sh
    rw [hdr]
  have rvE : ∀ a ∈ rowL, ∀ j, rv (yh (h1.take 213) (h1.drop 288) s') a j = rv h1 a j := fun a ha j => rv_same (rc_same c1 flE hg ha) j
  obtain ⟨zz, tt, vv⟩ := hR r s' r1
  refine ⟨v, r, h1, _, cs, sl, s', yfl s, e1, ?_, yex_mono hd _ _ _ _ e2, ⟨hI2, ?_, r2, ?_, ?_, fun j hj => ?_, ?_⟩, by rw [hlen]; exact c4, by rw [shE]; exact c5, vv⟩
  · rw [ed]
    exact yh_o t1
  · obtain ⟨x, y, j1, j2, j3, j4⟩ := c2
    exact ⟨x, y, (flE 3 10 (by decide)).trans j1, j2, (flE 39 10 (by decide)).trans j3, j4⟩
  · rw [htk, hdr]
  · rw [flE 1 2 (by decide), hz, zz]
  · rw [rvE 1 row_1 j]
    exact tt j hj
  · refine ⟨fun a ha j hj => ?_, fun a ha j => ?_, (KL_eq (flE 3 10 (by decide)) (flE 39 10 (by decide)) (flE 0 9 (by decide)) (flE 0 11 (by decide)) c1).2 hS.2.2⟩
    · rw [rvE a (wk_row ha) j]
      exact hS.1 a ha j hj
    · rw [rvE a (sk_row ha) j]
      exact hS.2.1 a ha j
theorem X_feed {h : xH} {s : yS} (hL : LSt h s) (a b c : Int64) : PXq 139 [.ref 0, .long a, .long b, .long c] 154 [.ref 213, .long a, .long b, .long c] h True := by
  obtain ⟨l1, l2, l3, l4, l5, l6, l7⟩ := id hL
  obtain ⟨h1, cs, sl, e1, e2, e3, e4⟩ := y_139c (d := 0) (a := a) (b := b) (c := c) l1 l5
  have hT := Tot_par (R_154 (a := a) (b := b) (c := c) l3) (Nat.le_refl _) (x_154 (a := a) (b := b) (c := c))
  have hAg : Agt (rv h 1, s.1 2) (s.2.1 214, s.1 2) := ⟨rfl, fun i hi => l6 i hi⟩
  have hAf := fdk_ag (a := a) (b := b) (c := c) hAg
  refine pair_ok (R := fun r s' => r = feedn a b c (s.1 2) ∧ s'.1 2 = feedn a b c (s.1 2) ∧ (s'.2.1 214, s'.1 2) = fdk a b c (s.2.1 214, s.1 2)) hL (yex_mono (by decide) _ _ _ _ e1) (cp_of e2 (JJ_fr e2 rfl l2)) e3 ?_ (Tot.imp hT (fun v s' q => ?_)) (by decide) (fun r s' q => ⟨q.2.1.symm, fun i hi => ?_, fun _ => q.1.symm⟩)
  · refine ⟨fun x hx i hi => ?_, fun x hx i => ?_, (KL_fr e2 rfl rfl rfl l1).2 l7.2.2⟩
    · rw [e4.2 x (wk_row hx) (by omega) i]
      exact l7.1 x hx i hi
    · rw [e4.2 x (sk_row hx) (fun w => by rw [w] at hx; exact absurd hx (by decide)) i]
      exact l7.2.1 x hx i
  · obtain ⟨⟨q1, q2, q3⟩, q4, q5⟩ := q
    exact ⟨_, q1, ⟨rfl, q2, q5⟩, q3⟩
  · rw [← q.2.2] at hAf
    have hs : (fdk a b c (rv h 1, s.1 2)).2 = s'.1 2 := hAf.1
    rw [e4.1 i]
    exact hAf.2 i (by rw [hs]; exact hi)
theorem tot_x {d j : Nat} {vs : List Value} {s : yS} {Z : yS → Prop} (h : Tot d j vs s (fun v s' => (∃ r : Int32, v = some (.int r)) ∧ Z s' ∧ RIv s')) : Tot d j vs s (fun v s' => ∃ r : Int32, v = some (.int r) ∧ (fun (_ : Int32) (u : yS) => Z u) r s' ∧ RIv s') := Tot.imp h (fun v s' q => by
  obtain ⟨⟨r, rfl⟩, q2, q3⟩ := q
  exact ⟨r, rfl, q2, q3⟩)
theorem X_keep {i i' d dc : Nat} {q : cSg} {vs vs' : List Value} {h : xH} {s : yS} (hL : LSt h s) (hc : CTR (yex dc) i q) (hd : dc ≤ 1514) (h1 : wmem (100, 2) q.2.2 = false) (h0 : wmem (100, 1) q.2.2 = false) (h2 : wmem (4, 10) q.2.2 = false) (hr : q.2.1 = some kint) (ha : aOK q.1 vs) (hS : ∀ v h1 cs sl, yex 1514 i vs h = some (v, h1, cs, sl) → EXh h1) (ht : Tot d i' vs' s (fun v s' => (∃ r : Int32, v = some (.int r)) ∧ (s'.1 2 = s.1 2 ∧ s'.2.1 214 = s.2.1 214) ∧ RIv s')) (hd' : d ≤ 1514) : PXq i vs i' vs' h False := by
  obtain ⟨l1, l2, l3, l4, l5, l6, l7⟩ := id hL
  obtain ⟨v, h', cs, sl, e, e2, e3⟩ := hc h vs l1 ha
  rw [hr] at e2
  obtain ⟨u, rfl, x, rfl, -⟩ := e2
  have e' := yex_mono hd _ _ _ _ e
  have hrc : rc h' 1 = rc h 1 := e3.2.1.1.2.2.resolve_left (wmem_no h0)
  refine pair_ok (R := fun _ s' => s'.1 2 = s.1 2 ∧ s'.2.1 214 = s.2.1 214) hL e' (cp_of e3 (JJ_fr e3 h2 l2)) ((z_fr e3 h1).trans l5) (hS _ _ _ _ e') (tot_x (Z := fun s' => s'.1 2 = s.1 2 ∧ s'.2.1 214 = s.2.1 214) ht) hd' (fun r s' g => ⟨g.1.symm, fun j hj => ?_, fun w => absurd w id⟩)
  rw [rv_same hrc j, g.2]
  exact l6 j (by rw [← g.1]; exact hj)
theorem X_clear {i i' d : Nat} {vs vs' : List Value} {h h1 : xH} {s : yS} {cs sl : Nat} {v : Int32} (hL : LSt h s) (e1 : yex 1514 i vs h = some (some (.int v), h1, cs, sl)) (hc : CPq h h1 cs sl) (hz : fld h1 1 2 = some (.int 0)) (hS : EXh h1) (ht : Tot d i' vs' s (fun v s' => (∃ r : Int32, v = some (.int r)) ∧ (s'.1 2).toInt = 0 ∧ RIv s')) (hd' : d ≤ 1514) : PXq i vs i' vs' h False :=
  pair_ok (R := fun _ s' => (s'.1 2).toInt = 0) hL e1 hc hz hS (tot_x (Z := fun s' => (s'.1 2).toInt = 0) ht) hd' (fun r s' q => ⟨(z32.mp q).symm, fun j hj => by omega, fun w => absurd w id⟩)
/-! program -/
set_option maxRecDepth 20000 in
theorem X_program {h : xH} {s : yS} (hL : LSt h s) : PXq 140 [.ref 0] 230 [.ref 213] h True := by
  obtain ⟨l1, l2, l3, l4, l5, l6, l7⟩ := id hL
  obtain ⟨v, h1, cs, sl, e1, e2, e3⟩ := cp_140 l1 l2
  obtain ⟨-, v0, -, -, f0, C, rfl, hC⟩ := fl_of (a := 0) (k := 9) (K := .inr (.inl [3, 39])) l1 (by decide +kernel) (by decide +kernel)
  obtain ⟨-, v1, -, -, f1, P, rfl, hP⟩ := fl_of (a := 0) (k := 10) (K := .inr (.inl [3, 39])) l1 (by decide +kernel) (by decide +kernel)
  have hC := in2 hC
  have hP := in2 hP
  obtain ⟨nb, n1, n2, -, -, n3, -⟩ := id l3
  obtain ⟨N, hN⟩ : ∃ N : Nat, (s.1 2).toInt = (N : Int) := ⟨_, (Int.toNat_of_nonneg n3.1).symm⟩
  have hN4 : N ≤ 4000 := by omega
  have z12 : (zst h).1 1 2 = s.1 2 := by
    show (match fld h 1 2 with
      | some (.int x) => x
      | _ => 0) = _
    rw [l5]
  have hSG : SGz P (zst h) := fun i hi => by
    rw [KI_n]
    show (rv h (P + 18) i).toInt = _
    rcases hP with rfl | rfl
    · exact l7.1 21 (Or.inl rfl) i hi
    · exact l7.1 57 (Or.inr rfl) i hi
  have key := zs_140 (N := N) (s := zst h) (Q := fun r => ∃ (z : zS) (ar : Int → Int), TXT (zst h) P N z ∧ GDk (KI (z.2 (P + 4))) (KI (z.2 (P + 6))) ar (ntk (z.2 (P + 2)) N) ∧ r.toInt = pgF (KI (z.2 (P + 4))) (KI (z.2 (P + 6))) (KI (z.2 (P + 10))) ar) hP (by rw [z12]; exact hN) hN4 hSG (fun r z ar g1 g2 g3 => ⟨z, ar, g1, g2, g3⟩)
  obtain ⟨v', h', cs', sl', s', ⟨r, rfl, z, ar, g1, g2, g3⟩, -, g5, g6⟩ := zc_140 hP hC key h l1 ⟨zst_ok l1, fun p hp => by
    rcases List.mem_cons.mp hp with rfl | hp
    · exact f1
    · rw [List.mem_singleton.mp hp]
      exact f0⟩
  have g6 := yex_mono (show 0 + 74 ≤ 1514 by decide) _ _ _ _ g6
  rw [e1] at g6
  have ev : v = r := by
    cases g6
    rfl
  have eh : h1 = h' := by
    cases g6
    rfl
  have hA : Agr N (z.2 (P + 2)) (s.2.1 214) := fun i hi => by
    rw [g1.1 i hi]
    exact (l6 i (by omega)).symm
  have hT := Tot_par (R_230 l3) (Nat.le_refl _) (x_230 (s := s) g1 hN4 hA hN (by omega) g2)
  refine pair_ok (R := fun r s' => (s'.1 2).toInt = 0 ∧ r.toInt = pgF (KI (z.2 (P + 4))) (KI (z.2 (P + 6))) (KI (z.2 (P + 10))) ar) hL e1 e2 e3 (by rw [eh]; exact EX_c l7 g5.1) (Tot.imp hT (fun w s' q => ?_)) (by decide) (fun r' s' q => ⟨(z32.mp q.1).symm, fun j hj => by omega, fun _ => Int32.toInt_inj.mp (by rw [ev, g3, q.2])⟩)
  obtain ⟨⟨⟨r', rfl⟩, q2, q3⟩, r'', q4, q5⟩ := q
  cases q4
  exact ⟨r', rfl, ⟨q2, q5.1⟩, q3⟩
theorem X_implementing {h : xH} {s : yS} (hL : LSt h s) : PXq 141 [.ref 0] 236 [.ref 213] h False := by
  obtain ⟨v, h1, cs, sl, e1, e2, e3⟩ := cp_141 hL.1 hL.2.1
  obtain ⟨P, hP, f0⟩ := cur_of hL.1
  exact X_clear hL e1 e2 e3 (EX_of hL.1 hL.2.2.2.2.2.2 (by decide) (cw_of f0) (zw_141 (d := 0) hP (kk_of hL.1 hL.2.1 hL.2.2.2.2.2.2 hP f0) (SN_st hL.2.2.2.2.2.2)) _ _ _ _ e1) (R_236 hL.2.2.1) (by decide)
theorem X_isMade {h : xH} {s : yS} (hL : LSt h s) : PXq 147 [.ref 0] 260 [.ref 213] h False := by
  obtain ⟨v, h1, cs, sl, e1, e2, e3⟩ := cp_147 hL.1 hL.2.1
  obtain ⟨P, hP, f0⟩ := cur_of hL.1
  exact X_clear hL e1 e2 e3 (EX_of hL.1 hL.2.2.2.2.2.2 (by decide) (cw_of f0) (zw_147 (d := 0) hP (kk_of hL.1 hL.2.1 hL.2.2.2.2.2.2 hP f0) (SN_st hL.2.2.2.2.2.2)) _ _ _ _ e1) (R_260 hL.2.2.1) (by decide)
theorem X_run {h : xH} {s : yS} (hL : LSt h s) (n : Int32) : PXq 142 [.ref 0, .int n] 247 [.ref 213, .int n] h False := by
  obtain ⟨P, hP, f0⟩ := cur_of hL.1
  exact X_keep hL K_142 (by decide) rfl rfl rfl rfl ⟨⟨0, rfl, cmem_ok rfl⟩, vK_int n, trivial⟩ (EX_of hL.1 hL.2.2.2.2.2.2 (by decide) (cw_of f0) (zw_142 (d := 0) hP (SN_st hL.2.2.2.2.2.2))) (R_247' hL.2.2.1) (by decide)
theorem X_failed {h : xH} {s : yS} (hL : LSt h s) : PXq 143 [.ref 0] 248 [.ref 213] h False := by
  obtain ⟨P, hP, f0⟩ := cur_of hL.1
  exact X_keep hL K_143 (by decide) rfl rfl rfl rfl ⟨⟨0, rfl, cmem_ok rfl⟩, trivial⟩ (EX_of hL.1 hL.2.2.2.2.2.2 (by decide) (cw_of f0) (zw_143 (d := 0) hP)) (R_248 hL.2.2.1) (by decide)
theorem X_calls {h : xH} {s : yS} (hL : LSt h s) : PXq 144 [.ref 0] 249 [.ref 213] h False := by
  obtain ⟨P, hP, f0⟩ := cur_of hL.1
  exact X_keep hL K_144 (by decide) rfl rfl rfl rfl ⟨⟨0, rfl, cmem_ok rfl⟩, trivial⟩ (EX_of hL.1 hL.2.2.2.2.2.2 (by decide) (cw_of f0) (zw_144 (d := 0) hP)) (R_249 hL.2.2.1) (by decide)
theorem X_instances {h : xH} {s : yS} (hL : LSt h s) : PXq 145 [.ref 0] 257 [.ref 213] h False := by
  obtain ⟨P, hP, f0⟩ := cur_of hL.1
  exact X_keep hL K_145 (by decide) rfl rfl rfl rfl ⟨⟨0, rfl, cmem_ok rfl⟩, trivial⟩ (EX_of hL.1 hL.2.2.2.2.2.2 (by decide) (cw_of f0) (zw_145 (d := 0) hP (SN_st hL.2.2.2.2.2.2))) (R_257 hL.2.2.1) (by decide)
theorem X_made {h : xH} {s : yS} (hL : LSt h s) (n : Int32) : PXq 146 [.ref 0, .int n] 259 [.ref 213, .int n] h False := by
  obtain ⟨P, hP, f0⟩ := cur_of hL.1
  exact X_keep hL K_146 (by decide) rfl rfl rfl rfl ⟨⟨0, rfl, cmem_ok rfl⟩, vK_int n, trivial⟩ (EX_of hL.1 hL.2.2.2.2.2.2 (by decide) (cw_of f0) (zw_146 (d := 0) hP)) (R_259 hL.2.2.1) (by decide)
theorem X_print {h : xH} {s : yS} (hL : LSt h s) (n : Int32) : PXq 148 [.ref 0, .int n] 268 [.ref 213, .int n] h False := by
  obtain ⟨P, hP, f0⟩ := cur_of hL.1
  exact X_keep hL K_148 (by decide) rfl rfl rfl rfl ⟨⟨0, rfl, cmem_ok rfl⟩, vK_int n, trivial⟩ (EX_of hL.1 hL.2.2.2.2.2.2 (by decide) (cw_of f0) (zw_148 (d := 0) hP)) (R_268 hL.2.2.1) (by decide)
theorem X_out {h : xH} {s : yS} (hL : LSt h s) (n : Int32) : PXq 149 [.ref 0, .int n] 269 [.ref 213, .int n] h False := by
  obtain ⟨P, hP, f0⟩ := cur_of hL.1
  exact X_keep hL K_149 (by decide) rfl rfl rfl rfl ⟨⟨0, rfl, cmem_ok rfl⟩, vK_int n, trivial⟩ (EX_of hL.1 hL.2.2.2.2.2.2 (by decide) (cw_of f0) (zw_149 (d := 0) hP)) (R_269 hL.2.2.1) (by decide)
theorem X_count {h : xH} {s : yS} (hL : LSt h s) (n : Int32) : PXq 150 [.ref 0, .int n] 270 [.ref 213, .int n] h False := by
  obtain ⟨P, hP, f0⟩ := cur_of hL.1
  exact X_keep hL K_150 (by decide) rfl rfl rfl rfl ⟨⟨0, rfl, cmem_ok rfl⟩, vK_int n, trivial⟩ (EX_of hL.1 hL.2.2.2.2.2.2 (by decide) (cw_of f0) (zw_150 (d := 0) hP)) (R_270 hL.2.2.1) (by decide)
