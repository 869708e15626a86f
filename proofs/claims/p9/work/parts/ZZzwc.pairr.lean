/-! ===== a call of the class, and the same call of the reference: with the program that is loaded (pair_r: wip/p5/mkpr.py) ===== -/
/-- what a run left -/
def RRz (z : zS) (s : yS) : Prop := (z.1 105 11 = s.1 93 ∧ z.1 105 10 = s.1 95) ∧ ((z.1 105 13).toInt = 1 → z.1 105 12 = s.1 92) ∧ (¬ (z.1 105 13).toInt = 1 → s.1 92 = -1)
/-- TYPES and FUNCS, as the reference counts them -/
def RCn (T F : Int) (s : yS) : Prop := (s.2.1 233 (s.1 29).toInt.toNat).toInt = T ∧ (s.2.1 252 (s.1 29).toInt.toNat).toInt = F
theorem RCn_k {T F : Int} {s s' : yS} (hI : RIv s) (r : s'.1 29 = s.1 29) (hc : ∀ nb : Nat, nb < 2 → (s.1 29).toInt = (nb : Int) → s'.2.1 233 nb = s.2.1 233 nb ∧ s'.2.1 252 nb = s.2.1 252 nb) (g : RCn T F s) : RCn T F s' := by
  obtain ⟨nb, a1, a2, -⟩ := hI
  obtain ⟨c1, c2⟩ := hc nb a1 a2
  unfold RCn at g ⊢
  rw [r]
  rw [a2, Int.toNat_natCast] at g ⊢
  rw [c1, c2]
  exact g
/-- the reference's program -/
def RLq (K L W ar : Int → Int) (n m : Int) (s : yS) : Prop := (RLd K L W ar (kdF K L (lsF K L)) (tnF K (lsF K L)) (lsF K L) n (m + 1) (s.1 29).toInt s ∧ RCn ((tnF K (lsF K L)).length : Int) (kFn K (lsF K L) : Int) s) ∧ FOk K L W ar (kdF K L (lsF K L)) (tnF K (lsF K L)) (lsF K L) n ∧ (p_e K L 10 false (0, m + 1)).1 = 0 ∧ (exE6 K L W ar (kdF K L (lsF K L)) (tnF K (lsF K L)) (lsF K L) mnS 10 (m + 1)).1 = 0 ∧ 0 ≤ m + 1 ∧ nxE K L (m + 1) ≤ n
def gz (z : zS) : Int × Int := ((z.1 0 11).toInt, (z.1 0 12).toInt)
/-- class and reference hold the same program, ran alike -/
def LPz (C : Nat) (z : zS) (s : yS) : Prop := (z.1 0 12 = s.1 94 ∧ ((z.1 0 11).toInt = 0 ↔ (s.1 90).toInt = 0) ∧ RRz z s ∧ ((s.1 90).toInt = 0 → RCn 0 0 s)) ∧ (¬ (s.1 90).toInt = 0 → ∃ (K L W ar : Int → Int) (n m : Int), PLz K L W ar n m C (gz z) z ∧ RLq K L W ar n m s)
/-- how many rows there are of a sort -/
def cn7 (s : yS) (k : Int) : Nat := ((List.range (s.1 112).toInt.toNat).filter (fun i => decide ((s.2.1 279 i).toInt = k))).length
/-- what is made, in both -/
def MKl (z : zS) (s : yS) : Prop := (((z.1 197 8).toInt = 0 ∧ (s.1 110).toInt = 0) ∧ (z.1 197 9).toInt = 0 ∧ (s.1 109).toInt = -1) ∨ ((¬ (z.1 197 8).toInt = 0 ∧ ¬ (s.1 110).toInt = 0 ∧ ¬ (s.1 90).toInt = 0) ∧ (((z.1 197 9).toInt = 0 ∧ (s.1 109).toInt = -1) ∨ (¬ (z.1 197 9).toInt = 0 ∧ (z.1 198 2).toInt = (cn7 s 0 : Int) ∧ (z.1 200 2).toInt = 10 * (cn7 s 1 : Int) ∧ (z.1 202 2).toInt = 9 * (cn7 s 2 : Int) ∧ (s.1 109).toInt = (cn7 s 2 : Int))))
/-- how much is made stays -/
def MZo (z z1 : zS) : Prop := z1.1 198 2 = z.1 198 2 ∧ z1.1 200 2 = z.1 200 2 ∧ z1.1 202 2 = z.1 202 2
theorem MZ_v {z z1 : zS} {V : List (Nat × Nat)} (g : FVz V z z1) (h : ¬ (0, 198) ∈ V) : MZo z z1 := ⟨g.2.2.2 198 2 (by decide) h, g.2.2.2 200 2 (by decide) h, g.2.2.2 202 2 (by decide) h⟩
theorem MKl_k {z z1 : zS} {s s' : yS} (k8 : z1.1 197 8 = z.1 197 8) (k9 : z1.1 197 9 = z.1 197 9) (m : MZo z z1) (r90 : s'.1 90 = s.1 90) (r : RKm s s') (g : MKl z s) : MKl z1 s' := by
  obtain ⟨m1, m2, m3⟩ := m
  obtain ⟨⟨r1, r2, r3⟩, r4⟩ := r
  have e : ∀ k, cn7 s' k = cn7 s k := fun k => by
    unfold cn7
    rw [r3, r4]
  unfold MKl at g ⊢
  rw [k8, k9, m1, m2, m3, r90, r1, r2, e 0, e 1, e 2]
  exact g
def LPr (h : xH) (s : yS) : Prop := ∃ (z : zS) (C S : Nat), zI h z ∧ ((C = 3 ∧ S = 39) ∨ (C = 39 ∧ S = 3)) ∧ fld h 0 9 = some (.ref C) ∧ fld h 0 10 = some (.ref S) ∧ LPz C z s ∧ LPe C z s ∧ MKl z s
/-- between calls -/
def LSr (h : xH) (s : yS) : Prop := LSt h s ∧ LPr h s
def PXr (i : Nat) (vs : List Value) (i' : Nat) (vs' : List Value) (h : xH) (E : Prop) : Prop := ∃ (v v' : Int32) (h1 h2 : xH) (cs sl : Nat) (s' : yS) (fs : List Value), yex 1514 i vs h = some (some (.int v), h1, cs, sl) ∧ h1[213]? = some (.inr (12, fs)) ∧ yex 1514 i' vs' h1 = some (some (.int v'), h2, 0, 0) ∧ LSr h2 s' ∧ h2.length = h.length + cs ∧ Sh h2 = Sh h + sl ∧ (E → v = v')
theorem LPr_h {h1 h2 : xH} {s : yS} (flE : ∀ a k, a < 213 → fld h2 a k = fld h1 a k) (rvE : ∀ a ∈ rowL, ∀ j, rv h2 a j = rv h1 a j) (g : LPr h1 s) : LPr h2 s := by
  obtain ⟨z, C, S, q1, q2, q3, q4, q5⟩ := g
  exact ⟨z, C, S, ⟨fun a k hk => by rw [flE a k (isIf_lt hk)]; exact q1.1 a k hk, fun a ha i => by rw [rvE a ha i]; exact q1.2 a ha i⟩, q2, (flE 0 9 (by decide)).trans q3, (flE 0 10 (by decide)).trans q4, q5⟩
set_option maxRecDepth 20000 in
theorem pair_r {i i' d : Nat} {vs vs' : List Value} {h h1 : xH} {s : yS} {cs sl : Nat} {v z : Int32} {E : Prop} {R : Int32 → yS → Prop} (hL : LSt h s) (e1 : yex 1514 i vs h = some (some (.int v), h1, cs, sl)) (hc : CPq h h1 cs sl) (hz : fld h1 1 2 = some (.int z)) (hS : EXh h1) (hr : Tot d i' vs' s (fun v' s' => ∃ r : Int32, v' = some (.int r) ∧ R r s' ∧ RIv s')) (hd : d ≤ 1514) (hR : ∀ r s', R r s' → z = s'.1 2 ∧ TPz h1 s' ∧ (E → v = r)) (hP : ∀ r s', R r s' → RIv s' → LPr h1 s') : PXr i vs i' vs' h E := by
  obtain ⟨a1, a2, a3, a4, a5, a6, a7⟩ := hL
  obtain ⟨c1, c2, c3, c4, c5⟩ := hc
  have hl0 := a1.2.2.1
  have hl1 := c1.2.2.1
  have ed := yh_dec hl1 a4 hl0 c3
  have t1 : (h1.take 213).length = 213 := by rw [List.length_take]; omega
  obtain ⟨w, s', ⟨r, rfl, r1, r2⟩, -, r3⟩ := hr
  have e2 := ycx_le d _ _ _ _ (r3 (h1.take 213) (h1.drop 288) t1)
  rw [← ed] at e2
  have hg : ∀ m, (m < 213 ∨ 288 ≤ m) → (yh (h1.take 213) (h1.drop 288) s')[m]? = h1[m]? := fun m hm => by
    rw [yh_get t1]
    rcases hm with hm | hm
    · rw [if_pos hm, List.getElem?_take, if_pos hm]
    · rw [if_neg (by omega), if_neg (by omega), List.getElem?_drop]
      congr 1
      omega
  have hlen : (yh (h1.take 213) (h1.drop 288) s').length = h1.length := by
    rw [yh_len t1, List.length_drop]
    omega
  have hI2 := INV_eq c1 hlen hg
  have flE : ∀ a k, a < 213 → fld (yh (h1.take 213) (h1.drop 288) s') a k = fld h1 a k := fun a k ha => by
    unfold fld
    rw [hg a (Or.inl ha)]
  have hdr : (yh (h1.take 213) (h1.drop 288) s').drop 288 = h1.drop 288 := List.ext_getElem? (fun m => by
    rw [List.getElem?_drop, List.getElem?_drop]
    exact hg _ (Or.inr (by omega)))
  have htk : (yh (h1.take 213) (h1.drop 288) s').take 213 = h1.take 213 := List.ext_getElem? (fun m => by
    rw [List.getElem?_take, List.getElem?_take]
    by_cases hm : m < 213
    · rw [if_pos hm, if_pos hm]
      exact hg _ (Or.inl hm)
    · rw [if_neg hm, if_neg hm])
  have shE : Sh (yh (h1.take 213) (h1.drop 288) s') = Sh h1 := by
    unfold Sh
    rw [hdr]
  have rvE : ∀ a ∈ rowL, ∀ j, rv (yh (h1.take 213) (h1.drop 288) s') a j = rv h1 a j := fun a ha j => rv_same (rc_same c1 flE hg ha) j
  obtain ⟨zz, tt, vv⟩ := hR r s' r1
  refine ⟨v, r, h1, _, cs, sl, s', yfl s, e1, ?_, yex_mono hd _ _ _ _ e2, ⟨⟨hI2, ?_, r2, ?_, ?_, fun j hj => ?_, ?_⟩, LPr_h flE rvE (hP r s' r1 r2)⟩, by rw [hlen]; exact c4, by rw [shE]; exact c5, vv⟩
  · rw [ed]
    exact yh_o t1
  · obtain ⟨x, y, j1, j2, j3, j4⟩ := c2
    exact ⟨x, y, (flE 3 10 (by decide)).trans j1, j2, (flE 39 10 (by decide)).trans j3, j4⟩
  · rw [htk, hdr]
  · rw [flE 1 2 (by decide), hz, zz]
  · rw [rvE 1 row_1 j]
    exact tt j hj
  · refine ⟨fun a ha j hj => ?_, fun a ha j => ?_, (KL_eq (flE 3 10 (by decide)) (flE 39 10 (by decide)) (flE 0 9 (by decide)) (flE 0 11 (by decide)) c1).2 hS.2.2⟩
    · rw [rvE a (wk_row ha) j]
      exact hS.1 a ha j hj
    · rw [rvE a (sk_row ha) j]
      exact hS.2.1 a ha j
/-- what a call of the reference leaves -/
def RKz (s s' : yS) : Prop := RKq s s' ∧ RKe s s'
section ZWC
variable {K L W ar : Int → Int} {n m : Int} {h h1 : xH} {s s' : yS} {z z1 : zS} {C S cs sl : Nat} {v : Option Value}
theorem RL_k (hP : PRm K L W ar (kdF K L (lsF K L)) n 0 m (tnF K (lsF K L)) (lsF K L)) (hI : RIv s) (r : s'.1 29 = s.1 29) (hF : ∀ nb : Nat, nb < 2 → (s.1 29).toInt = (nb : Int) → RWel s 0 [40000, 40008, 40016, 40024, 40032, 40040] → RFb (nb : Int) s s') (hc : ∀ nb : Nat, nb < 2 → (s.1 29).toInt = (nb : Int) → s'.2.1 233 nb = s.2.1 233 nb ∧ s'.2.1 252 nb = s.2.1 252 nb) (g : RLq K L W ar n m s) : RLq K L W ar n m s' := by
  obtain ⟨⟨g1, gc⟩, g2⟩ := g
  have gc' := RCn_k hI r hc gc
  obtain ⟨nb, a1, a2, -⟩ := hI
  obtain ⟨A, A0, A1, -, q2, -⟩ := id g1
  have hw : RWel s 0 [40000, 40008, 40016, 40024, 40032, 40040] := q2.1.2.2.2.2.2.1
  refine ⟨⟨?_, gc'⟩, g2⟩
  rw [r]
  rw [a2] at g1 ⊢
  exact RLd_b hP (hF nb a1 a2 hw) g1
theorem LP_k (k : KZo z z1) (r : RK5 s s') (hc : (s.1 90).toInt = 0 → RCn 0 0 s → RCn 0 0 s') (g : LPz C z s) (hp : ¬ (s.1 90).toInt = 0 → ∃ (K L W ar : Int → Int) (n m : Int), PLz K L W ar n m C (gz z1) z1 ∧ RLq K L W ar n m s') : LPz C z1 s' := by
  obtain ⟨⟨h1, h2, h3, h4⟩, -⟩ := g
  obtain ⟨r29, r90, r92, r93, r94, r95⟩ := r
  refine ⟨⟨?_, ?_, ⟨?_, ?_, ?_⟩, fun w => hc (by rw [← r90]; exact w) (h4 (by rw [← r90]; exact w))⟩, fun w => hp (by rw [← r90]; exact w)⟩
  · rw [k 0 12 (by decide), r94]
    exact h1
  · rw [k 0 11 (by decide), r90]
    exact h2
  · rw [k 105 11 (by decide), k 105 10 (by decide), r93, r95]
    exact h3.1
  · rw [k 105 13 (by decide), k 105 12 (by decide), r92]
    exact h3.2.1
  · rw [k 105 13 (by decide), r92]
    exact h3.2.2
theorem cz_of {d j : Nat} {U : List (Nat × Nat)} {c c' : zW} {vs : List Value} {Q : Option Value → zS → Prop} (hI : INV h) (hz : zI h z) (hc : ∀ p ∈ c, fld h p.1 p.2.1 = some (.ref p.2.2)) (e : yex 1514 j vs h = some (v, h1, cs, sl)) (hZ : Zu d U c c' j vs z Q) : ∃ z1, Q v z1 ∧ zI h1 z1 ∧ FVz (wrt c j vs) z z1 ∧ CSX U h h1 cs sl := by
  obtain ⟨v', h', cs', sl', s', p1, p2, p3, p4⟩ := hZ h hI ⟨hz, hc⟩
  have u := yex_u p4 e
  simp only [Prod.mk.injEq] at u
  obtain ⟨rfl, rfl, rfl, rfl⟩ := u
  exact ⟨s', p1, p2.1, p3.2, p3.1⟩
/-- what of the program a call leaves -/
def HZk (h h1 : xH) : Prop := ∀ (C : Nat) (z : zS), (C = 3 ∨ C = 39) → zI h z → fld h 0 9 = some (.ref C) → (∀ (K L W ar : Int → Int) (n m : Int), PLz K L W ar n m C (gz z) z → ∃ z1, zI h1 z1 ∧ PLz K L W ar n m C (gz z1) z1 ∧ OZo z z1 ∧ PZk C z z1 ∧ MZo z z1) ∧ ∃ z1, zI h1 z1 ∧ OZo z z1 ∧ MZo z z1
theorem LPr_k {Wl : List (Nat × Nat)} (hL : LSr h s) (hc : CST Wl h h1 cs sl) (w1 : kzW Wl = true) (w2 : wmem (11, 9) Wl = false) (w3 : wmem (11, 10) Wl = false) (hz : HZk h h1) (rz : RKz s s') : LPr h1 s' := by
  obtain ⟨r, re⟩ := rz
  obtain ⟨hS, z, C, S, q1, q2, q3, q4, q5, q6, q7⟩ := hL
  have hC : C = 3 ∨ C = 39 := by omega
  have f9 : fld h1 0 9 = some (.ref C) := (hc.2.1.2 0 9 (by decide) (wmem_no (by rw [show wc 0 = 11 by decide +kernel]; exact w2))).trans q3
  have f10 : fld h1 0 10 = some (.ref S) := (hc.2.1.2 0 10 (by decide) (wmem_no (by rw [show wc 0 = 11 by decide +kernel]; exact w3))).trans q4
  by_cases h90 : (s.1 90).toInt = 0
  · obtain ⟨z1, e1, eo, em⟩ := (hz C z hC q1 q3).2
    refine ⟨z1, C, S, e1, q2, f9, f10, ?_, LPe_k hC (KZ_of w1 q1 e1 hc 105 13 (by decide)) eo re.1 q6 (fun w => absurd h90 w), MKl_k (KZ_of w1 q1 e1 hc 197 8 (by decide)) (KZ_of w1 q1 e1 hc 197 9 (by decide)) em r.1.2.1 re.2 q7⟩
    exact LP_k (KZ_o (KZ_of w1 q1 e1 hc)) r.1 (fun _ w => RCn_k hS.2.2.1 r.1.1 (fun nb w1 _ => r.2.1 nb w1) w) q5 (fun w => absurd h90 w)
  · obtain ⟨K, L, Wf, ar, n, m, g1, g2⟩ := q5.2 h90
    obtain ⟨z1, e1, e2, eo, ek, em⟩ := (hz C z hC q1 q3).1 K L Wf ar n m g1
    refine ⟨z1, C, S, e1, q2, f9, f10, ?_, LPe_k hC (KZ_of w1 q1 e1 hc 105 13 (by decide)) eo re.1 q6 (fun _ => ek), MKl_k (KZ_of w1 q1 e1 hc 197 8 (by decide)) (KZ_of w1 q1 e1 hc 197 9 (by decide)) em r.1.2.1 re.2 q7⟩
    exact LP_k (KZ_o (KZ_of w1 q1 e1 hc)) r.1 (fun _ w => RCn_k hS.2.2.1 r.1.1 (fun nb w1 _ => r.2.1 nb w1) w) q5 (fun _ => ⟨K, L, Wf, ar, n, m, e2, RL_k g1.1 hS.2.2.1 r.1.1 (fun nb w1 _ w3 => r.2.2 nb w1 w3) (fun nb w1 _ => r.2.1 nb w1) g2⟩)
theorem fvq_of {V : List (Nat × Nat)} (hC : C = 3 ∨ C = 39) (g : FVz V z z1) : FVq V C z z1 := by
  rcases hC with rfl | rfl
  · exact g.1
  · exact g.2.1
/-- marks are no programs -/
theorem wrt_n {j : Nat} {vs : List Value} {c : zW} (hC : C = 3 ∨ C = 39) (hw : wcl j = 0) (k : Nat) : ¬ (C, k) ∈ wrt c j vs := by
  unfold wrt wrP
  rw [hw]
  intro q
  have q : (C, k) ∈ mks j := by
    rcases List.mem_append.mp q with q | q
    · cases q
    · exact q
  have := mks_0 q
  have : C = 0 := this
  omega
/-- a call that writes nothing of the programs -/
theorem hz_n {d j : Nat} {U : List (Nat × Nat)} {c' : zW} {vs : List Value} {Q : Option Value → zS → Prop} (hI : INV h) (e : yex 1514 j vs h = some (v, h1, cs, sl)) (hw : wcl j = 0) (hm : mks j = []) (hZ : ∀ (C : Nat) (z : zS), (C = 3 ∨ C = 39) → Zu d U [(0, 9, C)] c' j vs z Q) : HZk h h1 := fun C z hC hz f0 => by
  obtain ⟨z1, -, p2, p3, -⟩ := cz_of hI hz (cw_of f0) e (hZ C z hC)
  have m0 : ∀ p, ¬ p ∈ mks j := fun p w => by
    rw [hm] at w
    cases w
  have wm : ∀ p : Nat × Nat, ¬ p ∈ wrt [(0, 9, C)] j vs := fun p w => by
    unfold wrt wrP at w
    rw [hw] at w
    rcases List.mem_append.mp w with w | w
    · cases w
    · exact m0 p w
  exact ⟨fun K L W ar n m g => ⟨z1, p2, PL_n hC (fvq_of hC p3) (wm _) (wm _) ⟨rfl, rfl⟩ g, OZ_v p3 (wm _), PZ_v hC p3 (wm _) (wm _) (wm _), MZ_v p3 (wm _)⟩, z1, p2, OZ_v p3 (wm _), MZ_v p3 (wm _)⟩
theorem sn_z (hE : EXh h) (hz : zI h z) : SNz z := fun a ha i => by
  have := hE.2.1 a ha i
  rw [hz.2 a (sk_row ha) i] at this
  exact this
theorem kk_z (hz : zI h z) (hJ : JJ h) (hE : EXh h) (hP : C = 3 ∨ C = 39) (f0 : fld h 0 9 = some (.ref C)) : ¬ (z.1 0 11).toInt = 0 → 18 ≤ (z.1 C 10).toInt ∧ (z.1 C 10).toInt ≤ 1300000000 := fun n => by
  have e11 := hz.1 0 11 (by decide +kernel)
  have eP := hz.1 C 10 (kz_if hP)
  constructor
  · rcases hE.2.2 with q | q
    · rw [q] at e11
      rw [← Value.int.inj (Option.some.inj e11)] at n
      exact absurd (by decide) n
    · obtain ⟨y, y1, y2⟩ := q C f0
      rw [y1] at eP
      rw [← Value.int.inj (Option.some.inj eP)]
      exact y2
  · obtain ⟨x, y, j1, j2, j3, j4⟩ := hJ
    rcases hP with rfl | rfl
    · rw [j1] at eP
      rw [← Value.int.inj (Option.some.inj eP)]
      omega
    · rw [j3] at eP
      rw [← Value.int.inj (Option.some.inj eP)]
      omega
/-- implementing, isMade -/
theorem LP_ask {j : Nat} (hL : LSr h s) (hZ : ∀ (C : Nat) (z : zS), (C = 3 ∨ C = 39) → (¬ (z.1 0 11).toInt = 0 → 18 ≤ (z.1 C 10).toInt ∧ (z.1 C 10).toInt ≤ 1300000000) → SNz z → Zu 162 [(75, 0), (75, 1), (75, 2), (83, 1), (83, 2)] [(0, 9, C)] [] j [.ref 0] z (fun _ s' => RDw C z s' ∧ s'.1 C 10 = z.1 C 10)) (hV : ∀ C, (C = 3 ∨ C = 39) → ¬ (C, 99) ∈ wrt [(0, 9, C)] j [.ref 0] ∧ ¬ (0, 111) ∈ wrt [(0, 9, C)] j [.ref 0] ∧ ¬ (0, 207) ∈ wrt [(0, 9, C)] j [.ref 0] ∧ ¬ (0, 198) ∈ wrt [(0, 9, C)] j [.ref 0]) (e : yex 1514 j [.ref 0] h = some (v, h1, cs, sl)) (rz : RKz s s') : LPr h1 s' := by
  obtain ⟨r, re⟩ := rz
  obtain ⟨hS, z, C, S, q1, q2, q3, q4, q5, q6, q7⟩ := hL
  have hC : C = 3 ∨ C = 39 := by omega
  obtain ⟨a1, a2, a3, -, -, -, a7⟩ := id hS
  obtain ⟨z1, ⟨p1, p2⟩, p3, p4, p5⟩ := cz_of a1 q1 (cw_of q3) e (hZ C z hC (kk_z q1 a2 a7 hC q3) (sn_z a7 q1))
  have k : KZ z z1 := fun a k hk => by
    rcases hk with ⟨rfl, rfl | rfl⟩ | ⟨rfl, -⟩ | ⟨rfl, -⟩
    · exact p1.2.2.1
    · exact p1.2.2.2.1
    · exact p1.2.2.2.2.1 k
    · exact p1.2.2.2.2.2 k
  have eg : gz z1 = gz z := by
    unfold gz
    rw [p1.2.2.1, p1.2.2.2.1]
  have hE : LPe C z1 s' := LPe_k hC (k 105 13 (by decide)) (OZ_v p4 (hV C hC).2.2.1) re.1 q6 (fun w => by
    obtain ⟨K, L, Wf, ar, n, m, ⟨-, -, k0', k', zz', G, -⟩, -⟩ := q5.2 w
    have hk : 18738 ≤ (z.1 C 10).toInt := by
      rw [G.2.2.2.2.1.2.1]
      exact G.2.1.2.1
    exact PZ_w hC p4 (hV C hC).1 (hV C hC).2.1 p2 (fun j hj => p1.1 j (by omega)))
  refine ⟨z1, C, S, p3, q2, (p5.2.1.2 0 9 (by decide +kernel) (by decide)).trans q3, (p5.2.1.2 0 10 (by decide +kernel) (by decide)).trans q4, LP_k (KZ_o k) r.1 (fun _ w => RCn_k a3 r.1.1 (fun nb w1 _ => r.2.1 nb w1) w) q5 (fun w => ?_), hE, MKl_k (k 197 8 (by decide)) (k 197 9 (by decide)) (MZ_v p4 (hV C hC).2.2.2) r.1.2.1 re.2 q7⟩
  obtain ⟨K, L, Wf, ar, n, m, g1, g2⟩ := q5.2 w
  refine ⟨K, L, Wf, ar, n, m, ?_, RL_k g1.1 a3 r.1.1 (fun nb w1 _ w3 => r.2.2 nb w1 w3) (fun nb w1 _ => r.2.1 nb w1) g2⟩
  rw [eg]
  exact PL_a hC (fvq_of hC p4) (hV C hC).1 p1 p2 g1
theorem wc_100 : ∀ a, a < 213 → wc a = 100 → a = 1 := by decide +kernel
/-- feed -/
theorem LP_feed {x : Int32} {p : (Nat → Int32) × Int32} (hL : LSr h s) (e2 : CST [(100, 1), (100, 2)] h h1 cs sl) (e3 : fld h1 1 2 = some (.int x)) (e4 : fdC p h h1) (r : RKz s s') : LPr h1 s' := by
  refine LPr_k hL e2 rfl rfl rfl (fun C z hC hz _ => ?_) r
  obtain ⟨z1, hz1⟩ : ∃ z1 : zS, z1 = (fun a k => if a = 1 ∧ k = 2 then x else z.1 a k, fun a i => if a = 1 then rv h1 1 i else z.2 a i) := ⟨_, rfl⟩
  have zf : ∀ a k, z1.1 a k = if a = 1 ∧ k = 2 then x else z.1 a k := fun a k => by rw [hz1]
  have zr : ∀ a i, z1.2 a i = if a = 1 then rv h1 1 i else z.2 a i := fun a i => by rw [hz1]
  clear hz1
  have zi : zI h1 z1 := by
    refine ⟨fun a k hk => ?_, fun a ha i => ?_⟩
    · rw [zf]
      by_cases e : a = 1 ∧ k = 2
      · rw [if_pos e, e.1, e.2]
        exact e3
      · rw [if_neg e, e2.2.1.2 a k (isIf_lt hk) (fun w => ?_)]
        · exact hz.1 a k hk
        · rcases List.mem_cons.mp w with w | w
          · have w1 : wc a = 100 := congrArg Prod.fst w
            have w2 : k = 1 := congrArg Prod.snd w
            rw [wc_100 a (isIf_lt hk) w1, w2] at hk
            exact absurd hk (by decide +kernel)
          · have w := List.mem_singleton.mp w
            exact e ⟨wc_100 a (isIf_lt hk) (congrArg Prod.fst w), congrArg Prod.snd w⟩
    · rw [zr]
      by_cases e : a = 1
      · rw [if_pos e, e]
      · rw [if_neg e, e4.2 a ha e i]
        exact hz.2 a ha i
  have n1 : ∀ a, pTb C a = true → ¬ a = 1 := fun a ha e => by
    rw [e] at ha
    rcases hC with rfl | rfl <;> exact absurd ha (by decide)
  have n2 : ∀ a, pWd C a = true → ¬ a = 1 := fun a ha e => by
    rw [e] at ha
    rcases hC with rfl | rfl <;> exact absurd ha (by decide)
  have hv : FVq [] C z z1 := ⟨fun _ => ⟨fun a ha => ⟨funext fun i => by rw [zr, if_neg (n1 a ha)], by rw [zf, if_neg (fun w => n1 a ha w.1)]⟩, fun k _ => by rw [zf, if_neg (fun w => by omega)]⟩, fun _ _ => ⟨fun a ha => funext fun i => by rw [zr, if_neg (n2 a ha)], by rw [zf, if_neg (fun w => by omega)], by rw [zf, if_neg (fun w => by omega)]⟩⟩
  have ho : OZo z z1 := ⟨funext fun i => by rw [zr, if_neg (by decide)], by rw [zf, if_neg (by decide)]⟩
  have hm : MZo z z1 := ⟨by rw [zf, if_neg (by decide)], by rw [zf, if_neg (by decide)], by rw [zf, if_neg (by decide)]⟩
  have hk : PZk C z z1 := ⟨⟨fun a ha => ⟨funext fun i => by rw [zr, if_neg (n1 a ha)], by have b := pTb_b ha; rw [zf, if_neg (fun w => by omega)]⟩, funext fun i => by rw [zr, if_neg (by decide)]⟩, fun j _ => by rw [zr, if_neg (by omega)], by rw [zf, if_neg (fun w => by omega)], by rw [zf, if_neg (fun w => by omega)], by rw [zf, if_neg (by decide)]⟩
  exact ⟨fun K L W ar n m g => ⟨z1, zi, PL_n hC hv List.not_mem_nil List.not_mem_nil ⟨rfl, rfl⟩ g, ho, hk, hm⟩, z1, zi, ho, hm⟩
theorem Y_feed (hL : LSr h s) (a b c : Int64) : PXr 139 [.ref 0, .long a, .long b, .long c] 154 [.ref 213, .long a, .long b, .long c] h True := by
  obtain ⟨l1, l2, l3, l4, l5, l6, l7⟩ := id hL.1
  obtain ⟨h1, cs, sl, e1, e2, e3, e4⟩ := y_139c (d := 0) (a := a) (b := b) (c := c) l1 l5
  have hT := Tot_par (Tot_and (R_154 (a := a) (b := b) (c := c) l3) (Tot_and (rk_154 l3) (re_154 l3))) (Nat.le_refl _) (x_154 (a := a) (b := b) (c := c))
  have hAg : Agt (rv h 1, s.1 2) (s.2.1 214, s.1 2) := ⟨rfl, fun i hi => l6 i hi⟩
  have hAf := fdk_ag (a := a) (b := b) (c := c) hAg
  refine pair_r (R := fun r s' => (r = feedn a b c (s.1 2) ∧ s'.1 2 = feedn a b c (s.1 2) ∧ (s'.2.1 214, s'.1 2) = fdk a b c (s.2.1 214, s.1 2)) ∧ RKz s s') hL.1 (yex_mono (by decide) _ _ _ _ e1) (cp_of e2 (JJ_fr e2 rfl l2)) e3 ?_ (Tot.imp hT (fun v s' q => ?_)) (by decide) (fun r s' q => ⟨q.1.2.1.symm, fun i hi => ?_, fun _ => q.1.1.symm⟩) (fun r s' q _ => LP_feed hL e2 e3 e4 q.2)
  · refine ⟨fun x hx i hi => ?_, fun x hx i => ?_, (KL_fr e2 rfl rfl rfl l1).2 l7.2.2⟩
    · rw [e4.2 x (wk_row hx) (by omega) i]
      exact l7.1 x hx i hi
    · rw [e4.2 x (sk_row hx) (fun w => by rw [w] at hx; exact absurd hx (by decide)) i]
      exact l7.2.1 x hx i
  · obtain ⟨⟨⟨q1, q2, q3⟩, qk⟩, q4, q5⟩ := q
    exact ⟨_, q1, ⟨⟨rfl, q2, q5⟩, qk⟩, q3⟩
  · rw [← q.1.2.2] at hAf
    have hs : (fdk a b c (rv h 1, s.1 2)).2 = s'.1 2 := hAf.1
    rw [e4.1 i]
    exact hAf.2 i (by rw [hs]; exact hi)
theorem r_keep {d j : Nat} {vs : List Value} {Rv : Int32 → Prop} (g1 : Tot d j vs s (fun v s' => (∃ r : Int32, v = some (.int r)) ∧ (s'.1 2 = s.1 2 ∧ s'.2.1 214 = s.2.1 214) ∧ RIv s')) (g2 : Tot d j vs s (fun _ s' => RKz s s')) (g3 : Tot d j vs s (fun v _ => ∀ r : Int32, v = some (.int r) → Rv r)) : Tot d j vs s (fun v s' => ∃ r : Int32, v = some (.int r) ∧ (((s'.1 2 = s.1 2 ∧ s'.2.1 214 = s.2.1 214) ∧ RKz s s') ∧ Rv r) ∧ RIv s') := Tot.imp (Tot_and (Tot_and g1 g2) g3) (fun v s' q => by
  obtain ⟨⟨⟨⟨r, rfl⟩, q2, q3⟩, q4⟩, q5⟩ := q
  exact ⟨r, rfl, ⟨⟨q2, q4⟩, q5 r rfl⟩, q3⟩)
/-- a call that leaves the text; E: compared -/
theorem Y_keep {i i' d dc : Nat} {q : cSg} {vs vs' : List Value} {E : Prop} {Rv : Int32 → Prop} (hL : LSr h s) (hc : CTR (yex dc) i q) (hd : dc ≤ 1514) (h1 : wmem (100, 2) q.2.2 = false) (h0 : wmem (100, 1) q.2.2 = false) (h2 : wmem (4, 10) q.2.2 = false) (hr : q.2.1 = some kint) (ha : aOK q.1 vs) (k1 : kzW q.2.2 = true) (k2 : wmem (11, 9) q.2.2 = false) (k3 : wmem (11, 10) q.2.2 = false) (hS : ∀ v h1 cs sl, yex 1514 i vs h = some (v, h1, cs, sl) → EXh h1) (hz : ∀ v h1 cs sl, yex 1514 i vs h = some (v, h1, cs, sl) → HZk h h1) (ht : Tot d i' vs' s (fun v s' => ∃ r : Int32, v = some (.int r) ∧ (((s'.1 2 = s.1 2 ∧ s'.2.1 214 = s.2.1 214) ∧ RKz s s') ∧ Rv r) ∧ RIv s')) (hd' : d ≤ 1514) (hE : ∀ (x : Int32) (h1 : xH) (cs sl : Nat), yex 1514 i vs h = some (some (.int x), h1, cs, sl) → ∀ r, Rv r → E → x = r) : PXr i vs i' vs' h E := by
  obtain ⟨l1, l2, l3, l4, l5, l6, l7⟩ := id hL.1
  obtain ⟨v, h', cs, sl, e, e2, e3⟩ := hc h vs l1 ha
  rw [hr] at e2
  obtain ⟨u, rfl, x, rfl, -⟩ := e2
  have e' := yex_mono hd _ _ _ _ e
  have hrc : rc h' 1 = rc h 1 := e3.2.1.1.2.2.resolve_left (wmem_no h0)
  refine pair_r (R := fun r s' => ((s'.1 2 = s.1 2 ∧ s'.2.1 214 = s.2.1 214) ∧ RKz s s') ∧ Rv r) hL.1 e' (cp_of e3 (JJ_fr e3 h2 l2)) ((z_fr e3 h1).trans l5) (hS _ _ _ _ e') ht hd' (fun r s' g => ⟨g.1.1.1.symm, fun j hj => ?_, fun w => hE x h' cs sl e' r g.2 w⟩) (fun r s' g _ => LPr_k hL e3 k1 k2 k3 (hz _ _ _ _ e') g.1.2)
  rw [rv_same hrc j, g.1.1.2]
  exact l6 j (by rw [← g.1.1.1]; exact hj)
theorem Y_clear {i i' d : Nat} {vs vs' : List Value} {v : Int32} (hL : LSr h s) (e1 : yex 1514 i vs h = some (some (.int v), h1, cs, sl)) (hc : CPq h h1 cs sl) (hz : fld h1 1 2 = some (.int 0)) (hS : EXh h1) (ht : Tot d i' vs' s (fun v s' => (∃ r : Int32, v = some (.int r)) ∧ (s'.1 2).toInt = 0 ∧ RIv s')) (hk : Tot d i' vs' s (fun _ s' => RKz s s')) (hd' : d ≤ 1514) (hP : ∀ s', RKz s s' → LPr h1 s') : PXr i vs i' vs' h False :=
  pair_r (R := fun _ s' => (s'.1 2).toInt = 0 ∧ RKz s s') hL.1 e1 hc hz hS (Tot.imp (Tot_and ht hk) (fun v s' q => by
    obtain ⟨⟨⟨r, rfl⟩, q2, q3⟩, q4⟩ := q
    exact ⟨r, rfl, ⟨q2, q4⟩, q3⟩)) hd' (fun r s' q => ⟨(z32.mp q.1).symm, fun j hj => by have := q.1; omega, fun w => absurd w id⟩) (fun r s' q _ => hP s' q.2)
theorem Y_implementing (hL : LSr h s) : PXr 141 [.ref 0] 236 [.ref 213] h False := by
  obtain ⟨v, h1, cs, sl, e1, e2, e3⟩ := cp_141 hL.1.1 hL.1.2.1
  obtain ⟨P, hP, f0⟩ := cur_of hL.1.1
  exact Y_clear hL e1 e2 e3 (EX_of hL.1.1 hL.1.2.2.2.2.2.2 (by decide) (cw_of f0) (zw_141 (d := 0) hP (kk_of hL.1.1 hL.1.2.1 hL.1.2.2.2.2.2.2 hP f0) (SN_st hL.1.2.2.2.2.2.2)) _ _ _ _ e1) (R_236 hL.1.2.2.1) (Tot_and (rk_236 hL.1.2.2.1) (re_236 hL.1.2.2.1)) (by decide) (fun s' q => LP_ask hL (fun C z hC hk hN => zw_141w (d := 0) hC hk hN) (fun C hC => by rcases hC with rfl | rfl <;> exact ⟨by decide +kernel, by decide +kernel, by decide +kernel, by decide +kernel⟩) e1 q)
theorem Y_isMade (hL : LSr h s) : PXr 147 [.ref 0] 260 [.ref 213] h False := by
  obtain ⟨v, h1, cs, sl, e1, e2, e3⟩ := cp_147 hL.1.1 hL.1.2.1
  obtain ⟨P, hP, f0⟩ := cur_of hL.1.1
  exact Y_clear hL e1 e2 e3 (EX_of hL.1.1 hL.1.2.2.2.2.2.2 (by decide) (cw_of f0) (zw_147 (d := 0) hP (kk_of hL.1.1 hL.1.2.1 hL.1.2.2.2.2.2.2 hP f0) (SN_st hL.1.2.2.2.2.2.2)) _ _ _ _ e1) (R_260 hL.1.2.2.1) (Tot_and (rk_260 hL.1.2.2.1) (re_260 hL.1.2.2.1)) (by decide) (fun s' q => LP_ask hL (fun C z hC hk hN => zw_147w (d := 0) hC hk hN) (fun C hC => by rcases hC with rfl | rfl <;> exact ⟨by decide +kernel, by decide +kernel, by decide +kernel, by decide +kernel⟩) e1 q)
end ZWC
