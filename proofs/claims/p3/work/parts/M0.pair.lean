/-! ===== a call of the class, and the same call of the reference ===== -/
/-- what both programs keep is bounded -/
def JJ (h : xH) : Prop := ∃ x y : Int32, fld h 3 10 = some (.int x) ∧ x.toInt ≤ 1200000000 ∧ fld h 39 10 = some (.int y) ∧ y.toInt ≤ 1200000000
def CPq (h h1 : xH) (cs sl : Nat) : Prop := INV h1 ∧ JJ h1 ∧ (∀ a, 213 ≤ a → a < 288 → h1[a]? = h[a]?) ∧ h1.length = h.length + cs ∧ Sh h1 = Sh h + sl
theorem cp_of {W : List (Nat × Nat)} {h h1 : xH} {cs sl : Nat} (hc : CST W h h1 cs sl) (hJ : JJ h1) : CPq h h1 cs sl := ⟨hc.1, hJ, hc.2.1.1.1, hc.2.2.1, hc.2.2.2⟩
theorem JJ_fr {W : List (Nat × Nat)} {h h1 : xH} {cs sl : Nat} (hc : CST W h h1 cs sl) (hW : wmem (4, 10) W = false) (hJ : JJ h) : JJ h1 := by
  obtain ⟨x, y, a1, a2, a3, a4⟩ := hJ
  exact ⟨x, y, (hc.2.1.2 3 10 (by decide) (wmem_no (by rw [show wc 3 = 4 by decide +kernel]; exact hW))).trans a1, a2, (hc.2.1.2 39 10 (by decide) (wmem_no (by rw [show wc 39 = 4 by decide +kernel]; exact hW))).trans a3, a4⟩
theorem z_fr {W : List (Nat × Nat)} {h h1 : xH} {cs sl : Nat} (hc : CST W h h1 cs sl) (hW : wmem (100, 2) W = false) : fld h1 1 2 = fld h 1 2 := hc.2.1.2 1 2 (by decide) (wmem_no (by rw [show wc 1 = 100 by decide +kernel]; exact hW))
theorem ws_84 {P : Nat} (hP : P = 3 ∨ P = 39) {c : List (Nat × Nat × Nat)} {h : xH} (hI : INV h) (hJ : JJ h) (hc : ∀ p ∈ c, fld h p.1 p.2.1 = some (.ref p.2.2)) : ∃ sa sk sf sc sz : Int32, wsQ ((84, 5), P, c) h (sa, sk, sf, sc, sz) ∧ 0 ≤ sk.toInt ∧ sk.toInt ≤ 1200000000 := by
  obtain ⟨sa, a1, -⟩ := isIf_ok (a := 84) (k := 5) hI (by decide +kernel)
  obtain ⟨sz, z1, -⟩ := isIf_ok (a := 1) (k := 2) hI (by decide +kernel)
  obtain ⟨x, y, j1, j2, j3, j4⟩ := hJ
  rcases hP with rfl | rfl
  · obtain ⟨sk, k1, k2⟩ := isIf_ok (a := 3) (k := 10) hI (by decide +kernel)
    obtain ⟨sf, f1, -⟩ := isIf_ok (a := 3) (k := 14) hI (by decide +kernel)
    obtain ⟨sc, c1, -⟩ := isIf_ok (a := 37) (k := 2) hI (by decide +kernel)
    have k3 := k2 0 2000000000 (by decide +kernel)
    rw [j1] at k1
    cases k1
    exact ⟨sa, x, sf, sc, sz, ⟨⟨a1, j1, f1, c1, z1, y, j3, Or.inl j4⟩, hc⟩, k3.1, j2⟩
  · obtain ⟨sk, k1, k2⟩ := isIf_ok (a := 39) (k := 10) hI (by decide +kernel)
    obtain ⟨sf, f1, -⟩ := isIf_ok (a := 39) (k := 14) hI (by decide +kernel)
    obtain ⟨sc, c1, -⟩ := isIf_ok (a := 73) (k := 2) hI (by decide +kernel)
    have k3 := k2 0 2000000000 (by decide +kernel)
    rw [j3] at k1
    cases k1
    exact ⟨sa, y, sf, sc, sz, ⟨⟨a1, j3, f1, c1, z1, x, j1, Or.inl j2⟩, hc⟩, k3.1, j4⟩
theorem JJ_ws {P : Nat} (hP : P = 3 ∨ P = 39) {c : List (Nat × Nat × Nat)} {h : xH} {s : sW} (hs : wsQ ((84, 5), P, c) h s) (hk : s.2.1.toInt ≤ 1200000000) : JJ h := by
  obtain ⟨⟨-, k1, -, -, -, x, x1, x2⟩, -⟩ := hs
  have x3 : x.toInt ≤ 1200000000 := x2.resolve_right (fun w => absurd (show (84 : Nat) = 82 from w) (by decide))
  rcases hP with rfl | rfl
  · exact ⟨s.2.1, x, k1, hk, x1, x3⟩
  · exact ⟨x, s.2.1, x1, x3, k1, hk⟩
/-- a method by its contract -/
theorem cp_ctr {d j : Nat} {q : cSg} (hc : CTR (yex d) j q) (hd : d ≤ 1514) (h1 : wmem (100, 2) q.2.2 = false) (h2 : wmem (4, 10) q.2.2 = false) (hr : q.2.1 = some kint) {h : xH} (hI : INV h) (hJ : JJ h) {vs : List Value} (ha : aOK q.1 vs) : ∃ (v : Int32) (h1 : xH) (cs sl : Nat), yex 1514 j vs h = some (some (.int v), h1, cs, sl) ∧ CPq h h1 cs sl ∧ fld h1 1 2 = fld h 1 2 := by
  obtain ⟨v, h', cs, sl, e, e2, e3⟩ := hc h vs hI ha
  rw [hr] at e2
  obtain ⟨u, rfl, x, rfl, -⟩ := e2
  exact ⟨x, h', cs, sl, yex_mono hd _ _ _ _ e, cp_of e3 (JJ_fr e3 h2 hJ), z_fr e3 h1⟩
theorem cp_139 {h : xH} {a b c : Int64} {z : Int32} (hI : INV h) (hJ : JJ h) (hz : fld h 1 2 = some (.int z)) : ∃ (h1 : xH) (cs sl : Nat), yex 1514 139 [.ref 0, .long a, .long b, .long c] h = some (some (.int (feedn a b c z)), h1, cs, sl) ∧ CPq h h1 cs sl ∧ fld h1 1 2 = some (.int (feedn a b c z)) := by
  obtain ⟨h', cs, sl, e1, e2, e3⟩ := y_139 (d := 0) (a := a) (b := b) (c := c) hI hz
  exact ⟨h', cs, sl, yex_mono (by decide) _ _ _ _ e1, cp_of e2 (JJ_fr e2 rfl hJ), e3⟩
theorem cp_140 {h : xH} (hI : INV h) (hJ : JJ h) : ∃ (v : Int32) (h1 : xH) (cs sl : Nat), yex 1514 140 [.ref 0] h = some (some (.int v), h1, cs, sl) ∧ CPq h h1 cs sl ∧ fld h1 1 2 = some (.int 0) := by
  obtain ⟨-, v0, -, -, e0, C, rfl, hC⟩ := fl_of (a := 0) (k := 9) (K := .inr (.inl [3, 39])) hI (by decide +kernel) (by decide +kernel)
  obtain ⟨-, v1, -, -, e1, P, rfl, hP⟩ := fl_of (a := 0) (k := 10) (K := .inr (.inl [3, 39])) hI (by decide +kernel) (by decide +kernel)
  have hC := in2 hC
  have hP := in2 hP
  obtain ⟨sa, sk, sf, sc, sz, hs, -⟩ := ws_84 (c := [(0, 9, C), (0, 10, P)]) hP hI hJ (fun p hp => by
    rcases List.mem_cons.mp hp with rfl | hp
    · exact e0
    · rw [List.mem_singleton.mp hp]
      exact e1)
  obtain ⟨v, h', cs, sl, s', ⟨⟨r, rfl⟩, q1, q2⟩, q3, q4, q5⟩ := v_140 (D := 37) hP hC (by decide) hE_all h_w37 h_w128 h_w5 h_w140 (Q := fun v s => (∃ r : Int32, v = some (.int r)) ∧ s.2.1.toInt ≤ 1200000000 ∧ s.2.2.2.2 = 0) (fun r a k f c k1 k2 => ⟨⟨r, rfl⟩, k2, rfl⟩) h hI hs
  refine ⟨r, h', cs, sl, yex_mono (by decide) _ _ _ _ q5, cp_of q4 (JJ_ws hP q3 q1), ?_⟩
  have := q3.1.2.2.2.2.1
  rw [q2] at this
  exact this
theorem cp_141 {h : xH} (hI : INV h) (hJ : JJ h) : ∃ (v : Int32) (h1 : xH) (cs sl : Nat), yex 1514 141 [.ref 0] h = some (some (.int v), h1, cs, sl) ∧ CPq h h1 cs sl ∧ fld h1 1 2 = some (.int 0) := by
  obtain ⟨-, v0, -, -, e0, P, rfl, hP⟩ := fl_of (a := 0) (k := 9) (K := .inr (.inl [3, 39])) hI (by decide +kernel) (by decide +kernel)
  have hP := in2 hP
  obtain ⟨sa, sk, sf, sc, sz, hs, h1, h2⟩ := ws_84 (c := [(0, 9, P)]) hP hI hJ (fun p hp => by rw [List.mem_singleton.mp hp]; exact e0)
  obtain ⟨v, h', cs, sl, s', ⟨⟨r, rfl⟩, q1, q2⟩, q3, q4, q5⟩ := v_141 (D := 37) hP (by decide) hE_all h_w1 h_w152 h_w141 (Q := fun v s => (∃ r : Int32, v = some (.int r)) ∧ s.2.1.toInt ≤ 1200000000 ∧ s.2.2.2.2 = 0) h1 h2 (fun r f => ⟨⟨r, rfl⟩, h2, rfl⟩) h hI (show wsQ (wk_141 P 0) h (sa, sk, sf, sc, sz) from hs)
  refine ⟨r, h', cs, sl, yex_mono (by decide) _ _ _ _ q5, cp_of q4 (JJ_ws (c := [(0, 9, P)]) hP q3 q1), ?_⟩
  have := q3.1.2.2.2.2.1
  rw [q2] at this
  exact this
theorem cp_147 {h : xH} (hI : INV h) (hJ : JJ h) : ∃ (v : Int32) (h1 : xH) (cs sl : Nat), yex 1514 147 [.ref 0] h = some (some (.int v), h1, cs, sl) ∧ CPq h h1 cs sl ∧ fld h1 1 2 = some (.int 0) := by
  obtain ⟨-, v0, -, -, e0, P, rfl, hP⟩ := fl_of (a := 0) (k := 9) (K := .inr (.inl [3, 39])) hI (by decide +kernel) (by decide +kernel)
  have hP := in2 hP
  obtain ⟨sa, sk, sf, sc, sz, hs, h1, h2⟩ := ws_84 (c := [(0, 9, P)]) hP hI hJ (fun p hp => by rw [List.mem_singleton.mp hp]; exact e0)
  obtain ⟨v, h', cs, sl, s', ⟨⟨r, rfl⟩, q1, q2⟩, q3, q4, q5⟩ := v_147 (D := 37) hP (by decide) hE_all h_w1 h_w152 h_w147 (Q := fun v s => (∃ r : Int32, v = some (.int r)) ∧ s.2.1.toInt ≤ 1200000000 ∧ s.2.2.2.2 = 0) h1 h2 (fun r f => ⟨⟨r, rfl⟩, h2, rfl⟩) h hI (show wsQ (wk_147 P 0) h (sa, sk, sf, sc, sz) from hs)
  refine ⟨r, h', cs, sl, yex_mono (by decide) _ _ _ _ q5, cp_of q4 (JJ_ws (c := [(0, 9, P)]) hP q3 q1), ?_⟩
  have := q3.1.2.2.2.2.1
  rw [q2] at this
  exact this
/-! the cells: the class's, the reference's, what came later -/
set_option maxRecDepth 20000 in
theorem yh_dec {h h1 : xH} {s : yS} (hl : 288 ≤ h1.length) (e : h = yh (h.take 213) (h.drop 288) s) (hlh : 288 ≤ h.length) (hc : ∀ a, 213 ≤ a → a < 288 → h1[a]? = h[a]?) : h1 = yh (h1.take 213) (h1.drop 288) s := by
  have t1 : (h1.take 213).length = 213 := by rw [List.length_take]; omega
  have t0 : (h.take 213).length = 213 := by rw [List.length_take]; omega
  refine List.ext_getElem? (fun m => ?_)
  rw [yh_get t1]
  by_cases h3 : m < 213
  · rw [if_pos h3, List.getElem?_take, if_pos h3]
  · rw [if_neg h3]
    by_cases h4 : m < 288
    · rw [if_pos h4, hc m (by omega) h4]
      have := congrArg (fun z : xH => z[m]?) e
      rw [yh_get t0, if_neg h3, if_pos h4] at this
      exact this
    · rw [if_neg h4, List.getElem?_drop]
      congr 1
      omega
theorem INV_eq {h h1 : xH} (hI : INV h) (hl : h1.length = h.length) (hc : ∀ m, (m < 213 ∨ 288 ≤ m) → h1[m]? = h[m]?) : INV h1 := by
  obtain ⟨hT, ⟨r1, r2, r3, r4⟩, hn, hE⟩ := hI
  have fl : ∀ a k, a < 213 → fld h1 a k = fld h a k := fun a k ha => by
    unfold fld
    rw [hc a (Or.inl ha)]
  have rce : ∀ a ∈ rowL, rc h1 a = rc h a := fun a ha => by
    obtain ⟨-, c, n, f, q1, q2, q3, q4, -⟩ := r1 a ha
    obtain ⟨k1, k2⟩ := rc_inv q1
    rw [q1]
    exact rc_mk ((fl a 1 (fk_row a ha).2.2).trans k1) (by rw [hc c q4]; exact k2)
  have shE : Sh h1 = Sh h := by
    unfold Sh
    have : h1.drop 288 = h.drop 288 := List.ext_getElem? (fun m => by
      rw [List.getElem?_drop, List.getElem?_drop]
      exact hc _ (Or.inr (by omega)))
    rw [this]
  refine ⟨fun a ha hx => ?_, ⟨fun a ha => ?_, fun a ha a' ha' hne => ?_, by rw [hl, shE]; exact r3, ?_⟩, by omega, EVs_of hE (hc 110 (Or.inl (by decide)))⟩
  · rw [hc a (Or.inl ha)]
    exact hT a ha hx
  · rw [rce a ha, fl a 0 (fk_row a ha).2.2]
    exact r1 a ha
  · rw [rce a ha, rce a' ha']
    exact r2 a ha a' ha' hne
  · rw [shE]
    refine Nat.le_trans (Nat.le_of_eq ?_) r4
    congr 2
    refine List.map_congr_left (fun a ha => ?_)
    unfold rn
    rw [rce a ha]
/-- between calls: class and reference -/
def LSt (h : xH) (s : yS) : Prop := INV h ∧ JJ h ∧ RIv s ∧ h = yh (h.take 213) (h.drop 288) s ∧ fld h 1 2 = some (.int (s.1 2))
/-- both answer; E: alike -/
def PXq (i : Nat) (vs : List Value) (i' : Nat) (vs' : List Value) (h : xH) (E : Prop) : Prop := ∃ (v v' : Int32) (h1 h2 : xH) (cs sl : Nat) (s' : yS) (fs : List Value), yex 1514 i vs h = some (some (.int v), h1, cs, sl) ∧ h1[213]? = some (.inr (12, fs)) ∧ yex 1514 i' vs' h1 = some (some (.int v'), h2, 0, 0) ∧ LSt h2 s' ∧ h2.length = h.length + cs ∧ Sh h2 = Sh h + sl ∧ (E → v = v')
set_option maxRecDepth 20000 in
theorem pair_ok {i i' d : Nat} {vs vs' : List Value} {h h1 : xH} {s : yS} {cs sl : Nat} {v z : Int32} {E : Prop} {R : Int32 → Int32 → Prop} (hL : LSt h s) (e1 : yex 1514 i vs h = some (some (.int v), h1, cs, sl)) (hc : CPq h h1 cs sl) (hz : fld h1 1 2 = some (.int z)) (hr : Tot d i' vs' s (fun v' s' => ∃ r : Int32, v' = some (.int r) ∧ R r (s'.1 2) ∧ RIv s')) (hd : d ≤ 1514) (hR : ∀ r z', R r z' → z = z' ∧ (E → v = r)) : PXq i vs i' vs' h E := by
  obtain ⟨a1, a2, a3, a4, a5⟩ := hL
  obtain ⟨c1, c2, c3, c4, c5⟩ := hc
  have hl0 := a1.2.2.1
  have hl1 := c1.2.2.1
  have ed := yh_dec hl1 a4 hl0 c3
  have t1 : (h1.take 213).length = 213 := by rw [List.length_take]; omega
  obtain ⟨w, s', ⟨r, rfl, r1, r2⟩, -, r3⟩ := hr
  have e2 := ycx_le d _ _ _ _ (r3 (h1.take 213) (h1.drop 288) t1)
  rw [← ed] at e2
  have hg : ∀ m, (m < 213 ∨ 288 ≤ m) → (yh (h1.take 213) (h1.drop 288) s')[m]? = h1[m]? := fun m hm => by
    rw [yh_get t1]
    rcases hm with hm | hm
    · rw [if_pos hm, List.getElem?_take, if_pos hm]
    · rw [if_neg (by omega), if_neg (by omega), List.getElem?_drop]
      congr 1
      omega
  have hlen : (yh (h1.take 213) (h1.drop 288) s').length = h1.length := by
    rw [yh_len t1, List.length_drop]
    omega
  have hI2 := INV_eq c1 hlen hg
  have flE : ∀ a k, a < 213 → fld (yh (h1.take 213) (h1.drop 288) s') a k = fld h1 a k := fun a k ha => by
    unfold fld
    rw [hg a (Or.inl ha)]
  have hdr : (yh (h1.take 213) (h1.drop 288) s').drop 288 = h1.drop 288 := List.ext_getElem? (fun m => by
    rw [List.getElem?_drop, List.getElem?_drop]
    exact hg _ (Or.inr (by omega)))
  have htk : (yh (h1.take 213) (h1.drop 288) s').take 213 = h1.take 213 := List.ext_getElem? (fun m => by
    rw [List.getElem?_take, List.getElem?_take]
    by_cases hm : m < 213
    · rw [if_pos hm, if_pos hm]
      exact hg _ (Or.inl hm)
    · rw [if_neg hm, if_neg hm])
  have shE : Sh (yh (h1.take 213) (h1.drop 288) s') = Sh h1 := by
    unfold Sh
    rw [hdr]
  obtain ⟨zz, vv⟩ := hR r (s'.1 2) r1
  refine ⟨v, r, h1, _, cs, sl, s', yfl s, e1, ?_, yex_mono hd _ _ _ _ e2, ⟨hI2, ?_, r2, ?_, ?_⟩, by rw [hlen]; exact c4, by rw [shE]; exact c5, vv⟩
  · rw [ed]
    exact yh_o t1
  · obtain ⟨x, y, j1, j2, j3, j4⟩ := c2
    exact ⟨x, y, (flE 3 10 (by decide)).trans j1, j2, (flE 39 10 (by decide)).trans j3, j4⟩
  · rw [htk, hdr]
  · rw [flE 1 2 (by decide), hz, zz]
/-! all twelve -/
theorem tot_x {d j : Nat} {vs : List Value} {s : yS} {Z : Int32 → Prop} (h : Tot d j vs s (fun v s' => (∃ r : Int32, v = some (.int r)) ∧ Z (s'.1 2) ∧ RIv s')) : Tot d j vs s (fun v s' => ∃ r : Int32, v = some (.int r) ∧ (fun (_ z : Int32) => Z z) r (s'.1 2) ∧ RIv s') := Tot.imp h (fun v s' q => by
  obtain ⟨⟨r, rfl⟩, q2, q3⟩ := q
  exact ⟨r, rfl, q2, q3⟩)
theorem X_feed {h : xH} {s : yS} (hL : LSt h s) (a b c : Int64) : PXq 139 [.ref 0, .long a, .long b, .long c] 154 [.ref 213, .long a, .long b, .long c] h True := by
  obtain ⟨h1, cs, sl, e1, e2, e3⟩ := cp_139 (a := a) (b := b) (c := c) hL.1 hL.2.1 hL.2.2.2.2
  refine pair_ok (R := fun r z => r = feedn a b c (s.1 2) ∧ z = feedn a b c (s.1 2)) hL e1 e2 e3 (Tot.imp (R_154 hL.2.2.1) (fun v s' q => ?_)) (by decide) (fun r z' q => ⟨q.2.symm, fun _ => q.1.symm⟩)
  obtain ⟨q1, q2, q3⟩ := q
  exact ⟨_, q1, ⟨rfl, q2⟩, q3⟩
theorem X_keep {i i' d dc : Nat} {q : cSg} {vs vs' : List Value} {h : xH} {s : yS} (hL : LSt h s) (hc : CTR (yex dc) i q) (hd : dc ≤ 1514) (h1 : wmem (100, 2) q.2.2 = false) (h2 : wmem (4, 10) q.2.2 = false) (hr : q.2.1 = some kint) (ha : aOK q.1 vs) (ht : Tot d i' vs' s (fun v s' => (∃ r : Int32, v = some (.int r)) ∧ s'.1 2 = s.1 2 ∧ RIv s')) (hd' : d ≤ 1514) : PXq i vs i' vs' h False := by
  obtain ⟨v, h', cs, sl, e1, e2, e3⟩ := cp_ctr hc hd h1 h2 hr hL.1 hL.2.1 ha
  exact pair_ok (R := fun _ z => z = s.1 2) hL e1 e2 (e3.trans hL.2.2.2.2) (tot_x (Z := fun z => z = s.1 2) ht) hd' (fun r z' q => ⟨q.symm, fun w => absurd w id⟩)
theorem X_clear {i i' d : Nat} {vs vs' : List Value} {h h1 : xH} {s : yS} {cs sl : Nat} {v : Int32} (hL : LSt h s) (e1 : yex 1514 i vs h = some (some (.int v), h1, cs, sl)) (hc : CPq h h1 cs sl) (hz : fld h1 1 2 = some (.int 0)) (ht : Tot d i' vs' s (fun v s' => (∃ r : Int32, v = some (.int r)) ∧ (s'.1 2).toInt = 0 ∧ RIv s')) (hd' : d ≤ 1514) : PXq i vs i' vs' h False :=
  pair_ok (R := fun _ z => z.toInt = 0) hL e1 hc hz (tot_x (Z := fun z => z.toInt = 0) ht) hd' (fun r z' q => ⟨(z32.mp q).symm, fun w => absurd w id⟩)
theorem X_program {h : xH} {s : yS} (hL : LSt h s) : PXq 140 [.ref 0] 230 [.ref 213] h False := by
  obtain ⟨v, h1, cs, sl, e1, e2, e3⟩ := cp_140 hL.1 hL.2.1
  exact X_clear hL e1 e2 e3 (R_230 hL.2.2.1) (by decide)
theorem X_implementing {h : xH} {s : yS} (hL : LSt h s) : PXq 141 [.ref 0] 236 [.ref 213] h False := by
  obtain ⟨v, h1, cs, sl, e1, e2, e3⟩ := cp_141 hL.1 hL.2.1
  exact X_clear hL e1 e2 e3 (R_236 hL.2.2.1) (by decide)
theorem X_isMade {h : xH} {s : yS} (hL : LSt h s) : PXq 147 [.ref 0] 260 [.ref 213] h False := by
  obtain ⟨v, h1, cs, sl, e1, e2, e3⟩ := cp_147 hL.1 hL.2.1
  exact X_clear hL e1 e2 e3 (R_260 hL.2.2.1) (by decide)
theorem X_run {h : xH} {s : yS} (hL : LSt h s) (n : Int32) : PXq 142 [.ref 0, .int n] 247 [.ref 213, .int n] h False := X_keep hL K_142 (by decide) rfl rfl rfl ⟨⟨0, rfl, cmem_ok rfl⟩, vK_int n, trivial⟩ (R_247' hL.2.2.1) (by decide)
theorem X_failed {h : xH} {s : yS} (hL : LSt h s) : PXq 143 [.ref 0] 248 [.ref 213] h False := X_keep hL K_143 (by decide) rfl rfl rfl ⟨⟨0, rfl, cmem_ok rfl⟩, trivial⟩ (R_248 hL.2.2.1) (by decide)
theorem X_calls {h : xH} {s : yS} (hL : LSt h s) : PXq 144 [.ref 0] 249 [.ref 213] h False := X_keep hL K_144 (by decide) rfl rfl rfl ⟨⟨0, rfl, cmem_ok rfl⟩, trivial⟩ (R_249 hL.2.2.1) (by decide)
theorem X_instances {h : xH} {s : yS} (hL : LSt h s) : PXq 145 [.ref 0] 257 [.ref 213] h False := X_keep hL K_145 (by decide) rfl rfl rfl ⟨⟨0, rfl, cmem_ok rfl⟩, trivial⟩ (R_257 hL.2.2.1) (by decide)
theorem X_made {h : xH} {s : yS} (hL : LSt h s) (n : Int32) : PXq 146 [.ref 0, .int n] 259 [.ref 213, .int n] h False := X_keep hL K_146 (by decide) rfl rfl rfl ⟨⟨0, rfl, cmem_ok rfl⟩, vK_int n, trivial⟩ (R_259 hL.2.2.1) (by decide)
theorem X_print {h : xH} {s : yS} (hL : LSt h s) (n : Int32) : PXq 148 [.ref 0, .int n] 268 [.ref 213, .int n] h False := X_keep hL K_148 (by decide) rfl rfl rfl ⟨⟨0, rfl, cmem_ok rfl⟩, vK_int n, trivial⟩ (R_268 hL.2.2.1) (by decide)
theorem X_out {h : xH} {s : yS} (hL : LSt h s) (n : Int32) : PXq 149 [.ref 0, .int n] 269 [.ref 213, .int n] h False := X_keep hL K_149 (by decide) rfl rfl rfl ⟨⟨0, rfl, cmem_ok rfl⟩, vK_int n, trivial⟩ (R_269 hL.2.2.1) (by decide)
theorem X_count {h : xH} {s : yS} (hL : LSt h s) (n : Int32) : PXq 150 [.ref 0, .int n] 270 [.ref 213, .int n] h False := X_keep hL K_150 (by decide) rfl rfl rfl ⟨⟨0, rfl, cmem_ok rfl⟩, vK_int n, trivial⟩ (R_270 hL.2.2.1) (by decide)
