/-! ===== a call of the class, and the same call of the reference ===== -/
/-- what both programs keep is bounded -/
def JJ (h : xH) : Prop := ∃ x y : Int32, fld h 3 10 = some (.int x) ∧ x.toInt ≤ 1200000000 ∧ fld h 39 10 = some (.int y) ∧ y.toInt ≤ 1200000000
def CPq (h h1 : xH) (cs sl : Nat) : Prop := INV h1 ∧ JJ h1 ∧ (∀ a, 213 ≤ a → a < 288 → h1[a]? = h[a]?) ∧ h1.length = h.length + cs ∧ Sh h1 = Sh h + sl
theorem cp_of {W : List (Nat × Nat)} {h h1 : xH} {cs sl : Nat} (hc : CST W h h1 cs sl) (hJ : JJ h1) : CPq h h1 cs sl := ⟨hc.1, hJ, hc.2.1.1.1, hc.2.2.1, hc.2.2.2⟩
theorem JJ_fr {W : List (Nat × Nat)} {h h1 : xH} {cs sl : Nat} (hc : CST W h h1 cs sl) (hW : wmem (4, 10) W = false) (hJ : JJ h) : JJ h1 := by
  obtain ⟨x, y, a1, a2, a3, a4⟩ := hJ
  exact ⟨x, y, (hc.2.1.2 3 10 (by decide) (wmem_no (by rw [show wc 3 = 4 by decide +kernel]; exact hW))).trans a1, a2, (hc.2.1.2 39 10 (by decide) (wmem_no (by rw [show wc 39 = 4 by decide +kernel]; exact hW))).trans a3, a4⟩
theorem z_fr {W : List (Nat × Nat)} {h h1 : xH} {cs sl : Nat} (hc : CST W h h1 cs sl) (hW : wmem (100, 2) W = false) : fld h1 1 2 = fld h 1 2 := hc.2.1.2 1 2 (by decide) (wmem_no (by rw [show wc 1 = 100 by decide +kernel]; exact hW))
theorem ws_84 {P : Nat} (hP : P = 3 ∨ P = 39) {c : List (Nat × Nat × Nat)} {h : xH} (hI : INV h) (hJ : JJ h) (hc : ∀ p ∈ c, fld h p.1 p.2.1 = some (.ref p.2.2)) : ∃ sa sk sf sc sz : Int32, wsQ ((84, 5), P, c) h (sa, sk, sf, sc, sz) ∧ 0 ≤ sk.toInt ∧ sk.toInt ≤ 1200000000 := by
  obtain ⟨sa, a1, -⟩ := isIf_ok (a := 84) (k := 5) hI (by decide +kernel)
  obtain ⟨sz, z1, -⟩ := isIf_ok (a := 1) (k := 2) hI (by decide +kernel)
  obtain ⟨x, y, j1, j2, j3, j4⟩ := hJ
  rcases hP with rfl | rfl
  · obtain ⟨sk, k1, k2⟩ := isIf_ok (a := 3) (k := 10) hI (by decide +kernel)
    obtain ⟨sf, f1, -⟩ := isIf_ok (a := 3) (k := 14) hI (by decide +kernel)
    obtain ⟨sc, c1, -⟩ := isIf_ok (a := 37) (k := 2) hI (by decide +kernel)
    have k3 := k2 0 2000000000 (by decide +kernel)
    rw [j1] at k1
    cases k1
    exact ⟨sa, x, sf, sc, sz, ⟨⟨a1, j1, f1, c1, z1, y, j3, Or.inl j4⟩, hc⟩, k3.1, j2⟩
  · obtain ⟨sk, k1, k2⟩ := isIf_ok (a := 39) (k := 10) hI (by decide +kernel)
    obtain ⟨sf, f1, -⟩ := isIf_ok (a := 39) (k := 14) hI (by decide +kernel)
    obtain ⟨sc, c1, -⟩ := isIf_ok (a := 73) (k := 2) hI (by decide +kernel)
    have k3 := k2 0 2000000000 (by decide +kernel)
    rw [j3] at k1
    cases k1
    exact ⟨sa, y, sf, sc, sz, ⟨⟨a1, j3, f1, c1, z1, x, j1, Or.inl j2⟩, hc⟩, k3.1, j4⟩
theorem JJ_ws {P : Nat} (hP : P = 3 ∨ P = 39) {c : List (Nat × Nat × Nat)} {h : xH} {s : sW} (hs : wsQ ((84, 5), P, c) h s) (hk : s.2.1.toInt ≤ 1200000000) : JJ h := by
  obtain ⟨⟨-, k1, -, -, -, x, x1, x2⟩, -⟩ := hs
  have x3 : x.toInt ≤ 1200000000 := x2.resolve_right (fun w => absurd (show (84 : Nat) = 82 from w) (by decide))
  rcases hP with rfl | rfl
  · exact ⟨s.2.1, x, k1, hk, x1, x3⟩
  · exact ⟨x, s.2.1, x1, x3, k1, hk⟩
/-- a method by its contract -/
theorem cp_ctr {d j : Nat} {q : cSg} (hc : CTR (yex d) j q) (hd : d ≤ 1514) (h1 : wmem (100, 2) q.2.2 = false) (h2 : wmem (4, 10) q.2.2 = false) (hr : q.2.1 = some kint) {h : xH} (hI : INV h) (hJ : JJ h) {vs : List Value} (ha : aOK q.1 vs) : ∃ (v : Int32) (h1 : xH) (cs sl : Nat), yex 1514 j vs h = some (some (.int v), h1, cs, sl) ∧ CPq h h1 cs sl ∧ fld h1 1 2 = fld h 1 2 := by
  obtain ⟨v, h', cs, sl, e, e2, e3⟩ := hc h vs hI ha
  rw [hr] at e2
  obtain ⟨u, rfl, x, rfl, -⟩ := e2
  exact ⟨x, h', cs, sl, yex_mono hd _ _ _ _ e, cp_of e3 (JJ_fr e3 h2 hJ), z_fr e3 h1⟩
theorem cp_139 {h : xH} {a b c : Int64} {z : Int32} (hI : INV h) (hJ : JJ h) (hz : fld h 1 2 = some (.int z)) : ∃ (h1 : xH) (cs sl : Nat), yex 1514 139 [.ref 0, .long a, .long b, .long c] h = some (some (.int (feedn a b c z)), h1, cs, sl) ∧ CPq h h1 cs sl ∧ fld h1 1 2 = some (.int (feedn a b c z)) := by
  obtain ⟨h', cs, sl, e1, e2, e3⟩ := y_139 (d := 0) (a := a) (b := b) (c := c) hI hz
  exact ⟨h', cs, sl, yex_mono (by decide) _ _ _ _ e1, cp_of e2 (JJ_fr e2 rfl hJ), e3⟩
theorem cp_140 {h : xH} (hI : INV h) (hJ : JJ h) : ∃ (v : Int32) (h1 : xH) (cs sl : Nat), yex 1514 140 [.ref 0] h = some (some (.int v), h1, cs, sl) ∧ CPq h h1 cs sl ∧ fld h1 1 2 = some (.int 0) := by
  obtain ⟨-, v0, -, -, e0, C, rfl, hC⟩ := fl_of (a := 0) (k := 9) (K := .inr (.inl [3, 39])) hI (by decide +kernel) (by decide +kernel)
  obtain ⟨-, v1, -, -, e1, P, rfl, hP⟩ := fl_of (a := 0) (k := 10) (K := .inr (.inl [3, 39])) hI (by decide +kernel) (by decide +kernel)
  have hC := in2 hC
  have hP := in2 hP
  obtain ⟨sa, sk, sf, sc, sz, hs, -⟩ := ws_84 (c := [(0, 9, C), (0, 10, P)]) hP hI hJ (fun p hp => by
    rcases List.mem_cons.mp hp with rfl | hp
    · exact e0
    · rw [List.mem_singleton.mp hp]
      exact e1)
  obtain ⟨v, h', cs, sl, s', ⟨⟨r, rfl⟩, q1, q2⟩, q3, q4, q5⟩ := v_140 (D := 37) hP hC (by decide) hE_all h_w37 h_w128 h_w5 h_w140 (Q := fun v s => (∃ r : Int32, v = some (.int r)) ∧ s.2.1.toInt ≤ 1200000000 ∧ s.2.2.2.2 = 0) (fun r a k f c k1 k2 => ⟨⟨r, rfl⟩, k2, rfl⟩) h hI hs
  refine ⟨r, h', cs, sl, yex_mono (by decide) _ _ _ _ q5, cp_of q4 (JJ_ws hP q3 q1), ?_⟩
  have := q3.1.2.2.2.2.1
  rw [q2] at this
  exact this
theorem cp_141 {h : xH} (hI : INV h) (hJ : JJ h) : ∃ (v : Int32) (h1 : xH) (cs sl : Nat), yex 1514 141 [.ref 0] h = some (some (.int v), h1, cs, sl) ∧ CPq h h1 cs sl ∧ fld h1 1 2 = some (.int 0) := by
  obtain ⟨-, v0, -, -, e0, P, rfl, hP⟩ := fl_of (a := 0) (k := 9) (K := .inr (.inl [3, 39])) hI (by decide +kernel) (by decide +kernel)
  have hP := in2 hP
  obtain ⟨sa, sk, sf, sc, sz, hs, h1, h2⟩ := ws_84 (c := [(0, 9, P)]) hP hI hJ (fun p hp => by rw [List.mem_singleton.mp hp]; exact e0)
  obtain ⟨v, h', cs, sl, s', ⟨⟨r, rfl⟩, q1, q2⟩, q3, q4, q5⟩ := v_141 (D := 37) hP (by decide) hE_all h_w1 h_w152 h_w141 (Q := fun v s => (∃ r : Int32, v = some (.int r)) ∧ s.2.1.toInt ≤ 1200000000 ∧ s.2.2.2.2 = 0) h1 h2 (fun r f => ⟨⟨r, rfl⟩, h2, rfl⟩) h hI (show wsQ (wk_141 P 0) h (sa, sk, sf, sc, sz) from hs)
  refine ⟨r, h', cs, sl, yex_mono (by decide) _ _ _ _ q5, cp_of q4 (JJ_ws (c := [(0, 9, P)]) hP q3 q1), ?_⟩
  have := q3.1.2.2.2.2.1
  rw [q2] at this
  exact this
theorem cp_147 {h : xH} (hI : INV h) (hJ : JJ h) : ∃ (v : Int32) (h1 : xH) (cs sl : Nat), yex 1514 147 [.ref 0] h = some (some (.int v), h1, cs, sl) ∧ CPq h h1 cs sl ∧ fld h1 1 2 = some (.int 0) := by
  obtain ⟨-, v0, -, -, e0, P, rfl, hP⟩ := fl_of (a := 0) (k := 9) (K := .inr (.inl [3, 39])) hI (by decide +kernel) (by decide +kernel)
  have hP := in2 hP
  obtain ⟨sa, sk, sf, sc, sz, hs, h1, h2⟩ := ws_84 (c := [(0, 9, P)]) hP hI hJ (fun p hp => by rw [List.mem_singleton.mp hp]; exact e0)
  obtain ⟨v, h', cs, sl, s', ⟨⟨r, rfl⟩, q1, q2⟩, q3, q4, q5⟩ := v_147 (D := 37) hP (by decide) hE_all h_w1 h_w152 h_w147 (Q := fun v s => (∃ r : Int32, v = some (.int r)) ∧ s.2.1.toInt ≤ 1200000000 ∧ s.2.2.2.2 = 0) h1 h2 (fun r f => ⟨⟨r, rfl⟩, h2, rfl⟩) h hI (show wsQ (wk_147 P 0) h (sa, sk, sf, sc, sz) from hs)
  refine ⟨r, h', cs, sl, yex_mono (by decide) _ _ _ _ q5, cp_of q4 (JJ_ws (c := [(0, 9, P)]) hP q3 q1), ?_⟩
  have := q3.1.2.2.2.2.1
  rw [q2] at this
  exact this
/-! the cells: the class's, the reference's, what came later -/
set_option maxRecDepth 20000 in
theorem yh_dec {h h1 : xH} {s : yS} (hl : 288 ≤ h1.length) (e : h = yh (h.take 213) (h.drop 288) s) (hlh : 288 ≤ h.length) (hc : ∀ a, 213 ≤ a → a < 288 → h1[a]? = h[a]?) : h1 = yh (h1.take 213) (h1.drop 288) s := by
  have t1 : (h1.take 213).length = 213 := by rw [List.length_take]; omega
  have t0 : (h.take 213).length = 213 := by rw [List.length_take]; omega
  refine List.ext_getElem? (fun m => ?_)
  rw [yh_get t1]
  by_cases h3 : m < 213
  · rw [if_pos h3, List.getElem?_take, if_pos h3]
  · rw [if_neg h3]
    by_cases h4 : m < 288
    · rw [if_pos h4, hc m (by omega) h4]
      have := congrArg (fun z : xH => z[m]?) e
      rw [yh_get t0, if_neg h3, if_pos h4] at this
      exact this
    · rw [if_neg h4, List.getElem?_drop]
      congr 1
      omega
theorem INV_eq {h h1 : xH} (hI : INV h) (hl : h1.length = h.length) (hc : ∀ m, (m < 213 ∨ 288 ≤ m) → h1[m]? = h[m]?) : INV h1 := by
  obtain ⟨hT, ⟨r1, r2, r3, r4⟩, hn, hE⟩ := hI
  have fl : ∀ a k, a < 213 → fld h1 a k = fld h a k := fun a k ha => by
    unfold fld
    rw [hc a (Or.inl ha)]
  have rce : ∀ a ∈ rowL, rc h1 a = rc h a := fun a ha => by
    obtain ⟨-, c, n, f, q1, q2, q3, q4, -⟩ := r1 a ha
    obtain ⟨k1, k2⟩ := rc_inv q1
    rw [q1]
    exact rc_mk ((fl a 1 (fk_row a ha).2.2).trans k1) (by rw [hc c q4]; exact k2)
  have shE : Sh h1 = Sh h := by
    unfold Sh
    have : h1.drop 288 = h.drop 288 := List.ext_getElem? (fun m => by
      rw [List.getElem?_drop, List.getElem?_drop]
      exact hc _ (Or.inr (by omega)))
    rw [this]
  refine ⟨fun a ha hx => ?_, ⟨fun a ha => ?_, fun a ha a' ha' hne => ?_, by rw [hl, shE]; exact r3, ?_⟩, by omega, EVs_of hE (hc 110 (Or.inl (by decide)))⟩
  · rw [hc a (Or.inl ha)]
    exact hT a ha hx
  · rw [rce a ha, fl a 0 (fk_row a ha).2.2]
    exact r1 a ha
  · rw [rce a ha, rce a' ha']
    exact r2 a ha a' ha' hne
  · rw [shE]
    refine Nat.le_trans (Nat.le_of_eq ?_) r4
    congr 2
    refine List.map_congr_left (fun a ha => ?_)
    unfold rn
    rw [rce a ha]
