section NM3
variable {e b n W N T F H : Nat} {own : Nat → Nat × Nat} {s : yS}
/-- namesOfFunc -/
theorem s_202 {f : Nat} {a1 : Int32} (hL : Lx b n W s) (hb : b < 2) (h8 : 0 ≤ (s.1 8).toInt ∧ (s.1 8).toInt ≤ 70000) (h30 : (s.1 30).toInt = (b : Int)) (hC : RC b T F H s) (hA : RAq own b n N T F H s) (h1 : a1.toInt = 60 * (b : Int) + f) (hf : f < F) : Tot (e + 3) 202 [.ref 213, .int a1] s (fun v s' => v = none ∧ FO s s') := by
  have hn := hL.2.1
  obtain ⟨c1, c2, c3, -⟩ := hC
  have e1 : a1.toInt.toNat = 60 * b + f := by omega
  obtain ⟨⟨r1, r2, r3, r4, r5⟩, q1, q2, -⟩ := hA.2.2.1 f hf
  obtain ⟨h, hh, hH⟩ : ∃ h : Nat, (s.2.1 257 (60 * b + f)).toInt = 204 * (b : Int) + h ∧ h < H := ⟨((s.2.1 257 (60 * b + f)).toInt - 204 * b).toNat, by omega, by omega⟩
  obtain ⟨⟨k1, k2, k3, k4, k5, k6, k7⟩, -⟩ := hA.2.1 h hH
  -- the last part: vars
  have go120 : ∀ (a2 : Int32) t, a2.toInt = 204 * (b : Int) + h → FO s t → wl_202_120 (Tot (e + 2)) a1 a2 0 t (fun v s' => v = none ∧ FO s s') := by
    intro a2 t h2 hF
    have e2a : a2.toInt.toNat = 204 * b + h := by omega
    refine ⟨fun b1 b2 b3 w => b1 = a1 ∧ b2 = a2 ∧ FO s w ∧ 0 ≤ b3.toInt ∧ b3.toInt ≤ 6, fun _ _ b3 _ => (10000 - b3.toInt).toNat, ⟨rfl, rfl, hF, by decide, by decide⟩, ?_⟩
    rintro b1 b2 b3 w ⟨p1, p2, hF, p3, p4⟩
    have p1 := p1.symm
    have p2 := p2.symm
    subst p1 p2
    have e2 := FO_2 hF
    have go173 : ¬ (s.2.1 248 (204 * b + h)).toInt ≤ b3.toInt → ∀ w', FO s w' → w_202_173 (Tot (e + 2)) (fun b1' b2' b3' w' => (b1' = a1 ∧ b2' = a2 ∧ FO s w' ∧ 0 ≤ b3'.toInt ∧ b3'.toInt ≤ 6) ∧ (10000 - b3'.toInt).toNat < (10000 - b3.toInt).toNat) a1 a2 b3 w' (fun v s' => v = none ∧ FO s s') := by
      intro hlt w' hF'
      unfold w_202_173
      exact ⟨by omega, fun x hx => ⟨⟨rfl, rfl, hF', by omega, by omega⟩, by omega⟩⟩
    unfold w_202_120
    rw [e1, e2a, e2]
    refine ⟨by omega, fun _ => ⟨rfl, hF⟩, fun q => ?_⟩
    have tv := tk_in hb hn (k7 b3.toInt.toNat (by omega)).1
    have tf := tk_in hb hn r1
    have go162 : w_202_162 (Tot (e + 2)) (fun b1' b2' b3' w' => (b1' = a1 ∧ b2' = a2 ∧ FO s w' ∧ 0 ≤ b3'.toInt ∧ b3'.toInt ≤ 6) ∧ (10000 - b3'.toInt).toNat < (10000 - b3.toInt).toNat) a1 a2 b3 w (fun v s' => v = none ∧ FO s s') := by
      unfold w_202_162
      refine ⟨by omega, fun x1 hx1 => ⟨by omega, fun x2 hx2 => ⟨by omega, ?_⟩⟩⟩
      have ex : x2.toInt.toNat = 6 * (204 * b + h) + b3.toInt.toNat := by omega
      rw [ex]
      refine Tot.imp (Tot.mono (by omega) (fo_163 (d := 0) (Lx_2 hL e2) (FO_8 hF) (by decide) (by rw [e2]; exact ⟨tv.2.2.1, tv.2.2.2⟩))) ?_
      rintro v w3 ⟨rfl, hw3, -⟩
      exact ⟨rfl, go173 q w3 (FO_tr hF hw3)⟩
    refine ⟨by omega, fun x1 hx1 => ⟨by omega, fun x2 hx2 => ?_⟩⟩
    have ex : x2.toInt.toNat = 6 * (204 * b + h) + b3.toInt.toNat := by omega
    rw [ex]
    refine ⟨by omega, ⟨tv.1, tv.2.1⟩, by omega, ⟨tf.1, tf.2.1⟩, fun _ => go162, fun _ => ⟨by omega, fun x3 hx3 => ⟨by omega, fun x4 hx4 => ⟨by omega, by omega, fun x5 hx5 => ?_⟩⟩⟩⟩
    have ex4 : x4.toInt.toNat = 6 * (204 * b + h) + b3.toInt.toNat := by omega
    rw [ex4]
    refine Tot.imp (Tot.mono (by omega) (s_198 (d := 0) (fr := 6 * (204 * b + h)) (M := 2448) ⟨tv.1, tv.2.1⟩ (by decide) (by omega) (by omega) (by decide) (fun k hk => ?_))) ?_
    · rw [e2]
      have := tk_in hb hn (k7 k (by omega)).1
      exact ⟨this.1, this.2.1⟩
    rintro v w2 ⟨ew, x8, rfl⟩
    have ew := ew.symm
    subst ew
    exact ⟨x8, rfl, fun _ => go173 q w hF, fun _ => go162⟩
  -- the funcs ahead
  have go61 : ∀ (a2 a3 : Int32) t, a2.toInt = 204 * (b : Int) + h → a3.toInt = 60 * (b : Int) → FO s t → wl_202_61 (Tot (e + 2)) a1 a2 a3 t (fun v s' => v = none ∧ FO s s') := by
    intro a2 a3 t h2 h3 hF
    have e2a : a2.toInt.toNat = 204 * b + h := by omega
    refine ⟨fun b1 b2 b3 w => b1 = a1 ∧ b2 = a2 ∧ FO s w ∧ 60 * (b : Int) ≤ b3.toInt ∧ b3.toInt ≤ 60 * (b : Int) + f, fun _ _ b3 _ => (10000 - b3.toInt).toNat, ⟨rfl, rfl, hF, by omega, by omega⟩, ?_⟩
    rintro b1 b2 b3 w ⟨p1, p2, hF, p3, p4⟩
    have p1 := p1.symm
    have p2 := p2.symm
    subst p1 p2
    have e2 := FO_2 hF
    have go104 : ¬ a1.toInt ≤ b3.toInt → ∀ w', FO s w' → w_202_104 (Tot (e + 2)) (fun b1' b2' b3' w' => (b1' = a1 ∧ b2' = a2 ∧ FO s w' ∧ 60 * (b : Int) ≤ b3'.toInt ∧ b3'.toInt ≤ 60 * (b : Int) + f) ∧ (10000 - b3'.toInt).toNat < (10000 - b3.toInt).toNat) a1 a2 b3 w' (fun v s' => v = none ∧ FO s s') := by
      intro hlt w' hF'
      unfold w_202_104
      exact ⟨by omega, fun x hx => ⟨⟨rfl, rfl, hF', by omega, by omega⟩, by omega⟩⟩
    unfold w_202_61
    rw [e1, e2a, e2]
    refine ⟨fun _ => ⟨by omega, fun x1 hx1 => ⟨by omega, ?_⟩⟩, fun q => ?_⟩
    · refine Tot.imp (s_199 (fr := 6 * (204 * b + h)) (M := 2448) (Lx_2 hL e2) hb (FO_8 hF) (by decide) (by omega) (by omega) (by decide) (fun k hk => ?_) (fun _ => ⟨60 * b + f, by omega, by omega, RFa_eq ⟨r1, r2, r3, r4, r5⟩ (by rw [e2]) (by rw [e2]) (fun _ _ => by rw [e2])⟩)) ?_
      · rw [e2]
        exact tkN_eq (by rw [e2]) (by rw [e2]) (k4 k (by omega)).1
      rintro v u ⟨rfl, hu⟩
      exact ⟨rfl, go120 a2 u h2 (FO_tr hF hu)⟩
    · obtain ⟨g, hg, hgf⟩ : ∃ g : Nat, b3.toInt = 60 * (b : Int) + g ∧ g < f := ⟨(b3.toInt - 60 * b).toNat, by omega, by omega⟩
      have eg : b3.toInt.toNat = 60 * b + g := by omega
      rw [eg]
      obtain ⟨⟨m1, m2, -⟩, n1, n2, -⟩ := hA.2.2.1 g (by omega)
      have tm := tk_in hb hn m2
      have tf := tk_in hb hn r2
      have th := tk_in hb hn k1
      have tg := tk_in hb hn (hA.2.1 ((s.2.1 257 (60 * b + g)).toInt.toNat - 204 * b) (by omega)).1.1
      rw [show 204 * b + ((s.2.1 257 (60 * b + g)).toInt.toNat - 204 * b) = (s.2.1 257 (60 * b + g)).toInt.toNat by omega] at tg
      refine ⟨by omega, ⟨tm.1, tm.2.1⟩, by omega, ⟨tf.1, tf.2.1⟩, fun _ => go104 q w hF, fun _ => ⟨by omega, by omega, ⟨tg.1, tg.2.1⟩, by omega, ⟨th.1, th.2.1⟩, fun _ => go104 q w hF, fun _ => ⟨by omega, ?_⟩⟩⟩
      refine Tot.imp (Tot.mono (by omega) (fo_163 (d := 0) (Lx_2 hL e2) (FO_8 hF) (by decide) ⟨th.2.2.1, th.2.2.2⟩)) ?_
      rintro v w3 ⟨rfl, hw3, -⟩
      exact ⟨rfl, go104 q w3 (FO_tr hF hw3)⟩
  refine t_202 ?_
  refine ⟨fun b1 b2 t => b1 = a1 ∧ FO s t ∧ 1 ≤ b2.toInt ∧ b2.toInt ≤ 10, fun _ b2 _ => (100 - b2.toInt).toNat, ⟨rfl, FO_rf h8, by decide, by decide⟩, ?_⟩
  rintro b1 b2 t ⟨p1, hF, p2, p3⟩
  have p1 := p1.symm
  subst p1
  have e2 := FO_2 hF
  unfold w_202_2
  rw [e1]
  have e30 : t.1 30 = s.1 30 := FO_1 hF (by decide)
  refine ⟨by omega, fun _ => ⟨by omega, by rw [e30]; omega, fun x1 hx1 => go61 _ x1 t (by rw [e2]; exact hh) (by rw [e30] at hx1; omega) hF⟩, fun q => ?_⟩
  rw [e2] at q
  refine ⟨fun d1 d2 d3 w => d1 = a1 ∧ d2 = b2 ∧ FO s w ∧ 0 ≤ d3.toInt ∧ d3.toInt ≤ 10, fun _ _ d3 _ => (100 - d3.toInt).toNat, ⟨rfl, rfl, hF, by decide, by decide⟩, ?_⟩
  clear hF e2 e30
  rintro d1 d2 d3 w ⟨z1, z2, hF, z3, z4⟩
  have z1 := z1.symm
  have z2 := z2.symm
  subst z1 z2
  have e2 := FO_2 hF
  unfold w_202_10
  rw [e1, e2]
  refine ⟨fun _ => ⟨by omega, fun x1 hx1 => ⟨⟨rfl, hF, by omega, by omega⟩, by show (100 - x1.toInt).toNat < (100 - b2.toInt).toNat; omega⟩⟩, fun q3 => ?_⟩
  have go47 : ∀ w', FO s w' → w_202_47 (Tot (e + 2)) (fun b1' b2' t' => (b1' = a1 ∧ FO s t' ∧ 1 ≤ b2'.toInt ∧ b2'.toInt ≤ 10) ∧ (100 - b2'.toInt).toNat < (100 - b2.toInt).toNat) (fun d1' d2' d3' w' => (d1' = a1 ∧ d2' = b2 ∧ FO s w' ∧ 0 ≤ d3'.toInt ∧ d3'.toInt ≤ 10) ∧ (100 - d3'.toInt).toNat < (100 - d3.toInt).toNat) a1 b2 d3 w' (fun v s' => v = none ∧ FO s s') := by
    intro w' hF'
    unfold w_202_47
    exact ⟨by omega, fun x hx => ⟨⟨rfl, rfl, hF', by omega, by omega⟩, by omega⟩⟩
  have ta := tk_in hb hn (r5 d3.toInt.toNat (by omega))
  have tb := tk_in hb hn (r5 b2.toInt.toNat (by omega))
  refine ⟨by omega, by omega, fun x2 hx2 => ⟨by omega, fun x3 hx3 => ⟨by omega, by omega, by omega, fun x4 hx4 => ⟨by omega, fun x5 hx5 => ⟨by omega, fun _ => go47 w hF, fun _ => ⟨by omega, by omega, fun x6 hx6 => ⟨by omega, fun x7 hx7 => ?_⟩⟩⟩⟩⟩⟩⟩
  refine Tot.imp (Tot.mono (by omega) (fo_163 (d := 0) (Lx_2 hL e2) (FO_8 hF) (by decide) (by omega))) ?_
  rintro v w3 ⟨rfl, hw3, -⟩
  exact ⟨rfl, go47 w3 (FO_tr hF hw3)⟩
end NM3
