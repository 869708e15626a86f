/-! ===== names told twice ===== -/
/-- only a fault, at most -/
def FO (s s' : yS) : Prop := ∃ y : Int32, s' = sf s 8 y ∧ 0 ≤ y.toInt ∧ y.toInt ≤ 70000 ∧ (y.toInt = 0 → (s.1 8).toInt = 0)
theorem sf_sf (s : yS) (k : Nat) (v w : Int32) : sf (sf s k v) k w = sf s k w := by
  have : upd (upd s.1 k v) k w = upd s.1 k w := by
    funext j
    unfold upd
    split <;> rfl
  show (upd (upd s.1 k v) k w, s.2) = (upd s.1 k w, s.2)
  rw [this]
theorem FO_rf {s : yS} (h : 0 ≤ (s.1 8).toInt ∧ (s.1 8).toInt ≤ 70000) : FO s s := ⟨s.1 8, (sf_id s 8).symm, h.1, h.2, fun q => q⟩
theorem FO_tr {s s' s'' : yS} (h : FO s s') (h' : FO s' s'') : FO s s'' := by
  obtain ⟨y, rfl, y1, y2, y3⟩ := h
  obtain ⟨z, rfl, z1, z2, z3⟩ := h'
  exact ⟨z, sf_sf s 8 y z, z1, z2, fun q => y3 (z3 q)⟩
theorem FO_8 {s s' : yS} (h : FO s s') : 0 ≤ (s'.1 8).toInt ∧ (s'.1 8).toInt ≤ 70000 := by
  obtain ⟨y, rfl, y1, y2, y3⟩ := h
  exact ⟨y1, y2⟩
theorem FO_2 {s s' : yS} (h : FO s s') : s'.2 = s.2 := by
  obtain ⟨y, rfl, y1, y2, y3⟩ := h
  rfl
theorem FO_1 {s s' : yS} (h : FO s s') {k : Nat} (hk : ¬ k = 8) : s'.1 k = s.1 k := by
  obtain ⟨y, rfl, y1, y2, y3⟩ := h
  rw [sf_1, if_neg hk]
theorem FO_0 {s s' : yS} (h : FO s s') (hf : (s'.1 8).toInt = 0) : s' = s := by
  obtain ⟨y, rfl, y1, y2, y3⟩ := h
  have : y = s.1 8 := Int32.toInt_inj.mp (by have := y3 hf; have h2 : y.toInt = 0 := hf; omega)
  rw [this, sf_id]
theorem Lx_2 {b n W : Nat} {s s' : yS} (h : Lx b n W s) (e : s'.2 = s.2) : Lx b n W s' := Lx_eq h (by rw [e]) (by rw [e]) (by rw [e])
section NM
variable {d b n W : Nat} {s : yS}
theorem fo_163 {w t : Int32} (hL : Lx b n W s) (h8 : 0 ≤ (s.1 8).toInt ∧ (s.1 8).toInt ≤ 70000) (hw : 1 ≤ w.toInt ∧ w.toInt ≤ 15) (ht : 4002 * (b : Int) ≤ t.toInt ∧ t.toInt ≤ 4002 * (b : Int) + n) : Tot (d + 1) 163 [.ref 213, .int w, .int t] s (fun v s' => v = none ∧ FO s s' ∧ ¬ (s'.1 8).toInt = 0) := by
  refine Tot.imp (s_163 hL hw (fun _ => ht)) ?_
  rintro v s' ⟨rfl, g1, g2⟩
  refine ⟨rfl, ?_⟩
  by_cases q : (s.1 8).toInt = 0
  · obtain ⟨x, x1, x2, rfl⟩ := g2 q
    exact ⟨⟨x, rfl, by omega, by omega, fun _ => q⟩, fun q2 => absurd (show x.toInt = 0 from q2) (by omega)⟩
  · rw [g1 q]
    exact ⟨FO_rf h8, q⟩
theorem s_198 {a2 M fr : Nat} {a1 a3 a4 : Int32} (h1 : 0 ≤ a1.toInt ∧ a1.toInt < 12006) (hy : ytab a2 = some (0, M)) (h3 : a3.toInt = (fr : Int)) (hM : (fr : Int) + a4.toInt ≤ M) (hM2 : M < 100000) (hk : ∀ k : Nat, (k : Int) < a4.toInt → 0 ≤ (s.2.1 a2 (fr + k)).toInt ∧ (s.2.1 a2 (fr + k)).toInt < 12006) : Tot (d + 1) 198 [.ref 213, .int a1, .ref a2, .int a3, .int a4] s (fun v s' => s' = s ∧ ∃ x : Int32, v = some (.int x)) := by
  refine t_198 ?_
  refine ⟨fun b1 b2 b3 b4 b5 b6 t => b1 = a1 ∧ b2 = a2 ∧ b3 = a3 ∧ b4 = a4 ∧ t = s ∧ (b5.toInt = 0 ∨ b5.toInt = 1) ∧ 0 ≤ b6.toInt ∧ b6.toInt ≤ 100000, fun _ _ _ _ _ b6 _ => (a4.toInt - b6.toInt).toNat, ⟨rfl, rfl, rfl, rfl, rfl, Or.inl (by decide), by decide, by decide⟩, ?_⟩
  rintro b1 b2 b3 b4 b5 b6 t ⟨rfl, rfl, rfl, rfl, rfl, h5, h6, h7⟩
  unfold w_198_4 w_198_22 w_198_25
  refine ⟨fun _ => ⟨h5, rfl, b5, rfl⟩, fun q => ?_⟩
  have nx : ∀ t0 : Int32, t0.toInt = 0 ∨ t0.toInt = 1 → (-2147483648 ≤ b6.toInt + 1 ∧ b6.toInt + 1 ≤ 2147483647) ∧ ∀ x1 : Int32, x1.toInt = b6.toInt + 1 → ((b1 = b1 ∧ b2 = b2 ∧ b3 = b3 ∧ b4 = b4 ∧ t = t ∧ (t0.toInt = 0 ∨ t0.toInt = 1) ∧ 0 ≤ x1.toInt ∧ x1.toInt ≤ 100000) ∧ (b4.toInt - x1.toInt).toNat < (b4.toInt - b6.toInt).toNat) := fun t0 h0 => ⟨by omega, fun x1 hx1 => ⟨⟨rfl, rfl, rfl, rfl, rfl, h0, by omega, by omega⟩, by omega⟩⟩
  refine ⟨fun _ => nx 1 (Or.inr (by decide)), fun _ => ⟨by omega, fun x1 hx1 => ⟨M, hy, by omega, ?_, h1, fun _ => nx 0 (Or.inl (by decide)), fun _ => nx 1 (Or.inr (by decide))⟩⟩⟩
  have := hk b6.toInt.toNat (by omega)
  rw [show fr + b6.toInt.toNat = x1.toInt.toNat by omega] at this
  exact this
theorem s_200 {f : Nat} {a1 a2 : Int32} (hb : b < 2) (hn : n ≤ 4000) (h1 : a1.toInt = (f : Int)) (hf : f < 120) (hR : RFa b n s f) : Tot (d + 1) 200 [.ref 213, .int a1, .int a2] s (fun v s' => s' = s ∧ ∃ x : Int32, v = some (.int x) ∧ -1 ≤ x.toInt ∧ x.toInt < max 0 (s.2.1 255 f).toInt) := by
  obtain ⟨r1, r2, r3, r4, r5⟩ := hR
  have e1 : a1.toInt.toNat = f := by omega
  refine t_200 ?_
  unfold w_200_0
  rw [e1]
  refine ⟨by omega, by omega, fun x1 hx1 => ?_⟩
  refine ⟨fun b1 b2 b3 b4 t => b1 = a1 ∧ b2 = a2 ∧ t = s ∧ -1 ≤ b3.toInt ∧ b3.toInt < max 0 (s.2.1 255 f).toInt ∧ -1 ≤ b4.toInt ∧ b4.toInt < (s.2.1 255 f).toInt, fun _ _ _ b4 _ => (b4.toInt + 1).toNat, ⟨rfl, rfl, rfl, by decide, by rw [show (-1 : Int32).toInt = -1 by decide]; omega, by omega, by omega⟩, ?_⟩
  rintro b1 b2 b3 b4 t ⟨rfl, rfl, rfl, h3, h4, h5, h6⟩
  unfold w_200_9 w_200_27
  rw [e1]
  refine ⟨fun _ => ⟨rfl, b3, rfl, h3, h4⟩, fun q => ?_⟩
  have tk := r5 b4.toInt.toNat (by omega)
  unfold tkN at tk
  exact ⟨by omega, by omega, fun x2 hx2 => ⟨by omega, fun x3 hx3 => ⟨by omega, fun _ => ⟨by omega, fun x4 hx4 => ⟨⟨rfl, rfl, rfl, h3, h4, by omega, by omega⟩, by show (x4.toInt + 1).toNat < (b4.toInt + 1).toNat; omega⟩⟩, fun _ => ⟨by omega, fun x4 hx4 => ⟨⟨rfl, rfl, rfl, by omega, by omega, by omega, by omega⟩, by show (x4.toInt + 1).toNat < (b4.toInt + 1).toNat; omega⟩⟩⟩⟩⟩
theorem s_199 {a1 M fr : Nat} {a2 a3 a4 : Int32} (hL : Lx b n W s) (hb : b < 2) (h8 : 0 ≤ (s.1 8).toInt ∧ (s.1 8).toInt ≤ 70000) (hy : ytab a1 = some (0, M)) (h2 : a2.toInt = (fr : Int)) (hM : (fr : Int) + a3.toInt ≤ M) (hM2 : M < 100000) (hk : ∀ k : Nat, (k : Int) < a3.toInt → tkN b n s (s.2.1 a1 (fr + k)).toInt) (hf : ¬ a4.toInt < 0 → ∃ f : Nat, a4.toInt = (f : Int) ∧ f < 120 ∧ RFa b n s f) : Tot (d + 2) 199 [.ref 213, .ref a1, .int a2, .int a3, .int a4] s (fun v s' => v = none ∧ FO s s') := by
  have hn := hL.2.1
  refine t_199 ?_
  refine ⟨fun b1 b2 b3 b4 b5 t => b1 = a1 ∧ b2 = a2 ∧ b3 = a3 ∧ b4 = a4 ∧ FO s t ∧ 0 ≤ b5.toInt ∧ b5.toInt ≤ 100000, fun _ _ _ _ b5 _ => (a3.toInt - b5.toInt).toNat, ⟨rfl, rfl, rfl, rfl, FO_rf h8, by decide, by decide⟩, ?_⟩
  rintro b1 b2 b3 b4 b5 t ⟨rfl, rfl, rfl, rfl, hF, h5, h6⟩
  have e2 := FO_2 hF
  have tk : ∀ k : Nat, (k : Int) < b3.toInt → 4002 * (b : Int) ≤ (t.2.1 b1 (fr + k)).toInt ∧ (t.2.1 b1 (fr + k)).toInt < 4002 * (b : Int) + n := by
    intro k hk'
    rw [e2]
    have := hk k hk'
    exact ⟨this.1, this.2.1⟩
  unfold w_199_2
  refine ⟨fun _ => ⟨rfl, hF⟩, fun q => ⟨by omega, fun x1 hx1 => ⟨M, hy, by omega, ?_⟩⟩⟩
  have t5 := tk b5.toInt.toNat (by omega)
  have ex : fr + b5.toInt.toNat = x1.toInt.toNat := by omega
  rw [ex] at t5
  have go38 : ∀ u, FO s u → w_199_38 (Tot (d + 1)) (fun a1' a2' a3' a4' b5' t' => (a1' = b1 ∧ a2' = b2 ∧ a3' = b3 ∧ a4' = b4 ∧ FO s t' ∧ 0 ≤ b5'.toInt ∧ b5'.toInt ≤ 100000) ∧ (b3.toInt - b5'.toInt).toNat < (b3.toInt - b5.toInt).toNat) b1 b2 b3 b4 b5 u (fun v s' => v = none ∧ FO s s') := by
    intro u hu
    unfold w_199_38
    exact ⟨by omega, fun x hx => ⟨⟨rfl, rfl, rfl, rfl, hu, by omega, by omega⟩, by omega⟩⟩
  have go30 : w_199_30 (Tot (d + 1)) (fun a1' a2' a3' a4' b5' t' => (a1' = b1 ∧ a2' = b2 ∧ a3' = b3 ∧ a4' = b4 ∧ FO s t' ∧ 0 ≤ b5'.toInt ∧ b5'.toInt ≤ 100000) ∧ (b3.toInt - b5'.toInt).toNat < (b3.toInt - b5.toInt).toNat) b1 b2 b3 b4 b5 t (fun v s' => v = none ∧ FO s s') := by
    unfold w_199_30
    refine ⟨by omega, fun x hx => ⟨M, hy, by omega, ?_⟩⟩
    have exx : x.toInt.toNat = x1.toInt.toNat := by omega
    rw [exx]
    refine Tot.imp (fo_163 (Lx_2 hL e2) (FO_8 hF) (by decide) (by omega)) ?_
    rintro v u ⟨rfl, hu, -⟩
    exact ⟨rfl, go38 u (FO_tr hF hu)⟩
  refine Tot.imp (s_198 (fr := fr) (M := M) (by omega) hy h2 (by omega) hM2 (fun k hk' => ?_)) ?_
  · have := tk k (by omega)
    omega
  · rintro v u ⟨eu, x4, rfl⟩
    have eu := eu.symm
    subst eu
    refine ⟨x4, rfl, fun _ => go30, fun _ => ⟨fun _ => go38 t hF, fun h4 => ⟨by omega, fun x5 hx5 => ⟨M, hy, by omega, ?_, ?_⟩⟩⟩⟩
    · rw [show x5.toInt.toNat = x1.toInt.toNat by omega]
      omega
    · obtain ⟨f, f1, f2, f3⟩ := hf h4
      refine Tot.imp (s_200 (f := f) hb hn f1 f2 (RFa_eq f3 (by rw [e2]) (by rw [e2]) (fun _ _ => by rw [e2]))) ?_
      rintro v u ⟨eu, x8, rfl, -⟩
      have eu := eu.symm
      subst eu
      exact ⟨x8, rfl, fun _ => go38 t hF, fun _ => go30⟩
end NM
