section NM2
variable {e b n W N T F H : Nat} {own : Nat → Nat × Nat} {s : yS}
theorem tk_in (hb : b < 2) (hn : n ≤ 4000) {t : Int} (h : tkN b n s t) : 0 ≤ t ∧ t < 12006 ∧ 4002 * (b : Int) ≤ t ∧ t ≤ 4002 * (b : Int) + n := by
  have h1 := h.1
  have h2 := h.2.1
  omega
/-- namesOfType -/
theorem s_201 {d : Nat} {a1 : Int32} (hL : Lx b n W s) (hb : b < 2) (h8 : 0 ≤ (s.1 8).toInt ∧ (s.1 8).toInt ≤ 70000) (h30 : (s.1 30).toInt = (b : Int)) (hC : RC b T F H s) (hA : RAq own b n N T F H s) (h1 : a1.toInt = 24 * (b : Int) + d) (hd : d < T) : Tot (e + 3) 201 [.ref 213, .int a1] s (fun v s' => v = none ∧ FO s s') := by
  have hn := hL.2.1
  obtain ⟨c1, c2, c3, -⟩ := hC
  have e1 : a1.toInt.toNat = 24 * b + d := by omega
  obtain ⟨r1, r2, r3, r4, r5, r6, r7, r8, r9, r10, r11, r12, r13⟩ := hA.1 d hd
  have tn := tk_in hb hn r1
  refine t_201 ?_
  unfold w_201_0
  refine ⟨by omega, fun x1 hx1 => ⟨by omega, by omega, fun x2 hx2 => ?_⟩⟩
  rw [e1]
  have go : ∀ t, FO s t → w_201_25 (Tot (e + 2)) a1 x1 t (fun v s' => v = none ∧ FO s s') := by
    intro t hF
    have e2 := FO_2 hF
    unfold w_201_25
    rw [e1]
    refine ⟨by omega, fun x3 hx3 => ⟨by omega, ?_⟩⟩
    refine Tot.imp (s_199 (fr := 6 * (24 * b + d)) (M := 288) (Lx_2 hL e2) hb (FO_8 hF) (by decide) (by omega) (by rw [e2]; omega) (by decide) (fun k hk => ?_) (fun q => absurd (show (-1 : Int32).toInt < 0 by decide) q)) ?_
    · rw [e2] at hk ⊢
      exact tkN_eq (by rw [e2]) (by rw [e2]) (r6 k (by omega)).1
    rintro v u ⟨rfl, hu⟩
    have hF := FO_tr hF hu
    have e2 := FO_2 hF
    refine ⟨rfl, by omega, fun x4 hx4 => ⟨by omega, ?_⟩⟩
    refine Tot.imp (s_199 (fr := 6 * (24 * b + d)) (M := 288) (Lx_2 hL e2) hb (FO_8 hF) (by decide) (by omega) (by rw [e2]; omega) (by decide) (fun k hk => ?_) (fun q => absurd (show (-1 : Int32).toInt < 0 by decide) q)) ?_
    · rw [e2] at hk ⊢
      exact tkN_eq (by rw [e2]) (by rw [e2]) (r9 k (by omega)).1
    rintro v u' ⟨rfl, hu'⟩
    have hF := FO_tr hF hu'
    have e2 := FO_2 hF
    refine ⟨rfl, by omega, ?_⟩
    refine ⟨fun b1 b2 b3 w => b1 = a1 ∧ b2 = x1 ∧ FO s w ∧ (s.2.1 242 (24 * b + d)).toInt ≤ b3.toInt ∧ b3.toInt ≤ (s.2.1 242 (24 * b + d)).toInt + (s.2.1 243 (24 * b + d)).toInt, fun _ _ b3 _ => (10000 - b3.toInt).toNat, ⟨rfl, rfl, hF, by rw [e2]; exact Int.le_refl _, by rw [e2]; omega⟩, ?_⟩
    rintro b1 b2 b3 w ⟨q1, q2, hF, q3, q4⟩
    have q1 := q1.symm
    have q2 := q2.symm
    subst q1 q2
    have e2 := FO_2 hF
    unfold w_201_54
    rw [e1, e2]
    refine ⟨by omega, by omega, by omega, fun y1 hy1 => ⟨fun _ => ⟨rfl, hF⟩, fun q => ⟨by omega, by omega, by omega, by omega, fun y2 hy2 => ?_⟩⟩⟩
    -- the heads
    have hd4 : ∀ h : Nat, h < H → tkN b n s (s.2.1 244 (204 * b + h)).toInt := fun h hh => (hA.2.1 h hh).1.1
    have go91 : ∀ w', FO s w' → w_201_91 (Tot (e + 2)) (fun b1' b2' b3' w' => (b1' = a1 ∧ b2' = x1 ∧ FO s w' ∧ (s.2.1 242 (24 * b + d)).toInt ≤ b3'.toInt ∧ b3'.toInt ≤ (s.2.1 242 (24 * b + d)).toInt + (s.2.1 243 (24 * b + d)).toInt) ∧ (10000 - b3'.toInt).toNat < (10000 - b3.toInt).toNat) a1 x1 b3 w' (fun v s' => v = none ∧ FO s s') := by
      intro w' hF'
      have e2' := FO_2 hF'
      unfold w_201_91
      have rh := (hA.2.1 (b3.toInt.toNat - 204 * b) (by omega)).1
      rw [show 204 * b + (b3.toInt.toNat - 204 * b) = b3.toInt.toNat by omega] at rh
      obtain ⟨k1, k2, k3, k4, -⟩ := rh
      refine ⟨by omega, fun z1 hz1 => ⟨by omega, ?_⟩⟩
      refine Tot.imp (s_199 (fr := 6 * b3.toInt.toNat) (M := 2448) (Lx_2 hL e2') hb (FO_8 hF') (by decide) (by omega) (by rw [e2']; omega) (by decide) (fun k hk => ?_) (fun q => absurd (show (-1 : Int32).toInt < 0 by decide) q)) ?_
      · rw [e2'] at hk ⊢
        exact tkN_eq (by rw [e2']) (by rw [e2']) (k4 k (by omega)).1
      rintro v u'' ⟨rfl, hu''⟩
      exact ⟨rfl, by omega, fun z4 hz4 => ⟨⟨rfl, rfl, FO_tr hF' hu'', by omega, by omega⟩, by omega⟩⟩
    have t3 := tk_in hb hn (hd4 (b3.toInt.toNat - 204 * b) (by omega))
    rw [show 204 * b + (b3.toInt.toNat - 204 * b) = b3.toInt.toNat by omega] at t3
    refine Tot.imp (Tot.mono (by omega) (s_198 (d := 0) (fr := (s.2.1 242 (24 * b + d)).toInt.toNat) (M := 408) ⟨t3.1, t3.2.1⟩ (by decide) (by omega) (by omega) (by decide) (fun k hk => ?_))) ?_
    · rw [e2]
      have := tk_in hb hn (hd4 ((s.2.1 242 (24 * b + d)).toInt.toNat + k - 204 * b) (by omega))
      rw [show 204 * b + ((s.2.1 242 (24 * b + d)).toInt.toNat + k - 204 * b) = (s.2.1 242 (24 * b + d)).toInt.toNat + k by omega] at this
      exact ⟨this.1, this.2.1⟩
    rintro v w2 ⟨ew, x5, rfl⟩
    have ew := ew.symm
    subst ew
    refine ⟨x5, rfl, fun _ => go91 w hF, fun _ => ⟨by omega, ?_⟩⟩
    refine Tot.imp (Tot.mono (by omega) (fo_163 (d := 0) (Lx_2 hL e2) (FO_8 hF) (by decide) (by rw [e2]; exact ⟨t3.2.2.1, t3.2.2.2⟩))) ?_
    rintro v w3 ⟨rfl, hw3, -⟩
    exact ⟨rfl, go91 w3 (FO_tr hF hw3)⟩
  refine Tot.imp (Tot.mono (by omega) (s_198 (d := 0) (fr := 24 * b) (M := 48) ⟨tn.1, tn.2.1⟩ (by decide) (by omega) (by omega) (by decide) (fun k hk => ?_))) ?_
  · have := tk_in hb hn (hA.1 k (by omega)).1
    exact ⟨this.1, this.2.1⟩
  rintro v t ⟨et, x5, rfl⟩
  have et := et.symm
  subst et
  refine ⟨x5, rfl, fun _ => go _ (FO_rf h8), fun _ => ⟨by omega, ?_⟩⟩
  refine Tot.imp (Tot.mono (by omega) (fo_163 (d := 0) hL h8 (by decide) ⟨tn.2.2.1, tn.2.2.2⟩)) ?_
  rintro v w3 ⟨rfl, hw3, -⟩
  exact ⟨rfl, go w3 hw3⟩
end NM2
