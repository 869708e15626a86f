/-! ===== takeE ===== -/
/-- an E so far, at a point or behind it -/
def PI (b n m : Nat) (s : yS) (y : Int32) (a1 a3 : Int32) (u : yS) : Prop := 0 ≤ a3.toInt ∧ a3.toInt ≤ 21 ∧ Rd b n u ∧ Fr (s.1 26).toInt.toNat s u ∧ u.1 27 = y ∧ (s.1 26).toInt ≤ a1.toInt ∧ a1.toInt < (u.1 26).toInt ∧
  ((u.1 8).toInt = 0 → (3 * (u.1 26).toInt - 2 * (u.1 7).toInt ≤ 3 * (s.1 26).toInt - 2 * (s.1 7).toInt + 1 ∧ 4 * (cm b u : Int) - (u.1 7).toInt ≤ 4 * (cm b s : Int) - (s.1 7).toInt) ∧ (s.1 7).toInt < (u.1 7).toInt ∧ (u.2.1 225 a1.toInt.toNat).toInt = -1 ∧ a3.toInt ≤ 20 ∧ isEp b n u (isE b n u (m + 1)) a3.toInt.toNat (s.1 26).toInt.toNat (u.1 26).toInt.toNat a1.toInt.toNat) ∧
  (¬ (u.1 8).toInt = 0 → (u.1 26).toInt ≤ 4002 * (b : Int) + 2740 ∧ (u.1 7).toInt ≤ 4002 * (b : Int) + n + 40)
theorem isEp_sf {b n m p lo hi e k : Nat} {s : yS} {v : Int32} (h : isEp b n s (isE b n s m) p lo hi e) : isEp b n (sf s k v) (isE b n (sf s k v) m) p lo hi e := isEp_eq (s := s) (s' := sf s k v) rfl rfl p lo hi e (fun _ _ _ => ⟨⟨rfl, rfl, rfl, rfl, rfl, rfl, fun _ => rfl, fun _ => rfl⟩, fun _ => ⟨rfl, rfl⟩⟩) (fun _ _ _ _ _ _ q => isE_sf q) h
theorem e94 {b n W m d : Nat} {s u : yS} {a1 a2 a3 y : Int32} (hE : EP b n W m (d + 3)) (hY : YP b n W m (d + 3)) (hL : Lx b n W s) (hR : Rd b n s) (hnm : nmAt s) (hy : y.toInt = 10 - (m : Int)) (hD : (s.1 27).toInt = y.toInt - 1) (hm : m ≤ 9) (hN : 4002 * (b : Int) ≤ (s.1 26).toInt) (hd : 3 * ((s.1 26).toInt - 4002 * (b : Int)) - 2 * ((s.1 7).toInt - 4002 * (b : Int)) ≤ 54 - 4 * (m : Int)) (h : PI b n m s y a1 a3 u) : wl_175_94 (Tot (d + 5)) a1 a2 a3 u (EQ b n (m + 1) s) := by
  have hb := hL.1
  have hn := hL.2.1
  have hA0 := hR.2.2.2.2 hnm.1
  refine ⟨fun b1 _ b3 t => PI b n m s y b1 b3 t, fun _ _ _ s' => if (s'.1 8).toInt = 0 then (14000 - (s'.1 7).toInt).toNat + 1 else 0, h, ?_⟩
  clear h
  rintro b1 b2 b3 t ⟨i1, i2, i3, i4, i5, i6, i7, i8, i9⟩
  have hLt : Lx b n W t := Fr_Lx i4 hL
  have bound : (t.1 8).toInt = 0 → (t.1 26).toInt ≤ 4002 * (b : Int) + 2690 := by
    intro q
    have h1 := (i8 q).1
    have h2 := i3.2.2.2.2 q
    omega
  have r13 := i3.2.2.2.1
  have mu : ∀ s' : yS, (t.1 8).toInt = 0 → ((s'.1 8).toInt = 0 → (t.1 7).toInt < (s'.1 7).toInt) → (if (s'.1 8).toInt = 0 then (14000 - (s'.1 7).toInt).toNat + 1 else 0) < (if (t.1 8).toInt = 0 then (14000 - (t.1 7).toInt).toNat + 1 else 0) := by
    intro s' h1 h2
    rw [if_pos h1]
    split
    · rename_i h3
      have := h2 h3
      omega
    · omega
  unfold w_175_94 w_175_106
  refine Tot.imp (Tot.mono (by omega) (s_164 (d := 0) (c := 46) hLt i3)) ?_
  rintro v s1 ⟨e1, x3, rfl, hx⟩
  have e1 := e1.symm
  subst e1
  refine ⟨x3, rfl, fun _ => ?_, fun h0 => ?_⟩
  · rw [i5]
    refine ⟨by omega, ?_⟩
    rintro x4 hx4 s5 rfl
    refine ⟨b1, rfl, i3, Fr_sf i4 (by decide), Int32.toInt_inj.mp (show x4.toInt = _ by omega), i6, i7, fun q => ?_, i9⟩
    obtain ⟨z1, z2, z3, z4, z5⟩ := i8 q
    exact ⟨z1, z2, z3, hnm, b3.toInt.toNat, by omega, isEp_sf z5⟩
  · have hx := (hx.resolve_right (fun q => h0 q.1)).2
    have t8 := hx.1
    obtain ⟨z1, z2, z3, z4, z5⟩ := i8 t8
    have hB := bound t8
    have hAt := i3.2.2.2.2 t8
    refine ⟨fun h20 => ⟨by omega, fun x1 hx1 => ?_⟩, fun h20 => ?_⟩
    · refine Tot.imp (s_177 (e := b1) hE hY hLt i3 hx (by rw [i5]; exact hy) (by omega) (by omega) (by omega) (by omega)) ?_
      rintro v s2 ⟨rfl, k1, k2, k3, k4, k5, k6⟩
      have fS : Fr (s.1 26).toInt.toNat s s2 := Fr_tr (Fr_sa i4 (by decide) (by omega)) k2 (by omega)
      refine ⟨_, rfl, ⟨by omega, by omega, k1, fS, k3.trans i5, by omega, by omega, fun q => ?_, k6⟩, mu _ t8 (fun q => (k5 q).2.1)⟩
      obtain ⟨w1, w2, w3, w4, w5, w6, w7⟩ := k5 q
      refine ⟨by omega, by omega, w3, by omega, ?_⟩
      have e1 : x1.toInt.toNat = b3.toInt.toNat + 1 := by omega
      rw [e1]
      refine ⟨by omega, b1.toInt.toNat, by rw [w4]; omega, ?_, ?_, w5, w6, w7⟩
      · rw [Fr_at k2 (by omega), sa_2, if_pos ⟨rfl, rfl⟩]
        omega
      · refine isEp_eq (s := t) (by rw [Fr_row fS (by decide), Fr_row i4 (by decide)]) (by rw [Fr_row fS (by decide), Fr_row i4 (by decide)]) _ _ _ _ (fun z g1 g2 => ?_) (fun l h c g1 g2 g3 g4 => ?_) z5
        · have nr : ∀ p, ¬ (p = 228 ∧ z = b1.toInt.toNat) → s2.2.1 p z = t.2.1 p z := by
            intro p hp
            rw [Fr_at k2 g2, sa_2, if_neg hp]
          exact ⟨⟨nr _ (by omega), nr _ (by omega), nr _ (by omega), nr _ (by omega), nr _ (by omega), nr _ (by omega), fun _ => nr _ (by omega), fun _ => nr _ (by omega)⟩, fun g3 => ⟨nr _ (by omega), nr _ (fun e => g3 e.2)⟩⟩
        · refine isE_eq (s := t) (by rw [Fr_row fS (by decide), Fr_row i4 (by decide)]) (by rw [Fr_row fS (by decide), Fr_row i4 (by decide)]) _ _ _ _ (fun z y1 y2 => ?_) g4
          have nr : ∀ p, s2.2.1 p z = t.2.1 p z := by
            intro p
            rw [Fr_at k2 (by omega), sa_2, if_neg (fun e => by omega)]
          exact ⟨⟨nr _, nr _, nr _, nr _, nr _, nr _, fun _ => nr _, fun _ => nr _⟩, fun _ => ⟨nr _, nr _⟩⟩
    · refine Tot.imp (Tot.mono (by omega) (s_163 (d := 0) (w := 5) hLt (by decide) (fun q => i3.2.2.2.2 q))) ?_
      rintro v s10 ⟨rfl, -, g2⟩
      obtain ⟨z, w1, w2, rfl⟩ := g2 t8
      refine ⟨rfl, by omega, fun x1 hx1 => ?_⟩
      have rv := Rd_ft i3 w1 w2
      have vF : Fr (s.1 26).toInt.toNat s (sf t 8 z) := Fr_sf i4 (by decide)
      have z0 : ¬ z.toInt = 0 := by omega
      refine Tot.imp (Tot.mono (by omega) (s_177f (d := 0) (s := sf t 8 z) (e := b1) (Fr_Lx vF hL) rv z0 (by show 0 ≤ (t.1 27).toInt ∧ (t.1 27).toInt ≤ 50; rw [i5]; omega) (by show 0 ≤ (t.1 26).toInt ∧ (t.1 26).toInt < 12000; omega) (by show (t.1 7).toInt ≤ 12900; omega) (by show 0 ≤ b1.toInt ∧ b1.toInt < (t.1 26).toInt; omega))) ?_
      rintro v s2 ⟨rfl, k1, k2, k3, k4, k5⟩
      have q26 : (sf t 8 z).1 26 = t.1 26 := rfl
      rw [q26] at k1 k4 ⊢
      have k2' : s2.1 8 = z := k2
      have k3' : (s2.1 7).toInt = (t.1 7).toInt + 2 := k3
      have k5' : s2.1 27 = t.1 27 := k5
      have fS : Fr (s.1 26).toInt.toNat s s2 := Fr_tr (Fr_sa vF (by decide) (by omega)) k1 (by omega)
      have r2 : Rd b n s2 := ⟨by rw [k2']; omega, by rw [k2']; omega, by omega, by omega, fun q => by rw [k2'] at q; omega⟩
      exact ⟨_, rfl, ⟨by omega, by omega, r2, fS, k5'.trans i5, by omega, by omega, fun q => by rw [k2'] at q; omega, fun _ => ⟨by omega, by omega⟩⟩, mu _ t8 (fun q => by rw [k2'] at q; omega)⟩
theorem s_175s {b n W m : Nat} (ih : ∀ m', m = m' + 1 → EP b n W m' (3 * m' + 7)) : EP b n W m (3 * m + 7) := by
  intro s hL hR hf hD hm hN hd
  have hb := hL.1
  have hn := hL.2.1
  have hA := hR.2.2.2.2 hf
  have hNb : (s.1 26).toInt ≤ 4002 * (b : Int) + 2690 := by omega
  refine t_175 ?_
  unfold w_175_0
  refine Tot.imp (Tot.mono (by omega) (s_166 (d := 0) hL hR)) ?_
  rintro v s1 ⟨rfl, x, rfl, hx⟩
  refine ⟨x, rfl, ?_⟩
  refine Tot.imp (Tot.mono (by omega) (s_172 (d := 0) hL hR (by omega))) ?_
  rintro v s2 ⟨rfl, y, z, hy, rfl, -, hz⟩
  refine ⟨rfl, ?_⟩
  have hz := hz hf
  have f2 : Fr (s1.1 26).toInt.toNat s1 (sf (sf s1 8 z) 27 y) := Fr_sf (Fr_sf Fr_rf (by decide)) (by decide)
  have q8 : (sf (sf s1 8 z) 27 y).1 8 = z := rfl
  have q7 : (sf (sf s1 8 z) 27 y).1 7 = s1.1 7 := rfl
  rw [q8, q7]
  have bad : ¬ z.toInt = 0 → w_175_36 (Tot (3 * m + 6)) (sf (sf s1 8 z) 27 y) (EQ b n m s1) := by
    intro z0
    have hz := hz.resolve_left (fun q => z0 q.2.2)
    have r2 : Rd b n (sf (sf s1 8 z) 27 y) := (Rd_ft hR hz.2.1 hz.2.2 : Rd b n (sf s1 8 z))
    unfold w_175_36
    refine e37f (d := 3 * m + 5) (Fr_Lx f2 hL) r2 z0 (by show 1 ≤ y.toInt ∧ y.toInt ≤ 51; omega) (by show 0 ≤ (s1.1 26).toInt ∧ (s1.1 26).toInt < 12000; omega) (by show (s1.1 7).toInt ≤ 12900; omega) (fun s' g1 g2 g3 g4 g5 => ?_)
    have g2' : s'.1 8 = z := g2
    have g3' : (s'.1 7).toInt = (s1.1 7).toInt + 1 := g3
    have g4' : (s'.1 26).toInt = (s1.1 26).toInt + 1 := g4
    have g5' : (s'.1 27).toInt = y.toInt - 1 := g5
    exact ⟨s1.1 26, rfl, ⟨by rw [g2']; omega, by rw [g2']; omega, by omega, by omega, fun q => by rw [g2'] at q; omega⟩, Fr_tr f2 g1 ⟨Nat.le_refl _, rfl⟩, Int32.toInt_inj.mp (by omega), Int.le_refl _, by omega, fun q => by rw [g2'] at q; omega, fun _ => ⟨by omega, by omega⟩⟩
  refine ⟨bad, fun z0 => ?_⟩
  have hzz := hz.resolve_right (fun q => by omega)
  have hnm : nmAt s1 := (hx.resolve_right (fun q => hzz.1 q.1)).2
  obtain ⟨m', rfl⟩ : ∃ m', m = m' + 1 := ⟨m - 1, by omega⟩
  have hin := Lx_in hL hR hf (by rw [hnm.2.1]; decide)
  have ez : z = s1.1 8 := Int32.toInt_inj.mp (by omega)
  subst ez
  rw [sf_id]
  rw [sf_id] at f2 bad
  have hE := ih m' rfl
  have hY : YP b n W m' (3 * m' + 7) := by
    intro s a1 a2 a3 a4 a5 a6 a7
    exact Tot.mono (by omega) (s_173 m' s a1 a2 a3 a4 a5 a6 a7)
  have lp : ∀ (a1 a2 : Int32) (u : yS), PI b n m' s1 y a1 0 u → w_175_92 (Tot (3 * (m' + 1) + 6)) a1 a2 u (EQ b n (m' + 1) s1) := by
    intro a1 a2 u hu
    unfold w_175_92
    exact e94 (d := 3 * m' + 4) hE hY hL hR hnm (by omega) (by omega) (by omega) hN (by omega) hu
  have tok : ∀ u : yS, Fr (s1.1 26).toInt.toNat s1 u → tkN b n u (s1.1 7).toInt := by
    intro u hu
    exact ⟨hA.1, hin, by rw [Fr_row hu (by decide : (215 : Nat) ∉ ndB)]; exact hnm.2.1, by rw [Fr_row hu (by decide : (217 : Nat) ∉ ndB)]; exact hnm.2.2⟩
  have r2 : Rd b n (sf s1 27 y) := hR
  have k36 : w_175_36 (Tot (3 * (m' + 1) + 6)) (sf s1 27 y) (EQ b n (m' + 1) s1) := by
    unfold w_175_36
    refine ⟨fun _ => ?_, fun h => absurd (show (0 : Int32).toInt = 0 by decide) h⟩
    refine Tot.imp (Tot.mono (by omega) (s_171 (d := 0) (s := sf s1 27 y) (a := 1) (by show 0 ≤ (s1.1 26).toInt ∧ (s1.1 26).toInt < 12006; omega))) ?_
    rintro v s3 ⟨rfl, hw⟩
    have f3 : Fr (s1.1 26).toInt.toNat s1 s3 := Fr_tr f2 (Fr_nw hw) ⟨Nat.le_refl _, rfl⟩
    have e7 : s3.1 7 = s1.1 7 := hw.2.1 7 (by decide)
    have e8 : s3.1 8 = s1.1 8 := hw.2.1 8 (by decide)
    have e27 : s3.1 27 = y := hw.2.1 27 (by decide)
    have c3 : cm b s3 = cm b s1 := (cm_nw0 (b := b) (s := sf s1 27 y) hw hN (by decide)).trans rfl
    obtain ⟨w0, w1, -, -, w21, w22, w24, w25, w26, w27, w28, w29, w30⟩ := hw
    have e26 : (s3.1 26).toInt = (s1.1 26).toInt + 1 := w0
    refine ⟨_, rfl, by rw [e7]; omega, ?_⟩
    rintro x9 hx9 s4 rfl
    rw [e7] at hx9
    refine lp _ _ _ ⟨by decide, by decide, ⟨by show 0 ≤ (s3.1 8).toInt; rw [e8]; omega, by show (s3.1 8).toInt ≤ 70000; rw [e8]; omega, by show 0 ≤ x9.toInt; omega, by show x9.toInt ≤ 13000; omega, fun _ => by show _ ≤ x9.toInt ∧ x9.toInt ≤ _; omega⟩, Fr_sf f3 (by decide), e27, Int.le_refl _, by show _ < (s3.1 26).toInt; show (s1.1 26).toInt < _; omega, fun _ => ⟨by show (3 * (s3.1 26).toInt - 2 * x9.toInt ≤ _) ∧ (4 * (cm b s3 : Int) - x9.toInt ≤ _); omega, by show _ < x9.toInt; omega, ?_, by decide, rfl, ?_, ?_, Or.inl ⟨?_, ?_⟩⟩, fun q => absurd (by show (s3.1 8).toInt = 0; rw [e8]; exact hf) q⟩
    · show (s3.2.1 225 _).toInt = -1
      rw [w25]
      decide
    · show (s1.1 26).toInt.toNat < (s3.1 26).toInt.toNat
      omega
    · show (s3.2.1 227 _).toInt = -1
      rw [w27]
      decide
    · show (s3.2.1 221 _).toInt = 1
      rw [w21]
      decide
    · show tkN b n (sf s3 7 x9) (s3.2.1 222 _).toInt
      rw [w22]
      exact tok _ (Fr_sf f3 (by decide))
  have k34 : w_175_34 (Tot (3 * (m' + 1) + 6)) (sf s1 27 y) (EQ b n (m' + 1) s1) := by
    unfold w_175_34
    refine ⟨fun h => absurd h (by decide), fun _ => ?_⟩
    refine Tot.imp (Tot.mono (by omega) (s_171 (d := 0) (s := sf s1 27 y) (a := 2) (by show 0 ≤ (s1.1 26).toInt ∧ (s1.1 26).toInt < 12006; omega))) ?_
    rintro v s3 ⟨rfl, hw⟩
    have f3 : Fr (s1.1 26).toInt.toNat s1 s3 := Fr_tr f2 (Fr_nw hw) ⟨Nat.le_refl _, rfl⟩
    have e7 : s3.1 7 = s1.1 7 := hw.2.1 7 (by decide)
    have e8 : s3.1 8 = s1.1 8 := hw.2.1 8 (by decide)
    have e27 : s3.1 27 = y := hw.2.1 27 (by decide)
    have c3 : cm b s3 = cm b s1 := (cm_nw0 (b := b) (s := sf s1 27 y) hw hN (by decide)).trans rfl
    obtain ⟨w0, w1, -, -, w21, w22, w24, w25, w26, w27, w28, w29, w30⟩ := hw
    have e26 : (s3.1 26).toInt = (s1.1 26).toInt + 1 := w0
    have en : ((sf s1 27 y).1 26) = s1.1 26 := rfl
    rw [en] at w21 w22 w24 w25 w26 w27 w28 w29 w30 ⊢
    have r3 : Rd b n s3 := by
      unfold Rd at hR ⊢
      rw [e7, e8]
      exact hR
    refine ⟨_, rfl, ?_⟩
    refine Tot.imp (Tot.mono (by omega) (hY s3 (Fr_Lx f3 hL) r3 (by rw [e8]; exact hf) (by rw [e27]; omega) (by omega) (by omega) (by rw [e7]; omega))) ?_
    rintro v s9 ⟨rfl, y1, y2, y3, y4, y5, y6⟩
    rw [e7] at y5
    rw [e27] at y3
    refine ⟨_, rfl, by omega, ?_⟩
    rintro s12 rfl
    have f9 : Fr (s1.1 26).toInt.toNat s1 s9 := Fr_tr f3 y2 (by omega)
    have f12 := Fr_sa (v := s3.1 26) f9 (by decide : (229 : Nat) ∈ ndB) ⟨Nat.le_refl _, rfl⟩
    have hL12 := Fr_Lx f12 hL
    have at9 : ∀ p, s9.2.1 p (s1.1 26).toInt.toNat = s3.2.1 p (s1.1 26).toInt.toNat := fun p => Fr_at y2 (by omega)
    -- the end: at the }
    have fin : ∀ (a3 : Int32) (u : yS), Rd b n u → Fr (s1.1 26).toInt.toNat s1 u → u.1 27 = y → (s1.1 26).toInt + 1 ≤ (u.1 26).toInt → ((u.1 8).toInt = 0 → (3 * (u.1 26).toInt - 2 * (u.1 7).toInt ≤ 3 * (s1.1 26).toInt - 2 * (s1.1 7).toInt + 3 ∧ 4 * (cm b u : Int) - (u.1 7).toInt ≤ 4 * (cm b s1 : Int) - (s1.1 7).toInt) ∧ (s1.1 7).toInt < (u.1 7).toInt ∧ (u.2.1 225 (s1.1 26).toInt.toNat).toInt = -1 ∧ (u.2.1 227 (s1.1 26).toInt.toNat).toInt = -1 ∧ baE b n u (isE b n u (m' + 1)) (u.1 26).toInt.toNat (s1.1 26).toInt.toNat) → (¬ (u.1 8).toInt = 0 → (u.1 26).toInt ≤ 4002 * (b : Int) + 2740 ∧ (u.1 7).toInt ≤ 4002 * (b : Int) + n + 40) → w_175_78 (Tot (3 * (m' + 1) + 6)) (s1.1 26) 1 a3 u (EQ b n (m' + 1) s1) := by
      intro a3 u ru fu u27 u26 u5 u6
      unfold w_175_78
      refine Tot.imp (Tot.mono (by omega) (s_167 (d := 0) (c := 125) (Fr_Lx fu hL) ru)) ?_
      rintro v s4 ⟨rfl, k4⟩
      refine ⟨rfl, lp _ _ _ ?_⟩
      rcases k4 with ⟨kg, x', hx', hlt', rfl⟩ | ⟨-, g1, g2⟩
      · obtain ⟨z1, z2, z3, z4, z5⟩ := u5 kg.1
        refine ⟨by decide, by decide, Rd_at ru hx' hlt' hb hn, Fr_sf fu (by decide), u27, Int.le_refl _, by show _ < (u.1 26).toInt; omega, fun q => ⟨by show (3 * (u.1 26).toInt - 2 * x'.toInt ≤ _) ∧ (4 * (cm b u : Int) - x'.toInt ≤ _); omega, by show _ < x'.toInt; omega, z3, by decide, ?_⟩, fun q => absurd kg.1 q⟩
        exact isEp_sf (p := 0) (lo := (s1.1 26).toInt.toNat) ⟨rfl, by show _ < (u.1 26).toInt.toNat; omega, z4, z5⟩
      · by_cases q : (u.1 8).toInt = 0
        · obtain ⟨x', a1, a2', rfl⟩ := g2 q
          have h9 := ru.2.2.2.2 q
          obtain ⟨z1, z2, -⟩ := u5 q
          exact ⟨by decide, by decide, Rd_ft ru a1 a2', Fr_sf fu (by decide), u27, Int.le_refl _, by show _ < (u.1 26).toInt; omega, fun q2 => absurd (show x'.toInt = 0 from q2) (by omega), fun _ => ⟨by show (u.1 26).toInt ≤ _; omega, by show (u.1 7).toInt ≤ _; omega⟩⟩
        · have e4 := g1 q
          subst e4
          exact ⟨by decide, by decide, ru, fu, u27, Int.le_refl _, by omega, fun q2 => absurd q2 q, u6⟩
    have bounds : (s9.1 8).toInt = 0 → (s9.1 26).toInt ≤ 4002 * (b : Int) + 2695 := by
      intro q
      have h1 := (y5 q).1
      have h2 := y1.2.2.2.2 q
      omega
    refine Tot.imp (Tot.mono (by omega) (s_167 (d := 0) (c := 123) hL12 (show Rd b n (sa s9 229 (s1.1 26).toInt.toNat (s3.1 26)) from y1))) ?_
    rintro v s13 ⟨rfl, k13⟩
    refine ⟨rfl, by omega, ?_⟩
    rintro s15 rfl
    -- behind a fault
    have bad2 : ∀ u : yS, Rd b n u → Fr (s1.1 26).toInt.toNat s1 u → u.1 27 = y → (s1.1 26).toInt + 1 ≤ (u.1 26).toInt → ¬ (u.1 8).toInt = 0 → (u.1 26).toInt ≤ 4002 * (b : Int) + 2738 → (u.1 7).toInt ≤ 4002 * (b : Int) + n + 38 → Tot (3 * (m' + 1) + 6) 164 [.ref 213, .int 125] u (fun v17 s16 => ∃ x18, v17 = some (.int x18) ∧ ((¬ (x18.toInt = 0) → w_175_78 (Tot (3 * (m' + 1) + 6)) (s1.1 26) 1 (s3.1 26) s16 (EQ b n (m' + 1) s1)) ∧ (x18.toInt = 0 → Tot (3 * (m' + 1) + 6) 176 [.ref 213] s16 (fun v20 s19 => ∃ x21, v20 = some (.int x21) ∧ ((0 ≤ (s1.1 26).toInt ∧ (s1.1 26).toInt < 12006) ∧ (∀ s22, s22 = sa s19 224 (s1.1 26).toInt.toNat x21 → (0 ≤ (s1.1 26).toInt ∧ (s1.1 26).toInt < 12006) ∧ (∀ s23, s23 = sa s22 226 (s1.1 26).toInt.toNat (s22.1 28) → w_175_78 (Tot (3 * (m' + 1) + 6)) (s1.1 26) 1 (s3.1 26) s23 (EQ b n (m' + 1) s1)))))))) := by
      intro u r f g27 g26 g8 b26 b7
      have hL' := Fr_Lx f hL
      refine Tot.imp (Tot.mono (by omega) (s_164 (d := 0) (c := 125) hL' r)) ?_
      rintro v s5 ⟨rfl, x5, rfl, hx⟩
      have hx := hx.resolve_left (fun q => g8 q.2.1)
      refine ⟨x5, rfl, fun q => absurd hx.1 q, fun _ => ?_⟩
      have hr := r
      unfold Rd at hr
      refine Tot.imp (Tot.mono (by omega) (s_176f (d := 0) hL' r g8 (by rw [g27]; omega) (by omega) (by omega))) ?_
      rintro v s6 ⟨rfl, hT⟩
      have r6 := FT_Rd hT r g8 (by omega)
      obtain ⟨t1, t2, t3, t4, t5⟩ := hT
      refine ⟨_, rfl, by omega, ?_⟩
      rintro s9 rfl
      refine ⟨by omega, ?_⟩
      rintro s10 rfl
      refine fin _ _ r6 (Fr_sa (Fr_sa (Fr_tr f t1 (by omega)) (by decide) ⟨Nat.le_refl _, rfl⟩) (by decide) ⟨Nat.le_refl _, rfl⟩) (t5.trans g27) (by show _ ≤ (s6.1 26).toInt; omega) (fun q => ?_) (fun _ => ⟨by show (s6.1 26).toInt ≤ _; omega, by show (s6.1 7).toInt ≤ _; omega⟩)
      have q : (s6.1 8).toInt = 0 := q
      rw [t2] at q
      exact absurd q g8
    rcases k13 with ⟨kg, x', hx', hlt', rfl⟩ | ⟨-, g1, g2⟩
    · have q9 : (s9.1 8).toInt = 0 := kg.1
      obtain ⟨z1, z2, z3, -, z5⟩ := y5 q9
      have hB := bounds q9
      have hx'' : x'.toInt = (s9.1 7).toInt + 1 := hx'
      have r13 : Rd b n (sf (sa s9 229 (s1.1 26).toInt.toNat (s3.1 26)) 7 x') := Rd_at (s := sa s9 229 (s1.1 26).toInt.toNat (s3.1 26)) y1 hx' hlt' hb hn
      obtain ⟨u, hu⟩ : ∃ u, u = sa (sf (sa s9 229 (s1.1 26).toInt.toNat (s3.1 26)) 7 x') 224 (s1.1 26).toInt.toNat (-1) := ⟨_, rfl⟩
      rw [← hu]
      have rU : Rd b n u := by rw [hu]; exact r13
      have fU : Fr (s1.1 26).toInt.toNat s1 u := by rw [hu]; exact Fr_sa (Fr_sf f12 (by decide)) (by decide) ⟨Nat.le_refl _, rfl⟩
      have u8 : (u.1 8).toInt = 0 := by rw [hu]; exact q9
      have u26 : u.1 26 = s9.1 26 := by rw [hu]; rfl
      have u27 : u.1 27 = y := by rw [hu]; exact y3
      have u7 : u.1 7 = x' := by rw [hu]; rfl
      have uc : cm b u = cm b s9 := by
        rw [hu, cm_sa (by decide)]
        show cm b (sa s9 229 (s1.1 26).toInt.toNat (s3.1 26)) = _
        exact cm_sa (by decide)
      have rowU : ∀ p, ¬ p = 229 → ¬ p = 224 → u.2.1 p (s1.1 26).toInt.toNat = s3.2.1 p (s1.1 26).toInt.toNat := by
        intro p p1 p2
        rw [hu, sa_2, if_neg (fun h => p2 h.1)]
        show (sa s9 229 (s1.1 26).toInt.toNat (s3.1 26)).2.1 p _ = _
        rw [sa_2, if_neg (fun h => p1 h.1)]
        exact at9 p
      have rowU29 : u.2.1 229 (s1.1 26).toInt.toNat = s3.1 26 := by
        rw [hu, sa_2, if_neg (fun h => by omega)]
        show (sa s9 229 (s1.1 26).toInt.toNat (s3.1 26)).2.1 229 _ = _
        rw [sa_2, if_pos ⟨rfl, rfl⟩]
      have rowU24 : u.2.1 224 (s1.1 26).toInt.toNat = -1 := by
        rw [hu, sa_2, if_pos ⟨rfl, rfl⟩]
      have neU : ∀ z, (s1.1 26).toInt.toNat < z → NE s9 u z := by
        intro z hz
        rw [hu]
        exact NE_sa (NE_sf (NE_sa (fun _ => rfl) (by omega))) (by omega)
      have yU : isY b n u 11 (s9.1 26).toInt.toNat (s3.1 26).toInt.toNat := by
        refine isY_mono (m' + 1) 11 _ _ _ (by omega) (Nat.le_refl _) (isY_eq2 (s := s9) (by rw [Fr_row fU (by decide), Fr_row f9 (by decide)]) (by rw [Fr_row fU (by decide), Fr_row f9 (by decide)]) (fun z g1 g2 => ?_) z5)
        exact ⟨NE_SR (neU z (by omega)), fun _ => neU z (by omega) 225⟩
      have hLU := Fr_Lx fU hL
      refine Tot.imp (Tot.mono (by omega) (s_164 (d := 0) (c := 125) hLU rU)) ?_
      rintro v s16 ⟨e16, x18, rfl, -⟩
      have e16 := e16.symm
      subst e16
      refine ⟨x18, rfl, fun _ => ?_, fun _ => ?_⟩
      · refine fin _ _ rU fU u27 (by rw [u26]; omega) (fun _ => ⟨by rw [u26, u7, uc]; omega, by rw [u7]; omega, by rw [rowU 225 (by decide) (by decide), w25]; decide, by rw [rowU 227 (by decide) (by decide), w27]; decide, Or.inr ⟨by rw [rowU 221 (by decide) (by decide), w21]; decide, (s3.1 26).toInt.toNat, (s9.1 26).toInt.toNat, by rw [rowU29]; omega, by omega, by rw [u26]; exact Nat.le_refl _, yU, [], by decide, by rw [rowU 226 (by decide) (by decide), w26]; decide, by rw [rowU24]; exact (show (-1 : Int32).toInt = -1 by decide), List.Pairwise.nil, fun c hc => by cases hc⟩⟩) (fun q => absurd u8 q)
      · refine Tot.imp (Tot.mono (by omega) (s_176 (d := 3 * m' + 4) hE hLU rU u8 (by rw [u27]; omega) (by omega) (by rw [u26]; omega) (by rw [u26, u7]; omega))) ?_
        rintro v s19 ⟨f19, rfl, v1, v2, v3, v4, v5, v6⟩
        rw [u26] at v2 v4 v5
        rw [u7, uc] at v5
        refine ⟨_, rfl, by omega, ?_⟩
        rintro s22 rfl
        refine ⟨by omega, ?_⟩
        rintro s23 rfl
        have fV : Fr (s1.1 26).toInt.toNat s1 s19 := Fr_tr fU v2 (by omega)
        have fT := Fr_sa (v := (sa s19 224 (s1.1 26).toInt.toNat f19).1 28) (Fr_sa (v := f19) fV (by decide : (224 : Nat) ∈ ndB) ⟨Nat.le_refl _, rfl⟩) (by decide : (226 : Nat) ∈ ndB) ⟨Nat.le_refl _, rfl⟩
        obtain ⟨t, ht⟩ : ∃ t, t = sa (sa s19 224 (s1.1 26).toInt.toNat f19) 226 (s1.1 26).toInt.toNat ((sa s19 224 (s1.1 26).toInt.toNat f19).1 28) := ⟨_, rfl⟩
        rw [← ht] at fT ⊢
        have t1 : t.1 = s19.1 := by rw [ht]; rfl
        have tcm : cm b t = cm b s19 := by rw [ht, cm_sa (by decide), cm_sa (by decide)]
        have rT : Rd b n t := by rw [ht]; exact v1
        refine fin _ _ rT fT (by rw [t1, v3, u27]) (by rw [t1]; omega) (fun q => ?_) (fun q => by rw [t1] at q ⊢; exact v6 q)
        rw [t1] at q
        rw [t1, tcm]
        obtain ⟨k1, k2, k3⟩ := v5 q
        have keep : ∀ p, ¬ p = 224 → ¬ p = 226 → t.2.1 p (s1.1 26).toInt.toNat = u.2.1 p (s1.1 26).toInt.toNat := by
          intro p p1 p2
          rw [ht, sa_2, if_neg (fun h => p2 h.1), sa_2, if_neg (fun h => p1 h.1), Fr_at v2 (by omega)]
        have e24 : t.2.1 224 (s1.1 26).toInt.toNat = f19 := by
          rw [ht, sa_2, if_neg (fun h => by omega), sa_2, if_pos ⟨rfl, rfl⟩]
        have e26 : t.2.1 226 (s1.1 26).toInt.toNat = s19.1 28 := by
          rw [ht, sa_2, if_pos ⟨rfl, rfl⟩]
          rfl
        have neT : ∀ z, (s1.1 26).toInt.toNat < z → NE s19 t z := by
          intro z hz
          rw [ht]
          exact NE_sa (NE_sa (fun _ => rfl) (by omega)) (by omega)
        refine ⟨by omega, by omega, by rw [keep 225 (by decide) (by decide), rowU 225 (by decide) (by decide), w25]; decide, by rw [keep 227 (by decide) (by decide), rowU 227 (by decide) (by decide), w27]; decide, Or.inr ⟨by rw [keep 221 (by decide) (by decide), rowU 221 (by decide) (by decide), w21]; decide, (s3.1 26).toInt.toNat, (s9.1 26).toInt.toNat, by rw [keep 229 (by decide) (by decide), rowU29]; omega, by omega, by omega, ?_, ?_⟩⟩
        · refine isY_eq2 (s := u) (by rw [Fr_row fT (by decide), Fr_row fU (by decide)]) (by rw [Fr_row fT (by decide), Fr_row fU (by decide)]) (fun z g1 g2 => ?_) yU
          have ne : NE u t z := NE_tr (NE_fr v2 g2) (neT z (by omega))
          exact ⟨NE_SR ne, fun _ => ne 225⟩
        · rw [e24, e26]
          refine eqs_eq (s := s19) (fun z g1 g2 => neT z (by omega) 225) (fun l h c g1 g2 g3 => ?_) k3
          refine isE_eq (s := s19) (by rw [Fr_row fT (by decide), Fr_row fV (by decide)]) (by rw [Fr_row fT (by decide), Fr_row fV (by decide)]) _ _ _ _ (fun z g5 g6 => ?_) g3
          exact ⟨NE_SR (neT z (by omega)), fun _ => ⟨neT z (by omega) 225, neT z (by omega) 228⟩⟩
    · by_cases q : (s9.1 8).toInt = 0
      · obtain ⟨x', a1, a2', rfl⟩ := g2 q
        have h9 := y1.2.2.2.2 q
        have hB := bounds q
        refine bad2 _ (Rd_ft (s := sa s9 229 (s1.1 26).toInt.toNat (s3.1 26)) y1 a1 a2') (Fr_sa (Fr_sf f12 (by decide)) (by decide) ⟨Nat.le_refl _, rfl⟩) y3 (by show _ ≤ (s9.1 26).toInt; omega) (by show ¬ x'.toInt = 0; omega) (by show (s9.1 26).toInt ≤ _; omega) (by show (s9.1 7).toInt ≤ _; omega)
      · have e4 := g1 q
        subst e4
        have h6 := y6 q
        exact bad2 _ y1 (Fr_sa f12 (by decide) ⟨Nat.le_refl _, rfl⟩) y3 (by show _ ≤ (s9.1 26).toInt; omega) q (by show (s9.1 26).toInt ≤ _; omega) (by show (s9.1 7).toInt ≤ _; omega)
  exact ⟨by omega, fun x6 h6 => ⟨by omega, fun _ => k36, fun _ => ⟨by omega, fun x7 h7 => ⟨by omega, fun _ => k34, fun _ => ⟨by omega, fun x8 h8 => ⟨by omega, fun _ => k36, fun _ => k34⟩⟩⟩⟩⟩⟩
theorem s_175 {b n W : Nat} (m : Nat) : EP b n W m (3 * m + 7) := by
  induction m with
  | zero => exact s_175s (fun m' h => by omega)
  | succ m ih => exact s_175s (fun m' h => by
      have e : m' = m := by omega
      rw [e]
      exact ih)
