/-! ===== the class: tell of asked TYPES in any sane state: what it writes (wip/p5/mkt.py) ===== -/
/-- no word, no token that was kept -/
def FKf (P : Nat) (s s' : zS) : Prop := (∀ b q, ¬ (b = P ∧ (q = 10 ∨ q = 14)) → s'.1 b q = s.1 b q) ∧ (∀ j : Nat, (j : Int) < (s.1 P 10).toInt → s'.2 (P + 18) j = s.2 (P + 18) j) ∧ ∀ j : Nat, (j : Int) < (s.1 P 10).toInt - 18738 → s'.2 (P + 20) j = s.2 (P + 20) j
section ZZZPA
variable {d P : Nat} {s u w s1 s3 s5 : zS} {a1 a2 x2 x4 v v' : Int32}
theorem FKf_tr (h : FKf P s u) (g : FKf P u w) (hk : (s.1 P 10).toInt ≤ (u.1 P 10).toInt) : FKf P s w := ⟨fun b q hb => (g.1 b q hb).trans (h.1 b q hb), fun j hj => (g.2.1 j (by omega)).trans (h.2.1 j hj), fun j hj => (g.2.2 j (by omega)).trans (h.2.2 j hj)⟩
theorem FKf_b (hP : P = 3 ∨ P = 39) (hs1 : s1 = zt w (P + 18) (s.1 P 10) v) (hs3 : s3 = zt s1 (P + 20) x2 v') (hs5 : s5 = zf s3 P 10 x4) (hx : x2.toInt = (s.1 P 10).toInt - 18738) (fw : ∀ b q, ¬ (b = P ∧ (q = 10 ∨ q = 14)) → w.1 b q = s.1 b q) (rw2 : w.2 = s.2) : FKf P s s5 := by
  refine ⟨fun b q hb => ?_, fun j hj => ?_, fun j hj => ?_⟩
  · rw [hs5, zf_1, if_neg (fun z => hb ⟨z.1, Or.inl z.2⟩), hs3, zt_1, hs1, zt_1]
    exact fw b q hb
  · rw [hs5, zf_2, hs3, zt_o (by omega), hs1, ← rw2]
    unfold zt
    split
    · rw [zr_2, if_neg (fun z => by omega)]
    · rfl
  · have e : s5.2 (P + 20) j = s1.2 (P + 20) j := by
      rw [hs5, zf_2, hs3]
      unfold zt
      split
      · rw [zr_2, if_neg (fun z => by omega)]
      · rfl
    rw [e, hs1, zt_o (by omega), rw2]
theorem zw_132w (hP : P = 3 ∨ P = 39) : ∀ (m : Nat) (s : zS) (a1 a2 : Int32), m ≤ 10 → a2.toInt = 11 - (m : Int) → 18 ≤ (s.1 P 10).toInt → (s.1 P 10).toInt ≤ 1999000000 - 1000 * (m : Int) → SNz s → Zt (36 + 9 * m) (wd3 P 132) 132 [.ref 83, .int a1, .int a2] s (fun v s' => (∃ r : Int32, v = some (.int r)) ∧ ((s.1 P 10).toInt + 1 ≤ (s'.1 P 10).toInt ∧ (s'.1 P 10).toInt ≤ (s.1 P 10).toInt + 1 + 421 * (m : Int)) ∧ ((s'.1 P 14).toInt = 0 → (s'.1 P 10).toInt ≤ (s.1 P 10).toInt + 60) ∧ FKf P s s') := by
  intro m
  induction m with
  | zero =>
    intro s a1 a2 hm h2 hk hk2 hN
    refine Zt_bd (fun hB => zc_132A (d := 27) hP ?_)
    unfold v_132A_0
    refine Zt.imp (Zt.mo (d := 27) (by omega) (zw_133A (d := 0) hP)) ?_
    rintro v1 s2 ⟨hs2, x3, rfl⟩
    subst hs2
    have g49 : ∀ (q3 q4 q5 : Int32) (w : zS), (∀ b q, ¬ (b = P ∧ q = 14) → w.1 b q = s2.1 b q) → w.2 = s2.2 → v_132A_49 (fun j => Zt (27 + 8) (wd3 P j) j) P a1 a2 q3 q4 q5 w (fun v s' => (∃ r : Int32, v = some (.int r)) ∧ ((s2.1 P 10).toInt + 1 ≤ (s'.1 P 10).toInt ∧ (s'.1 P 10).toInt ≤ (s2.1 P 10).toInt + 1 + 421 * ((0 : Nat) : Int)) ∧ ((s'.1 P 14).toInt = 0 → (s'.1 P 10).toInt ≤ (s2.1 P 10).toInt + 60) ∧ FKf P s2 s') := fun q3 q4 q5 w fw rw2 => by
      have w10 : w.1 P 10 = s2.1 P 10 := fw P 10 (by omega)
      unfold v_132A_49
      rw [w10]
      refine ⟨Or.inr hk, fun s1 hs1 x2 hx2 s3 hs3 x4 hx4 => ?_⟩
      have e4 := hx4 (by omega)
      refine ⟨by omega, fun s5 hs5 x6 _ => ?_⟩
      have e10 : (s5.1 P 10).toInt = (s2.1 P 10).toInt + 1 := by rw [hs5, zf_1, if_pos ⟨rfl, rfl⟩]; exact e4
      have f5 : FKf P s2 s5 := FKf_b hP hs1 hs3 hs5 (hx2 (by omega)) (fun b q hb => fw b q (fun z => hb ⟨z.1, Or.inr z.2⟩)) rw2
      refine ⟨fun b1 b2 b3 b4 b5 b6 b7 b8 z => b2 = a2 ∧ b6 = s2.1 P 10 ∧ z = s5, fun _ _ _ _ _ _ _ _ _ => 0, ⟨rfl, rfl, rfl⟩, ?_⟩
      rintro b1 b2 b3 b4 b5 b6 b7 b8 z ⟨r2, r6, rz⟩
      subst r2 r6 rz
      have out : v_132A_100 (fun j => Zt (27 + 8) (wd3 P j) j) P b1 b2 b3 b4 b5 (s2.1 P 10) b7 b8 z (fun v s' => (∃ r : Int32, v = some (.int r)) ∧ ((s2.1 P 10).toInt + 1 ≤ (s'.1 P 10).toInt ∧ (s'.1 P 10).toInt ≤ (s2.1 P 10).toInt + 1 + 421 * ((0 : Nat) : Int)) ∧ ((s'.1 P 14).toInt = 0 → (s'.1 P 10).toInt ≤ (s2.1 P 10).toInt + 60) ∧ FKf P s2 s') := by
        unfold v_132A_100 v_132A_112 v_132A_119
        refine fun x1 hx1 => ?_
        have e1 := hx1 (by omega)
        exact ⟨fun _ => ⟨fun _ => ⟨⟨_, rfl⟩, by omega, fun _ => by omega, f5⟩, fun _ x1 _ => ⟨⟨_, rfl⟩, by omega, fun _ => by omega, f5⟩⟩, fun w => absurd w (by omega)⟩
      unfold v_132A_79
      exact ⟨fun _ => out, fun _ => ⟨fun _ => out, fun _ => ⟨fun _ => out, fun w => absurd w (by omega)⟩⟩⟩
    have g28 : ∀ q4 t0 : Int32, v_132A_28 (fun j => Zt (27 + 8) (wd3 P j) j) P a1 a2 x3 q4 t0 s2 (fun v s' => (∃ r : Int32, v = some (.int r)) ∧ ((s2.1 P 10).toInt + 1 ≤ (s'.1 P 10).toInt ∧ (s'.1 P 10).toInt ≤ (s2.1 P 10).toInt + 1 + 421 * ((0 : Nat) : Int)) ∧ ((s'.1 P 14).toInt = 0 → (s'.1 P 10).toInt ≤ (s2.1 P 10).toInt + 60) ∧ FKf P s2 s') := fun q4 t0 => by
      unfold v_132A_28
      refine ⟨fun _ => ⟨fun _ => g49 _ _ _ s2 (fun _ _ _ => rfl) rfl, fun _ => ?_⟩, fun _ => ?_⟩
      · refine Zt.imp (Zt.mo (d := 9) (by omega) (zw_38 (d := 0) (a1 := 4) hP (by decide))) ?_
        rintro v1 s4 ⟨rfl, r4, f4, -⟩
        exact ⟨rfl, g49 _ _ _ s4 f4 r4⟩
      · refine Zt.imp (Zt.mo (d := 9) (by omega) (zw_38 (d := 0) (a1 := 2) hP (by decide))) ?_
        rintro v1 s4 ⟨rfl, r4, f4, -⟩
        exact ⟨rfl, g49 _ _ _ s4 f4 r4⟩
    unfold v_132A_16
    exact ⟨x3, rfl, fun x4 _ => ⟨fun _ => ⟨fun _ => g28 _ _, fun _ x1 _ => g28 _ _⟩, fun _ => ⟨fun _ => g28 _ _, fun _ x1 _ => g28 _ _⟩⟩⟩
  | succ m ih =>
    intro s a1 a2 hm h2 hk hk2 hN
    rw [show 36 + 9 * (m + 1) = (36 + 9 * m) + 9 by omega]
    refine Zt_bd (fun hB => zc_132A (d := 36 + 9 * m) hP ?_)
    unfold v_132A_0
    refine Zt.imp (Zt.mo (d := 27) (by omega) (zw_133A (d := 0) hP)) ?_
    rintro v1 s2 ⟨hs2, x3, rfl⟩
    subst hs2
    -- from the word on: w as the looks at it left the state
    have g49 : ∀ (q4 q5 : Int32) (w : zS), SNz w → (∀ b q, ¬ (b = P ∧ q = 14) → w.1 b q = s2.1 b q) → w.2 = s2.2 → ((w.1 P 14).toInt = 0 → q5.toInt ≤ 7) → v_132A_49 (fun j => Zt (36 + 9 * m + 8) (wd3 P j) j) P a1 a2 x3 q4 q5 w (fun v s' => (∃ r : Int32, v = some (.int r)) ∧ ((s2.1 P 10).toInt + 1 ≤ (s'.1 P 10).toInt ∧ (s'.1 P 10).toInt ≤ (s2.1 P 10).toInt + 1 + 421 * ((m + 1 : Nat) : Int)) ∧ ((s'.1 P 14).toInt = 0 → (s'.1 P 10).toInt ≤ (s2.1 P 10).toInt + 60) ∧ FKf P s2 s') := fun q4 q5 w Nw fw rw2 h7 => by
      have w10 : w.1 P 10 = s2.1 P 10 := fw P 10 (by omega)
      unfold v_132A_49
      rw [w10]
      refine ⟨Or.inr hk, fun s1 hs1 x2 hx2 s3 hs3 x4 hx4 => ?_⟩
      have e4 := hx4 (by omega)
      refine ⟨by omega, fun s5 hs5 x6 _ => ?_⟩
      have e10 : (s5.1 P 10).toInt = (s2.1 P 10).toInt + 1 := by rw [hs5, zf_1, if_pos ⟨rfl, rfl⟩]; exact e4
      have e14 : s5.1 P 14 = w.1 P 14 := by rw [hs5, zf_1, if_neg (by omega), hs3, zt_1, hs1, zt_1]
      have f5 : FKf P s2 s5 := FKf_b hP hs1 hs3 hs5 (hx2 (by omega)) (fun b q hb => fw b q (fun z => hb ⟨z.1, Or.inr z.2⟩)) rw2
      have N5 : SNz s5 := by
        refine SNz_2 (s := s3) (by rw [hs5, zf_2]) ?_
        have n1 : ¬ skB (P + 20) = true := by rcases hP with rfl | rfl <;> decide
        have n2 : ¬ skB (P + 18) = true := by rcases hP with rfl | rfl <;> decide
        rw [hs3]
        refine SNz_zt ?_ (fun z => absurd z n1)
        rw [hs1]
        exact SNz_zt Nw (fun z => absurd z n2)
      refine ⟨fun b1 b2 b3 b4 b5 b6 b7 b8 z => b2 = a2 ∧ b6 = s2.1 P 10 ∧ b5 = q5 ∧ 0 ≤ b8.toInt ∧ SNz z ∧ ((s2.1 P 10).toInt + 1 ≤ (z.1 P 10).toInt ∧ (z.1 P 10).toInt ≤ (s2.1 P 10).toInt + 1 + 421 * ((m + 1 : Nat) : Int)) ∧ ((z.1 P 14).toInt = 0 → q5.toInt ≤ 7 ∧ b8.toInt ≤ 7 ∧ (z.1 P 10).toInt ≤ (s2.1 P 10).toInt + 1 + 60 * b8.toInt) ∧ FKf P s2 z, fun _ _ _ _ _ _ _ b8 _ => (2147483647 - b8.toInt).toNat, ⟨rfl, rfl, rfl, by decide, N5, by omega, fun z => ⟨h7 (by rw [← e14]; exact z), by decide, by rw [show (0 : Int32).toInt = 0 by decide]; omega⟩, f5⟩, ?_⟩
      rintro b1 b2 b3 b4 b5 b6 b7 b8 z ⟨r2, r6, r5, i1, Nz, i2, i3, i4⟩
      subst r2 r6 r5
      have out : v_132A_100 (fun j => Zt (36 + 9 * m + 8) (wd3 P j) j) P b1 b2 b3 b4 b5 (s2.1 P 10) b7 b8 z (fun v s' => (∃ r : Int32, v = some (.int r)) ∧ ((s2.1 P 10).toInt + 1 ≤ (s'.1 P 10).toInt ∧ (s'.1 P 10).toInt ≤ (s2.1 P 10).toInt + 1 + 421 * ((m + 1 : Nat) : Int)) ∧ ((s'.1 P 14).toInt = 0 → (s'.1 P 10).toInt ≤ (s2.1 P 10).toInt + 60) ∧ FKf P s2 s') := by
        unfold v_132A_100 v_132A_112 v_132A_119
        refine fun x1 hx1 => ?_
        have e1 := hx1 (by omega)
        refine ⟨fun y => ⟨fun _ => ⟨⟨_, rfl⟩, i2, fun _ => by omega, i4⟩, fun _ x1 _ => ⟨⟨_, rfl⟩, i2, fun _ => by omega, i4⟩⟩, fun y => ?_⟩
        refine Zt.imp (Zt.mo (d := 9) (by omega) (zw_38 (d := 0) (a1 := 9) hP (by decide))) ?_
        rintro v2 s3' ⟨rfl, r3, f3, k3⟩
        have e10' : s3'.1 P 10 = z.1 P 10 := f3 P 10 (by omega)
        have fin : (((s2.1 P 10).toInt + 1 ≤ (s3'.1 P 10).toInt ∧ (s3'.1 P 10).toInt ≤ (s2.1 P 10).toInt + 1 + 421 * ((m + 1 : Nat) : Int)) ∧ ((s3'.1 P 14).toInt = 0 → (s3'.1 P 10).toInt ≤ (s2.1 P 10).toInt + 60) ∧ FKf P s2 s3') := ⟨by rw [e10']; exact i2, fun w => absurd (k3 w).2 (by decide), ⟨fun b q hb => by rw [f3 b q (fun z => hb ⟨z.1, Or.inr z.2⟩)]; exact i4.1 b q hb, fun j hj => by rw [r3]; exact i4.2.1 j hj, fun j hj => by rw [r3]; exact i4.2.2 j hj⟩⟩
        exact ⟨rfl, fun _ => ⟨⟨_, rfl⟩, fin⟩, fun _ x1 _ => ⟨⟨_, rfl⟩, fin⟩⟩
      unfold v_132A_79
      refine ⟨fun _ => out, fun y => ⟨fun _ => out, fun z14 => ⟨fun _ => out, fun _ x1 _ x2 hx2 => ?_⟩⟩⟩
      obtain ⟨k1, k2, k3⟩ := i3 z14
      have e2 := hx2 (by omega)
      refine Zt.imp (Zt.mo (d := 36 + 9 * m) (by omega) ((ih z x1 x2 (by omega) (by omega) (by omega) (by omega) Nz).sn Nz)) ?_
      rintro v3 s4 ⟨⟨⟨x5, rfl⟩, l1, l2, l3⟩, N4⟩
      refine ⟨x5, rfl, fun x6 hx6 => ?_⟩
      have e6 := hx6 (by omega)
      refine ⟨⟨rfl, rfl, rfl, by omega, N4, by omega, fun w => ⟨k1, by omega, ?_⟩, FKf_tr i4 l3 (by omega)⟩, by dsimp only; omega⟩
      have := l2 w
      omega
    have g28 : ∀ q4 t0 : Int32, v_132A_28 (fun j => Zt (36 + 9 * m + 8) (wd3 P j) j) P a1 a2 x3 q4 t0 s2 (fun v s' => (∃ r : Int32, v = some (.int r)) ∧ ((s2.1 P 10).toInt + 1 ≤ (s'.1 P 10).toInt ∧ (s'.1 P 10).toInt ≤ (s2.1 P 10).toInt + 1 + 421 * ((m + 1 : Nat) : Int)) ∧ ((s'.1 P 14).toInt = 0 → (s'.1 P 10).toInt ≤ (s2.1 P 10).toInt + 60) ∧ FKf P s2 s') := fun q4 t0 => by
      unfold v_132A_28
      refine ⟨fun _ => ⟨fun e => g49 _ _ s2 hN (fun _ _ _ => rfl) rfl (fun _ => by rw [e]; exact (bd_ar hP hB _).2), fun _ => ?_⟩, fun _ => ?_⟩
      · refine Zt.imp (Zt.mo (d := 9) (by omega) ((zw_38 (d := 0) (a1 := 4) hP (by decide)).sn hN)) ?_
        rintro v1 s4 ⟨⟨rfl, r4, f4, k4⟩, N4⟩
        exact ⟨rfl, g49 _ _ s4 N4 f4 r4 (fun w => absurd (k4 w).2 (by decide))⟩
      · refine Zt.imp (Zt.mo (d := 9) (by omega) ((zw_38 (d := 0) (a1 := 2) hP (by decide)).sn hN)) ?_
        rintro v1 s4 ⟨⟨rfl, r4, f4, k4⟩, N4⟩
        exact ⟨rfl, g49 _ _ s4 N4 f4 r4 (fun w => absurd (k4 w).2 (by decide))⟩
    unfold v_132A_16
    exact ⟨x3, rfl, fun x4 _ => ⟨fun _ => ⟨fun _ => g28 _ _, fun _ x1 _ => g28 _ _⟩, fun _ => ⟨fun _ => g28 _ _, fun _ x1 _ => g28 _ _⟩⟩⟩
end ZZZPA
