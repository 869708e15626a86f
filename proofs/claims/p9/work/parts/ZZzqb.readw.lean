/-! ===== the class: read of asked TYPES in any sane state: what was kept stays (wip/p5/mkr.py) ===== -/
/-- STEPS in all, and what a run holds itself, stay -/
def KFz (s s' : zS) : Prop := s'.1 0 12 = s.1 0 12 ∧ (∀ k, s'.1 105 k = s.1 105 k) ∧ ∀ k, s'.1 197 k = s.1 197 k
theorem KFz_tr {s u w : zS} (a : KFz s u) (b : KFz u w) : KFz s w := ⟨b.1.trans a.1, fun k => (b.2.1 k).trans (a.2.1 k), fun k => (b.2.2 k).trans (a.2.2 k)⟩
/-- first words, kept words and tokens, what the object holds itself -/
def RDw (P : Nat) (s s' : zS) : Prop := (∀ j : Nat, ((j : Int) < 18 ∨ (198 ≤ (j : Int) ∧ (j : Int) < (s.1 P 10).toInt)) → s'.2 (P + 18) j = s.2 (P + 18) j) ∧ (∀ j : Nat, (j : Int) < (s.1 P 10).toInt - 18738 → s'.2 (P + 20) j = s.2 (P + 20) j) ∧ s'.1 0 11 = s.1 0 11 ∧ KFz s s'
section ZZZQB
variable {d P : Nat} {s u w : zS} {a1 a2 a3 : Int32} {c : zW} {vs : List Value}
theorem RDw_rf : RDw P s s := ⟨fun _ _ => rfl, fun _ _ => rfl, rfl, rfl, fun _ => rfl, fun _ => rfl⟩
theorem RDw_2 (h : w.2 = u.2) (h1 : w.1 0 11 = u.1 0 11) (h2 : KFz u w) (g : RDw P s u) : RDw P s w := ⟨fun j hj => by rw [h]; exact g.1 j hj, fun j hj => by rw [h]; exact g.2.1 j hj, h1.trans g.2.2.1, KFz_tr g.2.2.2 h2⟩
theorem RDw_f (hP : P = 3 ∨ P = 39) (hv : FVz (wrt c 2 vs) u w) (h1 : w.1 0 11 = u.1 0 11) (h2 : KFz u w) (g : RDw P s u) : RDw P s w := by
  have hv : FVz [] u w := hv
  have key : FVq [] P u w := by
    rcases hP with rfl | rfl
    · exact hv.1
    · exact hv.2.1
  obtain ⟨k1, -, -⟩ := key.2 List.not_mem_nil List.not_mem_nil
  have b18 : pWd P (P + 18) = true := by
    unfold pWd
    rw [Nat.beq_refl]
    rfl
  have b20 : pWd P (P + 20) = true := by
    unfold pWd
    rw [Nat.beq_refl (P + 20)]
    exact Bool.or_true _
  exact ⟨fun j hj => by rw [k1 _ b18]; exact g.1 j hj, fun j hj => by rw [k1 _ b20]; exact g.2.1 j hj, h1.trans g.2.2.1, KFz_tr g.2.2.2 h2⟩
set_option maxHeartbeats 1000000 in
theorem zw_1w (hP : P = 3 ∨ P = 39) (h2 : 1 ≤ a2.toInt ∧ a2.toInt ≤ 2) (hk : 18 ≤ (s.1 P 10).toInt) (hk2 : (s.1 P 10).toInt ≤ 1300000000) (hN : SNz s) : Zx (d + 144) [(75, 0), (75, 1), (75, 2), (83, 1), (83, 2)] [] [(83, 2, 86), (83, 1, P), (75, 2, P + 22), (75, 1, P + 18), (75, 0, P)] 1 [.ref 85, .ref P, .int a2] s (fun v s' => ∃ r : Int32, v = some (.int r) ∧ (r = 0 → sn (s'.1 85 5) ∧ sn (s'.1 85 6) ∧ (s'.1 75 3).toInt = 18) ∧ RDw P s s' ∧ s'.1 P 10 = s.1 P 10) := by
  have hP85 : ¬ 85 = P ∧ ¬ 75 = P ∧ ¬ P = 85 ∧ ¬ P = 75 ∧ ¬ P = 83 := by omega
  refine zc_1 (d := d + 135) hP ?_
  unfold v_1_0
  intro s1 hs1
  have f1 : ∀ b q, ¬ (b = 85 ∧ q = 4) → s1.1 b q = s.1 b q := fun b q hb => by rw [hs1, zf_1, if_neg hb]
  refine ⟨fun c2 _ c4 w => c2 = a2 ∧ 0 ≤ c4.toInt ∧ SNz w ∧ (∀ b q, ¬ (b = 85 ∧ q = 4) → w.1 b q = s.1 b q) ∧ RDw P s w, fun _ _ c4 _ => (2 - c4.toInt).toNat, ⟨rfl, by decide, SNz_2 (by rw [hs1, zf_2]) hN, f1, RDw_2 (by rw [hs1, zf_2]) (f1 0 11 (by decide)) ⟨f1 0 12 (by decide), fun k => f1 105 k (fun z => absurd z.1 (by decide)), fun k => f1 197 k (fun z => absurd z.1 (by decide))⟩ RDw_rf⟩, ?_⟩
  rintro c2 c3 c4 w ⟨r2, i1, Nw, i2, iw⟩
  subst r2
  have w10 : w.1 P 10 = s.1 P 10 := i2 P 10 (fun z => hP85.2.2.1 z.1)
  unfold v_1_7
  refine ⟨fun _ => ⟨fun _ => ?_, fun _ => ⟨_, rfl, fun e => absurd e (by decide), iw, w10⟩⟩, fun y => ?_⟩
  rotate_left
  · refine Zt.imp (Zt.mo (d := 18) (by omega) ((zw_2 (d := 0) hP).fr.sn Nw)) ?_
    rintro v6 s7 ⟨⟨⟨⟨x8, rfl⟩, f7⟩, v7⟩, N7⟩
    have e7 : RDw P s s7 := RDw_f hP v7 (f7 0 11 (by decide)) ⟨f7 0 12 (by decide), fun k => f7 105 k (fun z => absurd z.1 (by decide)), fun k => f7 197 k (fun z => absurd z.1 (by decide))⟩ iw
    have w7 : s7.1 P 10 = s.1 P 10 := by rw [f7 P 10 (fun z => hP85.2.2.1 z.1), w10]
    unfold v_1_29 v_1_30
    have nx : ∀ x2 : Int32, (-2147483648 ≤ c4.toInt + 1 ∧ c4.toInt + 1 ≤ 2147483647 → x2.toInt = c4.toInt + 1) → 0 ≤ x2.toInt ∧ (2 - x2.toInt).toNat < (2 - c4.toInt).toNat := fun x2 hx2 => by
      have := hx2 (by omega)
      omega
    refine ⟨x8, rfl, fun _ => ⟨_, rfl, fun e => absurd e (by decide), e7, w7⟩, fun _ x9 _ => ⟨fun _ => ⟨fun _ x1 _ x2 hx2 => ?_, fun _ => ⟨_, rfl, fun e => absurd e (by decide), e7, w7⟩⟩, fun _ => ⟨fun _ x1 _ x2 hx2 => ?_, fun _ => ⟨_, rfl, fun e => absurd e (by decide), e7, w7⟩⟩⟩⟩
    · exact ⟨⟨rfl, (nx x2 hx2).1, N7, fun b q hb => by rw [f7 b q hb]; exact i2 b q hb, e7⟩, (nx x2 hx2).2⟩
    · exact ⟨⟨rfl, (nx x2 hx2).1, N7, fun b q hb => by rw [f7 b q hb]; exact i2 b q hb, e7⟩, (nx x2 hx2).2⟩
  refine Zu.imp (Zu.mo (d := 18) (by omega) ((zw_81 (d := 0) hP).sn Nw)) ?_
  rintro v1 s2 ⟨⟨rfl, r2, t2, f2⟩, N2⟩
  refine ⟨rfl, ?_⟩
  refine Zu.imp (Zu.mo (d := 5) (by omega) ((zc_121A (d := 0) (Q := fun v s' => v = none ∧ s' = s2) hP (by unfold v_121A_0; exact ⟨rfl, rfl⟩)).sn N2)) ?_
  rintro v3 s4 ⟨⟨rfl, hs4⟩, N4⟩
  refine ⟨rfl, fun s5 hs5 => ?_⟩
  subst hs4
  have f5 : ∀ b q, ¬ (b = P ∧ q = 14) → s5.1 b q = s4.1 b q := fun b q hb => by rw [hs5, zf_1, if_neg hb]
  have k5 : s5.1 P 10 = s.1 P 10 := by rw [f5 P 10 (by omega), f2 P 10 (fun z => hP85.2.2.2.1 z.1), w10]
  have t5 : (s5.1 75 3).toInt = 18 := by rw [f5 75 3 (fun z => hP85.2.1 z.1), t2]; decide
  have e5 : RDw P s s5 := RDw_2 (by rw [hs5, zf_2, r2]) (by rw [f5 0 11 (by omega), f2 0 11 (fun z => absurd z.1 (by decide))]) ⟨by rw [f5 0 12 (by omega), f2 0 12 (fun z => absurd z.1 (by decide))], fun k => by rw [f5 105 k (by omega), f2 105 k (fun z => absurd z.1 (by decide))], fun k => by rw [f5 197 k (by omega), f2 197 k (fun z => absurd z.1 (by decide))]⟩ iw
  rw [k5]
  -- the types asked for, one by one
  refine ⟨fun b2 _ b4 b5 z => b2 = c2 ∧ b4 = s.1 P 10 ∧ 0 ≤ b5.toInt ∧ b5.toInt ≤ c2.toInt ∧ SNz z ∧ 18 ≤ (z.1 P 10).toInt ∧ (z.1 P 10).toInt ≤ (s.1 P 10).toInt + 5000 * b5.toInt ∧ (z.1 75 3).toInt = 18 ∧ (1 ≤ b5.toInt → sn (z.1 85 5) ∧ sn (z.1 85 6)) ∧ RDw P s z ∧ (s.1 P 10).toInt ≤ (z.1 P 10).toInt, fun _ _ _ b5 _ => (2 - b5.toInt).toNat, ⟨rfl, rfl, by decide, by rw [show (0 : Int32).toInt = 0 by decide]; omega, SNz_2 (by rw [hs5, zf_2]) N4, by rw [k5]; exact hk, by rw [k5, show (0 : Int32).toInt = 0 by decide]; omega, t5, fun z => absurd z (by decide), e5, by rw [k5]; exact Int.le_refl _⟩, ?_⟩
  rintro b2 b3 b4 b5 z ⟨r2', r4, j1, j2, Nz, j3, j4, j5, j6, j7, j8⟩
  subst r2' r4
  have out : ((z.1 P 14).toInt = 0 → b2.toInt ≤ b5.toInt) → v_1_97 (fun j => Zt (d + 135 + 8) (wd3 P j) j) P (d + 135 + 8) b2 b3 (s.1 P 10) b5 z (fun v s' => ∃ r : Int32, v = some (.int r) ∧ (r = 0 → sn (s'.1 85 5) ∧ sn (s'.1 85 6) ∧ (s'.1 75 3).toInt = 18) ∧ RDw P s s' ∧ s'.1 P 10 = s.1 P 10) := fun h14 => by
    unfold v_1_97 v_1_106
    refine ⟨by omega, fun s1 hs1 => ?_⟩
    have g : ∀ b q, ¬ (b = P ∧ q = 10) → s1.1 b q = z.1 b q := fun b q hb => by rw [hs1, zf_1, if_neg hb]
    have eR : RDw P s s1 := RDw_2 (by rw [hs1, zf_2]) (g 0 11 (by omega)) ⟨g 0 12 (by omega), fun k => g 105 k (by omega), fun k => g 197 k (by omega)⟩ j7
    have eK : s1.1 P 10 = s.1 P 10 := by rw [hs1, zf_1, if_pos ⟨rfl, rfl⟩]
    refine ⟨fun _ => ⟨_, rfl, fun e => absurd e (by decide), eR, eK⟩, fun z14 => ⟨_, rfl, fun _ => ?_, eR, eK⟩⟩
    rw [g P 14 (by omega)] at z14
    have := h14 z14
    rw [g 85 5 (fun z => hP85.1 z.1), g 85 6 (fun z => hP85.1 z.1), g 75 3 (fun z => hP85.2.1 z.1)]
    exact ⟨(j6 (by omega)).1, (j6 (by omega)).2, j5⟩
  unfold v_1_61
  refine ⟨fun e => out (fun _ => e), fun y => ⟨fun n => out (fun z => absurd z n), fun z14 => ?_⟩⟩
  have body : ∀ t1 : Int32, sn t1 → v_1_77 (fun j => Zt (d + 135 + 8) (wd3 P j) j) P (d + 135 + 8) (fun a2' a3' a4' a5' s' => (a2' = b2 ∧ a4' = s.1 P 10 ∧ 0 ≤ a5'.toInt ∧ a5'.toInt ≤ b2.toInt ∧ SNz s' ∧ 18 ≤ (s'.1 P 10).toInt ∧ (s'.1 P 10).toInt ≤ (s.1 P 10).toInt + 5000 * a5'.toInt ∧ (s'.1 75 3).toInt = 18 ∧ (1 ≤ a5'.toInt → sn (s'.1 85 5) ∧ sn (s'.1 85 6)) ∧ RDw P s s' ∧ (s.1 P 10).toInt ≤ (s'.1 P 10).toInt) ∧ (2 - a5'.toInt).toNat < (2 - b5.toInt).toNat) b2 b3 (s.1 P 10) b5 (z.1 P 10) t1 z (fun v s' => ∃ r : Int32, v = some (.int r) ∧ (r = 0 → sn (s'.1 85 5) ∧ sn (s'.1 85 6) ∧ (s'.1 75 3).toInt = 18) ∧ RDw P s s' ∧ s'.1 P 10 = s.1 P 10) := fun t1 ht1 => by
    unfold v_1_77
    intro s1 hs1 s2 hs2
    have g2 : ∀ b q, ¬ (b = 85 ∧ (q = 5 ∨ q = 6)) → s2.1 b q = z.1 b q := fun b q hb => by
      rw [hs2, zf_1, if_neg (fun w => hb ⟨w.1, Or.inr w.2⟩), hs1, zf_1, if_neg (fun w => hb ⟨w.1, Or.inl w.2⟩)]
    have g5 : s2.1 85 5 = t1 := by rw [hs2, zf_1, if_neg (by decide), hs1, zf_1, if_pos ⟨rfl, rfl⟩]
    have g6 : s2.1 85 6 = z.1 P 10 := by rw [hs2, zf_1, if_pos ⟨rfl, rfl⟩]
    have k2 : s2.1 P 10 = z.1 P 10 := g2 P 10 (fun w => hP85.2.2.1 w.1)
    have N2' : SNz s2 := SNz_2 (by rw [hs2, zf_2, hs1, zf_2]) Nz
    refine Zt.imp (Zt.mo (d := 36 + 9 * 10) (by omega) ((zw_132w hP 10 s2 b3 1 (by decide) (by decide) (by rw [k2]; exact j3) (by rw [k2]; omega) N2').sn N2')) ?_
    rintro v3 s4' ⟨⟨⟨x5, rfl⟩, l1, -, l3⟩, N4'⟩
    rw [k2] at l1
    refine ⟨x5, rfl, fun x6 _ => ?_⟩
    refine Zt.imp (Zt.mo (d := 45) (by omega) ((zw_135w (d := 0) hP (by omega) (by omega) (by rw [l3.1 75 3 (fun w => hP85.2.1 w.1), g2 75 3 (by decide)]; exact j5) N4').sn N4')) ?_
    rintro v7 s8 ⟨⟨rfl, f8', w8⟩, N8⟩
    have f8 := f8'
    refine ⟨rfl, fun x9 hx9 => ?_⟩
    have e9 := hx9 (by omega)
    have k8 : s8.1 P 10 = s4'.1 P 10 := f8 P 10 (by omega)
    refine ⟨⟨rfl, rfl, by omega, by omega, N8, by rw [k8]; omega, by rw [k8]; omega, ?_, fun _ => ⟨?_, ?_⟩, ?_, by rw [k8]; omega⟩, by omega⟩
    · rw [f8 75 3 (fun w => hP85.2.1 w.1), l3.1 75 3 (fun w => hP85.2.1 w.1), g2 75 3 (by decide)]
      exact j5
    · rw [f8 85 5 (fun w => hP85.1 w.1), l3.1 85 5 (fun w => hP85.1 w.1), g5]
      exact ht1
    · rw [f8 85 6 (fun w => hP85.1 w.1), l3.1 85 6 (fun w => hP85.1 w.1), g6]
      exact ⟨by omega, by omega⟩
    · have q2 : RDw P s s2 := RDw_2 (by rw [hs2, zf_2, hs1, zf_2]) (g2 0 11 (by decide)) ⟨g2 0 12 (by decide), fun k => g2 105 k (fun z => absurd z.1 (by decide)), fun k => g2 197 k (fun z => absurd z.1 (by decide))⟩ j7
      rw [← k2] at j8
      refine ⟨fun j hj => ?_, fun j hj => ?_, ?_, ?_⟩
      · rw [w8.1 j (by omega), l3.2.1 j (by omega), q2.1 j hj]
      · rw [w8.2, l3.2.2 j (by omega), q2.2.1 j hj]
      · rw [f8 0 11 (by omega), l3.1 0 11 (by omega), q2.2.2.1]
      · exact ⟨by rw [f8 0 12 (by omega), l3.1 0 12 (by omega), q2.2.2.2.1], fun k => by rw [f8 105 k (by omega), l3.1 105 k (by omega), q2.2.2.2.2.1 k], fun k => by rw [f8 197 k (by omega), l3.1 197 k (by omega), q2.2.2.2.2.2 k]⟩
  exact ⟨fun n => body _ (j6 (by omega)).1, fun _ => body _ ⟨by omega, by omega⟩⟩
end ZZZQB
