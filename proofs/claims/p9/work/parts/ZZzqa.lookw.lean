/-! ===== the class: lookAtBounds of asked TYPES in any sane state: what it writes (wip/p5/mkl.py) ===== -/
/-- words of the scratch alone, no tokens -/
def WBf (P : Nat) (s s' : zS) : Prop := (∀ j : Nat, ((j : Int) < 18 ∨ 198 ≤ (j : Int)) → s'.2 (P + 18) j = s.2 (P + 18) j) ∧ s'.2 (P + 20) = s.2 (P + 20)
def LBf (P : Nat) (s s' : zS) : Prop := (∀ b q, ¬ (b = P ∧ q = 14) → s'.1 b q = s.1 b q) ∧ WBf P s s'
section ZZZQA
variable {d P : Nat} {s u w : zS} {a1 a2 : Int32}
theorem WBf_tr (h : WBf P s u) (g : WBf P u w) : WBf P s w := ⟨fun j hj => (g.1 j hj).trans (h.1 j hj), g.2.trans h.2⟩
theorem LBf_rf : LBf P s s := ⟨fun _ _ _ => rfl, fun _ _ => rfl, rfl⟩
theorem zw_38r (hP : P = 3 ∨ P = 39) : Zt (d + 9) (wd P 38) 38 [.ref P, .int a1, .int a2] s (fun v s' => v = none ∧ s'.2 = s.2 ∧ ∀ b q, ¬ (b = P ∧ q = 14) → s'.1 b q = s.1 b q) := by
  refine zc_38 hP ?_
  unfold v_38_0 v_38_16
  exact ⟨fun _ => ⟨rfl, rfl, fun _ _ _ => rfl⟩, fun _ => ⟨fun _ => ⟨rfl, rfl, fun _ _ _ => rfl⟩, fun _ x1 _ x2 _ s3 hs3 => ⟨rfl, by rw [hs3, zf_2], fun b q hb => by rw [hs3, zf_1, if_neg hb]⟩⟩⟩
set_option maxHeartbeats 1000000 in
theorem zw_135w (hP : P = 3 ∨ P = 39) (h1 : -1000 ≤ a1.toInt) (h2 : a2.toInt ≤ 1999900000) (ht : (s.1 75 3).toInt = 18) (hN : SNz s) : Zt (d + 45) (wd3 P 135) 135 [.ref 83, .int a1, .int a2] s (fun v s' => v = none ∧ LBf P s s') := by
  have hP75 : ¬ 75 = P := by omega
  refine zc_135A (d := d + 36) hP ?_
  unfold v_135A_0
  refine ⟨fun c1 c2 c3 w => c1 = a1 ∧ c2 = a2 ∧ a1.toInt ≤ c3.toInt ∧ SNz w ∧ LBf P s w, fun _ _ c3 _ => (a2.toInt - c3.toInt).toNat, ⟨rfl, rfl, Int.le_refl _, hN, LBf_rf⟩, ?_⟩
  rintro c1 c2 c3 w ⟨r1, r2, i1, Nw, i2⟩
  subst r1 r2
  unfold v_135A_2
  refine ⟨fun _ => ⟨rfl, i2⟩, fun y => ?_⟩
  refine ⟨fun b1 b2 b3 b4 z => b1 = c1 ∧ b2 = c2 ∧ b3 = c3 ∧ b4.toInt ≤ c3.toInt ∧ c1.toInt - 1 ≤ b4.toInt ∧ SNz z ∧ LBf P s z, fun _ _ _ b4 _ => (b4.toInt - c1.toInt + 1).toNat, ⟨rfl, rfl, rfl, Int.le_refl _, by omega, Nw, i2⟩, ?_⟩
  rintro b1 b2 b3 b4 z ⟨r1, r2, r3, j1, j2, Nz, j3⟩
  subst r1 r2 r3
  -- the next last one
  have out : v_135A_120 (fun j => Zt (d + 36 + 8) (wd3 P j) j) P (fun a1' a2' a3' s' => (a1' = b1 ∧ a2' = b2 ∧ b1.toInt ≤ a3'.toInt ∧ SNz s' ∧ LBf P s s') ∧ (b2.toInt - a3'.toInt).toNat < (b2.toInt - b3.toInt).toNat) b1 b2 b3 b4 z (fun v s' => v = none ∧ LBf P s s') := by
    unfold v_135A_120
    intro x1 hx1
    have := hx1 (by omega)
    exact ⟨⟨rfl, rfl, by omega, Nz, j3⟩, by omega⟩
  -- TYPES one by one
  have g37 : ∀ (q5 t0 : Int32) (w : zS), ¬ b4.toInt < b1.toInt → SNz w → LBf P s w → v_135A_37 (fun j => Zt (d + 36 + 8) (wd3 P j) j) P (fun a1' a2' a3' s' => (a1' = b1 ∧ a2' = b2 ∧ b1.toInt ≤ a3'.toInt ∧ SNz s' ∧ LBf P s s') ∧ (b2.toInt - a3'.toInt).toNat < (b2.toInt - b3.toInt).toNat) (fun a1' a2' a3' a4' s' => (a1' = b1 ∧ a2' = b2 ∧ a3' = b3 ∧ a4'.toInt ≤ b3.toInt ∧ b1.toInt - 1 ≤ a4'.toInt ∧ SNz s' ∧ LBf P s s') ∧ (a4'.toInt - b1.toInt + 1).toNat < (b4.toInt - b1.toInt + 1).toNat) b1 b2 b3 b4 q5 t0 w (fun v s' => v = none ∧ LBf P s s') := fun q5 t0 w yb Nw fw => by
    unfold v_135A_37
    intro x1 hx1
    have hxx := hx1 (by omega)
    refine ⟨fun e1 e2 e3 e4 e5 _ e7 e8 z => e1 = b1 ∧ e2 = b2 ∧ e3 = b3 ∧ e4 = b4 ∧ 0 ≤ e8.toInt ∧ e8.toInt ≤ 7 ∧ -1000 ≤ e7.toInt ∧ e7.toInt ≤ b4.toInt + 1 + 4000 * e8.toInt ∧ SNz z ∧ LBf P s z, fun _ _ _ _ _ _ _ e8 _ => (7 - e8.toInt).toNat, ⟨rfl, rfl, rfl, rfl, by decide, by decide, by omega, by rw [show (0 : Int32).toInt = 0 by decide]; omega, Nw, fw⟩, ?_⟩
    rintro e1 e2 e3 e4 e5 e6 e7 e8 z ⟨r1, r2, r3, r4, k1, k2, k3, k4, Nz, fz⟩
    subst r1 r2 r3 r4
    have nx : v_135A_118 (fun j => Zt (d + 36 + 8) (wd3 P j) j) P (fun a1' a2' a3' s' => (a1' = e1 ∧ a2' = e2 ∧ e1.toInt ≤ a3'.toInt ∧ SNz s' ∧ LBf P s s') ∧ (e2.toInt - a3'.toInt).toNat < (e2.toInt - e3.toInt).toNat) (fun a1' a2' a3' a4' s' => (a1' = e1 ∧ a2' = e2 ∧ a3' = e3 ∧ a4'.toInt ≤ e3.toInt ∧ e1.toInt - 1 ≤ a4'.toInt ∧ SNz s' ∧ LBf P s s') ∧ (a4'.toInt - e1.toInt + 1).toNat < (e4.toInt - e1.toInt + 1).toNat) e1 e2 e3 e4 e5 e6 e7 e8 z (fun v s' => v = none ∧ LBf P s s') := by
      unfold v_135A_118
      intro x1 hx1
      have := hx1 (by omega)
      exact ⟨⟨rfl, rfl, rfl, by omega, by omega, Nz, fz⟩, by omega⟩
    unfold v_135A_44
    refine ⟨fun _ => nx, fun _ => ⟨fun _ => nx, fun y8 => Zt_bd (fun hBz => ?_)⟩⟩
    have h8 := bd_ar hP hBz e5
    have tz : (z.1 75 3).toInt = 18 := by rw [fz.1 75 3 (fun w => hP75 w.1)]; exact ht
    refine Zt.imp (Zt.mo (d := 18) (by omega) ((zw_86 (d := 0) (e := 76) hP (by decide) ⟨by omega, by omega⟩ ⟨by decide, by decide⟩ (SN_E Nz (by decide))).sb Nz)) ?_
    rintro v1 s2 ⟨⟨rfl, f2, r2, -⟩, N2, B2⟩
    refine ⟨rfl, fun x4 _ => ?_⟩
    have hsl : sn (zg s2 (P + 30) (x4 * 5 + 3)) := by
      have := (bd_rw hP B2).2.2 (x4 * 5 + 3)
      exact ⟨by omega, this.2⟩
    refine Zt.imp (Zt.mo (d := 9) (by omega) ((zw_87w (d := 0) (t := 18) (e := 76) hP (by decide) hsl (by rw [f2]; exact tz) (by decide) (SN_E N2 (by decide))).sn N2)) ?_
    rintro v6 s7 ⟨⟨p1, p2, p3, x8, rfl, p4, -⟩, N7⟩
    have w7 : WBf P z s7 := ⟨fun j hj => by rw [p1.2 j (by omega), r2 _ (by omega)], by rw [p1.1 _ (by omega), r2 _ (by omega)]⟩
    -- the rest, behind the look at one of them
    have g95 : ∀ (q10 q11 t0 : Int32) (w : zS), SNz w → (∀ b q, ¬ (b = 75 ∧ q = 3) → w.1 b q = z.1 b q) → WBf P z w → v_135A_95 (fun j => Zt (d + 36 + 8) (wd3 P j) j) P (fun a1' a2' a3' s' => (a1' = e1 ∧ a2' = e2 ∧ e1.toInt ≤ a3'.toInt ∧ SNz s' ∧ LBf P s s') ∧ (e2.toInt - a3'.toInt).toNat < (e2.toInt - e3.toInt).toNat) (fun a1' a2' a3' a4' s' => (a1' = e1 ∧ a2' = e2 ∧ a3' = e3 ∧ a4'.toInt ≤ e3.toInt ∧ e1.toInt - 1 ≤ a4'.toInt ∧ SNz s' ∧ LBf P s s') ∧ (a4'.toInt - e1.toInt + 1).toNat < (e4.toInt - e1.toInt + 1).toNat) (fun a1' a2' a3' a4' _ _ a7' a8' s' => (a1' = e1 ∧ a2' = e2 ∧ a3' = e3 ∧ a4' = e4 ∧ 0 ≤ a8'.toInt ∧ a8'.toInt ≤ 7 ∧ -1000 ≤ a7'.toInt ∧ a7'.toInt ≤ e4.toInt + 1 + 4000 * a8'.toInt ∧ SNz s' ∧ LBf P s s') ∧ (7 - a8'.toInt).toNat < (7 - e8.toInt).toNat) e1 e2 e3 e4 e5 e6 e7 e8 (z.1 75 3) q10 q11 t0 w (fun v s' => v = none ∧ LBf P s s') := fun q10 q11 t0 w Nw' fw' wb' => by
      unfold v_135A_95
      intro x1 _
      refine Zt.imp (Zt.mo (d := 9) (by omega) ((zw_38r (d := 0) hP).sn Nw')) ?_
      rintro v2 s3 ⟨⟨rfl, r3, f3⟩, N3⟩
      refine ⟨rfl, fun s4 hs4 => ?_⟩
      have f4' : ∀ b q, ¬ (b = P ∧ q = 14) → s4.1 b q = s.1 b q := fun b q hb => by
        rw [hs4, zf_1]
        by_cases e : b = 75 ∧ q = 3
        · rw [if_pos e, e.1, e.2]
          exact fz.1 75 3 (fun w => hP75 w.1)
        · rw [if_neg e, f3 b q hb, fw' b q e]
          exact fz.1 b q hb
      have f4 : LBf P s s4 := ⟨f4', by
        have := WBf_tr fz.2 wb'
        unfold WBf at this ⊢
        rw [hs4, zf_2, r3]
        exact this⟩
      refine Zt.imp (Zt.mo (d := 9) (by omega) (zw_83 (d := 0) hP (by omega))) ?_
      rintro v5 s6 ⟨hs6, x7, rfl, l1, l2⟩
      subst hs6
      refine ⟨x7, rfl, fun x8 hx8 => ?_⟩
      have := hx8 (by omega)
      exact ⟨⟨rfl, rfl, rfl, rfl, by omega, by omega, by omega, by omega, SNz_2 (by rw [hs4, zf_2]) N3, f4⟩, by omega⟩
    have f7 : ∀ b q, ¬ (b = 75 ∧ q = 3) → s7.1 b q = z.1 b q := fun b q hb => by rw [p2 b q hb, f2]
    refine ⟨x8, rfl, fun x80 => ?_, fun _ => g95 _ _ _ s7 N7 f7 w7⟩
    have hx8 : sn x8 := by
      rcases p4 with e | e | e
      · exact ⟨by omega, by omega⟩
      · rw [e]; exact hsl
      · exact ⟨by omega, by omega⟩
    refine Zt.imp (Zt.mo (d := 27) (by omega) ((zw_88w (d := 0) hP ⟨k3, by omega⟩ hx8 rfl (by omega) (SN_E N7 (by decide)) (SN_E N7 (by decide))).sn N7)) ?_
    rintro v9 s10 ⟨⟨f10, r10, -, w10, x11, rfl⟩, N10⟩
    exact ⟨x11, rfl, g95 _ _ _ s10 N10 (fun b q hb => by rw [f10]; exact f7 b q hb) (WBf_tr w7 ⟨fun j hj => w10 j (by omega), r10 _ (by omega) (by omega) (by omega)⟩)⟩
  unfold v_135A_7 v_135A_36
  refine ⟨fun _ => out, fun yb => ⟨fun _ => out, fun _ => ⟨fun _ => g37 _ _ z yb Nz j3, fun _ => ?_⟩⟩⟩
  refine Zt.imp (Zt.mo (d := 9) (by omega) (zw_83 (d := 0) hP (by omega))) ?_
  rintro v1 s2 ⟨hs2, x3, rfl, l1, l2⟩
  subst hs2
  exact ⟨x3, rfl, fun x4 _ => ⟨fun _ => g37 _ _ s2 yb Nz j3, fun _ => g37 _ _ s2 yb Nz j3⟩⟩
end ZZZQA
