/-! ===== the class: Stock's counts and begin in any sane state ===== -/
section ZZZH
variable {d P a b q e : Nat} {s u : zS} {a1 a2 a3 v : Int32}
theorem zw_95 (hP : P = 3 ∨ P = 39) : Zt (d + 9) (wd2 P 95) 95 [.ref 197] s (fun v s' => s' = s ∧ ∃ r : Int32, v = some (.int r) ∧ (0 ≤ (s.1 200 2).toInt → r.toInt = (s.1 200 2).toInt / 10)) := by
  refine zc_95 hP ?_
  unfold v_95_0
  intro x1 h1
  exact ⟨rfl, _, rfl, h1⟩
theorem zw_96 (hP : P = 3 ∨ P = 39) : Zt (d + 9) (wd2 P 96) 96 [.ref 197] s (fun v s' => s' = s ∧ ∃ r : Int32, v = some (.int r) ∧ (0 ≤ (s.1 202 2).toInt → r.toInt = (s.1 202 2).toInt / 9)) := by
  refine zc_96 hP ?_
  unfold v_96_0
  intro x1 h1
  exact ⟨rfl, _, rfl, h1⟩
/-- begin -/
theorem zw_102 (hP : P = 3 ∨ P = 39) (h1 : sq a1) (h2 : sq a2) (h3 : sq a3) : Zt (d + 9) (wd2 P 102) 102 [.ref 197, .int a1, .int a2, .int a3] s (fun v s' => v = none ∧ s'.1 = s.1 ∧ ∀ r, ¬ r = 204 → s'.2 r = s.2 r) := by
  refine zc_102 hP ?_
  unfold v_102_0
  refine ⟨h1, fun s1 hs1 => ⟨h2, fun s2 hs2 => ⟨h3, fun s3 hs3 => ?_⟩⟩⟩
  have r3 : ∀ r, ¬ r = 204 → s3.2 r = s.2 r := fun r hr => by rw [hs3, zt_o hr, hs2, zt_o hr, hs1, zt_o hr]
  have f3 : s3.1 = s.1 := by rw [hs3, zt_1, hs2, zt_1, hs1, zt_1]
  refine ⟨fun _ _ _ c4 u => 0 ≤ c4.toInt ∧ c4.toInt ≤ 6 ∧ u.1 = s.1 ∧ ∀ r, ¬ r = 204 → u.2 r = s.2 r, fun _ _ _ c4 _ => (6 - c4.toInt).toNat, ⟨by decide, by decide, f3, r3⟩, ?_⟩
  rintro c1 c2 c3 c4 u ⟨e1, e2, e3, e4⟩
  unfold v_102_17
  refine ⟨fun _ => ⟨rfl, e3, e4⟩, fun y x1 _ s4 hs4 x3 hx3 => ?_⟩
  have := hx3 (by omega)
  exact ⟨⟨by omega, by omega, by rw [hs4, zt_1]; exact e3, fun r hr => by rw [hs4, zt_o hr]; exact e4 r hr⟩, by dsimp only; omega⟩
theorem SNz_2 (h : u.2 = s.2) (hS : SNz s) : SNz u := fun a ha i => by
  rw [h]
  exact hS a ha i
theorem SNz_za (hS : SNz s) (hv : skB a = true → -1000 ≤ v.toInt ∧ v.toInt ≤ skM a) : SNz (za s a v) := fun b hb i => by
  unfold za
  split
  · rw [zf_2]
    show -1000 ≤ ((if b = a then upd (s.2 a) (s.1 a 2).toInt.toNat v else s.2 b) i).toInt ∧ ((if b = a then upd (s.2 a) (s.1 a 2).toInt.toNat v else s.2 b) i).toInt ≤ skM b
    by_cases e : b = a
    · rw [if_pos e]
      unfold upd
      split
      · rw [e]
        exact hv (by rw [← e]; exact hb)
      · rw [e]
        exact hS a (by rw [← e]; exact hb) i
    · rw [if_neg e]
      exact hS b hb i
  · exact hS b hb i
theorem SNz_zt {x : Int32} (hS : SNz s) (hv : skB a = true → -1000 ≤ v.toInt ∧ v.toInt ≤ skM a) : SNz (zt s a x v) := fun b hb i => by
  rw [zt_e]
  split
  · rename_i w
    rw [w.1]
    exact hv (by rw [← w.1]; exact hb)
  · exact hS b hb i
/-- countAll -/
theorem zw_104 (hP : P = 3 ∨ P = 39) : Zt (d + 18) (wd2 P 104) 104 [.ref 197] s (fun v s' => v = none ∧ s'.2 = s.2 ∧ (∀ b q, ¬ (b = 197 ∧ q = 10) → s'.1 b q = s.1 b q) ∧ ((s'.1 197 10).toInt = 0 → (s.1 197 10).toInt = 0 ∧ (s.1 198 2).toInt ≤ 150 ∧ (s.1 200 2).toInt ≤ 1509)) := by
  refine Zt_bd (fun hB => zc_104 (d := d + 9) hP ?_)
  have h198 := hB.2 198 2 0 151 (by decide +kernel) (by decide +kernel)
  have h200 := hB.2 200 2 0 1510 (by decide +kernel) (by decide +kernel)
  have h202 := hB.2 202 2 0 1359 (by decide +kernel) (by decide +kernel)
  have f15 : v_104_15 (fun j => Zt (d + 9 + 8) (wd2 P j) j) P s (fun v s' => v = none ∧ s'.2 = s.2 ∧ (∀ b q, ¬ (b = 197 ∧ q = 10) → s'.1 b q = s.1 b q) ∧ ((s'.1 197 10).toInt = 0 → (s.1 197 10).toInt = 0 ∧ (s.1 198 2).toInt ≤ 150 ∧ (s.1 200 2).toInt ≤ 1509)) := by
    unfold v_104_15 v_104_18
    refine ⟨by decide, fun s1 hs1 => ⟨rfl, by rw [hs1, zf_2], fun b q hb => by rw [hs1, zf_1, if_neg hb], fun z => ?_⟩⟩
    rw [hs1, zf_1, if_pos ⟨rfl, rfl⟩] at z
    exact absurd z (by decide)
  unfold v_104_0
  refine ⟨fun _ => f15, fun z => ?_⟩
  refine Zt.imp (Zt.mo (d := 9) (by omega) (zw_95 (d := 0) hP)) ?_
  rintro v1 s2 ⟨hs2, x3, rfl, q3⟩
  subst hs2
  refine ⟨x3, rfl, fun x4 hx4 => ?_⟩
  refine Zt.imp (Zt.mo (d := 9) (by omega) (zw_96 (d := 0) hP)) ?_
  rintro v5 s6 ⟨hs6, x7, rfl, q7⟩
  subst hs6
  have e3 := q3 h200.1
  have e7 := q7 h202.1
  have e4 := hx4 (by omega)
  refine ⟨x7, rfl, fun x8 hx8 => ⟨fun y => ?_, fun _ => f15⟩⟩
  have e8 := hx8 (by omega)
  unfold v_104_18
  exact ⟨by decide, fun s1 hs1 => ⟨rfl, by rw [hs1, zf_2], fun b q hb => by rw [hs1, zf_1, if_neg hb], fun _ => ⟨z, by omega, by omega⟩⟩⟩
/-- holds -/
theorem zw_103 (hP : P = 3 ∨ P = 39) (he : e = 200 ∨ e = 202) (h2 : 0 < a2.toInt) : Zt (d + 18) (wd2 P 103) 103 [.ref 197, .ref e, .int a2] s (fun v s' => s' = s ∧ ∃ r : Int32, v = some (.int r)) := by
  refine zc_103 (d := d + 9) hP he ?_
  unfold v_103_0
  refine ⟨fun w => absurd w (by omega), fun _ => ⟨by omega, fun x1 => ?_⟩⟩
  unfold v_103_8
  refine ⟨fun _ c3 c4 u => u = s ∧ c3 = x1 ∧ 0 ≤ c4.toInt, fun _ _ c4 _ => (x1.toInt - c4.toInt).toNat, ⟨rfl, rfl, by decide⟩, ?_⟩
  rintro c2 c3 c4 u ⟨e1, e3, e4⟩
  subst e1 e3
  have inner : ∀ (q5 t0 : Int32), ¬ c3.toInt ≤ c4.toInt → v_103_42 (fun j => Zt (d + 9 + 8) (wd2 P j) j) P e (fun a2' a3' a4' s' => (s' = u ∧ a3' = c3 ∧ 0 ≤ a4'.toInt) ∧ (c3.toInt - a4'.toInt).toNat < (c3.toInt - c4.toInt).toNat) c2 c3 c4 q5 t0 u (fun v s' => s' = u ∧ ∃ r : Int32, v = some (.int r)) := by
    intro q5 t0 y
    unfold v_103_42
    refine ⟨fun _ b3 b4 _ _ b7 w => w = u ∧ b3 = c3 ∧ b4 = c4 ∧ 0 ≤ b7.toInt, fun _ _ _ _ _ b7 _ => (9 - b7.toInt).toNat, ⟨rfl, rfl, rfl, by decide⟩, ?_⟩
    rintro b2 b3 b4 b5 b6 b7 w ⟨r1, r3, r4, i1⟩
    subst r1 r3 r4
    have hm : b3.toInt ≤ 2147483647 := Int.le_of_lt_add_one (Int32.toInt_lt _)
    unfold v_103_45 v_103_63 v_103_66
    refine ⟨fun _ => ⟨fun _ x1 hx1 => ?_, fun _ => ⟨rfl, 1, rfl⟩⟩, fun _ => ⟨fun _ => ⟨fun _ x1 hx1 => ?_, fun _ => ⟨rfl, 1, rfl⟩⟩, fun y9 x1 _ => ⟨fun _ x2 hx2 => ?_, fun _ x2 hx2 => ?_⟩⟩⟩
    · have := hx1 (by omega)
      exact ⟨⟨rfl, rfl, by omega⟩, by omega⟩
    · have := hx1 (by omega)
      exact ⟨⟨rfl, rfl, by omega⟩, by omega⟩
    · have := hx2 (by omega)
      exact ⟨⟨rfl, rfl, rfl, by omega⟩, by dsimp only; omega⟩
    · have := hx2 (by omega)
      exact ⟨⟨rfl, rfl, rfl, by omega⟩, by dsimp only; omega⟩
  unfold v_103_11 v_103_41
  refine ⟨fun _ => ⟨rfl, 0, rfl⟩, fun y x1 _ x2 _ => ⟨fun _ => inner _ _ y, fun _ => ?_⟩⟩
  refine Zt.imp (Zt.mo (d := 9) (by omega) (zw_84 (d := 0) hP)) ?_
  rintro v3 s4 ⟨hs4, x5, rfl⟩
  subst hs4
  exact ⟨x5, rfl, fun _ => inner _ _ y, fun _ => inner _ _ y⟩
end ZZZH
