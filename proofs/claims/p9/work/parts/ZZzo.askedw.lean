/-! ===== the class: asked types in any sane state ===== -/
section ZZZO1
variable {d : Nat} {s : zS} {a1 a2 : Int32}
theorem zw_116T {e : Nat} (he : e = 1000001 ∨ e = 1000002 ∨ e = 1000003 ∨ e = 1000004 ∨ e = 1000005 ∨ e = 1000006) : Zt (d + 9) [] 116 [.ref 86, .int a1, .int a2, .ref e] s (fun v s' => s' = s ∧ ∃ r : Int32, v = some (.int r)) := by
  obtain ⟨w, w1, w2, rfl⟩ : ∃ w, 1 ≤ w ∧ w < 7 ∧ e = 1000000 + w := ⟨e - 1000000, by omega, by omega, by omega⟩
  refine zc_116T he ?_
  obtain ⟨k1, k2, k3⟩ := kwl_len w w2 w1
  unfold v_116_0
  rw [show (1000000 + w) % 1000000 = w by omega, k2]
  refine ⟨fun _ => ?_, fun _ => ⟨rfl, 0, rfl⟩⟩
  unfold vl_116_8
  refine ⟨fun _ _ b4 s' => s' = s ∧ 0 ≤ b4.toInt, fun _ _ b4 _ => (100 - b4.toInt).toNat, ⟨rfl, by rw [i0]; decide⟩, ?_⟩
  rintro b1 b2 b4 s' ⟨rfl, g1⟩
  unfold v_116_8
  rw [show (1000000 + w) % 1000000 = w by omega, k2, k1]
  refine ⟨fun h => ⟨rfl, 1, rfl⟩, fun h x1 hx1 => ⟨i_in (x := b4) rfl ⟨g1, by omega⟩, fun _ x2 hx2 => ?_, fun _ => ⟨rfl, 0, rfl⟩⟩⟩
  have e2 := hx2 (by omega)
  exact ⟨⟨rfl, by omega⟩, by show (100 - x2.toInt).toNat < (100 - b4.toInt).toNat; omega⟩
end ZZZO1
section ZZZO
variable {d P : Nat} {s u : zS} {a1 a2 a3 : Int32}
theorem sub1 {x : Int32} (h : -2147483647 ≤ x.toInt) : (x - 1).toInt = x.toInt - 1 := by
  have hm : x.toInt ≤ 2147483647 := Int.le_of_lt_add_one (Int32.toInt_lt _)
  rw [Int32.toInt_sub, show (1 : Int32).toInt = 1 by decide, Int.bmod_eq_of_le (by omega) (by omega)]
theorem add1 {x : Int32} (h0 : -2147483648 ≤ x.toInt) (h : x.toInt ≤ 2147483646) : (x + 1).toInt = x.toInt + 1 := by
  rw [Int32.toInt_add, show (1 : Int32).toInt = 1 by decide, Int.bmod_eq_of_le (by omega) (by omega)]
theorem bd_g {a : Nat} {lo hi : Int} (h : BDz s) (ha : a ∈ rowL) (hc : ckR a = (lo, hi)) (h0 : lo ≤ 0 ∧ 0 ≤ hi) (x : Int32) : lo ≤ (zg s a x).toInt ∧ (zg s a x).toInt ≤ hi := by
  unfold zg
  split
  · have := h.1 a ha x.toInt.toNat
    rw [hc] at this
    exact this
  · rw [show (0 : Int32).toInt = 0 by decide]
    exact h0
theorem zw_111T : Zt (d + 9) [] 111 [.ref 86, .int a1, .ref 86, .int a3] s (fun v s' => s' = s ∧ ∃ r : Int32, v = some (.int r)) := by
  refine zq_111_85 ?_
  unfold v_111_0
  refine ⟨fun _ => ?_, fun _ => ⟨rfl, 0, rfl⟩⟩
  refine ⟨fun _ _ _ _ _ c7 w => w = s ∧ 0 ≤ c7.toInt, fun _ _ _ _ _ c7 _ => (2147483647 - c7.toInt).toNat, ⟨rfl, by decide⟩, ?_⟩
  rintro c1 c3 c4 c5 c6 c7 w ⟨e1, i1⟩
  subst e1
  unfold v_111_25
  refine ⟨fun _ => ⟨rfl, 1, rfl⟩, fun y x1 _ x2 _ => ⟨fun _ x3 hx3 => ?_, fun _ => ⟨rfl, 0, rfl⟩⟩⟩
  have hm : c4.toInt ≤ 2147483647 := Int.le_of_lt_add_one (Int32.toInt_lt _)
  have := hx3 (by omega)
  exact ⟨⟨rfl, by omega⟩, by dsimp only; omega⟩
/-- firstLike -/
theorem zw_114T (h1 : 0 ≤ a1.toInt ∧ a1.toInt ≤ 4500) : Zt (d + 18) [] 114 [.ref 86, .int a1] s (fun v s' => s'.1 = s.1 ∧ ∃ r : Int32, v = some (.int r) ∧ 0 ≤ r.toInt ∧ r.toInt ≤ 5000) := by
  refine Zt_bd (fun hB => zq_114_85 (d := d + 9) ?_)
  have h14 := fun x => bd_g hB (a := 99) (lo := 0) (hi := 5000) (by decide +kernel) (by decide +kernel) (by decide) x
  have h16 := fun x => bd_g hB (a := 101) (lo := 0) (hi := 5000) (by decide +kernel) (by decide +kernel) (by decide) x
  unfold v_114_0
  refine ⟨fun c1 _ c3 w => w = s ∧ c1 = a1 ∧ 0 ≤ c3.toInt, fun _ _ c3 _ => (2147483647 - c3.toInt).toNat, ⟨rfl, rfl, by decide⟩, ?_⟩
  rintro c1 c2 c3 w ⟨e1, e2, i1⟩
  subst e1 e2
  unfold v_114_4
  refine ⟨fun _ => ?_, fun y x1 hx1 => ?_⟩
  rotate_left
  · have hm : (zg w (85 + 8) c1).toInt ≤ 2147483647 := Int.le_of_lt_add_one (Int32.toInt_lt _)
    have := hx1 (by omega)
    exact ⟨⟨rfl, rfl, by omega⟩, by dsimp only; omega⟩
  refine ⟨fun b1 _ _ b4 b5 z => z = w ∧ b1 = c1 ∧ 0 ≤ b5.toInt ∧ b4.toInt ≤ 5000, fun _ _ _ _ b5 _ => (4000 - b5.toInt).toNat, ⟨rfl, rfl, by decide, ?_⟩, ?_⟩
  · have := h14 (c2 &&& (63 : Int32))
    rw [sub1 (by show -2147483647 ≤ (zg w 99 _).toInt; omega)]
    show (zg w 99 _).toInt - 1 ≤ 5000
    omega
  rintro b1 b2 b3 b4 b5 z ⟨e1, e2, j1, j2⟩
  subst e1 e2
  have out : v_114_61 (fun j => Zt (d + 9 + 8) (wd 85 j) j) 85 b1 b2 b3 b4 b5 z (fun v s' => s'.1 = z.1 ∧ ∃ r : Int32, v = some (.int r) ∧ 0 ≤ r.toInt ∧ r.toInt ≤ 5000) := by
    unfold v_114_61
    refine ⟨h14 b3, fun s1 hs1 => ⟨?_, fun s2 hs2 => ⟨?_, b1, rfl, by omega, by omega⟩⟩⟩
    · rw [add1 (by omega) (by omega)]
      omega
    · rw [hs2, zt_1, hs1, zt_1]
  unfold v_114_39
  refine ⟨fun _ => out, fun y => ⟨fun _ => out, fun y2 => ?_⟩⟩
  refine Zt.imp (Zt.mo (d := 9) (by omega) (zw_111T (d := 0))) ?_
  rintro v1 s2 ⟨hs2, x3, rfl⟩
  subst hs2
  refine ⟨x3, rfl, fun _ x4 hx4 => ?_, fun _ => ⟨rfl, b4, rfl, by omega, j2⟩⟩
  have := hx4 (by omega)
  refine ⟨⟨rfl, rfl, by omega, ?_⟩, by dsimp only; omega⟩
  have := h16 b4
  rw [sub1 (by show -2147483647 ≤ (zg s2 101 _).toInt; omega)]
  show (zg s2 101 _).toInt - 1 ≤ 5000
  omega
/-- addToken -/
theorem zw_113T (h2 : 0 ≤ a2.toInt ∧ a2.toInt ≤ 5000) : Zt (d + 27) [] 113 [.ref 86, .int a1, .int a2, .int a3] s (fun v s' => v = none ∧ ∀ b q, ¬ b = 89 → s'.1 b q = s.1 b q) := by
  refine Zt_bd (fun hB => zq_113_85 (d := d + 18) ?_)
  have h4 := hB.2 89 2 0 4002 (by decide +kernel) (by decide +kernel)
  unfold v_113_0
  intro s1 hs1
  have f1 : ∀ b q, ¬ b = 89 → s1.1 b q = s.1 b q := fun b q hb => by rw [hs1, za_o (fun w => hb w.1)]
  refine ⟨h2, fun s2 hs2 s3 hs3 => ?_⟩
  have f3 : ∀ b q, ¬ b = 89 → s3.1 b q = s.1 b q := fun b q hb => by rw [hs3, zt_1, hs2, zt_1, f1 b q hb]
  unfold v_113_29
  refine ⟨fun _ => ⟨by show 0 ≤ (s.1 89 2).toInt ∧ (s.1 89 2).toInt ≤ 5000; omega, fun s1 hs1 => ⟨rfl, fun b q hb => by rw [hs1, zt_1]; exact f3 b q hb⟩⟩, fun _ => ?_⟩
  refine Zt.imp (Zt.mo (d := 18) (by omega) (zw_114T (d := 0) (by show 0 ≤ (s.1 89 2).toInt ∧ (s.1 89 2).toInt ≤ 4500; omega))) ?_
  rintro v4 s5 ⟨f5, x6, rfl, q1, q2⟩
  exact ⟨x6, rfl, ⟨q1, q2⟩, fun s1 hs1 => ⟨rfl, fun b q hb => by rw [hs1, zt_1, f5]; exact f3 b q hb⟩⟩
/-- wordKind -/
theorem zw_115T : Zt (d + 18) [] 115 [.ref 86, .int a1, .int a2] s (fun v s' => s' = s ∧ ∃ r : Int32, v = some (.int r)) := by
  refine zq_115_85 (d := d + 9) ?_
  unfold v_115_0 v_115_14 v_115_24 v_115_34 v_115_44 v_115_54 v_115_64
  have k : ∀ (e : Nat) (he : e = 1000001 ∨ e = 1000002 ∨ e = 1000003 ∨ e = 1000004 ∨ e = 1000005 ∨ e = 1000006) (y : Int32), Zt (d + 9 + 8) (wd 85 116) 116 [.ref 86, .int a1, .int a2, .ref e] s (fun v1 s2 => ∃ x3 : Int32, v1 = some (.int x3) ∧ ((x3.toInt = 0 → (fun (v : Option Value) (s' : zS) => s' = s ∧ ∃ r : Int32, v = some (.int r)) (some (.int 1)) s2) ∧ (¬ (x3.toInt = 0) → (fun (v : Option Value) (s' : zS) => s' = s ∧ ∃ r : Int32, v = some (.int r)) (some (.int y)) s2))) := fun e he y => by
    refine Zt.imp (Zt.mo (d := 9) (by omega) (zw_116T (d := 0) he)) ?_
    rintro v1 s2 ⟨hs2, x3, rfl⟩
    exact ⟨x3, rfl, fun _ => ⟨hs2, _, rfl⟩, fun _ => ⟨hs2, _, rfl⟩⟩
  exact ⟨fun _ => ⟨rfl, 1, rfl⟩, fun _ => k 1000004 (by decide) 6, fun _ => k 1000003 (by decide) 5, fun _ => k 1000006 (by decide) 8, fun _ => k 1000005 (by decide) 7, fun _ => k 1000002 (by decide) 4, fun _ => k 1000001 (by decide) 3⟩
/-- takeToken -/
theorem zw_112T (h1 : 0 ≤ a1.toInt ∧ a1.toInt ≤ 4000) : Zt (d + 36) [] 112 [.ref 86, .int a1] s (fun v s' => (∀ b q, ¬ b = 89 → s'.1 b q = s.1 b q) ∧ ∃ r : Int32, v = some (.int r) ∧ 0 ≤ r.toInt) := by
  refine Zt_bd (fun hB => zq_112_85 (d := d + 27) ?_)
  have h2 := hB.2 87 2 0 4000 (by decide +kernel) (by decide +kernel)
  have k11 : ∀ y : Int32, v_112_11 (fun j => Zt (d + 27 + 8) (wd 85 j) j) 85 a1 y s (fun v s' => (∀ b q, ¬ b = 89 → s'.1 b q = s.1 b q) ∧ ∃ r : Int32, v = some (.int r) ∧ 0 ≤ r.toInt) := fun y => by
    unfold v_112_11
    intro x1 hx1
    have := hx1 (by omega)
    exact ⟨fun _ _ _ => rfl, x1, rfl, by omega⟩
  have k25 : ∀ y t1 : Int32, v_112_25 (fun j => Zt (d + 27 + 8) (wd 85 j) j) 85 a1 y t1 s (fun v s' => (∀ b q, ¬ b = 89 → s'.1 b q = s.1 b q) ∧ ∃ r : Int32, v = some (.int r) ∧ 0 ≤ r.toInt) := fun y t1 => by
    unfold v_112_25
    refine Zt.imp (Zt.mo (d := 27) (by omega) (zw_113T (d := 0) (by omega))) ?_
    rintro v1 s2 ⟨rfl, f⟩
    refine ⟨rfl, fun x3 hx3 => ?_⟩
    have := hx3 (by omega)
    exact ⟨f, x3, rfl, by omega⟩
  unfold v_112_0
  refine ⟨fun _ => k11 _, fun _ => ⟨fun _ => ⟨fun _ x1 hx1 => ?_, fun _ => ⟨fun _ => k25 _ _, fun _ => k25 _ _⟩⟩, fun _ => k11 _⟩⟩
  have e1 := hx1 (by omega)
  refine ⟨fun c1 _ c3 w => w = s ∧ c1 = a1 ∧ 0 ≤ c3.toInt, fun _ _ c3 _ => (4000 - c3.toInt).toNat, ⟨rfl, rfl, by omega⟩, ?_⟩
  rintro c1 c2 c3 w ⟨r1, r2, i1⟩
  subst r1 r2
  have k69 : ∀ t1 : Int32, v_112_69 (fun j => Zt (d + 27 + 8) (wd 85 j) j) 85 c1 c2 c3 t1 w (fun v s' => (∀ b q, ¬ b = 89 → s'.1 b q = w.1 b q) ∧ ∃ r : Int32, v = some (.int r) ∧ 0 ≤ r.toInt) := fun t1 => by
    unfold v_112_69
    intro x1 _
    refine Zt.imp (Zt.mo (d := 27) (by omega) (zw_113T (d := 0) (by omega))) ?_
    rintro v1 s2 ⟨rfl, f⟩
    exact ⟨rfl, f, c3, rfl, i1⟩
  have k55 : v_112_55 (fun j => Zt (d + 27 + 8) (wd 85 j) j) 85 c1 c2 c3 w (fun v s' => (∀ b q, ¬ b = 89 → s'.1 b q = w.1 b q) ∧ ∃ r : Int32, v = some (.int r) ∧ 0 ≤ r.toInt) := by
    unfold v_112_55
    refine fun x1 _ => ⟨fun _ x2 _ => ?_, fun _ => k69 _⟩
    refine Zt.imp (Zt.mo (d := 18) (by omega) (zw_115T (d := 0))) ?_
    rintro v3 s4 ⟨hs4, x5, rfl⟩
    subst hs4
    exact ⟨x5, rfl, k69 _⟩
  unfold v_112_36 v_112_53
  refine ⟨fun _ => k55, fun y => ⟨fun _ x1 hx1 => ?_, fun _ => ⟨fun _ => k55, fun _ x1 hx1 => ?_⟩⟩⟩
  · have y' : ¬ (w.1 87 2).toInt ≤ c3.toInt := y
    have := hx1 (by omega)
    exact ⟨⟨rfl, rfl, by omega⟩, by dsimp only; omega⟩
  · have y' : ¬ (w.1 87 2).toInt ≤ c3.toInt := y
    have := hx1 (by omega)
    exact ⟨⟨rfl, rfl, by omega⟩, by dsimp only; omega⟩
/-- scan -/
theorem zw_110T (hN : SNz s) : Zt (d + 45) [] 110 [.ref 86, .ref 1] s (fun v s' => v = none ∧ ∀ b q, ¬ b = 87 → ¬ b = 89 → s'.1 b q = s.1 b q) := by
  refine Zt_bd (fun hB => zq_110_85 (d := d + 36) ?_)
  have h1 := hB.2 1 2 0 4000 (by decide +kernel) (by decide +kernel)
  unfold v_110_0
  intro s1 hs1
  have f1 : ∀ b q, ¬ b = 87 → s1.1 b q = s.1 b q := fun b q hb => by rw [hs1, zf_1, if_neg (fun w => hb w.1)]
  have g1 : (s1.1 87 2).toInt = 0 := by rw [hs1, zf_1, if_pos ⟨rfl, rfl⟩]; decide
  refine ⟨fun c2 w => 0 ≤ c2.toInt ∧ c2.toInt ≤ 4000 ∧ (∀ b q, ¬ b = 87 → w.1 b q = s.1 b q) ∧ 0 ≤ (w.1 87 2).toInt ∧ (w.1 87 2).toInt ≤ 4000 ∧ SNz w, fun c2 _ => (4000 - c2.toInt).toNat, ⟨by decide, by decide, f1, by omega, by omega, SNz_2 (by rw [hs1, zf_2]) hN⟩, ?_⟩
  rintro c2 w ⟨i1, i2, i3, i4, i5, Nw⟩
  have hw1 : (w.1 1 2).toInt = (s.1 1 2).toInt := by rw [i3 1 2 (by decide)]
  unfold v_110_5
  refine ⟨fun _ => ?_, fun y s1' hs1' x2 hx2 => ?_⟩
  rotate_left
  · have y' : ¬ (w.1 1 2).toInt ≤ c2.toInt := y
    have := hx2 (by omega)
    have zn := za_n (a := 87) (s := w) (v := zg w 1 c2) i4 (by omega)
    rw [show (lim 87 : Int) = 4000 by decide +kernel] at zn
    have e : (s1'.1 87 2).toInt = if (w.1 87 2).toInt < 4000 then (w.1 87 2).toInt + 1 else (w.1 87 2).toInt := by rw [hs1']; exact zn
    refine ⟨⟨by omega, by omega, fun b q hb => by rw [hs1', za_o (fun z => hb z.1)]; exact i3 b q hb, ?_, ?_, by rw [hs1']; exact SNz_za Nw (fun z => absurd z (by decide))⟩, by dsimp only; omega⟩
    · rw [e]
      split <;> omega
    · rw [e]
      split <;> omega
  refine ⟨fun b2 z => 0 ≤ b2.toInt ∧ b2.toInt ≤ 64 ∧ z.1 = w.1 ∧ SNz z, fun b2 _ => (64 - b2.toInt).toNat, ⟨by decide, by decide, rfl, Nw⟩, ?_⟩
  rintro b2 z ⟨j1, j2, j3, Nz⟩
  unfold v_110_19
  refine ⟨fun _ s1' hs1' => ?_, fun y s2 hs2 x3 hx3 => ?_⟩
  rotate_left
  · have := hx3 (by omega)
    exact ⟨⟨by omega, by omega, by rw [hs2, zt_1]; exact j3, by rw [hs2]; exact SNz_zt Nz (fun z => absurd z (by decide))⟩, by dsimp only; omega⟩
  have f2 : ∀ b q, ¬ b = 87 → ¬ b = 89 → s1'.1 b q = s.1 b q := fun b q hb hb' => by rw [hs1', zf_1, if_neg (fun w => hb' w.1), j3]; exact i3 b q hb
  have f3 : (s1'.1 87 2).toInt = (w.1 87 2).toInt := by rw [hs1', zf_1, if_neg (by decide), j3]
  refine ⟨fun c2 c3 q => 0 ≤ c2.toInt ∧ 0 ≤ c3.toInt ∧ (∀ b k, ¬ b = 87 → ¬ b = 89 → q.1 b k = s.1 b k) ∧ (q.1 87 2).toInt = (w.1 87 2).toInt ∧ SNz q, fun _ c3 _ => (4000 - c3.toInt).toNat, ⟨by decide, by decide, f2, f3, SNz_2 (by rw [hs1', zf_2]) Nz⟩, ?_⟩
  rintro c2 c3 q ⟨k1, k2, k3, k4, Nq⟩
  have out : v_110_50 (fun j => Zt (d + 36 + 8) (wd 85 j) j) 85 c2 c3 q (fun v s' => v = none ∧ ∀ b k, ¬ b = 87 → ¬ b = 89 → s'.1 b k = s.1 b k) := by
    unfold v_110_50
    refine Zt.imp (Zt.mo (d := 27) (by omega) (zw_113T (d := 0) (by show 0 ≤ (q.1 87 2).toInt ∧ (q.1 87 2).toInt ≤ 5000; omega))) ?_
    rintro v1 s2 ⟨rfl, f⟩
    exact ⟨rfl, fun s3 hs3 => ⟨rfl, fun b k hb hb' => by rw [hs3, zt_1, f b k hb']; exact k3 b k hb hb'⟩⟩
  unfold v_110_36
  refine ⟨fun _ => out, fun y => ⟨fun _ => out, fun y2 => ?_⟩⟩
  have y2' : ¬ (q.1 87 2).toInt ≤ c2.toInt := y2
  refine Zt.imp (Zt.mo (d := 36) (by omega) ((zw_112T (d := 0) (by omega)).sn Nq)) ?_
  rintro v1 s2 ⟨⟨f, x3, rfl, q3⟩, N2⟩
  refine ⟨x3, rfl, fun x4 hx4 => ?_⟩
  have := hx4 (by omega)
  exact ⟨⟨q3, by omega, fun b k hb hb' => by rw [f b k hb']; exact k3 b k hb hb', by rw [f 87 2 (by decide)]; exact k4, N2⟩, by dsimp only; omega⟩
/-- blame -/
theorem zw_38 (hP : P = 3 ∨ P = 39) (h1 : 0 ≤ a1.toInt ∧ a1.toInt ≤ 100) : Zt (d + 9) (wd P 38) 38 [.ref P, .int a1, .int a2] s (fun v s' => v = none ∧ s'.2 = s.2 ∧ (∀ b q, ¬ (b = P ∧ q = 14) → s'.1 b q = s.1 b q) ∧ ((s'.1 P 14).toInt = 0 → (s.1 P 14).toInt = 0 ∧ a1.toInt = 0)) := by
  refine Zt_bd (fun hB => zc_38 hP ?_)
  have hp : 0 ≤ (zg s (P + 6) a2).toInt ∧ (zg s (P + 6) a2).toInt ≤ 5000 := by
    rcases hP with rfl | rfl
    · exact bd_g hB (a := 9) (by decide +kernel) (by decide +kernel) (by decide) a2
    · exact bd_g hB (a := 45) (by decide +kernel) (by decide +kernel) (by decide) a2
  unfold v_38_0 v_38_16
  refine ⟨fun n => ⟨rfl, rfl, fun _ _ _ => rfl, fun z => absurd z n⟩, fun z => ⟨fun z1 => ⟨rfl, rfl, fun _ _ _ => rfl, fun _ => ⟨z, z1⟩⟩, fun n x1 hx1 x2 hx2 s3 hs3 => ?_⟩⟩
  have e1 := hx1 (by omega)
  have e2 := hx2 (by omega)
  refine ⟨rfl, by rw [hs3, zf_2], fun b q hb => by rw [hs3, zf_1, if_neg hb], fun w => ?_⟩
  rw [hs3, zf_1, if_pos ⟨rfl, rfl⟩] at w
  omega
theorem zw_111A (hP : P = 3 ∨ P = 39) : Zt (d + 9) (wd3 P 111) 111 [.ref (P + 1), .int a1, .ref 86, .int a3] s (fun v s' => s' = s ∧ ∃ r : Int32, v = some (.int r)) := by
  refine zc_111A hP ?_
  unfold v_111A_0
  refine ⟨fun _ => ?_, fun _ => ⟨rfl, 0, rfl⟩⟩
  refine ⟨fun _ _ _ _ _ c7 w => w = s ∧ 0 ≤ c7.toInt, fun _ _ _ _ _ c7 _ => (2147483647 - c7.toInt).toNat, ⟨rfl, by decide⟩, ?_⟩
  rintro c1 c3 c4 c5 c6 c7 w ⟨e1, i1⟩
  subst e1
  unfold v_111A_25
  refine ⟨fun _ => ⟨rfl, 1, rfl⟩, fun y x1 _ x2 _ => ⟨fun _ x3 hx3 => ?_, fun _ => ⟨rfl, 0, rfl⟩⟩⟩
  have hm : c4.toInt ≤ 2147483647 := Int.le_of_lt_add_one (Int32.toInt_lt _)
  have := hx3 (by omega)
  exact ⟨⟨rfl, by omega⟩, by dsimp only; omega⟩
/-- typeNamed -/
theorem zw_51A (hP : P = 3 ∨ P = 39) : Zt (d + 18) (wd3 P 51) 51 [.ref P, .ref 86, .int a2] s (fun v s' => s' = s ∧ ∃ r : Int32, v = some (.int r)) := by
  refine zc_51A (d := d + 9) hP ?_
  unfold v_51A_0
  refine ⟨fun _ c3 w => w = s ∧ 0 ≤ c3.toInt, fun _ c3 _ => (2147483647 - c3.toInt).toNat, ⟨rfl, by decide⟩, ?_⟩
  rintro c2 c3 w ⟨e1, i1⟩
  subst e1
  unfold v_51A_2
  refine ⟨fun _ => ⟨rfl, -1, rfl⟩, fun y => ?_⟩
  refine Zt.imp (Zt.mo (d := 9) (by omega) (zw_111A (d := 0) hP)) ?_
  rintro v2 s3 ⟨hs3, x4, rfl⟩
  subst hs3
  refine ⟨x4, rfl, fun _ x5 hx5 => ?_, fun _ => ⟨rfl, c3, rfl⟩⟩
  have hm : (s3.1 (P + 24) 2 / 6).toInt ≤ 2147483647 := Int.le_of_lt_add_one (Int32.toInt_lt _)
  have := hx5 (by omega)
  exact ⟨⟨rfl, by omega⟩, by dsimp only; omega⟩
/-- codeOf -/
theorem zw_133A (hP : P = 3 ∨ P = 39) : Zt (d + 27) (wd3 P 133) 133 [.ref 83, .int a1] s (fun v s' => s' = s ∧ ∃ r : Int32, v = some (.int r)) := by
  refine zc_133A (d := d + 18) hP ?_
  have k : ∀ q1 q2 q3 t0 : Int32, v_133A_27 (fun j => Zt (d + 18 + 8) (wd3 P j) j) P q1 q2 q3 t0 s (fun v s' => s' = s ∧ ∃ r : Int32, v = some (.int r)) := fun q1 q2 q3 t0 => by
    unfold v_133A_27
    refine ⟨fun _ _ _ _ c5 w => w = s ∧ 0 ≤ c5.toInt, fun _ _ _ _ c5 _ => (2147483647 - c5.toInt).toNat, ⟨rfl, by decide⟩, ?_⟩
    rintro c1 c2 c3 c4 c5 w ⟨e1, i1⟩
    subst e1
    unfold v_133A_30
    refine ⟨fun _ => ?_, fun y x1 _ => ⟨fun _ x3 hx3 => ?_, fun _ x4 _ => ⟨rfl, x4, rfl⟩⟩⟩
    rotate_left
    · have hm : c4.toInt ≤ 2147483647 := Int.le_of_lt_add_one (Int32.toInt_lt _)
      have := hx3 (by omega)
      exact ⟨⟨rfl, by omega⟩, by dsimp only; omega⟩
    refine ⟨fun _ _ _ _ c5 z => z = w ∧ 0 ≤ c5.toInt, fun _ _ _ _ c5 _ => (2147483647 - c5.toInt).toNat, ⟨rfl, by decide⟩, ?_⟩
    rintro b1 b2 b3 b4 b5 z ⟨e1, j1⟩
    subst e1
    unfold v_133A_62
    refine ⟨fun _ => ?_, fun y x4 _ => ⟨fun _ x6 hx6 => ?_, fun _ x7 _ => ⟨rfl, x7, rfl⟩⟩⟩
    · refine Zt.imp (Zt.mo (d := 18) (by omega) (zw_51A (d := 0) hP)) ?_
      rintro v1 s2 ⟨hs2, x3, rfl⟩
      exact ⟨x3, rfl, hs2, x3, rfl⟩
    · have hm : b4.toInt ≤ 2147483647 := Int.le_of_lt_add_one (Int32.toInt_lt _)
      have := hx6 (by omega)
      exact ⟨⟨rfl, by omega⟩, by dsimp only; omega⟩
  unfold v_133A_0
  exact ⟨fun _ => k _ _ _ _, fun _ => k _ _ _ _⟩
end ZZZO
