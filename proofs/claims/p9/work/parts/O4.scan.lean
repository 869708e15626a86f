/-! ===== the whole text ===== -/
/-- what the reading of signs leaves -/
def SCf (P : Nat) (s s' : zS) : Prop := (∀ b, b ∉ (P + 2) :: tkR P → s'.2 b = s.2 b) ∧ ∀ b k, ¬ (b = P + 4 ∧ k = 2) → ¬ (b = P + 2 ∧ k = 2) → s'.1 b k = s.1 b k
/-- the text of the tape's n signs stands as tokens -/
def TXT (s0 : zS) (P n : Nat) (s : zS) : Prop := (∀ i, i < n → s.2 (P + 2) i = s0.2 1 i) ∧ (s.1 (P + 2) 2).toInt = (n : Int) ∧ TKI s P (ntk (s.2 (P + 2)) n + 1) ∧ TKp s P n n ∧ (s.2 (P + 4) (ntk (s.2 (P + 2)) n)).toInt = 0 ∧ (s.2 (P + 6) (ntk (s.2 (P + 2)) n)).toInt = (n : Int) ∧ (s.2 (P + 4) (ntk (s.2 (P + 2)) n + 1)).toInt = 0
section ZLEX4
variable {d P : Nat} {s : zS}
theorem nmem {b : Nat} (hb : b ∉ tkR P) : ¬ b = P + 4 ∧ ¬ b = P + 6 ∧ ¬ b = P + 8 ∧ ¬ b = P + 10 ∧ ¬ b = P + 14 ∧ ¬ b = P + 16 := by
  unfold tkR at hb
  simp only [List.mem_cons, List.not_mem_nil, or_false, not_or] at hb
  exact hb
theorem zs_110 {n : Nat} (hP : P = 3 ∨ P = 39) (hn : (s.1 1 2).toInt = (n : Int)) (hn4 : n ≤ 4000) : Zt (d + 13) (wd P 110) 110 [.ref (P + 1), .ref 1] s (fun v s' => v = none ∧ TXT s P n s' ∧ SCf P s s') := by
  obtain ⟨l1, l2, l3, l4, l5, l6, l7, l8⟩ := limP hP
  have hP1 : 3 ≤ P := by omega
  refine zc_110 (d := d + 4) hP ?_
  unfold v_110_0
  rintro s1 rfl
  unfold vl_110_5
  refine ⟨fun a2 t => ∃ i : Nat, a2.toInt = (i : Int) ∧ i ≤ n ∧ (t.1 (P + 2) 2).toInt = (i : Int) ∧ (∀ j, j < i → t.2 (P + 2) j = s.2 1 j) ∧ (∀ b, ¬ b = P + 2 → t.2 b = s.2 b) ∧ ∀ b k, ¬ (b = P + 2 ∧ k = 2) → t.1 b k = s.1 b k, fun a2 _ => (5000 - a2.toInt).toNat, ⟨0, i0, Nat.zero_le _, by rw [zf_1, if_pos ⟨rfl, rfl⟩]; exact i0, fun j hj => by omega, fun b _ => rfl, fun b k hb => by rw [zf_1, if_neg hb]⟩, ?_⟩
  rintro a2 t ⟨i, h1, h2, h3, h4, h5, h6⟩
  unfold v_110_5
  rw [h6 1 2 (by omega), hn]
  refine ⟨fun h => ?_, fun h s2 hs2 x2 hx2 => ?_⟩
  · -- the heads
    have ei : i = n := by omega
    subst ei
    unfold vl_110_19
    refine ⟨fun b2 u => ∃ k : Nat, b2.toInt = (k : Int) ∧ k ≤ 64 ∧ (∀ j, j < k → (u.2 (P + 14) j).toInt = 0) ∧ (∀ b, ¬ b = P + 14 → u.2 b = t.2 b) ∧ u.1 = t.1, fun b2 _ => (100 - b2.toInt).toNat, ⟨0, i0, by decide, fun j hj => by omega, fun _ _ => rfl, rfl⟩, ?_⟩
    rintro b2 u ⟨k, g1, g2, g3, g4, g5⟩
    unfold v_110_19
    refine ⟨fun hk s1 hs1 => ?_, fun hk s2 hs2 x3 hx3 => ?_⟩
    · have f1 : ∀ b q, ¬ (b = P + 4 ∧ q = 2) → s1.1 b q = t.1 b q := fun b q hb => by rw [hs1, zf_1, if_neg hb, g5]
      have f2 : (s1.1 (P + 4) 2).toInt = 0 := by rw [hs1, zf_1, if_pos ⟨rfl, rfl⟩]; exact i0
      have r1 : s1.2 = u.2 := by rw [hs1, zf_2]
      have sgE : s1.2 (P + 2) = t.2 (P + 2) := by rw [r1]; exact g4 (P + 2) (by omega)
      have k0 : TKI s1 P 0 := by
        refine ⟨f2, fun t ht => by omega, ⟨fun b hb => ?_, fun u hu => by omega⟩, fun t ht => by omega, fun t u h1 h2 => by omega⟩
        rw [r1, g3 b (by omega)]
        exact ⟨by decide, by decide, fun w => by omega, fun w w1 w2 => by omega⟩
      unfold vl_110_36
      refine ⟨fun c2 c3 w => ∃ k : Nat, c2.toInt = (k : Int) ∧ k ≤ i ∧ (k = i ∨ iwd (s1.2 (P + 2)) k = false) ∧ TKI w P (ntk (s1.2 (P + 2)) k) ∧ TKp w P i k ∧ LXf P s1 w ∧ 0 ≤ c3.toInt ∧ c3.toInt ≤ (k : Int), fun _ c3 _ => (5000 - c3.toInt).toNat, ⟨0, i0, Nat.zero_le _, Or.inr rfl, k0, fun j hj => by omega, LXf_rf, by rw [i0]; decide, by rw [i0]; decide⟩, ?_⟩
      rintro c2 c3 w ⟨k, q1, q2, q3, q4, q5, q6, q7, q8⟩
      have sgW : w.2 (P + 2) = s1.2 (P + 2) := q6.1 (P + 2) (by unfold tkR; simp only [List.mem_cons, List.not_mem_nil, or_false, not_or]; omega)
      have zW : (w.1 (P + 2) 2).toInt = (i : Int) := by rw [q6.2 (P + 2) 2 (by omega), f1 (P + 2) 2 (by omega)]; exact h3
      unfold v_110_36
      rw [zW]
      have fin : k = i → v_110_50 (fun j => Zt (d + 4 + 8) (wd P j) j) P c2 c3 w (fun v s' => v = none ∧ TXT s P i s' ∧ SCf P s s') := by
        intro ek
        subst ek
        have hle := ntk_le (sg := s1.2 (P + 2)) (k := k)
        unfold v_110_50
        refine Zt.imp (zs_113 (d := d + 1) (a1 := 0) (a2 := w.1 (P + 2) 2) (a3 := 0) hP q4 (by omega) (by rw [zW]; omega) (by rw [i0]; decide)) ?_
        rintro v s' ⟨rfl, m1, m2, ⟨m3, m4, m5⟩, m6, m7⟩
        refine ⟨rfl, ?_⟩
        rintro s3 rfl
        have ez := m1.1
        rw [zt_in (a := P + 4) (x := s'.1 (P + 4) 2) (by rw [l2]; omega), show (s'.1 (P + 4) 2).toInt.toNat = ntk (s1.2 (P + 2)) k + 1 by omega]
        have r3 : ∀ b j, (zr s' (P + 4) (ntk (s1.2 (P + 2)) k + 1) 0).2 b j = if b = P + 4 ∧ j = ntk (s1.2 (P + 2)) k + 1 then 0 else s'.2 b j := fun b j => zr_2
        have sg3 : (zr s' (P + 4) (ntk (s1.2 (P + 2)) k + 1) 0).2 (P + 2) = s1.2 (P + 2) := by
          refine funext (fun j => ?_)
          rw [r3, if_neg (by omega), m2.1, sgW]
        have F3 : ZFT P (ntk (s1.2 (P + 2)) k + 1) s' (zr s' (P + 4) (ntk (s1.2 (P + 2)) k + 1) 0) := by
          refine ⟨by rw [sg3, m2.1, sgW], fun t ht => ?_⟩
          simp only [r3]
          refine ⟨?_, ?_, ?_, ?_⟩ <;> rw [if_neg (by omega)]
        have C3 := ZFT_CHI F3 (funext (fun j => by rw [r3, if_neg (by omega)])) (fun u _ => by rw [r3, if_neg (by omega)]) m1.2.2.1
        refine ⟨rfl, ⟨fun j hj => ?_, ?_, ?_, ?_, ?_, ?_, ?_⟩, ⟨fun b hb => funext (fun j => ?_), fun b q hb hb' => ?_⟩⟩
        · rw [sg3, sgE]
          exact h4 j hj
        · show (s'.1 (P + 2) 2).toInt = _
          rw [m7 (P + 2) 2 (by omega)]
          exact zW
        · rw [sg3]
          refine ⟨ez, fun t ht => (ZFT_ok F3 ht).mpr (m1.2.1 t ht), C3, fun t ht e => ?_, fun t u h1 h2 h3 h4 h5 => m1.2.2.2.2 t u h1 h2 ((ZFT_fw F3 (by omega)).mp h3) ((ZFT_fw F3 h2).mp h4) ((ZFT_eq F3 (by omega) h2).mp h5)⟩
          rw [(F3.2 t ht).1] at e
          obtain ⟨u, u1, u2, u3, u4⟩ := m1.2.2.2.1 t ht e
          exact ⟨u, u1, by rw [(F3.2 t ht).2.2.2]; exact u2, (ZFT_fw F3 (by omega)).mpr u3, (ZFT_eq F3 (by omega) ht).mpr u4⟩
        · intro j hj hst
          rw [sg3] at hst ⊢
          have hst' : stt (w.2 (P + 2)) j = true := by rw [sgW]; exact hst
          obtain ⟨e', g1, g2, g3, g4⟩ := q5 j hj hst'
          rw [sgW] at g1 g2 g3 g4
          have hl := ntk_lt hj hst
          obtain ⟨x1, x2, x3, -⟩ := F3.2 _ (show ntk (s1.2 (P + 2)) j < ntk (s1.2 (P + 2)) k + 1 by omega)
          obtain ⟨y1, y2, y3, -⟩ := m2.2 _ hl
          exact ⟨e', g1, by rw [x2, y2]; exact g2, by rw [x3, y3]; exact g3, by rw [x1, y1]; exact g4⟩
        · rw [sg3, r3, if_neg (by omega), m3]
          exact i0
        · rw [sg3, r3, if_neg (by omega), m4]
          exact zW
        · rw [sg3, r3, if_pos ⟨rfl, rfl⟩]
          exact i0
        · have z1 : ¬ b = P + 2 := fun w => hb (by rw [w]; exact List.mem_cons_self)
          have z2 : b ∉ tkR P := fun w => hb (List.mem_cons_of_mem _ w)
          obtain ⟨y1, y2, y3, y4, y5, y6⟩ := nmem z2
          rw [r3, if_neg (fun w => y1 w.1), m6 b z2, q6.1 b z2, r1, g4 b y5, h5 b z1]
        · show s'.1 b q = _
          rw [m7 b q hb, q6.2 b q hb, f1 b q hb, h6 b q hb']
      refine ⟨fun hc => fin (by omega), fun hc => ⟨fun hc2 => fin (by omega), fun hc2 => ?_⟩⟩
      have hki : k < i := by omega
      have hwk : iwd (w.2 (P + 2)) k = false := by
        rw [sgW]
        rcases q3 with q3 | q3
        · omega
        · exact q3
      refine Zt.imp (zs_112 (d := d) (n := i) (k := k) hP q1 hki hn4 zW hwk (by rw [sgW]; exact q4) q5) ?_
      rintro v w' ⟨r, e, rfl, m1, m2, m3, m4, m5, m6, m7⟩
      rw [sgW] at m4 m5
      refine ⟨r, rfl, fun x4 hx4 => ?_⟩
      have e4 := hx4 (by omega)
      exact ⟨⟨e, m1, m3, m4, m5, m6, LXf_tr q6 m7, by omega, by omega⟩, by show (5000 - x4.toInt).toNat < (5000 - c3.toInt).toNat; omega⟩
    · have e3 := hx3 (by omega)
      rw [zt_in (a := P + 14) (x := b2) (by rw [l7]; omega), show b2.toInt.toNat = k by omega] at hs2
      subst hs2
      refine ⟨⟨k + 1, by omega, by omega, fun j hj => ?_, fun b hb => funext (fun j => ?_), g5⟩, by show (100 - x3.toInt).toNat < (100 - b2.toInt).toNat; omega⟩
      · rw [zr_2]
        by_cases e : j = k
        · rw [if_pos ⟨rfl, e⟩]
          exact i0
        · rw [if_neg (fun w => e w.2)]
          exact g3 j (by omega)
      · rw [zr_2, if_neg (fun w => hb w.1), g4 b hb]
  · have e2 := hx2 (by omega)
    rw [za_in (a := P + 2) (by rw [l1]; omega), show (t.1 (P + 2) 2).toInt.toNat = i by omega, zg_nn (x := a2) (by omega), show a2.toInt.toNat = i by omega, h5 1 (by omega)] at hs2
    subst hs2
    refine ⟨⟨i + 1, by omega, by omega, ?_, fun j hj => ?_, fun b hb => funext (fun j => ?_), fun b k hb => ?_⟩, by show (5000 - x2.toInt).toNat < (5000 - a2.toInt).toNat; omega⟩
    · rw [zf_1, if_pos ⟨rfl, rfl⟩, i_add (x := t.1 (P + 2) 2) (y := 1) rfl i1 (by omega)]
      omega
    · rw [zf_2, zr_2]
      by_cases e : j = i
      · rw [if_pos ⟨rfl, e⟩, e]
      · rw [if_neg (fun w => e w.2)]
        exact h4 j (by omega)
    · rw [zf_2, zr_2, if_neg (fun w => hb w.1), h5 b hb]
    · rw [zf_1, if_neg hb]
      exact h6 b k hb
end ZLEX4
