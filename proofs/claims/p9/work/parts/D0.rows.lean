/-! ===== instances: rows ===== -/
/-- what stands in a row: as many TYPES as are told, closed -/
def RWr (G : PG) (M : Nat) (s : yS) (i : Nat) : Prop := ∃ p l m : Nat, (s.2.1 282 i).toInt = (p : Int) ∧ (s.2.1 283 i).toInt = (l : Int) ∧ (s.2.1 281 i).toInt = (m : Int) ∧ 20000 ≤ p ∧ p + l ≤ M ∧ l ≤ 480 ∧ RK G (s.2.1 279 i).toInt (s.2.1 280 i).toInt m (seg s p l)
def RW (G : PG) (R M : Nat) (s : yS) : Prop := (s.1 112).toInt = (R : Int) ∧ R ≤ 150 ∧ (s.1 118).toInt = (M : Int) ∧ 20000 ≤ M ∧ M ≤ 20000 + 480 * R ∧ ((s.1 111).toInt = 0 ∨ (s.1 111).toInt = 1) ∧ ∀ i, i < R → RWr G M s i
/-- rows may be added -/
def MFr (R M : Nat) (s s' : yS) : Prop := (∀ k, k ∉ [111, 112, 118] → s'.1 k = s.1 k) ∧ (∀ q i, ¬ (q ∈ [279, 280, 281, 282, 283] ∧ R ≤ i) → ¬ (q = 264 ∧ M ≤ i ∧ i < 100000) → s'.2.1 q i = s.2.1 q i) ∧ s'.2.2 = s.2.2 ∧ TYN s'
section RWS
variable {G : PG} {R M R' M' : Nat} {s s' s'' : yS}
theorem MFr_rf (hT : TYN s) : MFr R M s s := ⟨fun _ _ => rfl, fun _ _ _ _ => rfl, rfl, hT⟩
theorem MFr_tr (h : MFr R M s s') (h' : MFr R' M' s' s'') (hR : R ≤ R') (hM : M ≤ M') : MFr R M s s'' := ⟨fun k hk => (h'.1 k hk).trans (h.1 k hk), fun q i w1 w2 => (h'.2.1 q i (fun w => w1 ⟨w.1, by omega⟩) (fun w => w2 ⟨w.1, by omega⟩)).trans (h.2.1 q i w1 w2), h'.2.2.1.trans h.2.2.1, h'.2.2.2⟩
theorem RWr_eq {i : Nat} (h : RWr G M s i) (h9 : s'.2.1 279 i = s.2.1 279 i) (h0 : s'.2.1 280 i = s.2.1 280 i) (h1 : s'.2.1 281 i = s.2.1 281 i) (h2 : s'.2.1 282 i = s.2.1 282 i) (h3 : s'.2.1 283 i = s.2.1 283 i) (hty : ∀ j, 20000 ≤ j → j < M → s'.2.1 264 j = s.2.1 264 j) (hM : M ≤ M') : RWr G M' s' i := by
  obtain ⟨p, l, m, k1, k2, k3, k4, k5, k6, k7⟩ := h
  have e : seg s' p l = seg s p l := seg_eq (fun j j1 j2 => hty j (by omega) (by omega))
  exact ⟨p, l, m, by rw [h2]; exact k1, by rw [h3]; exact k2, by rw [h1]; exact k3, k4, by omega, k6, by rw [h9, h0, e]; exact k7⟩
theorem s_250 {d p l m : Nat} {a1 a2 a3 a4 a5 : Int32} (hW : RW G R M s) (hT : TYN s) (h3 : a3.toInt = (m : Int)) (h4 : a4.toInt = (p : Int)) (h5 : a5.toInt = (l : Int)) (hl : l ≤ 480) (hp : p + l ≤ 20000 ∨ (100000 ≤ p ∧ p + l ≤ 200000)) (hK : RK G a1.toInt a2.toInt m (seg s p l)) : Tot (d + 2) 250 [.ref 213, .int a1, .int a2, .int a3, .int a4, .int a5] s (fun v s' => v = none ∧ MFr R M s s' ∧ ∃ R' M' : Nat, RW G R' M' s' ∧ R ≤ R' ∧ M ≤ M') := by
  obtain ⟨w1, w2, w3, w4, w5, w6, w7⟩ := id hW
  refine t_250 ?_
  unfold w_250_0
  refine ⟨fun z1 z2 z3 z4 z5 z6 z7 t => t = s ∧ z1 = a1 ∧ z2 = a2 ∧ z3 = a3 ∧ z4 = a4 ∧ z5 = a5 ∧ ∃ i : Nat, z7.toInt = (i : Int) ∧ i ≤ R, fun _ _ _ _ _ _ z7 _ => (200 - z7.toInt).toNat, ⟨rfl, rfl, rfl, rfl, rfl, rfl, 0, rfl, by omega⟩, ?_⟩
  rintro z1 z2 z3 z4 z5 z6 z7 t ⟨e0, e1, e2, e3, e4, e5, i, i1, i2⟩
  have e0 := e0.symm
  have e1 := e1.symm
  have e2 := e2.symm
  have e3 := e3.symm
  have e4 := e4.symm
  have e5 := e5.symm
  subst e0 e1 e2 e3 e4 e5
  have fin : w_250_47 (Tot (d + 1)) a1 a2 a3 a4 a5 z6 z7 s (fun v s' => v = none ∧ MFr R M s s' ∧ ∃ R' M' : Nat, RW G R' M' s' ∧ R ≤ R' ∧ M ≤ M') := by
    unfold w_250_47 w_250_52
    refine ⟨fun _ => ⟨rfl, MFr_rf hT, R, M, hW, Nat.le_refl _, Nat.le_refl _⟩, fun _ => ⟨fun _ => ⟨fun hne => ⟨by omega, ?_⟩, fun _ => ?_⟩, fun _ => ⟨rfl, MFr_rf hT, R, M, hW, Nat.le_refl _, Nat.le_refl _⟩⟩⟩
    · have c12 : ∀ (w : yS) q j v, (sa w q j v).1 = w.1 := fun _ _ _ _ => rfl
      rintro s1 rfl
      rw [c12]
      refine ⟨by omega, ?_⟩
      rintro s2 rfl
      rw [c12, c12]
      refine ⟨by omega, ?_⟩
      rintro s3 rfl
      rw [c12, c12, c12]
      refine ⟨by omega, ?_⟩
      rintro s4 rfl
      rw [c12, c12, c12, c12]
      refine ⟨by omega, ?_⟩
      rintro s5 rfl
      rw [show (s.1 112).toInt.toNat = R by omega]
      obtain ⟨y, hy⟩ : ∃ y, y = sa (sa (sa (sa (sa s 279 R a1) 280 R a2) 281 R a3) 282 R (s.1 118)) 283 R a5 := ⟨_, rfl⟩
      rw [← hy]
      have y1 : y.1 = s.1 := by rw [hy]; rfl
      have yl : y.2.2 = s.2.2 := by rw [hy]; rfl
      have yc : ∀ q j, ¬ (q ∈ [279, 280, 281, 282, 283] ∧ j = R) → y.2.1 q j = s.2.1 q j := fun q j w => by
        rw [hy, sa_2, if_neg (fun e => w ⟨by rw [e.1]; decide, e.2⟩), sa_2, if_neg (fun e => w ⟨by rw [e.1]; decide, e.2⟩), sa_2, if_neg (fun e => w ⟨by rw [e.1]; decide, e.2⟩), sa_2, if_neg (fun e => w ⟨by rw [e.1]; decide, e.2⟩), sa_2, if_neg (fun e => w ⟨by rw [e.1]; decide, e.2⟩)]
      have y9 : y.2.1 279 R = a1 := by rw [hy, sa_2, if_neg (fun e => by omega), sa_2, if_neg (fun e => by omega), sa_2, if_neg (fun e => by omega), sa_2, if_neg (fun e => by omega), sa_2, if_pos ⟨rfl, rfl⟩]
      have y0 : y.2.1 280 R = a2 := by rw [hy, sa_2, if_neg (fun e => by omega), sa_2, if_neg (fun e => by omega), sa_2, if_neg (fun e => by omega), sa_2, if_pos ⟨rfl, rfl⟩]
      have y3 : y.2.1 281 R = a3 := by rw [hy, sa_2, if_neg (fun e => by omega), sa_2, if_neg (fun e => by omega), sa_2, if_pos ⟨rfl, rfl⟩]
      have y4 : y.2.1 282 R = s.1 118 := by rw [hy, sa_2, if_neg (fun e => by omega), sa_2, if_pos ⟨rfl, rfl⟩]
      have y5 : y.2.1 283 R = a5 := by rw [hy, sa_2, if_pos ⟨rfl, rfl⟩]
      clear hy
      refine ⟨fun b1 b2 b3 b4 b5 b6 b7 t => b4 = a4 ∧ b5 = a5 ∧ t.1 = s.1 ∧ t.2.2 = s.2.2 ∧ TYN t ∧ (∀ q j, ¬ (q = 264 ∧ M ≤ j ∧ j < 100000) → t.2.1 q j = y.2.1 q j) ∧ ∃ k : Nat, b7.toInt = (k : Int) ∧ k ≤ l ∧ seg t M k = seg s p k, fun _ _ _ _ _ _ b7 _ => (600 - b7.toInt).toNat, ⟨rfl, rfl, y1, yl, fun j => by rw [yc 264 j (fun w => by revert w; simp)]; exact hT j, fun _ _ _ => rfl, 0, rfl, by omega, rfl⟩, ?_⟩
      rintro b1 b2 b3 b4 b5 b6 b7 t ⟨e4, e5, t1, t2, t3, t4, k, k1, k2, k3⟩
      have e4 := e4.symm
      have e5 := e5.symm
      subst e4 e5
      unfold w_250_94
      rw [t1]
      refine ⟨fun hend => ⟨by omega, ?_⟩, fun hmore => ⟨by omega, fun x5 hx5 => ⟨by omega, fun x6 hx6 => ⟨by omega, by omega, ?_⟩⟩⟩⟩
      · rintro x1 hx1 s2 rfl
        have c112 : (sf t 118 x1).1 112 = s.1 112 := by show t.1 112 = _; rw [t1]
        rw [c112]
        refine ⟨by omega, ?_⟩
        rintro x3 hx3 s4 rfl
        have ek : k = l := by omega
        subst ek
        obtain ⟨f, hf⟩ : ∃ f, f = sf (sf t 118 x1) 112 x3 := ⟨_, rfl⟩
        rw [← hf]
        have f2 : f.2 = t.2 := by rw [hf]; rfl
        have fk : ∀ q, ¬ q = 112 → ¬ q = 118 → f.1 q = s.1 q := fun q q1 q2 => by rw [hf, sf_1, if_neg q1, sf_1, if_neg q2, t1]
        have f112 : (f.1 112).toInt = ((R + 1 : Nat) : Int) := by rw [hf]; show x3.toInt = _; omega
        have f118 : (f.1 118).toInt = ((M + k : Nat) : Int) := by rw [hf]; show x1.toInt = _; omega
        clear hf
        have fc : ∀ q j, ¬ (q ∈ [279, 280, 281, 282, 283] ∧ j = R) → ¬ (q = 264 ∧ M ≤ j ∧ j < 100000) → f.2.1 q j = s.2.1 q j := fun q j c1 c2 => by rw [f2, t4 q j c2, yc q j c1]
        refine ⟨rfl, ⟨fun q hq => fk q (fun w => hq (by rw [w]; decide)) (fun w => hq (by rw [w]; decide)), fun q j c1 c2 => fc q j (fun w => c1 ⟨w.1, by omega⟩) c2, by rw [f2]; exact t2, fun j => by rw [f2]; exact t3 j⟩, R + 1, M + k, ⟨f112, by omega, f118, by omega, by omega, by rw [fk 111 (by decide) (by decide)]; exact w6, fun j hj => ?_⟩, by omega, by omega⟩
        by_cases ej : j = R
        · subst ej
          have sg : seg f M k = seg s p k := (seg_2 f2).trans k3
          refine ⟨M, k, m, ?_, ?_, ?_, w4, Nat.le_refl _, hl, ?_⟩
          · rw [f2, t4 282 j (fun w => by omega), y4]
            exact w3
          · rw [f2, t4 283 j (fun w => by omega), y5]
            exact h5
          · rw [f2, t4 281 j (fun w => by omega), y3]
            exact h3
          · rw [sg, f2, t4 279 j (fun w => by omega), t4 280 j (fun w => by omega), y9, y0]
            exact hK
        · exact RWr_eq (w7 j (by omega)) (fc 279 j (fun w => ej w.2) (fun w => by omega)) (fc 280 j (fun w => ej w.2) (fun w => by omega)) (fc 281 j (fun w => ej w.2) (fun w => by omega)) (fc 282 j (fun w => ej w.2) (fun w => by omega)) (fc 283 j (fun w => ej w.2) (fun w => by omega)) (fun q _ q2 => fc 264 q (fun w => by have := w.1; revert this; simp) (fun w => by omega)) (by omega)
      · rintro s7 rfl
        rw [show x5.toInt.toNat = M + k by omega, show x6.toInt.toNat = p + k by omega]
        have src : t.2.1 264 (p + k) = s.2.1 264 (p + k) := by
          rw [t4 264 (p + k) (fun w => by omega), yc 264 _ (fun w => by have := w.1; revert this; simp)]
        rw [src]
        refine ⟨by omega, fun x8 hx8 => ⟨⟨rfl, rfl, t1, t2, fun j => ?_, fun q j c => ?_, k + 1, by omega, by omega, ?_⟩, by show (600 - x8.toInt).toNat < (600 - b7.toInt).toNat; omega⟩⟩
        · rw [sa_2]
          by_cases ej : j = M + k
          · rw [if_pos ⟨rfl, ej⟩]
            exact hT _
          · rw [if_neg (fun w => ej w.2)]
            exact t3 j
        · rw [sa_2, if_neg (fun w => c ⟨w.1, by omega⟩)]
          exact t4 q j c
        · rw [seg_snoc, seg_snoc, seg_sa (Or.inl (Nat.le_refl _)), k3]
          unfold tyE
          rw [sa_2, if_pos ⟨rfl, rfl⟩]
    · rintro s6 rfl
      refine ⟨rfl, ⟨fun q hq => by rw [sf_1, if_neg (fun w => hq (by rw [w]; decide))], fun _ _ _ _ => rfl, rfl, hT⟩, R, M, ⟨w1, w2, w3, w4, w5, Or.inl rfl, fun j hj => RWr_eq (s := s) (w7 j hj) rfl rfl rfl rfl rfl (fun _ _ _ => rfl) (Nat.le_refl _)⟩, Nat.le_refl _, Nat.le_refl _⟩
  have nxt : ∀ t0 : Int32, i < R → w_250_44 (Tot (d + 1)) (fun z1' z2' z3' z4' z5' z6' z7' t' => (t' = s ∧ z1' = a1 ∧ z2' = a2 ∧ z3' = a3 ∧ z4' = a4 ∧ z5' = a5 ∧ ∃ i : Nat, z7'.toInt = (i : Int) ∧ i ≤ R) ∧ (200 - z7'.toInt).toNat < (200 - z7.toInt).toNat) a1 a2 a3 a4 a5 z6 z7 t0 s (fun v s' => v = none ∧ MFr R M s s' ∧ ∃ R' M' : Nat, RW G R' M' s' ∧ R ≤ R' ∧ M ≤ M') := by
    intro t0 hi
    unfold w_250_44
    exact ⟨by omega, fun x1 hx1 => ⟨⟨rfl, rfl, rfl, rfl, rfl, rfl, i + 1, by omega, by omega⟩, by omega⟩⟩
  unfold w_250_4
  refine ⟨fun _ => fin, fun hmore => ⟨fun _ => fin, fun _ => ⟨by omega, fun _ => ?_, fun _ => ⟨by omega, fun _ => ?_, fun _ => ⟨by omega, fun _ => ?_, fun _ => ⟨by omega, by omega, ?_⟩⟩⟩⟩⟩⟩
  · unfold w_250_43
    exact nxt 0 (by omega)
  · unfold w_250_43
    exact nxt 0 (by omega)
  · unfold w_250_43
    exact nxt 0 (by omega)
  · obtain ⟨p', l', m', k1, k2, k3, k4, k5, k6, -⟩ := w7 i (by omega)
    rw [show z7.toInt.toNat = i by omega]
    refine Tot.imp (s_187 (d := d) k1 k2 h4 h5 (by omega) (by omega) hT) ?_
    rintro v s1 ⟨es, x3, rfl, -⟩
    have es := es.symm
    subst es
    refine ⟨x3, rfl, fun _ => ?_, fun _ => nxt 1 (by omega)⟩
    unfold w_250_43
    exact nxt 0 (by omega)
end RWS
