/-! ===== the class passes a TYPE, and counts what stands in its [ ] ===== -/
/-- how many TYPES stand in the [ ] that opens there -/
def NT (K L : Int → Int) (q : Int) : Nat := p_n K (p_t K L 11) 7 (0, q + 1)
/-- the counts in a piece of the text -/
def LT (K L : Int → Int) (P : Nat) (lo hi : Int) (s : zS) : Prop := ∀ q, lo ≤ q → q < hi → K q = 91 → KI (s.2 (P + 12)) q = (NT K L q : Int)
/-- counts outside of a piece stay -/
def LO (P : Nat) (lo hi : Int) (s s' : zS) : Prop := ∀ q, ¬ (lo ≤ q ∧ q < hi) → KI (s'.2 (P + 12)) q = KI (s.2 (P + 12)) q
section ZPT
variable {d P m : Nat} {s s' s'' : zS} {K L : Int → Int} {n lo hi mid : Int} {a1 a2 a3 x : Int32} {r : RSt}
theorem LO_rf : LO P lo hi s s := fun _ _ => rfl
theorem LO_tr (h : LO P lo hi s s') (g : LO P lo hi s' s'') : LO P lo hi s s'' := fun q hq => (g q hq).trans (h q hq)
theorem LO_mo {lo' hi' : Int} (h : LO P lo hi s s') (h1 : lo' ≤ lo) (h2 : hi ≤ hi') : LO P lo' hi' s s' := fun q hq => h q (fun w => hq (by omega))
theorem LO_eq (h : s'.2 = s.2) : LO P lo hi s s' := fun q _ => by rw [h]
theorem LT_eq (h : s'.2 = s.2) (g : LT K L P lo hi s) : LT K L P lo hi s' := fun q h1 h2 h3 => by rw [h]; exact g q h1 h2 h3
theorem LT_nil (h : hi ≤ lo) : LT K L P lo hi s := fun q h1 h2 => by omega
theorem LT_out {lo' hi' : Int} (g : LT K L P lo hi s) (h : LO P lo' hi' s s') (hd : hi ≤ lo' ∨ hi' ≤ lo) : LT K L P lo hi s' := fun q h1 h2 h3 => by
  rw [h q (by omega)]
  exact g q h1 h2 h3
theorem LT_app (g : LT K L P lo mid s) (h : LT K L P mid hi s) : LT K L P lo hi s := fun q h1 h2 h3 => by
  by_cases e : q < mid
  · exact g q h1 e h3
  · exact h q (by omega) h2 h3
theorem LT_one (h : ¬ K lo = 91) : LT K L P lo (lo + 1) s := fun q h1 h2 h3 => by
  rw [show q = lo by omega] at h3
  exact absurd h3 h
/-- a TYPE was passed -/
def TQz (K L : Int → Int) (P : Nat) (n : Int) (r : RSt) (s s' : zS) : Prop := PSx K L P n r s s' ∧ (r.1 = 0 → LT K L P (RS P s).2 r.2 s' ∧ LO P (RS P s).2 r.2 s s')
theorem KI_zr {j : Nat} {v : Int32} {q : Int} (hj : 0 ≤ q) : KI ((zr s (P + 12) j v).2 (P + 12)) q = if q = (j : Int) then v.toInt else KI (s.2 (P + 12)) q := by
  rw [KI_p hj, KI_p hj, zr_2]
  by_cases e : q = (j : Int)
  · rw [if_pos ⟨rfl, by omega⟩, if_pos e]
  · rw [if_neg (by omega), if_neg e]
theorem KI_neg {f : Nat → Int32} {q : Int} (h : ¬ 0 ≤ q) : KI f q = 0 := if_neg h
/-- passTypes, of TYPES with m levels -/
theorem zs_68 (hP : P = 3 ∨ P = 39) (hT : TXp K L n) (hm : m ≤ 10) (ha : a1.toInt = 10 - (m : Int)) (ih : ∀ (x y : Int32) (t : zS), x.toInt = 11 - (m : Int) → 0 ≤ y.toInt → RDz K L P n t → Zt (12 + 2 * m) (wd P 67) 67 [.ref 82, .int x, .int y] t (fun v t' => v = none ∧ TQz K L P n (p_t K L m (decide (6 ≤ y.toInt)) (RS P t)) t t')) (h : RDz K L P n s) (hk : t_k K 91 (RS P s) = true) : Zt (13 + 2 * m) (wd P 68) 68 [.ref 82, .int a1] s (fun v s' => v = none ∧ TQz K L P n (p_l K L (p_t K L m) 93 7 (a_d (RS P s))) s s') := by
  rw [show 13 + 2 * m = (4 + 2 * m) + 9 by omega]
  refine zc_68 hP ?_
  obtain ⟨l1, l2, l3, l4, l5, l6, l7, l8⟩ := limP hP
  have hn := hT.1
  obtain ⟨k0, k1⟩ := tk_t hk
  have hat : (RS P s).2 = (s.1 82 3).toInt := rfl
  unfold v_68_0
  refine Zt.imp (Zt.mo (d := 9) (by omega) (zs_73 (d := 0) (a1 := 91) hP hT h (by decide))) ?_
  rintro v1 s2 ⟨rfl, ⟨p1, p2, p3⟩, p4⟩
  rw [show (91 : Int32).toInt = 91 by decide, ek_y k0 k1] at p1
  refine ⟨rfl, ?_⟩
  have ead : a_d (RS P s) = RS P s2 := by
    rw [p1]
    unfold a_d
    rw [k0]
  -- behind the loop
  have fin : ∀ (b3 : Int32) (t : zS), 1 ≤ b3.toInt → b3.toInt ≤ 7 → RDz K L P n t → FZr P s t → e_k K L 93 (RS P t) = p_l K L (p_t K L m) 93 7 (RS P s2) → ((p_l K L (p_t K L m) 93 7 (RS P s2)).1 = 0 → b3.toInt = (p_n K (p_t K L m) 7 (RS P s2) : Int) ∧ LT K L P (RS P s2).2 (RS P t).2 t ∧ LO P (RS P s2).2 (RS P t).2 s t) → v_68_22 (fun j => Zt (4 + 2 * m + 8) (wd P j) j) P a1 (s.1 82 3) b3 t (fun v s' => v = none ∧ TQz K L P n (p_l K L (p_t K L m) 93 7 (RS P s2)) s s') := by
    intro b3 t q1 q2 q3 q4 q5 q6
    unfold v_68_22
    refine Zt.imp (Zt.mo (d := 9) (by omega) (zs_73 (d := 0) (a1 := 93) hP hT q3 (by decide))) ?_
    rintro v5 s6 ⟨rfl, ⟨r1, r2, r3⟩, r4⟩
    rw [show (93 : Int32).toInt = 93 by decide, q5] at r1
    refine ⟨rfl, by omega, fun s7 hs7 => ⟨rfl, ?_⟩⟩
    rw [zt_in (a := P + 12) (x := s.1 82 3) (by rw [l6]; have := h.2.2; omega)] at hs7
    have e7 : s7.1 = s6.1 := by rw [hs7]; rfl
    have e72 : ∀ a, ¬ a = P + 12 → s7.2 a = s6.2 a := fun a hne => by
      rw [hs7]
      refine funext (fun j => ?_)
      rw [zr_2, if_neg (fun w => hne w.1)]
    have eR : RS P s7 = RS P s6 := by
      unfold RS
      rw [e7]
    refine ⟨⟨by rw [eR, r1], ⟨by rw [e72 _ (by omega)]; exact r2.1, by rw [e72 _ (by omega)]; exact r2.2.1, by rw [e7]; exact r2.2.2⟩, ⟨fun a k g1 g2 => by rw [e7, r3.1 a k g1 g2, q4.1 a k g1 g2], fun a g1 => by rw [e72 a g1, r3.2 a g1, q4.2 a g1]⟩⟩, fun hr => ?_⟩
    obtain ⟨w1, w2, w3⟩ := q6 hr
    have hr2 : (e_k K L 93 (RS P t)).1 = 0 := by rw [q5]; exact hr
    obtain ⟨z1, z2, z3⟩ := ek_0 hr2
    rw [← q5, z3]
    dsimp only
    have hlt : (RS P s).2 + 1 = (RS P s2).2 := by rw [p1]
    have hle : (RS P s2).2 ≤ (RS P t).2 := by
      have := (pl_fw7 (pt_fw m) (RS P s2) hr).2
      rw [← q5, z3] at this
      dsimp only at this
      omega
    have hm1 := (pl_mono7 (pt_mono m 11 (by omega)) (RS P s2) hr).2
    refine ⟨fun q g1 g2 g3 => ?_, fun q g1 => ?_⟩
    · have hq0 : 0 ≤ q := by have := h.2.2.1; omega
      rw [hs7, KI_zr hq0, r4]
      by_cases e : q = (RS P s).2
      · rw [if_pos (by rw [e, hat]; have := h.2.2.1; omega), w1]
        unfold NT
        rw [e, ← p1]
        exact congrArg (fun z : Nat => (z : Int)) hm1.symm
      · rw [if_neg (by rw [hat] at e; have := h.2.2.1; omega)]
        by_cases e2 : q < (RS P t).2
        · exact w2 q (by omega) e2 g3
        · rw [show q = (RS P t).2 by omega, z2] at g3
          exact absurd g3 (by decide)
    · by_cases hq0 : 0 ≤ q
      · rw [hs7, KI_zr hq0, r4, if_neg (by rw [hat] at g1; have := h.2.2.1; omega)]
        exact w3 q (by omega)
      · rw [KI_neg hq0, KI_neg hq0]
  rw [ead]
  unfold vl_68_8
  refine ⟨fun b1 b2 b3 t => b1 = a1 ∧ b2 = s.1 82 3 ∧ ∃ k : Nat, k ≤ 6 ∧ b3.toInt = 6 - (k : Int) ∧ (RS P t).1 = 0 ∧ RDz K L P n t ∧ FZr P s t ∧ p_l K L (p_t K L m) 93 (k + 1) (RS P t) = p_l K L (p_t K L m) 93 7 (RS P s2) ∧ (p_n K (p_t K L m) (k + 1) (RS P t) : Int) + b3.toInt = (p_n K (p_t K L m) 7 (RS P s2) : Int) ∧ (RS P s2).2 ≤ (RS P t).2 ∧ LT K L P (RS P s2).2 (RS P t).2 t ∧ LO P (RS P s2).2 (RS P t).2 s t, fun _ _ b3 _ => (10 - b3.toInt).toNat, ⟨rfl, rfl, 6, by omega, by rw [i0]; decide, by rw [p1], p2, p3, rfl, by rw [i0]; exact Int.add_zero _, Int.le_refl _, LT_nil (Int.le_refl _), LO_eq p4⟩, ?_⟩
  rintro b1 b2 b3 t ⟨rfl, rfl, k, g1, g2, g3, g4, g5, g6, g7, g8, g9, g10⟩
  unfold v_68_8
  intro x1 hx1
  have e1 := hx1 (by omega)
  refine Zt.imp (Zt.mo (by omega) (ih x1 b3 t (by omega) (by omega) g4)) ?_
  rintro v2 t3 ⟨rfl, ⟨q1, q2, q3⟩, q4⟩
  refine ⟨rfl, fun x4 hx4 => ?_⟩
  have e4 := hx4 (by omega)
  have hb : decide (6 ≤ b3.toInt) = decide (k = 0) := by
    by_cases e : k = 0
    · rw [decide_eq_true e, decide_eq_true (by omega)]
    · rw [decide_eq_false e, decide_eq_false (by omega)]
  rw [hb] at q1 q4
  rw [p_l] at g6
  rw [p_n] at g7
  rw [← q1] at g6 g7 q4
  -- what was passed
  have lst : (RS P t3).1 = 0 → (RS P t).2 < (RS P t3).2 ∧ LT K L P (RS P s2).2 (RS P t3).2 t3 ∧ LO P (RS P s2).2 (RS P t3).2 s t3 := by
    intro hf
    obtain ⟨w1, w2⟩ := q4 hf
    have hlt : (RS P t).2 < (RS P t3).2 := by
      rw [q1] at hf ⊢
      exact (pt_fw m _ _ hf).2
    exact ⟨hlt, LT_app (LT_out g9 w2 (Or.inl (Int.le_refl _))) w1, LO_tr (LO_mo g10 (Int.le_refl _) (by omega)) (LO_mo w2 g8 (Int.le_refl _))⟩
  refine ⟨fun h6 => ?_, fun h6 => ?_⟩
  · have ek : k = 0 := by omega
    rw [if_neg (fun w => w.1 ek)] at g6 g7
    refine fin x4 t3 (by omega) (by omega) q2 (FZr_tr g5 q3) g6 (fun hr => ?_)
    rw [← g6] at hr
    obtain ⟨z1, -, -⟩ := ek_0 hr
    obtain ⟨-, y2, y3⟩ := lst z1
    exact ⟨by omega, y2, y3⟩
  · refine Zt.imp (Zt.mo (d := 9) (by omega) (zs_72 (d := 0) (a1 := 44) hP hT q2 (by decide))) ?_
    rintro v5 t6 ⟨r7, rfl, hr, r4⟩
    rw [show (44 : Int32).toInt = 44 by decide] at hr
    refine ⟨r7, rfl, fun hne => ?_, fun heq => ?_⟩
    · rcases hr with ⟨y1, y2, y3, y4, y5⟩ | ⟨y1, -⟩
      · rw [if_pos ⟨by omega, y2⟩] at g6 g7
        obtain ⟨f0, f1⟩ := tk_t y2
        obtain ⟨z0, z1, z2⟩ := lst f0
        have eR2 : (RS P t6).2 = (RS P t3).2 + 1 := by rw [y3]; rfl
        refine ⟨⟨rfl, rfl, k - 1, by omega, by omega, by rw [y3]; exact f0, y4, FZr_tr (FZr_tr g5 q3) y5, by rw [y3, show k - 1 + 1 = k by omega]; exact g6, by rw [y3, show k - 1 + 1 = k by omega]; omega, by omega, ?_, ?_⟩, by show (10 - x4.toInt).toNat < (10 - b3.toInt).toNat; omega⟩
        · rw [eR2]
          refine LT_eq r4 (LT_app z1 (LT_one ?_))
          rw [f1]
          decide
        · rw [eR2]
          exact LO_tr (LO_mo z2 (Int.le_refl _) (by omega)) (LO_eq r4)
      · omega
    · rcases hr with ⟨y1, -⟩ | ⟨y1, y2, y3, y4, y5⟩
      · omega
      · have hno : ¬ (k ≠ 0 ∧ t_k K 44 (RS P t3) = true) := fun w => by
          rw [y2] at w
          cases w.2
        rw [if_neg hno] at g6 g7
        refine fin x4 t6 (by omega) (by omega) y4 (FZr_tr (FZr_tr g5 q3) y5) (by rw [y3]; exact g6) (fun hr => ?_)
        rw [← g6] at hr
        obtain ⟨z1, -, -⟩ := ek_0 hr
        obtain ⟨-, w2, w3⟩ := lst z1
        rw [y3]
        exact ⟨by omega, LT_eq r4 w2, LO_tr w3 (LO_eq r4)⟩
/-- passType -/
theorem zs_67 (hP : P = 3 ∨ P = 39) (hT : TXp K L n) : ∀ (m : Nat), m ≤ 11 → ∀ (x y : Int32) (t : zS), x.toInt = 11 - (m : Int) → 0 ≤ y.toInt → RDz K L P n t → Zt (12 + 2 * m) (wd P 67) 67 [.ref 82, .int x, .int y] t (fun v t' => v = none ∧ TQz K L P n (p_t K L m (decide (6 ≤ y.toInt)) (RS P t)) t t') := by
  intro m
  induction m with
  | zero =>
    intro _ x y t hx hy h
    rw [show 12 + 2 * 0 = 3 + 9 by omega]
    refine zc_67 hP ?_
    unfold v_67_0
    refine ⟨fun _ => ?_, fun w => by omega⟩
    unfold v_67_7 v_67_10
    refine Zt.imp (Zt.mo (d := 9) (by omega) (zs_74 (d := 0) (a1 := 1) hP hT h)) ?_
    rintro v1 s2 ⟨rfl, ⟨p1, p2, p3⟩, p4⟩
    rw [decide_eq_true (show ¬ (1 : Int32).toInt = 0 by decide)] at p1
    refine ⟨rfl, ?_⟩
    have hf : ¬ (s2.1 P 14).toInt = 0 := fun w => ef_t (K := K) (L := L) (σ := RS P t) (by rw [← p1]; exact w)
    refine ⟨fun _ => ?_, fun w => absurd w hf⟩
    unfold v_67_25
    exact ⟨rfl, ⟨p1, p2, p3⟩, fun w => absurd (show (e_f K L true (RS P t)).1 = 0 from w) (fun w => ef_t w)⟩
  | succ m ih =>
    intro hm x y t hx hy h
    have hn := hT.1
    rw [show 12 + 2 * (m + 1) = (5 + 2 * m) + 9 by omega]
    refine zc_67 hP ?_
    have go : ∀ z : Int32, decide (¬ z.toInt = 0) = decide (6 ≤ y.toInt) → v_67_10 (fun j => Zt (5 + 2 * m + 8) (wd P j) j) P x y z t (fun v t' => v = none ∧ TQz K L P n (p_t K L (m + 1) (decide (6 ≤ y.toInt)) (RS P t)) t t') := by
      intro z hz
      unfold v_67_10
      refine Zt.imp (Zt.mo (d := 9) (by omega) (zs_74 (d := 0) (a1 := z) hP hT h)) ?_
      rintro v1 s2 ⟨rfl, ⟨p1, p2, p3⟩, p4⟩
      rw [hz] at p1
      refine ⟨rfl, ?_⟩
      rw [zg_K, p2.1]
      have no : t_k K 91 (e_f K L (decide (6 ≤ y.toInt)) (RS P t)) = false → v_67_25 (fun j => Zt (5 + 2 * m + 8) (wd P j) j) P x y s2 (fun v t' => v = none ∧ TQz K L P n (p_t K L (m + 1) (decide (6 ≤ y.toInt)) (RS P t)) t t') := by
        intro hc
        unfold v_67_25
        rw [p_t, if_neg (by rw [hc]; decide)]
        refine ⟨rfl, ⟨p1, p2, p3⟩, fun w => ?_⟩
        obtain ⟨e1, e2, e3, e4⟩ := ef_0 w
        rw [e4]
        exact ⟨LT_one (by rw [e2]; decide), LO_eq p4⟩
      refine ⟨fun w => no (by rw [← p1]; exact tk_f (σ := RS P s2) w), fun h0 => ⟨fun w => no (by rw [← p1]; exact decide_eq_false (fun q => w q.2)), fun hc => ?_⟩⟩
      have hk : t_k K 91 (RS P s2) = true := decide_eq_true ⟨h0, hc⟩
      refine Zt.imp (Zt.mo (d := 13 + 2 * m) (by omega) (zs_68 (a1 := x) hP hT (by omega) (by omega) (ih (by omega)) p2 hk)) ?_
      rintro v3 s4 ⟨rfl, ⟨q1, q2, q3⟩, q4⟩
      refine ⟨rfl, ?_⟩
      unfold v_67_25
      rw [p_t, ← p1, if_pos hk]
      refine ⟨rfl, ⟨q1, q2, FZr_tr p3 q3⟩, fun w => ?_⟩
      obtain ⟨w1, w2⟩ := q4 w
      have ww := pl_fw7 (K := K) (L := L) (c := 93) (pt_fw m) _ w
      have h00 : (e_f K L (decide (6 ≤ y.toInt)) (RS P t)).1 = 0 := by rw [← p1]; exact h0
      obtain ⟨e1, e2, e3, e4⟩ := ef_0 h00
      have eR : (RS P s2).2 = (RS P t).2 + 1 := by rw [p1, e4]
      have wlt := ww.2
      unfold a_d at wlt
      dsimp only at wlt
      refine ⟨LT_app (mid := (RS P t).2 + 1) (LT_one (by rw [e2]; decide)) (by rw [← eR]; exact w1), LO_tr (LO_eq p4) (LO_mo w2 (by omega) (Int.le_refl _))⟩
    unfold v_67_0
    refine ⟨fun w => by omega, fun _ => ⟨fun w => go 0 ?_, fun w => ?_⟩⟩
    · rw [decide_eq_false (show ¬ ¬ (0 : Int32).toInt = 0 by decide), decide_eq_false (by omega)]
    · unfold v_67_7
      exact go 1 (by rw [decide_eq_true (show ¬ (1 : Int32).toInt = 0 by decide), decide_eq_true (by omega)])
end ZPT
