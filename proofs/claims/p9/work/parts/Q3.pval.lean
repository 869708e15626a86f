/-! ===== the class passes an E, and counts what stands in its lists ===== -/
def NV (K L : Int → Int) (q : Int) : Nat := p_vn K L (p_e K L 11) 123 125 (0, q)
/-- where the ( of a METHOD stands, by its name -/
def mO (K L : Int → Int) (q : Int) : RSt := if K (q + 1) = 91 then p_l K L (p_t K L 11) 93 7 (0, q + 2) else (0, q + 1)
def NM (K L : Int → Int) (q : Int) : Nat := p_vn K L (p_e K L 11) 40 41 (mO K L q)
/-- the counts in a piece of the text -/
def LAz (K L : Int → Int) (P : Nat) (lo hi : Int) (s : zS) : Prop := ∀ q, lo ≤ q → q < hi → (K q = 91 → KI (s.2 (P + 12)) q = (NT K L q : Int)) ∧ (K q = 123 → KI (s.2 (P + 12)) q = (NV K L q : Int)) ∧ (K q = 1 → lo < q → K (q - 1) = 46 → (K (q + 1) = 40 ∨ K (q + 1) = 91) → KI (s.2 (P + 12)) q = (NM K L q : Int))
section ZPE
variable {d P m : Nat} {s s' s'' : zS} {K L : Int → Int} {n lo hi mid : Int} {a1 a2 a3 a4 x : Int32} {r : RSt}
theorem LAz_eq (h : s'.2 = s.2) (g : LAz K L P lo hi s) : LAz K L P lo hi s' := fun q h1 h2 => by rw [h]; exact g q h1 h2
theorem LAz_nil (h : hi ≤ lo) : LAz K L P lo hi s := fun q h1 h2 => by omega
theorem LAz_out {lo' hi' : Int} (g : LAz K L P lo hi s) (h : LO P lo' hi' s s') (hd : hi ≤ lo' ∨ hi' ≤ lo) : LAz K L P lo hi s' := fun q h1 h2 => by
  rw [h q (by omega)]
  exact g q h1 h2
theorem LAz_app (hj : ¬ (K mid = 1 ∧ K (mid - 1) = 46)) (g : LAz K L P lo mid s) (h : LAz K L P mid hi s) : LAz K L P lo hi s := fun q h1 h2 => by
  by_cases e : q < mid
  · exact g q h1 e
  · obtain ⟨w1, w2, w3⟩ := h q (by omega) h2
    refine ⟨w1, w2, fun g1 g2 g3 g4 => ?_⟩
    by_cases e2 : q = mid
    · rw [e2] at g1 g3
      exact absurd ⟨g1, g3⟩ hj
    · exact w3 g1 (by omega) g3 g4
theorem LAz_one (h : ¬ K lo = 91) (h2 : ¬ K lo = 123) : LAz K L P lo (lo + 1) s := fun q g1 g2 => by
  rw [show q = lo by omega]
  exact ⟨fun w => absurd w h, fun w => absurd w h2, fun _ w => absurd w (Int.lt_irrefl _)⟩
theorem LT_LAz (g : LT K L P lo hi s) (h : ∀ q, lo ≤ q → q < hi → tyK (K q)) : LAz K L P lo hi s := fun q h1 h2 => by
  refine ⟨fun w => g q h1 h2 w, fun w => ?_, fun w w1 w2 => ?_⟩
  · have := h q h1 h2
    unfold tyK at this
    omega
  · have := h (q - 1) (by omega) (by omega)
    unfold tyK at this
    omega
/-- an E was passed -/
def EQz (K L : Int → Int) (P : Nat) (n : Int) (r : RSt) (s s' : zS) : Prop := PSx K L P n r s s' ∧ (r.1 = 0 → LAz K L P (RS P s).2 r.2 s' ∧ LO P (RS P s).2 r.2 s s')
/-- blame -/
theorem zs_38 (hP : P = 3 ∨ P = 39) (hT : TXp K L n) (h : RDz K L P n s) (h1 : 0 ≤ a1.toInt ∧ a1.toInt ≤ 15) (h2 : 0 ≤ a2.toInt ∧ a2.toInt ≤ n) : Zt (d + 9) (wd P 38) 38 [.ref P, .int a1, .int a2] s (fun v s' => v = none ∧ PSx K L P n (if (RS P s).1 = 0 ∧ ¬ a1.toInt = 0 then (a1.toInt + 16 * L a2.toInt, (RS P s).2) else RS P s) s s' ∧ s'.2 = s.2) := by
  refine zc_38 hP ?_
  have hn := hT.1
  have hL := hT.2.2 _ h2.1 h2.2
  unfold v_38_0
  rw [zg_K, h.2.1]
  refine ⟨fun w => ?_, fun h0 => ⟨fun w => ?_, fun hc x1 hx1 x2 hx2 s3 hs3 => ?_⟩⟩
  · unfold v_38_16
    rw [if_neg (show ¬ ((RS P s).1 = 0 ∧ ¬ a1.toInt = 0) from fun q => w q.1)]
    exact ⟨rfl, ⟨rfl, h, FZr_rf⟩, rfl⟩
  · unfold v_38_16
    rw [if_neg (show ¬ ((RS P s).1 = 0 ∧ ¬ a1.toInt = 0) from fun q => q.2 w)]
    exact ⟨rfl, ⟨rfl, h, FZr_rf⟩, rfl⟩
  · have e1 := hx1 (by omega)
    have e2 := hx2 (by omega)
    unfold v_38_16
    rw [if_pos (show (RS P s).1 = 0 ∧ ¬ a1.toInt = 0 from ⟨h0, hc⟩)]
    refine ⟨rfl, ⟨?_, ?_, ?_⟩, ?_⟩
    · rw [hs3, RS_ft hP, e2, e1]
    · rw [hs3]
      exact RDz_ft hP h
    · rw [hs3]
      exact FZr_ft
    · rw [hs3, zf_2]
/-- passValues of E with m levels; a3: where the count goes -/
theorem zs_71 (hP : P = 3 ∨ P = 39) (hT : TXp K L n) (hm : m ≤ 10) (ha : a4.toInt = 10 - (m : Int)) (ho : a1.toInt = 40 ∨ a1.toInt = 123) (hc : a2.toInt = 41 ∨ a2.toInt = 125) (h3 : 0 ≤ a3.toInt ∧ a3.toInt ≤ n) (h3' : (RS P s).1 = 0 → a3.toInt ≤ (RS P s).2) (ih : ∀ (x y : Int32) (t : zS), x.toInt = 11 - (m : Int) → 0 ≤ y.toInt → RDz K L P n t → Zt (14 + 3 * m) (wd P 69) 69 [.ref 82, .int x, .int y] t (fun v t' => v = none ∧ EQz K L P n (p_e K L m (decide (6 ≤ y.toInt)) (RS P t)) t t')) (h : RDz K L P n s) : Zt (15 + 3 * m) (wd P 71) 71 [.ref 82, .int a1, .int a2, .int a3, .int a4] s (fun v s' => v = none ∧ PSx K L P n (p_vs K L (p_e K L m) a1.toInt a2.toInt (RS P s)) s s' ∧ ((p_vs K L (p_e K L m) a1.toInt a2.toInt (RS P s)).1 = 0 → KI (s'.2 (P + 12)) a3.toInt = (p_vn K L (p_e K L 11) a1.toInt a2.toInt (RS P s) : Int) ∧ LAz K L P ((RS P s).2 + 1) (p_vs K L (p_e K L m) a1.toInt a2.toInt (RS P s)).2 s' ∧ ∀ q, ¬ ((RS P s).2 ≤ q ∧ q < (p_vs K L (p_e K L m) a1.toInt a2.toInt (RS P s)).2) → ¬ q = a3.toInt → KI (s'.2 (P + 12)) q = KI (s.2 (P + 12)) q)) := by
  rw [show 15 + 3 * m = (6 + 3 * m) + 9 by omega]
  refine zc_71 hP ?_
  obtain ⟨l1, l2, l3, l4, l5, l6, l7, l8⟩ := limP hP
  have hn := hT.1
  have hat := h.2.2
  have hat' : (RS P s).2 = (s.1 82 3).toInt := rfl
  unfold v_71_0
  refine Zt.imp (Zt.mo (d := 9) (by omega) (zs_73 (d := 0) (a1 := a1) hP hT h (by omega))) ?_
  rintro v1 s2 ⟨rfl, ⟨p1, p2, p3⟩, p4⟩
  refine ⟨rfl, ?_⟩
  rw [zg_K, p2.1]
  -- behind the loop: R what comes out, N how many
  have fin : ∀ (R : RSt) (N : Nat) (b5 : Int32) (t : zS), R = p_vs K L (p_e K L m) a1.toInt a2.toInt (RS P s) → 0 ≤ b5.toInt → b5.toInt ≤ 7 → RDz K L P n t → FZr P s t → e_k K L a2.toInt (RS P t) = R → (R.1 = 0 → b5.toInt = (N : Int) ∧ N = p_vn K L (p_e K L 11) a1.toInt a2.toInt (RS P s) ∧ (RS P s).2 + 1 ≤ (RS P t).2 ∧ LAz K L P ((RS P s).2 + 1) (RS P t).2 t ∧ LO P ((RS P s).2 + 1) (RS P t).2 s t) → v_71_30 (fun j => Zt (6 + 3 * m + 8) (wd P j) j) P a1 a2 a3 a4 b5 t (fun v s' => v = none ∧ PSx K L P n (p_vs K L (p_e K L m) a1.toInt a2.toInt (RS P s)) s s' ∧ ((p_vs K L (p_e K L m) a1.toInt a2.toInt (RS P s)).1 = 0 → KI (s'.2 (P + 12)) a3.toInt = (p_vn K L (p_e K L 11) a1.toInt a2.toInt (RS P s) : Int) ∧ LAz K L P ((RS P s).2 + 1) (p_vs K L (p_e K L m) a1.toInt a2.toInt (RS P s)).2 s' ∧ ∀ q, ¬ ((RS P s).2 ≤ q ∧ q < (p_vs K L (p_e K L m) a1.toInt a2.toInt (RS P s)).2) → ¬ q = a3.toInt → KI (s'.2 (P + 12)) q = KI (s.2 (P + 12)) q)) := by
    intro R N b5 t hR q1 q2 q3 q4 q5 q6
    rw [← hR]
    unfold v_71_30
    refine Zt.imp (Zt.mo (d := 9) (by omega) (zs_73 (d := 0) (a1 := a2) hP hT q3 (by omega))) ?_
    rintro v5 s6 ⟨rfl, ⟨r1, r2, r3⟩, r4⟩
    rw [q5] at r1
    refine ⟨rfl, by omega, fun s7 hs7 => ⟨rfl, ?_⟩⟩
    rw [zt_in (a := P + 12) (x := a3) (by rw [l6]; omega)] at hs7
    have e7 : s7.1 = s6.1 := by rw [hs7]; rfl
    have e72 : ∀ a, ¬ a = P + 12 → s7.2 a = s6.2 a := fun a hne => by
      rw [hs7]
      refine funext (fun j => ?_)
      rw [zr_2, if_neg (fun w => hne w.1)]
    have eR : RS P s7 = RS P s6 := by
      unfold RS
      rw [e7]
    refine ⟨⟨by rw [eR, r1], ⟨by rw [e72 _ (by omega)]; exact r2.1, by rw [e72 _ (by omega)]; exact r2.2.1, by rw [e7]; exact r2.2.2⟩, ⟨fun a k g1 g2 => by rw [e7, r3.1 a k g1 g2, q4.1 a k g1 g2], fun a g1 => by rw [e72 a g1, r3.2 a g1, q4.2 a g1]⟩⟩, fun hr => ?_⟩
    obtain ⟨w1, w2, w3, w4, w5⟩ := q6 hr
    have h3b := h3' (pvs_fw (K := K) (L := L) (pe_fw m) (by rw [← hR]; exact hr)).1
    have hr2 : (e_k K L a2.toInt (RS P t)).1 = 0 := by rw [q5]; exact hr
    obtain ⟨z1, z2, z3⟩ := ek_0 hr2
    have eR2 : R.2 = (RS P t).2 + 1 := by rw [← q5, z3]
    refine ⟨?_, fun q g1 g2 => ?_, fun q g1 g2 => ?_⟩
    · rw [hs7, KI_zr h3.1, if_pos (by omega), w1, w2]
    · have hq0 : 0 ≤ q := by omega
      rw [hs7, KI_zr hq0, if_neg (by omega), r4]
      by_cases e2 : q < (RS P t).2
      · exact w4 q g1 e2
      · have eq : q = (RS P t).2 := by omega
        rw [eq, z2]
        refine ⟨fun w => by omega, fun w => by omega, fun w => by omega⟩
    · by_cases hq0 : 0 ≤ q
      · rw [hs7, KI_zr hq0, r4, if_neg (by omega)]
        exact w5 q (by omega)
      · rw [KI_neg hq0, KI_neg hq0]
  -- nothing in it, or a fault
  have emp : ¬ ((e_k K L a1.toInt (RS P s)).1 = 0 ∧ ¬ K (e_k K L a1.toInt (RS P s)).2 = a2.toInt) → v_71_30 (fun j => Zt (6 + 3 * m + 8) (wd P j) j) P a1 a2 a3 a4 0 s2 (fun v s' => v = none ∧ PSx K L P n (p_vs K L (p_e K L m) a1.toInt a2.toInt (RS P s)) s s' ∧ ((p_vs K L (p_e K L m) a1.toInt a2.toInt (RS P s)).1 = 0 → KI (s'.2 (P + 12)) a3.toInt = (p_vn K L (p_e K L 11) a1.toInt a2.toInt (RS P s) : Int) ∧ LAz K L P ((RS P s).2 + 1) (p_vs K L (p_e K L m) a1.toInt a2.toInt (RS P s)).2 s' ∧ ∀ q, ¬ ((RS P s).2 ≤ q ∧ q < (p_vs K L (p_e K L m) a1.toInt a2.toInt (RS P s)).2) → ¬ q = a3.toInt → KI (s'.2 (P + 12)) q = KI (s.2 (P + 12)) q)) := by
    intro hno
    refine fin _ 0 0 s2 rfl (by rw [i0]; decide) (by rw [i0]; decide) p2 p3 ?_ (fun hr => ?_)
    · rw [p1]
      unfold p_vs
      rw [if_neg hno]
    · unfold p_vs at hr
      rw [if_neg hno] at hr
      obtain ⟨z1, -, -⟩ := ek_0 hr
      obtain ⟨y1, y2, y3⟩ := ek_0 z1
      have e2 : (RS P s2).2 = (RS P s).2 + 1 := by rw [p1, y3]
      refine ⟨by rw [i0]; rfl, ?_, by omega, LAz_nil (by omega), LO_eq p4⟩
      unfold p_vn
      rw [if_neg hno]
  refine ⟨fun w => emp (fun q => w (by rw [← p1] at q; exact q.1)), fun h0 => ⟨fun w => emp (fun q => q.2 (by rw [← p1]; exact w)), fun hc2 => ?_⟩⟩
  have hyes : (e_k K L a1.toInt (RS P s)).1 = 0 ∧ ¬ K (e_k K L a1.toInt (RS P s)).2 = a2.toInt := by
    rw [← p1]
    exact ⟨h0, hc2⟩
  obtain ⟨y1, y2, y3⟩ := ek_0 hyes.1
  have e2 : (RS P s2).2 = (RS P s).2 + 1 := by rw [p1, y3]
  have eV : p_vs K L (p_e K L m) a1.toInt a2.toInt (RS P s) = p_l K L (p_e K L m) a2.toInt 7 (RS P s2) := by
    unfold p_vs
    rw [if_pos hyes, p1]
  have eN : p_vn K L (p_e K L m) a1.toInt a2.toInt (RS P s) = p_n K (p_e K L m) 7 (RS P s2) := by
    unfold p_vn
    rw [if_pos hyes, p1]
  have eM : (p_vs K L (p_e K L m) a1.toInt a2.toInt (RS P s)).1 = 0 → p_n K (p_e K L m) 7 (RS P s2) = p_vn K L (p_e K L 11) a1.toInt a2.toInt (RS P s) := fun hr => by
    rw [← eN]
    exact (pvs_mono (pe_mono m 11 (by omega)) hr).2.symm
  unfold vl_71_16
  refine ⟨fun b1 b2 b3 b4 b5 t => b1 = a1 ∧ b2 = a2 ∧ b3 = a3 ∧ b4 = a4 ∧ ∃ k : Nat, k ≤ 6 ∧ b5.toInt = 6 - (k : Int) ∧ (RS P t).1 = 0 ∧ RDz K L P n t ∧ FZr P s t ∧ p_l K L (p_e K L m) a2.toInt (k + 1) (RS P t) = p_l K L (p_e K L m) a2.toInt 7 (RS P s2) ∧ (p_n K (p_e K L m) (k + 1) (RS P t) : Int) + b5.toInt = (p_n K (p_e K L m) 7 (RS P s2) : Int) ∧ (RS P s2).2 ≤ (RS P t).2 ∧ (¬ K ((RS P t).2 - 1) = 46) ∧ LAz K L P (RS P s2).2 (RS P t).2 t ∧ LO P (RS P s2).2 (RS P t).2 s t, fun _ _ _ _ b5 _ => (10 - b5.toInt).toNat, ⟨rfl, rfl, rfl, rfl, 6, by omega, by rw [i0]; decide, h0, p2, p3, rfl, by rw [i0]; exact Int.add_zero _, Int.le_refl _, ?_, LAz_nil (Int.le_refl _), LO_eq p4⟩, ?_⟩
  · rw [e2, show (RS P s).2 + 1 - 1 = (RS P s).2 by omega, y2]
    omega
  rintro b1 b2 b3 b4 b5 t ⟨rfl, rfl, rfl, rfl, k, g1, g2, g3, g4, g5, g6, g7, g8, g8', g9, g10⟩
  unfold v_71_16
  intro x1 hx1
  have e1 := hx1 (by omega)
  refine Zt.imp (Zt.mo (by omega) (ih x1 b5 t (by omega) (by omega) g4)) ?_
  rintro v2 t3 ⟨rfl, ⟨q1, q2, q3⟩, q4⟩
  refine ⟨rfl, fun x4 hx4 => ?_⟩
  have e4 := hx4 (by omega)
  have hb : decide (6 ≤ b5.toInt) = decide (k = 0) := by
    by_cases e : k = 0
    · rw [decide_eq_true e, decide_eq_true (by omega)]
    · rw [decide_eq_false e, decide_eq_false (by omega)]
  rw [hb] at q1 q4
  rw [p_l] at g6
  rw [p_n] at g7
  rw [← q1] at g6 g7 q4
  have lst : (RS P t3).1 = 0 → (RS P t).2 < (RS P t3).2 ∧ LAz K L P (RS P s2).2 (RS P t3).2 t3 ∧ LO P (RS P s2).2 (RS P t3).2 s t3 := by
    intro hf
    obtain ⟨w1, w2⟩ := q4 hf
    have hlt : (RS P t).2 < (RS P t3).2 := by
      rw [q1] at hf ⊢
      exact (pe_fw m _ _ hf).2
    exact ⟨hlt, LAz_app (fun w => g8' w.2) (LAz_out g9 w2 (Or.inl (Int.le_refl _))) w1, LO_tr (LO_mo g10 (Int.le_refl _) (by omega)) (LO_mo w2 g8 (Int.le_refl _))⟩
  refine ⟨fun h6 => ?_, fun h6 => ?_⟩
  · have ek : k = 0 := by omega
    rw [if_neg (fun w => w.1 ek)] at g6 g7
    refine fin _ (p_n K (p_e K L m) 7 (RS P s2)) x4 t3 rfl (by omega) (by omega) q2 (FZr_tr g5 q3) (by rw [eV]; exact g6) (fun hr => ?_)
    have hr' := hr
    rw [eV, ← g6] at hr
    obtain ⟨z1, -, -⟩ := ek_0 hr
    obtain ⟨y0, y2, y3⟩ := lst z1
    rw [← e2]
    exact ⟨by omega, eM hr', by omega, y2, y3⟩
  · refine Zt.imp (Zt.mo (d := 9) (by omega) (zs_72 (d := 0) (a1 := 44) hP hT q2 (by decide))) ?_
    rintro v5 t6 ⟨r7, rfl, hr, r4⟩
    rw [show (44 : Int32).toInt = 44 by decide] at hr
    refine ⟨r7, rfl, fun hne => ?_, fun heq => ?_⟩
    · rcases hr with ⟨y1, y2, y3, y4, y5⟩ | ⟨y1, -⟩
      · rw [if_pos ⟨by omega, y2⟩] at g6 g7
        obtain ⟨f0, f1⟩ := tk_t y2
        obtain ⟨z0, z1, z2⟩ := lst f0
        have eR2 : (RS P t6).2 = (RS P t3).2 + 1 := by rw [y3]; rfl
        refine ⟨⟨rfl, rfl, rfl, rfl, k - 1, by omega, by omega, by rw [y3]; exact f0, y4, FZr_tr (FZr_tr g5 q3) y5, by rw [y3, show k - 1 + 1 = k by omega]; exact g6, by rw [y3, show k - 1 + 1 = k by omega]; omega, by omega, ?_, ?_, ?_⟩, by show (10 - x4.toInt).toNat < (10 - b5.toInt).toNat; omega⟩
        · rw [eR2, show (RS P t3).2 + 1 - 1 = (RS P t3).2 by omega, f1]
          decide
        · rw [eR2]
          refine LAz_eq r4 (LAz_app (fun w => ?_) z1 (LAz_one ?_ ?_))
          · rw [f1] at w
            omega
          · rw [f1]
            decide
          · rw [f1]
            decide
        · rw [eR2]
          exact LO_tr (LO_mo z2 (Int.le_refl _) (by omega)) (LO_eq r4)
      · omega
    · rcases hr with ⟨y1, -⟩ | ⟨y1, y2, y3, y4, y5⟩
      · omega
      · have hno : ¬ (k ≠ 0 ∧ t_k K 44 (RS P t3) = true) := fun w => by
          rw [y2] at w
          cases w.2
        rw [if_neg hno] at g6 g7
        refine fin _ (p_n K (p_e K L m) 7 (RS P s2)) x4 t6 rfl (by omega) (by omega) y4 (FZr_tr (FZr_tr g5 q3) y5) (by rw [y3, eV]; exact g6) (fun hr => ?_)
        have hr' := hr
        rw [eV, ← g6] at hr
        obtain ⟨z1, -, -⟩ := ek_0 hr
        obtain ⟨w1, w2, w3⟩ := lst z1
        rw [y3, ← e2]
        exact ⟨by omega, eM hr', by omega, LAz_eq r4 w2, LO_tr w3 (LO_eq r4)⟩
end ZPE
