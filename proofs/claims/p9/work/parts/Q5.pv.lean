/-! ===== passValue ===== -/
section ZPW
variable {d P m : Nat} {s s' s'' : zS} {K L : Int → Int} {n lo hi mid : Int} {a1 a2 a3 a4 x : Int32} {σ : RSt}
theorem pps_no {g : RSt → RSt} (h : t_k K 46 σ = false) : ∀ k : Nat, p_ps K L g k σ = σ
  | 0 => by rw [p_ps, if_neg (by rw [h]; decide)]
  | k + 1 => by rw [p_ps, if_neg (by rw [h]; decide)]
/-- the points -/
theorem zs_69l (hP : P = 3 ∨ P = 39) (hT : TXp K L n) (hm : m ≤ 10) (ha : a1.toInt = 10 - (m : Int)) (ih : ∀ (x y : Int32) (t : zS), x.toInt = 11 - (m : Int) → 0 ≤ y.toInt → RDz K L P n t → Zt (14 + 3 * m) (wd P 69) 69 [.ref 82, .int x, .int y] t (fun v t' => v = none ∧ EQz K L P n (p_e K L m (decide (6 ≤ y.toInt)) (RS P t)) t t')) {R : RSt} (h : RDz K L P n s') (hF : FZr P s s') (hR : p_ps K L (p_po K L (p_t K L m) (p_e K L m)) 20 (RS P s') = R) (hl : (RS P s').1 = 0 → (RS P s).2 ≤ (RS P s').2 ∧ LAz K L P (RS P s).2 (RS P s').2 s' ∧ LO P (RS P s).2 (RS P s').2 s s') : v_69_48 (fun j => Zt (8 + 3 * m + 8) (wd P j) j) P a1 a2 a3 s' (fun v t => v = none ∧ EQz K L P n R s t) := by
  have hn := hT.1
  unfold v_69_48 vl_69_50
  refine ⟨fun b1 b2 b3 b4 t => b1 = a1 ∧ 0 ≤ b4.toInt ∧ b4.toInt ≤ 21 ∧ RDz K L P n t ∧ FZr P s t ∧ p_ps K L (p_po K L (p_t K L m) (p_e K L m)) (20 - b4.toInt).toNat (RS P t) = R ∧ (b4.toInt = 21 → ¬ (RS P t).1 = 0) ∧ ((RS P t).1 = 0 → (RS P s).2 ≤ (RS P t).2 ∧ LAz K L P (RS P s).2 (RS P t).2 t ∧ LO P (RS P s).2 (RS P t).2 s t), fun _ _ _ b4 _ => (30 - b4.toInt).toNat, ⟨rfl, by rw [i0]; decide, by rw [i0]; decide, h, hF, by rw [i0]; exact hR, fun w => by rw [i0] at w; omega, hl⟩, ?_⟩
  rintro b1 b2 b3 b4 t ⟨rfl, g1, g2, g3, g4, g5, g6, g7⟩
  have out : t_k K 46 (RS P t) = false → v_69_79 (fun j => Zt (8 + 3 * m + 8) (wd P j) j) P b1 b2 b3 b4 t (fun v t => v = none ∧ EQz K L P n R s t) := by
    intro hk
    rw [pps_no hk] at g5
    unfold v_69_79
    refine ⟨rfl, ⟨g5, g3, g4⟩, fun hr => ?_⟩
    rw [← g5] at hr ⊢
    exact (g7 hr).2
  unfold v_69_50
  rw [zg_K, g3.1]
  refine ⟨fun w => out (tk_f (g6 (by omega))), fun _ => ⟨fun w => out (tk_f (σ := RS P t) w), fun h0 => ⟨fun w => out (decide_eq_false (fun q => w q.2)), fun hc => ?_⟩⟩⟩
  have hk : t_k K 46 (RS P t) = true := decide_eq_true ⟨h0, hc⟩
  refine ⟨fun h2 => ?_, fun h2 => ?_⟩
  · refine Zt.imp (Zt.mo (d := 16 + 3 * m) (by omega) (zs_70 hP hT hm ha ih g3 hk)) ?_
    rintro v1 s2 ⟨rfl, ⟨q1, q2, q3⟩, q4⟩
    refine ⟨rfl, ?_⟩
    unfold v_69_77
    intro x1 hx1
    have e1 := hx1 (by omega)
    rw [show (20 - b4.toInt).toNat = (20 - x1.toInt).toNat + 1 by omega, p_ps, if_pos hk, ← q1] at g5
    refine ⟨⟨rfl, by omega, by omega, q2, FZr_tr g4 q3, g5, fun w => by omega, fun hf => ?_⟩, by show (30 - x1.toInt).toNat < (30 - b4.toInt).toNat; omega⟩
    rw [q1] at hf
    obtain ⟨w1, w2⟩ := q4 hf
    obtain ⟨z0, z1, z2⟩ := g7 h0
    have hlt := (ppo_fw (pt_fw m) (pe_fw m) hf).2.2
    rw [← q1] at hlt w1 w2
    have hc2 : K (RS P t).2 = 46 := hc
    exact ⟨by omega, LAz_app (fun w => by rw [hc2] at w; omega) (LAz_out z1 w2 (Or.inl (Int.le_refl _))) w1, LO_tr (LO_mo z2 (Int.le_refl _) (by omega)) (LO_mo w2 z0 (Int.le_refl _))⟩
  · refine Zt.imp (Zt.mo (d := 9) (by omega) (zs_38 (d := 0) (a1 := 5) (a2 := t.1 82 3) hP hT g3 (by decide) g3.2.2)) ?_
    rintro v3 s4 ⟨rfl, ⟨q1, q2, q3⟩, q4⟩
    have hL := RD_L hT g3
    rw [if_pos ⟨h0, by decide⟩, show (5 : Int32).toInt = 5 by decide] at q1
    refine ⟨rfl, ?_⟩
    unfold v_69_77
    intro x1 hx1
    have e1 := hx1 (by omega)
    have hf : ¬ (RS P s4).1 = 0 := by
      rw [q1]
      show ¬ 5 + 16 * L (t.1 82 3).toInt = 0
      omega
    rw [show (20 - b4.toInt).toNat = 0 by omega, p_ps, if_pos hk] at g5
    refine ⟨⟨rfl, by omega, by omega, q2, FZr_tr g4 q3, ?_, fun _ => hf, fun w => absurd w hf⟩, by show (30 - x1.toInt).toNat < (30 - b4.toInt).toNat; omega⟩
    rw [pps_no (tk_f hf), q1]
    exact g5
theorem zs_69 (hP : P = 3 ∨ P = 39) (hT : TXp K L n) : ∀ (m : Nat), m ≤ 11 → ∀ (x y : Int32) (t : zS), x.toInt = 11 - (m : Int) → 0 ≤ y.toInt → RDz K L P n t → Zt (14 + 3 * m) (wd P 69) 69 [.ref 82, .int x, .int y] t (fun v t' => v = none ∧ EQz K L P n (p_e K L m (decide (6 ≤ y.toInt)) (RS P t)) t t') := by
  intro m
  induction m with
  | zero =>
    intro _ x y t hx hy h
    rw [show 14 + 3 * 0 = 5 + 9 by omega]
    refine zc_69 hP ?_
    unfold v_69_0
    refine ⟨fun _ => ?_, fun w => by omega⟩
    unfold v_69_10 v_69_13
    refine Zt.imp (Zt.mo (d := 9) (by omega) (zs_74 (d := 0) (a1 := 1) hP hT h)) ?_
    rintro v1 s2 ⟨rfl, ⟨p1, p2, p3⟩, p4⟩
    rw [decide_eq_true (show ¬ (1 : Int32).toInt = 0 by decide)] at p1
    have hf : ¬ (RS P s2).1 = 0 := fun w => ef_t (K := K) (L := L) (σ := RS P t) (by rw [← p1]; exact w)
    refine ⟨rfl, fun _ => ?_, fun w => absurd w hf⟩
    unfold v_69_48 vl_69_50
    refine ⟨fun _ _ _ _ u => u = s2, fun _ _ _ _ _ => 0, rfl, ?_⟩
    rintro b1 b2 b3 b4 u rfl
    have out : v_69_79 (fun j => Zt (5 + 8) (wd P j) j) P b1 b2 b3 b4 u (fun v t' => v = none ∧ EQz K L P n (p_e K L 0 (decide (6 ≤ y.toInt)) (RS P t)) t t') := by
      unfold v_69_79
      exact ⟨rfl, ⟨p1, p2, p3⟩, fun w => absurd (show (e_f K L true (RS P t)).1 = 0 from w) (fun w => ef_t w)⟩
    unfold v_69_50
    exact ⟨fun _ => out, fun _ => ⟨fun _ => out, fun w => absurd w hf⟩⟩
  | succ m ih =>
    intro hm x y t hx hy h
    have hn := hT.1
    rw [show 14 + 3 * (m + 1) = (8 + 3 * m) + 9 by omega]
    refine zc_69 hP ?_
    have go : ∀ z : Int32, decide (¬ z.toInt = 0) = decide (6 ≤ y.toInt) → v_69_13 (fun j => Zt (8 + 3 * m + 8) (wd P j) j) P x y (t.1 82 3) z t (fun v t' => v = none ∧ EQz K L P n (p_e K L (m + 1) (decide (6 ≤ y.toInt)) (RS P t)) t t') := by
      intro z hz
      unfold v_69_13
      refine Zt.imp (Zt.mo (d := 9) (by omega) (zs_74 (d := 0) (a1 := z) hP hT h)) ?_
      rintro v1 s2 ⟨rfl, ⟨p1, p2, p3⟩, p4⟩
      rw [hz] at p1
      refine ⟨rfl, ?_⟩
      rw [zg_K, p2.1]
      -- a name alone, or a fault
      have one : ¬ ((e_f K L (decide (6 ≤ y.toInt)) (RS P t)).1 = 0 ∧ (K (e_f K L (decide (6 ≤ y.toInt)) (RS P t)).2 = 123 ∨ K (e_f K L (decide (6 ≤ y.toInt)) (RS P t)).2 = 91)) → v_69_48 (fun j => Zt (8 + 3 * m + 8) (wd P j) j) P x y (t.1 82 3) s2 (fun v t' => v = none ∧ EQz K L P n (p_e K L (m + 1) (decide (6 ≤ y.toInt)) (RS P t)) t t') := by
        intro hno
        refine zs_69l hP hT (by omega) (by omega) (ih (by omega)) p2 p3 ?_ (fun hf => ?_)
        · rw [p_e, if_neg hno, p1]
        · rw [p1] at hf
          obtain ⟨e1, e2, e3, e4⟩ := ef_0 hf
          rw [p1, e4]
          exact ⟨by dsimp only; omega, LAz_one (by rw [e2]; decide) (by rw [e2]; decide), LO_eq p4⟩
      -- a TYPE, and its list
      have lit : (e_f K L (decide (6 ≤ y.toInt)) (RS P t)).1 = 0 → (K (e_f K L (decide (6 ≤ y.toInt)) (RS P t)).2 = 123 ∨ K (e_f K L (decide (6 ≤ y.toInt)) (RS P t)).2 = 91) → v_69_32 (fun j => Zt (8 + 3 * m + 8) (wd P j) j) P x y (t.1 82 3) s2 (fun v t' => v = none ∧ EQz K L P n (p_e K L (m + 1) (decide (6 ≤ y.toInt)) (RS P t)) t t') := by
        intro h0 hc
        obtain ⟨k1, k2, k3, k4⟩ := ef_0 h0
        unfold v_69_32
        refine ⟨by have := h.2.2; omega, fun s1 hs1 x2 hx2 => ?_⟩
        have e2 := hx2 (by omega)
        have R1 : RS P s1 = RS P t := by
          rw [hs1, RS_at hP, p1, k4]
          show ((0 : Int), (t.1 82 3).toInt) = ((RS P t).1, (RS P t).2)
          rw [k1]
          rfl
        have D1 : RDz K L P n s1 := by
          rw [hs1]
          exact RDz_at hP p2 h.2.2
        have F1 : FZr P t s1 := by
          rw [hs1]
          exact FZr_tr p3 FZr_at
        have L1 : s1.2 = t.2 := by rw [hs1, zf_2, p4]
        refine Zt.imp (Zt.mo (d := 12 + 2 * m) (by omega) (zs_67 hP hT m (by omega) x2 0 s1 (by omega) (by rw [i0]; decide) D1)) ?_
        rintro v3 s4 ⟨rfl, ⟨q1, q2, q3⟩, q4⟩
        rw [decide_eq_false (show ¬ 6 ≤ (0 : Int32).toInt by decide), R1] at q1 q4
        refine ⟨rfl, ?_⟩
        refine Zt.imp (Zt.mo (d := 15 + 3 * m) (by omega) (zs_71 (a1 := 123) (a2 := 125) (a3 := s4.1 82 3) (a4 := x) hP hT (by omega) (by omega) (Or.inr (by decide)) (Or.inr (by decide)) q2.2.2 (fun _ => Int.le_refl _) (ih (by omega)) q2)) ?_
        rintro v5 s6 ⟨rfl, ⟨w1, w2, w3⟩, w4⟩
        rw [show (123 : Int32).toInt = 123 by decide, show (125 : Int32).toInt = 125 by decide, q1] at w1 w4
        refine ⟨rfl, ?_⟩
        refine zs_69l hP hT (by omega) (by omega) (ih (by omega)) w2 (FZr_tr F1 (FZr_tr q3 w3)) ?_ (fun hf => ?_)
        · rw [p_e, if_pos ⟨h0, hc⟩, w1]
        · rw [w1] at hf
          obtain ⟨z1, z2, z3⟩ := w4 hf
          obtain ⟨f1, f2, f3⟩ := pvs_fw (pe_fw m) hf
          obtain ⟨y1, y2⟩ := q4 f1
          have hlt := (pt_fw (K := K) (L := L) m _ _ f1).2
          have e4 : (s4.1 82 3).toInt = (p_t K L m false (RS P t)).2 := congrArg Prod.snd q1
          rw [e4] at z1 z3
          rw [w1]
          have yA := LT_LAz y1 (pt_tok m _ _ f1)
          have zO : LO P (p_t K L m false (RS P t)).2 (p_vs K L (p_e K L m) 123 125 (p_t K L m false (RS P t))).2 s4 s6 := fun q hq => z3 q hq (by omega)
          refine ⟨by omega, LAz_app (mid := (p_t K L m false (RS P t)).2) (fun w => by rw [f2] at w; omega) (LAz_out yA zO (Or.inl (Int.le_refl _))) ?_, ?_⟩
          · refine LAz_app (mid := (p_t K L m false (RS P t)).2 + 1) (fun w => ?_) (fun q j1 j2 => ?_) z2
            · rw [show (p_t K L m false (RS P t)).2 + 1 - 1 = (p_t K L m false (RS P t)).2 by omega, f2] at w
              omega
            · have eq : q = (p_t K L m false (RS P t)).2 := by omega
              rw [eq, f2]
              refine ⟨fun w => by omega, fun _ => ?_, fun w => by omega⟩
              rw [z1]
              unfold NV
              have eS : p_t K L m false (RS P t) = (0, (p_t K L m false (RS P t)).2) := by
                rw [← f1]
              rw [← eS]
          · exact LO_tr (LO_eq L1) (LO_tr (LO_mo y2 (Int.le_refl _) (by omega)) (LO_mo zO (by omega) (Int.le_refl _)))
      refine ⟨fun w => one (fun q => w (by rw [← p1] at q; exact q.1)), fun h0 => ⟨fun w => ?_, fun w => ⟨fun w2 => one (fun q => ?_), fun w2 => ?_⟩⟩⟩
      · exact lit (by rw [← p1]; exact h0) (Or.inl (by rw [← p1]; exact w))
      · rw [← p1] at q
        rcases q.2 with q | q
        · exact w q
        · exact w2 q
      · exact lit (by rw [← p1]; exact h0) (Or.inr (by rw [← p1]; exact w2))
    unfold v_69_0
    refine ⟨fun w => by omega, fun _ => ⟨fun w => go 0 ?_, fun w => ?_⟩⟩
    · rw [decide_eq_false (show ¬ ¬ (0 : Int32).toInt = 0 by decide), decide_eq_false (by omega)]
    · unfold v_69_10
      exact go 1 (by rw [decide_eq_true (show ¬ (1 : Int32).toInt = 0 by decide), decide_eq_true (by omega)])
end ZPW
