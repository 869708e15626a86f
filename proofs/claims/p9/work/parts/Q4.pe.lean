/-! ===== passPoint, passValue ===== -/
section ZPV
variable {d P m : Nat} {s s' s'' : zS} {K L : Int → Int} {n lo hi mid : Int} {a1 a2 a3 a4 x : Int32} {r : RSt}
/-- passPoint, at a point -/
theorem zs_70 (hP : P = 3 ∨ P = 39) (hT : TXp K L n) (hm : m ≤ 10) (ha : a1.toInt = 10 - (m : Int)) (ih : ∀ (x y : Int32) (t : zS), x.toInt = 11 - (m : Int) → 0 ≤ y.toInt → RDz K L P n t → Zt (14 + 3 * m) (wd P 69) 69 [.ref 82, .int x, .int y] t (fun v t' => v = none ∧ EQz K L P n (p_e K L m (decide (6 ≤ y.toInt)) (RS P t)) t t')) (h : RDz K L P n s) (hk : t_k K 46 (RS P s) = true) : Zt (16 + 3 * m) (wd P 70) 70 [.ref 82, .int a1] s (fun v s' => v = none ∧ EQz K L P n (p_po K L (p_t K L m) (p_e K L m) (RS P s)) s s') := by
  rw [show 16 + 3 * m = (7 + 3 * m) + 9 by omega]
  refine zc_70 hP ?_
  have hn := hT.1
  obtain ⟨k0, k1⟩ := tk_t hk
  unfold v_70_0
  refine Zt.imp (Zt.mo (d := 9) (by omega) (zs_73 (d := 0) (a1 := 46) hP hT h (by decide))) ?_
  rintro v1 s2 ⟨rfl, ⟨p1, p2, p3⟩, p4⟩
  rw [show (46 : Int32).toInt = 46 by decide] at p1
  have p1' := p1
  rw [ek_y k0 k1] at p1
  have e2 : (RS P s2).2 = (RS P s).2 + 1 := by rw [p1]
  have k2 : (RS P s2).1 = 0 := by rw [p1]
  refine ⟨rfl, ?_⟩
  refine Zt.imp (Zt.mo (d := 9) (by omega) (zs_72 (d := 0) (a1 := 40) hP hT p2 (by decide))) ?_
  rintro v3 s4 ⟨r5, rfl, hr5, r4⟩
  rw [show (40 : Int32).toInt = 40 by decide] at hr5
  refine ⟨r5, rfl, fun h5 => ?_, fun h5 x8 hx8 => ?_⟩
  · -- a name
    rcases hr5 with ⟨y1, -⟩ | ⟨y1, y2, y3, y4, y5⟩
    · omega
    have k4 : (RS P s4).1 = 0 := by rw [y3]; exact k2
    have e4 : (s4.1 82 3).toInt = (RS P s).2 + 1 := by
      have : (RS P s4).2 = (RS P s).2 + 1 := by rw [y3]; exact e2
      exact this
    refine Zt.imp (Zt.mo (d := 9) (by omega) (zs_73 (d := 0) (a1 := 1) hP hT y4 (by decide))) ?_
    rintro v6 s7 ⟨rfl, ⟨q1, q2, q3⟩, q4⟩
    rw [show (1 : Int32).toInt = 1 by decide, y3, p1'] at q1
    have F7 : FZr P s s7 := FZr_tr p3 (FZr_tr y5 q3)
    have L7 : s7.2 = s.2 := by rw [q4, r4, p4]
    have n40 : ¬ t_k K 40 (e_k K L 46 (RS P s)) = true := by rw [← p1', y2]; decide
    refine ⟨rfl, ?_⟩
    rw [zg_K, q2.1]
    -- ( ), and what comes ahead of it: t stands at (
    have vals : ∀ (t : zS) (a : Int32), RDz K L P n t → FZr P s t → p_po K L (p_t K L m) (p_e K L m) (RS P s) = p_vs K L (p_e K L m) 40 41 (RS P t) → ((RS P t).1 = 0 → K ((RS P s).2 + 1) = 1 ∧ RS P t = mO K L ((RS P s).2 + 1) ∧ (RS P s).2 + 2 ≤ (RS P t).2 ∧ (K ((RS P s).2 + 2) = 40 ∨ K ((RS P s).2 + 2) = 91) ∧ ¬ K ((RS P t).2 - 1) = 46 ∧ LAz K L P ((RS P s).2 + 2) (RS P t).2 t ∧ LO P ((RS P s).2 + 2) (RS P t).2 s t) → v_70_52 (fun j => Zt (7 + 3 * m + 8) (wd P j) j) P a1 (s4.1 82 3) a t (fun v s' => v = none ∧ EQz K L P n (p_po K L (p_t K L m) (p_e K L m) (RS P s)) s s') := by
      intro t a t1 t2 t3 t4
      unfold v_70_52
      refine Zt.imp (Zt.mo (d := 15 + 3 * m) (by omega) (zs_71 (a1 := 40) (a2 := 41) (a3 := s4.1 82 3) (a4 := a1) hP hT hm ha (Or.inl (by decide)) (Or.inl (by decide)) y4.2.2 (fun w => by have := (t4 w).2.2.1; omega) ih t1)) ?_
      rintro v8 s9 ⟨rfl, ⟨w1, w2, w3⟩, w4⟩
      rw [show (40 : Int32).toInt = 40 by decide, show (41 : Int32).toInt = 41 by decide, ← t3] at w1 w4
      refine ⟨rfl, ?_⟩
      unfold v_70_58
      refine ⟨rfl, ⟨w1, w2, FZr_tr t2 w3⟩, fun hr => ?_⟩
      obtain ⟨z1, z2, z3⟩ := w4 hr
      rw [t3] at hr
      obtain ⟨f1, f2, f3⟩ := pvs_fw (pe_fw m) hr
      obtain ⟨g1, g2, g3, g4, g5, g6, g7⟩ := t4 f1
      rw [← t3] at f3
      rw [e4] at z1 z3
      -- the point, the name, what is told, the rest
      refine ⟨?_, fun q hq => ?_⟩
      · intro q j1 j2
        by_cases c1 : q = (RS P s).2
        · rw [c1, k1]
          exact ⟨fun w => by omega, fun w => by omega, fun w => by omega⟩
        · by_cases c2 : q = (RS P s).2 + 1
          · rw [c2, g1]
            refine ⟨fun w => by omega, fun w => by omega, fun _ _ _ _ => ?_⟩
            rw [z1]
            unfold NM
            rw [g2]
          · by_cases c3 : q < (RS P t).2
            · have hz : KI (s9.2 (P + 12)) q = KI (t.2 (P + 12)) q := z3 q (by omega) (by omega)
              obtain ⟨v1, v2, v3⟩ := g6 q (by omega) c3
              rw [hz]
              refine ⟨v1, v2, fun u1 u2 u3 u4 => ?_⟩
              by_cases c4 : q = (RS P s).2 + 2
              · rw [c4] at u1
                omega
              · exact v3 u1 (by omega) u3 u4
            · by_cases c4 : q = (RS P t).2
              · rw [c4, f2]
                exact ⟨fun w => by omega, fun w => by omega, fun w => by omega⟩
              · obtain ⟨v1, v2, v3⟩ := z2 q (by omega) j2
                refine ⟨v1, v2, fun u1 u2 u3 u4 => ?_⟩
                by_cases c5 : q = (RS P t).2 + 1
                · rw [c5, show (RS P t).2 + 1 - 1 = (RS P t).2 by omega, f2] at u3
                  omega
                · exact v3 u1 (by omega) u3 u4
      · rw [z3 q (by omega) (by omega)]
        exact g7 q (by omega)
    -- no list of TYPES
    have no : ∀ a : Int32, a.toInt = 0 → t_k K 91 (e_k K L 1 (e_k K L 46 (RS P s))) = false → v_70_43 (fun j => Zt (7 + 3 * m + 8) (wd P j) j) P a1 (s4.1 82 3) a s7 (fun v s' => v = none ∧ EQz K L P n (p_po K L (p_t K L m) (p_e K L m) (RS P s)) s s') := by
      intro a ha0 h9
      unfold v_70_43
      rw [zg_K, q2.1]
      have h9' : ¬ t_k K 91 (e_k K L 1 (e_k K L 46 (RS P s))) = true := by rw [h9]; decide
      refine ⟨fun w => absurd ha0 w, fun _ => ⟨fun w => ?_, fun w => ?_⟩⟩
      · unfold v_70_58
        have w' : ¬ K (e_k K L 1 (e_k K L 46 (RS P s))).2 = 40 := by rw [← q1]; exact w
        unfold p_po
        rw [if_neg n40, if_neg h9', if_neg w']
        refine ⟨rfl, ⟨q1, q2, F7⟩, fun hr => ?_⟩
        obtain ⟨f1, f2, f3⟩ := ek_0 hr
        rw [ek_y k0 k1] at f2 f3
        dsimp only at f2
        have hw2 : ¬ K ((RS P s).2 + 2) = 40 := fun q => w' (by rw [ek_y k0 k1, f3]; dsimp only; rw [show (RS P s).2 + 1 + 1 = (RS P s).2 + 2 by omega]; exact q)
        have hw3 : ¬ K ((RS P s).2 + 2) = 91 := fun q => by
          have : t_k K 91 (e_k K L 1 (e_k K L 46 (RS P s))) = true := decide_eq_true (by
            rw [ek_y k0 k1, f3]
            dsimp only
            exact ⟨rfl, by rw [show (RS P s).2 + 1 + 1 = (RS P s).2 + 2 by omega]; exact q⟩)
          exact h9' this
        rw [ek_y k0 k1, f3]
        dsimp only
        refine ⟨fun q j1 j2 => ?_, LO_eq L7⟩
        by_cases c1 : q = (RS P s).2
        · rw [c1, k1]
          exact ⟨fun w => by omega, fun w => by omega, fun w => by omega⟩
        · have c2 : q = (RS P s).2 + 1 := by omega
          rw [c2, f2, show (RS P s).2 + 1 + 1 = (RS P s).2 + 2 by omega]
          exact ⟨fun w => by omega, fun w => by omega, fun _ _ _ w => by omega⟩
      · have w' : K (e_k K L 1 (e_k K L 46 (RS P s))).2 = 40 := by rw [← q1]; exact w
        refine vals s7 a q2 F7 ?_ (fun hf => ?_)
        · unfold p_po
          rw [if_neg n40, if_neg h9', if_pos w', q1]
        · rw [q1] at hf
          obtain ⟨f1, f2, f3⟩ := ek_0 hf
          rw [ek_y k0 k1] at f2 f3 w'
          dsimp only at f2 f3
          rw [f3] at w'
          dsimp only at w'
          have e7 : RS P s7 = (0, (RS P s).2 + 1 + 1) := by rw [q1, ek_y k0 k1, f3]
          rw [e7]
          dsimp only
          rw [show (RS P s).2 + 1 + 1 = (RS P s).2 + 2 by omega] at w' ⊢
          refine ⟨f2, ?_, by omega, Or.inl w', ?_, LAz_nil (by omega), LO_eq L7⟩
          · unfold mO
            rw [show (RS P s).2 + 1 + 1 = (RS P s).2 + 2 by omega, if_neg (by rw [w']; decide)]
          · rw [show (RS P s).2 + 2 - 1 = (RS P s).2 + 1 by omega, f2]
            decide
    refine ⟨fun w => ?_, fun h0 => ⟨fun w => ?_, fun hc => ?_⟩⟩
    · unfold v_70_36 v_70_37
      exact ⟨fun _ => no 0 i0 (by rw [← q1]; exact tk_f (σ := RS P s7) w), fun w => absurd i0 w⟩
    · unfold v_70_36 v_70_37
      exact ⟨fun _ => no 0 i0 (by rw [← q1]; exact decide_eq_false (fun q => w q.2)), fun w => absurd i0 w⟩
    · -- a list of TYPES
      have h9 : t_k K 91 (RS P s7) = true := decide_eq_true ⟨h0, hc⟩
      have h9' : t_k K 91 (e_k K L 1 (e_k K L 46 (RS P s))) = true := by rw [← q1]; exact h9
      unfold v_70_37
      refine ⟨fun w => by rw [i1] at w; omega, fun _ => ?_⟩
      refine Zt.imp (Zt.mo (d := 13 + 2 * m) (by omega) (zs_68 hP hT hm ha (zs_67 hP hT m (by omega)) q2 h9)) ?_
      rintro v8 s9 ⟨rfl, ⟨w1, w2, w3⟩, w4⟩
      refine ⟨rfl, ?_⟩
      unfold v_70_43
      refine ⟨fun _ => ?_, fun w => by rw [i1] at w; omega⟩
      refine vals s9 1 w2 (FZr_tr F7 w3) ?_ (fun hf => ?_)
      · unfold p_po
        rw [if_neg n40, if_pos h9', w1, q1]
      · obtain ⟨f1, f2, f3⟩ := ek_0 (tk_t h9').1
        rw [ek_y k0 k1] at f2 f3
        dsimp only at f2 f3
        have e7 : RS P s7 = (0, (RS P s).2 + 1 + 1) := by rw [q1, ek_y k0 k1, f3]
        rw [w1] at hf
        obtain ⟨z1, z2⟩ := w4 hf
        rw [← w1] at z1 z2
        have hlt := (pl_fw7 (K := K) (L := L) (c := 93) (pt_fw m) _ hf).2
        have hmo := (pl_mono7 (K := K) (L := L) (c := 93) (pt_mono m 11 (by omega)) _ hf).1
        rw [← w1] at hlt
        replace hc : K (RS P s7).2 = 91 := hc
        rw [e7] at z1 z2 hlt hc
        unfold a_d at hlt
        dsimp only at z1 z2 hlt hc
        rw [show (RS P s).2 + 1 + 1 = (RS P s).2 + 2 by omega] at z1 z2 hlt hc
        have htok := pl_tok7 (K := K) (L := L) (pt_fw m) (pt_tok m) _ hf
        rw [← w1, e7] at htok
        unfold a_d at htok
        dsimp only at htok
        have hall : ∀ q, (RS P s).2 + 2 ≤ q → q < (RS P s9).2 → tyK (K q) := fun q j1 j2 => by
          by_cases c1 : q = (RS P s).2 + 2
          · rw [c1, hc]
            exact Or.inr (Or.inr (Or.inl rfl))
          · exact htok q (by omega) j2
        refine ⟨f2, ?_, by omega, Or.inr hc, ?_, LT_LAz z1 hall, ?_⟩
        · unfold mO
          rw [show (RS P s).2 + 1 + 1 = (RS P s).2 + 2 by omega, if_pos hc, w1, ← hmo, e7]
          unfold a_d
          dsimp only
          rw [show (RS P s).2 + 1 + 1 + 1 = (RS P s).2 + 1 + 2 by omega]
        · have := hall ((RS P s9).2 - 1) (by omega) (by omega)
          unfold tyK at this
          omega
        · exact LO_tr (LO_eq L7) z2
  · -- ( TYPE )
    rcases hr5 with ⟨y1, y2, y3, y4, y5⟩ | ⟨y1, -⟩
    · have e8 := hx8 (by omega)
      refine Zt.imp (Zt.mo (d := 12 + 2 * m) (by omega) (zs_67 hP hT m (by omega) x8 0 s4 (by omega) (by rw [i0]; decide) y4)) ?_
      rintro v9 s10 ⟨rfl, ⟨q1, q2, q3⟩, q4⟩
      rw [decide_eq_false (show ¬ 6 ≤ (0 : Int32).toInt by decide)] at q1 q4
      refine ⟨rfl, ?_⟩
      refine Zt.imp (Zt.mo (d := 9) (by omega) (zs_73 (d := 0) (a1 := 41) hP hT q2 (by decide))) ?_
      rintro v11 s12 ⟨rfl, ⟨w1, w2, w3⟩, w4⟩
      rw [show (41 : Int32).toInt = 41 by decide, q1, y3, p1'] at w1
      refine ⟨rfl, rfl, ?_⟩
      have y2' : t_k K 40 (e_k K L 46 (RS P s)) = true := by rw [← p1']; exact y2
      unfold p_po
      rw [if_pos y2']
      refine ⟨⟨w1, w2, FZr_tr p3 (FZr_tr y5 (FZr_tr q3 w3))⟩, fun hr => ?_⟩
      obtain ⟨f1, f2, f3⟩ := ek_0 hr
      rw [f3]
      dsimp only
      have eA : a_d (e_k K L 46 (RS P s)) = RS P s4 := by rw [y3, p1']
      rw [eA] at f1 f2 f3 ⊢
      have e4 : (RS P s4).2 = (RS P s).2 + 2 := by
        rw [y3]
        unfold a_d
        dsimp only
        omega
      obtain ⟨z1, z2⟩ := q4 f1
      have hlt := (pt_fw (K := K) (L := L) m _ _ f1).2
      have ky : K ((RS P s).2 + 1) = 40 := by
        have := (tk_t y2).2
        rw [e2] at this
        exact this
      have L4 : s4.2 = s.2 := by rw [r4, p4]
      have zA := LT_LAz z1 (pt_tok m _ _ f1)
      refine ⟨?_, ?_⟩
      · refine LAz_eq w4 (LAz_app (mid := (p_t K L m false (RS P s4)).2) (fun w => by rw [f2] at w; omega) ?_ (LAz_one (by rw [f2]; decide) (by rw [f2]; decide)))
        refine LAz_app (mid := (RS P s4).2) (fun w => ?_) ?_ zA
        · rw [e4, show (RS P s).2 + 2 - 1 = (RS P s).2 + 1 by omega, ky] at w
          omega
        · rw [e4]
          refine LAz_app (mid := (RS P s).2 + 1) (fun w => by rw [ky] at w; omega) (LAz_one (by rw [k1]; decide) (by rw [k1]; decide)) ?_
          rw [show (RS P s).2 + 2 = (RS P s).2 + 1 + 1 by omega]
          exact LAz_one (by rw [ky]; decide) (by rw [ky]; decide)
      · exact LO_tr (LO_eq L4) (LO_tr (LO_mo z2 (by omega) (by omega)) (LO_eq w4))
    · omega
end ZPV
