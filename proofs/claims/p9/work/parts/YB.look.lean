/-! ===== the class: lookAtBounds ===== -/
/-- the TYPE that begins at j -/
def subT (ar : Int → Int) (A : List Int) (j : Nat) : List Int := (tkT ar 1 (A.drop j)).1
/-- the faults of the TYPES that begin ahead of j and are over at e, from j down -/
def bdO (ar : Int → Int) (G : Int → List (List Int) → Nat → List Int) (A : List Int) (e : Nat) : Nat → List Int
  | 0 => []
  | j + 1 => (if 0 < ar ((subT ar A j).headD 0) ∧ j + (subT ar A j).length = e then G ((subT ar A j).headD 0) (argT ar (subT ar A j)) j else []) ++ bdO ar G A e j
/-- the faults of all that are over at m or ahead of it -/
def bdD (ar : Int → Int) (G : Int → List (List Int) → Nat → List Int) (A : List Int) : Nat → List Int
  | 0 => []
  | m + 1 => bdD ar G A m ++ bdO ar G A (m + 1) (m + 1)
/-- BOUNDS of a type's FORMALS -/
def BFz (ar : Int → Int) (P : Nat) (s : zS) (Bf : Int → List (List Int)) (A : List Int) : Prop := ∀ c ∈ A, 0 ≤ c → 0 < ar c → (0 ≤ tyc s P c 2 ∧ tyc s P c 2 ≤ 4000) ∧ SSz ar P s (tyc s P c 2) (Bf c) ∧ ((Bf c).length : Int) = ar c
section YLB
variable {ar K L kd : Int → Int} {cf : Nat → Int} {P d F H : Nat} {s u : zS} {a1 a2 a3 a4 a5 a6 a7 : Int32} {A : List Int} {t n k : Int} {TN : List Int} {hd : Nat → Nat × Nat × List (List Int)} {Bf : Int → List (List Int)} {bn : Int → List Int} {tok : Nat → Int}
theorem isR_drop (ha : ∀ c, 0 ≤ ar c) : ∀ (A : List Int) (k : Int) (j : Nat), isR ar k A → j < A.length → ∃ k', 0 < k' ∧ isR ar k' (A.drop j)
  | [], k, j, _, h => absurd h (Nat.not_lt_zero _)
  | c :: l, k, 0, h, _ => ⟨k, h.1, h⟩
  | c :: l, k, j + 1, h, hj => isR_drop ha l _ j h.2.2 (by rw [List.length_cons] at hj; omega)
theorem subT_ok (ha : ∀ c, 0 ≤ ar c) (hA : isR ar k A) {j : Nat} {c : Int} (hc : A[j]? = some c) : isR ar 1 (subT ar A j) ∧ A.drop j = subT ar A j ++ (tkT ar 1 (A.drop j)).2 ∧ ∃ D', subT ar A j = c :: D' := by
  have hj := (List.getElem?_eq_some_iff.mp hc).1
  obtain ⟨k', h1, h2⟩ := isR_drop ha A k j hA hj
  obtain ⟨g1, g2, g3⟩ := tkT_ok (a := ar) (A.drop j) 1 (k' - 1) (by omega) (by omega) (by rw [show (1 : Int) + (k' - 1) = k' by omega]; exact h2) ha
  refine ⟨g2, g1, ?_⟩
  have e1 := drop_at hc
  unfold subT
  rw [e1]
  show ∃ D', (if (1 : Int) ≤ 0 then (([] : List Int), c :: A.drop (j + 1)) else (c :: (tkT ar (1 + ar c - 1) (A.drop (j + 1))).1, (tkT ar (1 + ar c - 1) (A.drop (j + 1))).2)).1 = c :: D'
  rw [if_neg (by decide)]
  exact ⟨_, rfl⟩
theorem lb_44n {R2 : Int32 → Int32 → Int32 → zS → Prop} {R7 : Int32 → Int32 → Int32 → Int32 → zS → Prop} {Q : Option Value → zS → Prop} (h6 : a6.toInt = 0) (h4 : 0 ≤ a4.toInt ∧ a4.toInt ≤ 100000) (hfin : ∀ x1 : Int32, x1.toInt = a4.toInt - 1 → R7 a1 a2 a3 x1 s) : vl_135_44 (fun j => Zt (d + 3 + 8) (wd P j) j) P R2 R7 a1 a2 a3 a4 a5 a6 a7 0 s Q := by
  refine ⟨fun c1 c2 c3 c4 c5 c6 c7 c8 u => c1 = a1 ∧ c2 = a2 ∧ c3 = a3 ∧ c4 = a4 ∧ c6 = a6 ∧ u = s, fun _ _ _ _ _ _ _ _ _ => 0, ⟨rfl, rfl, rfl, rfl, rfl, rfl⟩, ?_⟩
  rintro c1 c2 c3 c4 c5 c6 c7 c8 u ⟨e1, e2, e3, e4, e6, e7⟩
  subst e1 e2 e3 e4 e6 e7
  exact ⟨fun _ x1 hx1 => hfin x1 (by rw [hx1 (by omega)]; omega), fun y => absurd h6 y⟩
set_option maxHeartbeats 4000000 in
/-- lookAtBounds: A stands from a1 to a2 -/
theorem zs_135 (hP : P = 3 ∨ P = 39) (h6 : ∀ c, 0 ≤ ar c ∧ ar c ≤ 7) (h24 : ∀ c, 24 ≤ c → ar c = 0) (hL : LKz ar K kd cf F H hd n TN P s) (hF6 : F ≤ 60) (hH : H ≤ 4000) (ht : (s.1 75 3).toInt = t) (ht2 : 18 ≤ t ∧ t + 180 ≤ 18738) (hf : (s.1 P 14).toInt = 0)
    (hA : isR ar k A) (hAl : A.length ≤ 4000) (hsb : ∀ j, j < A.length → (subT ar A j).length ≤ 60) (hAc : ∀ c ∈ A, 0 ≤ c ∧ c < 36) (hAw : WDz P s a1.toInt A) (h1 : 18738 ≤ a1.toInt ∧ a1.toInt + (A.length : Int) + 61 ≤ 82938) (h2 : a2.toInt = a1.toInt + (A.length : Int)) (hB : BFz ar P s Bf A) (hSp : SPz ar P s bn A) (hLp : KI (s.2 (P + 6)) = L) (htk : ∀ j : Nat, j < A.length → tok j = L (KI (s.2 (P + 20)) (a1.toInt + (j : Int) - 18738)) ∧ 0 ≤ tok j ∧ tok j ≤ 5000) :
    Zt (d + 12) (wd P 135) 135 [.ref 83, .int a1, .int a2] s (fun v s' => v = none ∧ RFz P t s s' ∧ (∀ b q, ¬ (b = P ∧ q = 14) → s'.1 b q = s.1 b q) ∧ (s'.1 P 14).toInt = ffs (bdD ar (bdGs (mvS ar kd cf F hd P s) Bf bn tok) A A.length)) := by
  have hP75 : ¬ P = 75 ∧ ¬ P + 24 = P := by rcases hP with rfl | rfl <;> decide
  obtain ⟨G, hG⟩ : ∃ G, bdGs (mvS ar kd cf F hd P s) Bf bn tok = G := ⟨_, rfl⟩
  rw [hG]
  refine zc_135 (d := d + 3) hP ?_
  unfold v_135_0
  refine ⟨fun c1 c2 c3 u => c1 = a1 ∧ c2 = a2 ∧ RFz P t s u ∧ (∀ b q, ¬ (b = P ∧ q = 14) → u.1 b q = s.1 b q) ∧ ∃ m : Nat, m ≤ A.length ∧ c3.toInt = a1.toInt + (m : Int) ∧ (u.1 P 14).toInt = ffs (bdD ar G A m), fun _ _ c3 _ => (a2.toInt - c3.toInt).toNat, ⟨rfl, rfl, ⟨fun _ _ _ _ _ => rfl, fun _ _ => rfl⟩, fun _ _ _ => rfl, 0, Nat.zero_le _, by omega, hf⟩, ?_⟩
  rintro c1 c2 c3 u ⟨e1, e2, f1, f2, m, g1, g2, g3⟩
  subst e1 e2
  have step : ∀ R2 : Int32 → Int32 → Int32 → zS → Prop, (∀ (x1 : Int32) (w : zS), m < A.length → x1.toInt = c3.toInt + 1 → RFz P t s w → (∀ b q, ¬ (b = P ∧ q = 14) → w.1 b q = s.1 b q) → (w.1 P 14).toInt = ffs (bdD ar G A (m + 1)) → R2 c1 c2 x1 w) → v_135_2 (fun j => Zt (d + 3 + 8) (wd P j) j) P R2 c1 c2 c3 u (fun v s' => v = none ∧ RFz P t s s' ∧ (∀ b q, ¬ (b = P ∧ q = 14) → s'.1 b q = s.1 b q) ∧ (s'.1 P 14).toInt = ffs (bdD ar G A A.length)) := by
    intro R2 hN
    unfold v_135_2
    refine ⟨fun y => ⟨rfl, f1, f2, ?_⟩, fun y => ?_⟩
    · rw [g3, show m = A.length by omega]
    have hm : m < A.length := by omega
    refine ⟨fun b1 b2 b3 b4 w => b1 = c1 ∧ b2 = c2 ∧ b3 = c3 ∧ RFz P t s w ∧ (∀ b q, ¬ (b = P ∧ q = 14) → w.1 b q = s.1 b q) ∧ ∃ j : Nat, j ≤ m + 1 ∧ b4.toInt = c1.toInt + (j : Int) - 1 ∧ ffs (bdD ar G A (m + 1)) = if (w.1 P 14).toInt = 0 then ffs (bdO ar G A (m + 1) j) else (w.1 P 14).toInt, fun _ _ _ b4 _ => (b4.toInt - c1.toInt + 1).toNat, ⟨rfl, rfl, rfl, f1, f2, m + 1, Nat.le_refl _, by omega, ?_⟩, ?_⟩
    · show ffs (bdD ar G A m ++ bdO ar G A (m + 1) (m + 1)) = _
      rw [ffs_app, g3]
    rintro b1 b2 b3 b4 w ⟨e1, e2, e3, i1, i2, j, i3, i4, i5⟩
    subst e1 e2 e3
    have out : (¬ (w.1 P 14).toInt = 0 ∨ j = 0) → v_135_120 (fun j => Zt (d + 3 + 8) (wd P j) j) P R2 b1 b2 b3 b4 w (fun v s' => v = none ∧ RFz P t s s' ∧ (∀ b q, ¬ (b = P ∧ q = 14) → s'.1 b q = s.1 b q) ∧ (s'.1 P 14).toInt = ffs (bdD ar G A A.length)) := by
      intro h x1 hx1
      have ex1 := hx1 (by omega)
      refine hN x1 w hm (by omega) i1 i2 ?_
      rw [i5]
      by_cases z : (w.1 P 14).toInt = 0
      · rcases h with h | h
        · exact absurd z h
        · rw [if_pos z, h, z]
          rfl
      · rw [if_neg z]
    have inn : ∀ R7 : Int32 → Int32 → Int32 → Int32 → zS → Prop, (∀ (x1 : Int32) (w' : zS) (j' : Nat), j = j' + 1 → x1.toInt = b4.toInt - 1 → RFz P t s w' → (∀ b q, ¬ (b = P ∧ q = 14) → w'.1 b q = s.1 b q) → (ffs (bdD ar G A (m + 1)) = if (w'.1 P 14).toInt = 0 then ffs (bdO ar G A (m + 1) j') else (w'.1 P 14).toInt) → R7 b1 b2 b3 x1 w') → v_135_7 (fun j => Zt (d + 3 + 8) (wd P j) j) P R2 R7 b1 b2 b3 b4 w (fun v s' => v = none ∧ RFz P t s s' ∧ (∀ b q, ¬ (b = P ∧ q = 14) → s'.1 b q = s.1 b q) ∧ (s'.1 P 14).toInt = ffs (bdD ar G A A.length)) := by
      intro R7 hI
      unfold v_135_7
      refine ⟨fun y1 => out (Or.inr (by omega)), fun y1 => ⟨fun y2 => out (Or.inl y2), fun y2 => ?_⟩⟩
      cases j with
      | zero => exact absurd y1 (by omega)
      | succ j =>
        obtain ⟨c, hc⟩ : ∃ c, A[j]? = some c := ⟨_, List.getElem?_eq_getElem (by omega)⟩
        obtain ⟨s1, s2, D', s3⟩ := subT_ok (fun c => (h6 c).1) hA hc
        have cc := hAc c (List.mem_of_getElem? hc)
        have hlen := hsb j (by omega)
        have hb4 : b4.toInt = b1.toInt + (j : Int) := by omega
        have wA : WDz P w b1.toInt A := RFz_wd i1 (by omega) (Or.inr h1.1) hAw
        have wS : WDz P w b4.toInt (subT ar A j) := fun q c' hq => by
          have hq' : (A.drop j)[q]? = some c' := by
            rw [s2, List.getElem?_append_left (List.getElem?_eq_some_iff.mp hq).1]
            exact hq
          rw [List.getElem?_drop] at hq'
          have := wA (j + q) c' hq'
          rw [show b1.toInt + ((j + q : Nat) : Int) = b4.toInt + (q : Int) by omega] at this
          exact this
        have vc : (zg w (P + 18) b4).toInt = c := by
          rw [zg_K, hb4]
          exact wA j c hc
        have Lw : LKz ar K kd cf F H hd n TN P w := LKz_rf hP ht2.1 i1 (i2 _ _ (fun q => hP75.2 q.1)) hL
        have ea : (zg w (P + 22) (zg w (P + 18) b4)).toInt = ar c := by rw [zg_K, Lw.1, vc]
        have hsub : (subT ar A j).length ≤ A.length - j := by
          have := congrArg List.length s2
          rw [List.length_append, List.length_drop] at this
          omega
        have u3 : w.1 75 3 = s.1 75 3 := i2 _ _ (fun q => hP75.1 q.1.symm)
        have hdS : (subT ar A j).headD 0 = c := by
          rw [s3]
          rfl
        rw [if_pos y2] at i5
        have i6 : bdO ar G A (m + 1) (j + 1) = (if 0 < ar c ∧ j + (subT ar A j).length = m + 1 then G c (argT ar (subT ar A j)) j else []) ++ bdO ar G A (m + 1) j := by
          show (if 0 < ar ((subT ar A j).headD 0) ∧ j + (subT ar A j).length = m + 1 then G ((subT ar A j).headD 0) (argT ar (subT ar A j)) j else []) ++ bdO ar G A (m + 1) j = _
          rw [hdS]
        rw [i6] at i5
        have no : ¬ (0 < ar c ∧ j + (subT ar A j).length = m + 1) → v_135_36 (fun j => Zt (d + 3 + 8) (wd P j) j) P R2 R7 b1 b2 b3 b4 (zg w (P + 18) b4) w (fun v s' => v = none ∧ RFz P t s s' ∧ (∀ b q, ¬ (b = P ∧ q = 14) → s'.1 b q = s.1 b q) ∧ (s'.1 P 14).toInt = ffs (bdD ar G A A.length)) := by
          intro hno x1 hx1
          refine lb_44n (by decide) (by omega) (fun x2 hx2 => hI x2 w j rfl hx2 i1 i2 ?_)
          rw [i5, if_neg hno, List.nil_append, if_pos y2]
        rw [ea]
        refine ⟨fun y3 => no (fun q => by omega), fun y3 => ?_⟩
        refine Zt.imp (Zt.mo (d := 9) (by omega) (zs_83 (d := 0) (A := subT ar A j) (ar := ar) hP Lw.1 h6 s1 (by omega) (by omega) wS)) ?_
        rintro v1 s4 ⟨hs4, x3, rfl, hx3⟩
        subst hs4
        refine ⟨x3, rfl, fun x4 hx4 => ?_⟩
        have ex4 := hx4 (by omega)
        refine ⟨fun y4 => no (fun q => by omega), fun y4 x5 hx5 => ?_⟩
        have ex5 := hx5 (by omega)
        obtain ⟨q1, q2, q3⟩ := hB c (List.mem_of_getElem? hc) cc.1 (by omega)
        rw [s3] at s1 s2 hlen wS hsub hx3
        obtain ⟨r1, r2, r3⟩ := argT_ok h6 s1
        have cD : ∀ c' ∈ D', c' ∈ A := fun c' hc' => by
          have : c' ∈ A.drop j := by
            rw [s2]
            exact List.mem_append_left _ (List.mem_cons_of_mem _ hc')
          exact List.mem_of_mem_drop this
        have lS : (c :: D').length = D'.length + 1 := rfl
        obtain ⟨⟨r24, -, -⟩, -, -, r20, r6⟩ := RFz_r hP i1
        refine lb_44 (d := d) (p := j) (t := t) (cd := c) (D' := D') (X := argT ar (c :: D')) (b := tyc s P c 2) (L := L) (Bf := Bf) (bn := bn) (tok := tok) hP h6 h24 Lw hF6 hH (by rw [u3]; exact ht) ht2 y2 s1 hlen wS (by omega) (fun c' hc' => hAc c' (cD c' hc')) vc (by omega) rfl (by decide) (by omega) (by unfold tyc; rw [r24]) q1 (SSz_rf hP i1 q2) (by omega) (fun ca hca => SPz_rf hP i1 (i2 _ _ (fun q => hP75.1 q.1.symm)) (i2 _ _ (fun q => hP75.1 q.1.symm)) hSp ca (cD ca hca)) (by rw [r6]; exact hLp) (fun q hq => ?_) ?_
        · have := htk (j + 1 + q) (by omega)
          rw [r20, show b4.toInt + 1 + (q : Int) - 18738 = b1.toInt + ((j + 1 + q : Nat) : Int) - 18738 by omega]
          exact this
        · intro x6 w' k1 k2 k3 k4
          refine hI x6 w' j rfl k1 (RFz_tr i1 k2) (fun b q hq => by rw [k3 b q hq, i2 b q hq]) ?_
          rw [mvS_r hP i1, hG] at k4
          rw [i5, s3, if_pos ⟨by omega, by omega⟩, ffs_app, ← k4]
    exact inn _ (fun x1 w' j' q0 q1 q2 q3 q4 => ⟨⟨rfl, rfl, rfl, q2, q3, j', by omega, by omega, q4⟩, by dsimp only; omega⟩)
  exact step _ (fun x1 w q0 q1 q2 q3 q4 => ⟨⟨rfl, rfl, q2, q3, m + 1, by omega, by omega, q4⟩, by dsimp only; omega⟩)
end YLB
