/-! ===== class and reference: names, main's TYPE, the latest run's value, OUT ===== -/
def OZo (z z1 : zS) : Prop := z1.2 207 = z.2 207 ∧ z1.1 207 2 = z.1 207 2
/-- what stays of a loaded program, of the latest run's value -/
def PZk (C : Nat) (z z1 : zS) : Prop := ((∀ a, pTb C a = true → z1.2 a = z.2 a ∧ z1.1 a 2 = z.1 a 2) ∧ z1.2 111 = z.2 111) ∧ (∀ j : Nat, ((4218 ≤ j ∧ j < 9618) ∨ (18738 ≤ j ∧ (j : Int) < (z.1 C 10).toInt)) → z1.2 (C + 18) j = z.2 (C + 18) j) ∧ z1.1 C 10 = z.1 C 10 ∧ z1.1 C 13 = z.1 C 13 ∧ z1.1 105 14 = z.1 105 14
/-- a value of the latest run -/
def VEx (ar : Int → Int) (nT k : Int) (nb C : Nat) (z : zS) (s : yS) : Prop := ∃ (vs : Vls) (v : Nat), VLp ar nT C 9218 k z vs ∧ vRn ar nT nb s vs ∧ v < vs.length ∧ (z.1 105 14).toInt = (plv vs v : Int) ∧ (s.1 103).toInt = (v : Int)
def PEx (ar : Int → Int) (nT : Int) (pw : Int → List Int) (A : List Int) (k : Int) (nb C : Nat) (z : zS) (s : yS) : Prop := ((s.1 29).toInt = (nb : Int) ∧ nb < 2) ∧ ((∀ c, 0 ≤ ar c ∧ ar c ≤ 7) ∧ nT ≤ 24) ∧ ((NMz C ar nT pw z ∧ (z.1 (C + 24) 2).toInt = 6 * nT) ∧ TYc ar nT 0 0 C 0 k z (z.1 C 13).toInt A ∧ (z.1 C 10).toInt = k ∧ k ≤ 100000) ∧ (NMr nb nT pw s ∧ MNr ar nb s A) ∧ ((s.1 91).toInt = 0 → VEx ar nT k nb C z s)
def LPe (C : Nat) (z : zS) (s : yS) : Prop := (∃ l, OUz z l ∧ OUr s l) ∧ ((z.1 105 13).toInt = 0 ↔ (s.1 91).toInt = 0) ∧ ((s.1 90).toInt = 0 → ¬ (s.1 91).toInt = 0) ∧ (¬ (s.1 90).toInt = 0 → ∃ (ar : Int → Int) (nT : Int) (pw : Int → List Int) (A : List Int) (k : Int) (nb : Nat), PEx ar nT pw A k nb C z s)
section ZYJ
variable {ar : Int → Int} {nT k T : Int} {pw : Int → List Int} {A : List Int} {nb C : Nat} {z z1 z2 : zS} {s s' : yS} {vs : Vls} {V : List (Nat × Nat)} {x : Int}
theorem pTb_r (hC : C = 3 ∨ C = 39) : ∀ r ∈ [2, 4, 6, 8, 22, 24], pTb C (C + r) = true := by
  rcases hC with rfl | rfl <;> decide
theorem pTb_b {a : Nat} (h : pTb C a = true) : C < a ∧ a ≤ C + 35 ∧ ¬ a = C + 18 ∧ ¬ a = C + 20 := by
  unfold pTb at h
  rw [Bool.and_eq_true, Bool.and_eq_true, Bool.not_eq_true', Bool.or_eq_false_iff] at h
  obtain ⟨⟨h1, h2⟩, h3, h4⟩ := h
  refine ⟨Nat.lt_of_lt_of_le (Nat.lt_succ_self C) (Nat.le_of_ble_eq_true h1), Nat.le_of_ble_eq_true h2, fun e => ?_, fun e => ?_⟩
  · rw [e, Nat.beq_refl] at h3
    cases h3
  · rw [e, Nat.beq_refl] at h4
    cases h4
theorem PZk_rf : PZk C z z := ⟨⟨fun _ _ => ⟨rfl, rfl⟩, rfl⟩, fun _ _ => rfl, rfl, rfl, rfl⟩
theorem NMz_k (hC : C = 3 ∨ C = 39) (h : ∀ a, pTb C a = true → z1.2 a = z.2 a ∧ z1.1 a 2 = z.1 a 2) (g : NMz C ar nT pw z) : NMz C ar nT pw z1 := by
  have r : ∀ r ∈ [2, 4, 6, 8, 22, 24], z1.2 (C + r) = z.2 (C + r) := fun r hr => (h _ (pTb_r hC r hr)).1
  refine ⟨by rw [r 22 (by decide)]; exact g.1, fun c h0 h1 => ?_⟩
  have et : tyc z1 C c 0 = tyc z C c 0 := by
    unfold tyc
    rw [r 24 (by decide)]
  have e : sgZ C z1 (tyc z C c 0) = sgZ C z (tyc z C c 0) := by
    unfold sgZ
    rw [r 8 (by decide), r 6 (by decide), r 2 (by decide)]
  rw [et, r 6 (by decide), r 8 (by decide), e]
  exact g.2 c h0 h1
theorem TYc_k (h : PZk C z z1) (hk : (z.1 C 10).toInt = k) (hT : T ≤ 9218) (hx : 4218 ≤ x) (g : TYc ar nT 0 0 C T k z x A) : TYc ar nT 0 0 C T k z1 x A := by
  refine ⟨g.1, fun i c hc => ?_, g.2.2⟩
  have hi := (List.getElem?_eq_some_iff.mp hc).1
  have g1 := g.1
  rw [← g.2.1 i c hc, KI_p (by omega), KI_p (by omega), h.2.1 _ (by omega)]
theorem VLp_k (hC : C = 3 ∨ C = 39) (h : PZk C z z1) (hk : (z.1 C 10).toInt = k) (g : VLp ar nT C 9218 k z vs) : VLp ar nT C 9218 k z1 vs := by
  obtain ⟨g1, g2, g3, g4, g5⟩ := g
  refine ⟨fun v B ps hv => ?_, g2, fun v B ps hv => ?_, g4, g5⟩
  · obtain ⟨q1, q2, q3⟩ := g1 v B ps hv
    rw [h.1.2]
    exact ⟨TYc_k h hk (Int.le_refl _) q2.2 q1, q2, q3⟩
  · have et : ∀ c, tyc z1 C c 4 = tyc z C c 4 := fun c => by
      unfold tyc
      rw [(h.1.1 _ (pTb_r hC 24 (by decide))).1]
    rw [et]
    exact g3 v B ps hv
theorem NMr_k (hn : nb < 2) (h : RFs nb s s') (h29 : s'.1 29 = s.1 29) (hT : nT ≤ 24) (g : NMr nb nT pw s) : NMr nb nT pw s' := by
  refine ⟨by rw [h29]; exact g.1, fun c c0 c1 => ?_⟩
  obtain ⟨tk, w, q1, q2, q3, q4, q5, q6⟩ := g.2 c c0 c1
  refine ⟨tk, w, ?_, ?_, ?_, q4, q5, q6⟩
  · rw [(h.1 (24 * nb + c.toNat) (by omega) (by omega)).1]
    exact q1
  · rw [h.2.1 tk q5.1 q5.2]
    exact q2
  · rw [h.2.2.2.2 218 (2100 * nb + w) (by omega) (by omega), h.2.2.2.2 219 (2100 * nb + w) (by omega) (by omega)]
    exact q3
theorem MNr_k (h : RFs nb s s') (hl : A.length ≤ 60) (g : MNr ar nb s A) : MNr ar nb s' A := by
  refine ⟨by rw [h.2.2.2.1]; exact g.1, fun i c hc => ?_⟩
  have hi := (List.getElem?_eq_some_iff.mp hc).1
  rw [h.2.2.1 (60 * nb + i) (by omega) (by omega)]
  exact g.2 i c hc
theorem vRn_k (h : RFs nb s s') (hv : RFv nb s s') (hT : nT ≤ 24) (g : vRn ar nT nb s vs) : vRn ar nT nb s' vs := fun v B ps hb => by
  obtain ⟨⟨g1, g1'⟩, ⟨p, p1, p2, pl, p3⟩, g3, g4⟩ := g v B ps hb
  obtain ⟨⟨v1, v2, v3⟩, v4⟩ := hv
  have hc := g1' _ (List.mem_of_getElem? (hd_R g1))
  refine ⟨⟨g1, g1'⟩, ⟨p, by rw [v1]; exact p1, by rw [v2]; exact p2, pl, fun i c hi => ?_⟩, ?_, fun q u hu => by rw [v3]; exact g4 q u hu⟩
  · have hl := (List.getElem?_eq_some_iff.mp hi).1
    rw [v4 (p + i) (by omega)]
    exact p3 i c hi
  · rw [(h.1 (24 * nb + (B.headD 0).toNat) (by omega) (by omega)).2]
    exact g3
theorem OUz_k (h : OZo z z1) {l : List Int} (g : OUz z l) : OUz z1 l := ⟨by rw [h.2]; exact g.1, g.2.1, fun i x hx => by rw [h.1]; exact g.2.2 i x hx⟩
theorem OUr_k (h : s'.1 120 = s.1 120 ∧ s'.2.1 284 = s.2.1 284) {l : List Int} (g : OUr s l) : OUr s' l := ⟨by rw [h.1]; exact g.1, g.2.1, fun i x hx => by rw [h.2]; exact g.2.2 i x hx⟩
/-- all but OUT -/
theorem LPe_o (hC : C = 3 ∨ C = 39) (h13 : z1.1 105 13 = z.1 105 13) (r : RKo0 s s') (g : LPe C z s) (hz : ¬ (s.1 90).toInt = 0 → PZk C z z1) (hO : ∃ l, OUz z1 l ∧ OUr s' l) : LPe C z1 s' := by
  obtain ⟨-, g2, g3, g4⟩ := g
  obtain ⟨⟨r29, r90, r91, r103⟩, rF⟩ := r
  refine ⟨hO, by rw [h13, r91]; exact g2, by rw [r90, r91]; exact g3, fun w => ?_⟩
  rw [r90] at w
  obtain ⟨ar, nT, pw, A, k, nb, ⟨a1, a2⟩, ⟨a3, a4⟩, ⟨⟨a5, a5n⟩, a6, a7, a8⟩, ⟨a9, a10⟩, a11⟩ := g4 w
  have P := hz w
  obtain ⟨F1, F2⟩ := rF nb a2 a1
  have e13 : z1.1 C 13 = z.1 C 13 := P.2.2.2.1
  have hx : 4218 ≤ (z.1 C 13).toInt := by
    have := a6.1
    have hl : 1 ≤ A.length := by
      have := hd_R a6.2.2.1
      have := (List.getElem?_eq_some_iff.mp this).1
      omega
    omega
  refine ⟨ar, nT, pw, A, k, nb, ⟨by rw [r29]; exact a1, a2⟩, ⟨a3, a4⟩, ⟨⟨NMz_k hC P.1.1 a5, by rw [(P.1.1 _ (pTb_r hC 24 (by decide))).2]; exact a5n⟩, by rw [e13]; exact TYc_k P a7 (by decide) hx a6, by rw [P.2.2.1]; exact a7, a8⟩, ⟨NMr_k a2 F1 r29 a4 a9, MNr_k F1 a6.2.2.2.1.1 a10⟩, fun w1 => ?_⟩
  rw [r91] at w1
  obtain ⟨vs, v, b1, b2, b3, b4, b5⟩ := a11 w1
  exact ⟨vs, v, VLp_k hC P a7 b1, vRn_k F1 F2 a4 b2, b3, by rw [P.2.2.2.2]; exact b4, by rw [r103]; exact b5⟩
theorem LPe_k (hC : C = 3 ∨ C = 39) (h13 : z1.1 105 13 = z.1 105 13) (o : OZo z z1) (r : RKe0 s s') (g : LPe C z s) (hz : ¬ (s.1 90).toInt = 0 → PZk C z z1) : LPe C z1 s' := by
  obtain ⟨l, o1, o2⟩ := g.1
  exact LPe_o hC h13 r.1 g hz ⟨l, OUz_k o o1, OUr_k r.2 o2⟩
theorem OZ_v (g : FVz V z z1) (h : ¬ (0, 207) ∈ V) : OZo z z1 := ⟨g.2.2.1 207 (by decide) h, g.2.2.2 207 2 (by decide) h⟩
theorem P111 (g : FVz V z z1) (h : ¬ (0, 111) ∈ V) : z1.2 111 = z.2 111 ∧ z1.1 105 14 = z.1 105 14 := ⟨g.2.2.1 111 (by decide) h, g.2.2.2 105 14 (by decide) h⟩
theorem fvC (hC : C = 3 ∨ C = 39) (g : FVz V z z1) : FVq V C z z1 := by
  rcases hC with rfl | rfl
  · exact g.1
  · exact g.2.1
theorem PZ_w (hC : C = 3 ∨ C = 39) (g : FVz V z z1) (h99 : ¬ (C, 99) ∈ V) (h1 : ¬ (0, 111) ∈ V) (hk : z1.1 C 10 = z.1 C 10) (hw : ∀ j : Nat, ((4218 ≤ j ∧ j < 9618) ∨ (18738 ≤ j ∧ (j : Int) < (z.1 C 10).toInt)) → z1.2 (C + 18) j = z.2 (C + 18) j) : PZk C z z1 := by
  obtain ⟨q1, q2⟩ := (fvC hC g).1 h99
  obtain ⟨p1, p2⟩ := P111 g h1
  exact ⟨⟨q1, p1⟩, hw, hk, q2 13 (by decide), p2⟩
theorem PZ_v (hC : C = 3 ∨ C = 39) (g : FVz V z z1) (h99 : ¬ (C, 99) ∈ V) (h98 : ¬ (C, 98) ∈ V) (h1 : ¬ (0, 111) ∈ V) : PZk C z z1 := by
  obtain ⟨q3, q4, -⟩ := (fvC hC g).2 h99 h98
  refine PZ_w hC g h99 h1 q4 (fun j _ => ?_)
  rw [q3 (C + 18) (by unfold pWd; rw [Nat.beq_refl]; rfl)]
end ZYJ
