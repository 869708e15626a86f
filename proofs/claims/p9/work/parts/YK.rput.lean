/-! ===== the reference: what work on TYPES may write; codeOf, found ===== -/
/-- fields 8, 64, 70 to 74; ty from T on; groups of the envs from e on -/
def WFr (T e : Int) (s s' : yS) : Prop := (∀ k, ¬ k = 8 → ¬ k = 64 → ¬ k = 70 → ¬ k = 71 → ¬ k = 72 → ¬ k = 73 → ¬ k = 74 → s'.1 k = s.1 k) ∧ s'.2.2 = s.2.2 ∧ (∀ q j, (q < 264 ∨ 268 < q) → s'.2.1 q j = s.2.1 q j) ∧ (∀ j : Nat, (j : Int) < T → s'.2.1 264 j = s.2.1 264 j) ∧ (∀ q j : Nat, (q = 265 ∨ q = 266) → (j : Int) < 2 * e → s'.2.1 q j = s.2.1 q j) ∧ ∀ q j : Nat, (q = 267 ∨ q = 268) → (j : Int) < 12 * e → s'.2.1 q j = s.2.1 q j
/-- only ty from T on -/
def PKf (T : Int) (s s' : yS) : Prop := s'.2.2 = s.2.2 ∧ (∀ q j, ¬ q = 264 → s'.2.1 q j = s.2.1 q j) ∧ ∀ j : Nat, (j : Int) < T → s'.2.1 264 j = s.2.1 264 j
/-- where an element's code is found -/
def fnd (e : Nat) (c0 n0 c1 n1 x : Int) : Int := if x < 1000 then -1 else if 0 ≤ x - c0 ∧ x - c0 < n0 then 12 * (e : Int) + (x - c0) else if 0 ≤ x - c1 ∧ x - c1 < n1 then 12 * (e : Int) + 6 + (x - c1) else -1
/-- what an env puts for an element -/
def rpt (c0 : Int) (X : List (List Int)) (c1 : Int) (Y : List (List Int)) (x : Int) : List Int := if x / 8 < 1000 then [x] else if 0 ≤ x / 8 - c0 ∧ x / 8 - c0 < (X.length : Int) then X.getD (x / 8 - c0).toNat [] else if 0 ≤ x / 8 - c1 ∧ x / 8 - c1 < (Y.length : Int) then Y.getD (x / 8 - c1).toNat [] else [x]
/-- env e: of c0 the TYPES X, of c1 the TYPES Y, all ahead of T -/
def EVr (s : yS) (e : Nat) (T c0 : Int) (X : List (List Int)) (c1 : Int) (Y : List (List Int)) : Prop := ((s.2.1 265 (2 * e)).toInt = c0 ∧ (s.2.1 266 (2 * e)).toInt = (X.length : Int) ∧ GRe s (2 * e) T X X.length) ∧ (s.2.1 265 (2 * e + 1)).toInt = c1 ∧ (s.2.1 266 (2 * e + 1)).toInt = (Y.length : Int) ∧ GRe s (2 * e + 1) T Y Y.length
section YKF
variable {d e : Nat} {s s' s'' : yS} {a0 a1 a2 a3 : Int32} {T T' c0 c1 n0 n1 x e1 e2 : Int} {X Y : List (List Int)} {E : List Int}
theorem WFr_rf : WFr T e1 s s := ⟨fun _ _ _ _ _ _ _ _ => rfl, rfl, fun _ _ _ => rfl, fun _ _ => rfl, fun _ _ _ _ => rfl, fun _ _ _ _ => rfl⟩
theorem WFr_tr (h : WFr T e1 s s') (g : WFr T' e2 s' s'') (hT : T ≤ T') (he : e1 ≤ e2) : WFr T e1 s s'' := by
  obtain ⟨h1, h2, h3, h4, h5, h6⟩ := h
  obtain ⟨g1, g2, g3, g4, g5, g6⟩ := g
  exact ⟨fun k w1 w2 w3 w4 w5 w6 w7 => (g1 k w1 w2 w3 w4 w5 w6 w7).trans (h1 k w1 w2 w3 w4 w5 w6 w7), g2.trans h2, fun q j w => (g3 q j w).trans (h3 q j w), fun j w => (g4 j (by omega)).trans (h4 j w), fun q j w1 w2 => (g5 q j w1 (by omega)).trans (h5 q j w1 w2), fun q j w1 w2 => (g6 q j w1 (by omega)).trans (h6 q j w1 w2)⟩
theorem WFr_mo (h : WFr T' e2 s s') (hT : T ≤ T') (he : e1 ≤ e2) : WFr T e1 s s' := WFr_tr WFr_rf h hT he
theorem WFr_pk (h : PKf T s s') (g : ∀ k, ¬ k = 64 → ¬ k = 71 → ¬ k = 72 → s'.1 k = s.1 k) : WFr T e1 s s' := ⟨fun k _ w2 _ w4 w5 _ _ => g k w2 w4 w5, h.1, fun q j w => h.2.1 q j (by omega), h.2.2, fun q j w _ => h.2.1 q j (by omega), fun q j w _ => h.2.1 q j (by omega)⟩
theorem WFr_gr {g : Nat} (h : GRf g s s') (hg : 2 * e1 ≤ (g : Int)) : WFr T e1 s s' := ⟨fun k _ _ _ _ _ _ _ => by rw [h.1], h.2.1, fun q j w => h.2.2 q j (fun z => by omega) (fun z => by omega), fun j _ => h.2.2 264 j (fun z => by omega) (fun z => by omega), fun q j w1 w2 => h.2.2 q j (fun z => by omega) (fun z => by omega), fun q j w1 w2 => h.2.2 q j (fun z => by omega) (fun z => by omega)⟩
theorem WFr_sf {k : Nat} {v : Int32} (hk : k = 8 ∨ k = 64 ∨ (70 ≤ k ∧ k ≤ 74)) : WFr T e1 s (sf s k v) := ⟨fun q w1 w2 w3 w4 w5 w6 w7 => by rw [sfr_1, if_neg (by omega)], rfl, fun _ _ _ => rfl, fun _ _ => rfl, fun _ _ _ _ => rfl, fun _ _ _ _ => rfl⟩
theorem WFr_el (h : WFr T e1 s s') (h0 : 0 ≤ x) (hx : x + (E.length : Int) ≤ T) (w0 : RWel s x E) : RWel s' x E := fun i c hc => by
  have hi := (List.getElem?_eq_some_iff.mp hc).1
  rw [← w0 i c hc, KI_p (by omega), KI_p (by omega), h.2.2.2.1 _ (by omega)]
theorem PKf_rf : PKf T s s := ⟨rfl, fun _ _ _ => rfl, fun _ _ => rfl⟩
theorem PKf_el (h : PKf T s s') (h0 : 0 ≤ x) (hx : x + (E.length : Int) ≤ T) (w0 : RWel s x E) : RWel s' x E := fun i c hc => by
  have hi := (List.getElem?_eq_some_iff.mp hc).1
  rw [← w0 i c hc, KI_p (by omega), KI_p (by omega), h.2.2 _ (by omega)]
theorem WFr_ge {g m : Nat} (h : WFr T e1 s s') (hg : (g : Int) < 2 * e1) (hm : m ≤ 6) (w0 : GRe s g T X m) : GRe s' g T X m := fun i Z hi hZ => by
  obtain ⟨x, h1, h2, h3, h4⟩ := w0 i Z hi hZ
  refine ⟨x, ?_, ?_, h3, WFr_el h h3.1 h3.2 h4⟩
  · rw [h.2.2.2.2.2 267 _ (Or.inl rfl) (by omega)]
    exact h1
  · rw [h.2.2.2.2.2 268 _ (Or.inr rfl) (by omega)]
    exact h2
theorem GRe_T {g m : Nat} (hT : T ≤ T') (w0 : GRe s g T X m) : GRe s g T' X m := fun i Z hi hZ => by
  obtain ⟨x, h1, h2, h3, h4⟩ := w0 i Z hi hZ
  exact ⟨x, h1, h2, ⟨h3.1, by omega⟩, h4⟩
theorem EVr_T (hT : T ≤ T') (h : EVr s e T c0 X c1 Y) : EVr s e T' c0 X c1 Y := ⟨⟨h.1.1, h.1.2.1, GRe_T hT h.1.2.2⟩, h.2.1, h.2.2.1, GRe_T hT h.2.2.2⟩
theorem EVr_w (h : WFr T e1 s s') (he : (e : Int) < e1) (hX : X.length ≤ 6) (hY : Y.length ≤ 6) (g : EVr s e T c0 X c1 Y) : EVr s' e T c0 X c1 Y := by
  obtain ⟨⟨g1, g2, g3⟩, g4, g5, g6⟩ := g
  refine ⟨⟨?_, ?_, WFr_ge h (by omega) hX g3⟩, ?_, ?_, WFr_ge h (by omega) hY g6⟩
  · rw [h.2.2.2.2.1 265 _ (Or.inl rfl) (by omega)]
    exact g1
  · rw [h.2.2.2.2.1 266 _ (Or.inr rfl) (by omega)]
    exact g2
  · rw [h.2.2.2.2.1 265 _ (Or.inl rfl) (by omega)]
    exact g4
  · rw [h.2.2.2.2.1 266 _ (Or.inr rfl) (by omega)]
    exact g5
theorem x_185 : Par d 185 [.int a0] s (fun v s' => s' = s ∧ ∃ r : Int32, v = some (.int r) ∧ r.toInt = a0.toInt / 8) := by
  cases d with
  | zero => exact Par_0
  | succ d =>
    refine pb_185 ?_
    unfold ub_185_0
    intro _ x1 hx1
    exact ⟨rfl, x1, rfl, hx1⟩
theorem x_192 (he : a2.toInt = (e : Int)) (h0 : (s.2.1 265 (2 * e)).toInt = c0) (h1 : (s.2.1 266 (2 * e)).toInt = n0) (h2 : (s.2.1 265 (2 * e + 1)).toInt = c1) (h3 : (s.2.1 266 (2 * e + 1)).toInt = n1) : Par d 192 [.ref 213, .int a1, .int a2] s (fun v s' => s' = s ∧ ∃ r : Int32, v = some (.int r) ∧ r.toInt = fnd e c0 n0 c1 n1 a1.toInt) := by
  cases d with
  | zero => exact Par_0
  | succ d =>
    refine pb_192 ?_
    unfold ub_192_0
    refine ⟨fun b1 b2 b3 u => b1 = a1 ∧ b2 = a2 ∧ u = s ∧ ∃ g : Nat, b3.toInt = (g : Int) ∧ g ≤ 2 ∧ (1 ≤ g → ¬ (0 ≤ a1.toInt - c0 ∧ a1.toInt - c0 < n0)) ∧ (2 ≤ g → ¬ (0 ≤ a1.toInt - c1 ∧ a1.toInt - c1 < n1)) ∧ (1 ≤ g → 1000 ≤ a1.toInt), ⟨rfl, rfl, rfl, 0, by decide, by decide, fun q => absurd q (by decide), fun q => absurd q (by decide), fun q => absurd q (by decide)⟩, ?_⟩
    rintro b1 b2 b3 u ⟨e1, e2, e3, g, g1, g2, g3, g4, g5⟩
    subst e1 e2 e3
    unfold ub_192_2
    refine ⟨fun y => ⟨rfl, -1, rfl, ?_⟩, fun y => ⟨fun y1 => ⟨rfl, -1, rfl, ?_⟩, fun y1 _ x1 hx1 _ x2 hx2 kx _ x3 hx3 => ?_⟩⟩
    · have w1 := g3 (by omega)
      have w2 := g4 (by omega)
      have w3 := g5 (by omega)
      unfold fnd
      rw [if_neg (by omega), if_neg w1, if_neg w2]
      decide
    · unfold fnd
      rw [if_pos y1]
      decide
    · have en : x2.toInt.toNat = 2 * e + g := by omega
      rw [en] at hx3 ⊢
      rcases Nat.lt_or_ge g 1 with hg | hg
      · have eg : g = 0 := by omega
        subst eg
        rw [show 2 * e + 0 = 2 * e from rfl, h0] at hx3
        rw [show 2 * e + 0 = 2 * e from rfl, h1]
        refine ⟨fun y2 _ x4 hx4 => ⟨rfl, rfl, rfl, 1, by omega, by omega, fun _ => by omega, fun q => by omega, fun _ => by omega⟩, fun y2 _ => ⟨fun y3 _ x4 hx4 => ⟨rfl, rfl, rfl, 1, by omega, by omega, fun _ => by omega, fun q => by omega, fun _ => by omega⟩, fun y3 _ x4 hx4 _ x5 hx5 => ⟨rfl, x5, rfl, ?_⟩⟩⟩
        unfold fnd
        rw [if_neg y1, if_pos ⟨by omega, by omega⟩]
        omega
      · have eg : g = 1 := by omega
        subst eg
        rw [h2] at hx3
        rw [h3]
        have w1 := g3 (by omega)
        refine ⟨fun y2 _ x4 hx4 => ⟨rfl, rfl, rfl, 2, by omega, by omega, fun _ => w1, fun q => by omega, fun _ => by omega⟩, fun y2 _ => ⟨fun y3 _ x4 hx4 => ⟨rfl, rfl, rfl, 2, by omega, by omega, fun _ => w1, fun q => by omega, fun _ => by omega⟩, fun y3 _ x4 hx4 _ x5 hx5 => ⟨rfl, x5, rfl, ?_⟩⟩⟩
        unfold fnd
        rw [if_neg y1, if_neg w1, if_pos ⟨by omega, by omega⟩]
        omega
end YKF
