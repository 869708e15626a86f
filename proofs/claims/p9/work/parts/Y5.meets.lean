/-! ===== the class: meets ===== -/
/-- the TYPES behind a type's name -/
def argT (ar : Int → Int) : List Int → List (List Int)
  | [] => []
  | c :: l => spl ar (ar c).toNat l
/-- the stand-ins -/
def sTn : List (List Int) := [[36], [37], [38], [39], [40], [41]]
/-- HEADS: how many FORMALS, how many VARS, the TYPES of all and of the result -/
def HDz (ar : Int → Int) (P : Nat) (s : zS) (hd : Nat → Nat × Nat × List (List Int)) (H : Nat) : Prop := ∀ h : Nat, h < H → (sgc s P (h : Int) 3 = ((hd h).1 : Int) ∧ sgc s P (h : Int) 4 = ((hd h).2.1 : Int) ∧ (0 ≤ sgc s P (h : Int) 2 ∧ sgc s P (h : Int) 2 ≤ 4000)) ∧ ((hd h).1 ≤ 6 ∧ (hd h).2.1 ≤ 6) ∧ (hd h).2.2.length = (hd h).1 + (hd h).2.1 + 1 ∧ SSz ar P s (sgc s P (h : Int) 2) (hd h).2.2
/-- a HEAD of theirs and one of mine -/
def alkH (η θ : Nat → List Int) (x y : Nat × Nat × List (List Int)) : Int := if x.1 = y.1 then alkL η θ (decide (¬ x.2.1 = y.2.1)) x.1 x.2.2 y.2.2 else 7
def mtK (so : Int → Int) (hw : Nat → Int) (hd : Nat → Nat × Nat × List (List Int)) (η θ : Nat → List Int) (i : Nat) : Int := if so (hw i) < 0 then 7 else alkH η θ (hd i) (hd (so (hw i)).toNat)
def mtL (so : Int → Int) (hw : Nat → Int) (hd : Nat → Nat × Nat × List (List Int)) (η θ : Nat → List Int) : Nat → Nat → Int
  | _, 0 => 0
  | i, n + 1 => if mtK so hw hd η θ i = 0 then mtL so hw hd η θ (i + 1) n else mtK so hw hd η θ i
/-- words from t on, not the kept ones, and the Rows 78 and 80 are another -/
def MFz (P : Nat) (t : Int) (s s' : zS) : Prop := s'.1 = s.1 ∧ (∀ r, ¬ r = P + 18 → ¬ r = 78 → ¬ r = 80 → s'.2 r = s.2 r) ∧ ∀ j : Nat, ((j : Int) < t ∨ 18738 ≤ (j : Int)) → s'.2 (P + 18) j = s.2 (P + 18) j
section YME
variable {ar K kd : Int → Int} {cf : Nat → Int} {P d e F H m : Nat} {s s' u : zS} {a1 a2 : Int32} {l A' B' O' : List Int} {X Y : List (List Int)} {η θ : Nat → List Int} {t n c x ca cb co : Int} {TN : List Int} {hd : Nat → Nat × Nat × List (List Int)}
theorem argT_ok (h6 : ∀ c, 0 ≤ ar c ∧ ar c ≤ 7) (h : isR ar 1 (c :: l)) : (argT ar (c :: l)).flatten = l ∧ (∀ x ∈ argT ar (c :: l), isR ar 1 x) ∧ ((argT ar (c :: l)).length : Int) = ar c := by
  obtain ⟨h1, h2, h3⟩ := h
  have h7 := h6 c
  obtain ⟨g1, g2⟩ := spl_ok (a := ar) (fun c => (h6 c).1) (ar c).toNat l (by rw [show (((ar c).toNat : Nat) : Int) = 1 + ar c - 1 by omega]; exact h3)
  refine ⟨g1, g2, ?_⟩
  show ((spl ar (ar c).toNat l).length : Int) = ar c
  rw [spl_len]
  omega
theorem one_R (h24 : ∀ c, 24 ≤ c → ar c = 0) (hc : 24 ≤ c) : isR ar 1 [c] := by
  refine ⟨by decide, by rw [h24 c hc]; decide, ?_⟩
  show (1 : Int) + ar c - 1 = 0
  rw [h24 c hc]
  decide
theorem sTn_R (h24 : ∀ c, 24 ≤ c → ar c = 0) : ∀ x ∈ sTn, isR ar 1 x := by
  intro x hx
  simp only [sTn, List.mem_cons, List.not_mem_nil, or_false] at hx
  rcases hx with rfl | rfl | rfl | rfl | rfl | rfl <;> exact one_R h24 (by decide)
theorem sTn_W (hS : SGz P s) : WDz P s (12 : Int) sTn.flatten := by
  intro j c hj
  have hl : sTn.flatten.length = 6 := rfl
  have h0 := (List.getElem?_eq_some_iff.mp hj).1
  have hs := hS (12 + j) (by omega)
  rw [show ((12 + j : Nat) : Int) = 12 + (j : Int) by omega] at hs
  rw [hs]
  have hj6 : j = 0 ∨ j = 1 ∨ j = 2 ∨ j = 3 ∨ j = 4 ∨ j = 5 := by omega
  rcases hj6 with rfl | rfl | rfl | rfl | rfl | rfl
  · exact Option.some.inj (show some (36 : Int) = some c from hj)
  · exact Option.some.inj (show some (37 : Int) = some c from hj)
  · exact Option.some.inj (show some (38 : Int) = some c from hj)
  · exact Option.some.inj (show some (39 : Int) = some c from hj)
  · exact Option.some.inj (show some (40 : Int) = some c from hj)
  · exact Option.some.inj (show some (41 : Int) = some c from hj)
theorem getD_R {p : Nat} (hX : ∀ x ∈ X, isR ar 1 x) (h : p < X.length) : isR ar 1 (X.getD p []) := by
  rw [List.getD_eq_getElem?_getD, List.getElem?_eq_getElem h]
  exact hX _ (List.getElem_mem h)
theorem eta_R (h24 : ∀ c, 24 ≤ c → ar c = 0) (hX : ∀ x ∈ X, isR ar 1 x) (hY : ∀ x ∈ Y, isR ar 1 x) (p : Nat) : isR ar 1 (eta X Y p) := by
  unfold eta
  by_cases h1 : p < 6
  · rw [if_pos h1]
    by_cases h2 : p < X.length
    · rw [if_pos h2]
      exact getD_R hX h2
    · rw [if_neg h2]
      exact one_R h24 (by omega)
  · rw [if_neg h1]
    by_cases h2 : p - 6 < Y.length
    · rw [if_pos h2]
      exact getD_R hY h2
    · rw [if_neg h2]
      exact one_R h24 (by omega)
theorem ENz_r (h : s'.2 e = s.2 e) (h2 : s'.2 (P + 18) = s.2 (P + 18)) (g : ENz P s e t η m) : ENz P s' e t η m := fun p hp => by
  obtain ⟨x, g1, g2, g3, g4⟩ := g p hp
  exact ⟨x, by rw [h]; exact g1, by rw [h]; exact g2, g3, WDz_r h2 g4⟩
theorem MFz_wd (h : MFz P t s u) (h0 : 0 ≤ x) (ha : APt t x l.length) (g : WDz P s x l) : WDz P u x l := fun i c hc => by
  have hi := (List.getElem?_eq_some_iff.mp hc).1
  rw [← g i c hc, KI_p (by omega), KI_p (by omega), h.2.2]
  rcases ha with w1 | w1
  · exact Or.inl (by omega)
  · exact Or.inr (by omega)
theorem MFz_pf (h : MFz P t s s') (g1 : u.1 = s'.1) (g : PFz P t s' u) : MFz P t s u :=
  ⟨by rw [g1, h.1], fun r h1 h2 h3 => by rw [g.1 r h1, h.2.1 r h1 h2 h3], fun j hj => by rw [g.2.1 j hj, h.2.2 j hj]⟩
theorem HDz_mf (hP : P = 3 ∨ P = 39) (h : MFz P t s u) (g : HDz ar P s hd H) : HDz ar P u hd H := fun q hq => by
  have e28 : u.2 (P + 28) = s.2 (P + 28) := h.2.1 _ (by omega) (by omega) (by omega)
  have e30 : u.2 (P + 30) = s.2 (P + 30) := h.2.1 _ (by omega) (by omega) (by omega)
  have es : ∀ i c, sgc u P i c = sgc s P i c := fun i c => by
    unfold sgc
    rw [e28]
  have el : ∀ i c, slc u P i c = slc s P i c := fun i c => by
    unfold slc
    rw [e30]
  obtain ⟨g1, g2, g3, g4⟩ := g q hq
  rw [es, es, es]
  refine ⟨g1, g2, g3, fun j A hA => ?_⟩
  obtain ⟨k1, k2, k3⟩ := g4 j A hA
  rw [el]
  exact ⟨k1, MFz_wd h (by omega) (Or.inr k1.1) k2, k3⟩
theorem sgO_b (hF1 : ∀ f : Nat, f < F → 0 ≤ fnc s P (f : Int) 5 ∧ fnc s P (f : Int) 5 < (H : Int)) (hH2 : ∀ c, kd c = 2 → 0 ≤ tyc s P c 3 ∧ 0 ≤ tyc s P c 4 ∧ tyc s P c 4 ≤ 100 ∧ tyc s P c 3 + tyc s P c 4 ≤ (H : Int)) : sgO cf F kd P s c x < 0 ∨ sgO cf F kd P s c x < (H : Int) := by
  unfold sgO
  by_cases k1 : kd c = 1
  · rw [if_pos k1]
    rcases lFw_b (cf := cf) (wf := fun f => fnc s P (f : Int) 6) (c := c) (x := x) F with q | ⟨g, q1, q2, -⟩
    · rw [q, if_neg (by decide)]
      exact Or.inl (by decide)
    · rw [q2, if_pos (by omega)]
      exact Or.inr (hF1 g q1).2
  · rw [if_neg k1]
    by_cases k2 : kd c = 2
    · rw [if_pos k2]
      have := hH2 c k2
      rcases fsM_b (wf := fun h => sgc s P (h : Int) 1) (x := x) (tyc s P c 4).toNat (tyc s P c 3).toNat with q | ⟨g, q1, q2, q3, -⟩
      · rw [q]
        exact Or.inl (by decide)
      · rw [q3]
        exact Or.inr (by omega)
    · rw [if_neg k2]
      exact Or.inl (by decide)
theorem sgO_r (h1 : u.2 (P + 24) = s.2 (P + 24)) (h2 : u.2 (P + 26) = s.2 (P + 26)) (h3 : u.2 (P + 28) = s.2 (P + 28)) : sgO cf F kd P u c x = sgO cf F kd P s c x := by
  unfold sgO fnc sgc tyc
  rw [h1, h2, h3]
theorem FNi_r (h1 : u.2 (P + 24) = s.2 (P + 24)) (h2 : u.2 (P + 26) = s.2 (P + 26)) (g : FNi P s cf n F) : FNi P u cf n F := by
  unfold FNi fnc tyc at g ⊢
  rw [h1, h2]
  exact g
theorem KDz_r (h1 : u.2 (P + 24) = s.2 (P + 24)) (g : KDz P s kd TN) : KDz P u kd TN := by
  unfold KDz tyc at g ⊢
  rw [h1]
  exact g
theorem TNz_r (h0 : u.1 = s.1) (h1 : u.2 (P + 24) = s.2 (P + 24)) (g : TNz P s K n TN) : TNz P u K n TN := by
  unfold TNz zsz tyc at g ⊢
  rw [h1, h0]
  exact g
end YME
