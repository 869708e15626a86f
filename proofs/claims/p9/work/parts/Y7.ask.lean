/-! ===== the class: one arg held against its BOUND ===== -/
/-- rows: words from t on, not the kept ones, and the Rows 76, 78, 80 are another -/
def RFz (P : Nat) (t : Int) (s s' : zS) : Prop := (∀ r, ¬ r = P + 18 → ¬ r = 76 → ¬ r = 78 → ¬ r = 80 → s'.2 r = s.2 r) ∧ ∀ j : Nat, ((j : Int) < t ∨ 18738 ≤ (j : Int)) → s'.2 (P + 18) j = s.2 (P + 18) j
/-- the tables that bounds are looked up in -/
def LKz (ar K kd : Int → Int) (cf : Nat → Int) (F H : Nat) (hd : Nat → Nat × Nat × List (List Int)) (n : Int) (TN : List Int) (P : Nat) (s : zS) : Prop := KI (s.2 (P + 22)) = ar ∧ SGz P s ∧ TNz P s K n TN ∧ KDz P s kd TN ∧ FNi P s cf (TN.length : Int) F ∧ HDz ar P s hd H ∧ (∀ f : Nat, f < F → 0 ≤ fnc s P (f : Int) 5 ∧ fnc s P (f : Int) 5 < (H : Int)) ∧ ∀ c, kd c = 2 → 0 ≤ tyc s P c 3 ∧ 0 ≤ tyc s P c 4 ∧ tyc s P c 4 ≤ 100 ∧ tyc s P c 3 + tyc s P c 4 ≤ (H : Int)
/-- meets, as a function: O tells the METHODS of A -/
def mtV (ar kd : Int → Int) (so : Int → Int → Int) (hw : Nat → Int) (hd : Nat → Nat × Nat × List (List Int)) (tm tn : Int → Nat) (A O B : List Int) : Int := if kd (B.headD 0) = 2 then mtL (so (O.headD 0)) hw hd (eta (argT ar B) sTn) (eta (argT ar O) sTn) (tm (B.headD 0)) (tn (B.headD 0)) else if A = B then 0 else 7
section YAS
variable {ar K kd : Int → Int} {cf : Nat → Int} {P d F H : Nat} {s u : zS} {l : List Int} {X Y : List (List Int)} {η θ : Nat → List Int} {t n x : Int} {TN : List Int} {hd : Nat → Nat × Nat × List (List Int)} {so : Int → Int} {hw : Nat → Int}
theorem RFz_wd (h : RFz P t s u) (h0 : 0 ≤ x) (ha : APt t x l.length) (g : WDz P s x l) : WDz P u x l := fun i c hc => by
  have hi := (List.getElem?_eq_some_iff.mp hc).1
  rw [← g i c hc, KI_p (by omega), KI_p (by omega), h.2]
  rcases ha with w1 | w1
  · exact Or.inl (by omega)
  · exact Or.inr (by omega)
theorem RFz_r (hP : P = 3 ∨ P = 39) (g : RFz P t s u) : (u.2 (P + 24) = s.2 (P + 24) ∧ u.2 (P + 26) = s.2 (P + 26) ∧ u.2 (P + 28) = s.2 (P + 28)) ∧ u.2 (P + 22) = s.2 (P + 22) ∧ u.2 (P + 30) = s.2 (P + 30) ∧ u.2 (P + 20) = s.2 (P + 20) ∧ u.2 (P + 6) = s.2 (P + 6) := ⟨⟨g.1 _ (by omega) (by omega) (by omega) (by omega), g.1 _ (by omega) (by omega) (by omega) (by omega), g.1 _ (by omega) (by omega) (by omega) (by omega)⟩, g.1 _ (by omega) (by omega) (by omega) (by omega), g.1 _ (by omega) (by omega) (by omega) (by omega), g.1 _ (by omega) (by omega) (by omega) (by omega), g.1 _ (by omega) (by omega) (by omega) (by omega)⟩
theorem SSz_rf {b : Int} (hP : P = 3 ∨ P = 39) (h : RFz P t s u) (g : SSz ar P s b X) : SSz ar P u b X := fun j A hA => by
  have e1 : slc u P (b + (j : Int)) 3 = slc s P (b + (j : Int)) 3 := by
    unfold slc
    rw [(RFz_r hP h).2.2.1]
  obtain ⟨g1, g2, g3⟩ := g j A hA
  rw [e1]
  exact ⟨g1, RFz_wd h (by omega) (Or.inr g1.1) g2, g3⟩
theorem HDz_rf (hP : P = 3 ∨ P = 39) (h : RFz P t s u) (g : HDz ar P s hd H) : HDz ar P u hd H := fun q hq => by
  have es : ∀ i c, sgc u P i c = sgc s P i c := fun i c => by
    unfold sgc
    rw [(RFz_r hP h).1.2.2]
  obtain ⟨g1, g2, g3, g4⟩ := g q hq
  rw [es, es, es]
  exact ⟨g1, g2, g3, SSz_rf hP h g4⟩
theorem LKz_rf (hP : P = 3 ∨ P = 39) (ht : 18 ≤ t) (h : RFz P t s u) (h1 : u.1 (P + 24) 2 = s.1 (P + 24) 2) (g : LKz ar K kd cf F H hd n TN P s) : LKz ar K kd cf F H hd n TN P u := by
  obtain ⟨⟨r24, r26, r28⟩, r22, r30, -, -⟩ := RFz_r hP h
  obtain ⟨g1, g2, g3, g4, g5, g6, g7, g8⟩ := g
  refine ⟨by rw [r22]; exact g1, fun i hi => ?_, ?_, KDz_r r24 g4, FNi_r r24 r26 g5, HDz_rf hP h g6, ?_, ?_⟩
  · rw [← g2 i hi, KI_n, KI_n, h.2 i (Or.inl (by omega))]
  · unfold TNz zsz tyc at g3 ⊢
    rw [r24, h1]
    exact g3
  · unfold fnc at g7 ⊢
    rw [r26]
    exact g7
  · unfold tyc at g8 ⊢
    rw [r24]
    exact g8
theorem alkL_b (b : Bool) : ∀ (X Y : List (List Int)) (k : Nat), alkL η θ b k X Y = 0 ∨ alkL η θ b k X Y = 7 ∨ alkL η θ b k X Y = 9
  | [], Y, k => Or.inl (by unfold alkL; rfl)
  | x :: X, [], k => Or.inl (by unfold alkL; rfl)
  | x :: X, y :: Y, k => by
    show (if k = 0 ∧ b = true then 7 else if 60 < (sbs η x).length ∨ 60 < (sbs θ y).length then 9 else if sbs η x = sbs θ y then alkL η θ b (k - 1) X Y else 7) = (0 : Int) ∨ (if k = 0 ∧ b = true then 7 else if 60 < (sbs η x).length ∨ 60 < (sbs θ y).length then 9 else if sbs η x = sbs θ y then alkL η θ b (k - 1) X Y else 7) = (7 : Int) ∨ (if k = 0 ∧ b = true then 7 else if 60 < (sbs η x).length ∨ 60 < (sbs θ y).length then 9 else if sbs η x = sbs θ y then alkL η θ b (k - 1) X Y else 7) = (9 : Int)
    by_cases h1 : k = 0 ∧ b = true
    · rw [if_pos h1]
      exact Or.inr (Or.inl rfl)
    · rw [if_neg h1]
      by_cases h2 : 60 < (sbs η x).length ∨ 60 < (sbs θ y).length
      · rw [if_pos h2]
        exact Or.inr (Or.inr rfl)
      · rw [if_neg h2]
        by_cases h3 : sbs η x = sbs θ y
        · rw [if_pos h3]
          exact alkL_b b X Y (k - 1)
        · rw [if_neg h3]
          exact Or.inr (Or.inl rfl)
theorem mtK_b (i : Nat) : mtK so hw hd η θ i = 0 ∨ mtK so hw hd η θ i = 7 ∨ mtK so hw hd η θ i = 9 := by
  unfold mtK alkH
  by_cases h1 : so (hw i) < 0
  · rw [if_pos h1]
    exact Or.inr (Or.inl rfl)
  · rw [if_neg h1]
    by_cases h2 : (hd i).1 = (hd (so (hw i)).toNat).1
    · rw [if_pos h2]
      exact alkL_b _ _ _ _
    · rw [if_neg h2]
      exact Or.inr (Or.inl rfl)
theorem mtL_b : ∀ k i : Nat, mtL so hw hd η θ i k = 0 ∨ mtL so hw hd η θ i k = 7 ∨ mtL so hw hd η θ i k = 9
  | 0, i => Or.inl rfl
  | k + 1, i => by
    show (if mtK so hw hd η θ i = 0 then mtL so hw hd η θ (i + 1) k else mtK so hw hd η θ i) = 0 ∨ (if mtK so hw hd η θ i = 0 then mtL so hw hd η θ (i + 1) k else mtK so hw hd η θ i) = 7 ∨ (if mtK so hw hd η θ i = 0 then mtL so hw hd η θ (i + 1) k else mtK so hw hd η θ i) = 9
    by_cases h : mtK so hw hd η θ i = 0
    · rw [if_pos h]
      exact mtL_b k (i + 1)
    · rw [if_neg h]
      exact mtK_b i
theorem sbs_cd (hη : ∀ p, p < 12 → ∀ c ∈ η p, 0 ≤ c ∧ c < 36) {A : List Int} (hA : ∀ c ∈ A, 0 ≤ c ∧ c < 36) : ∀ c ∈ sbs η A, 0 ≤ c ∧ c < 36 := fun c hc => by
  unfold sbs at hc
  obtain ⟨c', h1, h2⟩ := List.mem_flatMap.mp hc
  have h3 := hA c' h1
  by_cases h4 : c' < 24
  · rw [if_pos h4] at h2
    rw [List.mem_singleton.mp h2]
    exact h3
  · rw [if_neg h4] at h2
    exact hη _ (by omega) c h2
theorem eta_cd (hX : ∀ x ∈ X, ∀ c ∈ x, 0 ≤ c ∧ c < 36) {p : Nat} (hp : p < 12) : ∀ c ∈ eta X [] p, 0 ≤ c ∧ c < 36 := fun c hc => by
  unfold eta at hc
  have hn : ¬ p - 6 < ([] : List (List Int)).length := Nat.not_lt_zero _
  by_cases h1 : p < 6
  · rw [if_pos h1] at hc
    by_cases h2 : p < X.length
    · rw [if_pos h2, List.getD_eq_getElem?_getD, List.getElem?_eq_getElem h2] at hc
      exact hX _ (List.getElem_mem h2) c hc
    · rw [if_neg h2] at hc
      rw [List.mem_singleton.mp hc]
      omega
  · rw [if_neg h1, if_neg hn] at hc
    rw [List.mem_singleton.mp hc]
    omega
end YAS
