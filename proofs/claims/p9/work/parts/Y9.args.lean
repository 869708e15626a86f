/-! ===== the class: lookAtBounds, the args of one TYPE ===== -/
/-- what tells the METHODS of a TYPE -/
def ownT (bn : Int → List Int) (A : List Int) : List Int := if A.headD 0 < 24 then A else bn (A.headD 0)
/-- arg i of a TYPE c with args X, held against its BOUND -/
def bdK (mv : List Int → List Int → List Int → Int) (Bf : Int → List (List Int)) (bn : Int → List Int) (c : Int) (X : List (List Int)) (i : Nat) : Int := if 60 < (sbs (eta X []) ((Bf c).getD i [])).length then 9 else mv (X.getD i []) (ownT bn (X.getD i [])) (sbs (eta X []) ((Bf c).getD i []))
/-- the faults of the args of the TYPE at p -/
def bdGs (mv : List Int → List Int → List Int → Int) (Bf : Int → List (List Int)) (bn : Int → List Int) (tok : Nat → Int) (c : Int) (X : List (List Int)) (p : Nat) : List Int := (List.range X.length).map (fun i => if bdK mv Bf bn c X i = 0 then 0 else bdK mv Bf bn c X i + 16 * tok (p + 1 + (X.take i).flatten.length))
/-- mtV by a state's tables -/
def mvS (ar kd : Int → Int) (cf : Nat → Int) (F : Nat) (hd : Nat → Nat × Nat × List (List Int)) (P : Nat) (s : zS) : List Int → List Int → List Int → Int := mtV ar kd (fun c x => sgO cf F kd P s c x) (fun h => sgc s P (h : Int) 1) hd (fun c => (tyc s P c 3).toNat) (fun c => (tyc s P c 4).toNat)
/-- PARAMS that stand in a row have their BOUNDS where the scope tells -/
def SPz (ar : Int → Int) (P : Nat) (s : zS) (bn : Int → List Int) (A : List Int) : Prop := ∀ ca ∈ A, 24 ≤ ca → (ca < 30 → (0 ≤ (s.1 75 4).toInt ∧ (s.1 75 4).toInt ≤ 100) ∧ 0 ≤ tyc s P (s.1 75 4).toInt 2 ∧ tyc s P (s.1 75 4).toInt 2 ≤ 4000) ∧ (30 ≤ ca → (0 ≤ (s.1 75 6).toInt ∧ (s.1 75 6).toInt ≤ 4000) ∧ 0 ≤ sgc s P (s.1 75 6).toInt 2 ∧ sgc s P (s.1 75 6).toInt 2 ≤ 4000) ∧ ∃ (co : Int) (O' : List Int) (x : Int), bn ca = co :: O' ∧ (0 ≤ co ∧ co ≤ 100) ∧ x = (if ca < 30 then slc s P (tyc s P (s.1 75 4).toInt 2 + (ca - 24)) 3 else slc s P (sgc s P (s.1 75 6).toInt 2 + (ca - 30)) 3) ∧ 18738 ≤ x ∧ x ≤ 82938 ∧ WDz P s x (co :: O') ∧ isR ar 1 (co :: O') ∧ (co :: O').length ≤ 60
section YAG
variable {ar K L kd : Int → Int} {cf : Nat → Int} {P d F H p : Nat} {s u : zS} {a1 a2 a3 a4 a5 a7 : Int32} {D' A l : List Int} {X : List (List Int)} {t n b c x : Int} {TN : List Int} {hd : Nat → Nat × Nat × List (List Int)} {Bf : Int → List (List Int)} {bn : Int → List Int} {tok : Nat → Int}
theorem mvS_r (hP : P = 3 ∨ P = 39) (h : RFz P t s u) : mvS ar kd cf F hd P u = mvS ar kd cf F hd P s := by
  obtain ⟨⟨r24, r26, r28⟩, -⟩ := RFz_r hP h
  have e1 : (fun c x => sgO cf F kd P u c x) = fun c x => sgO cf F kd P s c x := funext fun c => funext fun x => sgO_r r24 r26 r28
  unfold mvS
  rw [e1]
  unfold sgc tyc
  rw [r24, r28]
theorem SPz_rf (hP : P = 3 ∨ P = 39) (h : RFz P t s u) (h4 : u.1 75 4 = s.1 75 4) (h6 : u.1 75 6 = s.1 75 6) (g : SPz ar P s bn A) : SPz ar P u bn A := fun ca hca h24 => by
  obtain ⟨⟨r24, r26, r28⟩, -, r30, -⟩ := RFz_r hP h
  have ety : ∀ c k, tyc u P c k = tyc s P c k := fun c k => by
    unfold tyc
    rw [r24]
  have esg : ∀ c k, sgc u P c k = sgc s P c k := fun c k => by
    unfold sgc
    rw [r28]
  have esl : ∀ c k, slc u P c k = slc s P c k := fun c k => by
    unfold slc
    rw [r30]
  obtain ⟨g1, g2, co, O', x, g3, g4, g5, g6, g7, g8, g9⟩ := g ca hca h24
  refine ⟨by rw [h4, ety]; exact g1, by rw [h6, esg]; exact g2, co, O', x, g3, g4, ?_, g6, g7, RFz_wd h (by omega) (Or.inr g6) g8, g9⟩
  rw [g5, h4, h6, ety, esg, esl, esl]
theorem RFz_tr {w : zS} (h : RFz P t s u) (g : RFz P t u w) : RFz P t s w := ⟨fun r h1 h2 h3 h4 => by rw [g.1 r h1 h2 h3 h4, h.1 r h1 h2 h3 h4], fun j hj => by rw [g.2 j hj, h.2 j hj]⟩
theorem bdGs_len {mv : List Int → List Int → List Int → Int} : (bdGs mv Bf bn tok c X p).length = X.length := by
  unfold bdGs
  rw [List.length_map, List.length_range]
theorem bdGs_at {mv : List Int → List Int → List Int → Int} {i : Nat} (h : i < X.length) : (bdGs mv Bf bn tok c X p)[i]? = some (if bdK mv Bf bn c X i = 0 then 0 else bdK mv Bf bn c X i + 16 * tok (p + 1 + (X.take i).flatten.length)) := by
  unfold bdGs
  rw [List.getElem?_map, List.getElem?_range h]
  rfl
theorem mvS_b {A O B : List Int} : mvS ar kd cf F hd P s A O B = 0 ∨ mvS ar kd cf F hd P s A O B = 7 ∨ mvS ar kd cf F hd P s A O B = 9 := by
  unfold mvS mtV
  by_cases h : kd (B.headD 0) = 2
  · rw [if_pos h]
    exact mtL_b _ _
  · rw [if_neg h]
    by_cases h2 : A = B
    · rw [if_pos h2]
      exact Or.inl rfl
    · rw [if_neg h2]
      exact Or.inr (Or.inl rfl)
theorem bdK_b {i : Nat} : bdK (mvS ar kd cf F hd P s) Bf bn c X i = 0 ∨ bdK (mvS ar kd cf F hd P s) Bf bn c X i = 7 ∨ bdK (mvS ar kd cf F hd P s) Bf bn c X i = 9 := by
  unfold bdK
  by_cases h : 60 < (sbs (eta X []) ((Bf c).getD i [])).length
  · rw [if_pos h]
    exact Or.inr (Or.inr rfl)
  · rw [if_neg h]
    exact mvS_b
end YAG
