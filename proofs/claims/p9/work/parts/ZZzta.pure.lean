/-! ===== a run: pure ===== -/
/-- what the stack holds: a TYPE, or a value by its number -/
abbrev Itm : Type := List Int ⊕ Nat
/-- values: TYPE, parts -/
abbrev Vls : Type := List (List Int × List Nat)
/-- what is put for PARAMS: of the type, of the METHOD -/
abbrev Env : Type := List (List Int) × List (List Int)
/-- a call's caller: code, where its VARS begin, what is put -/
abbrev Frm : Type := List Ins × Nat × Env
/-- how it ends (5: it runs), code, stack, where VARS begin, what is put, callers, values, STEPS left, calls, where it failed -/
abbrev PMs : Type := Int × List Ins × List Itm × Nat × Env × List Frm × Vls × Int × Int × Int
/-- a TYPE is put: how that ends, the TYPE, STEPS left -/
def ptT (E : Env) (A : List Int) (l : Int) : Int × List Int × Int := if ∀ c ∈ A, c < 24 then (5, A, l) else if 60 < (sbs (eta E.1 E.2) A).length then (4, A, l) else if ((sbs (eta E.1 E.2) A).length : Int) ≤ l then (5, sbs (eta E.1 E.2) A, l - ((sbs (eta E.1 E.2) A).length : Int)) else (2, sbs (eta E.1 E.2) A, 0)
/-- TYPES, one behind the other -/
def ptL (E : Env) : List (List Int) → Int → Int × List (List Int) × Int
  | [], l => (5, [], l)
  | A :: r, l => if (ptT E A l).1 = 5 then ((ptL E r (ptT E A l).2.2).1, (ptT E A l).2.1 :: (ptL E r (ptT E A l).2.2).2.1, (ptL E r (ptT E A l).2.2).2.2) else ((ptT E A l).1, [], (ptT E A l).2.2)
/-- one step; fc: a struct's METHOD: how many FORMALS, its code; mv: whether one TYPE meets another -/
def PSt (ar : Int → Int) (fc : Int → Int → Option (Nat × List Ins)) (mv : List Int → List Int → Int) : PMs → PMs → Prop
  | (o, I :: C, st, b, E, fr, vs, l, cl, fa), Y => o = 5 ∧ st.length ≤ 3900 ∧
    ((I.1 = 1 ∧ 0 ≤ I.2.2.1 ∧ ¬ fr = [] ∧ ∃ v : Nat, st[b + I.2.2.1.toNat]? = some (.inr v) ∧ Y = (5, C, st ++ [.inr v], b, E, fr, vs, l, cl, fa)) ∨
    (I.1 = 2 ∧ Y = ((ptT E I.2.1 l).1, C, st ++ [.inl (ptT E I.2.1 l).2.1], b, E, fr, vs, (ptT E I.2.1 l).2.2, cl, fa)) ∨
    (I.1 = 3 ∧ ((l < 1 ∧ Y = (2, C, st, b, E, fr, vs, 0, cl, fa)) ∨ (1 ≤ l ∧ ∃ (s0 : List Itm) (A : List Int) (ps : List Nat), st = s0 ++ .inl A :: ps.map .inr ∧ (ps.length : Int) = I.2.2.1 ∧ Y = (5, C, s0 ++ [.inr vs.length], b, E, fr, vs ++ [(A, ps)], l - 1, cl, fa)))) ∨
    (I.1 = 4 ∧ 0 ≤ I.2.2.1 ∧ ((l < 1 ∧ Y = (2, C, st, b, E, fr, vs, 0, cl, fa)) ∨ (1 ≤ l ∧ ∃ (s0 : List Itm) (v u : Nat) (A : List Int) (ps : List Nat), st = s0 ++ [.inr v] ∧ vs[v]? = some (A, ps) ∧ ps[I.2.2.1.toNat]? = some u ∧ Y = (5, C, s0 ++ [.inr u], b, E, fr, vs, l - 1, cl, fa)))) ∨
    (I.1 = 5 ∧ ∃ (s0 : List Itm) (v : Nat) (as : List Nat) (A : List Int) (ps : List Nat), st = s0 ++ .inr v :: as.map .inr ∧ (as.length : Int) = I.2.2.1 ∧ vs[v]? = some (A, ps) ∧
      ((¬ (ptL E I.2.2.2.1 l).1 = 5 ∧ Y = ((ptL E I.2.2.2.1 l).1, C, st, b, E, fr, vs, (ptL E I.2.2.2.1 l).2.2, cl, fa)) ∨
      ((ptL E I.2.2.2.1 l).1 = 5 ∧ (ptL E I.2.2.2.1 l).2.2 < 1 ∧ Y = (2, C, st, b, E, fr, vs, 0, cl, fa)) ∨
      ((ptL E I.2.2.2.1 l).1 = 5 ∧ 1 ≤ (ptL E I.2.2.2.1 l).2.2 ∧ 40 ≤ fr.length ∧ Y = (3, C, st, b, E, fr, vs, (ptL E I.2.2.2.1 l).2.2 - 1, cl, fa)) ∨
      ((ptL E I.2.2.2.1 l).1 = 5 ∧ 1 ≤ (ptL E I.2.2.2.1 l).2.2 ∧ fr.length < 40 ∧ ∃ Cf : List Ins, fc (A.headD 0) I.2.2.2.2 = some ((ptL E I.2.2.2.1 l).2.1.length, Cf) ∧ Y = (5, Cf, st, s0.length, (argT ar A, (ptL E I.2.2.2.1 l).2.1), (C, b, E) :: fr, vs, (ptL E I.2.2.2.1 l).2.2 - 1, cl + 1, fa)))) ∨
    (I.1 = 6 ∧ ∃ (s0 : List Itm) (v : Nat) (A : List Int) (ps : List Nat), st = s0 ++ [.inr v] ∧ vs[v]? = some (A, ps) ∧
      ((¬ (ptT E I.2.1 l).1 = 5 ∧ Y = ((ptT E I.2.1 l).1, C, st, b, E, fr, vs, (ptT E I.2.1 l).2.2, cl, fa)) ∨
      ((ptT E I.2.1 l).1 = 5 ∧ mv A (ptT E I.2.1 l).2.1 = 9 ∧ Y = (4, C, st, b, E, fr, vs, (ptT E I.2.1 l).2.2, cl, fa)) ∨
      ((ptT E I.2.1 l).1 = 5 ∧ ¬ mv A (ptT E I.2.1 l).2.1 = 9 ∧ (ptT E I.2.1 l).2.2 < 1 ∧ Y = (2, C, st, b, E, fr, vs, 0, cl, fa)) ∨
      ((ptT E I.2.1 l).1 = 5 ∧ ¬ mv A (ptT E I.2.1 l).2.1 = 9 ∧ 1 ≤ (ptT E I.2.1 l).2.2 ∧ ¬ mv A (ptT E I.2.1 l).2.1 = 7 ∧ Y = (5, C, st, b, E, fr, vs, (ptT E I.2.1 l).2.2 - 1, cl, fa)) ∨
      ((ptT E I.2.1 l).1 = 5 ∧ 1 ≤ (ptT E I.2.1 l).2.2 ∧ mv A (ptT E I.2.1 l).2.1 = 7 ∧ Y = (1, C, st, b, E, fr, vs, (ptT E I.2.1 l).2.2 - 1, cl, I.2.2.1)))) ∨
    (I.1 = 0 ∧ ∃ (s0 : List Itm) (v : Nat), st = s0 ++ [.inr v] ∧ ((fr = [] ∧ Y = (0, C, st, b, E, fr, vs, l, cl, fa)) ∨ ∃ (C' : List Ins) (b' : Nat) (E' : Env) (fr' : List Frm), fr = (C', b', E') :: fr' ∧ b ≤ s0.length ∧ Y = (5, C', st.take b ++ [.inr v], b', E', fr', vs, l, cl, fa))))
  | _, _ => False
/-- n steps -/
def PSn (ar : Int → Int) (fc : Int → Int → Option (Nat × List Ins)) (mv : List Int → List Int → Int) : Nat → PMs → PMs → Prop
  | 0, X, Y => Y = X
  | n + 1, X, Y => ∃ Z, PSt ar fc mv X Z ∧ PSn ar fc mv n Z Y
section ZTA
variable {ar : Int → Int} {fc : Int → Int → Option (Nat × List Ins)} {mv : List Int → List Int → Int}
theorem PSn_tr : ∀ (n m : Nat) (X Y Z : PMs), PSn ar fc mv n X Y → PSn ar fc mv m Y Z → PSn ar fc mv (n + m) X Z
  | 0, m, X, Y, Z, h, g => by
    have h : Y = X := h
    rw [Nat.zero_add, ← h]
    exact g
  | n + 1, m, X, Y, Z, h, g => by
    obtain ⟨U, u1, u2⟩ := h
    rw [show n + 1 + m = (n + m) + 1 by omega]
    exact ⟨U, u1, PSn_tr n m U Y Z u2 g⟩
theorem PSn_1 {X Y : PMs} (h : PSt ar fc mv X Y) : PSn ar fc mv 1 X Y := ⟨Y, h, rfl⟩
/-- STEPS are never given back -/
theorem ptT_l {E : Env} {A : List Int} {l : Int} (h : 0 ≤ l) : 0 ≤ (ptT E A l).2.2 ∧ (ptT E A l).2.2 ≤ l := by
  unfold ptT
  split
  · exact ⟨h, Int.le_refl _⟩
  · split
    · exact ⟨h, Int.le_refl _⟩
    · split
      · constructor
        · show 0 ≤ l - _
          omega
        · show l - _ ≤ l
          omega
      · exact ⟨Int.le_refl 0, h⟩
theorem ptT_o {E : Env} {A : List Int} {l : Int} : (ptT E A l).1 = 5 ∨ (ptT E A l).1 = 4 ∨ (ptT E A l).1 = 2 := by
  unfold ptT
  split
  · exact Or.inl rfl
  · split
    · exact Or.inr (Or.inl rfl)
    · split
      · exact Or.inl rfl
      · exact Or.inr (Or.inr rfl)
end ZTA
/-- TYPES of code: good ones, with so many PARAMS -/
def TGo (ar : Int → Int) (nT nX nY : Int) (A : List Int) : Prop := isR ar 1 A ∧ (A.length ≤ 60 ∧ cdT nT A) ∧ cdW nX nY A
/-- rows of code that make sense there -/
def inK (ar : Int → Int) (nT nX nY : Int) (I : Ins) : Prop := ((I.1 = 2 ∨ I.1 = 6) → TGo ar nT nX nY I.2.1) ∧ (I.1 = 5 → I.2.2.2.1.length ≤ 6 ∧ ∀ A ∈ I.2.2.2.1, TGo ar nT nX nY A) ∧ ((I.1 = 3 ∨ I.1 = 5) → 0 ≤ I.2.2.1 ∧ I.2.2.1 ≤ 6)
def cdK (ar : Int → Int) (nT nX nY : Int) (C : List Ins) : Prop := ∀ I ∈ C, inK ar nT nX nY I
/-- what is put: TYPES without PARAMS -/
def enK (ar : Int → Int) (nT : Int) (E : Env) : Prop := (E.1.length ≤ 6 ∧ E.2.length ≤ 6) ∧ (∀ A ∈ E.1, TGo ar nT 0 0 A) ∧ ∀ A ∈ E.2, TGo ar nT 0 0 A
/-- where a value lies: behind those that were made ahead of it -/
def plv (vs : Vls) (v : Nat) : Nat := ((vs.take v).map (fun q => 1 + q.2.length)).sum
section ZTB
variable {ar : Int → Int} {nT nX nY : Int} {E : Env} {A : List Int} {vs : Vls} {v u : Nat} {q : List Int × List Nat}
theorem enK_p (hE : enK ar nT E) (hA : cdW (E.1.length : Int) (E.2.length : Int) A) : pOK ar nT 0 0 (eta E.1 E.2) A := fun c hc h24 => by
  obtain ⟨c0, c1, c2, c3⟩ := hA c hc
  have key : ∀ (l : List (List Int)) (i : Nat), i < l.length → (∀ A ∈ l, TGo ar nT 0 0 A) → isR ar 1 (l.getD i []) ∧ cdW 0 0 (l.getD i []) ∧ cdT nT (l.getD i []) := fun l i hi h => by
    have hm : l.getD i [] ∈ l := by
      rw [List.getD_eq_getElem?_getD, List.getElem?_eq_getElem hi]
      exact List.getElem_mem hi
    have := h _ hm
    exact ⟨this.1, this.2.2, this.2.1.2⟩
  have hl := hE.1
  unfold eta
  by_cases q : c < 30
  · have := c2 h24 q
    rw [if_pos (by omega), if_pos (by omega)]
    exact key _ _ (by omega) hE.2.1
  · have := c3 (by omega)
    rw [if_neg (by omega), if_pos (by omega)]
    exact key _ _ (by omega) hE.2.2
theorem plv_a (h : v ≤ vs.length) : plv (vs ++ [q]) v = plv vs v := by
  unfold plv
  rw [List.take_append_of_le_length h]
theorem plv_s (h : vs[v]? = some q) : plv vs (v + 1) = plv vs v + (1 + q.2.length) := by
  unfold plv
  rw [List.take_add_one, h, List.map_append, List.sum_append]
  rfl
end ZTB
