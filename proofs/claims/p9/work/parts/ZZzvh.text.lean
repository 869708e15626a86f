/-! ===== print: the text, pure ===== -/
/-- what is said behind a TYPE that is whole; the counts that stay open, innermost first -/
def txC : List Nat → List Int × List Nat
  | [] => ([], [])
  | [n] => ([], [n - 1])
  | n :: m :: D => if n ≤ 1 then (93 :: (txC (m :: D)).1, (txC (m :: D)).2) else ([44], (n - 1) :: m :: D)
/-- what is said of the codes that are left -/
def txR (ar : Int → Int) (pw : Int → List Int) : List Int → List Nat → List Int
  | [], _ => []
  | c :: B, D => pw c ++ (if 0 < ar c then 91 :: txR ar pw B ((ar c).toNat :: D) else (txC D).1 ++ txR ar pw B (txC D).2)
/-- a TYPE -/
def txT (ar : Int → Int) (pw : Int → List Int) (A : List Int) : List Int := txR ar pw A [1]
/-- TYPES with , between -/
def txS (ar : Int → Int) (pw : Int → List Int) : List (List Int) → List Int
  | [] => []
  | [X] => txT ar pw X
  | X :: Y :: R => txT ar pw X ++ 44 :: txS ar pw (Y :: R)
section ZYA
variable {ar : Int → Int} {pw : Int → List Int}
theorem txC_1 {m : Nat} {D : List Nat} : txC (1 :: m :: D) = (93 :: (txC (m :: D)).1, (txC (m :: D)).2) := by
  show (if 1 ≤ 1 then _ else _) = _
  rw [if_pos (Nat.le_refl 1)]
theorem txC_2 {n m : Nat} {D : List Nat} (h : 1 < n) : txC (n :: m :: D) = ([44], (n - 1) :: m :: D) := by
  show (if n ≤ 1 then _ else _) = _
  rw [if_neg (by omega)]
/-- a list of TYPES in the brackets of another -/
theorem txR_L (k : Nat) (ih : ∀ A : List Int, A.length ≤ k → isR ar 1 A → ∀ (B : List Int) (m : Nat) (D : List Nat), txR ar pw (A ++ B) (m :: D) = txT ar pw A ++ ((txC (m :: D)).1 ++ txR ar pw B (txC (m :: D)).2)) : ∀ (As : List (List Int)), ¬ As = [] → As.flatten.length ≤ k → (∀ X ∈ As, isR ar 1 X) → ∀ (B : List Int) (m : Nat) (D : List Nat), txR ar pw (As.flatten ++ B) (As.length :: m :: D) = txS ar pw As ++ 93 :: ((txC (m :: D)).1 ++ txR ar pw B (txC (m :: D)).2)
  | [], h, _, _, _, _, _ => absurd rfl h
  | [X], _, hk, hX, B, m, D => by
    have hx : X.length ≤ k := by
      rw [List.flatten_cons, List.flatten_nil, List.append_nil] at hk
      exact hk
    rw [List.flatten_cons, List.flatten_nil, List.append_nil, List.length_singleton, ih X hx (hX X List.mem_cons_self) B 1 (m :: D), txC_1]
    show _ = txT ar pw X ++ _
    simp only [List.cons_append]
  | X :: Y :: R, _, hk, hX, B, m, D => by
    have hl : (X :: Y :: R).flatten.length = X.length + (Y :: R).flatten.length := by rw [List.flatten_cons, List.length_append]
    have e := txR_L k ih (Y :: R) (by intro w; cases w) (by omega) (fun Z hZ => hX Z (List.mem_cons_of_mem _ hZ)) B m D
    rw [List.flatten_cons, List.append_assoc, ih X (by omega) (hX X List.mem_cons_self) ((Y :: R).flatten ++ B) (X :: Y :: R).length (m :: D), txC_2 (by simp only [List.length_cons]; omega)]
    show txT ar pw X ++ ([44] ++ txR ar pw ((Y :: R).flatten ++ B) (((X :: Y :: R).length - 1) :: m :: D)) = (txT ar pw X ++ 44 :: txS ar pw (Y :: R)) ++ _
    rw [show (X :: Y :: R).length - 1 = (Y :: R).length by simp only [List.length_cons]; omega, e]
    simp only [List.append_assoc, List.cons_append, List.nil_append]
theorem txR_T (h6 : ∀ c, 0 ≤ ar c ∧ ar c ≤ 7) : ∀ (k : Nat) (A : List Int), A.length ≤ k → isR ar 1 A → ∀ (B : List Int) (m : Nat) (D : List Nat), txR ar pw (A ++ B) (m :: D) = txT ar pw A ++ ((txC (m :: D)).1 ++ txR ar pw B (txC (m :: D)).2)
  | k, [], _, h, _, _, _ => by
    have h : (1 : Int) = 0 := h
    omega
  | 0, c :: l, hk, _, _, _, _ => absurd hk (by simp only [List.length_cons]; omega)
  | k + 1, c :: l, hk, h, B, m, D => by
    obtain ⟨p1, p2, p3⟩ := argT_ok h6 h
    have hl : l.length ≤ k := by
      rw [List.length_cons] at hk
      omega
    unfold txT
    rw [List.cons_append]
    show pw c ++ (if 0 < ar c then 91 :: txR ar pw (l ++ B) ((ar c).toNat :: m :: D) else (txC (m :: D)).1 ++ txR ar pw (l ++ B) (txC (m :: D)).2) = (pw c ++ (if 0 < ar c then 91 :: txR ar pw l ((ar c).toNat :: [1]) else (txC [1]).1 ++ txR ar pw l (txC [1]).2)) ++ _
    by_cases h0 : 0 < ar c
    · have hne : ¬ argT ar (c :: l) = [] := fun w => by
        rw [w] at p3
        have p3 : (0 : Int) = ar c := p3
        omega
      have en : (ar c).toNat = (argT ar (c :: l)).length := by omega
      have q := fun (B : List Int) (m : Nat) (D : List Nat) => txR_L (ar := ar) (pw := pw) k (fun A hA hR B m D => txR_T h6 k A hA hR B m D) (argT ar (c :: l)) hne (by rw [p1]; exact hl) p2 B m D
      rw [p1] at q
      have q0 := q [] 1 []
      rw [List.append_nil] at q0
      rw [if_pos h0, if_pos h0, en, q B m D, q0]
      show _ = (pw c ++ 91 :: (txS ar pw (argT ar (c :: l)) ++ 93 :: ([] ++ []))) ++ _
      simp only [List.append_assoc, List.cons_append, List.nil_append]
    · have e0 : argT ar (c :: l) = [] := List.length_eq_zero_iff.mp (by have := (h6 c).1; omega)
      have el : l = [] := by
        rw [e0] at p1
        exact p1.symm
      rw [if_neg h0, if_neg h0, el]
      show pw c ++ ((txC (m :: D)).1 ++ txR ar pw ([] ++ B) (txC (m :: D)).2) = (pw c ++ ([] ++ [])) ++ _
      simp only [List.append_assoc, List.nil_append]
/-- a TYPE with its own TYPES -/
theorem txT_c {c : Int} {l : List Int} (h6 : ∀ c, 0 ≤ ar c ∧ ar c ≤ 7) (h : isR ar 1 (c :: l)) : txT ar pw (c :: l) = pw c ++ (if 0 < ar c then 91 :: (txS ar pw (argT ar (c :: l)) ++ [93]) else []) := by
  obtain ⟨p1, p2, p3⟩ := argT_ok h6 h
  show pw c ++ (if 0 < ar c then 91 :: txR ar pw l ((ar c).toNat :: [1]) else (txC [1]).1 ++ txR ar pw l (txC [1]).2) = _
  by_cases h0 : 0 < ar c
  · have hne : ¬ argT ar (c :: l) = [] := fun w => by
      rw [w] at p3
      have p3 : (0 : Int) = ar c := p3
      omega
    have en : (ar c).toNat = (argT ar (c :: l)).length := by omega
    have q0 := txR_L (ar := ar) (pw := pw) (argT ar (c :: l)).flatten.length (fun A _ hR B m D => txR_T h6 A.length A (Nat.le_refl _) hR B m D) (argT ar (c :: l)) hne (Nat.le_refl _) p2 [] 1 []
    rw [p1, List.append_nil] at q0
    rw [if_pos h0, if_pos h0, en, q0]
    show pw c ++ 91 :: (txS ar pw (argT ar (c :: l)) ++ 93 :: ([] ++ [])) = _
    rfl
  · have e0 : argT ar (c :: l) = [] := List.length_eq_zero_iff.mp (by have := (h6 c).1; omega)
    have el : l = [] := by
      rw [e0] at p1
      exact p1.symm
    rw [if_neg h0, if_neg h0, el]
    rfl
end ZYA
/-! values -/
/-- a value's text: its TYPE, the parts from k on; f: of the values ahead of it -/
def vxP (f : Nat → List Int) : List Nat → Nat → List Int
  | [], _ => [125]
  | u :: ps, k => (if k = 0 then [] else [44]) ++ f u ++ vxP f ps (k + 1)
def vxT (ar : Int → Int) (pw : Int → List Int) (vs : Vls) : Nat → Nat → List Int
  | 0, _ => []
  | n + 1, v => match vs[v]? with
    | some (A, ps) => txT ar pw A ++ 123 :: vxP (vxT ar pw vs n) ps 0
    | none => []
/-- what lies in OUT -/
def ouT (l : List Int) : List Int := l.take 2000
theorem ouT_app {a b : List Int} : ouT (ouT a ++ b) = ouT (a ++ b) := by
  unfold ouT
  by_cases h : a.length ≤ 2000
  · rw [List.take_of_length_le h]
  · rw [List.take_append_of_le_length (by rw [List.length_take]; omega), List.take_append_of_le_length (by omega), List.take_take, Nat.min_self]
