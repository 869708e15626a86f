/-! ===== the class: states by kinds ===== -/
abbrev cA : Type := List cK × List (cK × Option Nat) × List Nat × List Nat
abbrev cLoc : Type := List (Nat × Value)
def kU : cK → Bool
  | (.inr (.inr none)) => true
  | _ => false
def mS (loc : cLoc) : List (cK × Option Nat) → List Value → Prop
  | [], [] => True
  | q :: S, v :: st => qvK q.1 v ∧ (∀ k, q.2 = some k → xlk k loc = some v) ∧ mS loc S st
  | _, _ => False
def mLo (L : List cK) (loc : cLoc) : Prop := ∀ k K, L[k]? = some K → kU K = false → ∃ v, xlk k loc = some v ∧ qvK K v
def mHi (F : List Nat) (loc : cLoc) : Prop := ∀ k ∈ F, ∃ x : Int32, xlk k loc = some (.int x) ∧ x.toInt < 2147483647
def mLw (F : List Nat) (loc : cLoc) : Prop := ∀ k ∈ F, ∃ x : Int32, xlk k loc = some (.int x) ∧ -2147483648 < x.toInt
def mA (A : cA) (loc : cLoc) (st : List Value) : Prop := mLo A.1 loc ∧ mS loc A.2.1 st ∧ mHi A.2.2.1 loc ∧ mLw A.2.2.2 loc
def lle : List cK → List cK → Bool
  | _, [] => true
  | [], K :: B => kU K && lle [] B
  | a :: A, b :: B => kle a b && lle A B
theorem lle_ok : ∀ {A B : List cK} {k : Nat} {K : cK}, lle A B = true → B[k]? = some K → kU K = false → ∃ K', A[k]? = some K' ∧ kle K' K = true
  | _, [], k, K, _, h, _ => by cases h
  | [], b :: B, k, K, h, hk, hu => by
    unfold lle at h
    rw [Bool.and_eq_true] at h
    cases k with
    | zero =>
      cases hk
      rw [hu] at h
      cases h.1
    | succ k =>
      obtain ⟨K', e, -⟩ := lle_ok (A := []) (k := k) h.2 hk hu
      cases e
  | a :: A, b :: B, k, K, h, hk, hu => by
    unfold lle at h
    rw [Bool.and_eq_true] at h
    cases k with
    | zero =>
      cases hk
      exact ⟨a, rfl, h.1⟩
    | succ k => exact lle_ok (k := k) h.2 hk hu
def ole : Option Nat → Option Nat → Bool
  | _, none => true
  | some a, some b => Nat.beq a b
  | none, some _ => false
def sle : List (cK × Option Nat) → List (cK × Option Nat) → Bool
  | [], [] => true
  | a :: A, b :: B => kle a.1 b.1 && (ole a.2 b.2 && sle A B)
  | _, _ => false
theorem sle_ok {loc : cLoc} : ∀ {A B : List (cK × Option Nat)} {st : List Value}, sle A B = true → mS loc A st → mS loc B st
  | [], [], st, _, h => h
  | [], b :: B, st, h, _ => by cases h
  | a :: A, [], st, h, _ => by cases h
  | a :: A, b :: B, [], _, hm => absurd hm id
  | a :: A, b :: B, v :: st, h, hm => by
    unfold sle at h
    rw [Bool.and_eq_true, Bool.and_eq_true] at h
    obtain ⟨h1, h2, h3⟩ := hm
    refine ⟨kle_ok h.1 h1, fun k hk => ?_, sle_ok h.2.2 h3⟩
    have ho := h.2.1
    rw [hk] at ho
    cases ha : a.2 with
    | none => rw [ha] at ho; cases ho
    | some c =>
      rw [ha] at ho
      have : Nat.beq c k = true := ho
      rw [← Nat.eq_of_beq_eq_true this]
      exact h2 c ha
def ale (A B : cA) : Bool := lle A.1 B.1 && (sle A.2.1 B.2.1 && (csub B.2.2.1 A.2.2.1 && csub B.2.2.2 A.2.2.2))
theorem ale_ok {A B : cA} {loc : cLoc} {st : List Value} (h : ale A B = true) (hm : mA A loc st) : mA B loc st := by
  unfold ale at h
  rw [Bool.and_eq_true, Bool.and_eq_true, Bool.and_eq_true] at h
  obtain ⟨m1, m2, m3, m4⟩ := hm
  refine ⟨fun k K hk hu => ?_, sle_ok h.2.1 m2, fun k hk => m3 k (csub_ok h.2.2.1 hk), fun k hk => m4 k (csub_ok h.2.2.2 hk)⟩
  obtain ⟨K', e1, e2⟩ := lle_ok h.1 hk hu
  have hu' : kU K' = false := by
    cases K' using cKe with
    | u =>
      cases K using cKe with
      | u => cases hu
      | _ => cases e2
    | _ => rfl
  obtain ⟨v, v1, v2⟩ := m1 k K' e1 hu'
  exact ⟨v, v1, kle_ok e2 v2⟩
theorem noAl {loc : cLoc} {v : Value} : ∀ k : Nat, (none : Option Nat) = some k → xlk k loc = some v := fun _ h => nomatch h
/-! stack operations by kinds -/
abbrev kS : Type := List (cK × Option Nat)
def aSnd (op : List Value → Option (List Value)) (a : kS → Option kS) : Prop := ∀ loc S S' st, a S = some S' → mS loc S st → ∃ st', op st = some st' ∧ mS loc S' st'
def a_push (K : cK) : kS → Option kS := fun S => some ((K, none) :: S)
def a_ii : kS → Option kS
  | (.inl (_, _), _) :: (.inl (_, _), _) :: S => some ((kint, none) :: S)
  | _ => none
def a_add : kS → Option kS
  | (.inl (c, d), _) :: (.inl (a, b), _) :: S => match decide (-2147483648 ≤ a + c) && decide (b + d ≤ 2147483647) with
    | true => some ((.inl (a + c, b + d), none) :: S)
    | false => some ((kint, none) :: S)
  | _ => none
def a_sub : kS → Option kS
  | (.inl (c, d), _) :: (.inl (a, b), _) :: S => match decide (-2147483648 ≤ a - d) && decide (b - c ≤ 2147483647) with
    | true => some ((.inl (a - d, b - c), none) :: S)
    | false => some ((kint, none) :: S)
  | _ => none
/-- a quotient -/
def dvk (lo hi lo' hi' : Int) : cK := match decide (lo = hi) && (decide (1 ≤ lo) && decide (0 ≤ lo')) with
  | true => .inl (0, hi' / lo)
  | false => match decide (2 ≤ lo) with
    | true => .inl (-1073741824, 1073741824)
    | false => kint
/-- the divisor is not 0 -/
def a_dv : kS → Option kS
  | (.inl (lo, hi), _) :: (.inl (lo', hi'), _) :: S => match decide (0 < lo) || decide (hi < 0) with
    | true => some ((dvk lo hi lo' hi', none) :: S)
    | false => none
  | _ => none
def a_dup : kS → Option kS
  | q :: S => match Nat.beq (kcat q.1) 1 with
    | true => some (q :: q :: S)
    | false => none
  | _ => none
def a_pop : kS → Option kS
  | q :: S => match Nat.beq (kcat q.1) 1 with
    | true => some S
    | false => none
  | _ => none
def a_l2i : kS → Option kS
  | ((.inr (.inr (some true))), _) :: S => some ((kint, none) :: S)
  | _ => none
def a_lsh : kS → Option kS
  | (.inl (_, _), _) :: ((.inr (.inr (some true))), _) :: S => some (((.inr (.inr (some true))), none) :: S)
  | _ => none
theorem aS_push {K : cK} {v : Value} (h : qvK K v) : aSnd (xo_push v) (a_push K) := by
  intro loc S S' st e hm
  cases e
  exact ⟨v :: st, rfl, h, noAl, hm⟩
theorem aS_ii {op : List Value → Option (List Value)} {f : Int32 → Int32 → Int32} (ho : ∀ x y st, op (.int y :: .int x :: st) = some (.int (f x y) :: st)) : aSnd op a_ii := by
  intro loc S S' st e hm
  unfold a_ii at e
  split at e
  · cases e
    rename_i lo hi o lo' hi' o' T
    cases st with
    | nil => exact absurd hm id
    | cons v st =>
      obtain ⟨⟨y, rfl, -⟩, -, hm⟩ := hm
      cases st with
      | nil => exact absurd hm id
      | cons w st =>
        obtain ⟨⟨x, rfl, -⟩, -, hm⟩ := hm
        exact ⟨.int (f x y) :: st, ho x y st, vK_int _, noAl, hm⟩
  · cases e
theorem aS_add : aSnd xo_iadd a_add := by
  intro loc S S' st e hm
  unfold a_add at e
  split at e
  · rename_i c d o a b o' T
    cases st with
    | nil => exact absurd hm id
    | cons v st =>
      obtain ⟨⟨y, rfl, y1, y2⟩, -, hm⟩ := hm
      cases st with
      | nil => exact absurd hm id
      | cons w st =>
        obtain ⟨⟨x, rfl, x1, x2⟩, -, hm⟩ := hm
        split at e
        · rename_i hd
          cases e
          rw [Bool.and_eq_true, decide_eq_true_eq, decide_eq_true_eq] at hd
          have ex : (x + y).toInt = x.toInt + y.toInt := by
            rw [Int32.toInt_add]
            exact i_bm (by omega)
          exact ⟨.int (x + y) :: st, rfl, ⟨x + y, rfl, by omega, by omega⟩, noAl, hm⟩
        · cases e
          exact ⟨.int (x + y) :: st, rfl, vK_int _, noAl, hm⟩
  · cases e
theorem aS_sub : aSnd xo_isub a_sub := by
  intro loc S S' st e hm
  unfold a_sub at e
  split at e
  · rename_i c d o a b o' T
    cases st with
    | nil => exact absurd hm id
    | cons v st =>
      obtain ⟨⟨y, rfl, y1, y2⟩, -, hm⟩ := hm
      cases st with
      | nil => exact absurd hm id
      | cons w st =>
        obtain ⟨⟨x, rfl, x1, x2⟩, -, hm⟩ := hm
        split at e
        · rename_i hd
          cases e
          rw [Bool.and_eq_true, decide_eq_true_eq, decide_eq_true_eq] at hd
          have ex : (x - y).toInt = x.toInt - y.toInt := by
            rw [Int32.toInt_sub]
            exact i_bm (by omega)
          exact ⟨.int (x - y) :: st, rfl, ⟨x - y, rfl, by omega, by omega⟩, noAl, hm⟩
        · cases e
          exact ⟨.int (x - y) :: st, rfl, vK_int _, noAl, hm⟩
  · cases e
theorem dv_q (x y : Int32) (lo : Int) (h : lo ≤ y.toInt) : qvK (match decide (2 ≤ lo) with
    | true => .inl (-1073741824, 1073741824)
    | false => kint) (.int (x / y)) := by
  split
  · rename_i hd
    have hd := of_decide_eq_true hd
    have xl := x.le_toInt
    have xh := x.toInt_lt
    have yh := y.toInt_lt
    have e : (x / y).toInt = x.toInt.tdiv y.toInt := by
      rw [Int32.toInt_div]
      have h2 := Int.natAbs_tdiv_le_natAbs x.toInt y.toInt
      by_cases hx : 0 ≤ x.toInt
      · exact i_bm (by omega)
      · have h3 := Int.neg_tdiv (-x.toInt) y.toInt
        rw [Int.neg_neg] at h3
        have h4 := Int.tdiv_nonneg (a := -x.toInt) (b := y.toInt) (by omega) (by omega)
        exact i_bm (by omega)
    refine ⟨_, rfl, ?_, ?_⟩
    · rw [e]
      by_cases hx : 0 ≤ x.toInt
      · have := Int.tdiv_nonneg (a := x.toInt) (b := y.toInt) hx (by omega)
        show -1073741824 ≤ _
        omega
      · have h3 := Int.neg_tdiv (-x.toInt) y.toInt
        rw [Int.neg_neg] at h3
        have h5 : (-x.toInt).tdiv y.toInt = (-x.toInt) / y.toInt := Int.tdiv_eq_ediv_of_nonneg (by omega)
        have h6 : (-x.toInt) / y.toInt < 1073741825 := Int.ediv_lt_of_lt_mul (by omega) (by have := Int.mul_le_mul_of_nonneg_left (a := 2) (b := y.toInt) (c := 1073741825) (by omega) (by omega); omega)
        show -1073741824 ≤ _
        omega
    · rw [e]
      by_cases hx : 0 ≤ x.toInt
      · have h5 : x.toInt.tdiv y.toInt = x.toInt / y.toInt := Int.tdiv_eq_ediv_of_nonneg hx
        have h6 : x.toInt / y.toInt < 1073741825 := Int.ediv_lt_of_lt_mul (by omega) (by have := Int.mul_le_mul_of_nonneg_left (a := 2) (b := y.toInt) (c := 1073741825) (by omega) (by omega); omega)
        show _ ≤ 1073741824
        omega
      · have h3 := Int.neg_tdiv (-x.toInt) y.toInt
        rw [Int.neg_neg] at h3
        have h4 := Int.tdiv_nonneg (a := -x.toInt) (b := y.toInt) (by omega) (by omega)
        show _ ≤ 1073741824
        omega
  · exact vK_int _
theorem dv_r (x y : Int32) (lo hi lo' hi' : Int) (h1 : lo ≤ y.toInt) (h2 : y.toInt ≤ hi) (h3 : lo' ≤ x.toInt) (h4 : x.toInt ≤ hi') : qvK (dvk lo hi lo' hi') (.int (x / y)) := by
  unfold dvk
  split
  · rename_i hd
    rw [Bool.and_eq_true, Bool.and_eq_true, decide_eq_true_eq, decide_eq_true_eq, decide_eq_true_eq] at hd
    obtain ⟨d1, d2, d3⟩ := hd
    have ey : y.toInt = lo := by omega
    have xh := x.toInt_lt
    have e : (x / y).toInt = x.toInt / lo := by
      rw [Int32.toInt_div, ey, Int.tdiv_eq_ediv_of_nonneg (by omega)]
      have a1 : 0 ≤ x.toInt / lo := Int.ediv_nonneg (by omega) (by omega)
      have a2 : x.toInt / lo ≤ x.toInt := Int.ediv_le_self _ (by omega)
      exact i_bm (by omega)
    have a1 : 0 ≤ x.toInt / lo := Int.ediv_nonneg (by omega) (by omega)
    have a2 : x.toInt / lo ≤ hi' / lo := Int.ediv_le_ediv (by omega) h4
    exact ⟨_, rfl, by omega, by omega⟩
  · exact dv_q x y lo h1
theorem aS_dv {op : List Value → Option (List Value)} {f : Int32 → Int32 → Int32} (hq : ∀ (x y : Int32) (lo hi lo' hi' : Int), lo ≤ y.toInt → y.toInt ≤ hi → lo' ≤ x.toInt → x.toInt ≤ hi' → qvK (dvk lo hi lo' hi') (.int (f x y))) (ho : ∀ x y st, op (.int y :: .int x :: st) = if y = 0 then none else some (.int (f x y) :: st)) : aSnd op a_dv := by
  intro loc S S' st e hm
  unfold a_dv at e
  split at e
  · rename_i lo hi o lo' hi' o' T
    split at e
    · rename_i hd
      cases e
      cases st with
      | nil => exact absurd hm id
      | cons v st =>
        obtain ⟨⟨y, rfl, y1, y2⟩, -, hm⟩ := hm
        cases st with
        | nil => exact absurd hm id
        | cons w st =>
          obtain ⟨⟨x, rfl, x1, x2⟩, -, hm⟩ := hm
          have hy : ¬ y = 0 := fun w => by
            rw [w] at y1 y2
            have e0 : (0 : Int32).toInt = 0 := by decide
            rw [e0] at y1 y2
            rw [Bool.or_eq_true, decide_eq_true_eq, decide_eq_true_eq] at hd
            omega
          exact ⟨.int (f x y) :: st, by rw [ho, if_neg hy], hq x y lo hi lo' hi' y1 y2 x1 x2, noAl, hm⟩
    · cases e
  · cases e
theorem aS_dup : aSnd xo_dup a_dup := by
  intro loc S S' st e hm
  unfold a_dup at e
  split at e
  · rename_i q T
    split at e
    · rename_i hd
      cases e
      cases st with
      | nil => exact absurd hm id
      | cons v st =>
        obtain ⟨h1, h2, h3⟩ := hm
        have hk := Nat.eq_of_beq_eq_true hd
        refine ⟨v :: v :: st, ?_, h1, h2, h1, h2, h3⟩
        show (if v.category = 1 then some (v :: v :: st) else none) = _
        rw [if_pos (by rw [kcat_ok (by omega) h1, hk])]
    · cases e
  · cases e
theorem aS_pop : aSnd xo_pop a_pop := by
  intro loc S S' st e hm
  unfold a_pop at e
  split at e
  · rename_i q T
    split at e
    · rename_i hd
      cases e
      cases st with
      | nil => exact absurd hm id
      | cons v st =>
        obtain ⟨h1, h2, h3⟩ := hm
        have hk := Nat.eq_of_beq_eq_true hd
        refine ⟨st, ?_, h3⟩
        show (if v.category = 1 then some st else none) = _
        rw [if_pos (by rw [kcat_ok (by omega) h1, hk])]
    · cases e
  · cases e
theorem aS_l2i : aSnd xo_l2i a_l2i := by
  intro loc S S' st e hm
  unfold a_l2i at e
  split at e
  · cases e
    cases st with
    | nil => exact absurd hm id
    | cons v st =>
      obtain ⟨⟨y, rfl⟩, -, hm⟩ := hm
      exact ⟨_, rfl, vK_int _, noAl, hm⟩
  · cases e
theorem aS_lushr : aSnd xo_lushr a_lsh := by
  intro loc S S' st e hm
  unfold a_lsh at e
  split at e
  · cases e
    cases st with
    | nil => exact absurd hm id
    | cons v st =>
      obtain ⟨⟨y, rfl, -⟩, -, hm⟩ := hm
      cases st with
      | nil => exact absurd hm id
      | cons w st =>
        obtain ⟨⟨x, rfl⟩, -, hm⟩ := hm
        exact ⟨_, rfl, ⟨_, rfl⟩, noAl, hm⟩
  · cases e
/-- an instruction that works on the stack alone -/
def pOp (L : xLD) : Instr → Option ((List Value → Option (List Value)) × (kS → Option kS))
  | .iconst n => some (xo_push (.int (Int32.ofInt n)), a_push (.inl ((Int32.ofInt n).toInt, (Int32.ofInt n).toInt)))
  | .bipush n => some (xo_push (.int (Int8.ofInt n).toInt32), a_push (.inl ((Int8.ofInt n).toInt32.toInt, (Int8.ofInt n).toInt32.toInt)))
  | .sipush n => some (xo_push (.int (Int16.ofInt n).toInt32), a_push (.inl ((Int16.ofInt n).toInt32.toInt, (Int16.ofInt n).toInt32.toInt)))
  | .ldc i => match xlu i L.2.2.1 with
    | some v => some (xo_push (.int (Int32.ofNat v)), a_push (.inl ((Int32.ofNat v).toInt, (Int32.ofNat v).toInt)))
    | none => match xlu i L.2.2.2.2.1 with
      | some k => match Nat.blt k 7 with
        | true => some (xo_push (.ref (1000000 + k)), a_push (.inr (.inr (some false))))
        | false => none
      | none => none
  | .iadd => some (xo_iadd, a_add)
  | .isub => some (xo_isub, a_sub)
  | .imul => some (xo_imul, a_ii)
  | .iand => some (xo_iand, a_ii)
  | .ior => some (xo_ior, a_ii)
  | .ishl => some (xo_ishl, a_ii)
  | .ishr => some (xo_ishr, a_ii)
  | .idiv => some (xo_idiv, a_dv)
  | .dup => some (xo_dup, a_dup)
  | .pop => some (xo_pop, a_pop)
  | .l2i => some (xo_l2i, a_l2i)
  | .lushr => some (xo_lushr, a_lsh)
  | _ => none
theorem pOp_ok {L : xLD} {ml : Nat} {g : Int → Option Nat} {i : Instr} {q : (List Value → Option (List Value)) × (kS → Option kS)} (h : pOp L i = some q) : xSe L ml false g i = xPure q.1 ∧ aSnd q.1 q.2 := by
  cases i <;> (try (cases h; done)) <;> (try (cases h; exact ⟨rfl, aS_push ⟨_, rfl, Int.le_refl _, Int.le_refl _⟩⟩)) <;> (try (cases h; exact ⟨rfl, aS_add⟩)) <;> (try (cases h; exact ⟨rfl, aS_sub⟩)) <;> (try (cases h; exact ⟨rfl, aS_ii (fun _ _ _ => rfl)⟩)) <;> (try (cases h; exact ⟨rfl, aS_dv dv_r (fun _ _ _ => rfl)⟩)) <;> (try (cases h; exact ⟨rfl, aS_dup⟩)) <;> (try (cases h; exact ⟨rfl, aS_pop⟩)) <;> (try (cases h; exact ⟨rfl, aS_l2i⟩)) <;> (try (cases h; exact ⟨rfl, aS_lushr⟩))
  case ldc i =>
    have h : (match xlu i L.2.2.1 with
      | some v => some (xo_push (.int (Int32.ofNat v)), a_push (.inl ((Int32.ofNat v).toInt, (Int32.ofNat v).toInt)))
      | none => match xlu i L.2.2.2.2.1 with
        | some k => match Nat.blt k 7 with
          | true => some (xo_push (.ref (1000000 + k)), a_push (.inr (.inr (some false))))
          | false => none
        | none => none) = some q := h
    show xLm (xlu i L.2.2.1) (xlu i L.2.2.2.2.1) = _ ∧ _
    unfold xLm
    cases h1 : xlu i L.2.2.1 with
    | some v =>
      rw [h1] at h
      cases h
      exact ⟨rfl, aS_push ⟨_, rfl, Int.le_refl _, Int.le_refl _⟩⟩
    | none =>
      rw [h1] at h
      cases h2 : xlu i L.2.2.2.2.1 with
      | none => rw [h2] at h; cases h
      | some k =>
        rw [h2] at h
        dsimp only at h
        cases h3 : Nat.blt k 7 with
        | false => rw [h3] at h; cases h
        | true =>
          rw [h3] at h
          cases h
          exact ⟨rfl, aS_push ⟨k, rfl, Nat.le_of_ble_eq_true h3⟩⟩
