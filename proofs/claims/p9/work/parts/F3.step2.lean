/-! ===== the class: branches, fields, calls ===== -/
section STQ
variable {calls : xC} {W : List (Nat × Nat)} {n : Nat} {A : cA}
def bpk (b : Bool) (B1 B2 : cA) : cA := match b with
  | true => B1
  | false => B2
theorem cStp_br {cnd : List Value → Option (Bool × List Value)} {t : Nat} {B1 B2 : cA} (h : ∀ loc st, mA A loc st → ∃ b st', cnd st = some (b, st') ∧ mA (bpk b B1 B2) loc st') : cStp calls (xBr cnd t) W none n A [(t, B1), (n + 1, B2)] := by
  intro loc st hh cs sl hI hm
  obtain ⟨b, st', e, hm'⟩ := h loc st hm
  cases b with
  | true =>
    refine ⟨some t, loc, st', hh, 0, 0, t, B1, ?_, List.mem_cons_self, rfl, hm', CST_rf hI, cgd_rf⟩
    unfold xBr
    dsimp only
    rw [e]
    rfl
  | false =>
    refine ⟨none, loc, st', hh, 0, 0, n + 1, B2, ?_, List.mem_cons_of_mem _ List.mem_cons_self, rfl, hm', CST_rf hI, cgd_rf⟩
    unfold xBr
    dsimp only
    rw [e]
    rfl
def addF (o : Option Nat) (b : Bool) (F : List Nat) : List Nat := match o with
  | some k => match b with
    | true => k :: F
    | false => F
  | none => F
theorem addHi {loc : cLoc} {o : Option Nat} {b : Bool} {F : List Nat} {x : Int32} (hF : mHi F loc) (hx : ∀ k, o = some k → xlk k loc = some (.int x)) (hb : b = true → x.toInt < 2147483647) : mHi (addF o b F) loc := by
  unfold addF
  cases o with
  | none => exact hF
  | some k =>
    cases b with
    | false => exact hF
    | true =>
      intro k' hk'
      rcases List.mem_cons.mp hk' with rfl | hk'
      · exact ⟨x, hx k' rfl, hb rfl⟩
      · exact hF k' hk'
theorem addLo {loc : cLoc} {o : Option Nat} {b : Bool} {F : List Nat} {x : Int32} (hF : mLw F loc) (hx : ∀ k, o = some k → xlk k loc = some (.int x)) (hb : b = true → -2147483648 < x.toInt) : mLw (addF o b F) loc := by
  unfold addF
  cases o with
  | none => exact hF
  | some k =>
    cases b with
    | false => exact hF
    | true =>
      intro k' hk'
      rcases List.mem_cons.mp hk' with rfl | hk'
      · exact ⟨x, hx k' rfl, hb rfl⟩
      · exact hF k' hk'
def prn (e : Bool) (p : Nat × cA) : List (Nat × cA) := match e with
  | true => []
  | false => [p]
theorem cStp_br2 {cnd : List Value → Option (Bool × List Value)} {t : Nat} {B1 B2 : cA} {e1 e2 : Bool} (h : ∀ loc st, mA A loc st → ∃ b st', cnd st = some (b, st') ∧ mA (bpk b B1 B2) loc st' ∧ (b = true → e1 = false) ∧ (b = false → e2 = false)) : cStp calls (xBr cnd t) W none n A (prn e1 (t, B1) ++ prn e2 (n + 1, B2)) := by
  intro loc st hh cs sl hI hm
  obtain ⟨b, st', e, hm', g1, g2⟩ := h loc st hm
  cases b with
  | true =>
    refine ⟨some t, loc, st', hh, 0, 0, t, B1, ?_, List.mem_append_left _ (by rw [g1 rfl]; exact List.mem_cons_self), rfl, hm', CST_rf hI, cgd_rf⟩
    unfold xBr
    dsimp only
    rw [e]
    rfl
  | false =>
    refine ⟨none, loc, st', hh, 0, 0, n + 1, B2, ?_, List.mem_append_right _ (by rw [g2 rfl]; exact List.mem_cons_self), rfl, hm', CST_rf hI, cgd_rf⟩
    unfold xBr
    dsimp only
    rw [e]
    rfl
/-- what a local is then -/
def rfL (L : List cK) (o : Option Nat) (q : Int × Int) : List cK := match o with
  | some k => match L[k]? with
    | some (.inl (a, b)) => L.set k (.inl (max a q.1, min b q.2))
    | _ => L
  | none => L
def emp (L : List cK) (o : Option Nat) (q : Int × Int) : Bool := match o with
  | some k => match L[k]? with
    | some (.inl (a, b)) => decide (min b q.2 < max a q.1)
    | _ => false
  | none => false
theorem rfL_ok {L : List cK} {loc : cLoc} {o : Option Nat} {q : Int × Int} {x : Int32} (hL : mLo L loc) (hx : ∀ k, o = some k → xlk k loc = some (.int x)) (h1 : q.1 ≤ x.toInt) (h2 : x.toInt ≤ q.2) : mLo (rfL L o q) loc ∧ emp L o q = false := by
  cases o with
  | none => exact ⟨hL, rfl⟩
  | some k =>
    cases hk : L[k]? with
    | none =>
      have e1 : rfL L (some k) q = L := by
        unfold rfL
        dsimp only
        rw [hk]
      have e2 : emp L (some k) q = false := by
        unfold emp
        dsimp only
        rw [hk]
      rw [e1, e2]
      exact ⟨hL, rfl⟩
    | some K =>
      cases K using cKe with
      | i a b =>
        obtain ⟨v, v1, y, rfl, y1, y2⟩ := hL k _ hk rfl
        have hxy : y = x := by
          have := v1.symm.trans (hx k rfl)
          exact Value.int.inj (Option.some.inj this)
        subst hxy
        have e1 : rfL L (some k) q = L.set k (.inl (max a q.1, min b q.2)) := by
          unfold rfL
          dsimp only
          rw [hk]
        have e2 : emp L (some k) q = decide (min b q.2 < max a q.1) := by
          unfold emp
          dsimp only
          rw [hk]
        rw [e1, e2]
        refine ⟨fun k' K' hk' hu => ?_, decide_eq_false (by omega)⟩
        rw [List.getElem?_set] at hk'
        by_cases e : k = k'
        · subst e
          rw [if_pos rfl] at hk'
          split at hk'
          · cases hk'
            exact ⟨_, v1, y, rfl, by show max a q.1 ≤ y.toInt; omega, by show y.toInt ≤ min b q.2; omega⟩
          · cases hk'
        · rw [if_neg e] at hk'
          exact hL k' K' hk' hu
      | _ =>
        have e1 : rfL L (some k) q = L := by
          unfold rfL
          dsimp only
          rw [hk]
        have e2 : emp L (some k) q = false := by
          unfold emp
          dsimp only
          rw [hk]
        rw [e1, e2]
        exact ⟨hL, rfl⟩
/-- x against y in [lo, hi]: where x is then; taken, not taken -/
def rB (c : Jvm.ClassFile.Cond) (lo hi : Int) : (Int × Int) × (Int × Int) := match c with
  | .eq => ((lo, hi), (-2147483648, 2147483647))
  | .ne => ((-2147483648, 2147483647), (lo, hi))
  | .lt => ((-2147483648, hi - 1), (lo, 2147483647))
  | .ge => ((lo, 2147483647), (-2147483648, hi - 1))
  | .gt => ((lo + 1, 2147483647), (-2147483648, hi))
  | .le => ((-2147483648, hi), (lo + 1, 2147483647))
def rqB (b : Bool) (q : (Int × Int) × (Int × Int)) : Int × Int := match b with
  | true => q.1
  | false => q.2
/-- facts that follow: below the greatest, above the least -/
def hiF (q : Int × Int) : Bool := decide (q.2 < 2147483647)
def loF (q : Int × Int) : Bool := decide (-2147483648 < q.1)
/-- the state of a branch -/
def brA (A : cA) (S : kS) (o : Option Nat) (q : Int × Int) : cA := (rfL A.1 o q, S, addF o (hiF q) A.2.2.1, addF o (loF q) A.2.2.2)
theorem brA_ok {loc : cLoc} {st : List Value} {S : kS} {o : Option Nat} {q : Int × Int} {x : Int32} (m1 : mLo A.1 loc) (m2 : mS loc S st) (m3 : mHi A.2.2.1 loc) (m4 : mLw A.2.2.2 loc) (hx : ∀ k, o = some k → xlk k loc = some (.int x)) (h1 : q.1 ≤ x.toInt) (h2 : x.toInt ≤ q.2) : mA (brA A S o q) loc st ∧ emp A.1 o q = false := by
  obtain ⟨r1, r2⟩ := rfL_ok m1 hx h1 h2
  exact ⟨⟨r1, m2, addHi m3 hx (fun h => by have := of_decide_eq_true h; omega), addLo m4 hx (fun h => by have := of_decide_eq_true h; omega)⟩, r2⟩
def br2 (A : cA) (S : kS) (o : Option Nat) (q : (Int × Int) × (Int × Int)) (t n : Nat) : List (Nat × cA) := prn (emp A.1 o q.1) (t, brA A S o q.1) ++ prn (emp A.1 o q.2) (n + 1, brA A S o q.2)
theorem br2_ok {cnd : List Value → Option (Bool × List Value)} {S : kS} {o : Option Nat} {q : (Int × Int) × (Int × Int)} {t : Nat} (h : ∀ loc st, mA A loc st → ∃ b st' x, cnd st = some (b, st') ∧ mS loc S st' ∧ (∀ k, o = some k → xlk k loc = some (.int x)) ∧ (rqB b q).1 ≤ x.toInt ∧ x.toInt ≤ (rqB b q).2) : cStp calls (xBr cnd t) W none n A (br2 A S o q t n) := by
  refine cStp_br2 (fun loc st hm => ?_)
  obtain ⟨b, st', x, e, m2, hx, h1, h2⟩ := h loc st hm
  obtain ⟨r1, r2⟩ := brA_ok (q := rqB b q) hm.1 m2 hm.2.2.1 hm.2.2.2 hx h1 h2
  cases b with
  | true => exact ⟨true, st', e, r1, fun _ => r2, fun w => (nomatch w)⟩
  | false => exact ⟨false, st', e, r1, fun w => (nomatch w), fun _ => r2⟩
theorem i0 : (0 : Int32).toInt = 0 := by decide
def t_if (c : Jvm.ClassFile.Cond) (t n : Nat) (A : cA) : Option (List (Nat × cA)) := match A.2.1 with
  | (.inl _, o) :: S => some (br2 A S o (rB c 0 0) t n)
  | _ => none
theorem cStp_if {c : Jvm.ClassFile.Cond} {t : Nat} {R : List (Nat × cA)} (h : t_if c t n A = some R) : cStp calls (xBr (xcnd c) t) W none n A R := by
  unfold t_if at h
  split at h
  · rename_i pr o S hS
    cases h
    refine br2_ok (fun loc st hm => ?_)
    obtain ⟨m1, m2, m3, m4⟩ := hm
    rw [hS] at m2
    cases st with
    | nil => exact absurd m2 id
    | cons v st =>
      obtain ⟨⟨x, rfl, -⟩, x1, m2⟩ := m2
      have xl := x.le_toInt
      have xh := x.toInt_lt
      have e0 := i0
      cases c with
      | eq =>
        refine ⟨decide (x = 0), st, x, rfl, m2, x1, ?_⟩
        cases hb : decide (x = 0) with
        | true =>
          have : x = 0 := of_decide_eq_true hb
          rw [this]
          exact ⟨by decide, by decide⟩
        | false => exact ⟨xl, by show x.toInt ≤ 2147483647; omega⟩
      | ne =>
        refine ⟨!decide (x = 0), st, x, rfl, m2, x1, ?_⟩
        cases hb : decide (x = 0) with
        | true =>
          have : x = 0 := of_decide_eq_true hb
          rw [this]
          exact ⟨by decide, by decide⟩
        | false => exact ⟨xl, by show x.toInt ≤ 2147483647; omega⟩
      | lt =>
        refine ⟨decide (x < 0), st, x, rfl, m2, x1, ?_⟩
        cases hb : decide (x < 0) with
        | true =>
          have := Int32.lt_iff_toInt_lt.mp (of_decide_eq_true hb)
          exact ⟨xl, by show x.toInt ≤ 0 - 1; omega⟩
        | false =>
          have : ¬ x.toInt < (0 : Int32).toInt := fun w => of_decide_eq_false hb (Int32.lt_iff_toInt_lt.mpr w)
          exact ⟨by show 0 ≤ x.toInt; omega, by show x.toInt ≤ 2147483647; omega⟩
      | ge =>
        refine ⟨decide (0 ≤ x), st, x, rfl, m2, x1, ?_⟩
        cases hb : decide (0 ≤ x) with
        | true =>
          have := Int32.le_iff_toInt_le.mp (of_decide_eq_true hb)
          exact ⟨by show 0 ≤ x.toInt; omega, by show x.toInt ≤ 2147483647; omega⟩
        | false =>
          have : ¬ (0 : Int32).toInt ≤ x.toInt := fun w => of_decide_eq_false hb (Int32.le_iff_toInt_le.mpr w)
          exact ⟨xl, by show x.toInt ≤ 0 - 1; omega⟩
      | gt =>
        refine ⟨decide (0 < x), st, x, rfl, m2, x1, ?_⟩
        cases hb : decide (0 < x) with
        | true =>
          have := Int32.lt_iff_toInt_lt.mp (of_decide_eq_true hb)
          exact ⟨by show 0 + 1 ≤ x.toInt; omega, by show x.toInt ≤ 2147483647; omega⟩
        | false =>
          have : ¬ (0 : Int32).toInt < x.toInt := fun w => of_decide_eq_false hb (Int32.lt_iff_toInt_lt.mpr w)
          exact ⟨xl, by show x.toInt ≤ 0; omega⟩
      | le =>
        refine ⟨decide (x ≤ 0), st, x, rfl, m2, x1, ?_⟩
        cases hb : decide (x ≤ 0) with
        | true =>
          have := Int32.le_iff_toInt_le.mp (of_decide_eq_true hb)
          exact ⟨xl, by show x.toInt ≤ 0; omega⟩
        | false =>
          have : ¬ x.toInt ≤ (0 : Int32).toInt := fun w => of_decide_eq_false hb (Int32.le_iff_toInt_le.mpr w)
          exact ⟨by show 0 + 1 ≤ x.toInt; omega, by show x.toInt ≤ 2147483647; omega⟩
  · cases h
def t_ic (c : Jvm.ClassFile.Cond) (t n : Nat) (A : cA) : Option (List (Nat × cA)) := match A.2.1 with
  | (.inl (lo, hi), _) :: (.inl _, o) :: S => some (br2 A S o (rB c lo hi) t n)
  | _ => none
theorem cStp_ic {c : Jvm.ClassFile.Cond} {t : Nat} {R : List (Nat × cA)} (h : t_ic c t n A = some R) : cStp calls (xBr (xcmp c) t) W none n A R := by
  unfold t_ic at h
  split at h
  · rename_i lo hi o' pr o S hS
    cases h
    refine br2_ok (fun loc st hm => ?_)
    obtain ⟨m1, m2, m3, m4⟩ := hm
    rw [hS] at m2
    cases st with
    | nil => exact absurd m2 id
    | cons v st =>
      obtain ⟨⟨y, rfl, y1, y2⟩, -, m2⟩ := m2
      cases st with
      | nil => exact absurd m2 id
      | cons v st =>
        obtain ⟨⟨x, rfl, -⟩, x1, m2⟩ := m2
        have xl := x.le_toInt
        have xh := x.toInt_lt
        cases c with
        | eq =>
          refine ⟨decide (x = y), st, x, rfl, m2, x1, ?_⟩
          cases hb : decide (x = y) with
          | true =>
            have : x = y := of_decide_eq_true hb
            rw [this]
            exact ⟨y1, y2⟩
          | false => exact ⟨xl, by show x.toInt ≤ 2147483647; omega⟩
        | ne =>
          refine ⟨!decide (x = y), st, x, rfl, m2, x1, ?_⟩
          cases hb : decide (x = y) with
          | true =>
            have : x = y := of_decide_eq_true hb
            rw [this]
            exact ⟨y1, y2⟩
          | false => exact ⟨xl, by show x.toInt ≤ 2147483647; omega⟩
        | lt =>
          refine ⟨decide (x < y), st, x, rfl, m2, x1, ?_⟩
          cases hb : decide (x < y) with
          | true =>
            have := Int32.lt_iff_toInt_lt.mp (of_decide_eq_true hb)
            exact ⟨xl, by show x.toInt ≤ hi - 1; omega⟩
          | false =>
            have : ¬ x.toInt < y.toInt := fun w => of_decide_eq_false hb (Int32.lt_iff_toInt_lt.mpr w)
            exact ⟨by show lo ≤ x.toInt; omega, by show x.toInt ≤ 2147483647; omega⟩
        | ge =>
          refine ⟨decide (y ≤ x), st, x, rfl, m2, x1, ?_⟩
          cases hb : decide (y ≤ x) with
          | true =>
            have := Int32.le_iff_toInt_le.mp (of_decide_eq_true hb)
            exact ⟨by show lo ≤ x.toInt; omega, by show x.toInt ≤ 2147483647; omega⟩
          | false =>
            have : ¬ y.toInt ≤ x.toInt := fun w => of_decide_eq_false hb (Int32.le_iff_toInt_le.mpr w)
            exact ⟨xl, by show x.toInt ≤ hi - 1; omega⟩
        | gt =>
          refine ⟨decide (y < x), st, x, rfl, m2, x1, ?_⟩
          cases hb : decide (y < x) with
          | true =>
            have := Int32.lt_iff_toInt_lt.mp (of_decide_eq_true hb)
            exact ⟨by show lo + 1 ≤ x.toInt; omega, by show x.toInt ≤ 2147483647; omega⟩
          | false =>
            have : ¬ y.toInt < x.toInt := fun w => of_decide_eq_false hb (Int32.lt_iff_toInt_lt.mpr w)
            exact ⟨xl, by show x.toInt ≤ hi; omega⟩
        | le =>
          refine ⟨decide (x ≤ y), st, x, rfl, m2, x1, ?_⟩
          cases hb : decide (x ≤ y) with
          | true =>
            have := Int32.le_iff_toInt_le.mp (of_decide_eq_true hb)
            exact ⟨xl, by show x.toInt ≤ hi; omega⟩
          | false =>
            have : ¬ x.toInt ≤ y.toInt := fun w => of_decide_eq_false hb (Int32.le_iff_toInt_le.mpr w)
            exact ⟨by show lo + 1 ≤ x.toInt; omega, by show x.toInt ≤ 2147483647; omega⟩
  · cases h
/-! fields -/
/-- all of a class -/
def occ (c : Nat) : List Nat → Bool
  | [] => true
  | a :: l => (Nat.beq (oc a) c && (Nat.blt a 213 && Nat.blt c 12)) && occ c l
theorem occ_ok {c a : Nat} : ∀ {l : List Nat}, occ c l = true → a ∈ l → oc a = c ∧ a < 213 ∧ ¬ oc a = 99
  | [], _, h => absurd h List.not_mem_nil
  | b :: l, h, ha => by
    unfold occ at h
    rw [Bool.and_eq_true, Bool.and_eq_true, Bool.and_eq_true] at h
    rcases List.mem_cons.mp ha with rfl | ha
    · have e := Nat.eq_of_beq_eq_true h.1.1
      have e2 : c + 1 ≤ 12 := Nat.le_of_ble_eq_true h.1.2.2
      exact ⟨e, Nat.le_of_ble_eq_true h.1.2.1, by omega⟩
    · exact occ_ok h.2 ha
def jF (k : Nat) : List Nat → Option cK
  | [] => none
  | a :: l => match l with
    | [] => (fk a)[k]?
    | _ => match (fk a)[k]? with
      | some K => match jF k l with
        | some K' => some (jn K K')
        | none => none
      | none => none
theorem jF_ok {k a : Nat} : ∀ {l : List Nat} {K : cK}, jF k l = some K → a ∈ l → ∃ K0, (fk a)[k]? = some K0 ∧ ∀ v, qvK K0 v → qvK K v
  | [], K, h, _ => by cases h
  | [b], K, h, ha => by
    rw [List.mem_singleton.mp ha]
    exact ⟨K, h, fun _ h => h⟩
  | b :: c :: l, K, h, ha => by
    have h : (match (fk b)[k]? with
      | some K => match jF k (c :: l) with
        | some K' => some (jn K K')
        | none => none
      | none => none) = some K := h
    cases h1 : (fk b)[k]? with
    | none => rw [h1] at h; cases h
    | some K1 =>
      rw [h1] at h
      dsimp only at h
      cases h2 : jF k (c :: l) with
      | none => rw [h2] at h; cases h
      | some K2 =>
        rw [h2] at h
        cases h
        rcases List.mem_cons.mp ha with rfl | ha
        · exact ⟨K1, h1, fun _ h => jn_l h⟩
        · obtain ⟨K0, e1, e2⟩ := jF_ok h2 ha
          exact ⟨K0, e1, fun v h => jn_r (e2 v h)⟩
def t_get (q : Nat × Nat × Nat × Nat) (n : Nat) (A : cA) : Option (List (Nat × cA)) := match A.2.1 with
  | (.inr (.inl T), _) :: S => match Nat.ble q.2.2.1 3 && occ q.1 T with
    | true => match jF q.2.1 T with
      | some K => some [(n + 1, (A.1, (K, none) :: S, A.2.2))]
      | none => none
    | false => none
  | _ => none
theorem cStp_get {q : Nat × Nat × Nat × Nat} {R : List (Nat × cA)} (h : t_get q n A = some R) : cStp calls (xGm (some q)) W none n A R := by
  unfold t_get at h
  split at h
  · rename_i T o S hS
    split at h
    · rename_i hb
      rw [Bool.and_eq_true] at hb
      cases hj : jF q.2.1 T with
      | none => rw [hj] at h; cases h
      | some K =>
        rw [hj] at h
        cases h
        have hx : xGm (some q) = xGet q.1 q.2.1 := by
          obtain ⟨a, b, c, d⟩ := q
          have hc := Nat.le_of_ble_eq_true hb.1
          have hc : c ≤ 3 := hc
          match c, hc with
          | 0, _ => rfl
          | 1, _ => rfl
          | 2, _ => rfl
          | 3, _ => rfl
        rw [hx]
        intro loc st hh cs sl hI hm
        obtain ⟨m1, m2, m3, m4⟩ := hm
        rw [hS] at m2
        cases st with
        | nil => exact absurd m2 id
        | cons v st =>
          obtain ⟨⟨a, rfl, ha⟩, -, m2⟩ := m2
          obtain ⟨o1, o2, o3⟩ := occ_ok hb.2 ha
          obtain ⟨fs, f1, f2, f3⟩ := hI.1 a o2 o3
          obtain ⟨K0, k1, k2⟩ := jF_ok hj ha
          obtain ⟨w, w1, w2⟩ := f3 q.2.1 K0 k1
          refine ⟨none, loc, w :: st, hh, 0, 0, n + 1, _, ?_, List.mem_cons_self, rfl, ⟨m1, ⟨k2 w w2, noAl, m2⟩, m3, m4⟩, CST_rf hI, cgd_rf⟩
          unfold xGet
          dsimp only
          rw [f1, o1]
          dsimp only
          rw [Nat.beq_refl, w1]
          rfl
    · cases h
  · cases h
def wmem (q : Nat × Nat) : List (Nat × Nat) → Bool
  | [] => false
  | p :: l => (Nat.beq p.1 q.1 && Nat.beq p.2 q.2) || wmem q l
theorem wmem_ok {q : Nat × Nat} : ∀ {l : List (Nat × Nat)}, wmem q l = true → q ∈ l
  | [], h => by cases h
  | p :: l, h => by
    unfold wmem at h
    rw [Bool.or_eq_true] at h
    rcases h with h | h
    · rw [Bool.and_eq_true] at h
      have e : p = q := Prod.ext (Nat.eq_of_beq_eq_true h.1) (Nat.eq_of_beq_eq_true h.2)
      rw [e]
      exact List.mem_cons_self
    · exact List.mem_cons_of_mem _ (wmem_ok h)
/-- every one of these cells may hold it there -/
def pall (K : cK) (k : Nat) : List Nat → Bool
  | [] => true
  | a :: l => (match (fk a)[k]? with
    | some K' => kle K K'
    | none => false) && pall K k l
theorem pall_ok {K : cK} {k a : Nat} : ∀ {l : List Nat}, pall K k l = true → a ∈ l → ∃ K', (fk a)[k]? = some K' ∧ kle K K' = true
  | [], _, h => absurd h List.not_mem_nil
  | b :: l, h, ha => by
    unfold pall at h
    rw [Bool.and_eq_true] at h
    rcases List.mem_cons.mp ha with rfl | ha
    · have h1 := h.1
      cases hq : (fk a)[k]? with
      | none => rw [hq] at h1; cases h1
      | some K' =>
        rw [hq] at h1
        exact ⟨K', rfl, h1⟩
    · exact pall_ok h.2 ha
/-- every one of these cells is among those that are written -/
def wall (k : Nat) (W : List (Nat × Nat)) : List Nat → Bool
  | [] => true
  | a :: l => wmem (wc a, k) W && wall k W l
theorem wall_ok {k a : Nat} {W : List (Nat × Nat)} : ∀ {l : List Nat}, wall k W l = true → a ∈ l → (wc a, k) ∈ W
  | [], _, h => absurd h List.not_mem_nil
  | b :: l, h, ha => by
    unfold wall at h
    rw [Bool.and_eq_true] at h
    rcases List.mem_cons.mp ha with rfl | ha
    · exact wmem_ok h.1
    · exact wall_ok h.2 ha
/-- by the field's tag -/
def ptg : Nat → cK → Bool
  | 0, .inl (_, _) => true
  | 1, .inl (lo, hi) => decide (0 ≤ lo) && decide (hi ≤ 1)
  | 2, .inr (.inl _) => true
  | _, _ => false
theorem ptg_ok {t : Nat} {K : cK} {v : Value} (h : ptg t K = true) (hv : qvK K v) : xfT t v = true := by
  rcases t with _ | _ | _ | t <;> cases K using cKe <;> first
    | (cases h; done)
    | (obtain ⟨x, rfl, -⟩ := hv; rfl)
    | skip
  rename_i lo hi
  obtain ⟨x, rfl, x1, x2⟩ := hv
  have h : (decide (0 ≤ lo) && decide (hi ≤ 1)) = true := h
  rw [Bool.and_eq_true] at h
  have h1 := of_decide_eq_true h.1
  have h2 := of_decide_eq_true h.2
  have hx : x = 0 ∨ x = 1 := by
    have : x.toInt = 0 ∨ x.toInt = 1 := by omega
    rcases this with e | e
    · exact Or.inl (Int32.toInt_inj.mp (e.trans (by decide)))
    · exact Or.inr (Int32.toInt_inj.mp (e.trans (by decide)))
  rcases hx with rfl | rfl <;> rfl
def t_put (q : Nat × Nat × Nat × Nat) (W : List (Nat × Nat)) (n : Nat) (A : cA) : Option (List (Nat × cA)) := match A.2.1 with
  | kv :: (.inr (.inl T), _) :: S => match (Nat.ble q.2.2.1 1 && occ q.1 T) && ((pall kv.1 q.2.1 T && ptg q.2.2.2 kv.1) && ((wall q.2.1 W T && (!(Nat.beq q.1 4 && Nat.beq q.2.1 14) || wmem (200, 14) W)) && !(Nat.beq q.1 6 && Nat.ble q.2.1 1))) with
    | true => some [(n + 1, (A.1, S, A.2.2))]
    | false => none
  | _ => none
theorem cStp_put {q : Nat × Nat × Nat × Nat} {R : List (Nat × cA)} (h : t_put q W n A = some R) : cStp calls (xPm false (some q)) W none n A R := by
  unfold t_put at h
  split at h
  · rename_i kv T o S hS
    split at h
    · rename_i hb
      cases h
      rw [Bool.and_eq_true, Bool.and_eq_true, Bool.and_eq_true, Bool.and_eq_true, Bool.and_eq_true, Bool.and_eq_true] at hb
      obtain ⟨⟨b1, b2⟩, ⟨b3, b4⟩, ⟨b5, b7⟩, b6⟩ := hb
      have hx : xPm false (some q) = xPut q.1 q.2.1 q.2.2.2 := by
        obtain ⟨a, b, c, d⟩ := q
        have hc := Nat.le_of_ble_eq_true b1
        have hc : c ≤ 1 := hc
        match c, hc with
        | 0, _ => rfl
        | 1, _ => rfl
      rw [hx]
      intro loc st hh cs sl hI hm
      obtain ⟨m1, m2, m3, m4⟩ := hm
      rw [hS] at m2
      cases st with
      | nil => exact absurd m2 id
      | cons v st =>
        obtain ⟨v1, -, m2⟩ := m2
        cases st with
        | nil => exact absurd m2 id
        | cons w st =>
          obtain ⟨⟨a, rfl, ha⟩, -, m2⟩ := m2
          obtain ⟨o1, o2, o3⟩ := occ_ok b2 ha
          obtain ⟨fs, f1, f2, f3⟩ := hI.1 a o2 o3
          obtain ⟨K', k1, k2⟩ := pall_ok b3 ha
          have hk : q.2.1 < fs.length := by
            rw [f2]
            exact (List.getElem?_eq_some_iff.mp k1).1
          have h6 : ¬ (oc a = 6 ∧ q.2.1 ≤ 1) := fun w => by
            rw [← o1, w.1, Nat.ble_eq_true_of_le w.2] at b6
            cases b6
          have hc := put_gen (W := W) hI o2 o3 f1 k1 (kle_ok k2 v1) h6 (wall_ok b5 ha) (by
            rw [Bool.or_eq_true] at b7
            rcases b7 with b7 | b7
            · refine Or.inr (Or.inl (fun w => ?_))
              rw [← o1, w.1, w.2] at b7
              cases b7
            · exact Or.inl (wmem_ok b7))
          rw [o1] at hc
          refine ⟨none, loc, st, hh.set a (.inr (q.1, fs.set q.2.1 v)), 0, 0, n + 1, _, ?_, List.mem_cons_self, rfl, ⟨m1, m2, m3, m4⟩, hc, cgd_rf⟩
          unfold xPut
          dsimp only
          rw [f1, o1]
          dsimp only
          rw [Nat.beq_refl, show Nat.blt q.2.1 fs.length = true from Nat.ble_eq_true_of_le hk, ptg_ok b4 v1]
          rfl
    · cases h
  · cases h
/-! calls -/
theorem aOK_rev {loc : cLoc} : ∀ {T : kS} {vs : List Value} {B : List cK} {ws : List Value}, mS loc T vs → aOK B ws → aOK ((T.map (·.1)).reverse ++ B) (vs.reverse ++ ws)
  | [], [], B, ws, _, h => h
  | [], v :: vs, B, ws, h, _ => absurd h id
  | q :: T, [], B, ws, h, _ => absurd h id
  | q :: T, v :: vs, B, ws, h, hB => by
    obtain ⟨h1, -, h3⟩ := h
    have := aOK_rev (T := T) (vs := vs) (B := q.1 :: B) (ws := v :: ws) h3 ⟨h1, hB⟩
    rw [List.map_cons, List.reverse_cons, List.reverse_cons, List.append_assoc, List.append_assoc]
    exact this
def kles : List cK → List cK → Bool
  | [], [] => true
  | a :: A, b :: B => kle a b && kles A B
  | _, _ => false
theorem kles_ok : ∀ {A B : List cK} {vs : List Value}, kles A B = true → aOK A vs → aOK B vs
  | [], [], vs, _, h => h
  | [], b :: B, vs, h, _ => by cases h
  | a :: A, [], vs, h, _ => by cases h
  | a :: A, b :: B, [], _, h => absurd h id
  | a :: A, b :: B, v :: vs, h, hm => by
    unfold kles at h
    rw [Bool.and_eq_true] at h
    exact ⟨kle_ok h.1 hm.1, kles_ok h.2 hm.2⟩
theorem mS_cut {loc : cLoc} : ∀ {m : Nat} {S : kS} {st : List Value}, mS loc S st → mS loc (S.take m) (st.take m) ∧ mS loc (S.drop m) (st.drop m)
  | 0, S, st, h => by
    refine ⟨?_, h⟩
    rw [List.take_zero, List.take_zero]
    trivial
  | m + 1, [], [], _ => ⟨trivial, trivial⟩
  | m + 1, [], v :: st, h => absurd h id
  | m + 1, q :: S, [], h => absurd h id
  | m + 1, q :: S, v :: st, h => by
    obtain ⟨h1, h2⟩ := mS_cut (m := m) h.2.2
    exact ⟨⟨h.1, h.2.1, h1⟩, h2⟩
theorem mS_len {loc : cLoc} : ∀ {S : kS} {st : List Value}, mS loc S st → S.length = st.length
  | [], [], _ => rfl
  | [], v :: st, h => absurd h id
  | q :: S, [], h => absurd h id
  | q :: S, v :: st, h => congrArg (· + 1) (mS_len h.2.2)
def kcs (S : kS) : Nat := (S.map (fun q => kcat q.1)).sum
theorem kcat_2 {K : cK} (h : kcat K ≤ 8) : kcat K ≤ 2 := by
  cases K using cKe with
  | u => exact absurd h (by decide)
  | i a b => exact (by decide : (1 : Nat) ≤ 2)
  | j => exact Nat.le_refl 2
  | r S => exact (by decide : (1 : Nat) ≤ 2)
  | t => exact (by decide : (1 : Nat) ≤ 2)
theorem kcs_ok {loc : cLoc} : ∀ {S : kS} {st : List Value}, mS loc S st → kcs S ≤ 8 → xcs st = kcs S
  | [], [], _, _ => rfl
  | [], v :: st, h, _ => absurd h id
  | q :: S, [], h, _ => absurd h id
  | q :: S, v :: st, h, hk => by
    have e : kcs (q :: S) = kcat q.1 + kcs S := by
      unfold kcs
      rw [List.map_cons, List.sum_cons]
    rw [e] at hk ⊢
    have h1 : kcat q.1 ≤ 2 := kcat_2 (by omega)
    have e2 : xcs (v :: st) = v.category + xcs st := by
      unfold xcs
      rw [List.map_cons, List.sum_cons]
    rw [e2, kcat_ok h1 h.1, kcs_ok h.2.2 (by omega)]
def wsub : List (Nat × Nat) → List (Nat × Nat) → Bool
  | [], _ => true
  | p :: l, W => wmem p W && wsub l W
theorem wsub_ok {W : List (Nat × Nat)} {q : Nat × Nat} : ∀ {l : List (Nat × Nat)}, wsub l W = true → q ∈ l → q ∈ W
  | [], _, h => absurd h List.not_mem_nil
  | p :: l, h, hq => by
    unfold wsub at h
    rw [Bool.and_eq_true] at h
    rcases List.mem_cons.mp hq with rfl | hq
    · exact wmem_ok h.1
    · exact wsub_ok h.2 hq
def rpush : Option cK → kS → kS
  | none, S => S
  | some K, S => (K, none) :: S
/-- the receiver's class -/
def rcv : Option Nat → List cK → Bool
  | none, _ => true
  | some c, .inr (.inl T) :: _ => occ c T
  | _, _ => false
def t_call (q : cSg) (m : Nat) (ci : Option Nat) (W : List (Nat × Nat)) (n : Nat) (A : cA) : Option (List (Nat × cA)) := match (Nat.ble m A.2.1.length && (kles (((A.2.1.take m).map (·.1)).reverse) q.1 && Nat.ble (kcs (A.2.1.drop m)) 8)) && (wsub q.2.2 W && rcv ci q.1) with
  | true => some [(n + 1, (A.1, rpush q.2.1 (A.2.1.drop m), A.2.2))]
  | false => none
theorem cStp_call {j m : Nat} {ci : Option Nat} {q : cSg} {R : List (Nat × cA)} (hc : CTR calls j q) (h : t_call q m ci W n A = some R) : cStp calls (xCall j m ci) W none n A R := by
  unfold t_call at h
  split at h
  · rename_i hb
    cases h
    rw [Bool.and_eq_true, Bool.and_eq_true, Bool.and_eq_true, Bool.and_eq_true] at hb
    obtain ⟨⟨b1, b2, b3⟩, b4, b5⟩ := hb
    intro loc st hh cs sl hI hm
    obtain ⟨m1, m2, m3, m4⟩ := hm
    obtain ⟨s1, s2⟩ := mS_cut (m := m) m2
    have ha : aOK q.1 (st.take m).reverse := by
      have := aOK_rev (B := []) (ws := []) s1 trivial
      rw [List.append_nil, List.append_nil] at this
      exact kles_ok b2 this
    obtain ⟨v, h', cs', sl', e1, e2, e3⟩ := hc hh (st.take m).reverse hI ha
    have hx : xcs (st.drop m) ≤ 8 := by
      rw [kcs_ok s2 (Nat.le_of_ble_eq_true b3)]
      exact Nat.le_of_ble_eq_true b3
    have hr : xrc ci (st.take m).reverse hh = true := by
      cases ci with
      | none => rfl
      | some c =>
        cases hq : q.1 with
        | nil => rw [hq] at b5; cases b5
        | cons K B =>
          rw [hq] at b5 ha
          cases K using cKe with
          | r T =>
            cases hv : (st.take m).reverse with
            | nil => rw [hv] at ha; exact absurd ha id
            | cons w ws =>
              rw [hv] at ha
              obtain ⟨⟨a, rfl, ha'⟩, -⟩ := ha
              obtain ⟨o1, o2, o3⟩ := occ_ok b5 ha'
              obtain ⟨fs, f1, -⟩ := hI.1 a o2 o3
              unfold xrc
              dsimp only
              rw [f1, o1]
              exact Nat.beq_refl c
          | _ => cases b5
    refine ⟨none, loc, v.toList ++ st.drop m, h', cs', sl', n + 1, _, ?_, List.mem_cons_self, rfl, ⟨m1, ?_, m3, m4⟩, CST_mo e3 (fun p hp => wsub_ok b4 hp), cgd_rf⟩
    · unfold xCall
      dsimp only
      have hbb : (Nat.ble m st.length && (Nat.ble (xcs (st.drop m)) 8 && xrc ci (st.take m).reverse hh)) = true := by
        rw [show Nat.ble m st.length = true from by rw [← mS_len m2]; exact b1, Nat.ble_eq_true_of_le hx, hr]
        rfl
      rw [hbb]
      dsimp only
      rw [e1]
    · cases hq : q.2.1 with
      | none =>
        rw [hq] at e2
        have e2 : v = none := e2
        rw [e2]
        exact s2
      | some K =>
        rw [hq] at e2
        obtain ⟨w, rfl, hw⟩ := e2
        exact ⟨hw, noAl, s2⟩
  · cases h
/-- the greater, the smaller -/
def t_mx (n : Nat) (A : cA) : Option (List (Nat × cA)) := match A.2.1 with
  | (.inl (_, _), _) :: (.inl (_, _), _) :: S => match Nat.ble (kcs S) 8 with
    | true => some [(n + 1, (A.1, (kint, none) :: S, A.2.2))]
    | false => none
  | _ => none
theorem cStp_mx {f : xF} {g : Int32 → Int32 → Int32} {R : List (Nat × cA)} (hf : ∀ (loc : cLoc) (x y : Int32) (st : List Value) (h : xH) (cs sl : Nat), xcs st ≤ 8 → f calls (loc, .int y :: .int x :: st, h, cs, sl) = some (.inl (none, (loc, .int (g x y) :: st, h, cs, sl)))) (h : t_mx n A = some R) : cStp calls f W none n A R := by
  unfold t_mx at h
  split at h
  · rename_i lo hi o lo' hi' o' S hS
    split at h
    · rename_i hb
      cases h
      intro loc st hh cs sl hI hm
      obtain ⟨m1, m2, m3, m4⟩ := hm
      rw [hS] at m2
      cases st with
      | nil => exact absurd m2 id
      | cons v st =>
        obtain ⟨⟨y, rfl, -⟩, -, m2⟩ := m2
        cases st with
        | nil => exact absurd m2 id
        | cons v st =>
          obtain ⟨⟨x, rfl, -⟩, -, m2⟩ := m2
          have hx : xcs st ≤ 8 := by
            rw [kcs_ok m2 (Nat.le_of_ble_eq_true hb)]
            exact Nat.le_of_ble_eq_true hb
          exact ⟨none, loc, .int (g x y) :: st, hh, 0, 0, n + 1, _, hf loc x y st hh cs sl hx, List.mem_cons_self, rfl, ⟨m1, ⟨vK_int _, noAl, m2⟩, m3, m4⟩, CST_rf hI, cgd_rf⟩
    · cases h
  · cases h
end STQ
