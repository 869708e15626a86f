/-! ===== the class: kinds of values ===== -/
abbrev cK : Type := (Int × Int) ⊕ (List Nat ⊕ Option Bool)
/-- what a value of a kind is; r: a reference to one of these cells; t: to a text -/
def qvK : cK → Value → Prop
  | (.inr (.inr none)), _ => True
  | .inl (lo, hi), v => ∃ x : Int32, v = .int x ∧ lo ≤ x.toInt ∧ x.toInt ≤ hi
  | (.inr (.inr (some true))), v => ∃ x : Int64, v = .long x
  | .inr (.inl S), v => ∃ a : Nat, v = .ref a ∧ a ∈ S
  | (.inr (.inr (some false))), v => ∃ k : Nat, v = .ref (1000000 + k) ∧ k < 7
theorem cKe {motive : cK → Prop} (u : motive (.inr (.inr none))) (i : ∀ a b, motive (.inl (a, b))) (j : motive (.inr (.inr (some true)))) (r : ∀ S, motive (.inr (.inl S))) (t : motive (.inr (.inr (some false)))) (K : cK) : motive K := match K with
  | .inl (a, b) => i a b
  | .inr (.inl S) => r S
  | (.inr (.inr none)) => u
  | (.inr (.inr (some true))) => j
  | (.inr (.inr (some false))) => t
def kint : cK := .inl ((-2147483648), 2147483647)
theorem vK_int (x : Int32) : qvK kint (.int x) := ⟨x, rfl, x.le_toInt, Int.le_of_lt_add_one x.toInt_lt⟩
theorem kI_of {K : cK} {lo hi : Int} {v : Value} (e : K = .inl (lo, hi)) (h : qvK K v) : ∃ x : Int32, v = .int x ∧ lo ≤ x.toInt ∧ x.toInt ≤ hi := by
  rw [e] at h
  exact h
def cmem (a : Nat) : List Nat → Bool
  | [] => false
  | b :: l => match Nat.beq a b with
    | true => true
    | false => cmem a l
theorem cmem_ok {a : Nat} : ∀ {l : List Nat}, cmem a l = true → a ∈ l
  | [], h => by cases h
  | b :: l, h => by
    unfold cmem at h
    cases hb : Nat.beq a b with
    | true =>
      rw [Nat.eq_of_beq_eq_true hb]
      exact List.mem_cons_self
    | false =>
      rw [hb] at h
      exact List.mem_cons_of_mem _ (cmem_ok h)
def csub : List Nat → List Nat → Bool
  | [], _ => true
  | a :: l, T => cmem a T && csub l T
theorem csub_ok {T : List Nat} {a : Nat} : ∀ {l : List Nat}, csub l T = true → a ∈ l → a ∈ T
  | [], _, h => absurd h List.not_mem_nil
  | b :: l, h, ha => by
    unfold csub at h
    rw [Bool.and_eq_true] at h
    rcases List.mem_cons.mp ha with rfl | ha
    · exact cmem_ok h.1
    · exact csub_ok h.2 ha
def kle : cK → cK → Bool
  | _, (.inr (.inr none)) => true
  | .inl (a, b), .inl (c, d) => decide (c ≤ a) && decide (b ≤ d)
  | (.inr (.inr (some true))), (.inr (.inr (some true))) => true
  | .inr (.inl S), .inr (.inl T) => csub S T
  | (.inr (.inr (some false))), (.inr (.inr (some false))) => true
  | _, _ => false
theorem kle_ok {K K' : cK} {v : Value} (h : kle K K' = true) (hv : qvK K v) : qvK K' v := by
  cases K' using cKe with
  | u => trivial
  | i c d =>
    cases K using cKe with
    | i a b =>
      obtain ⟨x, e, h1, h2⟩ := hv
      have h : (decide (c ≤ a) && decide (b ≤ d)) = true := h
      rw [Bool.and_eq_true] at h
      exact ⟨x, e, Int.le_trans (of_decide_eq_true h.1) h1, Int.le_trans h2 (of_decide_eq_true h.2)⟩
    | _ => cases h
  | j =>
    cases K using cKe with
    | j => exact hv
    | _ => cases h
  | r T =>
    cases K using cKe with
    | r S =>
      obtain ⟨a, e, h1⟩ := hv
      exact ⟨a, e, csub_ok h h1⟩
    | _ => cases h
  | t =>
    cases K using cKe with
    | t => exact hv
    | _ => cases h
def jn : cK → cK → cK
  | .inl (a, b), .inl (c, d) => .inl ((min a c), (max b d))
  | (.inr (.inr (some true))), (.inr (.inr (some true))) => (.inr (.inr (some true)))
  | .inr (.inl S), .inr (.inl T) => .inr (.inl (S ++ T))
  | (.inr (.inr (some false))), (.inr (.inr (some false))) => (.inr (.inr (some false)))
  | _, _ => (.inr (.inr none))
theorem jn_l {K K' : cK} {v : Value} (hv : qvK K v) : qvK (jn K K') v := by
  cases K using cKe <;> cases K' using cKe <;> first | trivial | exact hv | skip
  · obtain ⟨x, e, h1, h2⟩ := hv
    exact ⟨x, e, Int.le_trans (Int.min_le_left _ _) h1, Int.le_trans h2 (Int.le_max_left _ _)⟩
  · obtain ⟨a, e, h1⟩ := hv
    exact ⟨a, e, List.mem_append_left _ h1⟩
theorem jn_r {K K' : cK} {v : Value} (hv : qvK K' v) : qvK (jn K K') v := by
  cases K using cKe <;> cases K' using cKe <;> first | trivial | exact hv | skip
  · obtain ⟨x, e, h1, h2⟩ := hv
    exact ⟨x, e, Int.le_trans (Int.min_le_right _ _) h1, Int.le_trans h2 (Int.le_max_right _ _)⟩
  · obtain ⟨a, e, h1⟩ := hv
    exact ⟨a, e, List.mem_append_right _ h1⟩
/-- how many slots a value of a kind takes -/
def kcat : cK → Nat
  | (.inr (.inr (some true))) => 2
  | (.inr (.inr none)) => 99
  | _ => 1
theorem kcat_ok {K : cK} {v : Value} (h : kcat K ≤ 2) (hv : qvK K v) : v.category = kcat K := by
  cases K using cKe with
  | u => exact absurd h (by decide)
  | i a b => obtain ⟨x, rfl, -⟩ := hv; rfl
  | j => obtain ⟨x, rfl⟩ := hv; rfl
  | r S => obtain ⟨a, rfl, -⟩ := hv; rfl
  | t => obtain ⟨k, rfl, -⟩ := hv; rfl
def ocL : List Nat := [11, 6, 99, 4, 9, 6, 99, 6, 99, 6, 99, 6, 99, 6, 99, 6, 99, 6, 99, 6, 99, 6, 99, 6, 99, 6, 99, 6, 99, 6, 99, 6, 99, 6, 99, 6, 99, 6, 99, 4, 9, 6, 99, 6, 99, 6, 99, 6, 99, 6, 99, 6, 99, 6, 99, 6, 99, 6, 99, 6, 99, 6, 99, 6, 99, 6, 99, 6, 99, 6, 99, 6, 99, 6, 99, 7, 6, 99, 6, 99, 6, 99, 5, 10, 1, 0, 9, 6, 99, 6, 99, 6, 99, 6, 99, 6, 99, 6, 99, 6, 99, 6, 99, 6, 99, 2, 6, 99, 6, 99, 99, 6, 99, 6, 99, 6, 99, 6, 99, 6, 99, 6, 99, 6, 99, 6, 99, 6, 99, 6, 99, 6, 99, 6, 99, 6, 99, 6, 99, 6, 99, 6, 99, 6, 99, 6, 99, 6, 99, 6, 99, 6, 99, 6, 99, 6, 99, 6, 99, 6, 99, 6, 99, 6, 99, 6, 99, 6, 99, 6, 99, 6, 99, 6, 99, 6, 99, 6, 99, 6, 99, 6, 99, 6, 99, 6, 99, 6, 99, 6, 99, 6, 99, 6, 99, 6, 99, 8, 6, 99, 6, 99, 6, 99, 6, 99, 3, 6, 99, 6, 99, 6, 99]
def fkL : List (List cK) := [[.inr (.inl [1]), .inr (.inl [75]), .inr (.inl [82]), .inr (.inl [83]), .inr (.inl [84]), .inr (.inl [85]), .inr (.inl [105]), .inr (.inl [197]), .inr (.inl [206]), .inr (.inl [3, 39]), .inr (.inl [3, 39]), .inl (0, 1), .inl ((-2147483648), 2147483647)], [.inl ((-2147483648), 2147483647), (.inr (.inr none)), .inl (0, 4000)], [], [.inr (.inl [4]), .inr (.inl [21]), .inr (.inl [23]), .inr (.inl [25]), .inr (.inl [27]), .inr (.inl [29]), .inr (.inl [31]), .inr (.inl [33]), .inr (.inl [35]), .inr (.inl [37]), .inl (0, 2000000000), .inl (0, 5000), .inl ((-2147483648), 2147483647), .inl ((-2147483648), 2147483647), .inl ((-2147483648), 2147483647)], [.inr (.inl [5]), .inr (.inl [7]), .inr (.inl [9]), .inr (.inl [11]), .inr (.inl [13]), .inr (.inl [15]), .inr (.inl [17]), .inr (.inl [19])], [.inl ((-2147483648), 2147483647), (.inr (.inr none)), .inl (0, 4000)], [], [.inl ((-2147483648), 2147483647), (.inr (.inr none)), .inl (0, 4002)], [], [.inl ((-2147483648), 2147483647), (.inr (.inr none)), .inl (0, 4002)], [], [.inl ((-2147483648), 2147483647), (.inr (.inr none)), .inl (0, 4002)], [], [.inl ((-2147483648), 2147483647), (.inr (.inr none)), .inl (0, 4002)], [], [.inl ((-2147483648), 2147483647), (.inr (.inr none)), .inl (0, 4002)], [], [.inl ((-2147483648), 2147483647), (.inr (.inr none)), .inl (0, 64)], [], [.inl ((-2147483648), 2147483647), (.inr (.inr none)), .inl (0, 4002)], [], [.inl ((-2147483648), 2147483647), (.inr (.inr none)), .inl (0, 82938)], [], [.inl ((-2147483648), 2147483647), (.inr (.inr none)), .inl (0, 64200)], [], [.inl ((-2147483648), 2147483647), (.inr (.inr none)), .inl (0, 24)], [], [.inl ((-2147483648), 2147483647), (.inr (.inr none)), .inl (0, 144)], [], [.inl ((-2147483648), 2147483647), (.inr (.inr none)), .inl (0, 600)], [], [.inl ((-2147483648), 2147483647), (.inr (.inr none)), .inl (0, 20000)], [], [.inl ((-2147483648), 2147483647), (.inr (.inr none)), .inl (0, 20000)], [], [.inl ((-2147483648), 2147483647), (.inr (.inr none)), .inl (0, 252)], [], [.inl ((-2147483648), 2147483647), (.inr (.inr none)), .inl (0, 24000)], [], [.inr (.inl [40]), .inr (.inl [57]), .inr (.inl [59]), .inr (.inl [61]), .inr (.inl [63]), .inr (.inl [65]), .inr (.inl [67]), .inr (.inl [69]), .inr (.inl [71]), .inr (.inl [73]), .inl (0, 2000000000), .inl (0, 5000), .inl ((-2147483648), 2147483647), .inl ((-2147483648), 2147483647), .inl ((-2147483648), 2147483647)], [.inr (.inl [41]), .inr (.inl [43]), .inr (.inl [45]), .inr (.inl [47]), .inr (.inl [49]), .inr (.inl [51]), .inr (.inl [53]), .inr (.inl [55])], [.inl ((-2147483648), 2147483647), (.inr (.inr none)), .inl (0, 4000)], [], [.inl ((-2147483648), 2147483647), (.inr (.inr none)), .inl (0, 4002)], [], [.inl ((-2147483648), 2147483647), (.inr (.inr none)), .inl (0, 4002)], [], [.inl ((-2147483648), 2147483647), (.inr (.inr none)), .inl (0, 4002)], [], [.inl ((-2147483648), 2147483647), (.inr (.inr none)), .inl (0, 4002)], [], [.inl ((-2147483648), 2147483647), (.inr (.inr none)), .inl (0, 4002)], [], [.inl ((-2147483648), 2147483647), (.inr (.inr none)), .inl (0, 64)], [], [.inl ((-2147483648), 2147483647), (.inr (.inr none)), .inl (0, 4002)], [], [.inl ((-2147483648), 2147483647), (.inr (.inr none)), .inl (0, 82938)], [], [.inl ((-2147483648), 2147483647), (.inr (.inr none)), .inl (0, 64200)], [], [.inl ((-2147483648), 2147483647), (.inr (.inr none)), .inl (0, 24)], [], [.inl ((-2147483648), 2147483647), (.inr (.inr none)), .inl (0, 144)], [], [.inl ((-2147483648), 2147483647), (.inr (.inr none)), .inl (0, 600)], [], [.inl ((-2147483648), 2147483647), (.inr (.inr none)), .inl (0, 20000)], [], [.inl ((-2147483648), 2147483647), (.inr (.inr none)), .inl (0, 20000)], [], [.inl ((-2147483648), 2147483647), (.inr (.inr none)), .inl (0, 252)], [], [.inl ((-2147483648), 2147483647), (.inr (.inr none)), .inl (0, 24000)], [], [.inr (.inl [3, 39]), .inr (.inl [21, 57]), .inr (.inl [25, 61]), .inl ((-2147483648), 2147483647), .inl ((-2147483648), 2147483647), .inl ((-2147483648), 2147483647), .inl ((-2147483648), 2147483647), .inr (.inl [76]), .inr (.inl [78]), .inr (.inl [80])], [.inl ((-2147483648), 2147483647), (.inr (.inr none)), .inl (0, 24)], [], [.inl ((-2147483648), 2147483647), (.inr (.inr none)), .inl (0, 24)], [], [.inl ((-2147483648), 2147483647), (.inr (.inr none)), .inl (0, 24)], [], [.inr (.inl [3, 39]), .inr (.inl [4, 40]), .inr (.inl [7, 43]), .inl (0, 5000)], [.inr (.inl [75]), .inr (.inl [3, 39]), .inr (.inl [4, 40, 86])], [.inr (.inl [75]), .inr (.inl [83]), .inr (.inl [3, 39]), .inr (.inl [4, 40]), .inr (.inl [7, 43]), .inl ((-2147483648), 2147483647), .inl ((-2147483648), 2147483647), .inl ((-2147483648), 2147483647)], [.inr (.inl [86]), .inr (.inl [103]), .inr (.inl [75]), .inr (.inl [83]), .inl (0, 1), .inl ((-2147483648), 2147483647), .inl ((-2147483648), 2147483647)], [.inr (.inl [87]), .inr (.inl [89]), .inr (.inl [91]), .inr (.inl [93]), .inr (.inl [95]), .inr (.inl [97]), .inr (.inl [99]), .inr (.inl [101])], [.inl ((-2147483648), 2147483647), (.inr (.inr none)), .inl (0, 4000)], [], [.inl ((-2147483648), 2147483647), (.inr (.inr none)), .inl (0, 4002)], [], [.inl ((-2147483648), 2147483647), (.inr (.inr none)), .inl (0, 4002)], [], [.inl ((-2147483648), 2147483647), (.inr (.inr none)), .inl (0, 4002)], [], [.inl ((-2147483648), 2147483647), (.inr (.inr none)), .inl (0, 4002)], [], [.inl ((-2147483648), 2147483647), (.inr (.inr none)), .inl (0, 4002)], [], [.inl ((-2147483648), 2147483647), (.inr (.inr none)), .inl (0, 64)], [], [.inl ((-2147483648), 2147483647), (.inr (.inr none)), .inl (0, 4002)], [], [.inl ((-2147483648), 2147483647), (.inr (.inr none)), .inl (0, 4000)], [], [.inr (.inl [75]), .inr (.inl [106]), .inr (.inl [108]), .inr (.inl [110]), .inr (.inl [111]), .inr (.inl [3, 39]), .inl ((-2147483648), 2147483647), .inl ((-2147483648), 2147483647), .inl ((-2147483648), 2147483647), .inl ((-2147483648), 2147483647), .inl ((-2147483648), 2147483647), .inl ((-2147483648), 2147483647), .inl ((-2147483648), 2147483647), .inl ((-2147483648), 2147483647), .inl ((-2147483648), 2147483647)], [.inl ((-2147483648), 2147483647), (.inr (.inr none)), .inl (0, 4000)], [], [.inl ((-2147483648), 2147483647), (.inr (.inr none)), .inl (0, 82)], [], [], [.inl ((-2147483648), 2147483647), (.inr (.inr none)), .inl (0, 35000)], [], [.inl ((-2147483648), 2147483647), (.inr (.inr none)), .inl (0, 24)], [], [.inl ((-2147483648), 2147483647), (.inr (.inr none)), .inl (0, 24)], [], [.inl ((-2147483648), 2147483647), (.inr (.inr none)), .inl (0, 24)], [], [.inl ((-2147483648), 2147483647), (.inr (.inr none)), .inl (0, 24)], [], [.inl ((-2147483648), 2147483647), (.inr (.inr none)), .inl (0, 24)], [], [.inl ((-2147483648), 2147483647), (.inr (.inr none)), .inl (0, 24)], [], [.inl ((-2147483648), 2147483647), (.inr (.inr none)), .inl (0, 24)], [], [.inl ((-2147483648), 2147483647), (.inr (.inr none)), .inl (0, 24)], [], [.inl ((-2147483648), 2147483647), (.inr (.inr none)), .inl (0, 24)], [], [.inl ((-2147483648), 2147483647), (.inr (.inr none)), .inl (0, 24)], [], [.inl ((-2147483648), 2147483647), (.inr (.inr none)), .inl (0, 24)], [], [.inl ((-2147483648), 2147483647), (.inr (.inr none)), .inl (0, 24)], [], [.inl ((-2147483648), 2147483647), (.inr (.inr none)), .inl (0, 24)], [], [.inl ((-2147483648), 2147483647), (.inr (.inr none)), .inl (0, 24)], [], [.inl ((-2147483648), 2147483647), (.inr (.inr none)), .inl (0, 24)], [], [.inl ((-2147483648), 2147483647), (.inr (.inr none)), .inl (0, 24)], [], [.inl ((-2147483648), 2147483647), (.inr (.inr none)), .inl (0, 24)], [], [.inl ((-2147483648), 2147483647), (.inr (.inr none)), .inl (0, 24)], [], [.inl ((-2147483648), 2147483647), (.inr (.inr none)), .inl (0, 24)], [], [.inl ((-2147483648), 2147483647), (.inr (.inr none)), .inl (0, 24)], [], [.inl ((-2147483648), 2147483647), (.inr (.inr none)), .inl (0, 24)], [], [.inl ((-2147483648), 2147483647), (.inr (.inr none)), .inl (0, 24)], [], [.inl ((-2147483648), 2147483647), (.inr (.inr none)), .inl (0, 24)], [], [.inl ((-2147483648), 2147483647), (.inr (.inr none)), .inl (0, 24)], [], [.inl ((-2147483648), 2147483647), (.inr (.inr none)), .inl (0, 24)], [], [.inl ((-2147483648), 2147483647), (.inr (.inr none)), .inl (0, 24)], [], [.inl ((-2147483648), 2147483647), (.inr (.inr none)), .inl (0, 24)], [], [.inl ((-2147483648), 2147483647), (.inr (.inr none)), .inl (0, 24)], [], [.inl ((-2147483648), 2147483647), (.inr (.inr none)), .inl (0, 24)], [], [.inl ((-2147483648), 2147483647), (.inr (.inr none)), .inl (0, 24)], [], [.inl ((-2147483648), 2147483647), (.inr (.inr none)), .inl (0, 24)], [], [.inl ((-2147483648), 2147483647), (.inr (.inr none)), .inl (0, 24)], [], [.inl ((-2147483648), 2147483647), (.inr (.inr none)), .inl (0, 24)], [], [.inl ((-2147483648), 2147483647), (.inr (.inr none)), .inl (0, 24)], [], [.inl ((-2147483648), 2147483647), (.inr (.inr none)), .inl (0, 24)], [], [.inl ((-2147483648), 2147483647), (.inr (.inr none)), .inl (0, 24)], [], [.inl ((-2147483648), 2147483647), (.inr (.inr none)), .inl (0, 24)], [], [.inl ((-2147483648), 2147483647), (.inr (.inr none)), .inl (0, 24)], [], [.inl ((-2147483648), 2147483647), (.inr (.inr none)), .inl (0, 24)], [], [.inl ((-2147483648), 2147483647), (.inr (.inr none)), .inl (0, 24)], [], [.inl ((-2147483648), 2147483647), (.inr (.inr none)), .inl (0, 24)], [], [.inl ((-2147483648), 2147483647), (.inr (.inr none)), .inl (0, 24)], [], [.inr (.inl [75]), .inr (.inl [198]), .inr (.inl [200]), .inr (.inl [202]), .inr (.inl [204]), .inr (.inl [3, 39]), .inr (.inl [21, 57]), .inl ((-2147483648), 2147483647), .inl (0, 1), .inl (0, 1), .inl (0, 1)], [.inl ((-2147483648), 2147483647), (.inr (.inr none)), .inl (0, 151)], [], [.inl ((-2147483648), 2147483647), (.inr (.inr none)), .inl (0, 1510)], [], [.inl ((-2147483648), 2147483647), (.inr (.inr none)), .inl (0, 1359)], [], [.inl ((-2147483648), 2147483647), (.inr (.inr none)), .inl (0, 9)], [], [.inr (.inl [207]), .inr (.inl [209]), .inr (.inl [211]), .inr (.inl [3, 39])], [.inl ((-2147483648), 2147483647), (.inr (.inr none)), .inl (0, 2000)], [], [.inl ((-2147483648), 2147483647), (.inr (.inr none)), .inl (0, 4000)], [], [.inl ((-2147483648), 2147483647), (.inr (.inr none)), .inl (0, 61)], []]
def limL : List Nat := [0, 4000, 0, 0, 0, 4000, 0, 4002, 0, 4002, 0, 4002, 0, 4002, 0, 4002, 0, 64, 0, 4002, 0, 82938, 0, 64200, 0, 24, 0, 144, 0, 600, 0, 20000, 0, 20000, 0, 252, 0, 24000, 0, 0, 0, 4000, 0, 4002, 0, 4002, 0, 4002, 0, 4002, 0, 4002, 0, 64, 0, 4002, 0, 82938, 0, 64200, 0, 24, 0, 144, 0, 600, 0, 20000, 0, 20000, 0, 252, 0, 24000, 0, 0, 24, 0, 24, 0, 24, 0, 0, 0, 0, 0, 0, 4000, 0, 4002, 0, 4002, 0, 4002, 0, 4002, 0, 4002, 0, 64, 0, 4002, 0, 4000, 0, 0, 4000, 0, 82, 0, 0, 35000, 0, 24, 0, 24, 0, 24, 0, 24, 0, 24, 0, 24, 0, 24, 0, 24, 0, 24, 0, 24, 0, 24, 0, 24, 0, 24, 0, 24, 0, 24, 0, 24, 0, 24, 0, 24, 0, 24, 0, 24, 0, 24, 0, 24, 0, 24, 0, 24, 0, 24, 0, 24, 0, 24, 0, 24, 0, 24, 0, 24, 0, 24, 0, 24, 0, 24, 0, 24, 0, 24, 0, 24, 0, 24, 0, 24, 0, 24, 0, 24, 0, 24, 0, 24, 0, 0, 151, 0, 1510, 0, 1359, 0, 9, 0, 0, 2000, 0, 4000, 0, 61, 0]
def rowL : List Nat := [1, 5, 7, 9, 11, 13, 15, 17, 19, 21, 23, 25, 27, 29, 31, 33, 35, 37, 41, 43, 45, 47, 49, 51, 53, 55, 57, 59, 61, 63, 65, 67, 69, 71, 73, 76, 78, 80, 87, 89, 91, 93, 95, 97, 99, 101, 103, 106, 108, 111, 113, 115, 117, 119, 121, 123, 125, 127, 129, 131, 133, 135, 137, 139, 141, 143, 145, 147, 149, 151, 153, 155, 157, 159, 161, 163, 165, 167, 169, 171, 173, 175, 177, 179, 181, 183, 185, 187, 189, 191, 193, 195, 198, 200, 202, 204, 207, 209, 211]
def ckL : List (Nat × Int × Int) := [(9, 0, 5000), (13, 0, 5000), (15, 0, 7), (17, 0, 5000), (19, 0, 5000), (25, 0, 7), (27, -1, 5000), (29, -1, 5000), (31, -1, 5000), (33, -1, 2000000000), (35, -5000, 5000), (45, 0, 5000), (49, 0, 5000), (51, 0, 7), (53, 0, 5000), (55, 0, 5000), (61, 0, 7), (63, -1, 5000), (65, -1, 5000), (67, -1, 5000), (69, -1, 2000000000), (71, -5000, 5000), (91, 0, 5000), (95, 0, 5000), (99, 0, 5000), (101, 0, 5000)]
def oc (a : Nat) : Nat := ocL.getD a 99
/-- Rows of code -/
def cod (a : Nat) : Bool := Nat.beq a 37 || Nat.beq a 73
/-- the tape's Row, and the Rows of code, stand by themselves -/
def wc (a : Nat) : Nat := match Nat.beq a 1 with
  | true => 100
  | false => match cod a with
    | true => 101
    | false => oc a
def fk (a : Nat) : List cK := fkL.getD a []
def lim (a : Nat) : Nat := limL.getD a 0
/-- what a Row's cells lie between -/
def ckR (a : Nat) : Int × Int := match xlu a ckL with
  | some q => q
  | none => (-2147483648, 2147483647)
/-- what a Row's cell may be: in code, at an even place, not the greatest -/
def cki (a i : Nat) (x : Int32) : Prop := ((ckR a).1 ≤ x.toInt ∧ x.toInt ≤ (ckR a).2) ∧ (cod a = true → i % 2 = 0 → x.toInt < 2147483647)
/-! cells -/
def fld (h : xH) (a k : Nat) : Option Value := match h[a]? with
  | some (.inr q) => q.2[k]?
  | _ => none
theorem rowL_6 : ∀ b ∈ rowL, oc b = 6 := by decide +kernel
def HT (h : xH) : Prop := ∀ a, a < 213 → ¬ oc a = 99 → ∃ fs : List Value, h[a]? = some (.inr (oc a, fs)) ∧ fs.length = (fk a).length ∧ ∀ (k : Nat) (K : cK), (fk a)[k]? = some K → ∃ v, fs[k]? = some v ∧ qvK K v
/-- a Row's cells: where, how many, which -/
def rc (h : xH) (a : Nat) : Option (Nat × Nat × (Nat → Int32)) := match fld h a 1 with
  | some (.ref c) => match h[c]? with
    | some (.inl (0, n, .inl f)) => some (c, n, f)
    | _ => none
  | _ => none
def rn (h : xH) (a : Nat) : Nat := match rc h a with
  | some q => q.2.1
  | none => 0
def clen : xE → Nat
  | .inl q => q.2.1
  | .inr _ => 0
/-- what was made behind the constructors -/
def Sh (h : xH) : Nat := ((h.drop 288).map clen).sum
/-- what a Row may still ask for -/
def fph (L n : Nat) : Nat := 2 * (L - n) + if n < L then L else 0
def qRI (h : xH) : Prop := (∀ a ∈ rowL, fld h a 0 = some (.int (Int32.ofNat (lim a))) ∧ ∃ c n f, rc h a = some (c, n, f) ∧ 9 ≤ n ∧ n ≤ lim a ∧ (c < 213 ∨ 288 ≤ c) ∧ ∀ i, i < n → cki a i (f i)) ∧ (∀ a ∈ rowL, ∀ a' ∈ rowL, ¬ a = a' → ¬ (rc h a).map (·.1) = (rc h a').map (·.1)) ∧ 9 * (h.length - 288) ≤ Sh h ∧ Sh h + (rowL.map (fun a => fph (lim a) (rn h a))).sum ≤ 3000000
/-- the Rows that stand for PARAMS in a run -/
def EVs (h : xH) : Prop := ∃ f : Nat → Option Nat, h[110]? = some (.inl (3, 42, .inr (.inr (.inr (.inr f))))) ∧ ∀ i, i < 42 → f i = some (113 + 2 * i)
def INV (h : xH) : Prop := HT h ∧ qRI h ∧ 288 ≤ h.length ∧ EVs h
theorem EVs_of {h h' : xH} (hE : EVs h) (e : h'[110]? = h[110]?) : EVs h' := by
  obtain ⟨f, f1, f2⟩ := hE
  exact ⟨f, e.trans f1, f2⟩
/-- no fault in this program -/
def flz (h : xH) (P : Nat) : Prop := fld h P 14 = some (.int 0)
/-- what stays: the reference; what is not in W; a fault, but for (200, 14); the tape's cells, but for (100, 1) -/
def FRM (W : List (Nat × Nat)) (h h' : xH) : Prop := ((∀ a, 213 ≤ a → a < 288 → h'[a]? = h[a]?) ∧ ((200, 14) ∈ W ∨ ∀ P, P = 3 ∨ P = 39 → flz h' P → flz h P) ∧ ((100, 1) ∈ W ∨ rc h' 1 = rc h 1)) ∧ ∀ a k, a < 213 → ¬ (wc a, k) ∈ W → fld h' a k = fld h a k
def CST (W : List (Nat × Nat)) (h h' : xH) (cs sl : Nat) : Prop := INV h' ∧ FRM W h h' ∧ h'.length = h.length + cs ∧ Sh h' = Sh h + sl
theorem CST_rf {W : List (Nat × Nat)} {h : xH} (hI : INV h) : CST W h h 0 0 := ⟨hI, ⟨⟨fun _ _ _ => rfl, Or.inr (fun _ _ h => h), Or.inr rfl⟩, fun _ _ _ _ => rfl⟩, rfl, rfl⟩
theorem CST_tr {W : List (Nat × Nat)} {h h' h'' : xH} {cs sl cs' sl' : Nat} (a : CST W h h' cs sl) (b : CST W h' h'' cs' sl') : CST W h h'' (cs + cs') (sl + sl') := by
  obtain ⟨-, ⟨⟨a1, a5, a6⟩, a2⟩, a3, a4⟩ := a
  obtain ⟨b0, ⟨⟨b1, b5, b6⟩, b2⟩, b3, b4⟩ := b
  have c6 : (100, 1) ∈ W ∨ rc h'' 1 = rc h 1 := by
    rcases a6 with a6 | a6
    · exact Or.inl a6
    · rcases b6 with b6 | b6
      · exact Or.inl b6
      · exact Or.inr (b6.trans a6)
  have c5 : (200, 14) ∈ W ∨ ∀ P, P = 3 ∨ P = 39 → flz h'' P → flz h P := by
    rcases a5 with a5 | a5
    · exact Or.inl a5
    · rcases b5 with b5 | b5
      · exact Or.inl b5
      · exact Or.inr (fun P hP w => a5 P hP (b5 P hP w))
  exact ⟨b0, ⟨⟨fun q h1 h2 => (b1 q h1 h2).trans (a1 q h1 h2), c5, c6⟩, fun q k h1 h2 => (b2 q k h1 h2).trans (a2 q k h1 h2)⟩, by omega, by omega⟩
theorem CST_mo {W W' : List (Nat × Nat)} {h h' : xH} {cs sl : Nat} (a : CST W h h' cs sl) (hW : ∀ q ∈ W, q ∈ W') : CST W' h h' cs sl := ⟨a.1, ⟨⟨a.2.1.1.1, a.2.1.1.2.1.imp (hW _) id, a.2.1.1.2.2.imp (hW _) id⟩, fun q k h1 h2 => a.2.1.2 q k h1 (fun w => h2 (hW _ w))⟩, a.2.2⟩
/-- a field is written -/
theorem put_gen {W : List (Nat × Nat)} {h : xH} {a k : Nat} {fs : List Value} {v : Value} {K : cK} (hI : INV h) (ha : a < 213) (hc : ¬ oc a = 99) (hf : h[a]? = some (.inr (oc a, fs))) (hk : (fk a)[k]? = some K) (hv : qvK K v) (h6 : ¬ (oc a = 6 ∧ k ≤ 1)) (hW : (wc a, k) ∈ W) (hz : (200, 14) ∈ W ∨ (¬ (oc a = 4 ∧ k = 14)) ∨ ¬ v = .int 0) : CST W h (h.set a (.inr (oc a, fs.set k v))) 0 0 := by
  obtain ⟨hT, ⟨r1, r2, r3, r4⟩, hl, hE⟩ := hI
  have hal : a < h.length := by omega
  obtain ⟨fs', e1, e2, e3⟩ := hT a ha hc
  have e1' : fs' = fs := by
    rw [hf] at e1
    have := Option.some.inj e1
    have := Sum.inr.inj this
    exact (congrArg Prod.snd this).symm
  subst e1'
  have hkl : k < fs'.length := by
    rw [e2]
    exact (List.getElem?_eq_some_iff.mp hk).1
  have oth : ∀ b, ¬ b = a → (h.set a (.inr (oc a, fs'.set k v)))[b]? = h[b]? := fun b hb => by rw [List.getElem?_set_ne (Ne.symm hb)]
  have own : (h.set a (.inr (oc a, fs'.set k v)))[a]? = some (.inr (oc a, fs'.set k v)) := by rw [List.getElem?_set_self hal]
  have flo : ∀ b q, ¬ (b = a ∧ q = k) → fld (h.set a (.inr (oc a, fs'.set k v))) b q = fld h b q := fun b q hb => by
    unfold fld
    by_cases eb : b = a
    · subst eb
      rw [own, hf]
      show (fs'.set k v)[q]? = fs'[q]?
      rw [List.getElem?_set_ne (fun w => hb ⟨rfl, w.symm⟩)]
    · rw [oth b eb]
  have rce : ∀ b ∈ rowL, rc (h.set a (.inr (oc a, fs'.set k v))) b = rc h b := fun b hb => by
    obtain ⟨-, c, n, f, q1, -⟩ := r1 b hb
    have h6b : oc b = 6 := rowL_6 b hb
    have e : fld (h.set a (.inr (oc a, fs'.set k v))) b 1 = fld h b 1 := flo b 1 (fun w => h6 ⟨by rw [← w.1]; exact h6b, by omega⟩)
    unfold rc at q1 ⊢
    rw [e]
    cases hq : fld h b 1 with
    | none => exact absurd q1 (by rw [hq]; exact fun w => nomatch w)
    | some w =>
      cases w with
      | ref c' =>
        rw [hq] at q1
        dsimp only at q1 ⊢
        have : ¬ c' = a := fun w => by
          rw [w, hf] at q1
          cases q1
        rw [oth c' this]
      | _ => rfl
  have lenE : (h.set a (.inr (oc a, fs'.set k v))).length = h.length := List.length_set
  have shE : Sh (h.set a (.inr (oc a, fs'.set k v))) = Sh h := by
    unfold Sh
    rw [List.drop_set, if_pos (by omega)]
  refine ⟨⟨fun b hb hbc => ?_, ⟨fun b hb => ?_, fun b hb b' hb' hne => ?_, by rw [lenE, shE]; exact r3, ?_⟩, by rw [lenE]; exact hl, EVs_of hE (oth 110 (fun w => by rw [← w] at hc; exact hc (by decide)))⟩, ⟨⟨fun b h1 h2 => oth b (by omega), ?_, Or.inr (rce 1 (show (1 : Nat) ∈ rowL from List.mem_cons_self))⟩, fun b q _ hb => flo b q (fun w => hb (by rw [w.1, w.2]; exact hW))⟩, by rw [lenE]; rfl, by rw [shE]; rfl⟩
  · by_cases eb : b = a
    · subst eb
      refine ⟨fs'.set k v, own, by rw [List.length_set]; exact e2, fun q K' hq => ?_⟩
      by_cases eq : q = k
      · subst eq
        rw [hk] at hq
        rw [← Option.some.inj hq]
        exact ⟨v, List.getElem?_set_self hkl, hv⟩
      · rw [List.getElem?_set_ne (Ne.symm eq)]
        exact e3 q K' hq
    · rw [oth b eb]
      exact hT b hb hbc
  · obtain ⟨q0, q1⟩ := r1 b hb
    rw [rce b hb, flo b 0 (fun w => h6 ⟨by rw [← w.1]; exact rowL_6 b hb, by omega⟩)]
    exact ⟨q0, q1⟩
  · rw [rce b hb, rce b' hb']
    exact r2 b hb b' hb' hne
  · rw [shE]
    refine Nat.le_trans (Nat.add_le_add_left (Nat.le_of_eq ?_) _) r4
    refine congrArg List.sum (List.map_congr_left (fun b hb => ?_))
    unfold rn
    rw [rce b hb]
  · rcases hz with hz | hz | hz
    · exact Or.inl hz
    · refine Or.inr (fun P hP w => ?_)
      have h4 : oc P = 4 := by rcases hP with rfl | rfl <;> decide
      unfold flz at w ⊢
      rw [flo P 14 (fun w' => hz ⟨by rw [← w'.1]; exact h4, w'.2.symm⟩)] at w
      exact w
    · refine Or.inr (fun P hP w => ?_)
      unfold flz at w ⊢
      by_cases e : P = a ∧ 14 = k
      · obtain ⟨rfl, rfl⟩ := e
        unfold fld at w
        rw [own] at w
        have w : (fs'.set 14 v)[14]? = some (.int 0) := w
        rw [List.getElem?_set_self hkl] at w
        exact absurd (Option.some.inj w) hz
      · rw [flo P 14 e] at w
        exact w
theorem put_ok {h : xH} {a k : Nat} {fs : List Value} {v : Value} {K : cK} (hI : INV h) (ha : a < 213) (hc : ¬ oc a = 99) (hf : h[a]? = some (.inr (oc a, fs))) (hk : (fk a)[k]? = some K) (hv : qvK K v) (h6 : ¬ (oc a = 6 ∧ k ≤ 1)) (h4 : ¬ (oc a = 4 ∧ k = 14)) : CST [(wc a, k)] h (h.set a (.inr (oc a, fs.set k v))) 0 0 := put_gen hI ha hc hf hk hv h6 List.mem_cons_self (Or.inr (Or.inl h4))
