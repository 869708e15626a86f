/-! ===== the reference cuts the text: words ===== -/
/-- a sign's number in a word -/
def rkc (c : Int) : Int := if c < 97 then (if c < 65 then c - 48 + 53 else c - 65 + 27) else c - 97 + 1
/-- l signs from k on, as a number -/
def wvl (f : Nat → Int) : Nat → Int
  | 0 => 0
  | l + 1 => 64 * wvl f l + f l
section TWD
variable {d : Nat} {s s' : yS} {a0 : Int32} {c : Int}
theorem lgc_0 {x y : Int64} : (lg_cmp x y).toInt = 0 ↔ x = y := by
  unfold lg_cmp
  by_cases h : x > y
  · rw [if_pos h]
    refine ⟨fun w => absurd w (by decide), fun w => ?_⟩
    subst w
    exact (Int64.lt_irrefl h).elim
  · rw [if_neg h]
    by_cases h2 : x = y
    · rw [if_pos h2]
      exact ⟨fun _ => h2, fun _ => by decide⟩
    · rw [if_neg h2]
      exact ⟨fun w => absurd w (by decide), fun w => absurd w h2⟩
/-- isLetter -/
theorem x_156 : Par d 156 [.int a0] s (fun v s' => s' = s ∧ ∃ r : Int32, v = some (.int r) ∧ ((r.toInt = 1 ∧ isLt a0.toInt = true) ∨ (r.toInt = 0 ∧ isLt a0.toInt = false))) := by
  cases d with
  | zero => exact Par_0
  | succ d =>
    refine pb_156 ?_
    have yes : isLt a0.toInt = true → ub_156_12 (Par d) a0 s (fun v s' => s' = s ∧ ∃ r : Int32, v = some (.int r) ∧ ((r.toInt = 1 ∧ isLt a0.toInt = true) ∨ (r.toInt = 0 ∧ isLt a0.toInt = false))) := fun h => by
      unfold ub_156_12 ub_156_15
      exact fun _ => ⟨rfl, 1, rfl, Or.inl ⟨by decide, h⟩⟩
    have no : isLt a0.toInt = false → ub_156_14 (Par d) a0 s (fun v s' => s' = s ∧ ∃ r : Int32, v = some (.int r) ∧ ((r.toInt = 1 ∧ isLt a0.toInt = true) ∨ (r.toInt = 0 ∧ isLt a0.toInt = false))) := fun h => by
      unfold ub_156_14 ub_156_15
      exact fun _ => ⟨rfl, 0, rfl, Or.inr ⟨by decide, h⟩⟩
    have hl : isLt a0.toInt = true ↔ (97 ≤ a0.toInt ∧ a0.toInt ≤ 122) ∨ (65 ≤ a0.toInt ∧ a0.toInt ≤ 90) := by
      unfold isLt
      simp
    have hn : ¬ ((97 ≤ a0.toInt ∧ a0.toInt ≤ 122) ∨ (65 ≤ a0.toInt ∧ a0.toInt ≤ 90)) → isLt a0.toInt = false := fun w => by
      cases e : isLt a0.toInt with
      | false => rfl
      | true => exact absurd (hl.mp e) w
    unfold ub_156_0 ub_156_6
    exact ⟨fun w => ⟨fun w1 => no (hn (by omega)), fun w1 => ⟨fun w2 => no (hn (by omega)), fun w2 => yes (hl.mpr (by omega))⟩⟩, fun w => ⟨fun w1 => yes (hl.mpr (by omega)), fun w1 => ⟨fun w2 => no (hn (by omega)), fun w2 => ⟨fun w3 => no (hn (by omega)), fun w3 => yes (hl.mpr (by omega))⟩⟩⟩⟩
/-- isDigit -/
theorem x_157 : Par d 157 [.int a0] s (fun v s' => s' = s ∧ ∃ r : Int32, v = some (.int r) ∧ ((r.toInt = 1 ∧ isDg a0.toInt = true) ∨ (r.toInt = 0 ∧ isDg a0.toInt = false))) := by
  cases d with
  | zero => exact Par_0
  | succ d =>
    refine pb_157 ?_
    have hl : isDg a0.toInt = true ↔ 48 ≤ a0.toInt ∧ a0.toInt ≤ 57 := by
      unfold isDg
      simp
    have hn : ¬ (48 ≤ a0.toInt ∧ a0.toInt ≤ 57) → isDg a0.toInt = false := fun w => by
      cases e : isDg a0.toInt with
      | false => rfl
      | true => exact absurd (hl.mp e) w
    unfold ub_157_0 ub_157_8 ub_157_9
    exact ⟨fun w _ => ⟨rfl, 0, rfl, Or.inr ⟨by decide, hn (by omega)⟩⟩, fun w => ⟨fun w1 _ => ⟨rfl, 0, rfl, Or.inr ⟨by decide, hn (by omega)⟩⟩, fun w1 _ => ⟨rfl, 1, rfl, Or.inl ⟨by decide, hl.mpr (by omega)⟩⟩⟩⟩
/-- rank -/
theorem x_158 : Par d 158 [.int a0] s (fun v s' => s' = s ∧ ∃ r : Int32, v = some (.int r) ∧ r.toInt = rkc a0.toInt) := by
  cases d with
  | zero => exact Par_0
  | succ d =>
    refine pb_158 ?_
    unfold ub_158_0 ub_158_23 rkc
    refine ⟨fun w => ⟨fun w1 _ x1 h1 _ x2 h2 => ⟨rfl, x2, rfl, ?_⟩, fun w1 _ x1 h1 _ x2 h2 => ⟨rfl, x2, rfl, ?_⟩⟩, fun w _ x1 h1 _ x2 h2 => ⟨rfl, x2, rfl, ?_⟩⟩
    · rw [if_pos w, if_pos w1]
      omega
    · rw [if_pos w, if_neg w1]
      omega
    · rw [if_neg w]
      omega
/-- isSignOf -/
theorem x_159 : Par d 159 [.int a0] s (fun v s' => s' = s ∧ ∃ r : Int32, v = some (.int r) ∧ ((r.toInt = 1 ∧ sgB a0.toInt = true) ∨ (r.toInt = 0 ∧ sgB a0.toInt = false))) := by
  cases d with
  | zero => exact Par_0
  | succ d =>
    refine pb_159 ?_
    have hl : sgB a0.toInt = true ↔ a0.toInt = 40 ∨ a0.toInt = 41 ∨ a0.toInt = 44 ∨ a0.toInt = 46 ∨ a0.toInt = 59 ∨ a0.toInt = 91 ∨ a0.toInt = 93 ∨ a0.toInt = 123 ∨ a0.toInt = 125 := by
      unfold sgB
      simp
    have yes : sgB a0.toInt = true → ub_159_27 (Par d) a0 s (fun v s' => s' = s ∧ ∃ r : Int32, v = some (.int r) ∧ ((r.toInt = 1 ∧ sgB a0.toInt = true) ∨ (r.toInt = 0 ∧ sgB a0.toInt = false))) := fun h => by
      unfold ub_159_27 ub_159_30
      exact fun _ => ⟨rfl, 1, rfl, Or.inl ⟨by decide, h⟩⟩
    unfold ub_159_0
    refine ⟨fun w => yes (hl.mpr (by omega)), fun w1 => ⟨fun w => yes (hl.mpr (by omega)), fun w2 => ⟨fun w => yes (hl.mpr (by omega)), fun w3 => ⟨fun w => yes (hl.mpr (by omega)), fun w4 => ⟨fun w => yes (hl.mpr (by omega)), fun w5 => ⟨fun w => yes (hl.mpr (by omega)), fun w6 => ⟨fun w => yes (hl.mpr (by omega)), fun w7 => ⟨fun w => yes (hl.mpr (by omega)), fun w8 => ⟨fun w9 => ?_, fun w => yes (hl.mpr (by omega))⟩⟩⟩⟩⟩⟩⟩⟩⟩
    unfold ub_159_30
    refine fun _ => ⟨rfl, 0, rfl, Or.inr ⟨by decide, ?_⟩⟩
    cases e : sgB a0.toInt with
    | false => rfl
    | true => exact absurd (hl.mp e) (by omega)
/-! numbers of words -/
theorem wvl_nn {f : Nat → Int} (hf : ∀ i, 1 ≤ f i ∧ f i ≤ 62) : ∀ l, 0 ≤ wvl f l ∧ wvl f l < 64 ^ l
  | 0 => by
    show (0 : Int) ≤ 0 ∧ (0 : Int) < 64 ^ 0
    decide
  | l + 1 => by
    have h := wvl_nn hf l
    have h2 := hf l
    show 0 ≤ 64 * wvl f l + f l ∧ 64 * wvl f l + f l < 64 ^ (l + 1)
    rw [Int.pow_succ]
    omega
/-- equal numbers are the same signs -/
theorem wvl_inj {f g : Nat → Int} (hf : ∀ i, 1 ≤ f i ∧ f i ≤ 62) (hg : ∀ i, 1 ≤ g i ∧ g i ≤ 62) : ∀ l m, wvl f l = wvl g m → l = m ∧ ∀ i, i < l → f i = g i
  | 0, 0, _ => ⟨rfl, fun i hi => by omega⟩
  | 0, m + 1, h => by
    exfalso
    have h1 := wvl_nn hg m
    have h2 := hg m
    have h' : (0 : Int) = 64 * wvl g m + g m := h
    omega
  | l + 1, 0, h => by
    exfalso
    have h1 := wvl_nn hf l
    have h2 := hf l
    have h' : 64 * wvl f l + f l = (0 : Int) := h
    omega
  | l + 1, m + 1, h => by
    have h' : 64 * wvl f l + f l = 64 * wvl g m + g m := h
    have h2 := hf l
    have h3 := hg m
    obtain ⟨e1, e2⟩ := wvl_inj hf hg l m (by omega)
    refine ⟨by omega, fun i hi => ?_⟩
    by_cases e : i = l
    · rw [e]
      rw [← e1] at h' h3
      have : wvl f l = wvl g l := by
        have := wvl_inj hf hg l m
        omega
      omega
    · exact e2 i (by omega)
theorem rkc_in (h : isLt c = true ∨ isDg c = true) : 1 ≤ rkc c ∧ rkc c ≤ 62 := by
  unfold isLt isDg at h
  unfold rkc
  simp at h
  split
  · split
    · omega
    · omega
  · omega
theorem rkc_inj {c c' : Int} (h : isLt c = true ∨ isDg c = true) (h' : isLt c' = true ∨ isDg c' = true) (e : rkc c = rkc c') : c = c' := by
  unfold isLt isDg at h h'
  unfold rkc at e
  simp at h h'
  split at e
  · split at e
    · split at e
      · split at e
        · omega
        · omega
      · omega
    · split at e
      · split at e
        · omega
        · omega
      · omega
  · split at e
    · split at e
      · omega
      · omega
    · omega
end TWD
