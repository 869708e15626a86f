/-! ===== ints as whole numbers ===== -/
section II
variable {x y : Int32} {a b : Int}
theorem i_bm {z : Int} (h : -2147483648 ≤ z ∧ z ≤ 2147483647) : z.bmod (2 ^ 32) = z := Int.bmod_eq_of_le (by omega) (by omega)
theorem i_add (hx : x.toInt = a) (hy : y.toInt = b) (h : -2147483648 ≤ a + b ∧ a + b ≤ 2147483647) : (x + y).toInt = a + b := by
  rw [Int32.toInt_add, hx, hy]
  exact i_bm h
theorem i_sub (hx : x.toInt = a) (hy : y.toInt = b) (h : -2147483648 ≤ a - b ∧ a - b ≤ 2147483647) : (x - y).toInt = a - b := by
  rw [Int32.toInt_sub, hx, hy]
  exact i_bm h
theorem i_mul (hx : x.toInt = a) (hy : y.toInt = b) (h : -2147483648 ≤ a * b ∧ a * b ≤ 2147483647) : (x * y).toInt = a * b := by
  rw [Int32.toInt_mul, hx, hy]
  exact i_bm h
theorem i_lt (hx : x.toInt = a) (hy : y.toInt = b) : x < y ↔ a < b := by rw [Int32.lt_iff_toInt_lt, hx, hy]
theorem i_le (hx : x.toInt = a) (hy : y.toInt = b) : x ≤ y ↔ a ≤ b := by rw [Int32.le_iff_toInt_le, hx, hy]
theorem i_eq (hx : x.toInt = a) (hy : y.toInt = b) : x = y ↔ a = b := by rw [← Int32.toInt_inj, hx, hy]
theorem i_nat (hx : x.toInt = a) (h : 0 ≤ a) : ∃ n : Nat, n < 2 ^ 31 ∧ x = nI n ∧ a = (n : Int) := by
  have h0 : ¬ x < 0 := fun q => by
    have := (i_lt hx (show (0 : Int32).toInt = 0 by decide)).mp q
    omega
  obtain ⟨n, h1, rfl⟩ := nI_of h0
  rw [nI_toInt h1] at hx
  exact ⟨n, h1, rfl, hx.symm⟩
theorem i_and (hx : x.toInt = a) (h : 0 ≤ a) {m : Int32} (k : Nat) (hm : m.toBitVec.toNat = 2 ^ k - 1) : (x &&& m).toInt = a % ((2 ^ k : Nat) : Int) := by
  obtain ⟨n, h1, rfl, rfl⟩ := i_nat hx h
  rw [pk_andN (by omega) k hm, nI_toInt (Nat.lt_of_le_of_lt (Nat.mod_le _ _) h1)]
  exact Int.natCast_emod n (2 ^ k)
theorem i_and7 (hx : x.toInt = a) (h : 0 ≤ a) : (x &&& 7).toInt = a % 8 := i_and hx h 3 (by decide)
theorem i_and15 (hx : x.toInt = a) (h : 0 ≤ a) : (x &&& 15).toInt = a % 16 := i_and hx h 4 (by decide)
theorem i_shr3 (hx : x.toInt = a) (h : 0 ≤ a) : (x >>> ((3 : Int32) &&& 31)).toInt = a / 8 := by
  obtain ⟨n, h1, rfl, rfl⟩ := i_nat hx h
  rw [pk_shrN h1 _ 3 (by decide), nI_toInt (Nat.lt_of_le_of_lt (Nat.div_le_self _ _) h1)]
  exact Int.natCast_ediv n (2 ^ 3)
theorem i_div6 (hx : x.toInt = a) (h : 0 ≤ a) : (x / 6).toInt = a / 6 := by
  obtain ⟨n, h1, rfl, rfl⟩ := i_nat hx h
  rw [Int32.toInt_div, nI_toInt h1, show (6 : Int32).toInt = 6 by decide, Int.tdiv_eq_ediv_of_nonneg h]
  exact i_bm (by omega)
theorem i_rem6 (hx : x.toInt = a) (h : 0 ≤ a) : (x - x / 6 * 6).toInt = a % 6 := by
  obtain ⟨n, h1, rfl, rfl⟩ := i_nat hx h
  rw [show (6 : Int32) = nI 6 from rfl, pk_rem h1 (by decide) (by decide), nI_toInt (Nat.lt_of_le_of_lt (Nat.mod_le _ _) h1)]
  exact Int.natCast_emod n 6
theorem i_z (hx : x.toInt = a) (h : a = 0 ∨ a = 1) : (x == 0 || x == 1) = true := by
  rcases h with h | h
  · rw [(i_eq hx (show (0 : Int32).toInt = 0 by decide)).mpr h]
    rfl
  · rw [(i_eq hx (show (1 : Int32).toInt = 1 by decide)).mpr h]
    rfl
theorem i_in {n : Nat} (hx : x.toInt = a) (h : 0 ≤ a ∧ a < (n : Int)) : xIn x n = true := by
  unfold xIn
  rw [Bool.and_eq_true, decide_eq_true_iff]
  refine ⟨(i_le (show (0 : Int32).toInt = 0 by decide) hx).mpr h.1, Nat.ble_eq_true_of_le ?_⟩
  show x.toInt.toNat + 1 ≤ n
  rw [hx]
  omega
theorem i_inz {n : Nat} {z : Int32} {c : Int} (hx : x.toInt = a) (h : 0 ≤ a ∧ a < (n : Int)) (hz : z.toInt = c) (hc : c = 0 ∨ c = 1) : (xIn x n && (z == 0 || z == 1)) = true := by
  rw [i_in hx h, i_z hz hc]
  rfl
end II
