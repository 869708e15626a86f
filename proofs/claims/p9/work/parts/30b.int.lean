/-! ===== ints as whole numbers ===== -/
section II
variable {x y : Int32} {a b : Int}
theorem i_bm {z : Int} (h : -2147483648 ≤ z ∧ z ≤ 2147483647) : z.bmod (2 ^ 32) = z := Int.bmod_eq_of_le (by omega) (by omega)
theorem i_add (hx : x.toInt = a) (hy : y.toInt = b) (h : -2147483648 ≤ a + b ∧ a + b ≤ 2147483647) : (x + y).toInt = a + b := by
  rw [Int32.toInt_add, hx, hy]
  exact i_bm h
theorem i_sub (hx : x.toInt = a) (hy : y.toInt = b) (h : -2147483648 ≤ a - b ∧ a - b ≤ 2147483647) : (x - y).toInt = a - b := by
  rw [Int32.toInt_sub, hx, hy]
  exact i_bm h
theorem i_mul (hx : x.toInt = a) (hy : y.toInt = b) (h : -2147483648 ≤ a * b ∧ a * b ≤ 2147483647) : (x * y).toInt = a * b := by
  rw [Int32.toInt_mul, hx, hy]
  exact i_bm h
theorem i_lt (hx : x.toInt = a) (hy : y.toInt = b) : x < y ↔ a < b := by rw [Int32.lt_iff_toInt_lt, hx, hy]
theorem i_le (hx : x.toInt = a) (hy : y.toInt = b) : x ≤ y ↔ a ≤ b := by rw [Int32.le_iff_toInt_le, hx, hy]
theorem i_eq (hx : x.toInt = a) (hy : y.toInt = b) : x = y ↔ a = b := by rw [← Int32.toInt_inj, hx, hy]
theorem i_nat (hx : x.toInt = a) (h : 0 ≤ a) : ∃ n : Nat, n < 2 ^ 31 ∧ x = nI n ∧ a = (n : Int) := by
  have h0 : ¬ x < 0 := fun q => by
    have := (i_lt hx (show (0 : Int32).toInt = 0 by decide)).mp q
    omega
  obtain ⟨n, h1, rfl⟩ := nI_of h0
  rw [nI_toInt h1] at hx
  exact ⟨n, h1, rfl, hx.symm⟩
theorem i_and (hx : x.toInt = a) (h : 0 ≤ a) {m : Int32} (k : Nat) (hm : m.toBitVec.toNat = 2 ^ k - 1) : (x &&& m).toInt = a % ((2 ^ k : Nat) : Int) := by
  obtain ⟨n, h1, rfl, rfl⟩ := i_nat hx h
  rw [pk_andN (by omega) k hm, nI_toInt (Nat.lt_of_le_of_lt (Nat.mod_le _ _) h1)]
  exact Int.natCast_emod n (2 ^ k)
theorem i_and7 (hx : x.toInt = a) (h : 0 ≤ a) : (x &&& 7).toInt = a % 8 := i_and hx h 3 (by decide)
theorem i_and15 (hx : x.toInt = a) (h : 0 ≤ a) : (x &&& 15).toInt = a % 16 := i_and hx h 4 (by decide)
theorem i_shr3 (hx : x.toInt = a) (h : 0 ≤ a) : (x >>> ((3 : Int32) &&& 31)).toInt = a / 8 := by
  obtain ⟨n, h1, rfl, rfl⟩ := i_nat hx h
  rw [pk_shrN h1 _ 3 (by decide), nI_toInt (Nat.lt_of_le_of_lt (Nat.div_le_self _ _) h1)]
  exact Int.natCast_ediv n (2 ^ 3)
theorem i_div6 (hx : x.toInt = a) (h : 0 ≤ a) : (x / 6).toInt = a / 6 := by
  obtain ⟨n, h1, rfl, rfl⟩ := i_nat hx h
  rw [Int32.toInt_div, nI_toInt h1, show (6 : Int32).toInt = 6 by decide, Int.tdiv_eq_ediv_of_nonneg h]
  exact i_bm (by omega)
theorem i_rem6 (hx : x.toInt = a) (h : 0 ≤ a) : (x - x / 6 * 6).toInt = a % 6 := by
  obtain ⟨n, h1, rfl, rfl⟩ := i_nat hx h
  rw [show (6 : Int32) = nI 6 from rfl, pk_rem h1 (by decide) (by decide), nI_toInt (Nat.lt_of_le_of_lt (Nat.mod_le _ _) h1)]
  exact Int.natCast_emod n 6
theorem i_z (hx : x.toInt = a) (h : a = 0 ∨ a = 1) : (x == 0 || x == 1) = true := by
  rcases h with h | h
  · rw [(i_eq hx (show (0 : Int32).toInt = 0 by decide)).mpr h]
    rfl
  · rw [(i_eq hx (show (1 : Int32).toInt = 1 by decide)).mpr h]
    rfl
theorem i_in {n : Nat} (hx : x.toInt = a) (h : 0 ≤ a ∧ a < (n : Int)) : xIn x n = true := by
  unfold xIn
  rw [Bool.and_eq_true, decide_eq_true_iff]
  refine ⟨(i_le (show (0 : Int32).toInt = 0 by decide) hx).mpr h.1, Nat.ble_eq_true_of_le ?_⟩
  show x.toInt.toNat + 1 ≤ n
  rw [hx]
  omega
theorem i_inz {n : Nat} {z : Int32} {c : Int} (hx : x.toInt = a) (h : 0 ≤ a ∧ a < (n : Int)) (hz : z.toInt = c) (hc : c = 0 ∨ c = 1) : (xIn x n && (z == 0 || z == 1)) = true := by
  rw [i_in hx h, i_z hz hc]
  rfl
theorem ck_add (hx : x.toInt = a) (hy : y.toInt = b) (h : -2147483648 ≤ a + b ∧ a + b ≤ 2147483647) : ynf (x.toInt + y.toInt) = true := by
  rw [hx, hy]
  exact decide_eq_true h
theorem ck_sub (hx : x.toInt = a) (hy : y.toInt = b) (h : -2147483648 ≤ a - b ∧ a - b ≤ 2147483647) : ynf (x.toInt - y.toInt) = true := by
  rw [hx, hy]
  exact decide_eq_true h
theorem ck_mul (hx : x.toInt = a) (hy : y.toInt = b) (h : -2147483648 ≤ a * b ∧ a * b ≤ 2147483647) : ynf (x.toInt * y.toInt) = true := by
  rw [hx, hy]
  exact decide_eq_true h
theorem ck_inc {n : Int} (hx : x.toInt = a) (h : -2147483648 ≤ a + n ∧ a + n ≤ 2147483647) : ynf (x.toInt + n) = true := by
  rw [hx]
  exact decide_eq_true h
theorem ck_and (hx : x.toInt = a) (h : 0 ≤ a) : decide (y = 7 ∨ y = 15 → 0 ≤ x.toInt) = true := decide_eq_true (fun _ => by rw [hx]; exact h)
theorem ck_andn (h : ¬ (y = 7 ∨ y = 15)) : decide (y = 7 ∨ y = 15 → 0 ≤ x.toInt) = true := decide_eq_true (fun w => absurd w h)
theorem ck_shr (hx : x.toInt = a) (h : 0 ≤ a) : decide (0 ≤ x.toInt) = true := decide_eq_true (by rw [hx]; exact h)
theorem ck_d6 (hx : x.toInt = a) (h : 0 ≤ a) : decide (y = 6 → 0 ≤ x.toInt) = true := decide_eq_true (fun _ => by rw [hx]; exact h)
theorem ck_dn (h : ¬ y = 6) : decide (y = 6 → 0 ≤ x.toInt) = true := decide_eq_true (fun w => absurd w h)
theorem kc_add (hx : x.toInt = a) (hy : y.toInt = b) (h : ynf (x.toInt + y.toInt) = true) : -2147483648 ≤ a + b ∧ a + b ≤ 2147483647 := by
  rw [hx, hy] at h
  exact ynf_ok h
theorem kc_sub (hx : x.toInt = a) (hy : y.toInt = b) (h : ynf (x.toInt - y.toInt) = true) : -2147483648 ≤ a - b ∧ a - b ≤ 2147483647 := by
  rw [hx, hy] at h
  exact ynf_ok h
theorem kc_mul (hx : x.toInt = a) (hy : y.toInt = b) (h : ynf (x.toInt * y.toInt) = true) : -2147483648 ≤ a * b ∧ a * b ≤ 2147483647 := by
  rw [hx, hy] at h
  exact ynf_ok h
theorem kc_inc {n : Int} (hx : x.toInt = a) (h : ynf (x.toInt + n) = true) : -2147483648 ≤ a + n ∧ a + n ≤ 2147483647 := by
  rw [hx] at h
  exact ynf_ok h
theorem kc_and (hx : x.toInt = a) (hy : y = 7 ∨ y = 15) (h : decide (y = 7 ∨ y = 15 → 0 ≤ x.toInt) = true) : 0 ≤ a := by
  rw [← hx]
  exact of_decide_eq_true h hy
theorem kc_shr (hx : x.toInt = a) (h : decide (0 ≤ x.toInt) = true) : 0 ≤ a := by
  rw [← hx]
  exact of_decide_eq_true h
theorem kc_d6 (hx : x.toInt = a) (hy : y = 6) (h : decide (y = 6 → 0 ≤ x.toInt) = true) : 0 ≤ a := by
  rw [← hx]
  exact of_decide_eq_true h hy
theorem kc_in {n : Nat} (hx : x.toInt = a) (h : xIn x n = true) : 0 ≤ a ∧ a < (n : Int) := by
  unfold xIn at h
  rw [Bool.and_eq_true] at h
  have h1 := (i_le (show (0 : Int32).toInt = 0 by decide) hx).mp (of_decide_eq_true h.1)
  have h2 : x.toInt.toNat + 1 ≤ n := Nat.le_of_ble_eq_true h.2
  rw [hx] at h2
  exact ⟨h1, by omega⟩
theorem kc_z (hx : x.toInt = a) (h : (x == 0 || x == 1) = true) : a = 0 ∨ a = 1 := by
  rw [Bool.or_eq_true, beq_iff_eq, beq_iff_eq] at h
  rcases h with h | h
  · left
    rw [← hx, h]
    rfl
  · right
    rw [← hx, h]
    rfl
end II
