/-! ===== structs that hold themselves: pure ===== -/
/-- the least relation over E that goes on from one to the next -/
def tcl (E : Nat → Nat → Prop) (i j : Nat) : Prop := ∀ R : Nat → Nat → Prop, (∀ a b, E a b → R a b) → (∀ a b c, R a b → R b c → R a c) → R i j
noncomputable def M5 (E : Nat → Nat → Prop) (a : Nat) : Bool := @decide (tcl E a a) (Classical.propDecidable _)
/-- the faults, type by type -/
noncomputable def L5 (E : Nat → Nat → Prop) (L : Int → Int) (TN : List Int) : List Int := TN.zipIdx.map (fun p => if M5 E p.2 = true then 8 + 16 * L p.1 else 0)
/-- a struct holds another -/
def eg5 (K L W kd : Int → Int) (TN Ls : List Int) (a c : Nat) : Prop := ∃ (i : Nat) (t : Int), Ls[i]? = some t ∧ ¬ K t = 6 ∧ a = kTy K (Ls.take i) ∧ tSt K L false (0, t) = true ∧ ∃ v ∈ tMe K L false (0, t), cdOf W [] (tFo K L false (0, t)) TN (v + 1) = (c : Int) ∧ kd (c : Int) = 1
/-- ways over what lies ahead of k -/
def fwP (E : Nat → Nat → Prop) : Nat → Nat → Nat → Prop
  | 0, i, j => E i j
  | k + 1, i, j => fwP E k i j ∨ (fwP E k i k ∧ fwP E k k j)
section ZAR
variable {E : Nat → Nat → Prop} {L : Int → Int} {TN : List Int} {x y b : Int32} {t c : Nat}
theorem tcl_e {i j : Nat} (h : E i j) : tcl E i j := fun _ h1 _ => h1 i j h
theorem tcl_t {i j k : Nat} (h : tcl E i j) (g : tcl E j k) : tcl E i k := fun R h1 h2 => h2 i j k (h R h1 h2) (g R h1 h2)
theorem M5_i {a : Nat} : M5 E a = true ↔ tcl E a a := by
  unfold M5
  exact @decide_eq_true_iff (tcl E a a) (Classical.propDecidable _)
theorem L5_at {a : Nat} {u : Int} (h : TN[a]? = some u) : (L5 E L TN)[a]? = some (if M5 E a = true then 8 + 16 * L u else 0) := by
  unfold L5
  rw [List.getElem?_map, List.getElem?_zipIdx, h]
  show some (if M5 E (0 + a) = true then 8 + 16 * L u else 0) = _
  rw [Nat.zero_add]
theorem L5_len : (L5 E L TN).length = TN.length := by
  unfold L5
  rw [List.length_map, List.length_zipIdx]
theorem fwP_s : ∀ (k i j : Nat), fwP E k i j → tcl E i j
  | 0, i, j, h => tcl_e h
  | k + 1, i, j, h => by
    rcases h with h | ⟨h1, h2⟩
    · exact fwP_s k i j h
    · exact tcl_t (fwP_s k i k h1) (fwP_s k k j h2)
theorem fwP_e : ∀ (k i j : Nat), E i j → fwP E k i j
  | 0, _, _, h => h
  | k + 1, i, j, h => Or.inl (fwP_e k i j h)
theorem fwP_t : ∀ (n m i j : Nat), m < n → fwP E n i m → fwP E n m j → fwP E n i j
  | 0, m, i, j, h, _, _ => absurd h (Nat.not_lt_zero _)
  | n + 1, m, i, j, h, g1, g2 => by
    by_cases e : m = n
    · subst e
      have h1 : fwP E m i m := by
        rcases g1 with q | q
        · exact q
        · exact q.1
      have h2 : fwP E m m j := by
        rcases g2 with q | q
        · exact q
        · exact q.2
      exact Or.inr ⟨h1, h2⟩
    · have hm : m < n := by omega
      rcases g1 with p | ⟨p1, p2⟩
      · rcases g2 with q | ⟨q1, q2⟩
        · exact Or.inl (fwP_t n m i j hm p q)
        · exact Or.inr ⟨fwP_t n m i n hm p q1, q2⟩
      · rcases g2 with q | ⟨q1, q2⟩
        · exact Or.inr ⟨p1, fwP_t n m n j hm p2 q⟩
        · exact Or.inr ⟨p1, q2⟩
theorem fwP_c (hE : ∀ a c, E a c → a < 24 ∧ c < 24) {i j : Nat} (h : tcl E i j) : fwP E 24 i j := (h (fun a c => a < 24 ∧ c < 24 ∧ fwP E 24 a c) (fun a c g => ⟨(hE a c g).1, (hE a c g).2, fwP_e 24 a c g⟩) (fun a e c g1 g2 => ⟨g1.1, g2.2.1, fwP_t 24 e a c g1.2.1 g1.2.2 g2.2.2⟩)).2.2
/-! bits -/
theorem sh_ix (h : b.toInt = (t : Int)) (ht : t < 24) : ((b &&& 31).toBitVec.smod 32#32).toNat = t := by
  have key : ∀ t : Fin 24, ((Int32.ofInt (t.val : Int) &&& 31).toBitVec.smod 32#32).toNat = t.val := by decide +kernel
  have e : b = Int32.ofInt (t : Int) := by rw [← h, Int32.ofInt_toInt]
  rw [e]
  exact key ⟨t, ht⟩
theorem tb_or : (x ||| y).toBitVec.getLsbD t = (x.toBitVec.getLsbD t || y.toBitVec.getLsbD t) := BitVec.getLsbD_or
theorem tb_0 : (0 : Int32).toBitVec.getLsbD t = false := BitVec.getLsbD_zero
theorem tb_one (h : b.toInt = (c : Int)) (hc : c < 24) (ht : t < 32) : ((1 : Int32) <<< (b &&& 31)).toBitVec.getLsbD t = decide (t = c) := by
  have e1 : ((1 : Int32) <<< (b &&& 31)).toBitVec = 1#32 <<< ((b &&& 31).toBitVec.smod 32#32) := rfl
  rw [e1, BitVec.shiftLeft_eq', sh_ix h hc, BitVec.getLsbD_shiftLeft, BitVec.getLsbD_one]
  by_cases e : t = c
  · rw [decide_eq_true e, decide_eq_true ht, decide_eq_false (show ¬ t < c by omega), decide_eq_true (show t - c = 0 by omega)]
    rfl
  · rw [decide_eq_false e]
    by_cases l : t < c
    · rw [decide_eq_true l, decide_eq_true ht]
      rfl
    · rw [decide_eq_false (show ¬ t - c = 0 by omega), Bool.and_false, Bool.and_false]
theorem tb_test (h : b.toInt = (t : Int)) (ht : t < 24) : ((x >>> (b &&& 31)) &&& (1 : Int32)).toInt = 0 ↔ x.toBitVec.getLsbD t = false := by
  have e1 : ((x >>> (b &&& 31)) &&& (1 : Int32)).toBitVec = x.toBitVec.sshiftRight' ((b &&& 31).toBitVec.smod 32#32) &&& 1#32 := rfl
  have e2 : (x.toBitVec.sshiftRight' ((b &&& 31).toBitVec.smod 32#32)).getLsbD 0 = x.toBitVec.getLsbD t := by
    rw [BitVec.sshiftRight_eq', sh_ix h ht, BitVec.getLsbD_sshiftRight, if_pos (by omega), Nat.add_zero]
    rfl
  rw [BitVec.and_one_eq_setWidth_ofBool_getLsbD, e2] at e1
  have e3 : ((x >>> (b &&& 31)) &&& (1 : Int32)).toInt = ((x >>> (b &&& 31)) &&& (1 : Int32)).toBitVec.toInt := rfl
  rw [e3, e1]
  cases x.toBitVec.getLsbD t with
  | false => exact ⟨fun _ => rfl, fun _ => by decide⟩
  | true => exact ⟨fun q => absurd q (by decide), fun q => absurd q (by decide)⟩
/-- how many bits ahead of n -/
def cnb (x : Int32) : Nat → Nat
  | 0 => 0
  | n + 1 => (if x.toBitVec.getLsbD n = true then 1 else 0) + cnb x n
theorem cnb_le : ∀ n : Nat, cnb x n ≤ n
  | 0 => Nat.le_refl _
  | n + 1 => by
    have := cnb_le n
    show (if x.toBitVec.getLsbD n = true then 1 else 0) + cnb x n ≤ n + 1
    split <;> omega
theorem cnb_mo : ∀ n : Nat, (∀ c, c < n → x.toBitVec.getLsbD c = true → y.toBitVec.getLsbD c = true) → cnb x n ≤ cnb y n
  | 0, _ => Nat.le_refl _
  | n + 1, h => by
    have ih := cnb_mo n (fun c hc => h c (by omega))
    have hn := h n (by omega)
    show (if x.toBitVec.getLsbD n = true then 1 else 0) + cnb x n ≤ (if y.toBitVec.getLsbD n = true then 1 else 0) + cnb y n
    by_cases hx : x.toBitVec.getLsbD n = true
    · rw [if_pos hx, if_pos (hn hx)]
      omega
    · rw [if_neg hx]
      omega
theorem cnb_lt : ∀ n : Nat, (∀ c, c < n → x.toBitVec.getLsbD c = true → y.toBitVec.getLsbD c = true) → (∃ c, c < n ∧ y.toBitVec.getLsbD c = true ∧ ¬ x.toBitVec.getLsbD c = true) → cnb x n < cnb y n
  | 0, _, ⟨c, h, _⟩ => absurd h (Nat.not_lt_zero _)
  | n + 1, h, ⟨c, hc, h1, h2⟩ => by
    have hn := h n (by omega)
    show (if x.toBitVec.getLsbD n = true then 1 else 0) + cnb x n < (if y.toBitVec.getLsbD n = true then 1 else 0) + cnb y n
    by_cases e : c = n
    · subst e
      have := cnb_mo (x := x) (y := y) c (fun c' hc' => h c' (by omega))
      rw [if_neg h2, if_pos h1]
      omega
    · have ih := cnb_lt n (fun c hc => h c (by omega)) ⟨c, by omega, h1, h2⟩
      by_cases hx : x.toBitVec.getLsbD n = true
      · rw [if_pos hx, if_pos (hn hx)]
        omega
      · rw [if_neg hx]
        omega
theorem cnb_po : ∀ (n c : Nat), c < n → x.toBitVec.getLsbD c = true → 0 < cnb x n
  | 0, c, h, _ => absurd h (Nat.not_lt_zero _)
  | n + 1, c, h, hc => by
    show 0 < (if x.toBitVec.getLsbD n = true then 1 else 0) + cnb x n
    by_cases e : c = n
    · rw [← e, if_pos hc]
      omega
    · have := cnb_po n c (by omega) hc
      omega
end ZAR
