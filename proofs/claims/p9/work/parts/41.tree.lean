/-! ===== nodes, types ===== -/
def ndA : List Nat := [221, 222, 224, 225, 226, 227, 228, 229, 230]
/-- a node more -/
def Nw (s s' : yS) (a : Int32) (N : Nat) : Prop := (s'.1 26).toInt = (s.1 26).toInt + 1 ∧ (∀ k, k ≠ 26 → s'.1 k = s.1 k) ∧ (∀ p i, ¬ (i = N ∧ p ∈ ndA) → s'.2.1 p i = s.2.1 p i) ∧ s'.2.2 = s.2.2 ∧ s'.2.1 221 N = a ∧ s'.2.1 222 N = s.1 7 ∧ s'.2.1 224 N = -1 ∧ s'.2.1 225 N = -1 ∧ s'.2.1 226 N = 0 ∧ s'.2.1 227 N = -1 ∧ s'.2.1 228 N = -1 ∧ s'.2.1 229 N = -1 ∧ s'.2.1 230 N = 0
theorem s_171 {d : Nat} {a : Int32} {s : yS} (hN : 0 ≤ (s.1 26).toInt ∧ (s.1 26).toInt < 12006) : Tot (d + 1) 171 [.ref 213, .int a] s (fun v s' => v = some (.int (s.1 26)) ∧ Nw s s' a (s.1 26).toInt.toNat) := by
  refine t_171 ?_
  unfold w_171_0
  refine ⟨hN, ?_⟩; rintro s1 rfl
  refine ⟨hN, ?_⟩; rintro s2 rfl
  refine ⟨hN, ?_⟩; rintro s3 rfl
  refine ⟨hN, ?_⟩; rintro s4 rfl
  refine ⟨hN, ?_⟩; rintro s5 rfl
  refine ⟨hN, ?_⟩; rintro s6 rfl
  refine ⟨hN, ?_⟩; rintro s7 rfl
  refine ⟨hN, ?_⟩; rintro s8 rfl
  refine ⟨hN, ?_⟩; rintro s9 rfl
  simp only [sa_1, sf_1, if_true]
  refine ⟨by omega, ?_⟩
  rintro x hx s11 rfl
  simp only [sa_1, sf_1, if_true]
  refine ⟨by omega, fun x2 hx2 => ?_⟩
  have e : x2 = s.1 26 := Int32.toInt_inj.mp (by omega)
  rw [e]
  refine ⟨rfl, hx, fun k hk => by rw [sf_1, if_neg hk]; rfl, fun p i hpi => ?_, rfl, ?_⟩
  · simp only [sf_2, sa_2]
    have h1 : ∀ q, q ∈ ndA → ¬ (p = q ∧ i = (s.1 26).toInt.toNat) := fun q hq h => hpi ⟨h.2, h.1 ▸ hq⟩
    rw [if_neg (h1 230 (by decide)), if_neg (h1 229 (by decide)), if_neg (h1 228 (by decide)), if_neg (h1 227 (by decide)), if_neg (h1 226 (by decide)), if_neg (h1 225 (by decide)), if_neg (h1 224 (by decide)), if_neg (h1 222 (by decide)), if_neg (h1 221 (by decide))]
  · simp [sf_2, sa_2]
/-- how many METHODs -/
def cMr (r : Nat → Int32) (lo hi : Nat) : Nat := (List.range' lo (hi - lo)).countP (fun x => (r x).toInt == 4)
abbrev cm (b : Nat) (s : yS) : Nat := cMr (s.2.1 221) (4002 * b) (s.1 26).toInt.toNat
theorem cMr_eq {r r' : Nat → Int32} {lo hi : Nat} (h : ∀ x, x < hi → r' x = r x) : cMr r' lo hi = cMr r lo hi := by
  unfold cMr
  refine List.countP_congr (fun x hx => ?_)
  have := List.mem_range'_1.mp hx
  rw [h x (by omega)]
theorem cMr_succ {r : Nat → Int32} {lo hi : Nat} (h : lo ≤ hi) : cMr r lo (hi + 1) = cMr r lo hi + if (r hi).toInt = 4 then 1 else 0 := by
  unfold cMr
  rw [show hi + 1 - lo = (hi - lo) + 1 by omega, List.range'_concat, List.countP_append, show lo + 1 * (hi - lo) = hi by omega, List.countP_cons, List.countP_nil]
  by_cases e : (r hi).toInt = 4
  · rw [if_pos e, if_pos (by simp [e])]
  · rw [if_neg e, if_neg (by simp [e])]
theorem cm_nw {b : Nat} {s s' : yS} {a : Int32} (h : Nw s s' a (s.1 26).toInt.toNat) (hb : 4002 * (b : Int) ≤ (s.1 26).toInt) : cm b s' = cm b s + if a.toInt = 4 then 1 else 0 := by
  obtain ⟨h1, h2, h3, h4, h5, -⟩ := h
  show cMr (s'.2.1 221) (4002 * b) (s'.1 26).toInt.toNat = _
  rw [show (s'.1 26).toInt.toNat = (s.1 26).toInt.toNat + 1 by omega, cMr_succ (by omega), h5, cMr_eq (r := s.2.1 221) (fun x hx => h3 221 x (fun w => by omega))]
theorem cm_nw0 {b : Nat} {s s' : yS} {a : Int32} (h : Nw s s' a (s.1 26).toInt.toNat) (hb : 4002 * (b : Int) ≤ (s.1 26).toInt) (ha : ¬ a.toInt = 4) : cm b s' = cm b s := by
  rw [cm_nw h hb, if_neg ha, Nat.add_zero]
theorem cm_sa {b p i : Nat} {s : yS} {v : Int32} (hp : ¬ p = 221) : cm b (sa s p i v) = cm b s := by
  show cMr ((sa s p i v).2.1 221) (4002 * b) (s.1 26).toInt.toNat = _
  rw [show (sa s p i v).2.1 221 = s.2.1 221 from funext (fun j => by rw [sa_2, if_neg (fun e => hp e.1.symm)])]
/-- a row of nodes, each beside the one ahead -/
def chn (s : yS) : Int → List Nat → Prop
  | x, [] => x = -1
  | x, c :: cs => x = (c : Int) ∧ chn s (s.2.1 225 c).toInt cs
/-- a tree of TYPES of the bank b, its nodes ahead of hi; k: how deep at most -/
def isY (b n : Nat) (s : yS) : Nat → Nat → Nat → Prop
  | 0, _, _ => False
  | k + 1, hi, x => x < hi ∧ (s.2.1 221 x).toInt = 0 ∧ 4002 * (b : Int) ≤ (s.2.1 222 x).toInt ∧ (s.2.1 222 x).toInt < 4002 * (b : Int) + n ∧ (s.2.1 215 (s.2.1 222 x).toInt.toNat).toInt = 1 ∧ 5 < (s.2.1 217 (s.2.1 222 x).toInt.toNat).toInt ∧ ∃ cs : List Nat, (s.2.1 226 x).toInt = (cs.length : Int) ∧ cs.length ≤ 6 ∧ chn s (s.2.1 224 x).toInt cs ∧ cs.Pairwise (· < ·) ∧ ∀ c ∈ cs, x < c ∧ ∃ h, h ≤ hi ∧ (∀ c' ∈ cs, c < c' → h ≤ c') ∧ isY b n s k h c
theorem isY_lt {b n : Nat} {s : yS} {k hi x : Nat} (h : isY b n s k hi x) : x < hi := by
  cases k with
  | zero => exact absurd h id
  | succ k => exact h.1
/-- trees stay where their cells do: 'beside' of the root may change -/
theorem chn_eq {s s' : yS} : ∀ (cs : List Nat) (x : Int), (∀ c ∈ cs, s'.2.1 225 c = s.2.1 225 c) → chn s x cs → chn s' x cs
  | [], _, _, h => h
  | c :: cs, x, hc, h => ⟨h.1, by
    rw [hc c List.mem_cons_self]
    exact chn_eq cs _ (fun d hd => hc d (List.mem_cons_of_mem _ hd)) h.2⟩
theorem isY_eq {b n : Nat} {s s' : yS} (t5 : s'.2.1 215 = s.2.1 215) (t7 : s'.2.1 217 = s.2.1 217) : ∀ (k hi x : Nat), (∀ y, x ≤ y → y < hi → s'.2.1 221 y = s.2.1 221 y ∧ s'.2.1 222 y = s.2.1 222 y ∧ s'.2.1 224 y = s.2.1 224 y ∧ ((s.2.1 221 y).toInt = 0 → s'.2.1 226 y = s.2.1 226 y) ∧ (x < y → s'.2.1 225 y = s.2.1 225 y)) → isY b n s k hi x → isY b n s' k hi x
  | 0, hi, x, _, h => h
  | k + 1, hi, x, he, h => by
    obtain ⟨h1, h0, h2, h3, h4, h5, cs, h6, h7, h8, hp, h9⟩ := h
    have hx := he x (Nat.le_refl _) h1
    have hlt : ∀ c ∈ cs, c < hi := by
      intro c hc
      obtain ⟨-, hh, h10, -, h11⟩ := h9 c hc
      have := isY_lt h11
      omega
    refine ⟨h1, by rw [hx.1]; exact h0, by rw [hx.2.1]; exact h2, by rw [hx.2.1]; exact h3, by rw [hx.2.1, t5]; exact h4, by rw [hx.2.1, t7]; exact h5, cs, by rw [hx.2.2.2.1 h0]; exact h6, h7, ?_, hp, fun c hc => ⟨(h9 c hc).1, ?_⟩⟩
    · rw [hx.2.2.1]
      exact chn_eq cs _ (fun c hc => (he c (Nat.le_of_lt (h9 c hc).1) (hlt c hc)).2.2.2.2 (h9 c hc).1) h8
    · obtain ⟨hxc, hh, h10, h12, h11⟩ := h9 c hc
      refine ⟨hh, h10, h12, isY_eq t5 t7 k hh c (fun y hy hy2 => ?_) h11⟩
      have := he y (by omega) (by omega)
      exact ⟨this.1, this.2.1, this.2.2.1, this.2.2.2.1, fun _ => this.2.2.2.2 (by omega)⟩
theorem isY_mono {b n : Nat} {s : yS} : ∀ (k k' hi hi' x : Nat), k ≤ k' → hi ≤ hi' → isY b n s k hi x → isY b n s k' hi' x
  | 0, _, _, _, _, _, _, h => absurd h id
  | k + 1, 0, _, _, _, hk, _, _ => absurd hk (by omega)
  | k + 1, k' + 1, hi, hi', x, hk, hh, h => by
    obtain ⟨h1, h0, h2, h3, h4, h5, cs, h6, h7, h8, hp, h9⟩ := h
    refine ⟨by omega, h0, h2, h3, h4, h5, cs, h6, h7, h8, hp, fun c hc => ?_⟩
    obtain ⟨a, hc1, a2, a3, a4⟩ := h9 c hc
    exact ⟨a, hc1, by omega, a3, isY_mono k k' hc1 hc1 c (by omega) (Nat.le_refl _) a4⟩
