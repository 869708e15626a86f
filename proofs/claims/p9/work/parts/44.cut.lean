/-! ===== cutAll ===== -/
/-- what cutting leaves: all but the tokens of bank b, its words -/
def CF (b : Nat) (s s' : yS) : Prop := (∀ p, p ∉ [215, 216, 217, 220] → s'.2.1 p = s.2.1 p) ∧ (∀ p i, p ∈ [215, 216, 217] → ¬ (4002 * b ≤ i ∧ i < 4002 * b + 4002) → s'.2.1 p i = s.2.1 p i) ∧ (∀ q, q ≠ b → s'.2.1 220 q = s.2.1 220 q) ∧ LFr b s.2.2 s'.2.2
theorem CF_rf {b : Nat} {s : yS} : CF b s s := ⟨fun _ _ => rfl, fun _ _ _ _ => rfl, fun _ _ => rfl, fun _ _ _ => rfl⟩
theorem CF_sa {b p i : Nat} {s s' : yS} {v : Int32} (h : CF b s s') (hp : p ∈ [215, 216, 217]) (hi : 4002 * b ≤ i ∧ i < 4002 * b + 4002) : CF b s (sa s' p i v) := by
  have hq : ∀ q, q ≠ p → (sa s' p i v).2.1 q = s'.2.1 q := by
    intro q hq
    funext j
    rw [sa_2, if_neg (fun e => hq e.1)]
  refine ⟨fun q hn => ?_, fun q j hn hj => ?_, fun q hn => ?_, h.2.2.2⟩
  · rw [hq q (fun e => hn (by
      rw [e]
      revert hp
      simp only [List.mem_cons, List.not_mem_nil]
      grind))]
    exact h.1 q hn
  · rw [sa_2, if_neg (fun e => hj (by rw [e.2]; exact hi))]
    exact h.2.1 q j hn hj
  · rw [hq 220 (fun e => by
      rw [← e] at hp
      revert hp
      decide)]
    exact h.2.2.1 q hn
/-- tokens so far -/
def CT (b i W : Nat) (s : yS) : Prop := ∀ j, j < i → (0 ≤ (s.2.1 216 (4002 * b + j)).toInt ∧ (s.2.1 216 (4002 * b + j)).toInt ≤ 4000) ∧ ((s.2.1 215 (4002 * b + j)).toInt = 1 → 0 ≤ (s.2.1 217 (4002 * b + j)).toInt ∧ (s.2.1 217 (4002 * b + j)).toInt < W)
/-- at the head of the loop -/
def CI (b : Nat) (s0 : yS) (a1 a2 : Int32) (s : yS) : Prop :=
  s.1 = s0.1 ∧ CF b s0 s ∧ 0 ≤ a2.toInt ∧ a2.toInt ≤ (s0.1 3).toInt ∧ ∃ i W : Nat, a1.toInt = 4002 * (b : Int) + i ∧ (i : Int) ≤ a2.toInt ∧ (s.2.1 220 b).toInt = (W : Int) ∧ (CT b i W s ∧ WKp b W s.2.2) ∧ (2 * (W : Int) ≤ 78 + a2.toInt ∨ (2 * (W : Int) ≤ 79 + a2.toInt ∧ (a2.toInt = (s0.1 3).toInt ∨ isLt (s0.2.1 214 a2.toInt.toNat).toInt = false)))
theorem isLtD {c : Int} (h : isLt c = true ∨ isDg c = true) : 0 ≤ c ∧ c ≤ 65535 := by
  unfold isLt isDg at h
  grind
/-- a token more: its place, sort, word -/
theorem CT_more {b i W W' : Nat} {s s' : yS} (h : CT b i W s) (hW : W ≤ W') (h1 : ∀ p, p ∈ [215, 216, 217] → ∀ j, j ≠ 4002 * b + i → s'.2.1 p j = s.2.1 p j) (h2 : 0 ≤ (s'.2.1 216 (4002 * b + i)).toInt ∧ (s'.2.1 216 (4002 * b + i)).toInt ≤ 4000) (h3 : (s'.2.1 215 (4002 * b + i)).toInt = 1 → 0 ≤ (s'.2.1 217 (4002 * b + i)).toInt ∧ (s'.2.1 217 (4002 * b + i)).toInt < W') : CT b (i + 1) W' s' := by
  intro j hj
  by_cases e : j = i
  · subst e
    exact ⟨h2, h3⟩
  · have := h j (by omega)
    rw [h1 216 (by decide) _ (by omega), h1 215 (by decide) _ (by omega), h1 217 (by decide) _ (by omega)]
    exact ⟨this.1, fun q => by have := this.2 q; omega⟩
