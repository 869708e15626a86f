/-! ===== where the pieces of a list stand ===== -/
/-- pieces one behind another, a sign between -/
def uS (nx : Int → Int) (t : Int) : Nat → Int
  | 0 => t
  | i + 1 => nx (uS nx t i) + 1
theorem uS_s {nx : Int → Int} {t : Int} : ∀ i : Nat, uS nx (nx t + 1) i = uS nx t (i + 1)
  | 0 => rfl
  | i + 1 => by
    show nx (uS nx (nx t + 1) i) + 1 = nx (uS nx t (i + 1)) + 1
    rw [uS_s i]
section WSQ
variable {K L : Int → Int} {σ : RSt} {c : Int}
theorem pt_tr {m : Nat} (h : (p_t K L m true σ).1 = 0) : False := by
  cases m with
  | zero => exact ef_t h
  | succ m =>
    rw [p_t] at h
    have hn : ¬ (e_f K L true σ).1 = 0 := fun w => ef_t w
    rw [tk_f hn, if_neg (by decide)] at h
    exact hn h
theorem pe_tr {m : Nat} (h : (p_e K L m true σ).1 = 0) : False := by
  cases m with
  | zero => exact ef_t h
  | succ m =>
    rw [p_e] at h
    have hn : ¬ (e_f K L true σ).1 = 0 := fun w => ef_t w
    rw [if_neg (fun w => hn w.1), pps_no (tk_f hn)] at h
    exact hn h
/-- a list that was passed: its pieces -/
theorem pl_u {f g : Bool → RSt → RSt} {nx : Int → Int} (hf : ∀ b t, (f b (0, t)).1 = 0 → b = false ∧ g false (0, t) = f false (0, t) ∧ nx t = (f false (0, t)).2) : ∀ (k : Nat) (t : Int), (p_l K L f c (k + 1) (0, t)).1 = 0 → (1 ≤ p_n K g (k + 1) (0, t) ∧ p_n K g (k + 1) (0, t) ≤ k + 1) ∧ (∀ i, i < p_n K g (k + 1) (0, t) → (f false (0, uS nx t i)).1 = 0) ∧ p_l K L f c (k + 1) (0, t) = (0, uS nx t (p_n K g (k + 1) (0, t))) ∧ (∀ i, i + 1 < p_n K g (k + 1) (0, t) → K (nx (uS nx t i)) = 44) ∧ K (nx (uS nx t (p_n K g (k + 1) (0, t) - 1))) = c
  | 0, t, h => by
    have h1 := (hf _ _ (pl_0 h)).1
    cases h1
  | k + 1, t, h => by
    have h0 := pl_0 h
    have hd : decide (k + 1 = 0) = false := decide_eq_false (by omega)
    rw [hd] at h0
    obtain ⟨-, h2, h3⟩ := hf _ _ h0
    rw [pl_s, hd] at h
    rw [pl_s, pn_s, hd, h2]
    have hz : f false (0, t) = (0, nx t) := by rw [h3]; exact Prod.ext h0 rfl
    by_cases hc : k + 1 ≠ 0 ∧ t_k K 44 (f false (0, t)) = true
    · rw [if_pos hc] at h ⊢
      rw [if_pos hc]
      rw [hz] at h ⊢
      obtain ⟨a1, a2, a3, a4, a5⟩ := pl_u hf k (nx t + 1) h
      have hk := (tk_t hc.2).2
      rw [hz] at hk
      have ea : a_d (0, nx t) = (0, nx t + 1) := rfl
      rw [ea]
      refine ⟨by omega, fun i hi => ?_, ?_, fun i hi => ?_, ?_⟩
      · cases i with
        | zero => exact h0
        | succ i =>
          have := a2 i (by omega)
          rw [uS_s] at this
          exact this
      · rw [a3, uS_s]
      · cases i with
        | zero => exact hk
        | succ i =>
          have := a4 i (by omega)
          rw [uS_s] at this
          exact this
      · have e : p_n K g (k + 1) (0, nx t + 1) + 1 - 1 = (p_n K g (k + 1) (0, nx t + 1) - 1) + 1 := by omega
        rw [e, ← uS_s]
        exact a5
    · rw [if_neg hc] at h ⊢
      rw [if_neg hc]
      rw [hz] at h ⊢
      obtain ⟨e1, e2, e3⟩ := ek_0 h
      refine ⟨by omega, fun i hi => ?_, e3, fun i hi => by omega, e2⟩
      have : i = 0 := by omega
      subst this
      exact h0
theorem pt_g (m : Nat) (hm : m ≤ 11) (b : Bool) (t : Int) (h : (p_t K L m b (0, t)).1 = 0) : b = false ∧ p_t K L 11 false (0, t) = p_t K L m false (0, t) ∧ nxT K L t = (p_t K L m false (0, t)).2 := by
  cases b with
  | true => exact absurd h (fun w => pt_tr w)
  | false =>
    have e := pt_mono m 11 hm false (0, t) h
    exact ⟨rfl, e, by unfold nxT; rw [e]⟩
theorem pe_g (m : Nat) (hm : m ≤ 11) (b : Bool) (t : Int) (h : (p_e K L m b (0, t)).1 = 0) : b = false ∧ p_e K L 11 false (0, t) = p_e K L m false (0, t) ∧ nxE K L t = (p_e K L m false (0, t)).2 := by
  cases b with
  | true => exact absurd h (fun w => pe_tr w)
  | false =>
    have e := pe_mono m 11 hm false (0, t) h
    exact ⟨rfl, e, by unfold nxE; rw [e]⟩
/-- a TYPE that was passed -/
theorem pt_u {m : Nat} (hm : m ≤ 10) {t : Int} (h : (p_t K L (m + 1) false (0, t)).1 = 0) : K t = 1 ∧ (K (t + 1) = 91 → (1 ≤ NT K L (t + 1) ∧ NT K L (t + 1) ≤ 7) ∧ (∀ i, i < NT K L (t + 1) → (p_t K L m false (0, uS (nxT K L) (t + 2) i)).1 = 0) ∧ p_t K L (m + 1) false (0, t) = (0, uS (nxT K L) (t + 2) (NT K L (t + 1)))) ∧ (¬ K (t + 1) = 91 → p_t K L (m + 1) false (0, t) = (0, t + 1)) := by
  rw [p_t] at h ⊢
  by_cases hc : t_k K 91 (e_f K L false (0, t)) = true
  · obtain ⟨c1, c2⟩ := tk_t hc
    obtain ⟨e1, e2, e3, e4⟩ := ef_0 c1
    rw [if_pos hc, e4] at h
    rw [if_pos hc, e4]
    rw [e4] at c2
    have ea : a_d ((0 : Int), ((0, t) : RSt).2 + 1) = (0, t + 2) := by
      show ((0 : Int), t + 1 + 1) = (0, t + 2)
      rw [show t + 1 + 1 = t + 2 by omega]
    rw [ea] at h ⊢
    have := pl_u (c := 93) (pt_g m (by omega)) 6 (t + 2) h
    refine ⟨e2, fun _ => ?_, fun w => absurd c2 w⟩
    unfold NT
    rw [show t + 1 + 1 = t + 2 by omega]
    exact ⟨this.1, this.2.1, this.2.2.1⟩
  · rw [if_neg hc] at h ⊢
    obtain ⟨e1, e2, e3, e4⟩ := ef_0 h
    refine ⟨e2, fun w => ?_, fun _ => e4⟩
    exfalso
    refine hc (decide_eq_true ⟨h, ?_⟩)
    rw [e4]
    exact w
end WSQ
/-- beyond a Row's limit it holds nothing -/
def LMz (s : zS) : Prop := ∀ a ∈ rowL, ∀ i, lim a ≤ i → s.2 a i = 0
theorem LM_of {hh : xH} {s : zS} (hI : INV hh) (hz : zI hh s) : LMz s := by
  intro a ha i hi
  obtain ⟨c, n, f, z, e1, e2, e3, e4, e5, e6, e7⟩ := row_of hI ha
  rw [← hz.2 a ha i, rv_of e3, if_neg (by omega)]
theorem Zt_lm {d : Nat} {c : zW} {j : Nat} {vs : List Value} {s : zS} {Q : Option Value → zS → Prop} (h : LMz s → Zt d c j vs s Q) : Zt d c j vs s Q := fun hh hI hw => h (LM_of hI hw.1) hh hI hw
