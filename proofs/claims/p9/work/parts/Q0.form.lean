/-! ===== the text's form: where a reader stands (its fault, its token), as functions of the tokens' kinds and places ===== -/
def KI (r : Nat → Int32) (i : Int) : Int := if 0 ≤ i then (r i.toNat).toInt else 0
theorem KI_n {r : Nat → Int32} {i : Nat} : KI r (i : Int) = (r i).toInt := by
  unfold KI
  rw [if_pos (Int.natCast_nonneg i), Int.toNat_natCast]
theorem KI_p {r : Nat → Int32} {i : Int} (h : 0 ≤ i) : KI r i = (r i.toNat).toInt := if_pos h
abbrev RSt : Type := Int × Int
section FORM
variable (K L : Int → Int)
/-- a token of this kind -/
def e_k (k : Int) (σ : RSt) : RSt := if σ.1 = 0 then (if K σ.2 = k then (0, σ.2 + 1) else (1 + 16 * L σ.2, σ.2)) else σ
/-- a word; b: it would be one too many -/
def e_f (b : Bool) (σ : RSt) : RSt := if σ.1 = 0 then (if K σ.2 = 1 then (if b = true then (5 + 16 * L σ.2, σ.2) else (0, σ.2 + 1)) else (1 + 16 * L σ.2, σ.2)) else σ
def t_k (k : Int) (σ : RSt) : Bool := decide (σ.1 = 0 ∧ K σ.2 = k)
def a_d (σ : RSt) : RSt := (σ.1, σ.2 + 1)
/-- a list, up to its closing sign -/
def p_l (f : Bool → RSt → RSt) (c : Int) : Nat → RSt → RSt
  | 0, σ => σ
  | k + 1, σ => if k ≠ 0 ∧ t_k K 44 (f (decide (k = 0)) σ) = true then p_l f c k (a_d (f (decide (k = 0)) σ)) else e_k K L c (f (decide (k = 0)) σ)
/-- how many stand in it -/
def p_n (f : Bool → RSt → RSt) : Nat → RSt → Nat
  | 0, _ => 0
  | k + 1, σ => if k ≠ 0 ∧ t_k K 44 (f (decide (k = 0)) σ) = true then p_n f k (a_d (f (decide (k = 0)) σ)) + 1 else 1
/-- a TYPE, m levels left -/
def p_t : Nat → Bool → RSt → RSt
  | 0, _, σ => e_f K L true σ
  | m + 1, b, σ => if t_k K 91 (e_f K L b σ) = true then p_l K L (p_t m) 93 7 (a_d (e_f K L b σ)) else e_f K L b σ
def p_vs (f : Bool → RSt → RSt) (o c : Int) (σ : RSt) : RSt := if (e_k K L o σ).1 = 0 ∧ ¬ K (e_k K L o σ).2 = c then p_l K L f c 7 (e_k K L o σ) else e_k K L c (e_k K L o σ)
def p_vn (f : Bool → RSt → RSt) (o c : Int) (σ : RSt) : Nat := if (e_k K L o σ).1 = 0 ∧ ¬ K (e_k K L o σ).2 = c then p_n K f 7 (e_k K L o σ) else 0
/-- what stands behind a point -/
def p_po (ft f : Bool → RSt → RSt) (σ : RSt) : RSt :=
  if t_k K 40 (e_k K L 46 σ) = true then e_k K L 41 (ft false (a_d (e_k K L 46 σ)))
  else if t_k K 91 (e_k K L 1 (e_k K L 46 σ)) = true then p_vs K L f 40 41 (p_l K L ft 93 7 (a_d (e_k K L 1 (e_k K L 46 σ))))
  else if K (e_k K L 1 (e_k K L 46 σ)).2 = 40 then p_vs K L f 40 41 (e_k K L 1 (e_k K L 46 σ)) else e_k K L 1 (e_k K L 46 σ)
def p_ps (g : RSt → RSt) : Nat → RSt → RSt
  | 0, σ => if t_k K 46 σ = true then (5 + 16 * L σ.2, σ.2) else σ
  | k + 1, σ => if t_k K 46 σ = true then p_ps g k (g σ) else σ
/-- an E, m levels left -/
def p_e : Nat → Bool → RSt → RSt
  | 0, _, σ => e_f K L true σ
  | m + 1, b, σ => p_ps K L (p_po K L (p_t K L m) (p_e m)) 20 (if (e_f K L b σ).1 = 0 ∧ (K (e_f K L b σ).2 = 123 ∨ K (e_f K L b σ).2 = 91) then p_vs K L (p_e m) 123 125 (p_t K L m false σ) else e_f K L b σ)
end FORM
section FORM2
variable {K L : Int → Int} {σ : RSt} {k c : Int} {b : Bool}
theorem ek_f (h : ¬ σ.1 = 0) : e_k K L k σ = σ := if_neg h
theorem ef_f (h : ¬ σ.1 = 0) : e_f K L b σ = σ := if_neg h
theorem tk_f (h : ¬ σ.1 = 0) : t_k K k σ = false := decide_eq_false (fun w => h w.1)
theorem ek_0 (h : (e_k K L k σ).1 = 0) : σ.1 = 0 ∧ K σ.2 = k ∧ e_k K L k σ = (0, σ.2 + 1) := by
  unfold e_k at h ⊢
  by_cases h0 : σ.1 = 0
  · rw [if_pos h0] at h ⊢
    by_cases h1 : K σ.2 = k
    · rw [if_pos h1]
      exact ⟨h0, h1, rfl⟩
    · rw [if_neg h1] at h
      dsimp only at h
      omega
  · rw [if_neg h0] at h
    exact absurd h h0
theorem ek_y (h0 : σ.1 = 0) (h1 : K σ.2 = k) : e_k K L k σ = (0, σ.2 + 1) := by
  unfold e_k
  rw [if_pos h0, if_pos h1]
theorem ef_0 (h : (e_f K L b σ).1 = 0) : σ.1 = 0 ∧ K σ.2 = 1 ∧ b = false ∧ e_f K L b σ = (0, σ.2 + 1) := by
  unfold e_f at h ⊢
  by_cases h0 : σ.1 = 0
  · rw [if_pos h0] at h ⊢
    by_cases h1 : K σ.2 = 1
    · rw [if_pos h1] at h ⊢
      cases b with
      | true =>
        rw [if_pos rfl] at h
        dsimp only at h
        omega
      | false => exact ⟨h0, h1, rfl, rfl⟩
    · rw [if_neg h1] at h
      dsimp only at h
      omega
  · rw [if_neg h0] at h
    exact absurd h h0
theorem ef_t (h : (e_f K L true σ).1 = 0) : False := by
  have := (ef_0 h).2.2.1
  cases this
theorem tk_t (h : t_k K k σ = true) : σ.1 = 0 ∧ K σ.2 = k := of_decide_eq_true h
theorem pl_0 {f : Bool → RSt → RSt} : ∀ {n : Nat} {σ : RSt}, (p_l K L f c (n + 1) σ).1 = 0 → (f (decide (n = 0)) σ).1 = 0
  | n, σ, h => by
    rw [p_l] at h
    by_cases h1 : (f (decide (n = 0)) σ).1 = 0
    · exact h1
    · rw [tk_f h1, if_neg (by simp), ek_f h1] at h
      exact h
/-- what a piece passes begins without a fault, and goes on -/
def Fw (f : Bool → RSt → RSt) : Prop := ∀ b σ, (f b σ).1 = 0 → σ.1 = 0 ∧ σ.2 < (f b σ).2
theorem pl_fw {f : Bool → RSt → RSt} (hf : Fw f) : ∀ (n : Nat) (σ : RSt), (p_l K L f c (n + 1) σ).1 = 0 → σ.1 = 0 ∧ σ.2 + 1 < (p_l K L f c (n + 1) σ).2
  | 0, σ, h => by
    have h1 := hf _ _ (pl_0 h)
    rw [p_l] at h ⊢
    rw [if_neg (by simp)] at h ⊢
    obtain ⟨e1, e2, e3⟩ := ek_0 h
    rw [e3]
    exact ⟨h1.1, by have := h1.2; dsimp only; omega⟩
  | n + 1, σ, h => by
    have h1 := hf _ _ (pl_0 h)
    rw [p_l] at h ⊢
    by_cases hc : n + 1 ≠ 0 ∧ t_k K 44 (f (decide (n + 1 = 0)) σ) = true
    · rw [if_pos hc] at h ⊢
      have h2 := pl_fw hf n _ h
      exact ⟨h1.1, by have := h2.2; have := h1.2; unfold a_d at *; dsimp only at *; omega⟩
    · rw [if_neg hc] at h ⊢
      obtain ⟨e1, e2, e3⟩ := ek_0 h
      rw [e3]
      exact ⟨h1.1, by have := h1.2; dsimp only; omega⟩
theorem pl_fw7 {f : Bool → RSt → RSt} (hf : Fw f) (σ : RSt) (h : (p_l K L f c 7 σ).1 = 0) : σ.1 = 0 ∧ σ.2 + 1 < (p_l K L f c 7 σ).2 := pl_fw hf 6 σ h
theorem pt_fw : ∀ m : Nat, Fw (p_t K L m)
  | 0 => fun b σ h => absurd (show (e_f K L true σ).1 = 0 from h) (fun w => ef_t w)
  | m + 1 => fun b σ h => by
    rw [p_t] at h ⊢
    by_cases hc : t_k K 91 (e_f K L b σ) = true
    · rw [if_pos hc] at h ⊢
      obtain ⟨e1, e2, e3, e4⟩ := ef_0 (tk_t hc).1
      have h2 := pl_fw7 (pt_fw m) _ h
      refine ⟨e1, ?_⟩
      have := h2.2
      rw [e4] at this ⊢
      unfold a_d at *
      dsimp only at *
      omega
    · rw [if_neg hc] at h ⊢
      obtain ⟨e1, e2, e3, e4⟩ := ef_0 h
      rw [e4]
      exact ⟨e1, by dsimp only; omega⟩
theorem pvs_fw {f : Bool → RSt → RSt} (hf : Fw f) {o : Int} (h : (p_vs K L f o c σ).1 = 0) : σ.1 = 0 ∧ K σ.2 = o ∧ σ.2 + 1 < (p_vs K L f o c σ).2 := by
  unfold p_vs at h ⊢
  by_cases hc : (e_k K L o σ).1 = 0 ∧ ¬ K (e_k K L o σ).2 = c
  · rw [if_pos hc] at h ⊢
    obtain ⟨e1, e2, e3⟩ := ek_0 hc.1
    have h2 := pl_fw7 hf _ h
    refine ⟨e1, e2, ?_⟩
    have := h2.2
    rw [e3] at this ⊢
    dsimp only at *
    omega
  · rw [if_neg hc] at h ⊢
    obtain ⟨f1, f2, f3⟩ := ek_0 h
    obtain ⟨e1, e2, e3⟩ := ek_0 f1
    refine ⟨e1, e2, ?_⟩
    rw [f3, e3]
    dsimp only
    omega
theorem ppo_fw {ft f : Bool → RSt → RSt} (hft : Fw ft) (hf : Fw f) (h : (p_po K L ft f σ).1 = 0) : σ.1 = 0 ∧ K σ.2 = 46 ∧ σ.2 + 1 < (p_po K L ft f σ).2 := by
  unfold p_po at h ⊢
  by_cases hc : t_k K 40 (e_k K L 46 σ) = true
  · rw [if_pos hc] at h ⊢
    obtain ⟨e1, e2, e3⟩ := ek_0 (tk_t hc).1
    obtain ⟨f1, f2, f3⟩ := ek_0 h
    have h2 := (hft _ _ f1).2
    refine ⟨e1, e2, ?_⟩
    rw [f3]
    rw [e3] at h2 ⊢
    unfold a_d at *
    dsimp only at *
    omega
  · rw [if_neg hc] at h ⊢
    by_cases h9 : t_k K 91 (e_k K L 1 (e_k K L 46 σ)) = true
    · rw [if_pos h9] at h ⊢
      obtain ⟨f1, f2, f3⟩ := ek_0 (tk_t h9).1
      obtain ⟨e1, e2, e3⟩ := ek_0 f1
      obtain ⟨g1, g2, g3⟩ := pvs_fw hf h
      have h2 := (pl_fw7 hft _ g1).2
      refine ⟨e1, e2, ?_⟩
      rw [f3, e3] at h2 g3 ⊢
      unfold a_d at *
      dsimp only at *
      omega
    · rw [if_neg h9] at h ⊢
      by_cases h4 : K (e_k K L 1 (e_k K L 46 σ)).2 = 40
      · rw [if_pos h4] at h ⊢
        obtain ⟨g1, g2, g3⟩ := pvs_fw hf h
        obtain ⟨f1, f2, f3⟩ := ek_0 g1
        obtain ⟨e1, e2, e3⟩ := ek_0 f1
        refine ⟨e1, e2, ?_⟩
        rw [f3, e3] at g3 ⊢
        dsimp only at *
        omega
      · rw [if_neg h4] at h ⊢
        obtain ⟨f1, f2, f3⟩ := ek_0 h
        obtain ⟨e1, e2, e3⟩ := ek_0 f1
        refine ⟨e1, e2, ?_⟩
        rw [f3, e3]
        dsimp only
        omega
theorem pps_fw {g : RSt → RSt} (hg : ∀ σ, (g σ).1 = 0 → σ.1 = 0 ∧ σ.2 < (g σ).2) : ∀ (n : Nat) (σ : RSt), (p_ps K L g n σ).1 = 0 → σ.1 = 0 ∧ σ.2 ≤ (p_ps K L g n σ).2
  | 0, σ, h => by
    rw [p_ps] at h ⊢
    by_cases hc : t_k K 46 σ = true
    · rw [if_pos hc] at h
      dsimp only at h
      omega
    · rw [if_neg hc] at h ⊢
      exact ⟨h, Int.le_refl _⟩
  | n + 1, σ, h => by
    rw [p_ps] at h ⊢
    by_cases hc : t_k K 46 σ = true
    · rw [if_pos hc] at h ⊢
      obtain ⟨h1, h2⟩ := pps_fw hg n _ h
      obtain ⟨h3, h4⟩ := hg _ h1
      exact ⟨h3, by omega⟩
    · rw [if_neg hc] at h ⊢
      exact ⟨h, Int.le_refl _⟩
theorem pe_fw : ∀ m : Nat, Fw (p_e K L m)
  | 0 => fun b σ h => absurd (show (e_f K L true σ).1 = 0 from h) (fun w => ef_t w)
  | m + 1 => fun b σ h => by
    rw [p_e] at h ⊢
    obtain ⟨h1, h2⟩ := pps_fw (fun σ h => by
      have := ppo_fw (pt_fw m) (pe_fw m) h
      exact ⟨this.1, by omega⟩) 20 _ h
    by_cases hc : (e_f K L b σ).1 = 0 ∧ (K (e_f K L b σ).2 = 123 ∨ K (e_f K L b σ).2 = 91)
    · rw [if_pos hc] at h1 h2 ⊢
      obtain ⟨g1, g2, g3⟩ := pvs_fw (pe_fw m) h1
      obtain ⟨e1, e2⟩ := pt_fw m _ _ g1
      exact ⟨e1, by omega⟩
    · rw [if_neg hc] at h1 h2 ⊢
      obtain ⟨e1, e2, e3, e4⟩ := ef_0 h1
      rw [e4] at h2 ⊢
      exact ⟨e1, by dsimp only at *; omega⟩
end FORM2
