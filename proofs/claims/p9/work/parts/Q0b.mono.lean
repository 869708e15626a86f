/-! ===== what was passed with fewer levels is passed with more ===== -/
section FORM3
variable {K L : Int → Int} {σ : RSt} {k c o : Int} {b : Bool}
theorem pl_s (f : Bool → RSt → RSt) (n : Nat) (σ : RSt) : p_l K L f c (n + 1) σ = if n ≠ 0 ∧ t_k K 44 (f (decide (n = 0)) σ) = true then p_l K L f c n (a_d (f (decide (n = 0)) σ)) else e_k K L c (f (decide (n = 0)) σ) := by rw [p_l]
theorem pn_s (f : Bool → RSt → RSt) (n : Nat) (σ : RSt) : p_n K f (n + 1) σ = if n ≠ 0 ∧ t_k K 44 (f (decide (n = 0)) σ) = true then p_n K f n (a_d (f (decide (n = 0)) σ)) + 1 else 1 := by rw [p_n]
def Ag (f g : Bool → RSt → RSt) : Prop := ∀ b σ, (f b σ).1 = 0 → g b σ = f b σ
theorem pl_mono {f g : Bool → RSt → RSt} (hfg : Ag f g) : ∀ (n : Nat) (σ : RSt), (p_l K L f c (n + 1) σ).1 = 0 → p_l K L g c (n + 1) σ = p_l K L f c (n + 1) σ ∧ p_n K g (n + 1) σ = p_n K f (n + 1) σ
  | 0, σ, h => by
    have h1 := hfg _ _ (pl_0 h)
    rw [pl_s g, pl_s f, pn_s g, pn_s f, h1]
    exact ⟨rfl, rfl⟩
  | n + 1, σ, h => by
    have h1 := hfg _ _ (pl_0 h)
    rw [p_l] at h
    rw [pl_s g, pl_s f, pn_s g, pn_s f, h1]
    by_cases hc : n + 1 ≠ 0 ∧ t_k K 44 (f (decide (n + 1 = 0)) σ) = true
    · rw [if_pos hc] at h
      rw [if_pos hc, if_pos hc, if_pos hc, if_pos hc]
      obtain ⟨h2, h3⟩ := pl_mono hfg n _ h
      exact ⟨h2, by rw [h3]⟩
    · rw [if_neg hc, if_neg hc, if_neg hc, if_neg hc]
      exact ⟨rfl, rfl⟩
theorem pl_mono7 {f g : Bool → RSt → RSt} (hfg : Ag f g) (σ : RSt) (h : (p_l K L f c 7 σ).1 = 0) : p_l K L g c 7 σ = p_l K L f c 7 σ ∧ p_n K g 7 σ = p_n K f 7 σ := pl_mono hfg 6 σ h
theorem pt_mono : ∀ (m m' : Nat), m ≤ m' → Ag (p_t K L m) (p_t K L m')
  | 0, _, _ => fun b σ h => absurd (show (e_f K L true σ).1 = 0 from h) (fun w => ef_t w)
  | m + 1, 0, hm => by omega
  | m + 1, m' + 1, hm => fun b σ h => by
    rw [p_t] at h
    rw [p_t, p_t]
    by_cases hc : t_k K 91 (e_f K L b σ) = true
    · rw [if_pos hc] at h
      rw [if_pos hc, if_pos hc]
      exact (pl_mono7 (pt_mono m m' (by omega)) _ h).1
    · rw [if_neg hc, if_neg hc]
theorem pvs_mono {f g : Bool → RSt → RSt} (hfg : Ag f g) (h : (p_vs K L f o c σ).1 = 0) : p_vs K L g o c σ = p_vs K L f o c σ ∧ p_vn K L g o c σ = p_vn K L f o c σ := by
  unfold p_vs at h
  unfold p_vs p_vn
  by_cases hc : (e_k K L o σ).1 = 0 ∧ ¬ K (e_k K L o σ).2 = c
  · rw [if_pos hc] at h
    rw [if_pos hc, if_pos hc, if_pos hc, if_pos hc]
    exact pl_mono7 hfg _ h
  · rw [if_neg hc, if_neg hc, if_neg hc, if_neg hc]
    exact ⟨rfl, rfl⟩
theorem ppo_mono {ft gt f g : Bool → RSt → RSt} (hF : Fw f) (hft : Ag ft gt) (hfg : Ag f g) (h : (p_po K L ft f σ).1 = 0) : p_po K L gt g σ = p_po K L ft f σ := by
  unfold p_po at h
  unfold p_po
  by_cases hc : t_k K 40 (e_k K L 46 σ) = true
  · rw [if_pos hc] at h
    rw [if_pos hc, if_pos hc, hft _ _ (ek_0 h).1]
  · rw [if_neg hc] at h
    rw [if_neg hc, if_neg hc]
    by_cases h9 : t_k K 91 (e_k K L 1 (e_k K L 46 σ)) = true
    · rw [if_pos h9] at h
      rw [if_pos h9, if_pos h9]
      have h1 := (pvs_fw hF h).1
      rw [(pl_mono7 hft _ h1).1]
      exact (pvs_mono hfg h).1
    · rw [if_neg h9] at h
      rw [if_neg h9, if_neg h9]
      by_cases h4 : K (e_k K L 1 (e_k K L 46 σ)).2 = 40
      · rw [if_pos h4] at h
        rw [if_pos h4, if_pos h4]
        exact (pvs_mono hfg h).1
      · rw [if_neg h4, if_neg h4]
theorem pps_mono {g g' : RSt → RSt} (hg : ∀ σ, (g σ).1 = 0 → σ.1 = 0 ∧ σ.2 < (g σ).2) (h : ∀ σ, (g σ).1 = 0 → g' σ = g σ) : ∀ (n : Nat) (σ : RSt), (p_ps K L g n σ).1 = 0 → p_ps K L g' n σ = p_ps K L g n σ
  | 0, σ, _ => rfl
  | n + 1, σ, h0 => by
    rw [p_ps] at h0
    rw [p_ps, p_ps]
    by_cases hc : t_k K 46 σ = true
    · rw [if_pos hc] at h0
      rw [if_pos hc, if_pos hc, h σ (pps_fw hg n _ h0).1]
      exact pps_mono hg h n _ h0
    · rw [if_neg hc, if_neg hc]
theorem pe_mono : ∀ (m m' : Nat), m ≤ m' → Ag (p_e K L m) (p_e K L m')
  | 0, _, _ => fun b σ h => absurd (show (e_f K L true σ).1 = 0 from h) (fun w => ef_t w)
  | m + 1, 0, hm => by omega
  | m + 1, m' + 1, hm => fun b σ h => by
    have ht := pt_mono (K := K) (L := L) m m' (by omega)
    have he := pe_mono m m' (by omega)
    have hg : ∀ σ, (p_po K L (p_t K L m) (p_e K L m) σ).1 = 0 → σ.1 = 0 ∧ σ.2 < (p_po K L (p_t K L m) (p_e K L m) σ).2 := fun σ h => by
      have := ppo_fw (pt_fw m) (pe_fw m) h
      exact ⟨this.1, by omega⟩
    rw [p_e] at h
    rw [p_e, p_e]
    have h1 := (pps_fw hg 20 _ h).1
    by_cases hc : (e_f K L b σ).1 = 0 ∧ (K (e_f K L b σ).2 = 123 ∨ K (e_f K L b σ).2 = 91)
    · rw [if_pos hc] at h h1
      rw [if_pos hc, if_pos hc]
      have h2 := (pvs_fw (pe_fw m) h1).1
      rw [ht _ _ h2, (pvs_mono he h1).1]
      exact pps_mono hg (fun σ h => ppo_mono (pe_fw m) ht he h) 20 _ h
    · rw [if_neg hc] at h
      rw [if_neg hc, if_neg hc]
      exact pps_mono hg (fun σ h => ppo_mono (pe_fw m) ht he h) 20 _ h
/-- a TYPE's own tokens -/
def tyK (x : Int) : Prop := x = 1 ∨ x = 44 ∨ x = 91 ∨ x = 93
theorem pl_tok {f : Bool → RSt → RSt} (hF : Fw f) (hf : ∀ b σ, (f b σ).1 = 0 → ∀ q, σ.2 ≤ q → q < (f b σ).2 → tyK (K q)) : ∀ (n : Nat) (σ : RSt), (p_l K L f 93 (n + 1) σ).1 = 0 → ∀ q, σ.2 ≤ q → q < (p_l K L f 93 (n + 1) σ).2 → tyK (K q)
  | 0, σ, h => fun q h1 h2 => by
    have g0 := pl_0 h
    rw [p_l] at h h2
    rw [if_neg (by simp)] at h h2
    obtain ⟨e1, e2, e3⟩ := ek_0 h
    rw [e3] at h2
    dsimp only at h2
    by_cases hq : q < (f (decide (0 = 0)) σ).2
    · exact hf _ _ g0 q h1 hq
    · rw [show q = (f (decide (0 = 0)) σ).2 by omega, e2]
      exact Or.inr (Or.inr (Or.inr rfl))
  | n + 1, σ, h => fun q h1 h2 => by
    have g0 := pl_0 h
    rw [p_l] at h h2
    by_cases hq : q < (f (decide (n + 1 = 0)) σ).2
    · exact hf _ _ g0 q h1 hq
    · by_cases hc : n + 1 ≠ 0 ∧ t_k K 44 (f (decide (n + 1 = 0)) σ) = true
      · rw [if_pos hc] at h h2
        by_cases hq2 : q = (f (decide (n + 1 = 0)) σ).2
        · rw [hq2, (tk_t hc.2).2]
          exact Or.inr (Or.inl rfl)
        · exact pl_tok hF hf n _ h q (by unfold a_d; dsimp only; omega) h2
      · rw [if_neg hc] at h h2
        obtain ⟨e1, e2, e3⟩ := ek_0 h
        rw [e3] at h2
        dsimp only at h2
        rw [show q = (f (decide (n + 1 = 0)) σ).2 by omega, e2]
        exact Or.inr (Or.inr (Or.inr rfl))
theorem pl_tok7 {f : Bool → RSt → RSt} (hF : Fw f) (hf : ∀ b σ, (f b σ).1 = 0 → ∀ q, σ.2 ≤ q → q < (f b σ).2 → tyK (K q)) (σ : RSt) (h : (p_l K L f 93 7 σ).1 = 0) : ∀ q, σ.2 ≤ q → q < (p_l K L f 93 7 σ).2 → tyK (K q) := pl_tok hF hf 6 σ h
theorem pt_tok : ∀ (m : Nat) (b : Bool) (σ : RSt), (p_t K L m b σ).1 = 0 → ∀ q, σ.2 ≤ q → q < (p_t K L m b σ).2 → tyK (K q)
  | 0, b, σ, h => absurd (show (e_f K L true σ).1 = 0 from h) (fun w => ef_t w)
  | m + 1, b, σ, h => fun q h1 h2 => by
    rw [p_t] at h h2
    by_cases hc : t_k K 91 (e_f K L b σ) = true
    · rw [if_pos hc] at h h2
      obtain ⟨g1, g2⟩ := tk_t hc
      obtain ⟨e1, e2, e3, e4⟩ := ef_0 g1
      rw [e4] at g2 h h2
      dsimp only at g2
      by_cases q1 : q = σ.2
      · rw [q1, e2]
        exact Or.inl rfl
      · by_cases q2 : q = σ.2 + 1
        · rw [q2, g2]
          exact Or.inr (Or.inr (Or.inl rfl))
        · exact pl_tok7 (pt_fw m) (pt_tok m) _ h q (by unfold a_d; dsimp only; omega) h2
    · rw [if_neg hc] at h h2
      obtain ⟨e1, e2, e3, e4⟩ := ef_0 h
      rw [e4] at h2
      dsimp only at h2
      rw [show q = σ.2 by omega, e2]
      exact Or.inl rfl
end FORM3
