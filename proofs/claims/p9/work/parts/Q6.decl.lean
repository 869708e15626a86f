/-! ===== the text's form: declarations ===== -/
section DECL
variable (K L : Int → Int)
/-- where what stands in a list begins -/
def p_ls (f : Bool → RSt → RSt) : Nat → RSt → List Int
  | 0, _ => []
  | k + 1, σ => σ.2 :: (if k ≠ 0 ∧ t_k K 44 (f (decide (k = 0)) σ) = true then p_ls f k (a_d (f (decide (k = 0)) σ)) else [])
/-- a name and a TYPE -/
def n_f (b : Bool) (σ : RSt) : RSt := p_t K L 10 false (e_f K L b σ)
def p_nm (c : Int) (σ : RSt) : RSt := p_l K L (n_f K L) c 7 σ
def l_nm (σ : RSt) : List Int := p_ls K (n_f K L) 7 σ
/-- a HEAD, from behind its name on -/
def h_1 (σ : RSt) : RSt := if t_k K 91 σ = true then p_nm K L 93 (a_d σ) else σ
def h_2 (σ : RSt) : RSt := e_k K L 40 (h_1 K L σ)
def h_3 (σ : RSt) : RSt := if t_k K 41 (h_2 K L σ) = true then a_d (h_2 K L σ) else p_nm K L 41 (h_2 K L σ)
def p_hd (σ : RSt) : RSt := p_t K L 10 false (h_3 K L σ)
def h_f (σ : RSt) : List Int := if t_k K 91 σ = true then l_nm K L (a_d σ) else []
def h_v (σ : RSt) : List Int := if t_k K 41 (h_2 K L σ) = true then [] else l_nm K L (h_2 K L σ)
/-- what stands in the { } of a type -/
def p_mb (f : Bool → RSt → RSt) : Nat → RSt → RSt
  | 0, σ => σ
  | k + 1, σ => if σ.1 = 0 ∧ ¬ K σ.2 = 125 then p_mb f k (f (decide (k = 0)) σ) else σ
def l_mb (f : Bool → RSt → RSt) : Nat → RSt → List Int
  | 0, _ => []
  | k + 1, σ => if σ.1 = 0 ∧ ¬ K σ.2 = 125 then σ.2 :: l_mb f k (f (decide (k = 0)) σ) else []
def m_s (b : Bool) (σ : RSt) : RSt := e_k K L 59 (n_f K L b σ)
def m_i (b : Bool) (σ : RSt) : RSt := e_k K L 59 (p_hd K L (e_f K L b σ))
/-- a type; b: it is one too many -/
def y_0 (b : Bool) (σ : RSt) : RSt := if t_k K 3 σ = true ∧ b = true then (5 + 16 * L σ.2, σ.2) else σ
def y_1 (b : Bool) (σ : RSt) : RSt := e_k K L 3 (y_0 K L b σ)
def y_2 (b : Bool) (σ : RSt) : RSt := e_k K L 1 (y_1 K L b σ)
def y_3 (b : Bool) (σ : RSt) : RSt := if t_k K 91 (y_2 K L b σ) = true then p_nm K L 93 (a_d (y_2 K L b σ)) else y_2 K L b σ
def y_4 (b : Bool) (σ : RSt) : RSt := if t_k K 4 (y_3 K L b σ) = true then a_d (y_3 K L b σ) else e_k K L 5 (y_3 K L b σ)
def y_5 (b : Bool) (σ : RSt) : RSt := e_k K L 123 (y_4 K L b σ)
def y_m (b : Bool) (σ : RSt) : Bool → RSt → RSt := if t_k K 4 (y_3 K L b σ) = true then m_s K L else m_i K L
def p_ty (b : Bool) (σ : RSt) : RSt := e_k K L 125 (p_mb K (y_m K L b σ) 7 (y_5 K L b σ))
/-- a func; b: it is one too many -/
def f_0 (b : Bool) (σ : RSt) : RSt := if σ.1 = 0 ∧ b = true then (5 + 16 * L σ.2, σ.2) else σ
/-- at its VAR -/
def f_1 (b : Bool) (σ : RSt) : RSt := e_k K L 40 (e_k K L 6 (f_0 L b σ))
/-- at its NAME -/
def f_2 (b : Bool) (σ : RSt) : RSt := e_k K L 1 (f_1 K L b σ)
def f_3 (b : Bool) (σ : RSt) : RSt := e_k K L 1 (f_2 K L b σ)
def f_4 (b : Bool) (σ : RSt) : RSt := if t_k K 91 (f_3 K L b σ) = true then p_l K L (e_f K L) 93 7 (a_d (f_3 K L b σ)) else f_3 K L b σ
/-- at the METHOD's name -/
def f_5 (b : Bool) (σ : RSt) : RSt := e_k K L 41 (f_4 K L b σ)
def f_6 (b : Bool) (σ : RSt) : RSt := e_k K L 1 (f_5 K L b σ)
/-- at its E -/
def f_7 (b : Bool) (σ : RSt) : RSt := e_k K L 7 (e_k K L 123 (p_hd K L (f_6 K L b σ)))
def p_fn (b : Bool) (σ : RSt) : RSt := e_k K L 125 (p_e K L 10 false (f_7 K L b σ))
/-- all declarations: T types, F funcs so far -/
def p_al : Nat → Nat → Nat → RSt → RSt
  | 0, _, _, σ => σ
  | k + 1, T, F, σ => if σ.1 = 0 ∧ ¬ K σ.2 = 8 then (if K σ.2 = 6 then p_al k T (F + 1) (p_fn K L (decide (60 ≤ F)) σ) else p_al k (T + 1) F (p_ty K L (decide (24 ≤ T)) σ)) else σ
/-- a program, up to its end -/
def p_pg (σ : RSt) : RSt := e_k K L 0 (e_k K L 59 (p_e K L 10 false (e_k K L 8 (p_al K L 4000 0 0 σ))))
/-- where the declarations begin -/
def l_al : Nat → Nat → Nat → RSt → List Int
  | 0, _, _, _ => []
  | k + 1, T, F, σ => if σ.1 = 0 ∧ ¬ K σ.2 = 8 then σ.2 :: (if K σ.2 = 6 then l_al k T (F + 1) (p_fn K L (decide (60 ≤ F)) σ) else l_al k (T + 1) F (p_ty K L (decide (24 ≤ T)) σ)) else []
end DECL
section DECL2
variable {K L : Int → Int} {σ : RSt} {b : Bool} {c : Int}
theorem nf_fw : Fw (n_f K L) := fun b σ h => by
  unfold n_f at h ⊢
  obtain ⟨h1, h2⟩ := pt_fw 10 _ _ h
  obtain ⟨e1, e2, e3, e4⟩ := ef_0 h1
  rw [e4] at h2 ⊢
  exact ⟨e1, by dsimp only at h2; omega⟩
theorem ef_fw : Fw (e_f K L) := fun b σ h => by
  obtain ⟨e1, e2, e3, e4⟩ := ef_0 h
  rw [e4]
  exact ⟨e1, by dsimp only; omega⟩
/-- behind a fault nothing moves -/
theorem pt_f : ∀ (m : Nat) {b : Bool} {σ : RSt}, ¬ σ.1 = 0 → p_t K L m b σ = σ
  | 0, b, σ, h => ef_f h
  | m + 1, b, σ, h => by rw [p_t, ef_f h, tk_f h, if_neg (by decide)]
theorem pl_f {f : Bool → RSt → RSt} (hf : ∀ b, f b σ = σ) (h : ¬ σ.1 = 0) : ∀ k : Nat, p_l K L f c k σ = σ
  | 0 => rfl
  | k + 1 => by rw [p_l, hf, tk_f h, if_neg (by simp), ek_f h]
theorem nf_f (h : ¬ σ.1 = 0) : n_f K L b σ = σ := by
  unfold n_f
  rw [ef_f h, pt_f 10 h]
theorem nm_f (h : ¬ σ.1 = 0) : p_nm K L c σ = σ := pl_f (fun _ => nf_f h) h 7
theorem h1_f (h : ¬ σ.1 = 0) : h_1 K L σ = σ := by
  unfold h_1
  rw [tk_f h, if_neg (by decide)]
theorem h2_f (h : ¬ σ.1 = 0) : h_2 K L σ = σ := by
  unfold h_2
  rw [h1_f h, ek_f h]
theorem h3_f (h : ¬ σ.1 = 0) : h_3 K L σ = σ := by
  unfold h_3
  rw [h2_f h, tk_f h, if_neg (by decide), nm_f h]
theorem hd_f (h : ¬ σ.1 = 0) : p_hd K L σ = σ := by
  unfold p_hd
  rw [h3_f h, pt_f 10 h]
theorem pvs_f {f : Bool → RSt → RSt} {o : Int} (h : ¬ σ.1 = 0) : p_vs K L f o c σ = σ := by
  unfold p_vs
  rw [ek_f h, if_neg (fun w => h w.1), ek_f h]
theorem pe_f : ∀ (m : Nat) {b : Bool} {σ : RSt}, ¬ σ.1 = 0 → p_e K L m b σ = σ
  | 0, b, σ, h => ef_f h
  | m + 1, b, σ, h => by rw [p_e, ef_f h, if_neg (fun w => h w.1), pps_no (tk_f h)]
theorem pnm_fw (h : (p_nm K L c σ).1 = 0) : σ.1 = 0 ∧ σ.2 + 1 < (p_nm K L c σ).2 := pl_fw7 nf_fw σ h
theorem h1_fw (h : (h_1 K L σ).1 = 0) : σ.1 = 0 ∧ σ.2 ≤ (h_1 K L σ).2 := by
  unfold h_1 at h ⊢
  by_cases hc : t_k K 91 σ = true
  · rw [if_pos hc] at h ⊢
    have := (pnm_fw h).2
    unfold a_d at this ⊢
    exact ⟨(tk_t hc).1, by dsimp only at this; omega⟩
  · rw [if_neg hc] at h ⊢
    exact ⟨h, Int.le_refl _⟩
theorem h2_fw (h : (h_2 K L σ).1 = 0) : σ.1 = 0 ∧ σ.2 < (h_2 K L σ).2 := by
  unfold h_2 at h ⊢
  obtain ⟨e1, e2, e3⟩ := ek_0 h
  have := h1_fw e1
  rw [e3]
  exact ⟨this.1, by dsimp only; omega⟩
theorem h3_fw (h : (h_3 K L σ).1 = 0) : σ.1 = 0 ∧ σ.2 + 1 < (h_3 K L σ).2 := by
  unfold h_3 at h ⊢
  by_cases hc : t_k K 41 (h_2 K L σ) = true
  · rw [if_pos hc] at h ⊢
    have := h2_fw (tk_t hc).1
    exact ⟨this.1, by unfold a_d; dsimp only; omega⟩
  · rw [if_neg hc] at h ⊢
    have := pnm_fw h
    have h2 := h2_fw this.1
    exact ⟨h2.1, by omega⟩
theorem hd_fw (h : (p_hd K L σ).1 = 0) : σ.1 = 0 ∧ σ.2 + 2 < (p_hd K L σ).2 := by
  unfold p_hd at h ⊢
  have h1 := pt_fw 10 _ _ h
  have h3 := h3_fw h1.1
  exact ⟨h3.1, by omega⟩
end DECL2
