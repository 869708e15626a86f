/-! ===== whose HEAD a slot belongs to; scopes ===== -/
/-- the FORMALS of head sg -/
def hfS (K L : Int → Int) (Ls : List Int) (sg : Int) : List Int := if 0 ≤ sg then (match (hdL K L Ls)[sg.toNat]? with
  | some q => h_f K L (0, q + 1)
  | none => []) else []
section WSG
variable {K L : Int → Int} {P : Nat} {s : zS} {lo hi m h t : Int} {Ls : List Int} {σ : RSt} {c : Int}
theorem hfS_at {sg : Nat} {q : Int} (hq : (hdL K L Ls)[sg]? = some q) : hfS K L Ls (sg : Int) = h_f K L (0, q + 1) := by
  unfold hfS
  rw [if_pos (by omega), Int.toNat_natCast, hq]
theorem hfS_n : hfS K L Ls (-1) = [] := by
  unfold hfS
  rw [if_neg (by decide)]
theorem pls_le {f : Bool → RSt → RSt} (hf : ∀ σ, ¬ (f true σ).1 = 0) : ∀ (k : Nat) (σ : RSt), (p_l K L f c (k + 1) σ).1 = 0 → (p_ls K f (k + 1) σ).length ≤ k
  | 0, σ, hq => absurd (pl_0 hq) (hf σ)
  | k + 1, σ, hq => by
    rw [pl_s] at hq
    rw [pls_s]
    by_cases hc : k + 1 ≠ 0 ∧ t_k K 44 (f (decide (k + 1 = 0)) σ) = true
    · rw [if_pos hc] at hq ⊢
      have := pls_le hf k _ hq
      rw [List.length_cons]
      omega
    · rw [if_neg hc]
      show 1 ≤ k + 1
      omega
theorem nf_tr : ¬ (n_f K L true σ).1 = 0 := fun hq => by
  have := nf_ok hq
  unfold n_f at hq
  have h1 := (pt_fw 10 _ _ hq).1
  exact ef_t h1
theorem lnm_le (hq : (p_nm K L c σ).1 = 0) : (l_nm K L σ).length ≤ 6 := pls_le (fun _ => nf_tr) 6 σ hq
theorem hd_len (hq : (p_hd K L σ).1 = 0) : (h_f K L σ).length ≤ 6 ∧ (h_v K L σ).length ≤ 6 := by
  have h3 := (pt_fw 10 _ _ hq).1
  have h2 : (h_2 K L σ).1 = 0 := by
    rcases Classical.em ((h_2 K L σ).1 = 0) with e | e
    · exact e
    · unfold h_3 at h3
      rw [tk_f e, if_neg (by decide), nm_f e] at h3
      exact absurd h3 e
  obtain ⟨q1, q2, q3⟩ := ek_0 (show (e_k K L 40 (h_1 K L σ)).1 = 0 from h2)
  constructor
  · unfold h_1 h_f at *
    by_cases hc : t_k K 91 σ = true
    · rw [if_pos hc] at q1 ⊢
      exact lnm_le q1
    · rw [if_neg hc]
      exact Nat.zero_le _
  · unfold h_3 h_v at *
    by_cases hc : t_k K 41 (h_2 K L σ) = true
    · rw [if_pos hc]
      exact Nat.zero_le _
    · rw [if_neg hc] at h3 ⊢
      exact lnm_le h3
theorem fo_len (hq : (y_5 K L false (0, t)).1 = 0) : (tFo K L false (0, t)).length ≤ 6 := by
  have h3 := (y5_fw hq).1
  unfold y_3 tFo at *
  by_cases hc : t_k K 91 (y_2 K L false (0, t)) = true
  · rw [if_pos hc] at h3 ⊢
    exact lnm_le h3
  · rw [if_neg hc]
    exact Nat.zero_le _
theorem pa_len (hq : (f_7 K L false (0, t)).1 = 0) : (fPa K L false (0, t)).length ≤ 6 := by
  have h4 := (f7_fw hq).2.2.2.2.1
  unfold f_4 fPa at *
  by_cases hc : t_k K 91 (f_3 K L false (0, t)) = true
  · rw [if_pos hc] at h4 ⊢
    exact pls_le (fun _ => fun e => ef_t e) 6 _ h4
  · rw [if_neg hc]
    exact Nat.zero_le _
theorem f4_le (hq : (f_7 K L false (0, t)).1 = 0) : t + 4 ≤ (f_4 K L false (0, t)).2 := by
  have f5 := (f7_fw hq).2.2.2.2.1
  have f4 : f_3 K L false (0, t) = (0, t + 4) := (f7_fw hq).2.2.2.1
  unfold f_4 at f5 ⊢
  rw [f4] at f5 ⊢
  by_cases hc : t_k K 91 ((0, t + 4) : RSt) = true
  · rw [if_pos hc] at f5 ⊢
    have h1 := (pl_fw7 ef_fw _ f5).2
    have h2 : t + 4 + 1 + 1 < (p_l K L (e_f K L) 93 7 (a_d (0, t + 4))).2 := h1
    omega
  · rw [if_neg hc]
    exact Int.le_refl _
theorem y5_le (hq : (y_5 K L false (0, t)).1 = 0) : t + 4 ≤ (y_5 K L false (0, t)).2 := by
  obtain ⟨h3, -, -, -, -, e6, e7, -⟩ := y5_fw hq
  have e6' : (y_2 K L false (0, t)).2 = t + 2 := e6
  unfold y_3 at h3 e7
  by_cases hc : t_k K 91 (y_2 K L false (0, t)) = true
  · rw [if_pos hc] at h3 e7
    have h1 : (y_2 K L false (0, t)).2 + 1 + 1 < (p_nm K L 93 (a_d (y_2 K L false (0, t)))).2 := (pnm_fw h3).2
    omega
  · rw [if_neg hc] at e7
    omega
/-- a HEAD of a declaration was passed -/
theorem hd_ps : ∀ (k : Nat) (σ : RSt) (j : Nat) (q : Int), (p_mb K (m_i K L) k σ).1 = 0 → (l_mb K (m_i K L) k σ)[j]? = some q → (p_hd K L (0, q + 1)).1 = 0 ∧ K q = 1 ∧ σ.2 ≤ q ∧ (p_hd K L (0, q + 1)).2 ≤ (p_mb K (m_i K L) k σ).2
  | 0, σ, j, q, _, e => by cases e
  | k + 1, σ, j, q, hq, e => by
    rw [pmb_s] at hq ⊢
    rw [lmb_s] at e
    by_cases hc : σ.1 = 0 ∧ ¬ K σ.2 = 125
    · rw [if_pos hc] at hq e ⊢
      have hm : (m_i K L (decide (k = 0)) σ).1 = 0 := by
        rcases Classical.em ((m_i K L (decide (k = 0)) σ).1 = 0) with w1 | w1
        · exact w1
        · rw [pmb_f w1 k] at hq
          exact absurd hq w1
      have hm' := hm
      unfold m_i at hm'
      obtain ⟨e1, e2, e3⟩ := ek_0 hm'
      obtain ⟨f1, f2, f3, f4⟩ := ef_0 (hd_fw e1).1
      rw [f4] at e1 e3
      have em : m_i K L (decide (k = 0)) σ = (0, (p_hd K L (0, σ.2 + 1)).2 + 1) := by
        unfold m_i
        rw [f4, e3]
      have hh := (hd_fw e1).2
      dsimp only at hh
      cases j with
      | zero =>
        have eq1 : σ.2 = q := by simpa using e
        rw [← eq1]
        refine ⟨e1, f2, Int.le_refl _, ?_⟩
        have := srtQ_le (srt_mi k _ 0 hq)
        rw [em] at this
        rw [em]
        show (p_hd K L (0, σ.2 + 1)).2 ≤ _
        dsimp only at this
        omega
      | succ j =>
        have := hd_ps k _ j q hq (by simpa using e)
        rw [em] at this ⊢
        dsimp only at this
        exact ⟨this.1, this.2.1, by omega, this.2.2.2⟩
    · rw [if_neg hc] at e
      cases e
/-- every HEAD of the declarations -/
theorem dHd_ps (hD : dcC K L lo hi Ls) {i j : Nat} {q : Int} (h1 : Ls[i]? = some t) (h2 : (dHd K L t)[j]? = some q) : (p_hd K L (0, q + 1)).1 = 0 ∧ K q = 1 ∧ lo ≤ q ∧ (p_hd K L (0, q + 1)).2 ≤ hi := by
  obtain ⟨d1, d2, d3⟩ := dcC_at Ls i t lo hi hD h1
  unfold dHd at h2
  by_cases h6 : K t = 6
  · rw [if_pos h6] at h2
    have hfn := fn_fw (d2 h6).1
    obtain ⟨f1, f2, f3, f4, f5, f6, f7, f8, f9, f10⟩ := f7_fw hfn.1
    have hj : j = 0 := by
      have := (List.getElem?_eq_some_iff.mp h2).1
      simp only [List.length_cons, List.length_nil] at this
      omega
    subst hj
    have e : (f_5 K L false (0, t)).2 = q := by simpa using h2
    have e6 : f_6 K L false (0, t) = (0, q + 1) := by
      rw [f7, ← e, f6]
      show ((0 : Int), (f_4 K L false (0, t)).2 + 2) = (0, (f_4 K L false (0, t)).2 + 1 + 1)
      rw [show (f_4 K L false (0, t)).2 + 2 = (f_4 K L false (0, t)).2 + 1 + 1 by omega]
    rw [e6] at f8 f9
    have hs := srtQ_le (srt_fn (h := 0) hfn.1)
    have e4 : (f_4 K L false (0, t)).2 + 1 = q := by rw [← e, f6]
    have h4 := f4_le hfn.1
    refine ⟨f8, ?_, by omega, ?_⟩
    · rw [← e4]
      exact f10.2.2
    · have := (d2 h6).2
      have a4 := hfn.2.2.2.1
      have a5 := hfn.2.2.2.2
      rw [f9] at a4 a5
      have a4' : (p_hd K L (0, q + 1)).2 + 2 < (p_e K L 10 false (0, (p_hd K L (0, q + 1)).2 + 2)).2 := a4
      omega
  · rw [if_neg h6] at h2
    by_cases hst : tSt K L false (0, t) = true
    · rw [if_pos hst] at h2
      cases h2
    · rw [if_neg hst] at h2
      have hty := ty_fw (d3 h6).1
      have hy5 := y5_fw hty.1
      have hym : y_m K L false (0, t) = m_i K L := by
        exact if_neg hst
      unfold tMe at h2
      rw [hym] at h2 hty
      have := hd_ps 7 _ j q hty.2.2.1 h2
      have hs := srtQ_le (srt_ty (h := 0) (d3 h6).1)
      have hle := y5_le hty.1
      refine ⟨this.1, this.2.1, by omega, ?_⟩
      have := (d3 h6).2
      have := hty.2.2.2
      omega
theorem hsL_sg : ∀ (l : List Int) (h : Int) (x : Int × Int × Int × Int), x ∈ hsL K L h l → ∃ jj : Nat, jj < l.length ∧ x.2.2.2 = h + (jj : Int)
  | [], h, x, hx => absurd hx List.not_mem_nil
  | a :: l, h, x, hx => by
    have hx' : x ∈ hSlt K L h (0, a + 1) ++ hsL K L (h + 1) l := hx
    rcases List.mem_append.mp hx' with hx | hx
    · refine ⟨0, by rw [List.length_cons]; omega, ?_⟩
      unfold hSlt nmS at hx
      rcases List.mem_append.mp hx with hx | hx
      · rcases List.mem_append.mp hx with hx | hx
        · obtain ⟨y, -, rfl⟩ := List.mem_map.mp hx
          show h = h + ((0 : Nat) : Int)
          omega
        · obtain ⟨y, -, rfl⟩ := List.mem_map.mp hx
          show h = h + ((0 : Nat) : Int)
          omega
      · rw [List.mem_singleton.mp hx]
        show h = h + ((0 : Nat) : Int)
        omega
    · obtain ⟨jj, h1, h2⟩ := hsL_sg l (h + 1) x hx
      exact ⟨jj + 1, by rw [List.length_cons]; omega, by rw [h2]; omega⟩
theorem sDc_sg {x : Int × Int × Int × Int} (hx : x ∈ sDc K L h t) : x.2.2.2 = -1 ∨ ∃ jj : Nat, jj < (dHd K L t).length ∧ x.2.2.2 = h + (jj : Int) := by
  unfold sDc at hx
  unfold dHd
  by_cases h6 : K t = 6
  · rw [if_pos h6] at hx ⊢
    refine Or.inr ⟨0, by show 0 < 1; omega, ?_⟩
    unfold fSlt prS hSlt nmS at hx
    have z : h + ((0 : Nat) : Int) = h := by omega
    rw [z]
    rcases List.mem_cons.mp hx with rfl | hx
    · rfl
    · rcases List.mem_append.mp hx with hx | hx
      · obtain ⟨y, -, rfl⟩ := List.mem_map.mp hx
        rfl
      · rcases List.mem_append.mp hx with hx | hx
        · rcases List.mem_append.mp hx with hx | hx
          · obtain ⟨y, -, rfl⟩ := List.mem_map.mp hx
            rfl
          · obtain ⟨y, -, rfl⟩ := List.mem_map.mp hx
            rfl
        · rw [List.mem_singleton.mp hx]
  · rw [if_neg h6] at hx ⊢
    unfold tSlt at hx
    rcases List.mem_append.mp hx with hx | hx
    · unfold nmS at hx
      obtain ⟨y, -, rfl⟩ := List.mem_map.mp hx
      exact Or.inl rfl
    · by_cases hst : tSt K L false (0, t) = true
      · rw [if_pos hst] at hx
        unfold nmS at hx
        obtain ⟨y, -, rfl⟩ := List.mem_map.mp hx
        exact Or.inl rfl
      · rw [if_neg hst] at hx ⊢
        exact Or.inr (hsL_sg _ h x hx)
/-- the scope of a HEAD, in the class's tables -/
theorem SCh_of (hD : dcC K L lo hi Ls) (hA : ALz K L P s m Ls) (hm : (kHd K L Ls : Int) ≤ 4000 ∧ ((aSl K L 0 Ls).length : Int) ≤ 4000) (hS : SLc P s (aSl K L 0 Ls)) {i : Nat} (h1 : Ls[i]? = some t) {x : Int × Int × Int × Int} (hx : x ∈ sDc K L (kHd K L (Ls.take i) : Int) t) : SCh P s x.2.2.2 (hfS K L Ls x.2.2.2) ∧ -1 ≤ x.2.2.2 ∧ x.2.2.2 ≤ 4000 := by
  rcases sDc_sg hx with e | ⟨jj, e1, e2⟩
  · rw [e, hfS_n]
    exact ⟨Or.inl ⟨by decide, rfl⟩, by decide, by decide⟩
  · obtain ⟨q, hq⟩ : ∃ q, (dHd K L t)[jj]? = some q := ⟨_, List.getElem?_eq_getElem e1⟩
    have hh := hdL_at Ls i jj t _ h1 hq
    have hps := dHd_ps hD h1 hq
    have e3 : x.2.2.2 = ((kHd K L (Ls.take i) + jj : Nat) : Int) := by omega
    have hlt : kHd K L (Ls.take i) + jj < kHd K L Ls := by
      have h9 := (List.getElem?_eq_some_iff.mp hh).1
      rw [hdL_len] at h9
      exact h9
    rw [e3, hfS_at hh]
    refine ⟨Or.inr ⟨by omega, (hd_len hps.1).1, ?_⟩, by omega, by omega⟩
    obtain ⟨b, ⟨g0, g1, g2, g3, g4⟩, g5⟩ := db_hd hD hA hh
    have sg : ∀ c : Nat, sgc s P ((kHd K L (Ls.take i) + jj : Nat) : Int) (c : Int) = (s.2 (P + 28) (5 * (kHd K L (Ls.take i) + jj) + c)).toInt := fun c => by
      unfold sgc
      rw [show 5 * ((kHd K L (Ls.take i) + jj : Nat) : Int) + (c : Int) = ((5 * (kHd K L (Ls.take i) + jj) + c : Nat) : Int) by omega, KI_n]
    have s2 := (sg 2).trans g2
    have s3 := (sg 3).trans g3
    have hb : (b : Int) ≤ 4000 := by
      have := g5 0
      rcases Nat.eq_zero_or_pos (hSlt K L ((kHd K L (Ls.take i) + jj : Nat) : Int) (0, q + 1)).length with h0 | h0
      · unfold hSlt at h0
        rw [List.length_append] at h0
        simp only [List.length_cons, List.length_nil] at h0
        omega
      · have hx0 := this _ (List.getElem?_eq_getElem h0)
        have := (List.getElem?_eq_some_iff.mp hx0).1
        omega
    refine ⟨s3, by rw [show ((2 : Nat) : Int) = 2 by rfl] at s2; rw [s2]; omega, fun k u hu => ?_⟩
    have hk := (List.getElem?_eq_some_iff.mp hu).1
    have hk2 : (hSlt K L ((kHd K L (Ls.take i) + jj : Nat) : Int) (0, q + 1))[k]? = some (u, 0, u + 1, ((kHd K L (Ls.take i) + jj : Nat) : Int)) := by
      unfold hSlt nmS
      rw [List.getElem?_append_left (by rw [List.length_append, List.length_map, List.length_map]; omega), List.getElem?_append_left (by rw [List.length_map]; omega), List.getElem?_map, hu]
      rfl
    have := (hS _ _ (g5 k _ hk2)).1
    rw [show ((2 : Nat) : Int) = 2 by rfl] at s2
    rw [s2, show (b : Int) + (k : Int) = ((b + k : Nat) : Int) by omega]
    exact this
end WSG
