/-! ===== what declarations tell lies in the order of the text ===== -/
def srtQ (K L : Int → Int) : Int → Int → List (Int × Int × Int × Int) → Prop
  | lo, hi, [] => lo ≤ hi
  | lo, hi, q :: l => ∃ a b, lo ≤ a ∧ a ≤ b ∧ (0 ≤ q.1 → lo ≤ q.1 ∧ q.1 < a) ∧ (0 ≤ q.2.2.1 → a ≤ q.2.2.1 ∧ nxT K L q.2.2.1 ≤ b ∧ (p_t K L 10 false (0, q.2.2.1)).1 = 0) ∧ srtQ K L b hi l
section WSO
variable {K L : Int → Int} {lo lo' hi hi' mi c h kd sg : Int} {l l' : List (Int × Int × Int × Int)} {σ : RSt}
theorem srtQ_le : ∀ {l : List (Int × Int × Int × Int)} {lo hi : Int}, srtQ K L lo hi l → lo ≤ hi
  | [], _, _, h => h
  | q :: l, lo, hi, h => by
    obtain ⟨a, b, h1, h2, -, -, h5⟩ := h
    have := srtQ_le h5
    omega
theorem srtQ_lo (hl : lo ≤ lo') (h : srtQ K L lo' hi l) : srtQ K L lo hi l := by
  cases l with
  | nil => exact Int.le_trans hl h
  | cons q l =>
    obtain ⟨a, b, h1, h2, h3, h4, h5⟩ := h
    exact ⟨a, b, by omega, h2, fun w => ⟨by have := h3 w; omega, (h3 w).2⟩, h4, h5⟩
theorem srtQ_app : ∀ {l l' : List (Int × Int × Int × Int)} {lo mi hi : Int}, srtQ K L lo mi l → srtQ K L mi hi l' → srtQ K L lo hi (l ++ l')
  | [], l', lo, mi, hi, h, g => srtQ_lo h g
  | q :: l, l', lo, mi, hi, h, g => by
    obtain ⟨a, b, h1, h2, h3, h4, h5⟩ := h
    exact ⟨a, b, h1, h2, h3, h4, srtQ_app h5 g⟩
theorem srtQ_hi (hl : hi ≤ hi') (h : srtQ K L lo hi l) : srtQ K L lo hi' l := by
  have := srtQ_app (l' := []) (hi := hi') h hl
  rw [List.append_nil] at this
  exact this
theorem nf_ok {b : Bool} (h : (n_f K L b σ).1 = 0) : σ.1 = 0 ∧ K σ.2 = 1 ∧ (p_t K L 10 false (0, σ.2 + 1)).1 = 0 ∧ n_f K L b σ = (0, nxT K L (σ.2 + 1)) ∧ σ.2 + 1 < nxT K L (σ.2 + 1) := by
  unfold n_f at h ⊢
  obtain ⟨h1, h2⟩ := pt_fw 10 _ _ h
  obtain ⟨e1, e2, e3, e4⟩ := ef_0 h1
  rw [e4] at h h2 ⊢
  have := (pt_g 10 (by omega) false (σ.2 + 1) h).2.2
  rw [← this] at h2
  exact ⟨e1, e2, h, Prod.ext h this.symm, h2⟩
theorem srt_nm : ∀ (k : Nat) (σ : RSt), (p_l K L (n_f K L) c (k + 1) σ).1 = 0 → srtQ K L σ.2 (p_l K L (n_f K L) c (k + 1) σ).2 (nmS kd sg (p_ls K (n_f K L) (k + 1) σ))
  | 0, σ, h => by
    have h0 := nf_ok (pl_0 h)
    rw [pl_s] at h ⊢
    rw [pls_s]
    rw [if_neg (by simp)] at h ⊢
    rw [if_neg (by simp)]
    obtain ⟨e1, e2, e3⟩ := ek_0 h
    rw [e3, h0.2.2.2.1]
    exact ⟨σ.2 + 1, nxT K L (σ.2 + 1), by omega, by omega, fun _ => ⟨Int.le_refl _, by show σ.2 < σ.2 + 1; omega⟩, fun _ => ⟨Int.le_refl _, Int.le_refl _, h0.2.2.1⟩, by show nxT K L (σ.2 + 1) ≤ nxT K L (σ.2 + 1) + 1; omega⟩
  | k + 1, σ, h => by
    have h0 := nf_ok (pl_0 h)
    rw [pl_s] at h ⊢
    rw [pls_s]
    by_cases hc : k + 1 ≠ 0 ∧ t_k K 44 (n_f K L (decide (k + 1 = 0)) σ) = true
    · rw [if_pos hc] at h ⊢
      rw [if_pos hc]
      have ih := srt_nm k _ h
      rw [h0.2.2.2.1] at ih ⊢
      refine ⟨σ.2 + 1, nxT K L (σ.2 + 1), by omega, by omega, fun _ => ⟨Int.le_refl _, by show σ.2 < σ.2 + 1; omega⟩, fun _ => ⟨Int.le_refl _, Int.le_refl _, h0.2.2.1⟩, srtQ_lo ?_ ih⟩
      show nxT K L (σ.2 + 1) ≤ nxT K L (σ.2 + 1) + 1
      omega
    · rw [if_neg hc] at h ⊢
      rw [if_neg hc]
      obtain ⟨e1, e2, e3⟩ := ek_0 h
      rw [e3, h0.2.2.2.1]
      exact ⟨σ.2 + 1, nxT K L (σ.2 + 1), by omega, by omega, fun _ => ⟨Int.le_refl _, by show σ.2 < σ.2 + 1; omega⟩, fun _ => ⟨Int.le_refl _, Int.le_refl _, h0.2.2.1⟩, by show nxT K L (σ.2 + 1) ≤ nxT K L (σ.2 + 1) + 1; omega⟩
theorem srt_nm7 (h : (p_nm K L c σ).1 = 0) : srtQ K L σ.2 (p_nm K L c σ).2 (nmS kd sg (l_nm K L σ)) := srt_nm 6 σ h
theorem srt_pr : ∀ (k : Nat) (σ : RSt), (p_l K L (e_f K L) c (k + 1) σ).1 = 0 → srtQ K L σ.2 (p_l K L (e_f K L) c (k + 1) σ).2 (prS sg (p_ls K (e_f K L) (k + 1) σ))
  | 0, σ, h => by
    obtain ⟨a1, a2, a3, a4⟩ := ef_0 (pl_0 h)
    rw [pl_s] at h ⊢
    rw [pls_s]
    rw [if_neg (by simp)] at h ⊢
    rw [if_neg (by simp)]
    obtain ⟨e1, e2, e3⟩ := ek_0 h
    rw [e3, a4]
    exact ⟨σ.2 + 1, σ.2 + 1, by omega, by omega, fun _ => ⟨Int.le_refl _, by show σ.2 < σ.2 + 1; omega⟩, fun w => absurd w (show ¬ (0 : Int) ≤ -1 by decide), by show σ.2 + 1 ≤ σ.2 + 1 + 1; omega⟩
  | k + 1, σ, h => by
    obtain ⟨a1, a2, a3, a4⟩ := ef_0 (pl_0 h)
    rw [pl_s] at h ⊢
    rw [pls_s]
    by_cases hc : k + 1 ≠ 0 ∧ t_k K 44 (e_f K L (decide (k + 1 = 0)) σ) = true
    · rw [if_pos hc] at h ⊢
      rw [if_pos hc]
      have ih := srt_pr k _ h
      rw [a4] at ih ⊢
      refine ⟨σ.2 + 1, σ.2 + 1, by omega, by omega, fun _ => ⟨Int.le_refl _, by show σ.2 < σ.2 + 1; omega⟩, fun w => absurd w (show ¬ (0 : Int) ≤ -1 by decide), srtQ_lo ?_ ih⟩
      show σ.2 + 1 ≤ σ.2 + 1 + 1
      omega
    · rw [if_neg hc] at h ⊢
      rw [if_neg hc]
      obtain ⟨e1, e2, e3⟩ := ek_0 h
      rw [e3, a4]
      exact ⟨σ.2 + 1, σ.2 + 1, by omega, by omega, fun _ => ⟨Int.le_refl _, by show σ.2 < σ.2 + 1; omega⟩, fun w => absurd w (show ¬ (0 : Int) ≤ -1 by decide), by show σ.2 + 1 ≤ σ.2 + 1 + 1; omega⟩
theorem srt_pr7 (h : (p_l K L (e_f K L) c 7 σ).1 = 0) : srtQ K L σ.2 (p_l K L (e_f K L) c 7 σ).2 (prS sg (p_ls K (e_f K L) 7 σ)) := srt_pr 6 σ h
/-- a HEAD -/
theorem srt_hd (hq : (p_hd K L σ).1 = 0) : srtQ K L σ.2 (p_hd K L σ).2 (hSlt K L h σ) := by
  have h3 := (pt_fw 10 _ _ hq).1
  have e3 : h_3 K L σ = (0, (h_3 K L σ).2) := Prod.ext h3 rfl
  have h2 : (h_2 K L σ).1 = 0 := by
    rcases Classical.em ((h_2 K L σ).1 = 0) with w | w
    · exact w
    · unfold h_3 at h3
      rw [tk_f w, if_neg (by decide), nm_f w] at h3
      exact absurd h3 w
  obtain ⟨q1, q2, q3⟩ := ek_0 (show (e_k K L 40 (h_1 K L σ)).1 = 0 from h2)
  have q3' : h_2 K L σ = (0, (h_1 K L σ).2 + 1) := q3
  unfold hSlt
  refine srtQ_app (mi := (h_3 K L σ).2) (srtQ_app (mi := (h_2 K L σ).2) ?_ ?_) ?_
  · have hle : (h_1 K L σ).2 ≤ (h_2 K L σ).2 := by rw [q3']; show (h_1 K L σ).2 ≤ (h_1 K L σ).2 + 1; omega
    refine srtQ_hi hle ?_
    unfold h_1 h_f at *
    by_cases hc : t_k K 91 σ = true
    · rw [if_pos hc] at q1 ⊢
      rw [if_pos hc]
      refine srtQ_lo ?_ (srt_nm7 q1)
      show σ.2 ≤ σ.2 + 1
      omega
    · rw [if_neg hc] at q1 ⊢
      rw [if_neg hc]
      exact Int.le_refl _
  · unfold h_3 h_v at *
    by_cases hc : t_k K 41 (h_2 K L σ) = true
    · rw [if_pos hc] at h3 ⊢
      rw [if_pos hc]
      show (h_2 K L σ).2 ≤ (h_2 K L σ).2 + 1
      omega
    · rw [if_neg hc] at h3 ⊢
      rw [if_neg hc]
      exact srt_nm7 h3
  · have hq' := hq
    unfold p_hd at hq' ⊢
    rw [e3] at hq' ⊢
    have g := (pt_g 10 (by omega) false _ hq').2.2
    have fw := (pt_fw 10 _ _ hq').2
    refine ⟨(h_3 K L σ).2, nxT K L (h_3 K L σ).2, Int.le_refl _, ?_, fun w => absurd w (show ¬ (0 : Int) ≤ -1 by decide), fun _ => ⟨Int.le_refl _, Int.le_refl _, ?_⟩, ?_⟩
    · rw [g]
      exact Int.le_of_lt fw
    · exact hq'
    · show nxT K L (h_3 K L σ).2 ≤ (p_t K L 10 false (0, (h_3 K L σ).2)).2
      rw [g]
      exact Int.le_refl _
theorem ms_f {b : Bool} (hw : ¬ σ.1 = 0) : m_s K L b σ = σ := by
  unfold m_s
  rw [nf_f hw, ek_f hw]
theorem mi_f {b : Bool} (hw : ¬ σ.1 = 0) : m_i K L b σ = σ := by
  unfold m_i
  rw [ef_f hw, hd_f hw, ek_f hw]
/-- the FIELDS of a struct -/
theorem srt_ms : ∀ (k : Nat) (σ : RSt), (p_mb K (m_s K L) k σ).1 = 0 → srtQ K L σ.2 (p_mb K (m_s K L) k σ).2 (nmS kd sg (l_mb K (m_s K L) k σ))
  | 0, σ, hq => Int.le_refl _
  | k + 1, σ, hq => by
    rw [pmb_s] at hq ⊢
    rw [lmb_s]
    by_cases hc : σ.1 = 0 ∧ ¬ K σ.2 = 125
    · rw [if_pos hc] at hq ⊢
      rw [if_pos hc]
      have hm : (m_s K L (decide (k = 0)) σ).1 = 0 := by
        rcases Classical.em ((m_s K L (decide (k = 0)) σ).1 = 0) with w | w
        · exact w
        · rw [pmb_f w k] at hq
          exact absurd hq w
      have hm' := hm
      unfold m_s at hm'
      obtain ⟨e1, e2, e3⟩ := ek_0 hm'
      have h0 := nf_ok e1
      have em : m_s K L (decide (k = 0)) σ = (0, nxT K L (σ.2 + 1) + 1) := by
        unfold m_s
        rw [e3, h0.2.2.2.1]
      have ih := srt_ms k _ hq
      rw [em] at ih ⊢
      exact ⟨σ.2 + 1, nxT K L (σ.2 + 1), by omega, by omega, fun _ => ⟨Int.le_refl _, by show σ.2 < σ.2 + 1; omega⟩, fun _ => ⟨Int.le_refl _, Int.le_refl _, h0.2.2.1⟩, srtQ_lo (by show nxT K L (σ.2 + 1) ≤ nxT K L (σ.2 + 1) + 1; omega) ih⟩
    · rw [if_neg hc, if_neg hc]
      exact Int.le_refl _
/-- the METHODS of an interface -/
theorem srt_mi : ∀ (k : Nat) (σ : RSt) (h : Int), (p_mb K (m_i K L) k σ).1 = 0 → srtQ K L σ.2 (p_mb K (m_i K L) k σ).2 (hsL K L h (l_mb K (m_i K L) k σ))
  | 0, σ, _, hq => Int.le_refl _
  | k + 1, σ, h, hq => by
    rw [pmb_s] at hq ⊢
    rw [lmb_s]
    by_cases hc : σ.1 = 0 ∧ ¬ K σ.2 = 125
    · rw [if_pos hc] at hq ⊢
      rw [if_pos hc]
      have hm : (m_i K L (decide (k = 0)) σ).1 = 0 := by
        rcases Classical.em ((m_i K L (decide (k = 0)) σ).1 = 0) with w | w
        · exact w
        · rw [pmb_f w k] at hq
          exact absurd hq w
      have hm' := hm
      unfold m_i at hm'
      obtain ⟨e1, e2, e3⟩ := ek_0 hm'
      obtain ⟨f1, f2, f3, f4⟩ := ef_0 (hd_fw e1).1
      rw [f4] at e1 e3
      have em : m_i K L (decide (k = 0)) σ = (0, (p_hd K L (0, σ.2 + 1)).2 + 1) := by
        unfold m_i
        rw [f4, e3]
      have ih := srt_mi k _ (h + 1) hq
      rw [em] at ih ⊢
      show srtQ K L σ.2 _ (hSlt K L h (0, σ.2 + 1) ++ _)
      refine srtQ_app (mi := (p_hd K L (0, σ.2 + 1)).2) (srtQ_lo (show σ.2 ≤ σ.2 + 1 by omega) (srt_hd e1)) (srtQ_lo (by show (p_hd K L (0, σ.2 + 1)).2 ≤ (p_hd K L (0, σ.2 + 1)).2 + 1; omega) ih)
    · rw [if_neg hc, if_neg hc]
      exact Int.le_refl _
theorem y5_fw {b : Bool} (hq : (y_5 K L b σ).1 = 0) : (y_3 K L b σ).1 = 0 ∧ (y_2 K L b σ).1 = 0 ∧ σ.1 = 0 ∧ K σ.2 = 3 ∧ K (σ.2 + 1) = 1 ∧ (y_2 K L b σ).2 = σ.2 + 2 ∧ (y_3 K L b σ).2 + 2 = (y_5 K L b σ).2 ∧ b = false := by
  have hq' := hq
  unfold y_5 at hq' ⊢
  obtain ⟨a1, a2, a3⟩ := ek_0 hq'
  have h3 : (y_3 K L b σ).1 = 0 ∧ y_4 K L b σ = (0, (y_3 K L b σ).2 + 1) := by
    unfold y_4 at a1 ⊢
    by_cases hc : t_k K 4 (y_3 K L b σ) = true
    · rw [if_pos hc] at a1 ⊢
      exact ⟨(tk_t hc).1, Prod.ext (tk_t hc).1 rfl⟩
    · rw [if_neg hc] at a1 ⊢
      obtain ⟨b1, b2, b3⟩ := ek_0 a1
      exact ⟨b1, b3⟩
  have h2 : (y_2 K L b σ).1 = 0 := by
    rcases Classical.em ((y_2 K L b σ).1 = 0) with w | w
    · exact w
    · have := h3.1
      unfold y_3 at this
      rw [tk_f w, if_neg (by decide)] at this
      exact absurd this w
  obtain ⟨c1, c2, c3⟩ := ek_0 (show (e_k K L 1 (y_1 K L b σ)).1 = 0 from h2)
  obtain ⟨d1, d2, d3⟩ := ek_0 (show (e_k K L 3 (y_0 K L b σ)).1 = 0 from c1)
  have h0 : y_0 K L b σ = σ ∧ b = false := by
    unfold y_0 at d1 d2 ⊢
    by_cases hc : t_k K 3 σ = true ∧ b = true
    · rw [if_pos hc] at d1
      dsimp only at d1
      omega
    · rw [if_neg hc] at d1 d2 ⊢
      refine ⟨rfl, ?_⟩
      cases b with
      | false => rfl
      | true => exact absurd ⟨decide_eq_true ⟨d1, d2⟩, rfl⟩ hc
  have e1 : y_1 K L b σ = (0, σ.2 + 1) := by
    unfold y_1
    rw [d3, h0.1]
  rw [h0.1] at d1 d2
  rw [e1] at c2
  refine ⟨h3.1, h2, d1, d2, c2, ?_, ?_, h0.2⟩
  · show (e_k K L 1 (y_1 K L b σ)).2 = _
    rw [c3, e1]
    show σ.2 + 1 + 1 = σ.2 + 2
    omega
  · rw [a3, h3.2]
    show (y_3 K L b σ).2 + 2 = (y_3 K L b σ).2 + 1 + 1
    omega
/-- a type's slots -/
theorem srt_ty {b : Bool} (hq : (p_ty K L b σ).1 = 0) : srtQ K L (σ.2 + 2) (p_ty K L b σ).2 (tSlt K L h b σ) := by
  unfold p_ty at hq ⊢
  obtain ⟨a1, a2, a3⟩ := ek_0 hq
  have h5 : (y_5 K L b σ).1 = 0 := by
    rcases Classical.em ((y_5 K L b σ).1 = 0) with w | w
    · exact w
    · rw [pmb_f w 7] at a1
      exact absurd a1 w
  obtain ⟨h3, h2, -, -, -, e2, e5, -⟩ := y5_fw h5
  unfold tSlt
  refine srtQ_app (mi := (y_5 K L b σ).2) ?_ ?_
  · unfold tFo y_3 at *
    by_cases hc : t_k K 91 (y_2 K L b σ) = true
    · rw [if_pos hc] at h3 e5
      rw [if_pos hc]
      refine srtQ_hi ?_ (srtQ_lo ?_ (srt_nm7 h3))
      · omega
      · show σ.2 + 2 ≤ (y_2 K L b σ).2 + 1
        omega
    · rw [if_neg hc] at h3 e5
      rw [if_neg hc]
      show σ.2 + 2 ≤ (y_5 K L b σ).2
      omega
  · rw [a3]
    refine srtQ_hi (show (p_mb K (y_m K L b σ) 7 (y_5 K L b σ)).2 ≤ (p_mb K (y_m K L b σ) 7 (y_5 K L b σ)).2 + 1 by omega) ?_
    unfold tSt tMe y_m at *
    by_cases hc : t_k K 4 (y_3 K L b σ) = true
    · rw [if_pos hc] at a1 ⊢
      rw [if_pos hc]
      exact srt_ms 7 _ a1
    · rw [if_neg hc] at a1 ⊢
      rw [if_neg hc]
      exact srt_mi 7 _ h a1
/-- a func: where its pieces stand -/
theorem f7_fw {b : Bool} (hq : (f_7 K L b σ).1 = 0) : (σ.1 = 0 ∧ K σ.2 = 6 ∧ b = false) ∧ f_1 K L b σ = (0, σ.2 + 2) ∧ f_2 K L b σ = (0, σ.2 + 3) ∧ f_3 K L b σ = (0, σ.2 + 4) ∧ (f_4 K L b σ).1 = 0 ∧ f_5 K L b σ = (0, (f_4 K L b σ).2 + 1) ∧ f_6 K L b σ = (0, (f_4 K L b σ).2 + 2) ∧ (p_hd K L (f_6 K L b σ)).1 = 0 ∧ f_7 K L b σ = (0, (p_hd K L (f_6 K L b σ)).2 + 2) ∧ (K (σ.2 + 2) = 1 ∧ K (σ.2 + 3) = 1 ∧ K ((f_4 K L b σ).2 + 1) = 1) := by
  have hq' := hq
  unfold f_7 at hq' ⊢
  obtain ⟨a1, a2, a3⟩ := ek_0 hq'
  obtain ⟨b1, b2, b3⟩ := ek_0 a1
  have h6 := (hd_fw b1).1
  obtain ⟨c1, c2, c3⟩ := ek_0 (show (e_k K L 1 (f_5 K L b σ)).1 = 0 from h6)
  obtain ⟨d1, d2, d3⟩ := ek_0 (show (e_k K L 41 (f_4 K L b σ)).1 = 0 from c1)
  have h3 : (f_3 K L b σ).1 = 0 := by
    rcases Classical.em ((f_3 K L b σ).1 = 0) with w | w
    · exact w
    · have := d1
      unfold f_4 at this
      rw [tk_f w, if_neg (by decide)] at this
      exact absurd this w
  obtain ⟨e1, e2, e3⟩ := ek_0 (show (e_k K L 1 (f_2 K L b σ)).1 = 0 from h3)
  obtain ⟨g1, g2, g3⟩ := ek_0 (show (e_k K L 1 (f_1 K L b σ)).1 = 0 from e1)
  obtain ⟨i1, i2, i3⟩ := ek_0 (show (e_k K L 40 (e_k K L 6 (f_0 L b σ))).1 = 0 from g1)
  obtain ⟨j1, j2, j3⟩ := ek_0 i1
  have h0 : f_0 L b σ = σ ∧ b = false := by
    unfold f_0 at j1 ⊢
    by_cases hc : σ.1 = 0 ∧ b = true
    · rw [if_pos hc] at j1
      dsimp only at j1
      omega
    · rw [if_neg hc] at j1 ⊢
      refine ⟨rfl, ?_⟩
      cases b with
      | false => rfl
      | true => exact absurd ⟨j1, rfl⟩ hc
  have k1 : f_1 K L b σ = (0, σ.2 + 2) := by
    show e_k K L 40 (e_k K L 6 (f_0 L b σ)) = _
    rw [i3, j3, h0.1]
    show ((0 : Int), σ.2 + 1 + 1) = _
    rw [show σ.2 + 1 + 1 = σ.2 + 2 by omega]
  have k2 : f_2 K L b σ = (0, σ.2 + 3) := by
    show e_k K L 1 (f_1 K L b σ) = _
    rw [g3, k1]
    show ((0 : Int), σ.2 + 2 + 1) = _
    rw [show σ.2 + 2 + 1 = σ.2 + 3 by omega]
  have k3 : f_3 K L b σ = (0, σ.2 + 4) := by
    show e_k K L 1 (f_2 K L b σ) = _
    rw [e3, k2]
    show ((0 : Int), σ.2 + 3 + 1) = _
    rw [show σ.2 + 3 + 1 = σ.2 + 4 by omega]
  have k5 : f_5 K L b σ = (0, (f_4 K L b σ).2 + 1) := d3
  have k6 : f_6 K L b σ = (0, (f_4 K L b σ).2 + 2) := by
    show e_k K L 1 (f_5 K L b σ) = _
    rw [c3, k5]
    show ((0 : Int), (f_4 K L b σ).2 + 1 + 1) = _
    rw [show (f_4 K L b σ).2 + 1 + 1 = (f_4 K L b σ).2 + 2 by omega]
  rw [h0.1] at j1 j2
  rw [k1] at g2
  rw [k2] at e2
  rw [k5] at c2
  refine ⟨⟨j1, j2, h0.2⟩, k1, k2, k3, d1, k5, k6, b1, ?_, g2, e2, c2⟩
  rw [a3, b3]
  show ((0 : Int), (p_hd K L (f_6 K L b σ)).2 + 1 + 1) = _
  rw [show (p_hd K L (f_6 K L b σ)).2 + 1 + 1 = (p_hd K L (f_6 K L b σ)).2 + 2 by omega]
/-- a func's slots -/
theorem srt_fn {b : Bool} (hq : (f_7 K L b σ).1 = 0) : srtQ K L (σ.2 + 2) (f_7 K L b σ).2 (fSlt K L h b σ) := by
  obtain ⟨-, k1, k2, k3, k4, k5, k6, k7, k8, -⟩ := f7_fw hq
  unfold fSlt
  refine ⟨σ.2 + 3, σ.2 + 3, by omega, by omega, fun _ => ?_, fun w => absurd w (show ¬ (0 : Int) ≤ -1 by decide), srtQ_app (mi := (f_6 K L b σ).2) ?_ ?_⟩
  · rw [k1]
    exact ⟨Int.le_refl _, by show σ.2 + 2 < σ.2 + 3; omega⟩
  · rw [k6]
    show srtQ K L (σ.2 + 3) ((f_4 K L b σ).2 + 2) _
    unfold fPa f_4 at *
    rw [k3] at k4 ⊢
    by_cases hc : t_k K 91 ((0, σ.2 + 4) : RSt) = true
    · rw [if_pos hc] at k4 ⊢
      rw [if_pos hc]
      refine srtQ_hi (by omega) (srtQ_lo ?_ (srt_pr7 k4))
      show σ.2 + 3 ≤ σ.2 + 4 + 1
      omega
    · rw [if_neg hc, if_neg hc]
      show σ.2 + 3 ≤ σ.2 + 4 + 2
      omega
  · rw [k8]
    exact srtQ_hi (by show (p_hd K L (f_6 K L b σ)).2 ≤ (p_hd K L (f_6 K L b σ)).2 + 2; omega) (srt_hd k7)
/-- declarations that were read: each begins, and ends ahead of the next -/
def dcC (K L : Int → Int) : Int → Int → List Int → Prop
  | lo, hi, [] => lo ≤ hi
  | lo, hi, t :: l => lo ≤ t ∧ (if K t = 6 then (p_fn K L false (0, t)).1 = 0 ∧ dcC K L (p_fn K L false (0, t)).2 hi l else (p_ty K L false (0, t)).1 = 0 ∧ dcC K L (p_ty K L false (0, t)).2 hi l)
theorem fn_fw {b : Bool} (hq : (p_fn K L b σ).1 = 0) : (f_7 K L b σ).1 = 0 ∧ b = false ∧ (p_e K L 10 false (f_7 K L b σ)).1 = 0 ∧ (f_7 K L b σ).2 < (p_e K L 10 false (f_7 K L b σ)).2 ∧ (p_fn K L b σ).2 = (p_e K L 10 false (f_7 K L b σ)).2 + 1 := by
  unfold p_fn at hq ⊢
  obtain ⟨a1, a2, a3⟩ := ek_0 hq
  obtain ⟨b1, b2⟩ := pe_fw 10 _ _ a1
  exact ⟨b1, (f7_fw b1).1.2.2, a1, b2, by rw [a3]⟩
theorem ty_fw {b : Bool} (hq : (p_ty K L b σ).1 = 0) : (y_5 K L b σ).1 = 0 ∧ b = false ∧ (p_mb K (y_m K L b σ) 7 (y_5 K L b σ)).1 = 0 ∧ (p_ty K L b σ).2 = (p_mb K (y_m K L b σ) 7 (y_5 K L b σ)).2 + 1 := by
  unfold p_ty at hq ⊢
  obtain ⟨a1, a2, a3⟩ := ek_0 hq
  have h5 : (y_5 K L b σ).1 = 0 := by
    rcases Classical.em ((y_5 K L b σ).1 = 0) with w | w
    · exact w
    · rw [pmb_f w 7] at a1
      exact absurd a1 w
  exact ⟨h5, (y5_fw h5).2.2.2.2.2.2.2, a1, by rw [a3]⟩
theorem dcC_al : ∀ (k T F : Nat) (t : Int), (p_al K L k T F (0, t)).1 = 0 → dcC K L t (p_al K L k T F (0, t)).2 (l_al K L k T F (0, t))
  | 0, T, F, t, hq => Int.le_refl _
  | k + 1, T, F, t, hq => by
    rw [pal_s] at hq ⊢
    rw [lal_s]
    by_cases hc : ((0, t) : RSt).1 = 0 ∧ ¬ K ((0, t) : RSt).2 = 8
    · rw [if_pos hc] at hq ⊢
      rw [if_pos hc]
      by_cases h6 : K ((0, t) : RSt).2 = 6
      · rw [if_pos h6] at hq ⊢
        rw [if_pos h6]
        have h1 : (p_fn K L (decide (60 ≤ F)) (0, t)).1 = 0 := by
          rcases Classical.em ((p_fn K L (decide (60 ≤ F)) (0, t)).1 = 0) with w | w
          · exact w
          · rw [pal_f w] at hq
            exact absurd hq w
        have hb := (fn_fw h1).2.1
        have h2 : p_fn K L (decide (60 ≤ F)) (0, t) = (0, (p_fn K L false (0, t)).2) := by rw [hb] at h1 ⊢; exact Prod.ext h1 rfl
        rw [h2] at hq ⊢
        refine ⟨Int.le_refl _, ?_⟩
        rw [if_pos h6]
        rw [hb] at h1
        exact ⟨h1, dcC_al k T (F + 1) _ hq⟩
      · rw [if_neg h6] at hq ⊢
        rw [if_neg h6]
        have h1 : (p_ty K L (decide (24 ≤ T)) (0, t)).1 = 0 := by
          rcases Classical.em ((p_ty K L (decide (24 ≤ T)) (0, t)).1 = 0) with w | w
          · exact w
          · rw [pal_f w] at hq
            exact absurd hq w
        have hb := (ty_fw h1).2.1
        have h2 : p_ty K L (decide (24 ≤ T)) (0, t) = (0, (p_ty K L false (0, t)).2) := by rw [hb] at h1 ⊢; exact Prod.ext h1 rfl
        rw [h2] at hq ⊢
        refine ⟨Int.le_refl _, ?_⟩
        rw [if_neg h6]
        rw [hb] at h1
        exact ⟨h1, dcC_al k (T + 1) F _ hq⟩
    · rw [if_neg hc, if_neg hc]
      exact Int.le_refl _
/-- all slots -/
theorem srt_al : ∀ (l : List Int) (lo hi h : Int), dcC K L lo hi l → srtQ K L lo hi (aSl K L h l)
  | [], lo, hi, _, hq => hq
  | t :: l, lo, hi, h, hq => by
    obtain ⟨h1, h2⟩ := hq
    show srtQ K L lo hi (sDc K L h t ++ aSl K L _ l)
    unfold sDc
    by_cases h6 : K t = 6
    · rw [if_pos h6] at h2
      rw [if_pos h6]
      obtain ⟨a1, a2, a3, a4, a5⟩ := fn_fw h2.1
      refine srtQ_app (mi := (p_fn K L false (0, t)).2) (srtQ_lo (show lo ≤ t + 2 by omega) (srtQ_hi ?_ (srt_fn a1))) (srt_al l _ _ _ h2.2)
      omega
    · rw [if_neg h6] at h2
      rw [if_neg h6]
      exact srtQ_app (mi := (p_ty K L false (0, t)).2) (srtQ_lo (show lo ≤ t + 2 by omega) (srt_ty h2.1)) (srt_al l _ _ _ h2.2)
end WSO
