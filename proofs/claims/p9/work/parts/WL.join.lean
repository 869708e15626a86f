/-! ===== names are words; the faults of a declaration are one in both ===== -/
section WLJ
variable {K L W ar kd : Int → Int} {TN tp : List Int} {hfs : Int → List Int} {σ : RSt} {c n lo hi h t q : Int} {Ls : List Int}
theorem pls_wn : ∀ (k : Nat) (σ : RSt), (p_l K L (n_f K L) c (k + 1) σ).1 = 0 → ∀ v ∈ p_ls K (n_f K L) (k + 1) σ, K v = 1 ∧ σ.2 ≤ v ∧ v < (p_l K L (n_f K L) c (k + 1) σ).2
  | 0, σ, hq => absurd (pl_0 hq) nf_tr
  | k + 1, σ, hq => fun v hv => by
    have h0 := nf_ok (pl_0 hq)
    have hs := srtQ_le (srt_nm (kd := 0) (sg := 0) (k + 1) σ hq)
    rw [pls_s] at hv
    rw [pl_s] at hq hs ⊢
    by_cases hc : k + 1 ≠ 0 ∧ t_k K 44 (n_f K L (decide (k + 1 = 0)) σ) = true
    · rw [if_pos hc] at hv hq hs ⊢
      have hs2 := srtQ_le (srt_nm (kd := 0) (sg := 0) k _ hq)
      rw [h0.2.2.2.1] at hq hv hs2 ⊢
      have hs3 : nxT K L (σ.2 + 1) + 1 ≤ (p_l K L (n_f K L) c (k + 1) (a_d (0, nxT K L (σ.2 + 1)))).2 := hs2
      rcases List.mem_cons.mp hv with e | hv
      · rw [e]
        exact ⟨h0.2.1, Int.le_refl _, by omega⟩
      · have := pls_wn k _ hq v hv
        have g : nxT K L (σ.2 + 1) + 1 ≤ v := this.2.1
        exact ⟨this.1, by omega, this.2.2⟩
    · rw [if_neg hc] at hv hq ⊢
      obtain ⟨e1, e2, e3⟩ := ek_0 hq
      rcases List.mem_cons.mp hv with e | hv
      · rw [e, e3, h0.2.2.2.1]
        exact ⟨h0.2.1, Int.le_refl _, by show σ.2 < nxT K L (σ.2 + 1) + 1; omega⟩
      · exact absurd hv List.not_mem_nil
theorem lnm_wn (hq : (p_nm K L c σ).1 = 0) : ∀ v ∈ l_nm K L σ, K v = 1 ∧ σ.2 ≤ v ∧ v < (p_nm K L c σ).2 := pls_wn 6 σ hq
theorem pls_we : ∀ (k : Nat) (σ : RSt), (p_l K L (e_f K L) c (k + 1) σ).1 = 0 → ∀ v ∈ p_ls K (e_f K L) (k + 1) σ, K v = 1 ∧ σ.2 ≤ v ∧ v < (p_l K L (e_f K L) c (k + 1) σ).2
  | 0, σ, hq => absurd (pl_0 hq) (fun e => ef_t e)
  | k + 1, σ, hq => fun v hv => by
    obtain ⟨a1, a2, a3, a4⟩ := ef_0 (pl_0 hq)
    rw [pls_s] at hv
    rw [pl_s] at hq ⊢
    by_cases hc : k + 1 ≠ 0 ∧ t_k K 44 (e_f K L (decide (k + 1 = 0)) σ) = true
    · rw [if_pos hc] at hv hq ⊢
      have hs2 := srtQ_le (srt_pr (sg := 0) k _ hq)
      rw [a4] at hq hv hs2 ⊢
      have hs3 : σ.2 + 1 + 1 ≤ (p_l K L (e_f K L) c (k + 1) (a_d (0, σ.2 + 1))).2 := hs2
      rcases List.mem_cons.mp hv with e | hv
      · rw [e]
        exact ⟨a2, Int.le_refl _, by omega⟩
      · have := pls_we k _ hq v hv
        have g : σ.2 + 1 + 1 ≤ v := this.2.1
        exact ⟨this.1, by omega, this.2.2⟩
    · rw [if_neg hc] at hv hq ⊢
      obtain ⟨e1, e2, e3⟩ := ek_0 hq
      rcases List.mem_cons.mp hv with e | hv
      · rw [e, e3, a4]
        exact ⟨a2, Int.le_refl _, by show σ.2 < σ.2 + 1 + 1; omega⟩
      · exact absurd hv List.not_mem_nil
/-- the names of a HEAD -/
theorem hd_wn (hq : (p_hd K L σ).1 = 0) : (∀ v ∈ h_f K L σ, K v = 1 ∧ σ.2 ≤ v ∧ v < (p_hd K L σ).2) ∧ ∀ v ∈ h_v K L σ, K v = 1 ∧ σ.2 ≤ v ∧ v < (p_hd K L σ).2 := by
  obtain ⟨p1, p2, p3, p4⟩ := hd_pc (kd' := 0) (sg := 0) hq
  have l1 := srtQ_le p1
  have l2 := srtQ_le p2
  have hfw := (pt_fw 10 _ _ p3).2
  rw [← (pt_g 10 (by omega) false _ p3).2.2] at hfw
  have hfw' : (h_3 K L σ).2 < nxT K L (h_3 K L σ).2 := hfw
  have h3 := (pt_fw 10 _ _ hq).1
  have h2 : (h_2 K L σ).1 = 0 := by
    rcases Classical.em ((h_2 K L σ).1 = 0) with w1 | w1
    · exact w1
    · unfold h_3 at h3
      rw [tk_f w1, if_neg (by decide), nm_f w1] at h3
      exact absurd h3 w1
  obtain ⟨q1, q2, q3⟩ := ek_0 (show (e_k K L 40 (h_1 K L σ)).1 = 0 from h2)
  have q3' : (h_2 K L σ).2 = (h_1 K L σ).2 + 1 := by
    show (e_k K L 40 (h_1 K L σ)).2 = _
    rw [q3]
  constructor
  · intro v hv
    unfold h_f at hv
    by_cases hc : t_k K 91 σ = true
    · rw [if_pos hc] at hv
      have e1 : h_1 K L σ = p_nm K L 93 (a_d σ) := if_pos hc
      rw [e1] at q1 q3'
      have := lnm_wn q1 v hv
      have g : σ.2 + 1 ≤ v := this.2.1
      exact ⟨this.1, by omega, by omega⟩
    · rw [if_neg hc] at hv
      exact absurd hv List.not_mem_nil
  · intro v hv
    unfold h_v at hv
    by_cases hc : t_k K 41 (h_2 K L σ) = true
    · rw [if_pos hc] at hv
      exact absurd hv List.not_mem_nil
    · rw [if_neg hc] at hv
      have e3 : h_3 K L σ = p_nm K L 41 (h_2 K L σ) := if_neg hc
      rw [e3] at h3
      have := lnm_wn h3 v hv
      rw [← e3] at this
      exact ⟨this.1, by omega, by omega⟩
theorem fo_wn (hq : (y_5 K L false (0, t)).1 = 0) : ∀ v ∈ tFo K L false (0, t), K v = 1 ∧ t ≤ v ∧ v < (y_5 K L false (0, t)).2 := by
  obtain ⟨h3, -, -, -, -, e6, e7, -⟩ := y5_fw hq
  have e6' : (y_2 K L false (0, t)).2 = t + 2 := e6
  intro v hv
  unfold tFo at hv
  by_cases hc : t_k K 91 (y_2 K L false (0, t)) = true
  · rw [if_pos hc] at hv
    have e3 : y_3 K L false (0, t) = p_nm K L 93 (a_d (y_2 K L false (0, t))) := if_pos hc
    rw [e3] at h3 e7
    have := lnm_wn h3 v hv
    have g : (y_2 K L false (0, t)).2 + 1 ≤ v := this.2.1
    exact ⟨this.1, by omega, by omega⟩
  · rw [if_neg hc] at hv
    exact absurd hv List.not_mem_nil
theorem pa_wn (hq : (f_7 K L false (0, t)).1 = 0) : ∀ v ∈ fPa K L false (0, t), K v = 1 ∧ t ≤ v ∧ v < (f_4 K L false (0, t)).2 := by
  have f5 := (f7_fw hq).2.2.2.2.1
  have f4 : f_3 K L false (0, t) = (0, t + 4) := (f7_fw hq).2.2.2.1
  intro v hv
  unfold fPa at hv
  rw [f4] at hv
  by_cases hc : t_k K 91 ((0, t + 4) : RSt) = true
  · rw [if_pos hc] at hv
    have e4 : f_4 K L false (0, t) = p_l K L (e_f K L) 93 7 (a_d (0, t + 4)) := by
      unfold f_4
      rw [f4, if_pos hc]
    rw [e4] at f5 ⊢
    have := pls_we 6 _ f5 v hv
    have g : t + 4 + 1 ≤ v := this.2.1
    exact ⟨this.1, by omega, this.2.2⟩
  · rw [if_neg hc] at hv
    exact absurd hv List.not_mem_nil
theorem ms_wn : ∀ (k : Nat) (σ : RSt), (p_mb K (m_s K L) k σ).1 = 0 → ∀ v ∈ l_mb K (m_s K L) k σ, K v = 1 ∧ σ.2 ≤ v ∧ v < (p_mb K (m_s K L) k σ).2
  | 0, σ, _ => fun v hv => absurd hv List.not_mem_nil
  | k + 1, σ, hq => fun v hv => by
    rw [pmb_s] at hq ⊢
    rw [lmb_s] at hv
    by_cases hc : σ.1 = 0 ∧ ¬ K σ.2 = 125
    · rw [if_pos hc] at hq hv ⊢
      have hm : (m_s K L (decide (k = 0)) σ).1 = 0 := by
        rcases Classical.em ((m_s K L (decide (k = 0)) σ).1 = 0) with w1 | w1
        · exact w1
        · rw [pmb_f w1 k] at hq
          exact absurd hq w1
      have hm' := hm
      unfold m_s at hm'
      obtain ⟨e1, e2, e3⟩ := ek_0 hm'
      have h0 := nf_ok e1
      have em : m_s K L (decide (k = 0)) σ = (0, nxT K L (σ.2 + 1) + 1) := by
        unfold m_s
        rw [e3, h0.2.2.2.1]
      have hs2 := srtQ_le (srt_ms (kd := 0) (sg := 0) k _ hq)
      rw [em] at hq hv hs2 ⊢
      have hs3 : nxT K L (σ.2 + 1) + 1 ≤ (p_mb K (m_s K L) k (0, nxT K L (σ.2 + 1) + 1)).2 := hs2
      rcases List.mem_cons.mp hv with e | hv
      · rw [e]
        exact ⟨h0.2.1, Int.le_refl _, by omega⟩
      · have := ms_wn k _ hq v hv
        have g : nxT K L (σ.2 + 1) + 1 ≤ v := this.2.1
        exact ⟨this.1, by omega, this.2.2⟩
    · rw [if_neg hc] at hv
      exact absurd hv List.not_mem_nil
/-! the faults -/
theorem slF_nm {l : List Int} {k sg : Int} (h0 : ∀ v ∈ l, 0 ≤ v) : (nmS k sg l).map (slF K L W ar kd tp TN hfs) = l.map (fun v => tF K L W ar kd (hfs sg) tp TN k (v + 1)) := by
  unfold nmS
  rw [List.map_map]
  refine List.map_congr_left (fun v hv => ?_)
  have := h0 v hv
  show slF K L W ar kd tp TN hfs (v, k, v + 1, sg) = _
  unfold slF tF
  rw [if_neg (show ¬ v + 1 < 0 by omega)]
theorem slF_hd (hq : (p_hd K L (0, q + 1)).1 = 0) (h0 : 0 ≤ q) : (hSlt K L h (0, q + 1)).map (slF K L W ar kd tp TN hfs) = hFs K L W ar kd (hfs h) tp TN q := by
  obtain ⟨w1, w2⟩ := hd_wn hq
  obtain ⟨p1, p2, p3, p4⟩ := hd_pc (kd' := 0) (sg := 0) hq
  have l1 : q + 1 ≤ (h_2 K L (0, q + 1)).2 := srtQ_le p1
  have l2 := srtQ_le p2
  unfold hSlt hFs
  rw [List.map_append, List.map_append, slF_nm (fun v hv => by have : q + 1 ≤ v := (w1 v hv).2.1; omega), slF_nm (fun v hv => by have : q + 1 ≤ v := (w2 v hv).2.1; omega)]
  congr 1
  show [slF K L W ar kd tp TN hfs (-1, 4, (h_3 K L (0, q + 1)).2, h)] = _
  unfold slF tF
  rw [if_neg (show ¬ (h_3 K L (0, q + 1)).2 < 0 by omega)]
theorem slF_hs : ∀ (l : List Int) (h : Int), (∀ (i : Nat) (z : Int), l[i]? = some z → (p_hd K L (0, z + 1)).1 = 0 ∧ 0 ≤ z ∧ hfs (h + i) = h_f K L (0, z + 1)) → (hsL K L h l).map (slF K L W ar kd tp TN hfs) = l.flatMap (fun z => hFs K L W ar kd (h_f K L (0, z + 1)) tp TN z)
  | [], h, _ => rfl
  | z :: l, h, g => by
    obtain ⟨g1, g2, g3⟩ := g 0 z rfl
    rw [show h + ((0 : Nat) : Int) = h by omega] at g3
    show (hSlt K L h (0, z + 1) ++ hsL K L (h + 1) l).map _ = hFs K L W ar kd (h_f K L (0, z + 1)) tp TN z ++ l.flatMap _
    rw [List.map_append, slF_hd g1 g2, g3, slF_hs l (h + 1) (fun i z' hz => by
      have := g (i + 1) z' hz
      rw [show h + ((i + 1 : Nat) : Int) = h + 1 + (i : Int) by omega] at this
      exact this)]
theorem ffs_z : ∀ {l l' : List Int}, (∀ v ∈ l, v = 0) → ffs (l ++ l') = ffs l'
  | [], l', _ => rfl
  | v :: l, l', g => by
    show (if v = 0 then ffs (l ++ l') else v) = _
    rw [if_pos (g v List.mem_cons_self)]
    exact ffs_z (fun w hw => g w (List.mem_cons_of_mem _ hw))
/-- the faults of a declaration, the reference's -/
def rFs (K L W ar kd : Int → Int) (TN : List Int) (t : Int) : List Int := if K t = 6 then fnFs K L W ar kd TN t else tyFs K L W ar kd TN t
theorem dFs_r (hD : dcC K L lo hi Ls) (hlo : 0 ≤ lo) {i : Nat} (h1 : Ls[i]? = some t) : ffs (dFs K L W ar kd TN (hfS K L Ls) (kHd K L (Ls.take i) : Int) t) = ffs (rFs K L W ar kd TN t) := by
  obtain ⟨d1, d2, d3⟩ := dcC_at Ls i t lo hi hD h1
  unfold dFs rFs dTp sDc
  by_cases h6 : K t = 6
  · rw [if_pos h6, if_pos h6, if_pos h6, if_pos h6]
    have hfn := fn_fw (d2 h6).1
    obtain ⟨f1, f2, f3, f4, f5, f6, f7, f8, f9, f10⟩ := f7_fw hfn.1
    have e5 : (f_5 K L false (0, t)).2 = (f_4 K L false (0, t)).2 + 1 := by rw [f6]
    have e6 : f_6 K L false (0, t) = (0, (f_5 K L false (0, t)).2 + 1) := by
      rw [f7, e5]
      show ((0 : Int), (f_4 K L false (0, t)).2 + 2) = (0, (f_4 K L false (0, t)).2 + 1 + 1)
      rw [show (f_4 K L false (0, t)).2 + 2 = (f_4 K L false (0, t)).2 + 1 + 1 by omega]
    rw [e6] at f8
    have h4 := f4_le hfn.1
    have hq0 : 0 ≤ (f_5 K L false (0, t)).2 := by omega
    have hdq : (dHd K L t)[0]? = some (f_5 K L false (0, t)).2 := by
      unfold dHd
      rw [if_pos h6]
      rfl
    have hh := hdL_at Ls i 0 t _ h1 hdq
    rw [Nat.add_zero] at hh
    have hhf := hfS_at hh
    unfold fnFs fSlt
    rw [List.map_cons, List.map_append, e6, slF_hd f8 hq0, hhf]
    show (if bdF K L W ar kd TN t = 0 then ffs (_ :: _) else _) = (if bdF K L W ar kd TN t = 0 then ffs _ else _)
    by_cases hb : bdF K L W ar kd TN t = 0
    · rw [if_pos hb, if_pos hb]
      have e0 : slF K L W ar kd (fPa K L false (0, t)) TN (hfS K L Ls) ((f_1 K L false (0, t)).2, 3, -1, (kHd K L (Ls.take i) : Int)) = 0 := by
        unfold slF
        rw [if_pos (show (-1 : Int) < 0 by decide)]
      rw [e0]
      show ffs (((0 : Int) :: (prS (kHd K L (Ls.take i) : Int) (fPa K L false (0, t))).map _) ++ _) = _
      refine ffs_z (fun v hv => ?_)
      rcases List.mem_cons.mp hv with e | hv
      · exact e
      · obtain ⟨x, hx, e⟩ := List.mem_map.mp hv
        unfold prS at hx
        obtain ⟨y, -, e2⟩ := List.mem_map.mp hx
        rw [← e, ← e2]
        unfold slF
        rw [if_pos (show (-1 : Int) < 0 by decide)]
    · rw [if_neg hb, if_neg hb]
  · rw [if_neg h6, if_neg h6, if_neg h6, if_neg h6, List.nil_append]
    have hty := ty_fw (d3 h6).1
    have wf := fo_wn hty.1
    unfold tSlt tyFs
    rw [List.map_append, slF_nm (fun v hv => by have := (wf v hv).2.1; omega), hfS_n]
    have h5 := y5_le hty.1
    by_cases hst : tSt K L false (0, t) = true
    · rw [if_pos hst, if_pos hst, slF_nm (fun v hv => by
        have hym : y_m K L false (0, t) = m_s K L := if_pos hst
        unfold tMe at hv
        rw [hym] at hv hty
        have := (ms_wn 7 _ hty.2.2.1 v hv).2.1
        omega), hfS_n]
    · rw [if_neg hst, if_neg hst, slF_hs]
      intro j z hz
      have hdz : (dHd K L t)[j]? = some z := by
        unfold dHd
        rw [if_neg h6, if_neg hst]
        exact hz
      have hps := dHd_ps hD h1 hdz
      have hh := hdL_at Ls i j t _ h1 hdz
      have := hfS_at hh
      rw [show ((kHd K L (Ls.take i) + j : Nat) : Int) = (kHd K L (Ls.take i) : Int) + (j : Int) by omega] at this
      exact ⟨hps.1, by omega, this⟩
end WLJ
