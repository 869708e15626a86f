/-! ===== the reference: headWords ===== -/
/-- the PARAMS that hold, by the fields' values -/
def SCp (B b : Int) (s : yS) (c76 c78 : Int) (tp : List Int) (b0 : Int) : Prop := (0 ≤ c76 ∧ c78 < 0 ∧ (s.2.1 236 c76.toNat).toInt = (tp.length : Int) ∧ NTr B s 237 (6 * c76) tp ∧ b0 = 1000 + 6 * (c76 - 24 * b)) ∨ (c76 < 0 ∧ 0 ≤ c78 ∧ (s.2.1 255 c78.toNat).toInt = (tp.length : Int) ∧ (∀ (i : Nat) (u : Int), tp[i]? = some u → (s.2.1 256 c78.toNat).toInt + 2 * (i : Int) = B + u) ∧ b0 = 4000 + 6 * (c78 - 60 * b)) ∨ (c76 < 0 ∧ c78 < 0 ∧ tp = [])
/-- a HEAD's slots were resolved -/
def RHD (K L : Int → Int) (B : Int) (w : Nat → Int → List Int) (s : yS) (A h q : Int) : Prop := (∀ (i : Nat) (t : Int), (h_f K L (0, q + 1))[i]? = some t → RSn K L B w s A (s.2.1 247 (6 * h + i).toNat).toInt (t + 1)) ∧ (∀ (i : Nat) (t : Int), (h_v K L (0, q + 1))[i]? = some t → RSn K L B w s A (s.2.1 250 (6 * h + i).toNat).toInt (t + 1)) ∧ RSn K L B w s A (s.2.1 251 h.toNat).toInt (h_3 K L (0, q + 1)).2
/-- the faults of a HEAD -/
def hFs (K L W ar kd : Int → Int) (hf tp TN : List Int) (q : Int) : List Int := (h_f K L (0, q + 1)).map (fun t => tF K L W ar kd hf tp TN 0 (t + 1)) ++ (h_v K L (0, q + 1)).map (fun t => tF K L W ar kd hf tp TN 3 (t + 1)) ++ [tF K L W ar kd hf tp TN 4 (h_3 K L (0, q + 1)).2]
def HRq (K L : Int → Int) (B : Int) (w : Nat → Int → List Int) (Fs : List Int) (h q : Int) (s s' : yS) : Prop := RWf B (q + 1) (p_hd K L (0, q + 1)).2 (s.1 65).toInt s s' ∧ s'.2.1 261 = s.2.1 261 ∧ (s'.1 8).toInt = ffs ((s.1 8).toInt :: Fs) ∧ 0 ≤ (s'.1 8).toInt ∧ ((s'.1 8).toInt = 0 → (s.1 65).toInt ≤ (s'.1 65).toInt ∧ (s'.1 65).toInt ≤ (s.1 65).toInt + ((p_hd K L (0, q + 1)).2 - (q + 1)) ∧ RHD K L B w s' (s'.1 65).toInt h q) ∧ (¬ (s.1 8).toInt = 0 → s'.2 = s.2 ∧ s'.1 65 = s.1 65)
section WRH
variable {d : Nat} {s s' s'' u u' : yS} {B b b0 b1 n : Int} {K L W ar kd : Int → Int} {hf tp TN : List Int} {lo hi mi a x y t f h q A : Int} {a1 a2 a3 : Int32} {w : Nat → Int → List Int} {F : Int → Int} {Ls : List Int} {σ : RSt} {kd' sg : Int}
theorem hd_pc (hq : (p_hd K L σ).1 = 0) : srtQ K L σ.2 (h_2 K L σ).2 (nmS kd' sg (h_f K L σ)) ∧ srtQ K L (h_2 K L σ).2 (h_3 K L σ).2 (nmS kd' sg (h_v K L σ)) ∧ (p_t K L 10 false (0, (h_3 K L σ).2)).1 = 0 ∧ nxT K L (h_3 K L σ).2 = (p_hd K L σ).2 := by
  have h3 := (pt_fw 10 _ _ hq).1
  have e3 : h_3 K L σ = (0, (h_3 K L σ).2) := Prod.ext h3 rfl
  have h2 : (h_2 K L σ).1 = 0 := by
    rcases Classical.em ((h_2 K L σ).1 = 0) with w1 | w1
    · exact w1
    · unfold h_3 at h3
      rw [tk_f w1, if_neg (by decide), nm_f w1] at h3
      exact absurd h3 w1
  obtain ⟨q1, q2, q3⟩ := ek_0 (show (e_k K L 40 (h_1 K L σ)).1 = 0 from h2)
  have q3' : h_2 K L σ = (0, (h_1 K L σ).2 + 1) := q3
  refine ⟨?_, ?_, ?_⟩
  · have hle : (h_1 K L σ).2 ≤ (h_2 K L σ).2 := by rw [q3']; show (h_1 K L σ).2 ≤ (h_1 K L σ).2 + 1; omega
    refine srtQ_hi hle ?_
    unfold h_1 h_f at *
    by_cases hc : t_k K 91 σ = true
    · rw [if_pos hc] at q1 ⊢
      rw [if_pos hc]
      refine srtQ_lo ?_ (srt_nm7 q1)
      show σ.2 ≤ σ.2 + 1
      omega
    · rw [if_neg hc] at q1 ⊢
      rw [if_neg hc]
      exact Int.le_refl _
  · unfold h_3 h_v at *
    by_cases hc : t_k K 41 (h_2 K L σ) = true
    · rw [if_pos hc] at h3 ⊢
      rw [if_pos hc]
      show (h_2 K L σ).2 ≤ (h_2 K L σ).2 + 1
      omega
    · rw [if_neg hc] at h3 ⊢
      rw [if_neg hc]
      exact srt_nm7 h3
  · have hq' := hq
    unfold p_hd at hq' ⊢
    rw [e3] at hq' ⊢
    exact ⟨hq', (pt_g 10 (by omega) false _ hq').2.2⟩
theorem nmS_at {l : List Int} {i : Nat} (ht : l[i]? = some t) : (nmS kd' sg l)[i]? = some (t, kd', t + 1, sg) := by
  unfold nmS
  rw [List.getElem?_map, ht]
  rfl
theorem RHD_f (hq : (p_hd K L (0, q + 1)).1 = 0) (hq0 : 0 ≤ q) (h1 : RHD K L B w s A h q) (g : RWf B lo hi a s s') (h2 : (p_hd K L (0, q + 1)).2 ≤ lo ∨ hi ≤ q + 1) (h3 : A ≤ a) : RHD K L B w s' A h q := by
  obtain ⟨p1, p2, p3, p4⟩ := hd_pc (kd' := 0) (sg := 0) hq
  have l1 := srtQ_le p1
  have l2 := srtQ_le p2
  have hfw := (pt_fw 10 _ _ p3).2
  rw [← (pt_g 10 (by omega) false _ p3).2.2] at hfw
  have hfw' : (h_3 K L (0, q + 1)).2 < nxT K L (h_3 K L (0, q + 1)).2 := hfw
  have l1' : q + 1 ≤ (h_2 K L (0, q + 1)).2 := l1
  refine ⟨fun i t' ht => ?_, fun i t' ht => ?_, ?_⟩
  · obtain ⟨ca, cb, d1, d2, d3, d4, d5, -⟩ := srtQ_at _ _ _ i _ p1 (nmS_at ht)
    have hge : 0 ≤ t' + 1 → ca ≤ t' + 1 ∧ nxT K L (t' + 1) ≤ cb ∧ (p_t K L 10 false (0, t' + 1)).1 = 0 := d5
    have d1' : q + 1 ≤ ca := d1
    rw [RWf_r g (p := 247) (by decide) (by decide) (by decide) (by decide)]
    rcases Int.lt_or_le (t' + 1) 0 with hneg | hpos
    · have := h1.1 i t' ht
      -- a token is never below 0
      obtain ⟨y', y1, -⟩ := this
      exfalso
      have hh : (0 ≤ t' → q + 1 ≤ t' ∧ t' < ca) := d4
      have key : ∀ (k : Nat) (τ : RSt), 0 ≤ τ.2 → ∀ z ∈ p_ls K (n_f K L) k τ, (p_l K L (n_f K L) 93 k τ).1 = 0 → 0 ≤ z := by
        intro k
        induction k with
        | zero => exact fun τ _ z hz => absurd hz List.not_mem_nil
        | succ k ih =>
          intro τ hτ z hz hok
          have h0 := nf_ok (pl_0 hok)
          rw [pls_s] at hz
          rw [pl_s] at hok
          rcases List.mem_cons.mp hz with e | hz
          · rw [e]
            exact hτ
          · by_cases hc : k ≠ 0 ∧ t_k K 44 (n_f K L (decide (k = 0)) τ) = true
            · rw [if_pos hc] at hz hok
              refine ih _ ?_ z hz hok
              rw [h0.2.2.2.1]
              show 0 ≤ nxT K L (τ.2 + 1) + 1
              omega
            · rw [if_neg hc] at hz
              exact absurd hz List.not_mem_nil
      have hmem := List.mem_of_getElem? ht
      have hq1 : (h_1 K L (0, q + 1)).1 = 0 := by
        have e3 := (pt_fw 10 _ _ hq).1
        rcases Classical.em ((h_2 K L (0, q + 1)).1 = 0) with w1 | w1
        · exact (ek_0 (show (e_k K L 40 (h_1 K L (0, q + 1))).1 = 0 from w1)).1
        · unfold h_3 at e3
          rw [tk_f w1, if_neg (by decide), nm_f w1] at e3
          exact absurd e3 w1
      unfold h_f at hmem
      unfold h_1 at hq1
      by_cases hc : t_k K 91 ((0, q + 1) : RSt) = true
      · rw [if_pos hc] at hmem hq1
        have := key 7 (a_d (0, q + 1)) (by show 0 ≤ q + 1 + 1; omega) t' hmem hq1
        omega
      · rw [if_neg hc] at hmem
        exact absurd hmem List.not_mem_nil
    · obtain ⟨e1, e2, e3⟩ := hge hpos
      exact RSn_f (h1.1 i t' ht) e3 g (by omega) h3
  · obtain ⟨ca, cb, d1, d2, d3, d4, d5, -⟩ := srtQ_at _ _ _ i _ p2 (nmS_at ht)
    have hge : 0 ≤ t' + 1 → ca ≤ t' + 1 ∧ nxT K L (t' + 1) ≤ cb ∧ (p_t K L 10 false (0, t' + 1)).1 = 0 := d5
    rw [RWf_r g (p := 250) (by decide) (by decide) (by decide) (by decide)]
    have hpos : 0 ≤ t' + 1 := by
      have hlt : (h_2 K L (0, q + 1)).2 ≤ t' := by
        have hmem := List.mem_of_getElem? ht
        have h30 := (pt_fw 10 _ _ hq).1
        unfold h_v at hmem
        unfold h_3 at h30
        by_cases hc : t_k K 41 (h_2 K L (0, q + 1)) = true
        · rw [if_pos hc] at hmem
          exact absurd hmem List.not_mem_nil
        · rw [if_neg hc] at hmem h30
          have key : ∀ (k : Nat) (τ : RSt), ∀ z ∈ p_ls K (n_f K L) k τ, (p_l K L (n_f K L) 41 k τ).1 = 0 → τ.2 ≤ z := by
            intro k
            induction k with
            | zero => exact fun τ z hz => absurd hz List.not_mem_nil
            | succ k ih =>
              intro τ z hz hok
              have h0 := nf_ok (pl_0 hok)
              rw [pls_s] at hz
              rw [pl_s] at hok
              rcases List.mem_cons.mp hz with e | hz
              · rw [e]
                exact Int.le_refl _
              · by_cases hc : k ≠ 0 ∧ t_k K 44 (n_f K L (decide (k = 0)) τ) = true
                · rw [if_pos hc] at hz hok
                  have := ih _ z hz hok
                  rw [h0.2.2.2.1] at this
                  have h5 : nxT K L (τ.2 + 1) + 1 ≤ z := this
                  omega
                · rw [if_neg hc] at hz
                  exact absurd hz List.not_mem_nil
          exact key 7 _ t' hmem h30
      omega
    obtain ⟨e1, e2, e3⟩ := hge hpos
    exact RSn_f (h1.2.1 i t' ht) e3 g (by omega) h3
  · rw [RWf_r g (p := 251) (by decide) (by decide) (by decide) (by decide)]
    exact RSn_f h1.2.2 p3 g (by omega) h3
theorem tF_k {kk : Int} (hk : ¬ kk = 0) : tF K L W ar kd hf tp TN kk t = (tlT K L (cdOf W hf tp TN) ar 10 t).1 := by
  unfold tF
  by_cases h0 : (tlT K L (cdOf W hf tp TN) ar 10 t).1 = 0
  · rw [if_pos h0, if_neg (fun e => hk e.1), h0]
  · rw [if_neg h0]
theorem x_206 : Par d 206 [.ref 213, .int a1, .int a2, .int a3] s (fun v s' => v = none ∧ s' = sf (sf (sf s 76 a1) 77 a2) 78 a3) := by
  cases d with
  | zero => exact Par_0
  | succ d =>
    refine pb_206 ?_
    unfold ub_206_0
    intro s1 hs1 s2 hs2 s3 hs3
    rw [hs3, hs2, hs1]
    exact ⟨rfl, rfl⟩
set_option maxHeartbeats 4000000 in
/-- headWords -/
theorem x_208 (hX : TXp K L n) (hb : 0 ≤ b) (hB : 0 ≤ B) (hhf : hf = h_f K L (0, q + 1)) (hS : SPr K ar n hf tp TN b0 b1) (hK : KDr b s kd TN) (h1 : a1.toInt = h) (hh : 0 ≤ h) (hT : HDr K L B s h x y q) (hq0 : 0 ≤ q) (hp : (p_hd K L (0, q + 1)).1 = 0) (hn : (p_hd K L (0, q + 1)).2 ≤ n) (hw : ∀ t' ∈ h_v K L (0, q + 1), 0 ≤ t') (h8 : 0 ≤ (s.1 8).toInt) (h65 : (s.1 8).toInt = 0 → 10 + 4100 * (B / 4002) ≤ (s.1 65).toInt) (h75 : (s.1 75).toInt = b) (hP : SCp B b s a2.toInt a3.toInt tp b0) (hb1 : b1 = 2000 + 6 * (h - 204 * b)) (hQ : WEQ K W B n s) (hKt : RTk K L B n s) (hN : TNr B b s TN) (hA : ∀ c : Int, 0 ≤ c → c < (TN.length : Int) → (s.2.1 236 (24 * b + c).toNat).toInt = ar c) : Par d 208 [.ref 213, .int a1, .int a2, .int a3] s (fun v s' => v = none ∧ HRq K L B (wdT K L (cdOf W hf tp TN) ar b0 b1) (hFs K L W ar kd hf tp TN q) h q s s') := by
  cases d with
  | zero => exact Par_0
  | succ d =>
    obtain ⟨⟨t1, t2, t3, t4⟩, ⟨t5, t6, t7⟩, ta, tb, t8, t9, t10, t11⟩ := hT
    obtain ⟨p1, p2, p3, p4⟩ := hd_pc (kd' := 0) (sg := 0) hp
    have l1 := srtQ_le p1
    have l2 := srtQ_le p2
    have l1' : q + 1 ≤ (h_2 K L (0, q + 1)).2 := l1
    have hfw := (pt_fw 10 _ _ p3).2
    rw [← (pt_g 10 (by omega) false _ p3).2.2] at hfw
    have hfw' : (h_3 K L (0, q + 1)).2 < nxT K L (h_3 K L (0, q + 1)).2 := hfw
    have wh := hS.1
    rw [hhf] at wh
    have hf0 : ∀ t' ∈ h_f K L (0, q + 1), 0 ≤ t' := fun t' ht => (wh t' ht).1
    refine pb_208 ?_
    unfold ub_208_0
    refine Par.imp x_206 ?_
    rintro v2 s1 ⟨rfl, hs1⟩
    refine ⟨rfl, ?_⟩
    have f1 : RWf B (q + 1) (p_hd K L (0, q + 1)).2 (s.1 65).toInt s s1 := by
      rw [hs1]
      exact RWf_tr (RWf_tr (RWf_sf (Or.inl rfl)) (RWf_sf (Or.inr (Or.inl rfl))) (Int.le_refl _) (Int.le_refl _) (Int.le_refl _)) (RWf_sf (Or.inr (Or.inr rfl))) (Int.le_refl _) (Int.le_refl _) (Int.le_refl _)
    have e65i : s1.1 65 = s.1 65 := by rw [hs1]; rfl
    have e65 : (s1.1 65).toInt = (s.1 65).toInt := by rw [e65i]
    have e8 : (s1.1 8).toInt = (s.1 8).toInt := by rw [hs1]; rfl
    have er : s1.2 = s.2 := by rw [hs1]; rfl
    have e76 : s1.1 76 = a2 := by rw [hs1, sfr_1, if_neg (by decide), sfr_1, if_neg (by decide), sfr_1, if_pos rfl]
    have e77 : s1.1 77 = a1 := by rw [hs1, sfr_1, if_neg (by decide), sfr_1, if_pos rfl]
    have e78 : s1.1 78 = a3 := by rw [hs1, sfr_1, if_pos rfl]
    have e75 : (s1.1 75).toInt = b := by rw [hs1]; exact h75
    have H1 : RVh K L W ar n B b b0 b1 s1 hf tp TN := by
      refine ⟨?_, ?_, ⟨e75, Or.inr ⟨by rw [e77]; omega, ?_, ?_, by rw [e77, h1]; exact hb1⟩, ?_⟩, ?_, ?_⟩
      · unfold WEQ at *
        rw [er]
        exact hQ
      · unfold RTk at *
        rw [er]
        exact hKt
      · rw [er, e77, h1, hhf]
        exact t2
      · rw [e77, h1, hhf]
        unfold NTr
        rw [er]
        exact fun i t' ht => (t4 i t' ht).1
      · rw [e76, e78]
        unfold NTr
        rw [er]
        exact hP
      · unfold TNr NTr at *
        rw [er]
        exact hN
      · rw [er]
        exact hA
    have K1 : KDr b s1 kd TN := by
      unfold KDr at *
      rw [er]
      exact hK
    clear hs1
    generalize hw0 : wdT K L (cdOf W hf tp TN) ar b0 b1 = w at *
    have nn0 : ∀ t', 0 ≤ t' → (p_t K L 10 false (0, t' + 1)).1 = 0 → nxT K L (t' + 1) ≤ n → 0 ≤ tF K L W ar kd hf tp TN 0 (t' + 1) := fun t' ht hpp hnn => tF_nn hX (by omega) hpp hnn
    have nn3 : ∀ t', 0 ≤ t' → (p_t K L 10 false (0, t' + 1)).1 = 0 → nxT K L (t' + 1) ≤ n → 0 ≤ tF K L W ar kd hf tp TN 3 (t' + 1) := fun t' ht hpp hnn => tF_nn hX (by omega) hpp hnn
    -- the FORMALS
    refine ⟨fun c1 c2 c3 c4 u => c1 = a1 ∧ c2 = a2 ∧ c3 = a3 ∧ ∃ k : Nat, c4.toInt = (k : Int) ∧ LRq K L B w (fun t => tF K L W ar kd hf tp TN 0 (t + 1)) 247 (6 * h) (q + 1) (h_2 K L (0, q + 1)).2 (h_f K L (0, q + 1)) s1 k u, ⟨rfl, rfl, rfl, 0, by decide, LRq_0 p1⟩, ?_⟩
    rintro c1 c2 c3 c4 u ⟨g1, g2, g3, k, g4, g5⟩
    subst g1 g2 g3
    have fu := g5.2.1
    have u8 := LRq_nn hX (by omega) (by omega) (by omega) p1 nn0 hf0 g5
    have hs0 : (u.1 8).toInt = 0 → (s.1 8).toInt = 0 := fun hu => by
      by_cases h0 : (s.1 8).toInt = 0
      · exact h0
      · have q1 : u = s1 := g5.2.2.2.2.2.2 (by rw [e8]; exact h0)
        rw [q1, e8] at hu
        exact hu
    unfold ub_208_7
    rw [h1]
    intro _
    rw [RWf_r fu (p := 245) (by decide) (by decide) (by decide) (by decide), er, t2]
    refine ⟨fun w1 => ?_, fun w1 _ x1 hx1 _ x2 hx2 _ => ?_⟩
    · -- the VARS
      have hk : k = (h_f K L (0, q + 1)).length := by
        have := g5.1
        omega
      subst hk
      refine ⟨fun d1 d2 d3 d4 v => d1 = c1 ∧ d2 = c2 ∧ d3 = c3 ∧ ∃ k2 : Nat, d4.toInt = (k2 : Int) ∧ LRq K L B w (fun t => tF K L W ar kd hf tp TN 3 (t + 1)) 250 (6 * h) (h_2 K L (0, q + 1)).2 (h_3 K L (0, q + 1)).2 (h_v K L (0, q + 1)) u k2 v, ⟨rfl, rfl, rfl, 0, by decide, LRq_0 p2⟩, ?_⟩
      rintro d1 d2 d3 d4 v ⟨i1, i2, i3, k2, i4, i5⟩
      subst i1 i2 i3
      have fv := i5.2.1
      have v8 := LRq_nn hX (by omega) (by omega) u8 p2 nn3 hw i5
      unfold ub_208_27
      rw [h1]
      intro _
      have r248 : (v.2.1 248 h.toNat).toInt = ((h_v K L (0, q + 1)).length : Int) := by
        rw [RWf_r fv (p := 248) (by decide) (by decide) (by decide) (by decide), RWf_r fu (p := 248) (by decide) (by decide) (by decide) (by decide), er]
        exact t5
      rw [r248]
      have hsc : v.1 76 = s1.1 76 ∧ v.1 77 = s1.1 77 ∧ v.1 78 = s1.1 78 := ⟨i5.2.2.1.1.trans g5.2.2.1.1, i5.2.2.1.2.1.trans g5.2.2.1.2.1, i5.2.2.1.2.2.trans g5.2.2.1.2.2⟩
      have Hu := RVh_W fu g5.2.2.1 H1
      have Hv := RVh_W fv i5.2.2.1 Hu
      have rows : ∀ p, ¬ p = 231 → ¬ p = 232 → ¬ p = 264 → ¬ p = 261 → v.2.1 p = s.2.1 p := fun p z1 z2 z3 z4 => by rw [RWf_r fv z1 z2 z3 z4, RWf_r fu z1 z2 z3 z4, er]
      refine ⟨fun w2 _ => ?_, fun w2 _ x3 hx3 _ x4 hx4 _ => ?_⟩
      · -- the TYPE
        have hk2 : k2 = (h_v K L (0, q + 1)).length := by
          have := i5.1
          omega
        subst hk2
        have n251 : (v.2.1 251 h.toNat).toInt = ta := by
          rw [rows 251 (by decide) (by decide) (by decide) (by decide)]
          exact t10
        have hyT : yT K L B v 10 ta tb (h_3 K L (0, q + 1)).2 := yT_eq 10 _ _ _ t11 ⟨fun p j hpp _ _ => by rw [rows p (by omega) (by omega) (by omega) (by omega)], fun j _ _ => by rw [rows 225 (by decide) (by decide) (by decide) (by decide)]⟩
        have fault_v : (v.1 8).toInt = ffs ((s.1 8).toInt :: ((h_f K L (0, q + 1)).map (fun t => tF K L W ar kd hf tp TN 0 (t + 1)) ++ (h_v K L (0, q + 1)).map (fun t => tF K L W ar kd hf tp TN 3 (t + 1)))) := by
          rw [i5.2.2.2.2.1, List.take_length, g5.2.2.2.2.1, List.take_length, ffs_c, e8, List.cons_append]
        have frm : RWf B (q + 1) (h_3 K L (0, q + 1)).2 (s.1 65).toInt s v := by
          have fu' : RWf B (q + 1) (h_3 K L (0, q + 1)).2 (s.1 65).toInt s1 u := RWf_mo fu (Int.le_refl _) l2 (by omega)
          have fs' : RWf B (q + 1) (h_3 K L (0, q + 1)).2 (s.1 65).toInt s s1 := ⟨f1.1, f1.2.1, f1.2.2.1, fun p i _ _ => by rw [er], fun i _ => by rw [er]⟩
          have a1' := RWf_tr fs' fu' (Int.le_refl _) (Int.le_refl _) (Int.le_refl _)
          by_cases hz : (u.1 8).toInt = 0
          · have := (g5.2.2.2.2.2.1 hz).1
            exact RWf_tr a1' fv l1' (Int.le_refl _) (by omega)
          · rw [i5.2.2.2.2.2.2 hz]
            exact a1'
        have hs8 : ¬ (s.1 8).toInt = 0 → v.2 = s.2 ∧ v.1 65 = s.1 65 := fun hz => by
          have hu1 : u = s1 := g5.2.2.2.2.2.2 (by rw [e8]; exact hz)
          have hv1 : v = u := i5.2.2.2.2.2.2 (by rw [hu1, e8]; exact hz)
          rw [hv1, hu1]
          exact ⟨er, e65i⟩
        have efs : ffs ((s.1 8).toInt :: hFs K L W ar kd hf tp TN q) = if (v.1 8).toInt = 0 then tF K L W ar kd hf tp TN 4 (h_3 K L (0, q + 1)).2 else (v.1 8).toInt := by
          unfold hFs
          rw [← List.cons_append, ffs_s, ← fault_v]
        by_cases hz : (v.1 8).toInt = 0
        · have hu0 : (u.1 8).toInt = 0 := by
            by_cases h0 : (u.1 8).toInt = 0
            · exact h0
            · rw [i5.2.2.2.2.2.2 h0] at hz
              exact hz
          obtain ⟨gu1, mu, gu2, gu3, gu4, gu5⟩ := g5.2.2.2.2.2.1 hu0
          have h65' := h65 (hs0 hu0)
          obtain ⟨gv1, mv, gv2, gv3, gv4, gv5⟩ := i5.2.2.2.2.2.1 hz
          have mu2 := srtQ_le gu4
          have mv2 := srtQ_le gv4
          refine Par.imp (x_204s hX hb hB hS n251 (by omega) p3 (by omega) hyT v8 (by omega) Hv) ?_
          rintro v6 s9 ⟨rfl, r1, r2, r3, r4, r5⟩
          rw [if_pos hz] at r4
          rw [hw0] at r5
          refine ⟨rfl, rfl, ?_, ?_, ?_, ?_, fun h9 => ?_, fun h0 => ?_⟩
          · rw [p4] at r1
            exact RWf_tr (RWf_mo (hi := (p_hd K L (0, q + 1)).2) frm (Int.le_refl _) (by omega) (Int.le_refl _)) r1 (by omega) (Int.le_refl _) (by omega)
          · rw [r3, i5.2.2.2.1, g5.2.2.2.1, er]
          · rw [efs, if_pos hz, tF_k (by decide)]
            exact r4
          · rw [r4, ← tF_k (kd := kd) (kk := 4) (by decide)]
            exact tF_nn hX (by omega) p3 (by omega)
          · obtain ⟨r6, r7, r8⟩ := r5 h9
            refine ⟨by omega, by omega, fun i t' ht => ?_, fun i t' ht => ?_, ?_⟩
            · obtain ⟨k1, k2, k3⟩ := gu5 i t' (by have := (List.getElem?_eq_some_iff.mp ht).1; omega) ht
              have m1 := RSn_f k1 k3 fv (Or.inl (by omega)) (Int.le_refl _)
              have m2 := RSn_f m1 k3 r1 (Or.inl (by omega)) gv1
              rw [RWf_r r1 (p := 247) (by decide) (by decide) (by decide) (by decide), RWf_r fv (p := 247) (by decide) (by decide) (by decide) (by decide)]
              exact RSn_A m2 (by omega)
            · obtain ⟨k1, k2, k3⟩ := gv5 i t' (by have := (List.getElem?_eq_some_iff.mp ht).1; omega) ht
              have m2 := RSn_f k1 k3 r1 (Or.inl (by omega)) (Int.le_refl _)
              rw [RWf_r r1 (p := 250) (by decide) (by decide) (by decide) (by decide)]
              exact RSn_A m2 (by omega)
            · rw [RWf_r r1 (p := 251) (by decide) (by decide) (by decide) (by decide), n251]
              exact r6
          · have := hs8 h0
            have h1z : (v.1 8).toInt = (s.1 8).toInt := by
              rw [fault_v]
              exact if_neg h0
            omega
        · refine Par.imp (x_204f (by omega)) ?_
          rintro v6 s9 ⟨rfl, hs9⟩
          rw [hs9]
          refine ⟨rfl, rfl, RWf_mo frm (Int.le_refl _) (by omega) (Int.le_refl _), ?_, ?_, v8, fun h9 => absurd h9 hz, hs8⟩
          · rw [i5.2.2.2.1, g5.2.2.2.1, er]
          · rw [efs, if_neg hz]
      · have hk2 : k2 < (h_v K L (0, q + 1)).length := by omega
        obtain ⟨t', ht'⟩ : ∃ t', (h_v K L (0, q + 1))[k2]? = some t' := ⟨_, List.getElem?_eq_getElem hk2⟩
        have ht0 := hw t' (List.mem_of_getElem? ht')
        have ex4 : x4.toInt.toNat = (6 * h + (k2 : Int)).toNat := by omega
        rw [ex4]
        have step : ∀ s5 : yS, ((v.1 8).toInt = 0 → RSq K L B w (t' + 1) (v.2.1 250 (6 * h + (k2 : Int)).toNat).toInt (tF K L W ar kd hf tp TN 3 (t' + 1)) v s5) → (¬ (v.1 8).toInt = 0 → s5 = v) → (-2147483648 ≤ d4.toInt + 1 ∧ d4.toInt + 1 ≤ 2147483647 → ∀ x7 : Int32, x7.toInt = d4.toInt + 1 → (d1 = d1 ∧ d2 = d2 ∧ d3 = d3 ∧ ∃ k2 : Nat, x7.toInt = (k2 : Int) ∧ LRq K L B w (fun t => tF K L W ar kd hf tp TN 3 (t + 1)) 250 (6 * h) (h_2 K L (0, q + 1)).2 (h_3 K L (0, q + 1)).2 (h_v K L (0, q + 1)) u k2 s5)) := fun s5 z1 z2 _ x7 hx7 => ⟨rfl, rfl, rfl, k2 + 1, by omega, LRq_s (by decide) i5 ht' ht0 z1 z2⟩
        by_cases hz : (v.1 8).toInt = 0
        · obtain ⟨n1, n2, n3⟩ := LRq_n i5 hz ht' ht0
          obtain ⟨b', hyT⟩ := YA_yT (u := v) t7 ht' rows
          have hu0 : (u.1 8).toInt = 0 := by
            by_cases h0 : (u.1 8).toInt = 0
            · exact h0
            · rw [i5.2.2.2.2.2.2 h0] at hz
              exact hz
          have gu1 := (g5.2.2.2.2.2.1 hu0).1
          have gv1 := (i5.2.2.2.2.2.1 hz).1
          have h65' := h65 (hs0 hu0)
          refine Par.imp (x_204s hX hb hB hS (a1 := v.2.1 250 (6 * h + (k2 : Int)).toNat) rfl (by omega) n1 (by omega) (by rw [rows 250 (by decide) (by decide) (by decide) (by decide)]; exact hyT) v8 (by omega) Hv) ?_
          rintro v6 s5 ⟨rfl, rq⟩
          rw [hw0] at rq
          exact ⟨rfl, step s5 (fun _ => by rw [tF_k (by decide)]; exact rq) (fun e => absurd hz e)⟩
        · refine Par.imp (x_204f (by omega)) ?_
          rintro v6 s5 ⟨rfl, hs5⟩
          exact ⟨rfl, step s5 (fun e => absurd e hz) (fun _ => hs5)⟩
    · have hk : k < (h_f K L (0, q + 1)).length := by omega
      obtain ⟨t', ht'⟩ : ∃ t', (h_f K L (0, q + 1))[k]? = some t' := ⟨_, List.getElem?_eq_getElem hk⟩
      have ht0 := hf0 t' (List.mem_of_getElem? ht')
      have ex2 : x2.toInt.toNat = (6 * h + (k : Int)).toNat := by omega
      rw [ex2]
      have step : ∀ s5 : yS, ((u.1 8).toInt = 0 → RSq K L B w (t' + 1) (u.2.1 247 (6 * h + (k : Int)).toNat).toInt (tF K L W ar kd hf tp TN 0 (t' + 1)) u s5) → (¬ (u.1 8).toInt = 0 → s5 = u) → (-2147483648 ≤ c4.toInt + 1 ∧ c4.toInt + 1 ≤ 2147483647 → ∀ x7 : Int32, x7.toInt = c4.toInt + 1 → (c1 = c1 ∧ c2 = c2 ∧ c3 = c3 ∧ ∃ k : Nat, x7.toInt = (k : Int) ∧ LRq K L B w (fun t => tF K L W ar kd hf tp TN 0 (t + 1)) 247 (6 * h) (q + 1) (h_2 K L (0, q + 1)).2 (h_f K L (0, q + 1)) s1 k s5)) := fun s5 z1 z2 _ x7 hx7 => ⟨rfl, rfl, rfl, k + 1, by omega, LRq_s (by decide) g5 ht' ht0 z1 z2⟩
      by_cases hz : (u.1 8).toInt = 0
      · obtain ⟨n1, n2, n3⟩ := LRq_n g5 hz ht' ht0
        obtain ⟨b', hyT⟩ := YA_yT (u := u) t4 ht' (fun p z1 z2 z3 z4 => by rw [RWf_r fu z1 z2 z3 z4, er])
        have gu1 := (g5.2.2.2.2.2.1 hz).1
        have h65' := h65 (hs0 hz)
        have r247 : u.2.1 247 = s.2.1 247 := by rw [RWf_r fu (p := 247) (by decide) (by decide) (by decide) (by decide), er]
        refine Par.imp (x_207 hX hb hB hS (KDr_W fu K1) (a1 := u.2.1 247 (6 * h + (k : Int)).toNat) rfl (by omega) n1 (by omega) (by rw [r247]; exact hyT) u8 (by omega) (RVh_W fu g5.2.2.1 H1)) ?_
        rintro v6 s5 ⟨rfl, rq⟩
        rw [hw0] at rq
        exact ⟨rfl, step s5 (fun _ => rq) (fun e => absurd hz e)⟩
      · refine Par.imp (x_207f (by omega)) ?_
        rintro v6 s5 ⟨rfl, hs5⟩
        exact ⟨rfl, step s5 (fun e => absurd e hz) (fun _ => hs5)⟩
end WRH
