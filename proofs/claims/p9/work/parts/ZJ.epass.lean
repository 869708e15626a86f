/-! ===== an E that was passed: its pieces ===== -/
/-- the E of a list, opened at a, closed ahead of b -/
def AOk (K L : Int → Int) (m : Nat) (o c a b : Int) : Prop := K a = o ∧ p_vn K L (p_e K L 11) o c (0, a) ≤ 7 ∧ (∀ i, i < p_vn K L (p_e K L 11) o c (0, a) → (p_e K L m false (0, uS (nxE K L) (a + 1) i)).1 = 0) ∧ (K (a + 1) = c → p_vn K L (p_e K L 11) o c (0, a) = 0 ∧ b = a + 2) ∧ (¬ K (a + 1) = c → 1 ≤ p_vn K L (p_e K L 11) o c (0, a) ∧ b = uS (nxE K L) (a + 1) (p_vn K L (p_e K L 11) o c (0, a)))
/-- what stands behind the point at a -/
def POk (K L : Int → Int) (m : Nat) (a : Int) : Prop := K a = 46 ∧ (K (a + 1) = 40 → (p_t K L m false (0, a + 2)).1 = 0 ∧ aPt K L a = nxT K L (a + 2) + 1) ∧ (¬ K (a + 1) = 40 → K (a + 1) = 1 ∧ (K (a + 2) = 91 → (1 ≤ NT K L (a + 2) ∧ NT K L (a + 2) ≤ 7) ∧ (∀ i, i < NT K L (a + 2) → (p_t K L m false (0, uS (nxT K L) (a + 3) i)).1 = 0) ∧ mO K L (a + 1) = (0, uS (nxT K L) (a + 3) (NT K L (a + 2)))) ∧ ((K (a + 2) = 91 ∨ K (a + 2) = 40) → AOk K L m 40 41 (mO K L (a + 1)).2 (aPt K L a)) ∧ (¬ (K (a + 2) = 91 ∨ K (a + 2) = 40) → aPt K L a = a + 2))
/-- what stands ahead of the points -/
def HOk (K L : Int → Int) (m : Nat) (t : Int) : Prop := K t = 1 ∧ ((K (t + 1) = 123 ∨ K (t + 1) = 91) → (p_t K L m false (0, t)).1 = 0 ∧ AOk K L m 123 125 (nxT K L t) (aHd K L t))
/-- the point after k points -/
def aIt (K L : Int → Int) : Nat → Int → Int
  | 0, a => a
  | k + 1, a => aPt K L (aIt K L k a)
section ZJP
variable {K L : Int → Int} {m : Nat} {o c a b t : Int}
theorem aIt_c : ∀ (k : Nat) (a : Int), aIt K L k (aPt K L a) = aIt K L (k + 1) a
  | 0, _ => rfl
  | k + 1, a => by
    show aPt K L (aIt K L k (aPt K L a)) = aPt K L (aIt K L (k + 1) a)
    rw [aIt_c k a]
theorem nxE_gt (hm : m ≤ 11) (h : (p_e K L m false (0, t)).1 = 0) : t < nxE K L t := by
  rw [(pe_g m hm false t h).2.2]
  exact (pe_fw m false (0, t) h).2
theorem nxT_gt (hm : m ≤ 11) (h : (p_t K L m false (0, t)).1 = 0) : t < nxT K L t := by
  rw [(pt_g m hm false t h).2.2]
  exact (pt_fw m false (0, t) h).2
theorem uS_le {nx : Int → Int} {N : Nat} (h : ∀ i, i < N → uS nx t i < nx (uS nx t i)) : ∀ i j, i ≤ j → j ≤ N → uS nx t i ≤ uS nx t j ∧ (i < j → nx (uS nx t i) < uS nx t j) := by
  intro i j hij
  induction hij with
  | refl => exact fun _ => ⟨Int.le_refl _, fun w => absurd w (Nat.lt_irrefl _)⟩
  | @step j hij ih =>
    intro hj
    obtain ⟨h1, h2⟩ := ih (by omega)
    have h3 := h j (by omega)
    have e : uS nx t (j + 1) = nx (uS nx t j) + 1 := rfl
    refine ⟨by show uS nx t i ≤ uS nx t (j + 1); omega, fun _ => ?_⟩
    show nx (uS nx t i) < uS nx t (j + 1)
    by_cases hq : i < j
    · have := h2 hq
      omega
    · have : i = j := by omega
      subst this
      omega
theorem pvs_u (hm : m ≤ 10) (h : (p_vs K L (p_e K L m) o c (0, a)).1 = 0) : AOk K L m o c a (p_vs K L (p_e K L m) o c (0, a)).2 := by
  obtain ⟨-, h2, -⟩ := pvs_fw (pe_fw m) h
  have e : e_k K L o (0, a) = (0, a + 1) := ek_y rfl h2
  unfold AOk p_vn
  unfold p_vs at h ⊢
  rw [e] at h ⊢
  by_cases hc : K (a + 1) = c
  · rw [if_neg (fun w => w.2 hc)] at h ⊢
    rw [if_neg (fun w => w.2 hc)]
    obtain ⟨-, -, e2⟩ := ek_0 h
    refine ⟨h2, by decide, fun i hi => absurd hi (Nat.not_lt_zero _), fun _ => ⟨rfl, ?_⟩, fun w => absurd hc w⟩
    rw [e2]
    show a + 1 + 1 = a + 2
    omega
  · rw [if_pos ⟨rfl, hc⟩] at h ⊢
    rw [if_pos ⟨rfl, hc⟩]
    obtain ⟨p1, p2, p3, -, -⟩ := pl_u (c := c) (pe_g m (by omega)) 6 (a + 1) h
    exact ⟨h2, p1.2, p2, fun w => absurd w hc, fun _ => ⟨p1.1, by rw [p3]⟩⟩
/-- the order of the E in a list -/
theorem AOk_o (hm : m ≤ 10) (h : AOk K L m o c a b) : a + 1 < b ∧ ∀ i, i < p_vn K L (p_e K L 11) o c (0, a) → a + 1 ≤ uS (nxE K L) (a + 1) i ∧ uS (nxE K L) (a + 1) i < nxE K L (uS (nxE K L) (a + 1) i) ∧ nxE K L (uS (nxE K L) (a + 1) i) < b ∧ ∀ j, i < j → j < p_vn K L (p_e K L 11) o c (0, a) → nxE K L (uS (nxE K L) (a + 1) i) < uS (nxE K L) (a + 1) j := by
  obtain ⟨-, -, h3, h4, h5⟩ := h
  have g := fun i hi => nxE_gt (m := m) (by omega) (h3 i hi)
  have mo := uS_le g
  by_cases hc : K (a + 1) = c
  · obtain ⟨n0, rfl⟩ := h4 hc
    refine ⟨by omega, fun i hi => by omega⟩
  · obtain ⟨n1, rfl⟩ := h5 hc
    have m0 := mo 0 _ (Nat.zero_le _) (Nat.le_refl _)
    have g0 := g 0 (by omega)
    have m0' := m0.2 (by omega)
    have e0 : uS (nxE K L) (a + 1) 0 = a + 1 := rfl
    rw [e0] at m0' g0
    refine ⟨by omega, fun i hi => ?_⟩
    have m1 := (mo 0 i (Nat.zero_le _) (by omega)).1
    rw [e0] at m1
    exact ⟨m1, g i hi, (mo i _ (by omega) (Nat.le_refl _)).2 hi, fun j hj hj2 => (mo i j (by omega) (by omega)).2 hj⟩
theorem ppo_11 (hm : m ≤ 11) (h : (p_po K L (p_t K L m) (p_e K L m) (0, a)).1 = 0) : p_po K L (p_t K L m) (p_e K L m) (0, a) = (0, aPt K L a) := by
  have e := ppo_mono (gt := p_t K L 11) (g := p_e K L 11) (pe_fw m) (pt_mono m 11 hm) (pe_mono m 11 hm) h
  unfold aPt
  rw [e]
  exact Prod.ext h rfl
theorem ppo_u (hm : m ≤ 10) (h : (p_po K L (p_t K L m) (p_e K L m) (0, a)).1 = 0) : POk K L m a := by
  have e11 := ppo_11 (m := m) (by omega) h
  obtain ⟨-, k46, -⟩ := ppo_fw (pt_fw m) (pe_fw m) h
  have k46 : K a = 46 := k46
  have e1 : e_k K L 46 (0, a) = (0, a + 1) := ek_y rfl k46
  unfold p_po at h e11
  rw [e1] at h e11
  refine ⟨k46, fun h40 => ?_, fun h40 => ?_⟩
  · have t40 : t_k K 40 (0, a + 1) = true := decide_eq_true ⟨rfl, h40⟩
    rw [if_pos t40] at h e11
    have ea : a_d ((0 : Int), a + 1) = (0, a + 2) := by
      show ((0 : Int), a + 1 + 1) = (0, a + 2)
      rw [show a + 1 + 1 = a + 2 by omega]
    rw [ea] at h e11
    obtain ⟨g1, g2, g3⟩ := ek_0 h
    refine ⟨g1, ?_⟩
    rw [g3] at e11
    rw [(pt_g m (by omega) false _ g1).2.2]
    exact (congrArg Prod.snd e11).symm
  · have t40 : ¬ t_k K 40 (0, a + 1) = true := fun w => h40 (tk_t w).2
    rw [if_neg t40] at h e11
    have ea2 : a + 1 + 1 = a + 2 := by omega
    have ea3 : a + 1 + 2 = a + 3 := by omega
    by_cases hk : (e_k K L 1 (0, a + 1)).1 = 0
    · obtain ⟨-, k1, e2⟩ := ek_0 hk
      have k1 : K (a + 1) = 1 := k1
      have e2 : e_k K L 1 (0, a + 1) = (0, a + 2) := by
        rw [e2]
        show ((0 : Int), a + 1 + 1) = (0, a + 2)
        rw [ea2]
      rw [e2] at h e11
      have ead : a_d ((0 : Int), a + 2) = (0, a + 3) := by
        show ((0 : Int), a + 2 + 1) = (0, a + 3)
        rw [show a + 2 + 1 = a + 3 by omega]
      rw [ead] at h e11
      by_cases h91 : K (a + 2) = 91
      · have t91 : t_k K 91 (0, a + 2) = true := decide_eq_true ⟨rfl, h91⟩
        rw [if_pos t91] at h e11
        have hl : (p_l K L (p_t K L m) 93 7 (0, a + 3)).1 = 0 := (pvs_fw (pe_fw m) h).1
        obtain ⟨p1, p2, p3, -, -⟩ := pl_u (c := 93) (pt_g m (by omega)) 6 (a + 3) hl
        have eN : NT K L (a + 2) = p_n K (p_t K L 11) 7 (0, a + 3) := by
          unfold NT
          rw [show a + 2 + 1 = a + 3 by omega]
        have eM : mO K L (a + 1) = (0, uS (nxT K L) (a + 3) (NT K L (a + 2))) := by
          unfold mO
          rw [ea2, ea3, if_pos h91, (pl_mono7 (pt_mono m 11 (by omega)) _ hl).1, eN]
          exact p3
        refine ⟨k1, fun _ => ⟨by rw [eN]; exact p1, by rw [eN]; exact p2, eM⟩, fun _ => ?_, fun w => absurd (Or.inl h91) w⟩
        have eM' : p_l K L (p_t K L m) 93 7 (0, a + 3) = (0, (mO K L (a + 1)).2) := by rw [eM, eN]; exact p3
        rw [eM'] at h e11
        have := pvs_u hm h
        rw [e11] at this
        exact this
      · have t91 : ¬ t_k K 91 (0, a + 2) = true := fun w => h91 (tk_t w).2
        rw [if_neg t91] at h e11
        have eM : mO K L (a + 1) = (0, a + 2) := by
          unfold mO
          rw [ea2, if_neg h91]
        refine ⟨k1, fun w => absurd w h91, fun w => ?_, fun w => ?_⟩
        · have h4 : K (a + 2) = 40 := by omega
          rw [if_pos h4] at h e11
          have := pvs_u hm h
          rw [e11] at this
          rw [eM]
          exact this
        · rw [if_neg (fun q => w (Or.inr q))] at e11
          exact (congrArg Prod.snd e11).symm
    · exfalso
      rw [if_neg (by rw [tk_f hk]; decide)] at h
      by_cases h4 : K (e_k K L 1 (0, a + 1)).2 = 40
      · rw [if_pos h4, pvs_f hk] at h
        exact hk h
      · rw [if_neg h4] at h
        exact hk h
theorem pe_u (hm : m ≤ 10) (h : (p_e K L (m + 1) false (0, t)).1 = 0) : HOk K L m t ∧ p_ps K L (p_po K L (p_t K L m) (p_e K L m)) 20 (0, aHd K L t) = (0, nxE K L t) := by
  have en := (pe_g (m + 1) (by omega) false t h).2.2
  have ep : p_e K L (m + 1) false (0, t) = (0, nxE K L t) := by rw [en]; exact Prod.ext h rfl
  rw [p_e] at ep h
  have fwg : ∀ σ, (p_po K L (p_t K L m) (p_e K L m) σ).1 = 0 → σ.1 = 0 ∧ σ.2 < (p_po K L (p_t K L m) (p_e K L m) σ).2 := fun σ h => by
    have := ppo_fw (pt_fw m) (pe_fw m) h
    exact ⟨this.1, by omega⟩
  have h1 := (pps_fw fwg 20 _ h).1
  by_cases hc : (e_f K L false (0, t)).1 = 0 ∧ (K (e_f K L false (0, t)).2 = 123 ∨ K (e_f K L false (0, t)).2 = 91)
  · rw [if_pos hc] at ep h1
    obtain ⟨-, k1, -, e4⟩ := ef_0 hc.1
    have hc2 := hc.2
    rw [e4] at hc2
    have hc2 : K (t + 1) = 123 ∨ K (t + 1) = 91 := hc2
    have g1 := (pvs_fw (pe_fw m) h1).1
    have et : p_t K L m false (0, t) = (0, nxT K L t) := by
      rw [(pt_g m (by omega) false t g1).2.2]
      exact Prod.ext g1 rfl
    rw [et] at ep h1
    have ea : p_vs K L (p_e K L m) 123 125 (0, nxT K L t) = (0, aHd K L t) := by
      unfold aHd
      rw [if_pos hc2, (pvs_mono (pe_mono m 11 (by omega)) h1).1]
      exact Prod.ext h1 rfl
    refine ⟨⟨k1, fun _ => ⟨g1, ?_⟩⟩, by rw [← ea]; exact ep⟩
    have := pvs_u hm h1
    rw [ea] at this
    exact this
  · rw [if_neg hc] at ep h1
    obtain ⟨-, k1, -, e4⟩ := ef_0 h1
    have hn : ¬ (K (t + 1) = 123 ∨ K (t + 1) = 91) := fun w => hc ⟨h1, by rw [e4]; exact w⟩
    have ea : aHd K L t = t + 1 := by
      unfold aHd
      rw [if_neg hn]
    refine ⟨⟨k1, fun w => absurd w hn⟩, ?_⟩
    rw [ea]
    rw [e4] at ep
    exact ep
theorem pps_u (hm : m ≤ 10) {z : Int} : ∀ (n : Nat) (a : Int), p_ps K L (p_po K L (p_t K L m) (p_e K L m)) n (0, a) = (0, z) → ∀ k : Nat, (∀ j, j < k → K (aIt K L j a) = 46) → (∀ j, j < k → POk K L m (aIt K L j a)) ∧ k ≤ n ∧ p_ps K L (p_po K L (p_t K L m) (p_e K L m)) (n - k) (0, aIt K L k a) = (0, z)
  | n, a, h, 0, _ => ⟨fun j hj => absurd hj (Nat.not_lt_zero _), Nat.zero_le _, h⟩
  | 0, a, h, k + 1, hk => by
    have h46 : K a = 46 := hk 0 (by omega)
    rw [p_ps, if_pos (show t_k K 46 (0, a) = true from decide_eq_true ⟨rfl, h46⟩)] at h
    have h5 : 5 + 16 * L a = 0 := congrArg Prod.fst h
    omega
  | n + 1, a, h, k + 1, hk => by
    have h46 : K a = 46 := hk 0 (by omega)
    rw [p_ps, if_pos (show t_k K 46 (0, a) = true from decide_eq_true ⟨rfl, h46⟩)] at h
    have fwg : ∀ σ, (p_po K L (p_t K L m) (p_e K L m) σ).1 = 0 → σ.1 = 0 ∧ σ.2 < (p_po K L (p_t K L m) (p_e K L m) σ).2 := fun σ h => by
      have := ppo_fw (pt_fw m) (pe_fw m) h
      exact ⟨this.1, by omega⟩
    have h1 := (pps_fw fwg n _ (by rw [h])).1
    rw [ppo_11 (by omega) h1] at h
    obtain ⟨r1, r2, r3⟩ := pps_u hm n (aPt K L a) h k (fun j hj => by rw [aIt_c]; exact hk (j + 1) (by omega))
    refine ⟨fun j hj => ?_, by omega, ?_⟩
    · cases j with
      | zero => exact ppo_u hm h1
      | succ j =>
        rw [← aIt_c]
        exact r1 j (by omega)
    · rw [show n + 1 - (k + 1) = n - k by omega, ← aIt_c]
      exact r3
theorem pps_z {g : RSt → RSt} {z : Int} : ∀ (n : Nat) (σ : RSt), p_ps K L g n σ = (0, z) → ¬ K z = 46
  | 0, σ, h => by
    rw [p_ps] at h
    by_cases hc : t_k K 46 σ = true
    · rw [if_pos hc] at h
      have h5 : 5 + 16 * L σ.2 = 0 := congrArg Prod.fst h
      omega
    · rw [if_neg hc] at h
      exact fun q => hc (decide_eq_true ⟨by rw [h], by rw [h]; exact q⟩)
  | n + 1, σ, h => by
    rw [p_ps] at h
    by_cases hc : t_k K 46 σ = true
    · rw [if_pos hc] at h
      exact pps_z n _ h
    · rw [if_neg hc] at h
      exact fun q => hc (decide_eq_true ⟨by rw [h], by rw [h]; exact q⟩)
/-- where a point's piece ends -/
theorem POk_o (hm : m ≤ 10) (h : POk K L m a) : a + 1 < aPt K L a ∧ (K (a + 1) = 40 → nxT K L (a + 2) < aPt K L a ∧ a + 2 < nxT K L (a + 2)) ∧ (¬ K (a + 1) = 40 → K (a + 2) = 91 → ∀ i, i < NT K L (a + 2) → a + 3 ≤ uS (nxT K L) (a + 3) i ∧ uS (nxT K L) (a + 3) i < nxT K L (uS (nxT K L) (a + 3) i) ∧ nxT K L (uS (nxT K L) (a + 3) i) < (mO K L (a + 1)).2 ∧ ∀ j, i < j → j < NT K L (a + 2) → nxT K L (uS (nxT K L) (a + 3) i) < uS (nxT K L) (a + 3) j) ∧ (¬ K (a + 1) = 40 → (K (a + 2) = 91 ∨ K (a + 2) = 40) → a + 2 ≤ (mO K L (a + 1)).2 ∧ (mO K L (a + 1)).2 + 1 < aPt K L a) := by
  obtain ⟨-, h2, h3⟩ := h
  by_cases h40 : K (a + 1) = 40
  · obtain ⟨p1, p2⟩ := h2 h40
    have := nxT_gt (m := m) (by omega) p1
    exact ⟨by omega, fun _ => ⟨by omega, this⟩, fun w => absurd h40 w, fun w => absurd h40 w⟩
  · obtain ⟨-, q2, q3, q4⟩ := h3 h40
    by_cases h91 : K (a + 2) = 91
    · obtain ⟨n1, n2, n3⟩ := q2 h91
      have g := fun i hi => nxT_gt (m := m) (by omega) (n2 i hi)
      have mo := uS_le g
      have a1 := (AOk_o hm (q3 (Or.inl h91))).1
      have m0 := mo 0 _ (Nat.zero_le _) (Nat.le_refl _)
      have e0 : uS (nxT K L) (a + 3) 0 = a + 3 := rfl
      have e2 : (mO K L (a + 1)).2 = uS (nxT K L) (a + 3) (NT K L (a + 2)) := by rw [n3]
      rw [e0] at m0
      refine ⟨by omega, fun w => absurd w h40, fun _ _ i hi => ?_, fun _ _ => ⟨by omega, a1⟩⟩
      have m1 := (mo 0 i (Nat.zero_le _) (by omega)).1
      rw [e0] at m1
      rw [e2]
      exact ⟨m1, g i hi, (mo i _ (by omega) (Nat.le_refl _)).2 hi, fun j hj hj2 => (mo i j (by omega) (by omega)).2 hj⟩
    · by_cases h4 : K (a + 2) = 40
      · have a1 := (AOk_o hm (q3 (Or.inr h4))).1
        have eM : (mO K L (a + 1)).2 = a + 2 := by
          unfold mO
          rw [show a + 1 + 1 = a + 2 by omega, if_neg h91]
        exact ⟨by omega, fun w => absurd w h40, fun _ w => absurd w h91, fun _ _ => ⟨by omega, a1⟩⟩
      · have := q4 (by omega)
        exact ⟨by omega, fun w => absurd w h40, fun _ w => absurd w h91, fun _ w => by omega⟩
end ZJP
