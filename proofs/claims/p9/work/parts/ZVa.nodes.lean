/-! ===== trees of two E lie apart ===== -/
/-- a VAR, or the TYPE of a struct, has a token from t on, ahead of u -/
def ndQ (B : Int) (s : yS) (t u j : Int) : Prop := ((s.2.1 221 j.toNat).toInt = 1 → B + t ≤ (s.2.1 222 j.toNat).toInt ∧ (s.2.1 222 j.toNat).toInt < B + u) ∧ ((s.2.1 221 j.toNat).toInt = 2 → B + t ≤ (s.2.1 222 (j + 1).toNat).toInt ∧ (s.2.1 222 (j + 1).toNat).toInt < B + u)
section ZVN
variable {K L W ar kd : Int → Int} {TN Ls : List Int} {B β0 β1 A0 A x y t u e : Int} {S : Scp} {s : yS} {m : Nat}
theorem yT_0 : ∀ (m : Nat) (x y t : Int), yT K L B s m x y t → ∀ j, x ≤ j → j < y → (s.2.1 221 j.toNat).toInt = 0
  | 0, _, _, _, h => False.elim h
  | m + 1, x, y, t, h => fun j j1 j2 => by
    obtain ⟨h1, h2, h3, h4⟩ := h
    by_cases ej : j = x
    · rw [ej]
      exact h2
    · by_cases hk : K (t + 1) = 91
      · rw [if_pos hk] at h4
        obtain ⟨h5, h6, z, u, h7, h8, h9, h10⟩ := h4
        obtain ⟨i, i1, i2, i3⟩ := mono_at (z := z) (j := j) (NT K L (t + 1)) (by omega) (by omega)
        exact yT_0 m _ _ _ (h10.1 i i1).1 j i2 i3
      · rw [if_neg hk] at h4
        omega
theorem ndQ_m {t' u' j : Int} (h : ndQ B s t' u' j) (h1 : t ≤ t') (h2 : u' ≤ u) : ndQ B s t u j := ⟨fun q => by have := h.1 q; omega, fun q => by have := h.2 q; omega⟩
theorem ndQ_n {j : Int} (h : ¬ (s.2.1 221 j.toNat).toInt = 1 ∧ ¬ (s.2.1 221 j.toNat).toInt = 2) : ndQ B s t u j := ⟨fun q => absurd q h.1, fun q => absurd q h.2⟩
theorem yT_f (h : yT K L B s m x y t) : x < y ∧ (s.2.1 222 x.toNat).toInt = B + t := by
  cases m with
  | zero => exact h.elim
  | succ m => exact ⟨h.1.2, h.2.2.1⟩
/-- nodes of E in a list -/
theorem eAr_nd {f : Int → Int → Int → Int → Prop} {o c x0 y1 y a b j : Int} (hm : m ≤ 10) (hO : AOk K L m o c a b) (h : eAr K L s f o c x0 y1 y a) (hf : ∀ x y t e, f x y t e → (p_e K L m false (0, t)).1 = 0 → ∀ j, x ≤ j → j < y → ndQ B s t (nxE K L t) j) (hj : y1 ≤ j) (hj2 : j < y) : ndQ B s (a + 1) b j := by
  obtain ⟨-, z, w, z0, zN, -, cE, -⟩ := eAr_ch h hO
  obtain ⟨-, oE⟩ := AOk_o hm hO
  obtain ⟨i, i1, i2, i3⟩ := mono_at (z := z) (j := j) _ (by omega) (by rw [zN]; exact hj2)
  have o := oE i i1
  exact ndQ_m (hf _ _ _ _ (cE i i1).1 (hO.2.2.1 i i1) j i2 i3) o.1 (by omega)
theorem ePs_nd (hm : m ≤ 10) (ht : HOk K L m t) (hf : ∀ x y t e, eT K L B s m x y t e → (p_e K L m false (0, t)).1 = 0 → ∀ j, x ≤ j → j < y → ndQ B s t (nxE K L t) j) : ∀ (k : Nat) (y a e : Int), ePs K L B s m (eT K L B s m) x t k y a e → (∀ j, j < k → POk K L m (aIt K L j (aHd K L t))) → t < aIt K L k (aHd K L t) ∧ ∀ j, x ≤ j → j < y → ndQ B s t (aIt K L k (aHd K L t)) j
  | 0, y, a, e, h, _ => by
    obtain ⟨-, ⟨g1, g2, g3⟩, -⟩ := h
    show t < aHd K L t ∧ ∀ j, x ≤ j → j < y → ndQ B s t (aHd K L t) j
    by_cases hc : K (t + 1) = 123 ∨ K (t + 1) = 91
    · rw [if_pos hc] at g3
      obtain ⟨k1, k2, y1, k3, k4, k5⟩ := g3
      obtain ⟨hp, hO⟩ := ht.2 hc
      have q1 := nxT_gt (m := m) (by omega) hp
      have q2 := (AOk_o hm hO).1
      obtain ⟨q3, q4⟩ := yT_f k4
      refine ⟨by omega, fun j j1 j2 => ?_⟩
      by_cases ej : j = x
      · rw [ej]
        exact ⟨fun q => by omega, fun _ => by omega⟩
      · rcases Int.lt_or_le j y1 with w | w
        · have := yT_0 m _ _ _ k4 j (by omega) w
          exact ndQ_n ⟨by omega, by omega⟩
        · exact ndQ_m (eAr_nd hm hO k5 hf w j2) (by omega) (Int.le_refl _)
    · rw [if_neg hc] at g3
      obtain ⟨k1, k2, k3⟩ := g3
      have eH : aHd K L t = t + 1 := if_neg hc
      refine ⟨by omega, fun j j1 j2 => ?_⟩
      have ej : j = x := by omega
      rw [ej]
      exact ⟨fun _ => by omega, fun q => by omega⟩
  | k + 1, y, a, e, h, hPO => by
    obtain ⟨y0, a0, e0, g1, g2, g3, g4, g5⟩ := h
    have ea := (ePs_it _ _ _ _ g1).1
    obtain ⟨i1, i2⟩ := ePs_nd hm ht hf k y0 a0 e0 g1 (fun j hj => hPO j (by omega))
    have hPk := hPO k (by omega)
    have ek : aIt K L (k + 1) (aHd K L t) = aPt K L a0 := by
      show aPt K L (aIt K L k (aHd K L t)) = _
      rw [← ea]
    rw [← ea] at hPk i1 i2
    obtain ⟨o1, o2, o3, o4⟩ := POk_o hm hPk
    rw [ek]
    refine ⟨by omega, fun j j1 j2 => ?_⟩
    rcases Int.lt_or_le j y0 with w | w
    · exact ndQ_m (i2 j j1 w) (Int.le_refl _) (by omega)
    · by_cases h40 : K (a0 + 1) = 40
      · obtain ⟨p1, p2, p3, p4⟩ := g4
        rw [if_pos h40] at p4
        obtain ⟨k1, k2, k3⟩ := p4
        by_cases ej : j = e
        · rw [ej]
          exact ndQ_n ⟨by omega, by omega⟩
        · have := yT_0 m _ _ _ k3 j (by omega) j2
          exact ndQ_n ⟨by omega, by omega⟩
      · by_cases hb : K (a0 + 2) = 91 ∨ K (a0 + 2) = 40
        · obtain ⟨⟨h221, -⟩, -, y1, zt, ⟨zt0, ztN, zty⟩, -, hzt, -, hAr, -⟩ := ePt_m g4 h40 hb
          obtain ⟨poM1, poM2⟩ := o4 h40 hb
          by_cases ej : j = e
          · rw [ej]
            exact ndQ_n ⟨by omega, by omega⟩
          · rcases Int.lt_or_le j y1 with w' | w'
            · obtain ⟨i, i1', i2', i3'⟩ := mono_at (z := zt) (j := j) (exN K L (a0 + 1)) (by omega) (by omega)
              have := yT_0 m _ _ _ (hzt i i1').1 j i2' i3'
              exact ndQ_n ⟨by omega, by omega⟩
            · exact ndQ_m (eAr_nd hm ((hPk.2.2 h40).2.2.1 hb) hAr hf w' j2) (by omega) (Int.le_refl _)
        · obtain ⟨p1, p2, p3, p4⟩ := g4
          rw [if_neg h40, if_neg (fun q => hb (Or.inl q)), if_neg (fun q => hb (Or.inr q))] at p4
          obtain ⟨k2, k1, k3⟩ := p4
          have ej : j = e := by omega
          rw [ej]
          exact ndQ_n ⟨by omega, by omega⟩
theorem eT_nd : ∀ (m : Nat), m ≤ 11 → ∀ (x y t e : Int), eT K L B s m x y t e → (p_e K L m false (0, t)).1 = 0 → ∀ j, x ≤ j → j < y → ndQ B s t (nxE K L t) j
  | 0, _ => fun x y t e h => h.elim
  | m + 1, hm => fun x y t e h hp => by
    obtain ⟨k, hk, h1⟩ := h
    obtain ⟨g1, g2⟩ := pe_u (by omega) hp
    obtain ⟨e1, e2⟩ := ePs_it _ _ _ _ h1
    obtain ⟨u1, u2, u3⟩ := pps_u (by omega) 20 _ g2 k e2
    rw [e1]
    exact (ePs_nd (by omega) g1 (eT_nd m (by omega)) k _ _ _ h1 u1).2
/-- how a tree begins -/
theorem ePs_h {f : Int → Int → Int → Int → Prop} : ∀ (k : Nat) (y a e : Int), ePs K L B s m f x t k y a e → ∃ y0, y0 ≤ y ∧ eHd K L B s m f x y0 t
  | 0, y, a, e, h => ⟨y, Int.le_refl _, h.2.1⟩
  | k + 1, y, a, e, h => by
    obtain ⟨y0, a0, e0, g1, -, g3, g4, -⟩ := h
    obtain ⟨y', q1, q2⟩ := ePs_h k y0 a0 e0 g1
    have := g4.1
    exact ⟨y', by omega, q2⟩
theorem eT_h (h : eT K L B s m x y t e) : (0 ≤ x ∧ x < y) ∧ (((s.2.1 221 x.toNat).toInt = 1 ∧ (s.2.1 222 x.toNat).toInt = B + t) ∨ ((s.2.1 221 x.toNat).toInt = 2 ∧ (s.2.1 222 (x + 1).toNat).toInt = B + t)) := by
  cases m with
  | zero => exact h.elim
  | succ m =>
    obtain ⟨k, -, h1⟩ := h
    obtain ⟨y0, q1, ⟨g1, g2, g3⟩⟩ := ePs_h _ _ _ _ h1
    refine ⟨by omega, ?_⟩
    by_cases hc : K (t + 1) = 123 ∨ K (t + 1) = 91
    · rw [if_pos hc] at g3
      obtain ⟨k1, k2, y1, k3, k4, k5⟩ := g3
      exact Or.inr ⟨k1, (yT_f k4).2⟩
    · rw [if_neg hc] at g3
      exact Or.inl ⟨g3.1, g3.2.1⟩
/-- two E whose tokens lie apart -/
theorem eT_dis {m m' : Nat} {x' y' t' e' : Int} (hm : m ≤ 11) (hm' : m' ≤ 11) (h : eT K L B s m x y t e) (h' : eT K L B s m' x' y' t' e') (hp : (p_e K L m false (0, t)).1 = 0) (hp' : (p_e K L m' false (0, t')).1 = 0) (ht : nxE K L t ≤ t') : y ≤ x' ∨ y' ≤ x := by
  obtain ⟨a1, a2⟩ := eT_h h
  obtain ⟨b1, b2⟩ := eT_h h'
  have g1 := nxE_gt hm hp
  have g2 := nxE_gt hm' hp'
  rcases Int.lt_or_le x' y with w | w
  · rcases Int.lt_or_le x y' with w' | w'
    · exfalso
      rcases Int.lt_or_le x' x with q | q
      · obtain ⟨n1, n2⟩ := eT_nd m' hm' _ _ _ _ h' hp' x (by omega) w'
        rcases a2 with ⟨z1, z2⟩ | ⟨z1, z2⟩
        · have := n1 z1
          omega
        · have := n2 z1
          omega
      · obtain ⟨n1, n2⟩ := eT_nd m hm _ _ _ _ h hp x' q w
        rcases b2 with ⟨z1, z2⟩ | ⟨z1, z2⟩
        · have := n1 z1
          omega
        · have := n2 z1
          omega
    · exact Or.inr w'
  · exact Or.inl w
theorem ePc_s {f g : Int → Int → Int → Int → Prop} {ev : Int → Int × List Int} (hf : ∀ x y t e, f x y t e → g x y t e) : ∀ {k : Nat} {y a e : Int}, ePc K L W ar kd TN Ls B β0 β1 S A0 A s m f ev x t k y a e → ePs K L B s m g x t k y a e
  | 0, y, a, e, h => by
    obtain ⟨⟨h1, h2, h3⟩, -⟩ := h
    exact ⟨h1, eHd_c (A0 := 0) (A := 0) CFq_rf (fun _ _ _ _ _ _ => hf _ _ _ _) h2, h3⟩
  | k + 1, y, a, e, h => by
    obtain ⟨y0, a0, e0, h1, h2, h3, h4, h5, -⟩ := h
    exact ⟨y0, a0, e0, ePc_s hf h1, h2, h3, ePt_c (A0 := 0) (A := 0) CFq_rf (fun _ _ _ _ _ _ => hf _ _ _ _) h4, h5⟩
theorem eC_T : ∀ (m : Nat) {x y t e : Int}, eC K L W ar kd TN Ls B β0 β1 S A0 A s m x y t e → eT K L B s m x y t e
  | 0, _, _, _, _, h => h
  | m + 1, x, y, t, e, h => by
    obtain ⟨k, h1, h2⟩ := h
    exact ⟨k, h1, ePc_s (fun _ _ _ _ => eC_T m) h2⟩
end ZVN
