/-! ===== readType: tables and the loop over what stands in { } ===== -/
/-- what readType may write: type D, heads from h on, declaration e, the counts of bank b -/
def W180 (D h e b : Int) (p i : Nat) : Prop := ((p = 234 ∨ p = 235 ∨ p = 236 ∨ p = 239 ∨ p = 242 ∨ p = 243) ∧ (i : Int) = D) ∨ ((p = 237 ∨ p = 238 ∨ p = 240 ∨ p = 241) ∧ 6 * D ≤ (i : Int) ∧ (i : Int) < 6 * D + 6) ∨ ((p = 244 ∨ p = 245 ∨ p = 248 ∨ p = 251) ∧ h ≤ (i : Int)) ∨ ((p = 246 ∨ p = 247 ∨ p = 249 ∨ p = 250) ∧ 6 * h ≤ (i : Int)) ∨ (p = 262 ∧ (i : Int) = e) ∨ ((p = 263 ∨ p = 233) ∧ (i : Int) = b)
/-- its name, PARAMS, sort and where its heads begin -/
def TYb (K L : Int → Int) (B : Int) (s : yS) (D h x y t : Int) (LF : List Int) (st : Bool) : Prop := (s.2.1 234 D.toNat).toInt = B + (t + 1) ∧ (s.2.1 236 D.toNat).toInt = (LF.length : Int) ∧ LF.length ≤ 6 ∧ YA K L B s 237 238 (6 * D) x y LF ∧ (s.2.1 235 D.toNat).toInt = (if st = true then 1 else 0) ∧ (s.2.1 242 D.toNat).toInt = h
/-- what stands in { } -/
def TYm (K L : Int → Int) (B : Int) (s : yS) (D h x y : Int) (st : Bool) (LM : List Int) : Prop := LM.length ≤ 6 ∧ (st = true → (s.2.1 239 D.toNat).toInt = (LM.length : Int) ∧ (s.2.1 243 D.toNat).toInt = 0 ∧ YA K L B s 240 241 (6 * D) x y LM) ∧ (st = false → (s.2.1 239 D.toNat).toInt = 0 ∧ (s.2.1 243 D.toNat).toInt = (LM.length : Int) ∧ ∀ (i : Nat) (q : Int), LM[i]? = some q → HDr K L B s (h + i) x y q)
/-- the type whose declaration begins at token t -/
def TYr (K L : Int → Int) (B : Int) (s : yS) (D h x y t : Int) : Prop := TYb K L B s D h x y t (tFo K L false (0, t)) (tSt K L false (0, t)) ∧ TYm K L B s D h x y (tSt K L false (0, t)) (tMe K L false (0, t))
section RTY
variable {d : Nat} {K L : Int → Int} {B n N N' x y : Int} {s s' s'' t : yS} {σ ρ τ : RSt} {a1 v : Int32} {f D h e b : Int} {LF LM Ls : List Int} {W : Nat → Nat → Prop} {st : Bool}
theorem W180_no : ∀ p i, W180 D h e b p i → noR p := fun p i w => by
  unfold W180 at w
  unfold noR nRe nRw
  omega
theorem noR_t {p : Nat} (hp : 233 ≤ p) : ¬ p = 228 ∧ ¬ nRe p := by
  unfold nRe nRw
  omega
theorem GFx_rd (g : GFx N W s s') {p i : Nat} (hp : 233 ≤ p) (hw : ¬ W p i) : s'.2.1 p i = s.2.1 p i := g.2.2.1 p i (noR_t hp).1 (Or.inl (noR_t hp).2) hw
theorem TYb_fr (hW : ∀ p i, W p i → noR p) (hD : 0 ≤ D) (g : GFx N W s s') (hy : y ≤ N) (h1 : ∀ p i : Nat, (((p = 234 ∨ p = 235 ∨ p = 236 ∨ p = 242) ∧ (i : Int) = D) ∨ ((p = 237 ∨ p = 238) ∧ 6 * D ≤ (i : Int) ∧ (i : Int) < 6 * D + 6)) → ¬ W p i) (k : TYb K L B s D h x y f LF st) : TYb K L B s' D h x y f LF st := by
  obtain ⟨k1, k2, k3, k4, k5, k6⟩ := k
  refine ⟨?_, ?_, k3, YA_fr hW g hy (noR_t (by omega)) (noR_t (by omega)) (fun i hi => ⟨h1 _ _ (Or.inr ⟨by omega, by omega, by omega⟩), h1 _ _ (Or.inr ⟨by omega, by omega, by omega⟩)⟩) k4, ?_, ?_⟩
  · rw [GFx_rd g (by omega) (h1 _ _ (Or.inl ⟨by omega, by omega⟩))]
    exact k1
  · rw [GFx_rd g (by omega) (h1 _ _ (Or.inl ⟨by omega, by omega⟩))]
    exact k2
  · rw [GFx_rd g (by omega) (h1 _ _ (Or.inl ⟨by omega, by omega⟩))]
    exact k5
  · rw [GFx_rd g (by omega) (h1 _ _ (Or.inl ⟨by omega, by omega⟩))]
    exact k6
theorem TYm_fr (hW : ∀ p i, W p i → noR p) (hD : 0 ≤ D) (hh : 0 ≤ h) (g : GFx N W s s') (hy : y ≤ N) (h1 : ∀ p i : Nat, (((p = 239 ∨ p = 243) ∧ (i : Int) = D) ∨ ((p = 240 ∨ p = 241) ∧ 6 * D ≤ (i : Int) ∧ (i : Int) < 6 * D + 6)) → ¬ W p i) (h2 : st = false → ∀ k : Int, h ≤ k → k < h + (LM.length : Int) → ∀ p i, W183 k p i → ¬ W p i) (k : TYm K L B s D h x y st LM) : TYm K L B s' D h x y st LM := by
  obtain ⟨k1, k2, k3⟩ := k
  refine ⟨k1, fun hs => ?_, fun hs => ?_⟩
  · obtain ⟨g1, g2, g3⟩ := k2 hs
    refine ⟨?_, ?_, YA_fr hW g hy (noR_t (by omega)) (noR_t (by omega)) (fun i hi => ⟨h1 _ _ (Or.inr ⟨by omega, by omega, by omega⟩), h1 _ _ (Or.inr ⟨by omega, by omega, by omega⟩)⟩) g3⟩
    · rw [GFx_rd g (by omega) (h1 _ _ (Or.inl ⟨by omega, by omega⟩))]
      exact g1
    · rw [GFx_rd g (by omega) (h1 _ _ (Or.inl ⟨by omega, by omega⟩))]
      exact g2
  · obtain ⟨g1, g2, g3⟩ := k3 hs
    refine ⟨?_, ?_, fun i q hq => ?_⟩
    · rw [GFx_rd g (by omega) (h1 _ _ (Or.inl ⟨by omega, by omega⟩))]
      exact g1
    · rw [GFx_rd g (by omega) (h1 _ _ (Or.inl ⟨by omega, by omega⟩))]
      exact g2
    · have hi : i < LM.length := by
        rcases Nat.lt_or_ge i LM.length with h | h
        · exact h
        · rw [List.getElem?_eq_none h] at hq
          cases hq
      exact HDr_fr hW (by omega) g hy (h2 hs (h + i) (by omega) (by omega)) (g3 i q hq)
theorem TYb_wi {x' y' : Int} (hx : x' ≤ x) (hy : y ≤ y') (k : TYb K L B s D h x y f LF st) : TYb K L B s D h x' y' f LF st := ⟨k.1, k.2.1, k.2.2.1, YA_wi hx hy k.2.2.2.1, k.2.2.2.2⟩
theorem TYm_wi {x' y' : Int} (hx : x' ≤ x) (hy : y ≤ y') (k : TYm K L B s D h x y st LM) : TYm K L B s D h x' y' st LM := ⟨k.1, fun w => ⟨(k.2.1 w).1, (k.2.1 w).2.1, YA_wi hx hy (k.2.1 w).2.2⟩, fun w => ⟨(k.2.2 w).1, (k.2.2 w).2.1, fun i q hq => HDr_wi hx hy ((k.2.2 w).2.2 i q hq)⟩⟩
theorem ef_e : e_f K L false σ = e_k K L 1 σ := by
  unfold e_f e_k
  by_cases h0 : σ.1 = 0
  · rw [if_pos h0, if_pos h0]
    by_cases h1 : K σ.2 = 1
    · rw [if_pos h1, if_pos h1, if_neg (by decide)]
    · rw [if_neg h1, if_neg h1]
  · rw [if_neg h0, if_neg h0]
theorem ms_t : ¬ (m_s K L true σ).1 = 0 := fun w => by
  unfold m_s at w
  exact nf_t (ek_0 w).1
theorem mi_t : ¬ (m_i K L true σ).1 = 0 := fun w => by
  unfold m_i at w
  exact ef_t (hd_fw (ek_0 w).1).1
/-- one more of what stands in { } -/
theorem mb_st {k : Nat} {g : Bool → RSt → RSt} {LL L0 : List Int} {R : RSt} (hg : ∀ σ, ¬ (g true σ).1 = 0) (hk : k ≤ 6) (h0 : τ.1 = 0) (h1 : ¬ K τ.2 = 125) (hR : p_mb K g (7 - k) τ = R) (hL : LL = L0 ++ l_mb K g (7 - k) τ) : let ρ := g (decide (k = 6)) τ
    (¬ ρ.1 = 0 → R = ρ) ∧ (ρ.1 = 0 → k < 6 ∧ p_mb K g (7 - (k + 1)) ρ = R ∧ LL = (L0 ++ [τ.2]) ++ l_mb K g (7 - (k + 1)) ρ) := by
  intro ρ
  have e : 7 - k = (6 - k) + 1 := by omega
  have hb : decide (6 - k = 0) = decide (k = 6) := by
    by_cases h : k = 6
    · rw [decide_eq_true h, decide_eq_true (by omega)]
    · rw [decide_eq_false h, decide_eq_false (by omega)]
  rw [e, pmb_s, hb, if_pos ⟨h0, h1⟩] at hR
  rw [e, lmb_s, hb, if_pos ⟨h0, h1⟩] at hL
  change p_mb K g (6 - k) ρ = R at hR
  change LL = L0 ++ τ.2 :: l_mb K g (6 - k) ρ at hL
  refine ⟨fun hf => ?_, fun hf => ?_⟩
  · rw [pmb_f hf] at hR
    exact hR.symm
  · have hk6 : k < 6 := by
      rcases Nat.lt_or_ge k 6 with h | h
      · exact h
      · exfalso
        have : ρ = g true τ := by
          show g (decide (k = 6)) τ = _
          rw [decide_eq_true (by omega)]
        rw [this] at hf
        exact hg _ hf
    rw [show 7 - (k + 1) = 6 - k by omega]
    exact ⟨hk6, hR, by rw [hL]; simp⟩
/-! which rows -/
theorem W183_lo {k : Int} {p i : Nat} (w : W183 k p i) : 244 ≤ p ∧ p ≤ 251 := by
  unfold W183 at w
  omega
theorem W182_lo {k : Int} {p i : Nat} (w : W182 k p i) : 239 ≤ p ∧ p ≤ 241 := by
  unfold W182 at w
  omega
theorem W183_ne {k k' : Int} {p i : Nat} (hk : k < k') (w : W183 k p i) (w' : W183 k' p i) : False := by
  unfold W183 at w w'
  rcases w with ⟨a1, a2⟩ | ⟨a1, a2, a3⟩
  · rcases w' with ⟨b1, b2⟩ | ⟨b1, b2, b3⟩
    · omega
    · omega
  · rcases w' with ⟨b1, b2⟩ | ⟨b1, b2, b3⟩
    · omega
    · omega
theorem W183_W180 {D h e b k : Int} {p i : Nat} (hk : h ≤ k) (w : W183 k p i) : W180 D h e b p i := by
  unfold W183 at w
  rcases w with ⟨a1, a2⟩ | ⟨a1, a2, a3⟩
  · exact Or.inr (Or.inr (Or.inl ⟨a1, by omega⟩))
  · exact Or.inr (Or.inr (Or.inr (Or.inl ⟨a1, by omega⟩)))
theorem W182_W180 {D h e b : Int} {p i : Nat} (w : W182 D p i) : W180 D h e b p i := by
  unfold W182 at w
  rcases w with ⟨a1, a2⟩ | ⟨a1, a2, a3⟩
  · exact Or.inl ⟨by omega, a2⟩
  · exact Or.inr (Or.inl ⟨by omega, a2, a3⟩)
/-- the row of one more head, and its count -/
def W8h (D k : Int) (p i : Nat) : Prop := W183 k p i ∨ (p = 243 ∧ (i : Int) = D)
theorem W8h_no {D k : Int} : ∀ p i : Nat, W8h D k p i → noR p := fun p i w => by
  rcases w with w | w
  · exact W183_no p i w
  · unfold noR nRe nRw
    omega
theorem W8h_W180 {D h e b k : Int} (hk : h ≤ k) : ∀ p i : Nat, W8h D k p i → W180 D h e b p i := fun p i w => by
  rcases w with w | w
  · exact W183_W180 hk w
  · exact Or.inl ⟨by omega, w.2⟩
theorem W8h_lo {D k : Int} {p i : Nat} (w : W8h D k p i) : 243 ≤ p ∧ p ≤ 251 := by
  rcases w with w | w
  · have := W183_lo w
    omega
  · omega
theorem W8h_3 {D k : Int} {p i : Nat} (w : W8h D k p i) : p = 243 ∨ 244 ≤ p := by
  have := W8h_lo w
  omega
/-- what a declaration's end writes -/
def W8e (e b : Int) (p i : Nat) : Prop := (p = 262 ∧ (i : Int) = e) ∨ ((p = 263 ∨ p = 233) ∧ (i : Int) = b)
theorem W8e_no {e b : Int} : ∀ p i : Nat, W8e e b p i → noR p := fun p i w => by
  unfold W8e at w
  unfold noR nRe nRw
  omega
theorem W8e_W180 {D h e b : Int} : ∀ p i : Nat, W8e e b p i → W180 D h e b p i := fun p i w => by
  rcases w with w | w
  · exact Or.inr (Or.inr (Or.inr (Or.inr (Or.inl w))))
  · exact Or.inr (Or.inr (Or.inr (Or.inr (Or.inr w))))
theorem W8e_lo {e b : Int} {p i : Nat} (w : W8e e b p i) : p = 262 ∨ p = 263 ∨ p = 233 := by
  unfold W8e at w
  omega
/-- what stands as the loop over { } begins again -/
def TLp (K L : Int → Int) (B n D h e b : Int) (s : yS) (σ R : RSt) (LF LM : List Int) (st : Bool) (t : yS) : Prop := ∃ τ : RSt, RTk K L B n t ∧ RQr B n τ t ∧ GFx (s.1 26).toInt (W180 D h e b) s t ∧ (¬ τ.1 = 0 → R = τ) ∧ (t.2.1 235 D.toNat).toInt = (if st = true then 1 else 0) ∧ (t.2.1 262 = s.2.1 262 ∧ t.2.1 263 = s.2.1 263 ∧ t.2.1 233 = s.2.1 233) ∧ (τ.1 = 0 → TYb K L B t D h (s.1 26).toInt (t.1 26).toInt σ.2 LF st ∧ ∃ L0 : List Int, TYm K L B t D h (s.1 26).toInt (t.1 26).toInt st L0 ∧ (t.1 42).toInt = h + (if st = true then 0 else (L0.length : Int)) ∧ p_mb K (if st = true then m_s K L else m_i K L) (7 - L0.length) τ = R ∧ LM = L0 ++ l_mb K (if st = true then m_s K L else m_i K L) (7 - L0.length) τ)
end RTY
