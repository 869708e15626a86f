/-! ===== the reference reads names with TYPES ===== -/
/-- what the reading of a declaration may write: nodes from N on, and what W tells -/
def GFx (N : Int) (W : Nat → Nat → Prop) (s s' : yS) : Prop := (∀ k, ¬ k = 7 → ¬ k = 8 → ¬ k = 26 → ¬ k = 27 → ¬ k = 28 → ¬ k = 42 → s'.1 k = s.1 k) ∧ s'.2.2 = s.2.2 ∧ (∀ p i : Nat, ¬ p = 228 → (¬ nRe p ∨ (i : Int) < N) → ¬ W p i → s'.2.1 p i = s.2.1 p i) ∧ N ≤ (s'.1 26).toInt
/-- names (tokens) and TYPES (roots of trees) in two rows -/
def YA (K L : Int → Int) (B : Int) (s : yS) (p q : Nat) (f x y : Int) (Ls : List Int) : Prop := ∀ (i : Nat) (t : Int), Ls[i]? = some t → (s.2.1 p (f + i).toNat).toInt = B + t ∧ ∃ a b, x ≤ a ∧ b ≤ y ∧ (s.2.1 q (f + i).toNat).toInt = a ∧ yT K L B s 10 a b (t + 1)
def noR (p : Nat) : Prop := ¬ nRe p ∧ ¬ p = 228 ∧ ¬ p = 215 ∧ ¬ p = 216 ∧ ¬ p = 217
section RNM
variable {d : Nat} {K L : Int → Int} {B n N N' x y : Int} {s s' s'' t : yS} {σ ρ τ : RSt} {a1 v : Int32} {W W' : Nat → Nat → Prop} {p q : Nat} {f : Int} {Ls : List Int}
theorem GFx_E (h : EFx N s s') : GFx N W s s' := ⟨fun k h1 h2 h3 h4 h5 _ => h.1 k h1 h2 h3 h4 h5, h.2.1, fun p i w0 w _ => h.2.2.1 p i w0 w, h.2.2.2⟩
theorem GFx_tr (hN : N ≤ N') (h : GFx N W s s') (g : GFx N' W s' s'') : GFx N W s s'' := ⟨fun k h1 h2 h3 h4 h5 h6 => (g.1 k h1 h2 h3 h4 h5 h6).trans (h.1 k h1 h2 h3 h4 h5 h6), g.2.1.trans h.2.1, fun p i w0 w w1 => (g.2.2.1 p i w0 (by rcases w with w | w; exact Or.inl w; exact Or.inr (by omega)) w1).trans (h.2.2.1 p i w0 w w1), by have := g.2.2.2; omega⟩
theorem GFx_mo (hw : ∀ p i, W p i → W' p i) (h : GFx N W s s') : GFx N W' s s' := ⟨h.1, h.2.1, fun p i w0 w w1 => h.2.2.1 p i w0 w (fun q => w1 (hw p i q)), h.2.2.2⟩
theorem GFx_78 (h : R78 s s') (hN : N ≤ (s.1 26).toInt) : GFx N W s s' := GFx_E (EFx_78 h hN)
theorem GFx_sf {k : Nat} (hk : k = 7 ∨ k = 8 ∨ k = 27 ∨ k = 28 ∨ k = 42) (hN : N ≤ (s.1 26).toInt) : GFx N W s (sf s k v) := ⟨fun q h1 h2 h3 h4 h5 h6 => by rw [sfr_1, if_neg (by omega)], rfl, fun p i _ _ _ => rfl, by rw [sfr_1, if_neg (by omega)]; exact hN⟩
theorem GFx_sa {p i : Nat} (hw : W p i) (hN : N ≤ (s.1 26).toInt) : GFx N W s (sa s p i v) := ⟨fun k _ _ _ _ _ _ => rfl, rfl, fun q j w0 w w1 => by
  rw [sa_21, if_neg (fun e => w1 (by rw [e.1, e.2]; exact hw))], hN⟩
theorem GFx_rf (hN : N ≤ (s.1 26).toInt) : GFx N W s s := ⟨fun _ _ _ _ _ _ _ => rfl, rfl, fun _ _ _ _ _ => rfl, hN⟩
theorem GFx_tk (hW : ∀ p i, W p i → noR p) (h : GFx N W s s') (g : RTk K L B n s) : RTk K L B n s' := by
  refine RTk_eq (funext fun i => ?_) (funext fun i => ?_) (funext fun i => ?_) g
  · exact h.2.2.1 215 i (by decide) (Or.inl (by unfold nRe nRw; omega)) (fun w => (hW _ _ w).2.2.1 rfl)
  · exact h.2.2.1 216 i (by decide) (Or.inl (by unfold nRe nRw; omega)) (fun w => (hW _ _ w).2.2.2.1 rfl)
  · exact h.2.2.1 217 i (by decide) (Or.inl (by unfold nRe nRw; omega)) (fun w => (hW _ _ w).2.2.2.2 rfl)
theorem RTk_sa {p i : Nat} (hp : ¬ p = 215 ∧ ¬ p = 216 ∧ ¬ p = 217) (g : RTk K L B n s) : RTk K L B n (sa s p i v) := RTk_eq (funext fun j => by rw [sa_21, if_neg (by omega)]) (funext fun j => by rw [sa_21, if_neg (by omega)]) (funext fun j => by rw [sa_21, if_neg (by omega)]) g
theorem RQr_1 (h : s'.1 7 = s.1 7) (h8 : s'.1 8 = s.1 8) (g : RQr B n σ s) : RQr B n σ s' := ⟨by rw [h8]; exact g.1, fun w => by rw [h]; exact g.2 w⟩
/-- trees stay: the nodes' rows are the same ahead of y -/
theorem GFx_Req (hW : ∀ p i, W p i → noR p) (h : GFx N W s s') (hy : y ≤ N) (hx : 0 ≤ x) : Req x y s s' := by
  refine ⟨fun p i hp h1 h2 => h.2.2.1 p _ (by omega) (Or.inr (by omega)) (fun w => (hW _ _ w).1 (by unfold nRe nRw; omega)), fun i h1 h2 => h.2.2.1 225 _ (by decide) (Or.inr (by omega)) (fun w => (hW _ _ w).1 (by unfold nRe nRw; omega))⟩
theorem yT_x (h : ∃ m, yT K L B s m x y f) : 0 ≤ x ∧ x < y := by
  obtain ⟨m, h⟩ := h
  cases m with
  | zero => exact absurd h id
  | succ m => exact h.1
theorem GFx_yT {m : Nat} (hW : ∀ p i, W p i → noR p) (h : GFx N W s s') (hy : y ≤ N) (g : yT K L B s m x y f) : yT K L B s' m x y f := yT_eq m _ _ _ g (GFx_Req hW h hy (yT_x ⟨m, g⟩).1)
theorem YA_fr (hW : ∀ p i, W p i → noR p) (h : GFx N W s s') (hy : y ≤ N) (hp : ¬ p = 228 ∧ ¬ nRe p) (hq : ¬ q = 228 ∧ ¬ nRe q) (h1 : ∀ i : Nat, i < Ls.length → ¬ W p (f + i).toNat ∧ ¬ W q (f + i).toNat) (g : YA K L B s p q f x y Ls) : YA K L B s' p q f x y Ls := fun i t ht => by
  obtain ⟨g1, a, b, g2, g3, g4, g5⟩ := g i t ht
  have hi : i < Ls.length := by
    rcases Nat.lt_or_ge i Ls.length with h | h
    · exact h
    · rw [List.getElem?_eq_none h] at ht
      cases ht
  obtain ⟨w1, w2⟩ := h1 i hi
  exact ⟨by rw [h.2.2.1 p _ hp.1 (Or.inl hp.2) w1]; exact g1, a, b, g2, g3, by rw [h.2.2.1 q _ hq.1 (Or.inl hq.2) w2]; exact g4, GFx_yT hW h (by omega) g5⟩
theorem YA_wi {x' y' : Int} (hx : x' ≤ x) (hy : y ≤ y') (g : YA K L B s p q f x y Ls) : YA K L B s p q f x' y' Ls := fun i t ht => by
  obtain ⟨g1, a, b, g2, g3, g4, g5⟩ := g i t ht
  exact ⟨g1, a, b, by omega, by omega, g4, g5⟩
theorem YA_nil : YA K L B s p q f x y [] := fun i t ht => by cases ht
theorem YA_add {t0 a b : Int} (g : YA K L B s p q f x y Ls) (h1 : (s.2.1 p (f + Ls.length).toNat).toInt = B + t0) (h2 : (s.2.1 q (f + Ls.length).toNat).toInt = a) (h3 : x ≤ a) (h4 : b ≤ y) (h5 : yT K L B s 10 a b (t0 + 1)) : YA K L B s p q f x y (Ls ++ [t0]) := fun i t ht => by
  by_cases hi : i < Ls.length
  · rw [List.getElem?_append_left hi] at ht
    exact g i t ht
  · rw [List.getElem?_append_right (by omega)] at ht
    have e : i - Ls.length = 0 := by
      rcases Nat.eq_zero_or_pos (i - Ls.length) with h | h
      · exact h
      · rw [List.getElem?_eq_none (by simp only [List.length_cons, List.length_nil]; omega)] at ht
        cases ht
    rw [e] at ht
    have : t0 = t := by simpa using ht
    rw [← this, show i = Ls.length by omega]
    exact ⟨h1, a, b, h3, h4, h2, h5⟩
/-- one too many is said ahead of the name -/
def w_5 (K L : Int → Int) (b : Bool) (σ : RSt) : RSt := if b = true ∧ t_k K 1 σ = true then (5 + 16 * L σ.2, σ.2) else σ
theorem w5_e {b : Bool} : e_k K L 1 (w_5 K L b σ) = e_f K L b σ := by
  unfold w_5 e_k e_f t_k
  by_cases h0 : σ.1 = 0
  · by_cases h1 : K σ.2 = 1
    · cases b with
      | false => simp [h0, h1]
      | true =>
        have : ¬ 5 + 16 * L σ.2 = 0 := by omega
        simp [h0, h1, this]
    · simp [h0, h1]
  · simp [h0]
theorem w5_0 {b : Bool} (h : (w_5 K L b σ).1 = 0) : w_5 K L b σ = σ := by
  unfold w_5 at h ⊢
  by_cases hc : b = true ∧ t_k K 1 σ = true
  · rw [if_pos hc] at h
    dsimp only at h
    omega
  · rw [if_neg hc]
/-- a name and its TYPE -/
theorem x_nm {Φ : Int32 → Int32 → yS → Prop} (hP : TXp K L n) (hT : RTk K L B n t) (hρ : RQr B n ρ t) (h : ∀ (x3 y : Int32) (s' : yS), RTk K L B n s' → RQr B n (p_t K L 10 false (e_k K L 1 ρ)) s' → EFx (t.1 26).toInt t s' → ((p_t K L 10 false (e_k K L 1 ρ)).1 = 0 → x3.toInt = B + ρ.2 ∧ y.toInt = (t.1 26).toInt ∧ yT K L B s' 10 (t.1 26).toInt (s'.1 26).toInt (ρ.2 + 1)) → Φ x3 y s') : Par d 170 [.ref 213] t (fun v2 s1 => ∃ x3, v2 = some (.int x3) ∧ (∀ s4, s4 = sf s1 27 0 → (¬ ((s4.1 8).toInt = 0) → Φ x3 (-1) s4) ∧ ((s4.1 8).toInt = 0 → Par d 173 [.ref 213] s4 (fun v6 s5 => ∃ x7, v6 = some (.int x7) ∧ Φ x3 x7 s5)))) := by
  refine Par.imp (x_170 hP hT hρ) ?_
  rintro v2 s1 ⟨x3, rfl, p1, p2, p3⟩
  refine ⟨x3, rfl, fun s4 hs4 => ?_⟩
  have e26 : s4.1 26 = t.1 26 := by rw [hs4, sfr_1, if_neg (by decide)]; exact p1.2 26 (by decide) (by decide)
  have e8 : s4.1 8 = s1.1 8 := by rw [hs4, sfr_1, if_neg (by decide)]
  have T4 : RTk K L B n s4 := by rw [hs4]; exact RTk_eq (s := s1) rfl rfl rfl (RTk_78 p1 hT)
  have Q4 : RQr B n (e_k K L 1 ρ) s4 := RQr_1 (by rw [hs4, sfr_1, if_neg (by decide)]) e8 p2
  have F4 : EFx (t.1 26).toInt t s4 := EFx_tr (Int.le_refl _) (EFx_78 p1 (Int.le_refl _)) (by rw [hs4]; exact EFx_sf (Or.inr (Or.inr (Or.inl rfl))) (by rw [p1.2 26 (by decide) (by decide)]; exact Int.le_refl _))
  refine ⟨fun w => ?_, fun w => ?_⟩
  · have hf : ¬ (e_k K L 1 ρ).1 = 0 := by rw [← Q4.1]; exact w
    refine h x3 (-1) s4 T4 (by rw [pt_f 10 hf]; exact Q4) F4 (fun w2 => ?_)
    rw [pt_f 10 hf] at w2
    exact absurd w2 hf
  · have hz : (e_k K L 1 ρ).1 = 0 := by rw [← Q4.1]; exact w
    obtain ⟨r1, r2, r3⟩ := ek_0 hz
    refine Par.imp ((x_17 hP d).1 10 _ s4 (by omega) ⟨T4, Q4, by rw [hs4, sfr_1, if_pos rfl]; decide⟩) ?_
    rintro v6 s5 ⟨x7, rfl, q1, q2, q3, q4, q5, q6⟩
    rw [e26] at q1 q4 q6
    refine ⟨x7, rfl, h x3 x7 s5 q5.1 q5.2.1 (EFx_tr (Int.le_refl _) F4 (EFx_T q4)) (fun hf => ?_)⟩
    have := (q6 hf).1
    rw [r3] at this
    exact ⟨p3 r1, q1, this⟩
end RNM
