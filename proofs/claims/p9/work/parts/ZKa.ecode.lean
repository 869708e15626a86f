/-! ===== the reference: what typing leaves in the nodes of an E: its code ===== -/
section ZKA
variable (K L W ar kd : Int → Int) (TN Ls : List Int) (B β0 β1 : Int) (S : Scp) (A0 A : Int) (s : yS)
/-- a TYPE in an E, resolved: from A0 on, ahead of A -/
def cTn (z t : Int) : Prop := RSe s A z ((wdC K L W ar TN S.1 S.2.1 t).map (rhE ar β0 β1)) ∧ A0 ≤ (s.2.1 231 z.toNat).toInt
/-- what stands ahead of all points -/
def cHd (x t : Int) : Prop := if K (t + 1) = 123 ∨ K (t + 1) = 91 then cTn K L W ar TN β0 β1 S A0 A s (x + 1) t else (s.2.1 230 x.toNat).toInt = fIx (wEq W t) 0 S.2.2.2.1
/-- the TYPES told for a METHOD -/
def cTs (e y a : Int) : Prop := ∃ zt : Nat → Int, (s.2.1 229 e.toNat).toInt = (if 0 < exN K L (a + 1) then zt 0 else -1) ∧ ∀ j, j < exN K L (a + 1) → (e < zt j ∧ zt j < y) ∧ cTn K L W ar TN β0 β1 S A0 A s (zt j) (uS (nxT K L) (a + 3) j) ∧ (s.2.1 225 (zt j).toNat).toInt = if j + 1 < exN K L (a + 1) then zt (j + 1) else -1
/-- the point at a, behind an E whose TYPE begins with c -/
def cPt (e y a c : Int) : Prop := if K (a + 1) = 40 then cTn K L W ar TN β0 β1 S A0 A s (e + 1) (a + 2) else if K (a + 2) = 91 ∨ K (a + 2) = 40 then cTs K L W ar TN β0 β1 S A0 A s e y a else (s.2.1 226 e.toNat).toInt = fIx (wEq W (a + 1)) 0 (fNm K L Ls c)
/-- k points -/
def ePc (m : Nat) (f : Int → Int → Int → Int → Prop) (ev : Int → Int × List Int) (x t : Int) : Nat → Int → Int → Int → Prop
  | 0, y, a, e => (e = x ∧ eHd K L B s m f x y t ∧ a = aHd K L t) ∧ cHd K L W ar TN β0 β1 S A0 A s x t
  | k + 1, y, a, e => ∃ y0 a0 e0, ePc m f ev x t k y0 a0 e0 ∧ K a0 = 46 ∧ e = y0 ∧ ePt K L B s m f e0 e y a0 ∧ a = aPt K L a0 ∧ cPt K L W ar TN Ls β0 β1 S A0 A s e y a0 ((exS K L W ar kd TN Ls S ev k (aHd K L t) (exH K L W ar kd TN Ls S ev t)).2.headD 0)
/-- the tree of the E at token t, typed -/
def eC : Nat → Int → Int → Int → Int → Prop
  | 0, _, _, _, _ => False
  | m + 1, x, y, t, e => ∃ k, k ≤ 20 ∧ ePc K L W ar kd TN Ls B β0 β1 S A0 A s m (eC m) (exE6 K L W ar kd TN Ls S m) x t k y (nxE K L t) e
end ZKA
/-- the nodes from x on, ahead of y, and what they were resolved to stay -/
def CFq (x y A0 A : Int) (s s' : yS) : Prop := (∀ (q : Nat) (j : Int), 221 ≤ q → q ≤ 232 → x ≤ j → j < y → s'.2.1 q j.toNat = s.2.1 q j.toNat) ∧ ∀ j : Nat, A0 ≤ (j : Int) → (j : Int) < A → s'.2.1 264 j = s.2.1 264 j
section ZKB
variable {K L W ar kd : Int → Int} {TN Ls : List Int} {B β0 β1 A0 A A' x y x' y' t e a c z : Int} {S : Scp} {s s' : yS} {D : Int → Prop} {m : Nat} {f g : Int → Int → Int → Int → Prop} {ev : Int → Int × List Int}
theorem CFq_m (h : CFq x y A0 A s s') (h1 : x ≤ x') (h2 : y' ≤ y) : CFq x' y' A0 A s s' := ⟨fun q j q1 q2 j1 j2 => h.1 q j q1 q2 (by omega) (by omega), h.2⟩
theorem CFq_e (h : CFq x y A0 A s s') : eRq x y e s s' := ⟨fun p i hp i1 i2 => h.1 p i (by omega) (by omega) i1 i2, fun i i1 i2 _ => h.1 225 i (by decide) (by decide) i1 i2⟩
/-- typing of other nodes -/
theorem CFq_of (h : EF0 D B A0 s s') (g : EFl s s') {p q : Int} (k : NFx p q s s') (hd : y ≤ p ∨ q ≤ x) (hx : 0 ≤ x) (hA : A ≤ (s.1 65).toInt) {A1 : Int} : CFq x y A1 A s s' := by
  refine ⟨fun r j r1 r2 j1 j2 => ?_, fun j _ j2 => g.2.2.1 j (Or.inl (by omega))⟩
  by_cases hr : r = 231 ∨ r = 232 ∨ r = 226 ∨ r = 230
  · exact k r j.toNat hr (by omega)
  · rw [h.2.2.1 r (by unfold rEx; omega)]
theorem CFq_or (h : ∀ q, ¬ rEx q → s'.2.1 q = s.2.1 q) (g : EFl s s') {p q : Int} (k : NFx p q s s') (hd : y ≤ p ∨ q ≤ x) (hx : 0 ≤ x) (hA : A ≤ (s.1 65).toInt) {A1 : Int} : CFq x y A1 A s s' := by
  refine ⟨fun r j r1 r2 j1 j2 => ?_, fun j _ j2 => g.2.2.1 j (Or.inl (by omega))⟩
  by_cases hr : r = 231 ∨ r = 232 ∨ r = 226 ∨ r = 230
  · exact k r j.toNat hr (by omega)
  · rw [h r (by unfold rEx; omega)]
theorem cTn_c (h : CFq x y A0 A s s') (hA : A ≤ A') (h1 : x ≤ z) (h2 : z < y) (g : cTn K L W ar TN β0 β1 S A0 A s z t) : cTn K L W ar TN β0 β1 S A0 A' s' z t := by
  obtain ⟨⟨g0, ⟨g1, g2⟩, g3, g4⟩, g5⟩ := g
  have e1 := h.1 231 z (by decide) (by decide) h1 h2
  have e2 := h.1 232 z (by decide) (by decide) h1 h2
  refine ⟨⟨g0, ⟨by rw [e1]; exact g1, by rw [e1]; omega⟩, by rw [e2]; exact g3, ?_⟩, by rw [e1]; exact g5⟩
  rw [e1]
  intro i c hc
  have hi := (List.getElem?_eq_some_iff.mp hc).1
  rw [← g4 i c hc, KI_p (by omega), KI_p (by omega), h.2 _ (by omega) (by omega)]
theorem cHd_c (h : CFq x y A0 A s s') (hA : A ≤ A') (hE : eHd K L B s m f x y t) (g : cHd K L W ar TN β0 β1 S A0 A s x t) : cHd K L W ar TN β0 β1 S A0 A' s' x t := by
  unfold cHd at g ⊢
  obtain ⟨h1, -, h3⟩ := hE
  by_cases hc : K (t + 1) = 123 ∨ K (t + 1) = 91
  · rw [if_pos hc] at g h3 ⊢
    obtain ⟨-, -, y1, k1, k2, -⟩ := h3
    have hx1 : x + 1 < y1 := by
      cases m with
      | zero => exact False.elim k2
      | succ m => exact k2.1.2
    exact cTn_c h hA (by omega) (by omega) g
  · rw [if_neg hc] at g ⊢
    rw [h.1 230 x (by decide) (by decide) (Int.le_refl _) h1.2]
    exact g
theorem cTs_c (h : CFq e y A0 A s s') (hA : A ≤ A') (he : e < y) {y' : Int} (hy : y ≤ y') (g : cTs K L W ar TN β0 β1 S A0 A s e y a) : cTs K L W ar TN β0 β1 S A0 A' s' e y' a := by
  obtain ⟨zt, k1, k2⟩ := g
  refine ⟨zt, by rw [h.1 229 e (by decide) (by decide) (Int.le_refl _) he]; exact k1, fun j hj => ?_⟩
  obtain ⟨q1, q2, q3⟩ := k2 j hj
  exact ⟨by omega, cTn_c h hA (by omega) q1.2 q2, by rw [h.1 225 (zt j) (by decide) (by decide) (by omega) q1.2]; exact q3⟩
theorem cPt_c (h : CFq e y A0 A s s') (hA : A ≤ A') {e0 : Int} (hE : ePt K L B s m f e0 e y a) (g : cPt K L W ar TN Ls β0 β1 S A0 A s e y a c) : cPt K L W ar TN Ls β0 β1 S A0 A' s' e y a c := by
  unfold cPt at g ⊢
  obtain ⟨h1, -, -, h4⟩ := hE
  by_cases h40 : K (a + 1) = 40
  · rw [if_pos h40] at g h4 ⊢
    have hx1 : e + 1 < y := by
      have k2 := h4.2.2
      cases m with
      | zero => exact False.elim k2
      | succ m => exact k2.1.2
    exact cTn_c h hA (by omega) hx1 g
  · rw [if_neg h40] at g ⊢
    by_cases hb : K (a + 2) = 91 ∨ K (a + 2) = 40
    · rw [if_pos hb] at g ⊢
      obtain ⟨zt, k1, k2⟩ := g
      refine ⟨zt, by rw [h.1 229 e (by decide) (by decide) (Int.le_refl _) h1.2]; exact k1, fun j hj => ?_⟩
      obtain ⟨q1, q2, q3⟩ := k2 j hj
      exact ⟨q1, cTn_c h hA (by omega) q1.2 q2, by rw [h.1 225 (zt j) (by decide) (by decide) (by omega) q1.2]; exact q3⟩
    · rw [if_neg hb] at g ⊢
      rw [h.1 226 e (by decide) (by decide) (Int.le_refl _) h1.2]
      exact g
theorem eAr_c (h : CFq x y A0 A s s') (hf : ∀ x' y' t e, x ≤ x' → y' ≤ y → f x' y' t e → g x' y' t e) {o c x0 : Int} (k : eAr K L s f o c x0 x y a) (hx : s'.2.1 224 x0.toNat = s.2.1 224 x0.toNat ∧ s'.2.1 226 x0.toNat = s.2.1 226 x0.toNat) : eAr K L s' g o c x0 x y a := by
  unfold eAr at k ⊢
  rw [hx.1, hx.2]
  by_cases hc : K (a + 1) = c
  · rw [if_pos hc] at k ⊢
    exact k
  · rw [if_neg hc] at k ⊢
    obtain ⟨h1, z, u, w, h2, h3, h4, h5, h6⟩ := k
    refine ⟨h1, z, u, w, h2, h3, h4, h5, ?_⟩
    have mo := eCh_mono h6
    refine eCh_eq h6 (fun i hi q => hf _ _ _ _ ?_ ?_ q) (fun i hi => ?_)
    · have := mo 0 i (by omega) (by omega)
      omega
    · have := mo (i + 1) _ (by omega) (Nat.le_refl _)
      omega
    · have a1 := mo 0 i (by omega) (by omega)
      have a2 := mo (i + 1) _ (by omega) (Nat.le_refl _)
      have a3 := (h6.1 i hi).2.2
      exact h.1 225 (w i) (by decide) (by decide) (by omega) (by omega)
theorem eHd_c (h : CFq x y A0 A s s') (hf : ∀ x' y' t e, x ≤ x' → y' ≤ y → f x' y' t e → g x' y' t e) (k : eHd K L B s m f x y t) : eHd K L B s' m g x y t := by
  obtain ⟨h1, h2, h3⟩ := k
  have r : ∀ q, 221 ≤ q → q ≤ 232 → s'.2.1 q x.toNat = s.2.1 q x.toNat := fun q q1 q2 => h.1 q x q1 q2 (Int.le_refl _) h1.2
  refine ⟨h1, by rw [r 227 (by decide) (by decide)]; exact h2, ?_⟩
  rw [r 221 (by decide) (by decide), r 229 (by decide) (by decide), r 222 (by decide) (by decide)]
  by_cases hc : K (t + 1) = 123 ∨ K (t + 1) = 91
  · rw [if_pos hc] at h3 ⊢
    obtain ⟨h4, h5, y1, h6, h7, h8⟩ := h3
    have hx1 : x + 1 < y1 := by
      cases m with
      | zero => exact False.elim h7
      | succ m => exact h7.1.2
    exact ⟨h4, h5, y1, h6, yT_eq m _ _ _ h7 (eRq_Req (e := -1) (CFq_e h) (by omega) h6 (by omega)), eAr_c (CFq_m h (by omega) (Int.le_refl _)) (fun x' y' t e q1 q2 => hf x' y' t e (by omega) q2) h8 ⟨r 224 (by decide) (by decide), r 226 (by decide) (by decide)⟩⟩
  · rw [if_neg hc] at h3 ⊢
    exact h3
theorem ePt_c (h : CFq e y A0 A s s') (hf : ∀ x' y' t e', e ≤ x' → y' ≤ y → f x' y' t e' → g x' y' t e') {e0 : Int} (k : ePt K L B s m f e0 e y a) : ePt K L B s' m g e0 e y a := by
  obtain ⟨h1, h2, h3, h4⟩ := k
  have r : ∀ q, 221 ≤ q → q ≤ 232 → s'.2.1 q e.toNat = s.2.1 q e.toNat := fun q q1 q2 => h.1 q e q1 q2 (Int.le_refl _) h1.2
  refine ⟨h1, by rw [r 227 (by decide) (by decide)]; exact h2, by rw [r 223 (by decide) (by decide)]; exact h3, ?_⟩
  rw [r 221 (by decide) (by decide), r 229 (by decide) (by decide), r 222 (by decide) (by decide), r 230 (by decide) (by decide)]
  by_cases hc : K (a + 1) = 40
  · rw [if_pos hc] at h4 ⊢
    exact ⟨h4.1, h4.2.1, yT_eq m _ _ _ h4.2.2 (eRq_Req (e := -1) (CFq_e h) (by omega) (Int.le_refl _) (by omega))⟩
  · rw [if_neg hc] at h4 ⊢
    refine ⟨h4.1, ?_⟩
    replace h4 := h4.2
    have hx := And.intro (r 224 (by decide) (by decide)) (r 226 (by decide) (by decide))
    by_cases h9 : K (a + 2) = 91
    · rw [if_pos h9] at h4 ⊢
      obtain ⟨h5, h6, h7, y1, h8, h10, h11⟩ := h4
      have hy1 : e + 1 ≤ y1 := by
        obtain ⟨z, u, z1, z2, z3, z4⟩ := h10
        have := yCh_mono z4 0 _ (Nat.zero_le _) (Nat.le_refl _)
        omega
      exact ⟨h5, h6, h7, y1, h8, ych_eq h10 (fun p i hp i1 i2 => h.1 p i (by omega) (by omega) (by omega) (by omega)), eAr_c (CFq_m h (by omega) (Int.le_refl _)) (fun x' y' t e q1 q2 => hf x' y' t e (by omega) q2) h11 hx⟩
    · rw [if_neg h9] at h4 ⊢
      by_cases h40 : K (a + 2) = 40
      · rw [if_pos h40] at h4 ⊢
        obtain ⟨h5, h6, h7, h8⟩ := h4
        exact ⟨h5, h6, h7, eAr_c (CFq_m h (by omega) (Int.le_refl _)) (fun x' y' t e q1 q2 => hf x' y' t e (by omega) q2) h8 hx⟩
      · rw [if_neg h40] at h4 ⊢
        exact h4
theorem ePc_lt : ∀ {k : Nat} {y a e : Int}, ePc K L W ar kd TN Ls B β0 β1 S A0 A s m f ev x t k y a e → x ≤ e ∧ e < y ∧ 0 ≤ x
  | 0, y, a, e, h => by
    obtain ⟨⟨rfl, h1, -⟩, -⟩ := h
    have := h1.1
    omega
  | k + 1, y, a, e, h => by
    obtain ⟨y0, a0, e0, h1, -, rfl, h3, -⟩ := h
    have := ePc_lt h1
    have := h3.1
    omega
theorem ePc_c : ∀ {k : Nat} {y a e : Int}, CFq x y A0 A s s' → A ≤ A' → (∀ x' y' t e', x ≤ x' → y' ≤ y → f x' y' t e' → g x' y' t e') → ePc K L W ar kd TN Ls B β0 β1 S A0 A s m f ev x t k y a e → ePc K L W ar kd TN Ls B β0 β1 S A0 A' s' m g ev x t k y a e
  | 0, y, a, e, h, hA, hf, k => by
    obtain ⟨⟨rfl, h1, h2⟩, h3⟩ := k
    exact ⟨⟨rfl, eHd_c h hf h1, h2⟩, cHd_c h hA h1 h3⟩
  | k + 1, y, a, e, h, hA, hf, q => by
    obtain ⟨y0, a0, e0, h1, h2, rfl, h3, h4, h5⟩ := q
    have l1 := ePc_lt h1
    have l3 := h3.1
    exact ⟨e, a0, e0, ePc_c (CFq_m h (Int.le_refl _) (by omega)) hA (fun x' y' t e' q1 q2 => hf x' y' t e' q1 (by omega)) h1, h2, rfl, ePt_c (CFq_m h (by omega) (Int.le_refl _)) (fun x' y' t e' q1 q2 => hf x' y' t e' (by omega) q2) h3, h4, cPt_c (CFq_m h (by omega) (Int.le_refl _)) hA h3 h5⟩
theorem eC_c : ∀ (m : Nat) {x y t e : Int}, CFq x y A0 A s s' → A ≤ A' → eC K L W ar kd TN Ls B β0 β1 S A0 A s m x y t e → eC K L W ar kd TN Ls B β0 β1 S A0 A' s' m x y t e
  | 0, _, _, _, _, _, _, h => h
  | m + 1, x, y, t, e, h, hA, q => by
    obtain ⟨k, h1, h2⟩ := q
    exact ⟨k, h1, ePc_c h hA (fun x' y' t' e' q1 q2 => eC_c m (CFq_m h q1 q2) hA) h2⟩
/-- what has no E within it -/
theorem ePt_nf {e0 : Int} (h : ePt K L B s m f e0 e y a) (hn : K (a + 1) = 40 ∨ ¬ (K (a + 2) = 91 ∨ K (a + 2) = 40)) : ePt K L B s m g e0 e y a := by
  obtain ⟨h1, h2, h3, h4⟩ := h
  refine ⟨h1, h2, h3, ?_⟩
  by_cases hc : K (a + 1) = 40
  · rw [if_pos hc] at h4 ⊢
    exact h4
  · have hn := hn.resolve_left hc
    rw [if_neg hc, if_neg (fun q => hn (Or.inl q)), if_neg (fun q => hn (Or.inr q))] at h4 ⊢
    exact h4
/-- rows 221 to 232 are untouched by work on TYPES -/
theorem CFq_wf {T w : Int} (h : WFr T w s s') (hT : A ≤ T) : CFq x y A0 A s s' := ⟨fun q j q1 q2 _ _ => h.2.2.1 q _ (Or.inl (by omega)), fun j _ j2 => h.2.2.2.1 j (by omega)⟩
theorem CFq_tr {s'' : yS} (h : CFq x y A0 A s s') (g : CFq x y A0 A s' s'') : CFq x y A0 A s s'' := ⟨fun q j q1 q2 j1 j2 => (g.1 q j q1 q2 j1 j2).trans (h.1 q j q1 q2 j1 j2), fun j j1 j2 => (g.2 j j1 j2).trans (h.2 j j1 j2)⟩
theorem CFq_A (h : CFq x y A0 A s s') (hA : A' ≤ A) : CFq x y A0 A' s s' := ⟨h.1, fun j j1 j2 => h.2 j j1 (by omega)⟩
theorem CFq_rf : CFq x y A0 A s s := ⟨fun _ _ _ _ _ _ => rfl, fun _ _ _ => rfl⟩
theorem CFq_sf {k : Nat} {v : Int32} : CFq x y A0 A s (sf s k v) := ⟨fun _ _ _ _ _ _ => rfl, fun _ _ _ => rfl⟩
theorem CFq_8 (h : R8 s s') : CFq x y A0 A s s' := ⟨fun _ _ _ _ _ _ => by rw [h.1], fun _ _ _ => by rw [h.1]⟩
end ZKB
