/-! ===== the reference: what the typing of E may write; tables and trees stay ===== -/
/-- fields that the typing of E writes -/
def fEx (k : Nat) : Prop := k = 8 ∨ k = 64 ∨ k = 65 ∨ (70 ≤ k ∧ k ≤ 74) ∨ (76 ≤ k ∧ k ≤ 78) ∨ k = 80 ∨ k = 81 ∨ k = 85
/-- rows that stay whole -/
def rEx (q : Nat) : Prop := q = 226 ∨ (230 ≤ q ∧ q ≤ 232) ∨ (264 ≤ q ∧ q ≤ 272)
/-- D: tokens whose nodes may be resolved -/
def EF0 (D : Int → Prop) (B A0 : Int) (s s' : yS) : Prop := (∀ k, ¬ fEx k → s'.1 k = s.1 k) ∧ s'.2.2 = s.2.2 ∧ (∀ q, ¬ rEx q → s'.2.1 q = s.2.1 q) ∧ (∀ j, ¬ (s.2.1 221 j).toInt = 3 → s'.2.1 226 j = s.2.1 226 j) ∧ (∀ j, ¬ (s.2.1 221 j).toInt = 1 → s'.2.1 230 j = s.2.1 230 j) ∧ (∀ q j : Nat, (q = 231 ∨ q = 232) → ¬ D ((s.2.1 222 j).toInt - B) → s'.2.1 q j = s.2.1 q j) ∧ ∀ j : Nat, (j : Int) < A0 → s'.2.1 264 j = s.2.1 264 j
section ZHW
variable {K L W ar kd : Int → Int} {n lo hi B b A0 x y : Int} {TN Ls : List Int} {D : Int → Prop} {s s' s'' : yS}
theorem EF0_rf : EF0 D B A0 s s := ⟨fun _ _ => rfl, rfl, fun _ _ => rfl, fun _ _ => rfl, fun _ _ => rfl, fun _ _ _ _ => rfl, fun _ _ => rfl⟩
theorem EF0_r (h : EF0 D B A0 s s') {q : Nat} (hq : ¬ rEx q) : s'.2.1 q = s.2.1 q := h.2.2.1 q hq
theorem EF0_tr (h : EF0 D B A0 s s') (g : EF0 D B A0 s' s'') : EF0 D B A0 s s'' := by
  have e1 := EF0_r h (q := 221) (by unfold rEx; omega)
  have e2 := EF0_r h (q := 222) (by unfold rEx; omega)
  obtain ⟨h1, h2, h3, h4, h5, h6, h7⟩ := h
  obtain ⟨g1, g2, g3, g4, g5, g6, g7⟩ := g
  rw [e1] at g4 g5
  rw [e2] at g6
  exact ⟨fun k hk => (g1 k hk).trans (h1 k hk), g2.trans h2, fun q hq => (g3 q hq).trans (h3 q hq), fun j hj => (g4 j hj).trans (h4 j hj), fun j hj => (g5 j hj).trans (h5 j hj), fun q j hq hj => (g6 q j hq hj).trans (h6 q j hq hj), fun j hj => (g7 j hj).trans (h7 j hj)⟩
theorem EF0_wf {T e : Int} (h : WFr T e s s') (hT : A0 ≤ T) : EF0 D B A0 s s' := by
  obtain ⟨h1, h2, h3, h4, -, -⟩ := h
  refine ⟨fun k hk => ?_, h2, fun q hq => funext fun j => ?_, fun j _ => h3 226 j (by decide), fun j _ => h3 230 j (by decide), fun q j hq _ => h3 q j (by omega), fun j hj => h4 j (by omega)⟩
  · unfold fEx at hk
    exact h1 k (by omega) (by omega) (by omega) (by omega) (by omega) (by omega) (by omega)
  · unfold rEx at hq
    by_cases hq2 : q < 264
    · exact h3 q j (Or.inl hq2)
    · exact h3 q j (Or.inr (by omega))
theorem yT_e (h : EF0 D B A0 s s') : ∀ (m : Nat) (x y t : Int), yT K L B s m x y t → yT K L B s' m x y t := by
  have r : ∀ q, ¬ rEx q → s'.2.1 q = s.2.1 q := h.2.2.1
  intro m
  induction m with
  | zero => exact fun x y t g => g
  | succ m ih =>
    intro x y t g
    obtain ⟨g1, g2, g3, g4⟩ := g
    refine ⟨g1, by rw [r 221 (by unfold rEx; omega)]; exact g2, by rw [r 222 (by unfold rEx; omega)]; exact g3, ?_⟩
    rw [h.2.2.2.1 _ (by rw [g2]; decide), r 224 (by unfold rEx; omega)]
    by_cases hK : K (t + 1) = 91
    · rw [if_pos hK] at g4 ⊢
      obtain ⟨k1, k2, z, u, z0, zc, u0, k3, k4, k5⟩ := g4
      refine ⟨k1, k2, z, u, z0, zc, u0, fun i hi => ⟨ih _ _ _ (k3 i hi).1, (k3 i hi).2⟩, ?_, ?_⟩
      · rw [r 225 (by unfold rEx; omega)]
        exact k4
      · rw [r 225 (by unfold rEx; omega)]
        exact k5
    · rw [if_neg hK] at g4 ⊢
      exact g4
theorem eAr_e (h : EF0 D B A0 s s') {f f' : Int → Int → Int → Int → Prop} (hf : ∀ x y t e, f x y t e → f' x y t e) {o c x y1 y a : Int} (hx : ¬ (s.2.1 221 x.toNat).toInt = 3) (g : eAr K L s f o c x y1 y a) : eAr K L s' f' o c x y1 y a := by
  have r : ∀ q, ¬ rEx q → s'.2.1 q = s.2.1 q := h.2.2.1
  unfold eAr at g ⊢
  rw [h.2.2.2.1 _ hx, r 224 (by unfold rEx; omega)]
  by_cases hK : K (a + 1) = c
  · rw [if_pos hK] at g ⊢
    exact g
  · rw [if_neg hK] at g ⊢
    obtain ⟨g1, z, u, w, z0, zc, u0, g2, k3, k4, k5⟩ := g
    refine ⟨g1, z, u, w, z0, zc, u0, g2, fun i hi => ⟨hf _ _ _ _ (k3 i hi).1, (k3 i hi).2⟩, ?_, ?_⟩
    · rw [r 225 (by unfold rEx; omega)]
      exact k4
    · rw [r 225 (by unfold rEx; omega)]
      exact k5
theorem eHd_e (h : EF0 D B A0 s s') {f f' : Int → Int → Int → Int → Prop} (hf : ∀ x y t e, f x y t e → f' x y t e) {m : Nat} {x y t : Int} (g : eHd K L B s m f x y t) : eHd K L B s' m f' x y t := by
  have r : ∀ q, ¬ rEx q → s'.2.1 q = s.2.1 q := h.2.2.1
  obtain ⟨g1, g2, g3⟩ := g
  refine ⟨g1, by rw [r 227 (by unfold rEx; omega)]; exact g2, ?_⟩
  rw [r 221 (by unfold rEx; omega), r 222 (by unfold rEx; omega), r 229 (by unfold rEx; omega)]
  by_cases hK : K (t + 1) = 123 ∨ K (t + 1) = 91
  · rw [if_pos hK] at g3 ⊢
    obtain ⟨k1, k2, y1, k3, k4, k5⟩ := g3
    exact ⟨k1, k2, y1, k3, yT_e h _ _ _ _ k4, eAr_e h hf (by rw [k1]; decide) k5⟩
  · rw [if_neg hK] at g3 ⊢
    exact g3
theorem ePt_e (h : EF0 D B A0 s s') {f f' : Int → Int → Int → Int → Prop} (hf : ∀ x y t e, f x y t e → f' x y t e) {m : Nat} {e0 e y a : Int} (g : ePt K L B s m f e0 e y a) : ePt K L B s' m f' e0 e y a := by
  have r : ∀ q, ¬ rEx q → s'.2.1 q = s.2.1 q := h.2.2.1
  obtain ⟨g1, g2, g3, g4⟩ := g
  refine ⟨g1, by rw [r 227 (by unfold rEx; omega)]; exact g2, by rw [r 223 (by unfold rEx; omega)]; exact g3, ?_⟩
  rw [r 221 (by unfold rEx; omega), r 222 (by unfold rEx; omega), r 229 (by unfold rEx; omega)]
  by_cases hK : K (a + 1) = 40
  · rw [if_pos hK] at g4 ⊢
    exact ⟨g4.1, g4.2.1, yT_e h _ _ _ _ g4.2.2⟩
  · rw [if_neg hK] at g4 ⊢
    refine ⟨g4.1, ?_⟩
    replace g4 := g4.2
    by_cases hK2 : K (a + 2) = 91
    · rw [if_pos hK2] at g4 ⊢
      obtain ⟨k1, k2, k3, y1, k4, ⟨z, u, z0, zc, u0, k5, k6, k7⟩, k8⟩ := g4
      refine ⟨k1, k2, ?_, y1, k4, ⟨z, u, z0, zc, u0, fun i hi => ⟨yT_e h _ _ _ _ (k5 i hi).1, (k5 i hi).2⟩, ?_, ?_⟩, eAr_e h hf (by rw [k1]; decide) k8⟩
      · rw [h.2.2.2.2.1 _ (by rw [k1]; decide)]
        exact k3
      · rw [r 225 (by unfold rEx; omega)]
        exact k6
      · rw [r 225 (by unfold rEx; omega)]
        exact k7
    · rw [if_neg hK2] at g4 ⊢
      by_cases hK3 : K (a + 2) = 40
      · rw [if_pos hK3] at g4 ⊢
        obtain ⟨k1, k2, k3, k8⟩ := g4
        refine ⟨k1, k2, ?_, eAr_e h hf (by rw [k1]; decide) k8⟩
        rw [h.2.2.2.2.1 _ (by rw [k1]; decide)]
        exact k3
      · rw [if_neg hK3] at g4 ⊢
        exact g4
theorem ePs_e (h : EF0 D B A0 s s') {f f' : Int → Int → Int → Int → Prop} (hf : ∀ x y t e, f x y t e → f' x y t e) {m : Nat} {x t : Int} : ∀ (k : Nat) (y a e : Int), ePs K L B s m f x t k y a e → ePs K L B s' m f' x t k y a e
  | 0, y, a, e, g => ⟨g.1, eHd_e h hf g.2.1, g.2.2⟩
  | k + 1, y, a, e, g => by
    obtain ⟨y0, a0, e0, g1, g2, g3, g4, g5⟩ := g
    exact ⟨y0, a0, e0, ePs_e h hf k y0 a0 e0 g1, g2, g3, ePt_e h hf g4, g5⟩
theorem eT_e (h : EF0 D B A0 s s') : ∀ (m : Nat) (x y t e : Int), eT K L B s m x y t e → eT K L B s' m x y t e
  | 0, _, _, _, _, g => g
  | m + 1, x, y, t, e, g => by
    obtain ⟨k, hk, g1⟩ := g
    exact ⟨k, hk, ePs_e h (eT_e h m) k y _ e g1⟩
theorem YA_e (h : EF0 D B A0 s s') {p q : Nat} {f x y : Int} {l : List Int} (hp : ¬ rEx p) (hq : ¬ rEx q) (g : YA K L B s p q f x y l) : YA K L B s' p q f x y l := fun i t ht => by
  obtain ⟨g1, a, c, g2, g3, g4, g5⟩ := g i t ht
  rw [EF0_r h hp, EF0_r h hq]
  exact ⟨g1, a, c, g2, g3, g4, yT_e h _ _ _ _ g5⟩
theorem HDr_e (h : EF0 D B A0 s s') {g x y t : Int} (k : HDr K L B s g x y t) : HDr K L B s' g x y t := by
  have r : ∀ q, ¬ rEx q → s'.2.1 q = s.2.1 q := h.2.2.1
  obtain ⟨⟨k1, k2, k3, k4⟩, ⟨k5, k6, k7⟩, a, c, k8, k9, k10, k11⟩ := k
  refine ⟨⟨?_, ?_, k3, YA_e h (by unfold rEx; omega) (by unfold rEx; omega) k4⟩, ⟨?_, k6, YA_e h (by unfold rEx; omega) (by unfold rEx; omega) k7⟩, a, c, k8, k9, ?_, yT_e h _ _ _ _ k11⟩
  · rw [r 244 (by unfold rEx; omega)]
    exact k1
  · rw [r 245 (by unfold rEx; omega)]
    exact k2
  · rw [r 248 (by unfold rEx; omega)]
    exact k5
  · rw [r 251 (by unfold rEx; omega)]
    exact k10
theorem ALr_e (h : EF0 D B A0 s s') {h0 : Int} (g : ALr K L B s b h0 x y Ls) : ALr K L B s' b h0 x y Ls := fun i t ht => by
  have r : ∀ q, ¬ rEx q → s'.2.1 q = s.2.1 q := h.2.2.1
  obtain ⟨gF, gT⟩ := g i t ht
  refine ⟨fun h6 => ?_, fun h6 => ?_⟩
  · obtain ⟨k0, ⟨k1, k2, k3, k4, k5⟩, k6, k7, a, c, e, k8, k9, k10, k11, k12, k13⟩ := gF h6
    refine ⟨?_, ⟨?_, ?_, ?_, k4, ?_⟩, ?_, HDr_e h k7, a, c, e, k8, k9, k10, k11, ?_, eT_e h _ _ _ _ _ k13⟩
    · rw [r 262 (by unfold rEx; omega)]
      exact k0
    · rw [r 253 (by unfold rEx; omega)]
      exact k1
    · rw [r 254 (by unfold rEx; omega)]
      exact k2
    · rw [r 255 (by unfold rEx; omega)]
      exact k3
    · rw [r 256 (by unfold rEx; omega)]
      exact k5
    · rw [r 257 (by unfold rEx; omega)]
      exact k6
    · rw [r 258 (by unfold rEx; omega)]
      exact k12
  · obtain ⟨k0, ⟨k1, k2, k3, k4, k5, k6⟩, k7, k8, k9⟩ := gT h6
    refine ⟨?_, ⟨?_, ?_, k3, YA_e h (by unfold rEx; omega) (by unfold rEx; omega) k4, ?_, ?_⟩, k7, fun hst => ?_, fun hst => ?_⟩
    · rw [r 262 (by unfold rEx; omega)]
      exact k0
    · rw [r 234 (by unfold rEx; omega)]
      exact k1
    · rw [r 236 (by unfold rEx; omega)]
      exact k2
    · rw [r 235 (by unfold rEx; omega)]
      exact k5
    · rw [r 242 (by unfold rEx; omega)]
      exact k6
    · obtain ⟨m1, m2, m3⟩ := k8 hst
      rw [r 239 (by unfold rEx; omega), r 243 (by unfold rEx; omega)]
      exact ⟨m1, m2, YA_e h (by unfold rEx; omega) (by unfold rEx; omega) m3⟩
    · obtain ⟨m1, m2, m3⟩ := k9 hst
      rw [r 239 (by unfold rEx; omega), r 243 (by unfold rEx; omega)]
      exact ⟨m1, m2, fun i q hq => HDr_e h (m3 i q hq)⟩
end ZHW
