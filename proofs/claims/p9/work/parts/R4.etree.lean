/-! ===== the reference takes an E: the tree that it makes ===== -/
def nxE (K L : Int → Int) (t : Int) : Int := (p_e K L 11 false (0, t)).2
/-- c trees of E side by side: nodes from z on, tokens u, roots w -/
def eCh (s : yS) (f : Int → Int → Int → Int → Prop) (nx : Int → Int) (c : Nat) (z u w : Nat → Int) : Prop := (∀ i, i < c → f (z i) (z (i + 1)) (u i) (w i) ∧ u (i + 1) = nx (u i) + 1 ∧ (0 ≤ z i ∧ z i ≤ w i ∧ w i < z (i + 1))) ∧ (∀ i, i + 1 < c → (s.2.1 225 (w i).toNat).toInt = w (i + 1)) ∧ (0 < c → (s.2.1 225 (w (c - 1)).toNat).toInt = -1)
/-- the E of a node x, from y1 on, ahead of y; the opening sign stands at a -/
def eAr (K L : Int → Int) (s : yS) (f : Int → Int → Int → Int → Prop) (o c : Int) (x y1 y a : Int) : Prop := if K (a + 1) = c then (s.2.1 224 x.toNat).toInt = -1 ∧ (s.2.1 226 x.toNat).toInt = 0 ∧ y = y1 else (s.2.1 226 x.toNat).toInt = (p_vn K L (p_e K L 11) o c (0, a) : Int) ∧ ∃ z u w : Nat → Int, z 0 = y1 ∧ z (p_vn K L (p_e K L 11) o c (0, a)) = y ∧ u 0 = a + 1 ∧ (s.2.1 224 x.toNat).toInt = w 0 ∧ eCh s f (nxE K L) (p_vn K L (p_e K L 11) o c (0, a)) z u w
/-- what stands ahead of all points -/
def eHd (K L : Int → Int) (B : Int) (s : yS) (m : Nat) (f : Int → Int → Int → Int → Prop) (x y t : Int) : Prop := (0 ≤ x ∧ x < y) ∧ (s.2.1 227 x.toNat).toInt = -1 ∧ (if K (t + 1) = 123 ∨ K (t + 1) = 91 then (s.2.1 221 x.toNat).toInt = 2 ∧ (s.2.1 229 x.toNat).toInt = x + 1 ∧ ∃ y1, y1 ≤ y ∧ yT K L B s m (x + 1) y1 t ∧ eAr K L s f 123 125 x y1 y (nxT K L t) else (s.2.1 221 x.toNat).toInt = 1 ∧ (s.2.1 222 x.toNat).toInt = B + t ∧ y = x + 1)
def aHd (K L : Int → Int) (t : Int) : Int := if K (t + 1) = 123 ∨ K (t + 1) = 91 then (p_vs K L (p_e K L 11) 123 125 (0, nxT K L t)).2 else t + 1
/-- a point at a, behind the E of root e0: node e, ahead of y -/
def ePt (K L : Int → Int) (B : Int) (s : yS) (m : Nat) (f : Int → Int → Int → Int → Prop) (e0 e y a : Int) : Prop := (0 ≤ e ∧ e < y) ∧ (s.2.1 227 e.toNat).toInt = e0 ∧ (s.2.1 223 e.toNat).toInt = B + a ∧ (if K (a + 1) = 40 then (s.2.1 221 e.toNat).toInt = 5 ∧ (s.2.1 229 e.toNat).toInt = e + 1 ∧ yT K L B s m (e + 1) y (a + 2) else (s.2.1 222 e.toNat).toInt = B + (a + 1) ∧ (if K (a + 2) = 91 then (s.2.1 221 e.toNat).toInt = 4 ∧ (s.2.1 229 e.toNat).toInt = e + 1 ∧ (s.2.1 230 e.toNat).toInt = (NT K L (a + 2) : Int) ∧ ∃ y1, y1 ≤ y ∧ ych s (yT K L B s m) (nxT K L) (NT K L (a + 2)) (e + 1) y1 (a + 3) ∧ eAr K L s f 40 41 e y1 y (mO K L (a + 1)).2 else if K (a + 2) = 40 then (s.2.1 221 e.toNat).toInt = 4 ∧ (s.2.1 229 e.toNat).toInt = -1 ∧ (s.2.1 230 e.toNat).toInt = 0 ∧ eAr K L s f 40 41 e (e + 1) y (a + 2) else (s.2.1 221 e.toNat).toInt = 3 ∧ y = e + 1))
def aPt (K L : Int → Int) (a : Int) : Int := (p_po K L (p_t K L 11) (p_e K L 11) (0, a)).2
/-- an E with k points: nodes from x on, ahead of y; from token t on, ahead of a; root e -/
def ePs (K L : Int → Int) (B : Int) (s : yS) (m : Nat) (f : Int → Int → Int → Int → Prop) (x t : Int) : Nat → Int → Int → Int → Prop
  | 0, y, a, e => e = x ∧ eHd K L B s m f x y t ∧ a = aHd K L t
  | k + 1, y, a, e => ∃ y0 a0 e0, ePs K L B s m f x t k y0 a0 e0 ∧ K a0 = 46 ∧ e = y0 ∧ ePt K L B s m f e0 e y a0 ∧ a = aPt K L a0
/-- the tree of the E at token t -/
def eT (K L : Int → Int) (B : Int) (s : yS) : Nat → Int → Int → Int → Int → Prop
  | 0, _, _, _, _ => False
  | m + 1, x, y, t, e => ∃ k, k ≤ 20 ∧ ePs K L B s m (eT K L B s m) x t k y (nxE K L t) e
/-- the rows that tell an E are the same from x on, ahead of y (but for what stands beside its root e) -/
def eRq (x y e : Int) (s s' : yS) : Prop := (∀ p i, (p = 221 ∨ p = 222 ∨ p = 223 ∨ p = 224 ∨ p = 226 ∨ p = 227 ∨ p = 229 ∨ p = 230) → x ≤ i → i < y → s'.2.1 p i.toNat = s.2.1 p i.toNat) ∧ ∀ i, x ≤ i → i < y → ¬ i = e → s'.2.1 225 i.toNat = s.2.1 225 i.toNat
section RET
variable {K L : Int → Int} {B n : Int} {s s' : yS}
theorem eRq_Req {x y e x' y' : Int} (h : eRq x y e s s') (h1 : x ≤ x') (h2 : y' ≤ y) (he : e ≤ x' ∨ y' ≤ e) : Req x' y' s s' := ⟨fun p i hp i1 i2 => h.1 p i (by omega) (by omega) (by omega), fun i i1 i2 => h.2 i (by omega) (by omega) (by omega)⟩
theorem eRq_sub {x y e x' y' e' : Int} (h : eRq x y e s s') (h1 : x ≤ x') (h2 : y' ≤ y) (he : e = e' ∨ e < x' ∨ y' ≤ e) : eRq x' y' e' s s' := ⟨fun p i hp i1 i2 => h.1 p i hp (by omega) (by omega), fun i i1 i2 i3 => h.2 i (by omega) (by omega) (by omega)⟩
theorem eCh_mono {f : Int → Int → Int → Int → Prop} {nx : Int → Int} {c : Nat} {z u w : Nat → Int} (h : eCh s f nx c z u w) : ∀ i j, i ≤ j → j ≤ c → z i ≤ z j := by
  intro i j hij
  induction hij with
  | refl => exact fun _ => Int.le_refl _
  | @step j hij ih =>
    intro hc
    have h1 := ih (by omega)
    have h2 := (h.1 j hc).2.2
    show z i ≤ z (j + 1)
    omega
theorem ych_eq {m c : Nat} {x y t : Int} (h : ych s (yT K L B s m) (nxT K L) c x y t) (g : ∀ p i, (p = 221 ∨ p = 222 ∨ p = 224 ∨ p = 225 ∨ p = 226) → x ≤ i → i < y → s'.2.1 p i.toNat = s.2.1 p i.toNat) : ych s' (yT K L B s' m) (nxT K L) c x y t := by
  obtain ⟨z, u, h1, h2, h3, h4⟩ := h
  have mo := yCh_mono h4
  have rng : ∀ i, i < c → x ≤ z i ∧ z (i + 1) ≤ y := fun i hi => by
    have a := mo 0 i (by omega) (by omega)
    have b := mo (i + 1) c (by omega) (Nat.le_refl _)
    omega
  refine ⟨z, u, h1, h2, h3, yCh_one h4 (fun i hi f => yT_eq m _ _ _ f ⟨fun p j hp j1 j2 => ?_, fun j j1 j2 => ?_⟩) (fun i hi => ?_)⟩
  · have := rng i hi
    exact g p j (by omega) (by omega) (by omega)
  · have := rng i hi
    exact g 225 j (by omega) (by omega) (by omega)
  · have := rng i hi
    have h5 := (h4.1 i hi).2.2
    exact g 225 (z i) (by omega) (by omega) (by omega)
theorem eCh_eq {f g : Int → Int → Int → Int → Prop} {nx : Int → Int} {c : Nat} {z u w : Nat → Int} (h : eCh s f nx c z u w) (hf : ∀ i, i < c → f (z i) (z (i + 1)) (u i) (w i) → g (z i) (z (i + 1)) (u i) (w i)) (hb : ∀ i, i < c → s'.2.1 225 (w i).toNat = s.2.1 225 (w i).toNat) : eCh s' g nx c z u w := by
  refine ⟨fun i hi => ⟨hf i hi (h.1 i hi).1, (h.1 i hi).2⟩, fun i hi => ?_, fun hc => ?_⟩
  · rw [hb i (by omega)]
    exact h.2.1 i hi
  · rw [hb _ (by omega)]
    exact h.2.2 hc
/-- how a tree of E hangs on its rows -/
def eEx (K L : Int → Int) (B : Int) (s s' : yS) (f g : Int → Int → Int → Int → Prop) : Prop := ∀ x y t e, f x y t e → eRq x y e s s' → g x y t e
theorem eAr_eq {f g : Int → Int → Int → Int → Prop} (hf : eEx K L B s s' f g) {o c x y1 y a : Int} (h : eAr K L s f o c x y1 y a) (hx : s'.2.1 224 x.toNat = s.2.1 224 x.toNat ∧ s'.2.1 226 x.toNat = s.2.1 226 x.toNat) (hr : eRq y1 y (-1) s s') (hy : 0 ≤ y1) : eAr K L s' g o c x y1 y a := by
  unfold eAr at h ⊢
  rw [hx.1, hx.2]
  by_cases hc : K (a + 1) = c
  · rw [if_pos hc] at h ⊢
    exact h
  · rw [if_neg hc] at h ⊢
    obtain ⟨h1, z, u, w, h2, h3, h4, h5, h6⟩ := h
    refine ⟨h1, z, u, w, h2, h3, h4, h5, ?_⟩
    have mo := eCh_mono h6
    refine eCh_eq h6 (fun i hi q => hf _ _ _ _ q (eRq_sub hr ?_ ?_ ?_)) (fun i hi => ?_)
    · have := mo 0 i (by omega) (by omega)
      omega
    · have := mo (i + 1) _ (by omega) (Nat.le_refl _)
      omega
    · have := (h6.1 i hi).2.2
      omega
    · have a1 := mo 0 i (by omega) (by omega)
      have a2 := mo (i + 1) _ (by omega) (Nat.le_refl _)
      have a3 := (h6.1 i hi).2.2
      exact hr.2 (w i) (by omega) (by omega) (by omega)
theorem eHd_eq {m : Nat} {f g : Int → Int → Int → Int → Prop} (hf : eEx K L B s s' f g) {x y t e : Int} (h : eHd K L B s m f x y t) (hr : eRq x y e s s') (he : e = x ∨ y ≤ e) : eHd K L B s' m g x y t := by
  obtain ⟨h1, h2, h3⟩ := h
  refine ⟨h1, by rw [hr.1 227 x (by omega) (Int.le_refl _) h1.2]; exact h2, ?_⟩
  rw [hr.1 221 x (by omega) (Int.le_refl _) h1.2, hr.1 229 x (by omega) (Int.le_refl _) h1.2, hr.1 222 x (by omega) (Int.le_refl _) h1.2]
  by_cases hc : K (t + 1) = 123 ∨ K (t + 1) = 91
  · rw [if_pos hc] at h3 ⊢
    obtain ⟨h4, h5, y1, h6, h7, h8⟩ := h3
    have hx1 : x + 1 < y1 := by
      cases m with
      | zero => exact False.elim h7
      | succ m => exact h7.1.2
    exact ⟨h4, h5, y1, h6, yT_eq m _ _ _ h7 (eRq_Req hr (by omega) h6 (by omega)), eAr_eq hf h8 ⟨hr.1 224 x (by omega) (Int.le_refl _) h1.2, hr.1 226 x (by omega) (Int.le_refl _) h1.2⟩ (eRq_sub hr (by omega) (Int.le_refl _) (by omega)) (by omega)⟩
  · rw [if_neg hc] at h3 ⊢
    exact h3
theorem ePt_eq {m : Nat} {f g : Int → Int → Int → Int → Prop} (hf : eEx K L B s s' f g) {e0 e y a e' : Int} (h : ePt K L B s m f e0 e y a) (hr : eRq e y e' s s') (he : e' = e ∨ y ≤ e') : ePt K L B s' m g e0 e y a := by
  obtain ⟨h1, h2, h3, h4⟩ := h
  refine ⟨h1, by rw [hr.1 227 e (by omega) (Int.le_refl _) h1.2]; exact h2, by rw [hr.1 223 e (by omega) (Int.le_refl _) h1.2]; exact h3, ?_⟩
  rw [hr.1 221 e (by omega) (Int.le_refl _) h1.2, hr.1 229 e (by omega) (Int.le_refl _) h1.2, hr.1 222 e (by omega) (Int.le_refl _) h1.2, hr.1 230 e (by omega) (Int.le_refl _) h1.2]
  by_cases hc : K (a + 1) = 40
  · rw [if_pos hc] at h4 ⊢
    exact ⟨h4.1, h4.2.1, yT_eq m _ _ _ h4.2.2 (eRq_Req hr (by omega) (Int.le_refl _) (by omega))⟩
  · rw [if_neg hc] at h4 ⊢
    refine ⟨h4.1, ?_⟩
    replace h4 := h4.2
    have hx := And.intro (hr.1 224 e (by omega) (Int.le_refl _) h1.2) (hr.1 226 e (by omega) (Int.le_refl _) h1.2)
    by_cases h9 : K (a + 2) = 91
    · rw [if_pos h9] at h4 ⊢
      obtain ⟨h5, h6, h7, y1, h8, h10, h11⟩ := h4
      have hy1 : e + 1 ≤ y1 := by
        obtain ⟨z, u, z1, z2, z3, z4⟩ := h10
        have := yCh_mono z4 0 _ (Nat.zero_le _) (Nat.le_refl _)
        omega
      refine ⟨h5, h6, h7, y1, h8, ych_eq h10 (fun p i hp i1 i2 => ?_), eAr_eq hf h11 hx (eRq_sub hr (by omega) (Int.le_refl _) (by omega)) (by omega)⟩
      by_cases e5 : p = 225
      · rw [e5]
        exact hr.2 i (by omega) (by omega) (by omega)
      · exact hr.1 p i (by omega) (by omega) (by omega)
    · rw [if_neg h9] at h4 ⊢
      by_cases h40 : K (a + 2) = 40
      · rw [if_pos h40] at h4 ⊢
        obtain ⟨h5, h6, h7, h8⟩ := h4
        exact ⟨h5, h6, h7, eAr_eq hf h8 hx (eRq_sub hr (by omega) (Int.le_refl _) (by omega)) (by omega)⟩
      · rw [if_neg h40] at h4 ⊢
        exact h4
theorem ePs_lt {m : Nat} {f : Int → Int → Int → Int → Prop} {x t : Int} : ∀ {k : Nat} {y a e : Int}, ePs K L B s m f x t k y a e → x ≤ e ∧ e < y ∧ 0 ≤ x
  | 0, y, a, e, h => by
    obtain ⟨rfl, h1, -⟩ := h
    have := h1.1
    omega
  | k + 1, y, a, e, h => by
    obtain ⟨y0, a0, e0, h1, -, rfl, h3, -⟩ := h
    have := ePs_lt h1
    have := h3.1
    omega
theorem ePs_eq {m : Nat} {f g : Int → Int → Int → Int → Prop} (hf : eEx K L B s s' f g) {x t : Int} : ∀ {k : Nat} {y a e e' : Int}, ePs K L B s m f x t k y a e → eRq x y e' s s' → (e' = e ∨ y ≤ e') → ePs K L B s' m g x t k y a e
  | 0, y, a, e, e', h, hr, he => by
    obtain ⟨rfl, h1, h2⟩ := h
    exact ⟨rfl, eHd_eq hf h1 hr he, h2⟩
  | k + 1, y, a, e, e', h, hr, he => by
    obtain ⟨y0, a0, e0, h1, h2, rfl, h3, h4⟩ := h
    have l1 := ePs_lt h1
    have l3 := h3.1
    refine ⟨e, a0, e0, ePs_eq hf h1 (eRq_sub (e' := e') hr (Int.le_refl _) (by omega) (Or.inl rfl)) (by omega), h2, rfl, ePt_eq hf h3 (eRq_sub (e' := e') hr (by omega) (Int.le_refl _) (Or.inl rfl)) he, h4⟩
theorem eT_eq : ∀ m : Nat, eEx K L B s s' (eT K L B s m) (eT K L B s' m)
  | 0 => fun _ _ _ _ h _ => h
  | m + 1 => fun x y t e h hr => by
    obtain ⟨k, h1, h2⟩ := h
    exact ⟨k, h1, ePs_eq (eT_eq m) h2 hr (Or.inl rfl)⟩
end RET
