/-! ===== the reference: slots stay while E are typed ===== -/
/-- tokens that stand in no slot's TYPE -/
def nsD (K L : Int → Int) (Ls : List Int) (z : Int) : Prop := ∀ (i : Nat) (t : Int), Ls[i]? = some t → ∀ x ∈ sDc K L (kHd K L (Ls.take i) : Int) t, 0 ≤ x.2.2.1 → ¬ (x.2.2.1 ≤ z ∧ z < nxT K L x.2.2.1)
section ZIW
variable {K L W ar kd : Int → Int} {n lo hi B b A A0 x y : Int} {TN Ls : List Int} {D : Int → Prop} {s s' : yS} {w : Nat → Int → List Int} {i j : Nat} {t q : Int}
theorem yT_k : ∀ (m : Nat) (x y t : Int), yT K L B s m x y t → ∀ j : Int, x ≤ j → j < y → (s.2.1 221 j.toNat).toInt = 0
  | 0, _, _, _, g => g.elim
  | m + 1, x, y, t, g => by
    intro j j1 j2
    obtain ⟨g1, g2, g3, g4⟩ := g
    by_cases e : j = x
    · rw [e]
      exact g2
    · by_cases hK : K (t + 1) = 91
      · rw [if_pos hK] at g4
        obtain ⟨-, -, z, u, z0, zc, u0, k3, -, -⟩ := g4
        obtain ⟨i, i1, i2, i3⟩ := mono_at (z := z) (NT K L (t + 1)) (by omega : z 0 ≤ j) (by omega)
        exact yT_k m _ _ _ (k3 i i1).1 j i2 i3
      · rw [if_neg hK] at g4
        omega
theorem yRv_d (h : EF0 D B A0 s s') (hA : A ≤ A0) : ∀ (m : Nat) (x y t : Int), yRw K L B s w A m x y t → (∀ j : Int, x ≤ j → j < y → (s.2.1 221 j.toNat).toInt = 0 ∧ ¬ D ((s.2.1 222 j.toNat).toInt - B)) → yRw K L B s' w A m x y t := by
  have r : ∀ q, ¬ rEx q → s'.2.1 q = s.2.1 q := h.2.2.1
  have r2 : ∀ (q : Nat) (j : Int), (q = 231 ∨ q = 232) → ¬ D ((s.2.1 222 j.toNat).toInt - B) → s'.2.1 q j.toNat = s.2.1 q j.toNat := fun q j hq hj => h.2.2.2.2.2.1 q _ hq hj
  have key : ∀ (m : Nat) (x y t : Int), yRw K L B s w A m x y t → (∀ j : Int, x ≤ j → j < y → (s.2.1 221 j.toNat).toInt = 0 ∧ ¬ D ((s.2.1 222 j.toNat).toInt - B)) → yRv K L B s' w m x y t := by
    intro m
    induction m with
    | zero => exact fun x y t g _ => g.1
    | succ m ih =>
      intro x y t g hd
      obtain ⟨⟨h1, h2, h3, h4⟩, hb⟩ := g
      obtain ⟨dx, dd⟩ := hd x (by omega) (by omega)
      refine ⟨h1, by rw [r 222 (by unfold rEx; omega)]; exact h2, ?_, ?_⟩
      · obtain ⟨p1, p2, p3⟩ := h3
        have hx := hb x (by omega) (by omega)
        unfold SNr
        rw [r2 231 x (Or.inl rfl) dd, r2 232 x (Or.inr rfl) dd]
        refine ⟨p1, p2, fun i c hc => ?_⟩
        have hi := (List.getElem?_eq_some_iff.mp hc).1
        rw [h.2.2.2.2.2.2 _ (by omega)]
        exact p3 i c hc
      · rw [h.2.2.2.1 _ (by rw [dx]; decide), r 224 (by unfold rEx; omega)]
        by_cases hK : K (t + 1) = 91
        · rw [if_pos hK] at h4 ⊢
          obtain ⟨k1, k2, z, u, z0, zc, u0, k3, k4, k5⟩ := h4
          have zm := z_mono (z := z) (NT K L (t + 1)) (fun i hi => (k3 i hi).2.2.2)
          refine ⟨k1, k2, z, u, z0, zc, u0, fun i hi => ?_, ?_, ?_⟩
          · obtain ⟨q1, q2, q3⟩ := k3 i hi
            have m1 := zm i (by omega)
            have m2 := zm (i + 1) (by omega)
            exact ⟨ih _ _ _ ⟨q1, fun j j1 j2 => hb j (by omega) (by omega)⟩ (fun j j1 j2 => hd j (by omega) (by omega)), q2, q3⟩
          · rw [r 225 (by unfold rEx; omega)]
            exact k4
          · rw [r 225 (by unfold rEx; omega)]
            exact k5
        · rw [if_neg hK] at h4 ⊢
          exact h4
  refine fun m x y t g hd => ⟨key m x y t g hd, fun j j1 j2 => ?_⟩
  have dd := (hd j j1 j2).2
  rw [r2 231 j (Or.inl rfl) dd, r2 232 j (Or.inr rfl) dd]
  exact g.2 j j1 j2
theorem RSn_d (h : EF0 D B A0 s s') (hA : A ≤ A0) {z : Int} (g : RSn K L B w s A z t) (hp : (p_t K L 10 false (0, t)).1 = 0) (hD : ∀ v, t ≤ v → v < nxT K L t → ¬ D v) : RSn K L B w s' A z t := by
  obtain ⟨z', g1, g2, g3, g4⟩ := g
  have tk := yT_tok 10 _ _ _ (by decide) g1 hp
  obtain ⟨k1, k2⟩ := yRv_d h hA 10 z z' t ⟨g2, g3⟩ (fun j j1 j2 => ⟨yT_k 10 _ _ _ g1 j j1 j2, hD _ (by have := tk j j1 j2; omega) (by have := tk j j1 j2; omega)⟩)
  refine ⟨z', yT_e h _ _ _ _ g1, k1, k2, fun j j1 j2 => ?_⟩
  rw [h.2.2.2.2.2.1 231 j.toNat (Or.inl rfl) (hD _ (by have := tk j j1 j2; omega) (by have := tk j j1 j2; omega))]
  exact g4 j j1 j2
theorem RST_e (h : PRm K L W ar kd n lo hi TN Ls) (hE : EF0 (nsD K L Ls) B A0 s s') (hS : RST K L W ar kd TN Ls n B b A0 x y s) : RST K L W ar kd TN Ls n B b A0 x y s' := by
  have r : ∀ q, ¬ rEx q → s'.2.1 q = s.2.1 q := hE.2.2.1
  have hSs := hS
  obtain ⟨⟨k0, k1, k2, ⟨k3, k3'⟩, k4, k5⟩, hA, hD, h252, h0, hA0, hb⟩ := hS
  have one : ∀ {i : Nat} {t : Int} (_ : Ls[i]? = some t) (z : Int × Int × Int × Int), z ∈ sDc K L (kHd K L (Ls.take i) : Int) t → 0 ≤ z.2.2.1 → ∀ {w : Nat → Int → List Int} {z0 : Int}, RSn K L B w s A0 z0 z.2.2.1 → RSn K L B w s' A0 z0 z.2.2.1 := fun {i t} h1 z hz h0 {w z0} hR => by
    obtain ⟨-, p1, -, -⟩ := slot_ok h h1 hz h0
    exact RSn_d hE (Int.le_refl _) hR p1 (fun v v1 v2 hv => hv i t h1 z hz h0 ⟨v1, v2⟩)
  have hdR : ∀ {i j : Nat} {t q : Int} (_ : Ls[i]? = some t) (_ : (dHd K L t)[j]? = some q) {w : Nat → Int → List Int} {g : Int}, RHD K L B w s A0 g q → RHD K L B w s' A0 g q := fun {i j t q} h1 h2 {w g} hR => by
    obtain ⟨-, -, n1, n2, -, hx⟩ := hd_fact h h1 h2
    obtain ⟨s1, s2, s3⟩ := hSlt_at (K := K) (L := L) (q := q) (h := ((kHd K L (Ls.take i) + j : Nat) : Int))
    refine ⟨fun k v hv => ?_, fun k v hv => ?_, ?_⟩
    · rw [r 247 (by unfold rEx; omega)]
      have hm := List.mem_of_getElem? (s1 k v hv)
      exact one h1 _ (hSlt_sub h h1 h2 _ hm) (hx _ hm).1 (hR.1 k v hv)
    · rw [r 250 (by unfold rEx; omega)]
      have hm := List.mem_of_getElem? (s2 k v hv)
      exact one h1 _ (hSlt_sub h h1 h2 _ hm) (hx _ hm).1 (hR.2.1 k v hv)
    · rw [r 251 (by unfold rEx; omega)]
      have hm := List.mem_of_getElem? s3
      exact one h1 _ (hSlt_sub h h1 h2 _ hm) (hx _ hm).1 hR.2.2
  refine ⟨⟨?_, ?_, ?_, ⟨?_, ?_⟩, ?_, ?_⟩, ALr_e hE hA, fun i t h1 => ⟨fun h6 => ?_, fun h6 => ?_⟩, ?_, ?_, hA0, hb⟩
  · rw [hE.1 75 (by unfold fEx; omega)]
    exact k0
  · unfold WEQ at *
    rw [r 217 (by unfold rEx; omega)]
    exact k1
  · unfold RTk at *
    rw [r 215 (by unfold rEx; omega), r 216 (by unfold rEx; omega), r 217 (by unfold rEx; omega)]
    exact k2
  · rw [r 233 (by unfold rEx; omega)]
    exact k3
  · unfold NTr at *
    rw [r 234 (by unfold rEx; omega)]
    exact k3'
  · rw [r 236 (by unfold rEx; omega)]
    exact k4
  · unfold KDr at *
    rw [r 235 (by unfold rEx; omega)]
    exact k5
  · obtain ⟨d1, d2⟩ := (hD i t h1).1 h6
    have hd0 : (dHd K L t)[0]? = some (f_5 K L false (0, t)).2 := by
      unfold dHd
      rw [if_pos h6]
      rfl
    refine ⟨hdR h1 hd0 d1, ?_⟩
    rw [r 261 (by unfold rEx; omega)]
    exact d2
  · obtain ⟨d1, d2, d3⟩ := (hD i t h1).2 h6
    obtain ⟨f1, f2⟩ := ty_fact h h1 h6
    have es : sDc K L (kHd K L (Ls.take i) : Int) t = tSlt K L (kHd K L (Ls.take i) : Int) false (0, t) := if_neg h6
    refine ⟨fun k v hv => ?_, fun hst k v hv => ?_, fun hst k q hq => ?_⟩
    · rw [r 238 (by unfold rEx; omega)]
      have hm := List.mem_of_getElem? hv
      have h0 := (f1 v hm).1
      refine one h1 (v, 0, v + 1, -1) ?_ (by show 0 ≤ v + 1; omega) (d1 k v hv)
      rw [es]
      unfold tSlt nmS
      exact List.mem_append_left _ (List.mem_map.mpr ⟨v, hm, rfl⟩)
    · rw [r 241 (by unfold rEx; omega)]
      have hm := List.mem_of_getElem? hv
      have h0 := (f2 hst v hm).1
      refine one h1 (v, 2, v + 1, -1) ?_ (by show 0 ≤ v + 1; omega) (d2 hst k v hv)
      rw [es]
      unfold tSlt
      rw [if_pos hst]
      unfold nmS
      exact List.mem_append_right _ (List.mem_map.mpr ⟨v, hm, rfl⟩)
    · have hdd0 : dHd K L t = tMe K L false (0, t) := by
        unfold dHd
        rw [if_neg h6, if_neg (by rw [hst]; decide)]
      exact hdR h1 (by rw [hdd0]; exact hq) (d3 hst k q hq)
  · rw [r 252 (by unfold rEx; omega)]
    exact h252
  · intro k c hc
    have hk := (List.getElem?_eq_some_iff.mp hc).1
    have hk' : k < 6 := hk
    have hk6 : (0 : Int) + (k : Int) < A0 := by omega
    have e := hE.2.2.2.2.2.2 ((0 : Int) + (k : Int)).toNat (by omega)
    rw [← h0 k c hc, KI_p (by omega), KI_p (by omega), e]
end ZIW
