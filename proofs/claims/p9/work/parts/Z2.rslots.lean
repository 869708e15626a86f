/-! ===== the reference: headBounds, typeBounds ===== -/
/-- the fault behind k of the lists -/
def fG {α : Type} (f : α → List Int) (pre : List Int) (S : List α) (k : Nat) : Int := ffs (pre ++ (S.take k).flatMap f)
/-- what a work on TYPES leaves between two of its steps -/
def UUr (T e : Int) (s u : yS) : Prop := WFr T e s u ∧ u.1 64 = s.1 64 ∧ (u.1 70).toInt = e
section Z2G
variable {α : Type} {f : α → List Int} {pre : List Int} {S : List α} {k k' : Nat}
theorem fG_0 : fG f pre S 0 = ffs pre := by
  unfold fG
  rw [List.take_zero]
  show ffs (pre ++ []) = ffs pre
  rw [List.append_nil]
theorem fG_l (h : S.length ≤ k) : fG f pre S k = ffs (pre ++ S.flatMap f) := by
  unfold fG
  rw [List.take_of_length_le h]
theorem fG_s {x : α} (hx : S[k]? = some x) (h0 : fG f pre S k = 0) : fG f pre S (k + 1) = ffs (f x) := by
  unfold fG at h0 ⊢
  have e1 : S.take (k + 1) = S.take k ++ [x] := by
    rw [List.take_succ, hx]
    rfl
  rw [e1, List.flatMap_append, ← List.append_assoc, ffs_app, if_pos h0]
  show ffs (f x ++ []) = _
  rw [List.append_nil]
theorem fG_m (hk : k ≤ k') (h0 : ¬ fG f pre S k = 0) : fG f pre S k' = fG f pre S k := by
  unfold fG at h0 ⊢
  have e1 : S.take k' = S.take k ++ (S.take k').drop k := by
    have := List.take_append_drop k (S.take k')
    rw [List.take_take, Nat.min_eq_left hk] at this
    exact this.symm
  rw [e1, List.flatMap_append, ← List.append_assoc, ffs_app (pre ++ (S.take k).flatMap f), if_neg h0]
end Z2G
section Z2S
variable {d nf nv : Nat} {T e h' : Int} {s : yS} {a1 : Int32} {f : (Int × Int × Int × Int) → List Int} {S : List (Int × Int × Int × Int)}
theorem UU_tr {u u' : yS} {φ : Int} {v : Option Value} (h : UUr T e s u) (g : BNq T e φ u v u') : UUr T e s u' := ⟨WFr_tr h.1 g.2.1 (Int.le_refl _) (Int.le_refl _), g.2.2.1.1.trans h.2.1, g.2.2.1.2⟩
/-- headBounds: slots S, each looked at by bounds -/
theorem x_213 (h1 : a1.toInt = h') (hl : S.length = nf + nv + 1) (r245 : (s.2.1 245 h'.toNat).toInt = (nf : Int)) (r248 : (s.2.1 248 h'.toNat).toInt = (nv : Int)) (hB1 : ∀ (k : Nat) (x : Int × Int × Int × Int), k < nf → S[k]? = some x → ∀ (d : Nat) (u : yS), UUr T e s u → (u.1 8).toInt = 0 → Par d 211 [.ref 213, .int (s.2.1 247 (6 * h' + (k : Int)).toNat)] u (BNq T e (ffs (f x)) u)) (hB2 : ∀ (k : Nat) (x : Int × Int × Int × Int), k < nv → S[nf + k]? = some x → ∀ (d : Nat) (u : yS), UUr T e s u → (u.1 8).toInt = 0 → Par d 211 [.ref 213, .int (s.2.1 250 (6 * h' + (k : Int)).toNat)] u (BNq T e (ffs (f x)) u)) (hB3 : ∀ (x : Int × Int × Int × Int), S[nf + nv]? = some x → ∀ (d : Nat) (u : yS), UUr T e s u → (u.1 8).toInt = 0 → Par d 211 [.ref 213, .int (s.2.1 251 h'.toNat)] u (BNq T e (ffs (f x)) u)) {u0 : yS} (hu0 : UUr T e s u0) (h8 : (u0.1 8).toInt = 0) : Par d 213 [.ref 213, .int a1] u0 (BNq T e (ffs (S.flatMap f)) u0) := by
  cases d with
  | zero => exact Par_0
  | succ d =>
    have fin : ∀ u : yS, UUr T e u0 u → (u.1 8).toInt = fG f [] S (nf + nv + 1) → BNq T e (ffs (S.flatMap f)) u0 none u := fun u hu h => by
      rw [fG_l (by omega), List.nil_append] at h
      exact ⟨rfl, hu.1, hu.2, h⟩
    have tr : ∀ u, UUr T e u0 u → UUr T e s u := fun u hu => ⟨WFr_tr hu0.1 hu.1 (Int.le_refl _) (Int.le_refl _), hu.2.1.trans hu0.2.1, hu.2.2⟩
    have r : ∀ {u : yS}, UUr T e u0 u → ∀ q, q < 264 → u.2.1 q = s.2.1 q := fun hu q hq => funext fun j => (tr _ hu).1.2.2.1 q j (Or.inl hq)
    have f46 : ∀ (b2 : Int32) (u : yS), UUr T e u0 u → (u.1 8).toInt = fG f [] S (nf + nv) → ub_213_46 (Par d) a1 b2 u (BNq T e (ffs (S.flatMap f)) u0) := by
      intro b2 u hu hf
      unfold ub_213_46
      rw [h1, r hu 251 (by decide)]
      refine ⟨fun w => fin u hu ?_, fun w _ => ?_⟩
      · rw [hf] at w
        exact hf.trans (fG_m (by omega) w).symm
      · obtain ⟨x, hx⟩ : ∃ x, S[nf + nv]? = some x := ⟨_, List.getElem?_eq_getElem (by omega)⟩
        refine Par.imp (hB3 x hx d u (tr u hu) w) ?_
        intro v u' hu'
        refine ⟨hu'.1, fin u' (UU_tr hu hu') ?_⟩
        rw [hu'.2.2.2, fG_s hx (by rw [← hf]; exact w)]
    have f23 : ∀ (b2 : Int32) (u : yS), UUr T e u0 u → (u.1 8).toInt = fG f [] S nf → ub_213_23 (Par d) a1 b2 u (BNq T e (ffs (S.flatMap f)) u0) := by
      intro b2 u hu hf
      unfold ub_213_23
      refine ⟨fun d1 d2 t => d1 = a1 ∧ UUr T e u0 t ∧ ∃ i : Nat, i ≤ nv ∧ d2.toInt = (i : Int) ∧ (t.1 8).toInt = fG f [] S (nf + i), ⟨rfl, hu, 0, Nat.zero_le _, by decide, hf⟩, ?_⟩
      rintro d1 d2 t ⟨e1, ht, i, i1, i2, i3⟩
      subst e1
      unfold ub_213_25
      rw [h1, r ht 248 (by decide), r ht 250 (by decide), r248]
      intro _
      refine ⟨fun w => f46 _ t ht ?_, fun w => ⟨fun w2 => f46 _ t ht ?_, fun w2 _ x1 hx1 _ x2 hx2 _ => ?_⟩⟩
      · rw [show nv = i by omega]
        exact i3
      · rw [i3] at w2
        exact i3.trans (fG_m (by omega) w2).symm
      · obtain ⟨x, hx⟩ : ∃ x, S[nf + i]? = some x := ⟨_, List.getElem?_eq_getElem (by omega)⟩
        rw [show x2.toInt = 6 * h' + (i : Int) by omega]
        refine Par.imp (hB2 i x (by omega) hx d t (tr t ht) w2) ?_
        intro v u' hu'
        refine ⟨hu'.1, fun _ x5 hx5 => ⟨rfl, UU_tr ht hu', i + 1, by omega, by omega, ?_⟩⟩
        rw [hu'.2.2.2, ← Nat.add_assoc, fG_s hx (by rw [← i3]; exact w2)]
    refine pb_213 ?_
    unfold ub_213_0
    refine ⟨fun d1 d2 t => d1 = a1 ∧ UUr T e u0 t ∧ ∃ i : Nat, i ≤ nf ∧ d2.toInt = (i : Int) ∧ (t.1 8).toInt = fG f [] S i, ⟨rfl, ⟨WFr_rf, rfl, hu0.2.2⟩, 0, Nat.zero_le _, by decide, by rw [fG_0, h8]; rfl⟩, ?_⟩
    rintro d1 d2 t ⟨e1, ht, i, i1, i2, i3⟩
    subst e1
    unfold ub_213_2
    rw [h1, r ht 245 (by decide), r ht 247 (by decide), r245]
    intro _
    refine ⟨fun w => f23 _ t ht ?_, fun w => ⟨fun w2 => f23 _ t ht ?_, fun w2 _ x1 hx1 _ x2 hx2 _ => ?_⟩⟩
    · rw [show nf = i by omega]
      exact i3
    · rw [i3] at w2
      exact i3.trans (fG_m (by omega) w2).symm
    · obtain ⟨x, hx⟩ : ∃ x, S[i]? = some x := ⟨_, List.getElem?_eq_getElem (by omega)⟩
      rw [show x2.toInt = 6 * h' + (i : Int) by omega]
      refine Par.imp (hB1 i x (by omega) hx d t (tr t ht) w2) ?_
      intro v u' hu'
      refine ⟨hu'.1, fun _ x5 hx5 => ⟨rfl, UU_tr ht hu', i + 1, by omega, by omega, ?_⟩⟩
      rw [hu'.2.2.2, fG_s hx (by rw [← i3]; exact w2)]
/-- typeBounds: FORMALS S1, FIELDS S2, HEADS H -/
theorem x_214 {D hf0 : Int} {n1 n2 n3 : Nat} {S1 S2 : List (Int × Int × Int × Int)} {H : List (List Int)} (h1 : a1.toInt = D) (l1 : S1.length = n1) (l2 : S2.length = n2) (l3 : H.length = n3) (r236 : (s.2.1 236 D.toNat).toInt = (n1 : Int)) (r239 : (s.2.1 239 D.toNat).toInt = (n2 : Int)) (r242 : (s.2.1 242 D.toNat).toInt = hf0) (r243 : (s.2.1 243 D.toNat).toInt = (n3 : Int)) (hB1 : ∀ (k : Nat) (x : Int × Int × Int × Int), k < n1 → S1[k]? = some x → ∀ (d : Nat) (u : yS), UUr T e s u → (u.1 8).toInt = 0 → Par d 211 [.ref 213, .int (s.2.1 238 (6 * D + (k : Int)).toNat)] u (BNq T e (ffs (f x)) u)) (hB2 : ∀ (k : Nat) (x : Int × Int × Int × Int), k < n2 → S2[k]? = some x → ∀ (d : Nat) (u : yS), UUr T e s u → (u.1 8).toInt = 0 → Par d 211 [.ref 213, .int (s.2.1 241 (6 * D + (k : Int)).toNat)] u (BNq T e (ffs (f x)) u)) (hB3 : ∀ (k : Nat) (x : List Int), k < n3 → H[k]? = some x → ∀ (d : Nat) (a : Int32) (u : yS), a.toInt = hf0 + (k : Int) → UUr T e s u → (u.1 8).toInt = 0 → Par d 213 [.ref 213, .int a] u (BNq T e (ffs x) u)) {u0 : yS} (hu0 : UUr T e s u0) (h8 : (u0.1 8).toInt = 0) : Par d 214 [.ref 213, .int a1] u0 (BNq T e (ffs (S1.flatMap f ++ S2.flatMap f ++ H.flatten)) u0) := by
  cases d with
  | zero => exact Par_0
  | succ d =>
    have hfl : H.flatMap (fun x => x) = H.flatten := List.flatMap_id'
    have fin : ∀ u : yS, UUr T e u0 u → (u.1 8).toInt = fG (fun x => x) (S1.flatMap f ++ S2.flatMap f) H n3 → BNq T e (ffs (S1.flatMap f ++ S2.flatMap f ++ H.flatten)) u0 none u := fun u hu h => by
      rw [fG_l (by omega), hfl] at h
      exact ⟨rfl, hu.1, hu.2, h⟩
    have tr : ∀ u, UUr T e u0 u → UUr T e s u := fun u hu => ⟨WFr_tr hu0.1 hu.1 (Int.le_refl _) (Int.le_refl _), hu.2.1.trans hu0.2.1, hu.2.2⟩
    have r : ∀ {u : yS}, UUr T e u0 u → ∀ q, q < 264 → u.2.1 q = s.2.1 q := fun hu q hq => funext fun j => (tr _ hu).1.2.2.1 q j (Or.inl hq)
    have f46 : ∀ (b2 : Int32) (u : yS), UUr T e u0 u → (u.1 8).toInt = ffs (S1.flatMap f ++ S2.flatMap f) → ub_214_46 (Par d) a1 b2 u (BNq T e (ffs (S1.flatMap f ++ S2.flatMap f ++ H.flatten)) u0) := by
      intro b2 u hu hf
      unfold ub_214_46
      rw [h1, r hu 242 (by decide)]
      intro _
      refine ⟨fun d1 d2 t => d1 = a1 ∧ UUr T e u0 t ∧ ∃ i : Nat, i ≤ n3 ∧ d2.toInt = hf0 + (i : Int) ∧ (t.1 8).toInt = fG (fun x => x) (S1.flatMap f ++ S2.flatMap f) H i, ⟨rfl, hu, 0, Nat.zero_le _, by rw [r242]; omega, by rw [fG_0]; exact hf⟩, ?_⟩
      rintro d1 d2 t ⟨e1, ht, i, i1, i2, i3⟩
      subst e1
      unfold ub_214_51
      rw [h1, r ht 242 (by decide), r ht 243 (by decide), r242, r243]
      intro _ _ _ x1 hx1
      refine ⟨fun w => fin t ht ?_, fun w => ⟨fun w2 => fin t ht ?_, fun w2 => ?_⟩⟩
      · rw [show n3 = i by omega]
        exact i3
      · rw [i3] at w2
        exact i3.trans (fG_m (by omega) w2).symm
      · obtain ⟨x, hx⟩ : ∃ x, H[i]? = some x := ⟨_, List.getElem?_eq_getElem (by omega)⟩
        refine Par.imp (hB3 i x (by omega) hx d d2 t i2 (tr t ht) w2) ?_
        intro v u' hu'
        refine ⟨hu'.1, fun _ x4 hx4 => ⟨rfl, UU_tr ht hu', i + 1, by omega, by omega, ?_⟩⟩
        rw [hu'.2.2.2, fG_s hx (by rw [← i3]; exact w2)]
    have f23 : ∀ (b2 : Int32) (u : yS), UUr T e u0 u → (u.1 8).toInt = ffs (S1.flatMap f) → ub_214_23 (Par d) a1 b2 u (BNq T e (ffs (S1.flatMap f ++ S2.flatMap f ++ H.flatten)) u0) := by
      intro b2 u hu hf
      unfold ub_214_23
      refine ⟨fun d1 d2 t => d1 = a1 ∧ UUr T e u0 t ∧ ∃ i : Nat, i ≤ n2 ∧ d2.toInt = (i : Int) ∧ (t.1 8).toInt = fG f (S1.flatMap f) S2 i, ⟨rfl, hu, 0, Nat.zero_le _, by decide, by rw [fG_0]; exact hf⟩, ?_⟩
      rintro d1 d2 t ⟨e1, ht, i, i1, i2, i3⟩
      subst e1
      unfold ub_214_25
      rw [h1, r ht 239 (by decide), r ht 241 (by decide), r239]
      intro _
      refine ⟨fun w => f46 _ t ht ?_, fun w => ⟨fun w2 => f46 _ t ht ?_, fun w2 _ x1 hx1 _ x2 hx2 _ => ?_⟩⟩
      · rw [i3, fG_l (by omega)]
      · rw [i3] at w2
        rw [i3, ← fG_m (k' := n2) (by omega) w2, fG_l (by omega)]
      · obtain ⟨x, hx⟩ : ∃ x, S2[i]? = some x := ⟨_, List.getElem?_eq_getElem (by omega)⟩
        rw [show x2.toInt = 6 * D + (i : Int) by omega]
        refine Par.imp (hB2 i x (by omega) hx d t (tr t ht) w2) ?_
        intro v u' hu'
        refine ⟨hu'.1, fun _ x5 hx5 => ⟨rfl, UU_tr ht hu', i + 1, by omega, by omega, ?_⟩⟩
        rw [hu'.2.2.2, fG_s hx (by rw [← i3]; exact w2)]
    refine pb_214 ?_
    unfold ub_214_0
    refine ⟨fun d1 d2 t => d1 = a1 ∧ UUr T e u0 t ∧ ∃ i : Nat, i ≤ n1 ∧ d2.toInt = (i : Int) ∧ (t.1 8).toInt = fG f [] S1 i, ⟨rfl, ⟨WFr_rf, rfl, hu0.2.2⟩, 0, Nat.zero_le _, by decide, by rw [fG_0, h8]; rfl⟩, ?_⟩
    rintro d1 d2 t ⟨e1, ht, i, i1, i2, i3⟩
    subst e1
    unfold ub_214_2
    rw [h1, r ht 236 (by decide), r ht 238 (by decide), r236]
    intro _
    refine ⟨fun w => f23 _ t ht ?_, fun w => ⟨fun w2 => f23 _ t ht ?_, fun w2 _ x1 hx1 _ x2 hx2 _ => ?_⟩⟩
    · rw [i3, fG_l (by omega), List.nil_append]
    · rw [i3] at w2
      rw [i3, ← fG_m (k' := n1) (by omega) w2, fG_l (by omega), List.nil_append]
    · obtain ⟨x, hx⟩ : ∃ x, S1[i]? = some x := ⟨_, List.getElem?_eq_getElem (by omega)⟩
      rw [show x2.toInt = 6 * D + (i : Int) by omega]
      refine Par.imp (hB1 i x (by omega) hx d t (tr t ht) w2) ?_
      intro v u' hu'
      refine ⟨hu'.1, fun _ x5 hx5 => ⟨rfl, UU_tr ht hu', i + 1, by omega, by omega, ?_⟩⟩
      rw [hu'.2.2.2, fG_s hx (by rw [← i3]; exact w2)]
end Z2S
