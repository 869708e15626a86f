/-! ===== told TYPES: their pieces; the reference's trees of them ===== -/
section YWT
variable {K L cd ar : Int → Int} {w : Nat → Int → List Int} {B A T e1 : Int} {s s' : yS} {a : Int → Int} {m n : Nat} {x y t c k : Int} {Z : List (List Int)}
theorem tlS_ok {f : Int → Int × List (Int × Int)} {nx : Int → Int} : ∀ (n : Nat) (u : Int), (tlS f nx n u).1 = 0 → (∀ i, i < n → (f (uS nx u i)).1 = 0) ∧ (tlS f nx n u).2 = ((List.range n).map (fun i => (f (uS nx u i)).2)).flatten
  | 0, u, _ => ⟨fun i hi => absurd hi (Nat.not_lt_zero _), rfl⟩
  | n + 1, u, h => by
    have e0 : tlS f nx (n + 1) u = if (f u).1 = 0 then (if (tlS f nx n (nx u + 1)).1 = 0 then (0, (f u).2 ++ (tlS f nx n (nx u + 1)).2) else ((tlS f nx n (nx u + 1)).1, [])) else ((f u).1, []) := rfl
    rw [e0] at h ⊢
    by_cases h1 : (f u).1 = 0
    · rw [if_pos h1] at h ⊢
      by_cases h2 : (tlS f nx n (nx u + 1)).1 = 0
      · rw [if_pos h2] at h ⊢
        obtain ⟨i1, i2⟩ := tlS_ok n (nx u + 1) h2
        refine ⟨fun i hi => ?_, ?_⟩
        · cases i with
          | zero => exact h1
          | succ i =>
            rw [← uS_s]
            exact i1 i (by omega)
        · show (f u).2 ++ (tlS f nx n (nx u + 1)).2 = _
          rw [i2, List.range_succ_eq_map, List.map_cons, List.map_map]
          show _ = (f u).2 ++ _
          congr 2
          refine List.map_congr_left (fun i _ => ?_)
          show (f (uS nx (nx u + 1) i)).2 = (f (uS nx u (i + 1))).2
          rw [uS_s]
      · rw [if_neg h2] at h
        exact absurd h h2
    · rw [if_neg h1] at h
      exact absurd h h1
theorem tlT_ok (h : (tlT K L cd ar (m + 1) t).1 = 0) : (0 ≤ cd t ∧ (ntc K L t : Int) = ar (cd t)) ∧ (∀ i, i < ntc K L t → (tlT K L cd ar m (uS (nxT K L) (t + 2) i)).1 = 0) ∧ (tlT K L cd ar (m + 1) t).2 = (cd t, t) :: ((List.range (ntc K L t)).map (fun i => (tlT K L cd ar m (uS (nxT K L) (t + 2) i)).2)).flatten := by
  have e0 : tlT K L cd ar (m + 1) t = if cd t < 0 then (2 + 16 * L t, []) else if ¬ (ntc K L t : Int) = ar (cd t) then (4 + 16 * L t, []) else if (tlS (tlT K L cd ar m) (nxT K L) (ntc K L t) (t + 2)).1 = 0 then (if 60 < (tlS (tlT K L cd ar m) (nxT K L) (ntc K L t) (t + 2)).2.length + 1 then (9 + 16 * L t, []) else (0, (cd t, t) :: (tlS (tlT K L cd ar m) (nxT K L) (ntc K L t) (t + 2)).2)) else ((tlS (tlT K L cd ar m) (nxT K L) (ntc K L t) (t + 2)).1, []) := rfl
  rw [e0] at h ⊢
  by_cases h1 : cd t < 0
  · rw [if_pos h1] at h
    have : 2 + 16 * L t = 0 := h
    omega
  · rw [if_neg h1] at h ⊢
    by_cases h2 : ¬ (ntc K L t : Int) = ar (cd t)
    · rw [if_pos h2] at h
      have : 4 + 16 * L t = 0 := h
      omega
    · rw [if_neg h2] at h ⊢
      by_cases h3 : (tlS (tlT K L cd ar m) (nxT K L) (ntc K L t) (t + 2)).1 = 0
      · rw [if_pos h3] at h ⊢
        by_cases h4 : 60 < (tlS (tlT K L cd ar m) (nxT K L) (ntc K L t) (t + 2)).2.length + 1
        · rw [if_pos h4] at h
          have : 9 + 16 * L t = 0 := h
          omega
        · rw [if_neg h4]
          obtain ⟨i1, i2⟩ := tlS_ok _ _ h3
          refine ⟨⟨by omega, Decidable.of_not_not h2⟩, i1, ?_⟩
          show (cd t, t) :: (tlS (tlT K L cd ar m) (nxT K L) (ntc K L t) (t + 2)).2 = _
          rw [i2]
      · rw [if_neg h3] at h
        exact absurd h h3
theorem tlT_P {P : Int → Prop} (hP : ∀ t, 0 ≤ cd t → P (cd t)) : ∀ (m : Nat) (t : Int), (tlT K L cd ar m t).1 = 0 → ∀ q ∈ (tlT K L cd ar m t).2, P q.1
  | 0, t, _, q, hq => by cases hq
  | m + 1, t, h, q, hq => by
    obtain ⟨⟨i1, -⟩, i3, i4⟩ := tlT_ok h
    rw [i4] at hq
    rcases List.mem_cons.mp hq with e | hq
    · rw [e]
      exact hP t i1
    · obtain ⟨l, hl, hql⟩ := List.mem_flatten.mp hq
      obtain ⟨i, hi, rfl⟩ := List.mem_map.mp hl
      exact tlT_P hP m _ (i3 i (List.mem_range.mp hi)) q hql
theorem isR_fl : ∀ Z : List (List Int), (∀ x ∈ Z, isR a 1 x) → isR a (Z.length : Int) Z.flatten
  | [], _ => rfl
  | z :: Z, h => by
    have ih := isR_fl Z (fun x hx => h x (List.mem_cons_of_mem _ hx))
    have := isR_app z Z.flatten 1 (Z.length : Int) (by omega) (h z List.mem_cons_self) ih
    rw [show (1 : Int) + (Z.length : Int) = ((z :: Z).length : Int) by rw [List.length_cons]; omega] at this
    exact this
theorem spl_fl : ∀ Z : List (List Int), (∀ x ∈ Z, isR a 1 x) → spl a Z.length Z.flatten = Z
  | [], _ => rfl
  | z :: Z, h => by
    show (tkT a 1 (z ++ Z.flatten)).1 :: spl a Z.length (tkT a 1 (z ++ Z.flatten)).2 = z :: Z
    rw [tkT_app z Z.flatten 1 (h z List.mem_cons_self), spl_fl Z (fun x hx => h x (List.mem_cons_of_mem _ hx))]
theorem argT_fl (hc : ar c = (Z.length : Int)) (hZ : ∀ x ∈ Z, isR ar 1 x) : argT ar (c :: Z.flatten) = Z := by
  show spl ar (ar c).toNat Z.flatten = Z
  rw [hc, Int.toNat_natCast]
  exact spl_fl Z hZ
theorem isR_cfl (hc : ar c = (Z.length : Int)) (hZ : ∀ x ∈ Z, isR ar 1 x) : isR ar 1 (c :: Z.flatten) := by
  refine ⟨by decide, by omega, ?_⟩
  rw [show (1 : Int) + ar c - 1 = (Z.length : Int) by omega]
  exact isR_fl Z hZ
/-- a tree, resolved: all its elements lie ahead of A -/
def yRw (K L : Int → Int) (B : Int) (s : yS) (w : Nat → Int → List Int) (A : Int) (m : Nat) (x y t : Int) : Prop := yRv K L B s w m x y t ∧ ∀ j : Int, x ≤ j → j < y → (s.2.1 231 j.toNat).toInt + (s.2.1 232 j.toNat).toInt ≤ A
theorem z_mono {z : Nat → Int} : ∀ (n : Nat), (∀ i, i < n → z i < z (i + 1)) → ∀ i, i ≤ n → z 0 ≤ z i ∧ z i ≤ z n
  | 0, _, i, hi => by
    have : i = 0 := by omega
    rw [this]
    omega
  | n + 1, h, i, hi => by
    have h0 := h n (by omega)
    have ih := z_mono n (fun j hj => h j (by omega))
    by_cases e : i = n + 1
    · have := ih n (by omega)
      rw [e]
      omega
    · have := ih i (by omega)
      omega
/-- the TYPES behind a TYPE's name -/
theorem yRw_ch (h : yRw K L B s w A (m + 1) x y t) (hp : K (t + 1) = 91 → 1 ≤ NT K L (t + 1)) : ∃ z : Nat → Int, (s.2.1 226 x.toNat).toInt = (ntc K L t : Int) ∧ (s.2.1 224 x.toNat).toInt = (if 0 < ntc K L t then z 0 else -1) ∧ ∀ i, i < ntc K L t → yRw K L B s w A m (z i) (z (i + 1)) (uS (nxT K L) (t + 2) i) ∧ (0 ≤ z i ∧ z i < z (i + 1)) ∧ (s.2.1 225 (z i).toNat).toInt = (if i + 1 < ntc K L t then z (i + 1) else -1) := by
  obtain ⟨⟨h1, h2, h3, h4⟩, hb⟩ := h
  by_cases hK : K (t + 1) = 91
  · rw [if_pos hK] at h4
    obtain ⟨k1, k2, z, u, z0, zc, u0, k3, k4, k5⟩ := h4
    have en : ntc K L t = NT K L (t + 1) := if_pos hK
    have hn := hp hK
    have zm := z_mono (z := z) (NT K L (t + 1)) (fun i hi => (k3 i hi).2.2.2)
    have hu : ∀ i, i ≤ NT K L (t + 1) → u i = uS (nxT K L) (t + 2) i := fun i => by
      induction i with
      | zero => exact fun _ => u0
      | succ i ih =>
        intro hi
        rw [(k3 i (by omega)).2.1, ih (by omega)]
        rfl
    refine ⟨z, by rw [en]; exact k1, by rw [en, if_pos (by omega), z0]; exact k2, fun i hi => ?_⟩
    rw [en] at hi
    obtain ⟨q1, q2, q3⟩ := k3 i hi
    have m1 := zm i (by omega)
    have m2 := zm (i + 1) (by omega)
    refine ⟨⟨?_, fun j j1 j2 => hb j (by omega) (by omega)⟩, q3, ?_⟩
    · rw [← hu i (by omega)]
      exact q1
    · rw [en]
      by_cases hl : i + 1 < NT K L (t + 1)
      · rw [if_pos hl]
        exact k4 i hl
      · rw [if_neg hl]
        have := k5 (by omega)
        rw [show NT K L (t + 1) - 1 = i by omega] at this
        exact this
  · rw [if_neg hK] at h4
    have en : ntc K L t = 0 := if_neg hK
    refine ⟨fun _ => 0, by rw [en]; exact h4.1, by rw [en, if_neg (by omega)]; exact h4.2.1, fun i hi => ?_⟩
    rw [en] at hi
    exact absurd hi (Nat.not_lt_zero _)
theorem yRw_w (h : WFr T e1 s s') (hA : A ≤ T) : ∀ (m : Nat) (x y t : Int), yRw K L B s w A m x y t → yRw K L B s' w A m x y t := by
  have r : ∀ q, q < 264 → s'.2.1 q = s.2.1 q := fun q hq => funext fun j => h.2.2.1 q j (Or.inl hq)
  have key : ∀ (m : Nat) (x y t : Int), yRw K L B s w A m x y t → yRv K L B s' w m x y t := by
    intro m
    induction m with
    | zero => exact fun x y t g => g.1
    | succ m ih =>
      intro x y t g
      obtain ⟨⟨h1, h2, h3, h4⟩, hb⟩ := g
      refine ⟨h1, by rw [r 222 (by decide)]; exact h2, ?_, ?_⟩
      · obtain ⟨p1, p2, p3⟩ := h3
        have hx := hb x (by omega) (by omega)
        refine ⟨by rw [r 231 (by decide)]; exact p1, by rw [r 232 (by decide)]; exact p2, ?_⟩
        rw [r 231 (by decide)]
        intro i c hc
        have hi := (List.getElem?_eq_some_iff.mp hc).1
        rw [h.2.2.2.1 _ (by omega)]
        exact p3 i c hc
      · rw [r 226 (by decide), r 224 (by decide)]
        by_cases hK : K (t + 1) = 91
        · rw [if_pos hK] at h4 ⊢
          obtain ⟨k1, k2, z, u, z0, zc, u0, k3, k4, k5⟩ := h4
          have zm := z_mono (z := z) (NT K L (t + 1)) (fun i hi => (k3 i hi).2.2.2)
          refine ⟨k1, k2, z, u, z0, zc, u0, fun i hi => ?_, ?_, ?_⟩
          · obtain ⟨q1, q2, q3⟩ := k3 i hi
            have m1 := zm i (by omega)
            have m2 := zm (i + 1) (by omega)
            exact ⟨ih _ _ _ ⟨q1, fun j j1 j2 => hb j (by omega) (by omega)⟩, q2, q3⟩
          · rw [r 225 (by decide)]
            exact k4
          · rw [r 225 (by decide)]
            exact k5
        · rw [if_neg hK] at h4 ⊢
          exact h4
  refine fun m x y t g => ⟨key m x y t g, fun j j1 j2 => ?_⟩
  rw [r 231 (by decide), r 232 (by decide)]
  exact g.2 j j1 j2
theorem yRw_x (h : yRw K L B s w A (m + 1) x y t) : (0 ≤ x ∧ x < y) ∧ (s.2.1 222 x.toNat).toInt = B + t ∧ RSe s A x (w (m + 1) t) := by
  obtain ⟨⟨h1, h2, ⟨p1, p2, p3⟩, -⟩, hb⟩ := h
  have := hb x (by omega) (by omega)
  refine ⟨h1, h2, h1.1, ⟨p1, by omega⟩, p2, fun i c hc => ?_⟩
  rw [KI_p (by omega)]
  exact p3 i c hc
/-- the faults of TYPES side by side, with their places -/
theorem bd_sh {mv : List Int → List Int → List Int → Int} {Bf : Int → List (List Int)} {bn : Int → List Int} {tok : Nat → Int} {p q : Nat} : (fun c X j => (fun c X j => bdGs mv Bf bn tok c X (p + j)) c X (q + j)) = fun c X j => bdGs mv Bf bn tok c X (p + q + j) := by
  funext c X j
  show bdGs mv Bf bn tok c X (p + (q + j)) = _
  rw [Nat.add_assoc]
theorem bdD_fs {G : Int → List (List Int) → Nat → List Int} (ha : ∀ c, 0 ≤ ar c) (hZ : ∀ x ∈ Z, isR ar 1 x) {i : Nat} {z : List Int} (hi : Z[i]? = some z) : bdD ar G (Z.take (i + 1)).flatten (Z.take (i + 1)).flatten.length = bdD ar G (Z.take i).flatten (Z.take i).flatten.length ++ bdD ar (fun c X j => G c X ((Z.take i).flatten.length + j)) z z.length := by
  have e1 : Z.take (i + 1) = Z.take i ++ [z] := by
    rw [List.take_succ, hi]
    rfl
  rw [e1, List.flatten_append]
  have e2 : [z].flatten = z := List.append_nil z
  rw [e2, List.length_append]
  exact bdD_app (k := ((Z.take i).length : Int)) ha (isR_fl _ (fun x hx => hZ x (List.mem_of_mem_take hx))) z.length
theorem bdO_nn {G : Int → List (List Int) → Nat → List Int} (hG : ∀ c X j, ∀ v ∈ G c X j, 0 ≤ v) {D : List Int} (e : Nat) : ∀ n : Nat, ∀ v ∈ bdO ar G D e n, 0 ≤ v
  | 0, v, hv => by cases hv
  | n + 1, v, hv => by
    rcases List.mem_append.mp (show v ∈ (if 0 < ar ((subT ar D n).headD 0) ∧ n + (subT ar D n).length = e then G ((subT ar D n).headD 0) (argT ar (subT ar D n)) n else []) ++ bdO ar G D e n from hv) with h | h
    · by_cases q : 0 < ar ((subT ar D n).headD 0) ∧ n + (subT ar D n).length = e
      · rw [if_pos q] at h
        exact hG _ _ _ v h
      · rw [if_neg q] at h
        cases h
    · exact bdO_nn hG e n v h
theorem bdD_nn {G : Int → List (List Int) → Nat → List Int} (hG : ∀ c X j, ∀ v ∈ G c X j, 0 ≤ v) {D : List Int} : ∀ n : Nat, ∀ v ∈ bdD ar G D n, 0 ≤ v
  | 0, v, hv => by cases hv
  | n + 1, v, hv => by
    rcases List.mem_append.mp (show v ∈ bdD ar G D n ++ bdO ar G D (n + 1) (n + 1) from hv) with h | h
    · exact bdD_nn hG n v h
    · exact bdO_nn hG _ _ v h
theorem ffs_nn : ∀ l : List Int, (∀ v ∈ l, 0 ≤ v) → 0 ≤ ffs l
  | [], _ => Int.le_refl _
  | v :: l, h => by
    show 0 ≤ if v = 0 then ffs l else v
    by_cases h0 : v = 0
    · rw [if_pos h0]
      exact ffs_nn l (fun v hv => h v (List.mem_cons_of_mem _ hv))
    · rw [if_neg h0]
      exact h v List.mem_cons_self
end YWT
