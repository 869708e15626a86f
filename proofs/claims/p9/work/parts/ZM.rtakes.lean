/-! ===== the reference: what an env holds stays; takes ===== -/
/-- a group whose TYPES stand where they stay -/
def GRk (s : yS) (g : Nat) (X : List (List Int)) : Prop := X.length ≤ 6 ∧ ∀ (i : Nat) (Y : List Int), X[i]? = some Y → ∃ x : Int, (s.2.1 267 (6 * g + i)).toInt = x ∧ (s.2.1 268 (6 * g + i)).toInt = (Y.length : Int) ∧ (0 ≤ x ∧ x + (Y.length : Int) ≤ (s.1 64).toInt) ∧ (x + (Y.length : Int) ≤ (s.1 65).toInt ∨ 100000 ≤ x) ∧ RWel s x Y
def EVk (s : yS) (e : Nat) (c0 : Int) (X : List (List Int)) (c1 : Int) (Y : List (List Int)) : Prop := ((s.2.1 265 (2 * e)).toInt = c0 ∧ (s.2.1 266 (2 * e)).toInt = (X.length : Int) ∧ GRk s (2 * e) X) ∧ (s.2.1 265 (2 * e + 1)).toInt = c1 ∧ (s.2.1 266 (2 * e + 1)).toInt = (Y.length : Int) ∧ GRk s (2 * e + 1) Y
/-- what typing an E at nodes x', ahead of y', leaves -/
def EPq (K L ar : Int → Int) (TN Ls : List Int) (B A0 β0 β1 : Int) (S : Scp) (x' y' w : Int) (R : Int × List Int) (Φ : yS → Prop) (s : yS) (v : Option Value) (s' : yS) : Prop := v = none ∧ EF0 (nsD K L Ls) B A0 s s' ∧ (s'.1 8).toInt = R.1 ∧ 0 ≤ R.1 ∧ (R.1 = 0 → EFl s s' ∧ NFx x' y' s s' ∧ (s'.1 65).toInt ≤ (s.1 65).toInt + w ∧ TYp ar (TN.length : Int) β0 β1 (S.2.1.length : Int) (S.1.length : Int) s' (s'.1 80).toInt (s'.1 81).toInt R.2 ∧ Φ s')
section ZMT
variable {K L W ar kd : Int → Int} {n lo hi B b A0 x y β0 β1 : Int} {TN Ls : List Int} {S : Scp} {s s' : yS} {d m g e : Nat} {a1 a2 a3 a4 : Int32} {z z' t c c0 c1 T w : Int} {X Y : List (List Int)} {Z E : List Int} {η : Nat → List Int} {R : Int × List Int}
theorem GRk_f (h : EFl s s') (hg : (g : Int) < 2 * (s.1 70).toInt) (k : GRk s g X) : GRk s' g X := by
  obtain ⟨-, ⟨h5, h6⟩, h7, -, h9⟩ := h
  obtain ⟨k0, k1⟩ := k
  refine ⟨k0, fun i Y hY => ?_⟩
  have hi := (List.getElem?_eq_some_iff.mp hY).1
  obtain ⟨v, v1, v2, v3, v4, v5⟩ := k1 i Y hY
  refine ⟨v, by rw [h9 267 _ (Or.inl rfl) (by omega)]; exact v1, by rw [h9 268 _ (Or.inr rfl) (by omega)]; exact v2, by omega, by omega, fun j q hq => ?_⟩
  have hj := (List.getElem?_eq_some_iff.mp hq).1
  rw [← v5 j q hq, KI_p (by omega), KI_p (by omega), h7 _ (by omega)]
theorem EVk_f (h : EFl s s') (he : (e : Int) < (s.1 70).toInt) (k : EVk s e c0 X c1 Y) : EVk s' e c0 X c1 Y := by
  obtain ⟨⟨k1, k2, k3⟩, k4, k5, k6⟩ := k
  refine ⟨⟨?_, ?_, GRk_f h (by omega) k3⟩, ?_, ?_, GRk_f h (by omega) k6⟩
  · rw [h.2.2.2.1 265 _ (Or.inl rfl) (by omega)]
    exact k1
  · rw [h.2.2.2.1 266 _ (Or.inr rfl) (by omega)]
    exact k2
  · rw [h.2.2.2.1 265 _ (Or.inl rfl) (by omega)]
    exact k4
  · rw [h.2.2.2.1 266 _ (Or.inr rfl) (by omega)]
    exact k5
theorem GRk_e (k : GRk s g X) : GRe s g (s.1 64).toInt X X.length := fun i Y _ hY => by
  obtain ⟨v, v1, v2, v3, -, v5⟩ := k.2 i Y hY
  exact ⟨v, v1, v2, v3, v5⟩
theorem EVk_r (k : EVk s e c0 X c1 Y) : EVr s e (s.1 64).toInt c0 X c1 Y := ⟨⟨k.1.1, k.1.2.1, GRk_e k.1.2.2⟩, k.2.1, k.2.2.1, GRk_e k.2.2.2⟩
set_option maxHeartbeats 1000000 in
/-- group: where its TYPES stand -/
theorem x_189p (hg : 2 * a1.toInt + a2.toInt = (g : Int)) (hw : RWel s a4.toInt (c :: X.flatten)) (hc : c % 8 = (X.length : Int)) (hX : ∀ x ∈ X, isR m8 1 x) (hX6 : X.length ≤ 6) : Par d 189 [.ref 213, .int a1, .int a2, .int a3, .int a4] s (fun v s' => v = none ∧ GRf g s s' ∧ s'.2.1 265 g = a3 ∧ (s'.2.1 266 g).toInt = (X.length : Int) ∧ ∀ (i : Nat) (Y : List Int), X[i]? = some Y → (s'.2.1 267 (6 * g + i)).toInt = a4.toInt + 1 + ((X.take i).flatten.length : Int) ∧ (s'.2.1 268 (6 * g + i)).toInt = (Y.length : Int)) := by
  cases d with
  | zero => exact Par_0
  | succ d =>
    refine pb_189 ?_
    unfold ub_189_0
    intro k0 k1 x1 hx1 _ x2 hx2 _ x3 hx3 k3 s4 hs4 _ s5 hs5 _ x6 hx6
    have ec : (s.2.1 264 a4.toInt.toNat).toInt = c := RWel_at (i := 0) hw rfl (by omega) k0.1
    rw [ec] at hx1
    have eg : x3.toInt.toNat = g := by omega
    rw [eg] at hs4 hs5
    have c5 : ∀ q j, s5.2.1 q j = if q = 266 ∧ j = g then x1 else if q = 265 ∧ j = g then a3 else s.2.1 q j := fun q j => by
      rw [hs5, sa_21, hs4, sa_21]
    have F5 : GRf g s s5 := ⟨by rw [hs5, sa_1r, hs4, sa_1r], by rw [hs5, hs4]; rfl, fun q j h1 h2 => by rw [c5, if_neg (fun z => h1 ⟨Or.inr z.1, z.2⟩), if_neg (fun z => h1 ⟨Or.inl z.1, z.2⟩)]⟩
    have hw1 : RWel s (a4.toInt + 1) X.flatten := fun j c' hj => by
      have := hw (j + 1) c' hj
      rw [show a4.toInt + ((j + 1 : Nat) : Int) = a4.toInt + 1 + (j : Int) by omega] at this
      exact this
    refine ⟨fun b1 b2 b3 b4 b5 b6 b7 b8 u => b5 = x1 ∧ b6 = x3 ∧ GRf g s u ∧ u.2.1 265 g = a3 ∧ u.2.1 266 g = x1 ∧ ∃ i : Nat, b8.toInt = (i : Int) ∧ i ≤ X.length ∧ b7.toInt = a4.toInt + 1 + ((X.take i).flatten.length : Int) ∧ ∀ (i' : Nat) (Y : List Int), i' < i → X[i']? = some Y → (u.2.1 267 (6 * g + i')).toInt = a4.toInt + 1 + ((X.take i').flatten.length : Int) ∧ (u.2.1 268 (6 * g + i')).toInt = (Y.length : Int), ⟨rfl, rfl, F5, by rw [c5, if_neg (fun z => absurd z.1 (by decide)), if_pos ⟨rfl, rfl⟩], by rw [c5, if_pos ⟨rfl, rfl⟩], 0, by decide, Nat.zero_le _, ?_, fun i Y hi => absurd hi (Nat.not_lt_zero _)⟩, ?_⟩
    · rw [List.take_zero]
      show x6.toInt = a4.toInt + 1 + ((0 : Nat) : Int)
      omega
    rintro b1 b2 b3 b4 b5 b6 b7 b8 u ⟨e5, e6, f1, f2, f3, i, g1, g2, g3, g4⟩
    subst e5 e6
    unfold ub_189_29
    refine ⟨fun y => ⟨rfl, f1, f2, by rw [f3]; omega, fun i' Y hY => g4 i' Y ?_ hY⟩, fun y _ y1 hy1 _ y2 hy2 ky s3' hs3 => ?_⟩
    · have := (List.getElem?_eq_some_iff.mp hY).1
      omega
    · have hi : i < X.length := by omega
      obtain ⟨Y, hY⟩ : ∃ Y, X[i]? = some Y := ⟨_, List.getElem?_eq_getElem hi⟩
      have hYR := hX Y (List.mem_of_getElem? hY)
      have wY : RWel s b7.toInt Y := by
        rw [g3]
        exact RWel_fl X i Y _ hw1 hY
      have en : y2.toInt.toNat = 6 * g + i := by omega
      rw [en] at hs3
      have F3 : GRf g s s3' := ⟨by rw [hs3, sa_1r]; exact f1.1, by rw [hs3]; exact f1.2.1, fun q j h1 h2 => by rw [hs3, sa_21, if_neg (fun z => h2 ⟨Or.inl z.1, by omega, by omega⟩)]; exact f1.2.2 q j h1 h2⟩
      refine Par.imp (x_186 (E := Y) hYR (GRf_el F3 wY)) ?_
      rintro v5 s4' ⟨hs4', x6', rfl, hx6'⟩
      refine ⟨x6', rfl, fun _ x7 hx7 _ x8 hx8 _ x9 hx9 kx s10 hs10 _ x11 hx11 => ?_⟩
      have en8 : x8.toInt.toNat = 6 * g + i := by omega
      rw [en8, hs4'] at hs10
      have c10 : ∀ q j, s10.2.1 q j = if q = 268 ∧ j = 6 * g + i then x9 else if q = 267 ∧ j = 6 * g + i then b7 else u.2.1 q j := fun q j => by
        rw [hs10, sa_21, hs3, sa_21]
      have F10 : GRf g s s10 := ⟨by rw [hs10, sa_1r]; exact F3.1, by rw [hs10]; exact F3.2.1, fun q j h1 h2 => by rw [hs10, sa_21, if_neg (fun z => h2 ⟨Or.inr z.1, by omega, by omega⟩)]; exact F3.2.2 q j h1 h2⟩
      have nq : ∀ q j, ¬ q = 267 → ¬ q = 268 → s10.2.1 q j = u.2.1 q j := fun q j h1 h2 => by rw [c10, if_neg (fun z => h2 z.1), if_neg (fun z => h1 z.1)]
      refine ⟨rfl, rfl, F10, by rw [nq _ _ (by decide) (by decide)]; exact f2, by rw [nq _ _ (by decide) (by decide)]; exact f3, i + 1, by omega, by omega, ?_, ?_⟩
      · rw [fl_take hY]
        omega
      · intro i' Y' hi' hY'
        by_cases ei : i' = i
        · rw [ei, hY] at hY'
          have eY : Y = Y' := Option.some.inj hY'
          rw [← eY, ei]
          refine ⟨?_, ?_⟩
          · rw [c10, if_neg (fun z => absurd z.1 (by decide)), if_pos ⟨rfl, rfl⟩]
            exact g3
          · rw [c10, if_pos ⟨rfl, rfl⟩]
            omega
        · obtain ⟨h1, h2⟩ := g4 i' Y' (by omega) hY'
          refine ⟨?_, ?_⟩
          · rw [c10, if_neg (fun z => by omega), if_neg (fun z => by omega)]
            exact h1
          · rw [c10, if_neg (fun z => by omega), if_neg (fun z => by omega)]
            exact h2
/-- the root of a tree -/
theorem ePs_r {f : Int → Int → Int → Int → Prop} {z t : Int} : ∀ (k : Nat) (y a e : Int), ePs K L B s m f z t k y a e → 0 ≤ e ∧ z ≤ e ∧ e < y
  | 0, y, a, e, h => by
    obtain ⟨rfl, h1, -⟩ := h
    have := h1.1
    omega
  | k + 1, y, a, e, h => by
    obtain ⟨y0, a0, e0, h1, -, h2, h3, -⟩ := h
    have := ePs_r k y0 a0 e0 h1
    have := h3.1
    omega
theorem eT_r {z y t e : Int} (h : eT K L B s m z y t e) : 0 ≤ e ∧ z ≤ e ∧ e < y := by
  cases m with
  | zero => exact h.elim
  | succ m =>
    obtain ⟨k, -, h1⟩ := h
    exact ePs_r k _ _ _ h1
/-- firstOf -/
theorem x_178 {z y t : Int} (h : eT K L B s m z y t a1.toInt) : Par d 178 [.ref 213, .int a1] s (fun v s' => s' = s ∧ ∃ r : Int32, v = some (.int r) ∧ r.toInt = B + t) := by
  cases d with
  | zero => exact Par_0
  | succ d =>
    cases m with
    | zero => exact h.elim
    | succ m =>
      obtain ⟨k, -, h1⟩ := h
      refine pb_178 ?_
      unfold ub_178_0
      refine ⟨fun b1 b2 u => u = s ∧ ∃ k y a, ePs K L B s m (eT K L B s m) z t k y a b2.toInt, ⟨rfl, k, y, _, h1⟩, ?_⟩
      rintro b1 b2 u ⟨rfl, k, y, a, h2⟩
      unfold ub_178_2 ub_178_31
      intro _
      cases k with
      | zero =>
        obtain ⟨e1, ⟨h3, h4, h5⟩, -⟩ := h2
        rw [e1]
        refine ⟨fun _ _ => ⟨fun w _ => ⟨rfl, _, rfl, ?_⟩, fun w _ _ => ⟨rfl, _, rfl, ?_⟩⟩, fun w => by omega⟩
        · by_cases hc : K (t + 1) = 123 ∨ K (t + 1) = 91
          · rw [if_pos hc] at h5
            exact absurd h5.1 w
          · rw [if_neg hc] at h5
            exact h5.2.1
        · by_cases hc : K (t + 1) = 123 ∨ K (t + 1) = 91
          · rw [if_pos hc] at h5
            obtain ⟨-, g2, y1, -, g4, -⟩ := h5
            rw [g2]
            cases m with
            | zero => exact g4.elim
            | succ m => exact g4.2.2.1
          · rw [if_neg hc] at h5
            omega
      | succ k =>
        obtain ⟨y0, a0, e0, g1, -, g3, g4, -⟩ := h2
        have hr := ePs_r k _ _ _ g1
        have g227 := g4.2.1
        refine ⟨fun w => by omega, fun _ _ => ⟨rfl, k, y0, a0, ?_⟩⟩
        rw [g227]
        exact g1
theorem exK_b {A : List Int} : exK K L W ar kd TN Ls S A η Z = 0 ∨ exK K L W ar kd TN Ls S A η Z = 7 ∨ exK K L W ar kd TN Ls S A η Z = 9 := by
  unfold exK
  by_cases h : 60 < (sbs η Z).length
  · rw [if_pos h]
    exact Or.inr (Or.inr rfl)
  · rw [if_neg h]
    exact mtV_b
theorem ftk_nn {A : List Int} (h : 0 ≤ L t) : 0 ≤ ftk L (exK K L W ar kd TN Ls S A η Z) t := by
  have := @exK_b K L W ar kd TN Ls S Z η A
  unfold ftk
  by_cases h0 : exK K L W ar kd TN Ls S A η Z = 0
  · rw [if_pos h0]
    exact Int.le_refl _
  · rw [if_neg h0]
    omega
set_option maxHeartbeats 1000000 in
/-- takes -/
theorem x_222 (hW : EWd K L W ar kd TN Ls n lo hi B b β0 β1 S) (hI : EIn K L W ar kd TN Ls n B b A0 x y β0 β1 S s) (hT : eT K L B s m z z' t a1.toInt) (hE : Par d 217 [.ref 213, .int a1] s (EPq K L ar TN Ls B A0 β0 β1 S z z' w R (fun u => eC K L W ar kd TN Ls B β0 β1 S A0 (u.1 65).toInt u m z z' t a1.toInt) s)) (ht : 0 ≤ t ∧ t ≤ n) (hA : (s.1 65).toInt + w ≤ 100000) (hy : ∀ u, EF0 (nsD K L Ls) B A0 s u → RSe u A0 a2.toInt E) (hV : EVk s e c0 X c1 Y) (he : (e : Int) < (s.1 70).toInt) (h3 : a3.toInt = (e : Int)) (hR : E.flatMap (rpt c0 X c1 Y) = (sbs η Z).map (rhE ar β0 β1)) (hZ : isR ar 1 Z) {n1 n2 : Int} (hZc : cdW n1 n2 Z) (hZt : cdT (TN.length : Int) Z) (hη : pOK ar (TN.length : Int) (S.2.1.length : Int) (S.1.length : Int) η Z) : Par (d + 1) 222 [.ref 213, .int a1, .int a2, .int a3] s (fun v s' => v = none ∧ EF0 (nsD K L Ls) B A0 s s' ∧ (s'.1 8).toInt = (if R.1 = 0 then ftk L (exK K L W ar kd TN Ls S R.2 η Z) t else R.1) ∧ 0 ≤ (if R.1 = 0 then ftk L (exK K L W ar kd TN Ls S R.2 η Z) t else R.1) ∧ ((if R.1 = 0 then ftk L (exK K L W ar kd TN Ls S R.2 η Z) t else R.1) = 0 → EFl s s' ∧ NFx z z' s s' ∧ (s'.1 65).toInt ≤ (s.1 65).toInt + w ∧ s'.1 64 = s.1 64 ∧ eC K L W ar kd TN Ls B β0 β1 S A0 (s'.1 65).toInt s' m z z' t a1.toInt)) := by
  have hWs := hW
  obtain ⟨hP, hS, hSP, hB, hb⟩ := hWs
  refine pb_222 ?_
  unfold ub_222_0
  refine Par.imp hE ?_
  rintro v2 s1 ⟨rfl, p1, p2, p2n, p3⟩
  refine ⟨rfl, fun w1 => ?_, fun w1 => ?_⟩
  · rw [p2] at w1
    unfold ub_222_20
    rintro s2 rfl
    rw [if_neg w1]
    refine ⟨rfl, EF0_tr p1 (EF0_sf (by unfold fEx; omega)), ?_, p2n, fun q => absurd q w1⟩
    rw [sfr_1, if_neg (by decide)]
    exact p2
  · rw [p2] at w1
    rw [if_pos w1]
    obtain ⟨q1, q2, q3, q4, q5⟩ := p3 w1
    have hI1 := EIn_f hP p1 q1 hI
    refine Par.imp (x_178 (eT_e p1 _ _ _ _ _ hT)) ?_
    rintro v4 s3 ⟨hs3, x5, rfl, hx5⟩
    subst hs3
    refine ⟨x5, rfl, ?_⟩
    have h100 := hI1.2.2.1.2.1
    have hA0 := hI1.2.2.1.1
    have hee : ((s3.1 70).toInt.toNat : Int) = (s3.1 70).toInt := Int.toNat_of_nonneg hI1.2.2.1.2.2
    obtain ⟨ca, A', eA⟩ : ∃ ca A', R.2 = ca :: A' := by
      cases hR2 : R.2 with
      | nil =>
        rw [hR2] at q4
        exact absurd rfl (isR_ne q4.2.2.2.2.1)
      | cons a l => exact ⟨a, l, rfl⟩
    rw [eA] at q4 ⊢
    have hL : (s3.2.1 216 (B + t).toNat).toInt = L t := (hI1.1.1.2.2.1 t ht.1 ht.2).2
    have h8 : (s3.1 8).toInt = 0 := by rw [p2]; exact w1
    refine Par.imp (x_212 (A := A0) (T := (s3.1 64).toInt) (e := (s3.1 70).toInt.toNat) (e0 := e) (PG_of hP hI1.1) hSP rfl (by omega) hee.symm h8 q4.2.2 q4.2.1 (hy s3 p1) (EVk_r (EVk_f q1 he hV)) h3 hR hZ hZc hZt hη hx5 hL rfl) ?_
    rintro v7 s6 ⟨rfl, o1, ⟨o2, o3⟩, o4⟩
    refine ⟨rfl, ?_⟩
    unfold ub_222_20
    rintro s2 rfl
    have F6 : EF0 (nsD K L Ls) B A0 s s6 := EF0_tr p1 (EF0_wf o1 (by omega))
    have G6 : EFl s s6 := EFl_tr q1 (EFl_wf o1 rfl hee.symm o3 (by rw [o2]; exact Int.le_refl _) (by omega))
    have e65 : s6.1 65 = s3.1 65 := o1.1 65 (by decide) (by decide) (by decide) (by decide) (by decide) (by decide) (by decide)
    refine ⟨rfl, EF0_tr F6 (EF0_sf (by unfold fEx; omega)), ?_, ftk_nn (by have := hP.1.1.2.2 t ht.1 ht.2; omega), fun _ => ⟨EFl_top G6, NFx_tr (x1 := z) (y1 := z') q2 (NFx_tr (x1 := z) (y1 := z') (NFx_wf o1) (NFx_sf (x := z) (y := z')) ⟨Int.le_refl _, Int.le_refl _⟩ ⟨Int.le_refl _, Int.le_refl _⟩) ⟨Int.le_refl _, Int.le_refl _⟩ ⟨Int.le_refl _, Int.le_refl _⟩, ?_, ?_⟩⟩
    · rw [sfr_1, if_neg (by decide)]
      exact o4
    · rw [sfr_1, if_neg (by decide), e65]
      exact q3
    · refine ⟨by rw [sfr_1, if_pos rfl], ?_⟩
      rw [sfr_1, if_neg (by decide), e65]
      exact eC_c m (CFq_tr (CFq_wf o1 (by omega)) CFq_sf) (Int.le_refl _) q5
end ZMT
