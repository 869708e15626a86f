/-! ===== the class: findTwice, whole ===== -/
section WSF
variable {K L W : Int → Int} {lo hi n m : Int} {Ls : List Int} {P : Nat} {s : zS}
theorem cn_fn {N : Int} (h : zsz s (P + 26) = 10 * N) (hn : 0 ≤ N) : (s.1 (P + 26) 2 / 10).toInt = N := by
  rw [i_dv (x := s.1 (P + 26) 2) (y := 10) rfl (show (10 : Int32).toInt = 10 by decide) (by decide) (by unfold zsz at h; omega)]
  unfold zsz at h
  omega
theorem cn_dc {N : Int} (h : zsz s (P + 32) = 3 * N) (hn : 0 ≤ N) : (s.1 (P + 32) 2 / 3).toInt = N := by
  rw [i_dv (x := s.1 (P + 32) 2) (y := 3) rfl (show (3 : Int32).toInt = 3 by decide) (by decide) (by unfold zsz at h; omega)]
  unfold zsz at h
  omega
set_option maxHeartbeats 1000000 in
theorem zs_122 (hP : P = 3 ∨ P = 39) (hX : TXp K L n) (hR : RWz K L P s m Ls) (hA : ALz K L P s m Ls) (hC : dcC K L lo hi Ls) (hlo : 0 ≤ lo) (hhi : hi ≤ n) (hm : m ≤ 4000) (hT : kTy K Ls ≤ 24) (hF : kFn K Ls ≤ 60) (hL : KI (s.2 (P + 6)) = L) (hW : KI (s.2 (P + 10)) = W) (hM : ∀ t', t' ∈ Ls → (tMe K L false (0, t')).length ≤ 7) (h14 : (s.1 P 14).toInt = 0) : Zu 12 [(83, 1), (83, 2)] [(75, 0, P), (75, 1, P + 18), (75, 2, P + 22)] [(83, 2, P + 1), (83, 1, P), (75, 0, P), (75, 1, P + 18), (75, 2, P + 22)] 122 [.ref 83, .ref P] s (fun v s' => v = none ∧ s'.2 = s.2 ∧ (∀ b q, ¬ (b = P ∧ q = 14) → s'.1 b q = s.1 b q) ∧ ∃ r, isMn (SA W K L Ls) r ∧ (s'.1 P 14).toInt = if r < 1000000 then 3 + 16 * L r else 0) := by
  have hn4 := hX.1
  have hR' := hR
  obtain ⟨⟨z1, z2, z3, z4, z5⟩, w1, w2, w3, w4⟩ := hR'
  have hLl : Ls.length ≤ 4000 := by
    have := kTF (K := K) Ls
    omega
  have hSlt : ∀ v, SA W K L Ls v → v < 1000000 := fun v hv => by
    have := SA_lt hC hlo (by omega) hv
    omega
  refine zc_122 (d := 3) hP ?_
  unfold v_122_0
  refine ⟨fun _ => ?_, fun q => absurd h14 q⟩
  -- the end
  have fin : ∀ (a2 a3 : Int32), (a2.toInt = 1000000 ∨ AN W K L Ls a2.toInt) → a2.toInt ≤ 1000000 → (∀ a, AN W K L Ls a → a2.toInt ≤ a) → ((1000000 ≤ a2.toInt → v_122_65 (fun j => Zt (3 + 8) (wd P j) j) P a2 a3 s (fun v s' => v = none ∧ s'.2 = s.2 ∧ (∀ b q, ¬ (b = P ∧ q = 14) → s'.1 b q = s.1 b q) ∧ ∃ r, isMn (SA W K L Ls) r ∧ (s'.1 P 14).toInt = if r < 1000000 then 3 + 16 * L r else 0)) ∧ (¬ (1000000 ≤ a2.toInt) → Zt (3 + 8) (wd P 38) 38 [.ref P, .int 3, .int a2] s (fun v1 s2 => v1 = none ∧ v_122_65 (fun j => Zt (3 + 8) (wd P j) j) P a2 a3 s2 (fun v s' => v = none ∧ s'.2 = s.2 ∧ (∀ b q, ¬ (b = P ∧ q = 14) → s'.1 b q = s.1 b q) ∧ ∃ r, isMn (SA W K L Ls) r ∧ (s'.1 P 14).toInt = if r < 1000000 then 3 + 16 * L r else 0)))) := by
    intro a2 a3 g1 g2 g3
    have hmn : isMn (SA W K L Ls) a2.toInt := isMn_of hSlt (fun a ha => AN_1 hC hlo ha) (fun v hv => AN_2 hC hlo hv) ⟨g1, g2, g3⟩
    refine ⟨fun y => ⟨rfl, rfl, fun _ _ _ => rfl, a2.toInt, hmn, ?_⟩, fun y => ?_⟩
    · rw [if_neg (by omega)]
      exact h14
    · have hSA : SA W K L Ls a2.toInt := by
        rcases hmn with ⟨e, -⟩ | ⟨e, -⟩
        · omega
        · exact e
      have hb := SA_lt hC hlo (by omega) hSA
      have hLt := hX.2.2 a2.toInt (by omega) (by omega)
      refine Zt.imp (Zt.mo (d := 9) (by omega) (zs_38b (d := 0) hP (by rw [hL]; omega) (by decide))) ?_
      rintro v1 s2 ⟨rfl, hc⟩
      refine ⟨rfl, ?_⟩
      rcases hc with ⟨-, -, x, hx, hs2⟩ | ⟨hc, -⟩
      · rw [hs2]
        refine ⟨rfl, rfl, fun b q hbq => by rw [zf_1, if_neg hbq], a2.toInt, hmn, ?_⟩
        rw [if_pos (by omega), zf_1, if_pos ⟨rfl, rfl⟩, hx, hL]
        rfl
      · exact absurd ⟨h14, by decide⟩ hc
  -- the funcs
  have l3 : ∀ (b2 : Int32), (b2.toInt = 1000000 ∨ AN W K L Ls b2.toInt) → b2.toInt ≤ 1000000 → (∀ (i : Nat) (t : Int), Ls[i]? = some t → b2.toInt ≤ anD W K L Ls i t) → (∀ (i : Nat) (t : Int), Ls[i]? = some t → ¬ K t = 6 → b2.toInt ≤ anT W K L Ls i t) → vl_122_44 (fun j => Zt (3 + 8) (wd P j) j) P b2 0 s (fun v s' => v = none ∧ s'.2 = s.2 ∧ (∀ b q, ¬ (b = P ∧ q = 14) → s'.1 b q = s.1 b q) ∧ ∃ r, isMn (SA W K L Ls) r ∧ (s'.1 P 14).toInt = if r < 1000000 then 3 + 16 * L r else 0) := by
    intro b2 g1 g2 g3 g4
    refine ⟨fun c2 c3 u => u = s ∧ (c2.toInt = 1000000 ∨ AN W K L Ls c2.toInt) ∧ c2.toInt ≤ b2.toInt ∧ ∃ k : Nat, c3.toInt = (k : Int) ∧ k ≤ kFn K Ls ∧ ∀ (i : Nat) (t : Int), Ls[i]? = some t → K t = 6 → kFn K (Ls.take i) < k → c2.toInt ≤ anF W K L Ls i t, fun _ c3 _ => (60 - c3.toInt).toNat, ⟨rfl, g1, Int.le_refl _, 0, by decide, Nat.zero_le _, fun i t _ _ hk => absurd hk (Nat.not_lt_zero _)⟩, ?_⟩
    rintro c2 c3 u ⟨e1, k1, k2, k, k3, k4, k5⟩
    subst e1
    unfold v_122_44
    rw [cn_fn z2 (by omega)]
    refine ⟨fun y => fin c2 c3 k1 (by omega) (fun a ha => ?_), fun y => ?_⟩
    · obtain ⟨i, t, h1, h2⟩ := ha
      rcases h2 with e | ⟨h6, e⟩ | ⟨h6, e⟩
      · rw [e]
        have := g3 i t h1
        omega
      · rw [e]
        have := g4 i t h1 h6
        omega
      · rw [e]
        have kl := (k_lt (K := K) (L := L) Ls i t h1).2.1
        rw [if_pos h6] at kl
        exact k5 i t h1 h6 (by omega)
    · obtain ⟨t, ht⟩ : ∃ t, (fnL K Ls)[k]? = some t := ⟨_, List.getElem?_eq_getElem (by rw [fnL_len]; omega)⟩
      obtain ⟨i, i1, i2, i3⟩ := fnL_inv Ls k t ht
      refine Zt.imp (Zt.mo (d := 10) (by omega) (zs_127d (d := 0) hP hA hF (by omega) hW i1 i2 (by omega))) ?_
      rintro v3 s4 ⟨e4, x5, rfl, hx5⟩
      refine ⟨x5, rfl, fun x6 hx6 x7 hx7 => ?_⟩
      have e7 := hx7 (by omega)
      refine ⟨⟨e4, ?_, by omega, k + 1, by omega, by omega, fun i' t' h1' h6' hk' => ?_⟩, by dsimp only; omega⟩
      · rcases Int.le_total c2.toInt x5.toInt with hle | hle
        · rw [show x6.toInt = c2.toInt by omega]
          exact k1
        · rw [show x6.toInt = x5.toInt by omega, hx5]
          exact Or.inr ⟨i, t, i1, Or.inr (Or.inr ⟨i2, rfl⟩)⟩
      · by_cases ek : kFn K (Ls.take i') = k
        · have e1' := fnL_at Ls i' t' h1' h6'
          rw [ek, ht] at e1'
          have et : t = t' := Option.some.inj e1'
          have : anF W K L Ls i' t' = anF W K L Ls i t := by
            unfold anF
            rw [ek, ← et, ← i3]
          rw [this, ← hx5]
          omega
        · have := k5 i' t' h1' h6' (by omega)
          omega
  -- the types
  have l2 : ∀ (b2 : Int32), (b2.toInt = 1000000 ∨ AN W K L Ls b2.toInt) → b2.toInt ≤ 1000000 → (∀ (i : Nat) (t : Int), Ls[i]? = some t → b2.toInt ≤ anD W K L Ls i t) → vl_122_29 (fun j => Zt (3 + 8) (wd P j) j) P b2 0 s (fun v s' => v = none ∧ s'.2 = s.2 ∧ (∀ b q, ¬ (b = P ∧ q = 14) → s'.1 b q = s.1 b q) ∧ ∃ r, isMn (SA W K L Ls) r ∧ (s'.1 P 14).toInt = if r < 1000000 then 3 + 16 * L r else 0) := by
    intro b2 g1 g2 g3
    refine ⟨fun c2 c3 u => u = s ∧ (c2.toInt = 1000000 ∨ AN W K L Ls c2.toInt) ∧ c2.toInt ≤ b2.toInt ∧ ∃ k : Nat, c3.toInt = (k : Int) ∧ k ≤ kTy K Ls ∧ ∀ (i : Nat) (t : Int), Ls[i]? = some t → ¬ K t = 6 → kTy K (Ls.take i) < k → c2.toInt ≤ anT W K L Ls i t, fun _ c3 _ => (24 - c3.toInt).toNat, ⟨rfl, g1, Int.le_refl _, 0, by decide, Nat.zero_le _, fun i t _ _ hk => absurd hk (Nat.not_lt_zero _)⟩, ?_⟩
    rintro c2 c3 u ⟨e1, k1, k2, k, k3, k4, k5⟩
    subst e1
    unfold v_122_29
    rw [cn_ty z1 (by omega)]
    refine ⟨fun y => l3 c2 k1 (by omega) (fun i t h1 => by have := g3 i t h1; omega) (fun i t h1 h6 => ?_), fun y => ?_⟩
    · have kl := (k_lt (K := K) (L := L) Ls i t h1).1
      rw [if_neg h6] at kl
      exact k5 i t h1 h6 (by omega)
    · obtain ⟨t, ht⟩ : ∃ t, (tyL K Ls)[k]? = some t := ⟨_, List.getElem?_eq_getElem (by rw [tyL_len]; omega)⟩
      obtain ⟨i, i1, i2, i3⟩ := tyL_inv Ls k t ht
      refine Zt.imp (Zt.mo (d := 10) (by omega) (zs_126d (d := 0) hP hR hA hm hT hW hM i1 i2 (by omega))) ?_
      rintro v3 s4 ⟨e4, x5, rfl, hx5⟩
      refine ⟨x5, rfl, fun x6 hx6 x7 hx7 => ?_⟩
      have e7 := hx7 (by omega)
      refine ⟨⟨e4, ?_, by omega, k + 1, by omega, by omega, fun i' t' h1' h6' hk' => ?_⟩, by dsimp only; omega⟩
      · rcases Int.le_total c2.toInt x5.toInt with hle | hle
        · rw [show x6.toInt = c2.toInt by omega]
          exact k1
        · rw [show x6.toInt = x5.toInt by omega, hx5]
          exact Or.inr ⟨i, t, i1, Or.inr (Or.inl ⟨i2, rfl⟩)⟩
      · by_cases ek : kTy K (Ls.take i') = k
        · have e1' := tyL_at Ls i' t' h1' h6'
          rw [ek, ht] at e1'
          have et : t = t' := Option.some.inj e1'
          have : anT W K L Ls i' t' = anT W K L Ls i t := by
            unfold anT
            rw [ek, ← et, ← i3]
          rw [this, ← hx5]
          omega
        · have := k5 i' t' h1' h6' (by omega)
          omega
  -- the declarations
  refine ⟨fun c2 c3 u => u = s ∧ (c2.toInt = 1000000 ∨ AN W K L Ls c2.toInt) ∧ c2.toInt ≤ 1000000 ∧ ∃ k : Nat, c3.toInt = (k : Int) ∧ k ≤ Ls.length ∧ ∀ (i : Nat) (t : Int), Ls[i]? = some t → i < k → c2.toInt ≤ anD W K L Ls i t, fun _ c3 _ => (4000 - c3.toInt).toNat, ⟨rfl, Or.inl (by decide), by decide, 0, by decide, Nat.zero_le _, fun i t _ hk => absurd hk (Nat.not_lt_zero _)⟩, ?_⟩
  rintro c2 c3 u ⟨e1, k1, k2, k, k3, k4, k5⟩
  subst e1
  unfold v_122_14
  rw [cn_dc z5 (by omega)]
  refine ⟨fun y => l2 c2 k1 k2 (fun i t h1 => k5 i t h1 (by have := (List.getElem?_eq_some_iff.mp h1).1; omega)), fun y => ?_⟩
  obtain ⟨t, h1⟩ : ∃ t, Ls[k]? = some t := ⟨_, List.getElem?_eq_getElem (by omega)⟩
  refine Zt.imp (Zt.mo (d := 10) (by omega) (zs_123d (d := 0) hP hR hA hm hLl hW h1 k3)) ?_
  rintro v3 s4 ⟨e4, x5, rfl, hx5⟩
  refine ⟨x5, rfl, fun x6 hx6 x7 hx7 => ?_⟩
  have e7 := hx7 (by omega)
  refine ⟨⟨e4, ?_, by omega, k + 1, by omega, by omega, fun i' t' h1' hk' => ?_⟩, by dsimp only; omega⟩
  · rcases Int.le_total c2.toInt x5.toInt with hle | hle
    · rw [show x6.toInt = c2.toInt by omega]
      exact k1
    · rw [show x6.toInt = x5.toInt by omega, hx5]
      exact Or.inr ⟨k, t, h1, Or.inl rfl⟩
  · by_cases ek : i' = k
    · rw [ek, h1] at h1'
      rw [ek, ← Option.some.inj h1', ← hx5]
      omega
    · have := k5 i' t' h1' (by omega)
      omega
end WSF
