/-! ===== names told twice: pure; the reference's small methods ===== -/
def anyW (W : Int → Int) (l : List Int) (t : Int) : Bool := l.any (fun u => decide (W u = W t))
/-- names in their order, and whether each was told ahead -/
def tw1 (W : Int → Int) : List Int → List Int → List (Int × Bool)
  | _, [] => []
  | pre, t :: l => (t, anyW W pre t) :: tw1 W (pre ++ [t]) l
/-- the fault behind them: the first one stays -/
def frst (L : Int → Int) : List (Int × Bool) → Int → Int
  | [], φ => φ
  | p :: l, φ => frst L l (if φ = 0 ∧ p.2 = true then 3 + 16 * L p.1 else φ)
/-- only the fault is written -/
def R8 (s s' : yS) : Prop := s'.2 = s.2 ∧ ∀ k, ¬ k = 8 → s'.1 k = s.1 k
/-- tokens in a row -/
def NTr (B : Int) (s : yS) (p : Nat) (f : Int) (Ls : List Int) : Prop := ∀ (i : Nat) (t : Int), Ls[i]? = some t → (s.2.1 p (f + i).toNat).toInt = B + t
/-- the reference's words -/
def wRf (B : Int) (s : yS) (t : Int) : Int := (s.2.1 217 (B + t).toNat).toInt
section UTW
variable {d : Nat} {s s' s'' : yS} {B : Int} {L W : Int → Int} {p : Nat} {a1 a2 a3 a4 : Int32} {Ls LP pre : List Int} {t : Int} {m : Nat} {f : Int}
theorem R8_rf : R8 s s := ⟨rfl, fun _ _ => rfl⟩
theorem R8_tr (h : R8 s s') (g : R8 s' s'') : R8 s s'' := ⟨g.1.trans h.1, fun k hk => (g.2 k hk).trans (h.2 k hk)⟩
theorem anyW_app {l : List Int} {u : Int} : anyW W (l ++ [u]) t = (anyW W l t || decide (W u = W t)) := by
  unfold anyW
  rw [List.any_append]
  simp
theorem take_s {i : Nat} {u : Int} (h : Ls[i]? = some u) : Ls.take (i + 1) = Ls.take i ++ [u] := by
  rw [List.take_succ, h]
  rfl
theorem rowp (hp : p = 234 ∨ p = 237 ∨ p = 240 ∨ p = 244 ∨ p = 246 ∨ p = 249) : ∃ n, ytab p = some (0, n) := by
  rcases hp with rfl | rfl | rfl | rfl | rfl | rfl
  · exact ⟨_, rfl⟩
  · exact ⟨_, rfl⟩
  · exact ⟨_, rfl⟩
  · exact ⟨_, rfl⟩
  · exact ⟨_, rfl⟩
  · exact ⟨_, rfl⟩
/-- isToldAhead -/
theorem x_198 (hp : p = 234 ∨ p = 237 ∨ p = 240 ∨ p = 244 ∨ p = 246 ∨ p = 249) (h1 : a1.toInt = B + t) (hN : NTr B s p a3.toInt Ls) (h4 : a4.toInt = (m : Int)) (hm : m ≤ Ls.length) : Par d 198 [.ref 213, .int a1, .ref p, .int a3, .int a4] s (fun v s' => s' = s ∧ ∃ r : Int32, v = some (.int r) ∧ ((r.toInt = 1 ∧ anyW (wRf B s) (Ls.take m) t = true) ∨ (r.toInt = 0 ∧ anyW (wRf B s) (Ls.take m) t = false))) := by
  cases d with
  | zero => exact Par_0
  | succ d =>
    obtain ⟨nn, hnn⟩ := rowp hp
    refine pb_198 ?_
    unfold ub_198_0
    refine ⟨fun b1 b2 b3 b4 b5 b6 u => b1 = a1 ∧ b2 = p ∧ b3 = a3 ∧ b4 = a4 ∧ u = s ∧ ∃ i : Nat, b6.toInt = (i : Int) ∧ i ≤ m ∧ ((b5.toInt = 1 ∧ anyW (wRf B s) (Ls.take i) t = true) ∨ (b5.toInt = 0 ∧ anyW (wRf B s) (Ls.take i) t = false)), ⟨rfl, rfl, rfl, rfl, rfl, 0, by decide, Nat.zero_le _, Or.inr ⟨by decide, rfl⟩⟩, ?_⟩
    rintro b1 b2 b3 b4 b5 b6 u ⟨e1, e2, e3, e4, e5, i, g1, g2, g3⟩
    subst e1 e2 e3 e4 e5
    unfold ub_198_4
    refine ⟨fun w _ => ?_, fun w => ?_⟩
    · have : i = m := by omega
      subst this
      exact ⟨rfl, b5, rfl, g3⟩
    · have hi : i < m := by omega
      have hu : Ls[i]? = some Ls[i] := List.getElem?_eq_getElem (by omega)
      have es := take_s hu
      have e1 := hN i _ hu
      have nxt : ∀ c5 : Int32, ((c5.toInt = 1 ∧ anyW (wRf B u) (Ls.take (i + 1)) t = true) ∨ (c5.toInt = 0 ∧ anyW (wRf B u) (Ls.take (i + 1)) t = false)) → ub_198_25 (Par d) (fun b1' b2' b3' b4' b5 b6 u' => b1' = b1 ∧ b2' = b2 ∧ b3' = b3 ∧ b4' = b4 ∧ u' = u ∧ ∃ i : Nat, b6.toInt = (i : Int) ∧ i ≤ m ∧ ((b5.toInt = 1 ∧ anyW (wRf B u) (Ls.take i) t = true) ∨ (b5.toInt = 0 ∧ anyW (wRf B u) (Ls.take i) t = false))) b1 b2 b3 b4 b5 b6 c5 u (fun v s' => s' = u ∧ ∃ r : Int32, v = some (.int r) ∧ ((r.toInt = 1 ∧ anyW (wRf B u) (Ls.take m) t = true) ∨ (r.toInt = 0 ∧ anyW (wRf B u) (Ls.take m) t = false))) := fun c5 hc => by
        unfold ub_198_25
        intro _ x1 hx1
        exact ⟨rfl, rfl, rfl, rfl, rfl, i + 1, by omega, by omega, hc⟩
      refine ⟨fun w5 => ?_, fun w5 _ x1 hx1 => ⟨nn, hnn, fun _ _ _ => ?_⟩⟩
      · unfold ub_198_22
        refine nxt 1 (Or.inl ⟨by decide, ?_⟩)
        rcases g3 with ⟨-, g3⟩ | ⟨g3, -⟩
        · rw [es, anyW_app, g3]
          rfl
        · exact absurd g3 w5
      · have g3' : anyW (wRf B u) (Ls.take i) t = false := by
          rcases g3 with ⟨g3, -⟩ | ⟨-, g3⟩
          · omega
          · exact g3
        rw [show x1.toInt.toNat = (b3.toInt + (i : Int)).toNat by rw [hx1, g1], e1, h1]
        refine ⟨fun w6 => nxt 0 (Or.inr ⟨by decide, ?_⟩), fun w6 => ?_⟩
        · rw [es, anyW_app, g3', Bool.false_or]
          exact decide_eq_false w6
        · unfold ub_198_22
          refine nxt 1 (Or.inl ⟨by decide, ?_⟩)
          rw [es, anyW_app, g3', Bool.false_or]
          exact decide_eq_true w6
/-- paramOf: the first of the func's PARAMS of that word -/
theorem x_200 (h55 : (s.2.1 255 a1.toInt.toNat).toInt = (LP.length : Int)) (h56 : ∀ (i : Nat) (u : Int), LP[i]? = some u → (s.2.1 256 a1.toInt.toNat).toInt + 2 * (i : Int) = B + u) (h2 : a2.toInt = wRf B s t) : Par d 200 [.ref 213, .int a1, .int a2] s (fun v s' => s' = s ∧ ∃ r : Int32, v = some (.int r) ∧ ((0 ≤ r.toInt ∧ r.toInt < (LP.length : Int) ∧ (∃ u, LP[r.toInt.toNat]? = some u ∧ wRf B s u = wRf B s t) ∧ ∀ (i : Nat) (u : Int), (i : Int) < r.toInt → LP[i]? = some u → ¬ wRf B s u = wRf B s t) ∨ (r.toInt = -1 ∧ ∀ (i : Nat) (u : Int), LP[i]? = some u → ¬ wRf B s u = wRf B s t))) := by
  cases d with
  | zero => exact Par_0
  | succ d =>
    refine pb_200 ?_
    unfold ub_200_0
    rw [h55]
    intro _ _ x1 hx1
    refine ⟨fun b1 b2 b3 b4 u => b1 = a1 ∧ b2 = a2 ∧ u = s ∧ ∃ k : Nat, b4.toInt = (k : Int) - 1 ∧ k ≤ LP.length ∧ (((k : Int) ≤ b3.toInt ∧ b3.toInt < (LP.length : Int) ∧ (∃ u, LP[b3.toInt.toNat]? = some u ∧ wRf B s u = wRf B s t) ∧ ∀ (i : Nat) (u : Int), k ≤ i → (i : Int) < b3.toInt → LP[i]? = some u → ¬ wRf B s u = wRf B s t) ∨ (b3.toInt = -1 ∧ ∀ (i : Nat) (u : Int), k ≤ i → LP[i]? = some u → ¬ wRf B s u = wRf B s t)), ⟨rfl, rfl, rfl, LP.length, by omega, Nat.le_refl _, Or.inr ⟨by decide, fun i u hi hu => ?_⟩⟩, ?_⟩
    · rw [List.getElem?_eq_none hi] at hu
      cases hu
    rintro b1 b2 b3 b4 u ⟨e1, e2, e3, k, g1, g2, g3⟩
    subst e1 e2 e3
    unfold ub_200_9
    refine ⟨fun w => ?_, fun w _ _ x2 hx2 _ x3 hx3 _ => ?_⟩
    · have hk : k = 0 := by omega
      subst hk
      refine ⟨rfl, b3, rfl, ?_⟩
      rcases g3 with ⟨c1, c2, c3, c4⟩ | ⟨c1, c2⟩
      · exact Or.inl ⟨by omega, c2, c3, fun i v hi hv => c4 i v (Nat.zero_le _) hi hv⟩
      · exact Or.inr ⟨c1, fun i v hv => c2 i v (Nat.zero_le _) hv⟩
    · obtain ⟨k', rfl⟩ : ∃ k', k = k' + 1 := ⟨k - 1, by omega⟩
      have hv : LP[k']? = some LP[k'] := List.getElem?_eq_getElem (by omega)
      have e5 := h56 k' _ hv
      have ex : x3.toInt = B + LP[k'] := by omega
      rw [ex, h2]
      unfold ub_200_27
      refine ⟨fun w6 _ x4 hx4 => ⟨rfl, rfl, rfl, k', by omega, by omega, ?_⟩, fun w6 _ x4 hx4 => ⟨rfl, rfl, rfl, k', by omega, by omega, ?_⟩⟩
      · rcases g3 with ⟨c1, c2, c3, c4⟩ | ⟨c1, c2⟩
        · refine Or.inl ⟨by omega, c2, c3, fun i v hi hi2 hv2 => ?_⟩
          by_cases ei : i = k'
          · rw [ei, hv] at hv2
            rw [← Option.some.inj hv2]
            exact w6
          · exact c4 i v (by omega) hi2 hv2
        · refine Or.inr ⟨c1, fun i v hi hv2 => ?_⟩
          by_cases ei : i = k'
          · rw [ei, hv] at hv2
            rw [← Option.some.inj hv2]
            exact w6
          · exact c2 i v (by omega) hv2
      · exact Or.inl ⟨by omega, by omega, ⟨LP[k'], by rw [show b4.toInt.toNat = k' by omega]; exact hv, w6⟩, fun i v hi hi2 hv2 => by omega⟩
end UTW
