/-! ===== the reference: slots resolved, frames by tokens ===== -/
/-- what the telling may write: nodes of tokens in [lo, hi), ty from a on, the scope, structs -/
def RWf (B lo hi a : Int) (s s' : yS) : Prop := (∀ k, ¬ k = 8 → ¬ k = 65 → ¬ k = 76 → ¬ k = 77 → ¬ k = 78 → s'.1 k = s.1 k) ∧ s'.2.2 = s.2.2 ∧ (∀ p, ¬ p = 231 → ¬ p = 232 → ¬ p = 264 → ¬ p = 261 → s'.2.1 p = s.2.1 p) ∧ (∀ p i : Nat, (p = 231 ∨ p = 232) → ¬ (B + lo ≤ (s.2.1 222 i).toInt ∧ (s.2.1 222 i).toInt < B + hi) → s'.2.1 p i = s.2.1 p i) ∧ ∀ i : Nat, (i : Int) < a → s'.2.1 264 i = s.2.1 264 i
/-- the node x of the TYPE at token t was resolved, its elements ahead of A -/
def RSn (K L : Int → Int) (B : Int) (w : Nat → Int → List Int) (s : yS) (A x t : Int) : Prop := ∃ y, yT K L B s 10 x y t ∧ yRv K L B s w 10 x y t ∧ (∀ j : Int, x ≤ j → j < y → (s.2.1 231 j.toNat).toInt + (s.2.1 232 j.toNat).toInt ≤ A) ∧ ∀ j : Int, x ≤ j → j < y → 10 + 4100 * (B / 4002) ≤ (s.2.1 231 j.toNat).toInt
section WRT
variable {d : Nat} {s s' s'' : yS} {B b b0 b1 n : Int} {K L W ar kd : Int → Int} {hf tp TN : List Int} {lo hi lo' hi' a a' A A' x y t : Int} {w : Nat → Int → List Int}
theorem RWf_rf : RWf B lo hi a s s := ⟨fun _ _ _ _ _ _ => rfl, rfl, fun _ _ _ _ _ => rfl, fun _ _ _ _ => rfl, fun _ _ => rfl⟩
theorem RWf_tr (h : RWf B lo hi a s s') (g : RWf B lo' hi' a' s' s'') (h1 : lo ≤ lo') (h2 : hi' ≤ hi) (h3 : a ≤ a') : RWf B lo hi a s s'' := by
  have e222 : s'.2.1 222 = s.2.1 222 := h.2.2.1 222 (by decide) (by decide) (by decide) (by decide)
  refine ⟨fun k w1 w2 w3 w4 w5 => (g.1 k w1 w2 w3 w4 w5).trans (h.1 k w1 w2 w3 w4 w5), g.2.1.trans h.2.1, fun p w1 w2 w3 w4 => (g.2.2.1 p w1 w2 w3 w4).trans (h.2.2.1 p w1 w2 w3 w4), fun p i hp wn => (g.2.2.2.1 p i hp ?_).trans (h.2.2.2.1 p i hp wn), fun i hi => (g.2.2.2.2 i (by omega)).trans (h.2.2.2.2 i hi)⟩
  rw [e222]
  exact fun q => wn (by omega)
theorem RWf_mo (h : RWf B lo' hi' a' s s') (h1 : lo ≤ lo') (h2 : hi' ≤ hi) (h3 : a ≤ a') : RWf B lo hi a s s' := RWf_tr RWf_rf h h1 h2 h3
theorem RWf_8 (h : R8 s s') : RWf B lo hi a s s' := ⟨fun k w _ _ _ _ => h.2 k w, by rw [h.1], fun p _ _ _ _ => by rw [h.1], fun p i _ _ => by rw [h.1], fun i _ => by rw [h.1]⟩
theorem RWf_sf {k : Nat} {v : Int32} (hk : k = 76 ∨ k = 77 ∨ k = 78) : RWf B lo hi a s (sf s k v) := ⟨fun q _ _ w1 w2 w3 => by rw [sfr_1, if_neg (by omega)], rfl, fun _ _ _ _ _ => rfl, fun _ _ _ _ => rfl, fun _ _ => rfl⟩
theorem RWf_r (h : RWf B lo hi a s s') {p : Nat} (h1 : ¬ p = 231) (h2 : ¬ p = 232) (h3 : ¬ p = 264) (h4 : ¬ p = 261) : s'.2.1 p = s.2.1 p := h.2.2.1 p h1 h2 h3 h4
/-- where a number stands in a growing row -/
theorem mono_at {z : Nat → Int} {j : Int} : ∀ c : Nat, z 0 ≤ j → j < z c → ∃ i, i < c ∧ z i ≤ j ∧ j < z (i + 1)
  | 0, h1, h2 => by omega
  | c + 1, h1, h2 => by
    rcases Int.lt_or_le j (z c) with h | h
    · obtain ⟨i, i1, i2, i3⟩ := mono_at c h1 h
      exact ⟨i, by omega, i2, i3⟩
    · exact ⟨c, by omega, h, h2⟩
/-- the nodes of a TYPE have its tokens -/
theorem yT_tok : ∀ (m : Nat) (x y t : Int), m ≤ 10 → yT K L B s m x y t → (p_t K L m false (0, t)).1 = 0 → ∀ j, x ≤ j → j < y → B + t ≤ (s.2.1 222 j.toNat).toInt ∧ (s.2.1 222 j.toNat).toInt < B + nxT K L t
  | 0, _, _, _, _, h, _ => False.elim h
  | m + 1, x, y, t, hm, h, hp => fun j j1 j2 => by
    obtain ⟨h1, h2, h3, h4⟩ := h
    obtain ⟨u1, u2, u3⟩ := pt_u (m := m) (by omega) hp
    have hfw := (pt_fw (m + 1) _ _ hp).2
    have hnx := (pt_g (m + 1) (by omega) false t hp).2.2
    rw [← hnx] at hfw
    have hfw' : t < nxT K L t := hfw
    by_cases ej : j = x
    · rw [ej, h3]
      omega
    · by_cases hk : K (t + 1) = 91
      · rw [if_pos hk] at h4
        obtain ⟨h5, h6, z, u, h7, h8, h9, h10⟩ := h4
        obtain ⟨v1, v2, v3⟩ := u2 hk
        have eE : nxT K L t = uS (nxT K L) (t + 2) (NT K L (t + 1)) := by rw [hnx, v3]
        have eu : ∀ i, i ≤ NT K L (t + 1) → u i = uS (nxT K L) (t + 2) i := by
          intro i
          induction i with
          | zero => exact fun _ => h9
          | succ i ihh =>
            intro hi2
            have := (h10.1 i (by omega)).2.1
            rw [this, ihh (by omega)]
            rfl
        have hmo := uS_mo (nx := nxT K L) (t := t + 2) (N := NT K L (t + 1)) (fun i hi2 => by
          have g1 := v2 i hi2
          have g2 := (pt_g m (by omega) false _ g1).2.2
          have g3 := (pt_fw m _ _ g1).2
          rw [← g2] at g3
          exact g3)
        obtain ⟨i, i1, i2, i3⟩ := mono_at (z := z) (j := j) (NT K L (t + 1)) (by omega) (by omega)
        have g1 := v2 i i1
        rw [← eu i (by omega)] at g1
        have := yT_tok m _ _ _ (by omega) (h10.1 i i1).1 g1 j i2 i3
        have e1 := hmo 0 i (by omega) (by omega)
        have e2 := hmo (i + 1) (NT K L (t + 1)) (by omega) (Nat.le_refl _)
        have e3 : uS (nxT K L) (t + 2) (i + 1) = nxT K L (uS (nxT K L) (t + 2) i) + 1 := rfl
        have e4 : uS (nxT K L) (t + 2) 0 = t + 2 := rfl
        rw [eu i (by omega)] at this
        omega
      · rw [if_neg hk] at h4
        omega
/-- a resolved slot stays -/
theorem RSn_f (h : RSn K L B w s A x t) (hp : (p_t K L 10 false (0, t)).1 = 0) (g : RWf B lo hi a s s') (h1 : nxT K L t ≤ lo ∨ hi ≤ t) (h2 : A ≤ a) : RSn K L B w s' A x t := by
  obtain ⟨y, y1, y2, y3, y4⟩ := h
  have tok := yT_tok 10 x y t (Nat.le_refl _) y1 hp
  have hx0 : 0 ≤ x := y1.1.1
  have same : ∀ p i : Nat, (p = 231 ∨ p = 232) → (x ≤ (i : Int) ∧ (i : Int) < y) → s'.2.1 p i = s.2.1 p i := fun p i hq hi2 => by
    refine g.2.2.2.1 p i hq (fun q => ?_)
    have := tok (i : Int) hi2.1 hi2.2
    rw [Int.toNat_natCast] at this
    omega
  refine ⟨y, yT_eq 10 _ _ _ y1 ⟨fun p i hq _ _ => by rw [g.2.2.1 p (by omega) (by omega) (by omega) (by omega)], fun i _ _ => by rw [g.2.2.1 225 (by decide) (by decide) (by decide) (by decide)]⟩, ?_, fun j j1 j2 => ?_, fun j j1 j2 => ?_⟩
  · by_cases hh : True
    · -- other rows: 261 is no row of a tree
      have key : ∀ (m : Nat) (x y t : Int), yRv K L B s w m x y t → (∀ p i : Nat, (p = 231 ∨ p = 232) → (x ≤ (i : Int) ∧ (i : Int) < y) → s'.2.1 p i = s.2.1 p i) → (∀ j : Int, x ≤ j → j < y → (s.2.1 231 j.toNat).toInt + (s.2.1 232 j.toNat).toInt ≤ A) → yRv K L B s' w m x y t := by
        intro m
        induction m with
        | zero => exact fun _ _ _ q => False.elim q
        | succ m ih =>
          intro x y t q e2 e4
          obtain ⟨q1, q2, ⟨q30, q31, q32⟩, q4⟩ := q
          have hx : x ≤ ((x.toNat : Nat) : Int) ∧ ((x.toNat : Nat) : Int) < y := by omega
          have a1 := e2 231 x.toNat (Or.inl rfl) hx
          have a2 := e2 232 x.toNat (Or.inr rfl) hx
          have a3 := e4 x (Int.le_refl _) q1.2
          refine ⟨q1, by rw [RWf_r g (p := 222) (by decide) (by decide) (by decide) (by decide)]; exact q2, ⟨by rw [a1]; exact q30, by rw [a2]; exact q31, ?_⟩, ?_⟩
          · rw [a1]
            exact SGr_eq (fun i i1 i2 => g.2.2.2.2 i (by omega)) q30 q32
          · rw [RWf_r g (p := 226) (by decide) (by decide) (by decide) (by decide), RWf_r g (p := 224) (by decide) (by decide) (by decide) (by decide)]
            by_cases hk : K (t + 1) = 91
            · rw [if_pos hk] at q4 ⊢
              obtain ⟨h5, h6, z, u, h7, h8, h9, h10⟩ := q4
              refine ⟨h5, h6, z, u, h7, h8, h9, ?_⟩
              have mo := yCh_mono h10
              have rng : ∀ i, i < NT K L (t + 1) → x < z i ∧ z (i + 1) ≤ y := fun i hi2 => by
                have r1 := mo 0 i (by omega) (by omega)
                have r2 := mo (i + 1) (NT K L (t + 1)) (by omega) (Nat.le_refl _)
                omega
              refine yCh_one h10 (fun i hi2 f => ?_) (fun i hi2 => by rw [RWf_r g (p := 225) (by decide) (by decide) (by decide) (by decide)])
              obtain ⟨r1, r2⟩ := rng i hi2
              exact ih _ _ _ f (fun p j hp hj => e2 p j hp (by omega)) (fun j j1 j2 => e4 j (by omega) (by omega))
            · rw [if_neg hk] at q4 ⊢
              exact q4
      exact key 10 x y t y2 same y3
    · exact absurd trivial hh
  · rw [same 231 j.toNat (Or.inl rfl) (by omega), same 232 j.toNat (Or.inr rfl) (by omega)]
    exact y3 j j1 j2
  · rw [same 231 j.toNat (Or.inl rfl) (by omega)]
    exact y4 j j1 j2
theorem RSn_A (h : RSn K L B w s A x t) (hA : A ≤ A') : RSn K L B w s A' x t := by
  obtain ⟨y, y1, y2, y3, y4⟩ := h
  exact ⟨y, y1, y2, fun j j1 j2 => by have := y3 j j1 j2; omega, y4⟩
theorem RVf_W (h : RVf x y a s s') (hT : yT K L B s 10 x y t) (hp : (p_t K L 10 false (0, t)).1 = 0) : RWf B t (nxT K L t) a s s' := by
  have tok := yT_tok 10 x y t (Nat.le_refl _) hT hp
  have hx0 : 0 ≤ x := hT.1.1
  refine ⟨fun k w1 w2 _ _ _ => h.1 k w1 w2, h.2.1, fun p w1 w2 w3 _ => h.2.2.1 p w1 w2 w3, fun p i hq wn => h.2.2.2.1 p i hq (fun q => wn ?_), h.2.2.2.2⟩
  have := tok (i : Int) q.1 q.2
  rw [Int.toNat_natCast] at this
  exact this
/-- what is said of a slot: F its fault, a where its elements begin -/
def RSq (K L : Int → Int) (B : Int) (w : Nat → Int → List Int) (t x F : Int) (s s' : yS) : Prop := RWf B t (nxT K L t) (s.1 65).toInt s s' ∧ (s'.1 76 = s.1 76 ∧ s'.1 77 = s.1 77 ∧ s'.1 78 = s.1 78) ∧ s'.2.1 261 = s.2.1 261 ∧ (s'.1 8).toInt = (if (s.1 8).toInt = 0 then F else (s.1 8).toInt) ∧ ((s'.1 8).toInt = 0 → RSn K L B w s' (s'.1 65).toInt x t ∧ (s.1 65).toInt ≤ (s'.1 65).toInt ∧ (s'.1 65).toInt ≤ (s.1 65).toInt + (nxT K L t - t))
/-- the tables that a scope hangs on stay -/
theorem RVh_W (h : RWf B lo hi a s s') (h6 : s'.1 76 = s.1 76 ∧ s'.1 77 = s.1 77 ∧ s'.1 78 = s.1 78) (g : RVh K L W ar n B b b0 b1 s hf tp TN) : RVh K L W ar n B b b0 b1 s' hf tp TN := by
  obtain ⟨g1, g2, g3, g4, g5⟩ := g
  have r : ∀ p : Nat, ¬ p = 231 → ¬ p = 232 → ¬ p = 264 → ¬ p = 261 → s'.2.1 p = s.2.1 p := h.2.2.1
  refine ⟨?_, ?_, ?_, ?_, ?_⟩
  · unfold WEQ at *
    rw [r 217 (by decide) (by decide) (by decide) (by decide)]
    exact g1
  · unfold RTk at *
    rw [r 217 (by decide) (by decide) (by decide) (by decide), r 215 (by decide) (by decide) (by decide) (by decide), r 216 (by decide) (by decide) (by decide) (by decide)]
    exact g2
  · unfold SCr NTr at *
    rw [r 245 (by decide) (by decide) (by decide) (by decide), r 246 (by decide) (by decide) (by decide) (by decide), r 236 (by decide) (by decide) (by decide) (by decide), r 237 (by decide) (by decide) (by decide) (by decide), r 255 (by decide) (by decide) (by decide) (by decide), r 256 (by decide) (by decide) (by decide) (by decide), h.1 75 (by decide) (by decide) (by decide) (by decide) (by decide), h6.1, h6.2.1, h6.2.2]
    exact g3
  · unfold TNr NTr at *
    rw [r 233 (by decide) (by decide) (by decide) (by decide), r 234 (by decide) (by decide) (by decide) (by decide)]
    exact g4
  · rw [r 236 (by decide) (by decide) (by decide) (by decide)]
    exact g5
end WRT
