/-! ===== the reference: resolve ===== -/
/-- elements of ty, from a on -/
def SGr (s : yS) (a : Int) (l : List Int) : Prop := ∀ (i : Nat) (e : Int), l[i]? = some e → (s.2.1 264 (a + i).toNat).toInt = e
/-- node x was resolved to the elements l -/
def SNr (s : yS) (x : Int) (l : List Int) : Prop := 0 ≤ (s.2.1 231 x.toNat).toInt ∧ (s.2.1 232 x.toNat).toInt = (l.length : Int) ∧ SGr s (s.2.1 231 x.toNat).toInt l
/-- the tree of the TYPE at token t, resolved: w its words -/
def yRv (K L : Int → Int) (B : Int) (s : yS) (w : Nat → Int → List Int) : Nat → Int → Int → Int → Prop
  | 0, _, _, _ => False
  | m + 1, x, y, t => (0 ≤ x ∧ x < y) ∧ (s.2.1 222 x.toNat).toInt = B + t ∧ SNr s x (w (m + 1) t) ∧ (if K (t + 1) = 91 then (s.2.1 226 x.toNat).toInt = (NT K L (t + 1) : Int) ∧ (s.2.1 224 x.toNat).toInt = x + 1 ∧ ych s (yRv K L B s w m) (nxT K L) (NT K L (t + 1)) (x + 1) y (t + 2) else (s.2.1 226 x.toNat).toInt = 0 ∧ (s.2.1 224 x.toNat).toInt = -1 ∧ y = x + 1)
/-- what resolve may write: nodes in [x, y), ty from a on -/
def RVf (x y a : Int) (s s' : yS) : Prop := (∀ k, ¬ k = 8 → ¬ k = 65 → s'.1 k = s.1 k) ∧ s'.2.2 = s.2.2 ∧ (∀ p, ¬ p = 231 → ¬ p = 232 → ¬ p = 264 → s'.2.1 p = s.2.1 p) ∧ (∀ p i : Nat, (p = 231 ∨ p = 232) → ¬ (x ≤ (i : Int) ∧ (i : Int) < y) → s'.2.1 p i = s.2.1 p i) ∧ ∀ i : Nat, (i : Int) < a → s'.2.1 264 i = s.2.1 264 i
def wdT (K L cd ar : Int → Int) (b0 b1 : Int) (m : Nat) (t : Int) : List Int := (tlT K L cd ar m t).2.map (fun p => rhE ar b0 b1 p.1)
section WRS
variable {d : Nat} {s s' s'' : yS} {B b b0 b1 n : Int} {K L W ar : Int → Int} {hf tp TN : List Int} {x y x' y' a a' : Int} {w : Nat → Int → List Int} {l l' : List Int}
theorem RVf_rf : RVf x y a s s := ⟨fun _ _ _ => rfl, rfl, fun _ _ _ _ => rfl, fun _ _ _ _ => rfl, fun _ _ => rfl⟩
theorem RVf_tr (h : RVf x y a s s') (g : RVf x' y' a' s' s'') (h1 : x ≤ x') (h2 : y' ≤ y) (h3 : a ≤ a') : RVf x y a s s'' := ⟨fun k w w' => (g.1 k w w').trans (h.1 k w w'), g.2.1.trans h.2.1, fun p w1 w2 w3 => (g.2.2.1 p w1 w2 w3).trans (h.2.2.1 p w1 w2 w3), fun p i hp w => (g.2.2.2.1 p i hp (fun q => w (by omega))).trans (h.2.2.2.1 p i hp w), fun i hi => (g.2.2.2.2 i (by omega)).trans (h.2.2.2.2 i hi)⟩
theorem RVf_mo (h : RVf x' y' a' s s') (h1 : x ≤ x') (h2 : y' ≤ y) (h3 : a ≤ a') : RVf x y a s s' := RVf_tr RVf_rf h h1 h2 h3
theorem RVf_8 (h : R8 s s') : RVf x y a s s' := ⟨fun k w _ => h.2 k w, by rw [h.1], fun p _ _ _ => by rw [h.1], fun p i _ _ => by rw [h.1], fun i _ => by rw [h.1]⟩
theorem SGr_eq (h : ∀ i : Nat, a ≤ (i : Int) → (i : Int) < a + (l.length : Int) → s'.2.1 264 i = s.2.1 264 i) (ha : 0 ≤ a) (g : SGr s a l) : SGr s' a l := fun i e he => by
  have := (List.getElem?_eq_some_iff.mp he).1
  rw [h (a + i).toNat (by omega) (by omega)]
  exact g i e he
theorem SGr_app (g : SGr s a l) (h : SGr s (a + (l.length : Int)) l') : SGr s a (l ++ l') := fun i c hc => by
  rcases Nat.lt_or_ge i l.length with w | w
  · rw [List.getElem?_append_left w] at hc
    exact g i c hc
  · rw [List.getElem?_append_right w] at hc
    have := h _ c hc
    rw [show a + (l.length : Int) + ((i - l.length : Nat) : Int) = a + (i : Int) by omega] at this
    exact this
/-- a resolved tree hangs on its nodes and its elements -/
theorem yRv_eq : ∀ (m : Nat) (x y t : Int), yRv K L B s w m x y t → (∀ p, ¬ p = 231 → ¬ p = 232 → ¬ p = 264 → s'.2.1 p = s.2.1 p) → (∀ p i : Nat, (p = 231 ∨ p = 232) → (x ≤ (i : Int) ∧ (i : Int) < y) → s'.2.1 p i = s.2.1 p i) → (∀ i : Nat, (i : Int) < a → s'.2.1 264 i = s.2.1 264 i) → (∀ i : Int, x ≤ i → i < y → (s.2.1 231 i.toNat).toInt + (s.2.1 232 i.toNat).toInt ≤ a) → yRv K L B s' w m x y t
  | 0, _, _, _, h, _, _, _, _ => h
  | m + 1, x, y, t, h, e1, e2, e3, e4 => by
    obtain ⟨h1, h2, ⟨h30, h31, h32⟩, h4⟩ := h
    have hx : x ≤ ((x.toNat : Nat) : Int) ∧ ((x.toNat : Nat) : Int) < y := by omega
    have a1 := e2 231 x.toNat (Or.inl rfl) hx
    have a2 := e2 232 x.toNat (Or.inr rfl) hx
    have a3 := e4 x (Int.le_refl _) h1.2
    refine ⟨h1, by rw [e1 222 (by decide) (by decide) (by decide)]; exact h2, ⟨by rw [a1]; exact h30, by rw [a2]; exact h31, ?_⟩, ?_⟩
    · rw [a1]
      exact SGr_eq (fun i i1 i2 => e3 i (by omega)) h30 h32
    · rw [e1 226 (by decide) (by decide) (by decide), e1 224 (by decide) (by decide) (by decide)]
      by_cases hk : K (t + 1) = 91
      · rw [if_pos hk] at h4 ⊢
        obtain ⟨h5, h6, z, u, h7, h8, h9, h10⟩ := h4
        refine ⟨h5, h6, z, u, h7, h8, h9, ?_⟩
        have mo := yCh_mono h10
        have rng : ∀ i, i < NT K L (t + 1) → x < z i ∧ z (i + 1) ≤ y := fun i hi => by
          have a := mo 0 i (by omega) (by omega)
          have b := mo (i + 1) (NT K L (t + 1)) (by omega) (Nat.le_refl _)
          omega
        refine yCh_one h10 (fun i hi f => ?_) (fun i hi => by rw [e1 225 (by decide) (by decide) (by decide)])
        obtain ⟨r1, r2⟩ := rng i hi
        exact yRv_eq m _ _ _ f e1 (fun p j hp hj => e2 p j hp (by omega)) e3 (fun j j1 j2 => e4 j (by omega) (by omega))
      · rw [if_neg hk] at h4 ⊢
        exact h4
/-- what resolve leaves -/
def RVq (K L : Int → Int) (B : Int) (w : Nat → Int → List Int) (m : Nat) (x y t a : Int) (R : Int × List (Int × Int)) (s s' : yS) : Prop := RVf x y a s s' ∧ (s'.1 8).toInt = R.1 ∧ (R.1 = 0 → (s'.1 65).toInt = a + (R.2.length : Int) ∧ yRv K L B s' w m x y t ∧ (∀ i : Int, x ≤ i → i < y → a ≤ (s'.2.1 231 i.toNat).toInt ∧ (s'.2.1 231 i.toNat).toInt + (s'.2.1 232 i.toNat).toInt ≤ a + (R.2.length : Int)) ∧ (s'.2.1 231 x.toNat).toInt = a)
/-- what the text and the tables say -/
def RVh (K L W ar : Int → Int) (n B b b0 b1 : Int) (s : yS) (hf tp TN : List Int) : Prop := WEQ K W B n s ∧ RTk K L B n s ∧ SCr B b s hf tp b0 b1 ∧ TNr B b s TN ∧ ∀ c : Int, 0 ≤ c → c < (TN.length : Int) → (s.2.1 236 (24 * b + c).toNat).toInt = ar c
theorem RVh_f (h : RVf x y a s s') (g : RVh K L W ar n B b b0 b1 s hf tp TN) : RVh K L W ar n B b b0 b1 s' hf tp TN := by
  obtain ⟨g1, g2, g3, g4, g5⟩ := g
  have r : ∀ p : Nat, ¬ p = 231 → ¬ p = 232 → ¬ p = 264 → s'.2.1 p = s.2.1 p := h.2.2.1
  refine ⟨?_, ?_, ?_, ?_, ?_⟩
  · unfold WEQ at *
    rw [r 217 (by decide) (by decide) (by decide)]
    exact g1
  · unfold RTk at *
    rw [r 217 (by decide) (by decide) (by decide), r 215 (by decide) (by decide) (by decide), r 216 (by decide) (by decide) (by decide)]
    exact g2
  · unfold SCr NTr at *
    rw [r 245 (by decide) (by decide) (by decide), r 246 (by decide) (by decide) (by decide), r 236 (by decide) (by decide) (by decide), r 237 (by decide) (by decide) (by decide), r 255 (by decide) (by decide) (by decide), r 256 (by decide) (by decide) (by decide), h.1 75 (by decide) (by decide), h.1 76 (by decide) (by decide), h.1 77 (by decide) (by decide), h.1 78 (by decide) (by decide)]
    exact g3
  · unfold TNr NTr at *
    rw [r 233 (by decide) (by decide) (by decide), r 234 (by decide) (by decide) (by decide)]
    exact g4
  · rw [r 236 (by decide) (by decide) (by decide)]
    exact g5
theorem x_163w {a1 a2 : Int32} {t φ : Int} (ha : a2.toInt = B + t) (hf : (s.1 8).toInt = φ) (hL : (s.2.1 216 (B + t).toNat).toInt = L t) : Par d 163 [.ref 213, .int a1, .int a2] s (fun v s' => v = none ∧ R8 s s' ∧ (s'.1 8).toInt = if φ = 0 then a1.toInt + 16 * L t else φ) := by
  refine Par.imp x_163 ?_
  rintro v s' ⟨rfl, p1, p2, p3, p4⟩
  refine ⟨rfl, ⟨p1.1, fun k hk => ?_⟩, ?_⟩
  · by_cases h7 : k = 7
    · rw [h7, p2]
    · exact p1.2 k h7 hk
  · rw [hf] at p3 p4
    by_cases h0 : φ = 0
    · rw [if_pos h0, p4 h0, ha, hL]
    · rw [if_neg h0, p3 h0, hf]
/-- the fault of a TYPE is none or positive -/
theorem tlS_0 {f : Int → Int × List (Int × Int)} {nx : Int → Int} (hf : ∀ u, ¬ (f u).1 = 0 → (f u).2 = []) : ∀ (k : Nat) (u : Int), ¬ (tlS f nx k u).1 = 0 → (tlS f nx k u).2 = []
  | 0, u, h => rfl
  | k + 1, u, h => by
    rw [tlS_s] at h ⊢
    by_cases h1 : (f u).1 = 0
    · rw [if_pos h1] at h ⊢
      by_cases h2 : (tlS f nx k (nx u + 1)).1 = 0
      · rw [if_pos h2] at h
        exact absurd rfl h
      · rw [if_neg h2]
    · rw [if_neg h1]
theorem tlT_0 {cd : Int → Int} : ∀ (m : Nat) (t : Int), ¬ (tlT K L cd ar m t).1 = 0 → (tlT K L cd ar m t).2 = []
  | 0, t, h => rfl
  | m + 1, t, h => by
    rw [tlT] at h ⊢
    by_cases h1 : cd t < 0
    · rw [if_pos h1]
    · rw [if_neg h1] at h ⊢
      by_cases h2 : ¬ (ntc K L t : Int) = ar (cd t)
      · rw [if_pos h2]
      · rw [if_neg h2] at h ⊢
        by_cases h3 : (tlS (tlT K L cd ar m) (nxT K L) (ntc K L t) (t + 2)).1 = 0
        · rw [if_pos h3] at h ⊢
          by_cases h4 : 60 < (tlS (tlT K L cd ar m) (nxT K L) (ntc K L t) (t + 2)).2.length + 1
          · rw [if_pos h4]
          · rw [if_neg h4] at h
            exact absurd rfl h
        · rw [if_neg h3]
end WRS
section WRV
variable {B b b0 b1 n : Int} {K L W ar : Int → Int} {hf tp TN : List Int}
theorem RV_ok {s s' : yS} {x y a : Int} {p i : Nat} (h : RVf x y a s s') (h1 : ¬ p = 231) (h2 : ¬ p = 232) (h3 : ¬ p = 264) : s'.2.1 p i = s.2.1 p i := by rw [h.2.2.1 p h1 h2 h3]
theorem RVf_a {s : yS} {x y a i : Int} {v : Int32} (hi : x ≤ i ∧ i < y) (h0 : 0 ≤ i) {p : Nat} (hp : p = 231 ∨ p = 232) : RVf x y a s (sa s p i.toNat v) := ⟨fun _ _ _ => rfl, rfl, fun q w1 w2 w3 => by
  funext j
  rw [sa_21, if_neg (fun e => by omega)], fun q j hq w => by rw [sa_21, if_neg (fun e => by omega)], fun j _ => by rw [sa_21, if_neg (fun e => by omega)]⟩
theorem RVf_y {s : yS} {x y a i : Int} {v : Int32} (hi : a ≤ i) (h0 : 0 ≤ i) : RVf x y a s (sa s 264 i.toNat v) := ⟨fun _ _ _ => rfl, rfl, fun q w1 w2 w3 => by
  funext j
  rw [sa_21, if_neg (fun e => w3 e.1)], fun q j hq w => by rw [sa_21, if_neg (fun e => by omega)], fun j hj => by rw [sa_21, if_neg (fun e => by omega)]⟩
theorem RVf_65 {s : yS} {x y a : Int} {v : Int32} : RVf x y a s (sf s 65 v) := ⟨fun k _ w => by rw [sfr_1, if_neg w], rfl, fun _ _ _ _ => rfl, fun _ _ _ _ => rfl, fun _ _ => rfl⟩
set_option maxHeartbeats 4000000 in
theorem x_204 (hX : TXp K L n) (hb : 0 ≤ b) (hB : 0 ≤ B) (wh : ∀ u ∈ hf, wTk K n u) (wt : ∀ u ∈ tp, wTk K n u) (wn : ∀ u ∈ TN, wTk K n u) (lh : hf.length ≤ 6) (lt : tp.length ≤ 6) (ln : TN.length ≤ 24) (hb0 : 1000 ≤ b0) (hb1 : 1000 ≤ b1) (har : ∀ c : Int, 24 ≤ c → ar c = 0) : ∀ (m : Nat), m ≤ 10 → ∀ (d : Nat) (a1 a2 : Int32) (x y t a : Int) (s : yS), a1.toInt = x → a2.toInt = 0 → 0 ≤ t → (p_t K L m false (0, t)).1 = 0 → (p_t K L m false (0, t)).2 ≤ n → yT K L B s m x y t → (s.1 8).toInt = 0 → (s.1 65).toInt = a → 0 ≤ a → RVh K L W ar n B b b0 b1 s hf tp TN → Par d 204 [.ref 213, .int a1, .int a2] s (fun v s' => v = none ∧ RVq K L B (wdT K L (cdOf W hf tp TN) ar b0 b1) m x y t a (tlT K L (cdOf W hf tp TN) ar m t) s s') := by
  intro m
  induction m with
  | zero => exact fun _ d a1 a2 x y t a s _ _ _ h => absurd (show (e_f K L true (0, t)).1 = 0 from h) (fun w => ef_t w)
  | succ m ih =>
    intro hm d a1 a2 x y t a s e1 e2 t0 hp he hT h8 h65 ha hH
    cases d with
    | zero => exact Par_0
    | succ d =>
    obtain ⟨u1, u2, u3⟩ := pt_u (m := m) (by omega) hp
    have hfw := (pt_fw (m + 1) _ _ hp).2
    have hH' := hH
    obtain ⟨hQ, hK, hSC, hTN, hAr⟩ := hH'
    have hn4 := hX.1
    have hLt := hX.2.2 t t0 (by dsimp only at hfw; omega)
    obtain ⟨y1, y2, y3, y4⟩ := hT
    have htn : t ≤ n := by dsimp only at hfw; omega
    have hLr : (s.2.1 216 (B + t).toNat).toInt = L t := (hK t t0 htn).2
    have hcb := cdOf_b (W := W) (t := t) lh lt ln
    have hwd : ∀ q : Int, wdT K L (cdOf W hf tp TN) ar b0 b1 (m + 1) q = (tlT K L (cdOf W hf tp TN) ar (m + 1) q).2.map (fun p => rhE ar b0 b1 p.1) := fun q => rfl
    generalize hE : (p_t K L (m + 1) false (0, t)).2 = E at *
    have hcdq : ∀ q : Int, wTk K n q → (s.2.1 217 (B + q).toNat).toInt = wRf B s q := fun q _ => rfl
    generalize hcd : cdOf W hf tp TN = cd at *
    have hN : (K (t + 1) = 91 ∧ ntc K L t = NT K L (t + 1) ∧ uS (nxT K L) (t + 2) (ntc K L t) = E) ∨ (¬ K (t + 1) = 91 ∧ ntc K L t = 0 ∧ t + 1 = E) := by
      unfold ntc
      by_cases hc : K (t + 1) = 91
      · rw [if_pos hc]
        refine Or.inl ⟨hc, rfl, ?_⟩
        have := (u2 hc).2.2
        rw [← hE, this]
      · rw [if_neg hc]
        refine Or.inr ⟨hc, rfl, ?_⟩
        rw [← hE, u3 hc]
    have hmany : (s.2.1 226 x.toNat).toInt = (ntc K L t : Int) := by
      unfold ntc
      by_cases hc : K (t + 1) = 91
      · rw [if_pos hc] at y4 ⊢
        exact y4.1
      · rw [if_neg hc] at y4 ⊢
        exact y4.1
    generalize hNN : ntc K L t = N at *
    have hN7 : N ≤ 7 := by
      rcases hN with ⟨c1, c2, c3⟩ | ⟨-, c2, -⟩
      · have := (u2 c1).1
        omega
      · omega
    have hR : tlT K L cd ar (m + 1) t = if cd t < 0 then (2 + 16 * L t, []) else if ¬ (N : Int) = ar (cd t) then (4 + 16 * L t, []) else
      if (tlS (tlT K L cd ar m) (nxT K L) N (t + 2)).1 = 0 then (if 60 < (tlS (tlT K L cd ar m) (nxT K L) N (t + 2)).2.length + 1 then (9 + 16 * L t, []) else (0, (cd t, t) :: (tlS (tlT K L cd ar m) (nxT K L) N (t + 2)).2)) else ((tlS (tlT K L cd ar m) (nxT K L) N (t + 2)).1, []) := by
      rw [tlT, hNN]
    have hRf : RVq K L B (wdT K L cd ar b0 b1) (m + 1) x y t a (tlT K L cd ar (m + 1) t) s = fun s' => RVq K L B (wdT K L cd ar b0 b1) (m + 1) x y t a (tlT K L cd ar (m + 1) t) s s' := rfl
    have hwR := hwd t
    generalize hRR : tlT K L cd ar (m + 1) t = R at *
    generalize hTT : tlS (tlT K L cd ar m) (nxT K L) N (t + 2) = T at *
    have hT0 : ¬ T.1 = 0 → T.2 = [] := by
      rw [← hTT]
      exact tlS_0 (fun u => tlT_0 m u) N (t + 2)
    -- a fault that stands already
    have done : ∀ s' : yS, RVf x y a s s' → ¬ R.1 = 0 → (s'.1 8).toInt = R.1 → RVq K L B (wdT K L cd ar b0 b1) (m + 1) x y t a R s s' := fun s' h1 h2 h3 => ⟨h1, h3, fun h => absurd h h2⟩
    refine pb_204 ?_
    unfold ub_204_0
    rw [h8, e1, y3]
    refine ⟨fun _ => ⟨fun _ _ _ => ?_, fun w => absurd e2 w⟩, fun w => absurd (Int.le_refl 0) w⟩
    have hword : 0 ≤ (s.2.1 217 (B + t).toNat).toInt := by
      have := (hK t t0 htn).1
      unfold kR at this
      omega
    unfold ub_204_23
    refine ⟨fun _ => ?_, fun w => absurd hword w⟩
    refine Par.imp (x_203 (n := n) (K := K) (t := t) hQ hb hSC hTN ⟨t0, htn, u1⟩ rfl wh wt wn lh lt ln) ?_
    rintro v2 s1 ⟨hs1, x3, rfl, hx3⟩
    subst hs1
    rw [hcd] at hx3
    refine ⟨x3, rfl, ?_⟩
    -- behind the look at the word, without a fault
    have body : (R = if T.1 = 0 then (if 60 < T.2.length + 1 then (9 + 16 * L t, []) else (0, (cd t, t) :: T.2)) else (T.1, [])) → 0 ≤ cd t → (N : Int) = ar (cd t) → ∀ x0 : Int32, ub_204_68 (Par d) a1 a2 x0 x3 s1 (fun v s' => v = none ∧ RVq K L B (wdT K L cd ar b0 b1) (m + 1) x y t a R s1 s') := by
      intro hR1 hc0 hNa x0
      unfold ub_204_68
      rw [h8, e1]
      refine ⟨fun _ r1 s2 hs2 _ x4 hx4 _ _ x5 hx5 _ s4 hs4 _ x6 hx6 s6 hs6 _ => ?_, fun w => absurd (Int.le_refl 0) w⟩
      have f2 : RVf x y a s1 s2 := by rw [hs2]; exact RVf_a ⟨Int.le_refl _, y1.2⟩ y1.1 (Or.inl rfl)
      have e65 : (s2.1 65).toInt = a := by rw [hs2]; exact h65
      have f4 : RVf x y a s2 s4 := by rw [hs4, e65]; exact RVf_y (Int.le_refl _) ha
      have f6 : RVf x y a s4 s6 := by rw [hs6]; exact RVf_65
      have F6 : RVf x y a s1 s6 := RVf_tr (RVf_tr f2 f4 (Int.le_refl _) (Int.le_refl _) (Int.le_refl _)) f6 (Int.le_refl _) (Int.le_refl _) (Int.le_refl _)
      have w8 : (s6.1 8).toInt = 0 := by
        rw [hs6, sfr_1, if_neg (by decide), hs4, hs2]
        exact h8
      have w65 : (s6.1 65).toInt = a + 1 := by
        rw [hs6, sfr_1, if_pos rfl, hx6, hs4, hs2]
        show (s1.1 65).toInt + 1 = a + 1
        rw [h65]
      have w231 : (s6.2.1 231 x.toNat).toInt = a := by
        rw [hs6, hs4]
        show ((sa s2 264 _ x5).2.1 231 x.toNat).toInt = a
        rw [sa_21, if_neg (fun e => by omega), hs2, sa_21, if_pos ⟨rfl, rfl⟩]
        exact h65
      have w264 : (s6.2.1 264 a.toNat).toInt = rhE ar b0 b1 (cd t) := by
        rw [hs6, hs4]
        show ((sa s2 264 _ x5).2.1 264 a.toNat).toInt = _
        rw [sa_21, if_pos ⟨rfl, by rw [e65]⟩, hx5, hx4, hs2, sa_21, if_neg (fun e => by omega), hmany]
        unfold rhE
        omega
      clear hs2 hs4 hs6 f2 f4 f6
      -- the children
      have hch : N = 0 ∧ y = x + 1 ∧ (s6.2.1 224 x.toNat).toInt = -1 ∨ ∃ z u : Nat → Int, 0 < N ∧ K (t + 1) = 91 ∧ z 0 = x + 1 ∧ z N = y ∧ u 0 = t + 2 ∧ yCh s1 (yT K L B s1 m) (nxT K L) N z u ∧ (s6.2.1 224 x.toNat).toInt = x + 1 := by
        rw [RV_ok (p := 224) F6 (by decide) (by decide) (by decide)]
        by_cases hc : K (t + 1) = 91
        · rw [if_pos hc] at y4
          obtain ⟨y5, y6, z, u, y7, y8, y9, y10⟩ := y4
          have eN : N = NT K L (t + 1) := by
            rcases hN with ⟨-, c2, -⟩ | ⟨c1, -⟩
            · exact c2
            · exact absurd hc c1
          have := (u2 hc).1
          rw [← eN] at y8 y10
          exact Or.inr ⟨z, u, by omega, hc, y7, y8, y9, y10, y6⟩
        · rw [if_neg hc] at y4
          refine Or.inl ⟨?_, y4.2.2, y4.2.1⟩
          rcases hN with ⟨c1, -⟩ | ⟨-, c2, -⟩
          · exact absurd c1 hc
          · exact c2
      -- the end: l the words of all children
      have fin : ∀ (s5 : yS) (b5 : Int32) (l : List (Int × Int)), RVf x y a s1 s5 → (s5.2.1 231 x.toNat).toInt = a → (s5.1 65).toInt = a + 1 + (l.length : Int) → (¬ (s5.1 8).toInt = 0 → R.1 = (s5.1 8).toInt) → ((s5.1 8).toInt = 0 → T = (0, l) ∧ SGr s5 a (rhE ar b0 b1 (cd t) :: l.map (fun p => rhE ar b0 b1 p.1)) ∧ (∀ i : Int, x < i → i < y → a ≤ (s5.2.1 231 i.toNat).toInt ∧ (s5.2.1 231 i.toNat).toInt + (s5.2.1 232 i.toNat).toInt ≤ a + 1 + (l.length : Int)) ∧ (K (t + 1) = 91 → ych s5 (yRv K L B s5 (wdT K L cd ar b0 b1) m) (nxT K L) N (x + 1) y (t + 2))) → ub_204_117 (Par d) a1 a2 x0 x3 b5 s5 (fun v s' => v = none ∧ RVq K L B (wdT K L cd ar b0 b1) (m + 1) x y t a R s1 s') := by
        intro s5 b5 l g1 g2 g3 g4 g5
        unfold ub_204_117
        rw [e1]
        intro _ _ x1 hx1 _ s7 hs7 _
        have f7 : RVf x y a s5 s7 := by rw [hs7]; exact RVf_a ⟨Int.le_refl _, y1.2⟩ y1.1 (Or.inr rfl)
        have F7 := RVf_tr g1 f7 (Int.le_refl _) (Int.le_refl _) (Int.le_refl _)
        have v232 : (s7.2.1 232 x.toNat).toInt = (l.length : Int) + 1 := by
          rw [hs7, sa_21, if_pos ⟨rfl, rfl⟩, hx1, g2, g3]
          omega
        have v8 : (s7.1 8).toInt = (s5.1 8).toInt := by rw [hs7]; rfl
        have v222 : (s7.2.1 222 x.toNat).toInt = B + t := by rw [RV_ok (p := 222) F7 (by decide) (by decide) (by decide)]; exact y3
        have vL : (s7.2.1 216 (B + t).toNat).toInt = L t := by rw [RV_ok (p := 216) F7 (by decide) (by decide) (by decide)]; exact hLr
        rw [v232]
        refine ⟨fun w => ⟨rfl, ?_⟩, fun w _ => ?_⟩
        · by_cases h0 : (s5.1 8).toInt = 0
          · obtain ⟨k1, k2, k3, k4⟩ := g5 h0
            have hR2 := hR1
            rw [k1, if_pos rfl, if_neg (show ¬ 60 < l.length + 1 by omega)] at hR2
            refine ⟨F7, by rw [v8, h0, hR2], fun _ => ?_⟩
            rw [hR2]
            have o231 : ∀ i : Nat, s7.2.1 231 i = s5.2.1 231 i := fun i => by rw [hs7, sa_21, if_neg (fun e => by omega)]
            have o232 : ∀ i : Nat, ¬ i = x.toNat → s7.2.1 232 i = s5.2.1 232 i := fun i hi => by rw [hs7, sa_21, if_neg (fun e => hi e.2)]
            have o264 : ∀ i : Nat, s7.2.1 264 i = s5.2.1 264 i := fun i => by rw [hs7, sa_21, if_neg (fun e => by omega)]
            have oth : ∀ p, ¬ p = 231 → ¬ p = 232 → ¬ p = 264 → s7.2.1 p = s5.2.1 p := f7.2.2.1
            refine ⟨?_, ⟨y1, v222, ⟨by rw [o231, g2]; exact ha, ?_, ?_⟩, ?_⟩, fun i i1 i2 => ?_, by rw [o231]; exact g2⟩
            · rw [hs7]
              show (s5.1 65).toInt = a + ((l.length + 1 : Nat) : Int)
              rw [g3]
              omega
            · rw [v232, hwR, hR2]
              show (l.length : Int) + 1 = ((((cd t, t) :: l).map (fun p => rhE ar b0 b1 p.1)).length : Int)
              rw [List.length_map, List.length_cons]
              omega
            · rw [o231, g2, hwR, hR2]
              refine SGr_eq (fun i _ _ => o264 i) ha ?_
              exact k2
            · rw [oth 226 (by decide) (by decide) (by decide), oth 224 (by decide) (by decide) (by decide), RV_ok (p := 226) g1 (by decide) (by decide) (by decide), RV_ok (p := 224) g1 (by decide) (by decide) (by decide)]
              by_cases hc : K (t + 1) = 91
              · rw [if_pos hc] at y4 ⊢
                have eN : N = NT K L (t + 1) := by
                  rcases hN with ⟨-, c2, -⟩ | ⟨c1, -⟩
                  · exact c2
                  · exact absurd hc c1
                refine ⟨y4.1, y4.2.1, ?_⟩
                obtain ⟨z, u, z1, z2, z3, z4⟩ := k4 hc
                rw [← eN]
                have mo := yCh_mono z4
                refine ⟨z, u, z1, z2, z3, yCh_one z4 (fun i hi f => ?_) (fun i hi => by rw [oth 225 (by decide) (by decide) (by decide)])⟩
                have q1 := mo 0 i (by omega) (by omega)
                have q2 := mo (i + 1) N (by omega) (Nat.le_refl _)
                have q3 := (z4.1 i hi).2.2
                exact yRv_eq (a := a + 1 + (l.length : Int)) m _ _ _ f oth (fun p j hp hj => by
                  rcases hp with rfl | rfl
                  · exact o231 j
                  · exact o232 j (by omega)) (fun j _ => o264 j) (fun j j1 j2 => (k3 j (by omega) (by omega)).2)
              · rw [if_neg hc] at y4 ⊢
                exact y4
            · show a ≤ (s7.2.1 231 i.toNat).toInt ∧ (s7.2.1 231 i.toNat).toInt + (s7.2.1 232 i.toNat).toInt ≤ a + ((l.length + 1 : Nat) : Int)
              rw [o231]
              by_cases ei : i = x
              · rw [ei, g2, v232]
                omega
              · rw [o232 _ (by omega)]
                have := k3 i (by omega) i2
                omega
          · exact done s7 F7 (by rw [g4 h0]; exact h0) (by rw [v8, g4 h0])
        · refine Par.imp (x_163w (B := B) (t := t) (φ := (s5.1 8).toInt) (L := L) v222 v8 vL) ?_
          rintro v4 s8 ⟨rfl, p1, p2⟩
          refine ⟨rfl, rfl, ?_⟩
          have F8 := RVf_tr F7 (RVf_8 (x := x) (y := y) (a := a) p1) (Int.le_refl _) (Int.le_refl _) (Int.le_refl _)
          by_cases h0 : (s5.1 8).toInt = 0
          · obtain ⟨k1, -⟩ := g5 h0
            have hR2 := hR1
            rw [k1, if_pos rfl, if_pos (show 60 < l.length + 1 by omega)] at hR2
            rw [if_pos h0, show (9 : Int32).toInt = 9 by decide] at p2
            exact done s8 F8 (by rw [hR2]; show ¬ 9 + 16 * L t = 0; omega) (by rw [p2, hR2])
          · rw [if_neg h0] at p2
            exact done s8 F8 (by rw [g4 h0]; exact h0) (by rw [p2, g4 h0])
      rcases hch with ⟨c1, c2, c3⟩ | ⟨z, u, c0, ck, c1, c2, c3, c4, c5⟩
      · -- none
        refine ⟨fun b1' b2' b3' b4' b5' w => b1' = a1 ∧ b2' = a2 ∧ b3' = x0 ∧ b4' = x3 ∧ b5'.toInt = -1 ∧ w = s6, ⟨rfl, rfl, rfl, rfl, c3, rfl⟩, ?_⟩
        rintro b1' b2' b3' b4' b5' w ⟨g1, g2, g3, g4, g5, g6⟩
        subst g1 g2 g3 g4 g6
        unfold ub_204_102
        refine ⟨fun _ => fin w b5' [] F6 w231 (by rw [w65]; show a + 1 = a + 1 + ((0 : Nat) : Int); omega) (fun q => absurd w8 q) (fun _ => ⟨?_, ?_, fun i i1 i2 => by omega, fun q => ?_⟩), fun q => by omega⟩
        · rw [← hTT, c1]
          rfl
        · intro i e he
          cases i with
          | zero =>
            have : rhE ar b0 b1 (cd t) = e := by simpa using he
            rw [← this, show a + ((0 : Nat) : Int) = a by omega]
            exact w264
          | succ i => cases he
        · exfalso
          have := (u2 q).1
          rcases hN with ⟨-, c2', -⟩ | ⟨c1', -⟩
          · omega
          · exact absurd q c1'
      · -- one by one
        have eu : ∀ i, i ≤ N → u i = uS (nxT K L) (t + 2) i := by
          intro i
          induction i with
          | zero => exact fun _ => c3
          | succ i ihh =>
            intro hi
            have := (c4.1 i (by omega)).2.1
            rw [this, ihh (by omega)]
            rfl
        have mo := yCh_mono c4
        have hps : ∀ i, i < N → (p_t K L m false (0, u i)).1 = 0 ∧ (p_t K L m false (0, u i)).2 = nxT K L (u i) ∧ u i < nxT K L (u i) := fun i hi => by
          have eN : N = NT K L (t + 1) := by
            rcases hN with ⟨-, c2, -⟩ | ⟨c1, -⟩
            · exact c2
            · exact absurd ck c1
          have h1 := (u2 ck).2.1 i (by omega)
          rw [← eu i (by omega)] at h1
          have h2 := (pt_g m (by omega) false _ h1).2.2
          have h3 := (pt_fw m _ _ h1).2
          rw [h2]
          exact ⟨h1, rfl, h3⟩
        have hmo : ∀ i j, i ≤ j → j ≤ N → uS (nxT K L) (t + 2) i + 2 * ((j : Int) - (i : Int)) ≤ uS (nxT K L) (t + 2) j := uS_mo (fun i hi => by
          have := (hps i hi).2.2
          rw [eu i (by omega)] at this
          exact this)
        have hEN : ∀ i, i < N → t + 2 ≤ u i ∧ nxT K L (u i) + 1 ≤ E := fun i hi => by
          have h1 := hmo (i + 1) N (by omega) (Nat.le_refl _)
          have h2 := hmo 0 i (by omega) (by omega)
          have h3 : uS (nxT K L) (t + 2) (i + 1) = nxT K L (uS (nxT K L) (t + 2) i) + 1 := rfl
          have h4 : uS (nxT K L) (t + 2) 0 = t + 2 := rfl
          rw [eu i (by omega)]
          rcases hN with ⟨-, -, c3'⟩ | ⟨c1', -⟩
          · omega
          · exact absurd ck c1'
        refine ⟨fun b1' b2' b3' b4' b5' w => b1' = a1 ∧ b2' = a2 ∧ b3' = x0 ∧ b4' = x3 ∧ RVf x y a s1 w ∧ (w.2.1 231 x.toNat).toInt = a ∧ ∃ (i : Nat) (l : List (Int × Int)), i ≤ N ∧ (¬ (w.1 8).toInt = 0 → R.1 = (w.1 8).toInt) ∧ ((w.1 8).toInt = 0 → (w.1 65).toInt = a + 1 + (l.length : Int) ∧ b5'.toInt = (if i < N then z i else -1) ∧ SGr w a (rhE ar b0 b1 (cd t) :: l.map (fun p => rhE ar b0 b1 p.1)) ∧ (∀ j : Int, x < j → j < z i → a ≤ (w.2.1 231 j.toNat).toInt ∧ (w.2.1 231 j.toNat).toInt + (w.2.1 232 j.toNat).toInt ≤ a + 1 + (l.length : Int)) ∧ (∀ j, j < i → yRv K L B w (wdT K L cd ar b0 b1) m (z j) (z (j + 1)) (u j)) ∧ T = if (tlS (tlT K L cd ar m) (nxT K L) (N - i) (u i)).1 = 0 then (0, l ++ (tlS (tlT K L cd ar m) (nxT K L) (N - i) (u i)).2) else ((tlS (tlT K L cd ar m) (nxT K L) (N - i) (u i)).1, [])), ⟨rfl, rfl, rfl, rfl, F6, w231, 0, [], Nat.zero_le _, fun q => absurd w8 q, fun _ => ⟨?_, ?_, ?_, fun j j1 j2 => by rw [c1] at j2; omega, fun j hj => by omega, ?_⟩⟩, ?_⟩
        · rw [w65]
          show a + 1 = a + 1 + ((0 : Nat) : Int)
          omega
        · rw [c5, if_pos c0, c1]
        · intro i e he
          cases i with
          | zero =>
            have : rhE ar b0 b1 (cd t) = e := by simpa using he
            rw [← this, show a + ((0 : Nat) : Int) = a by omega]
            exact w264
          | succ i => cases he
        · rw [c3, Nat.sub_zero, hTT, List.nil_append]
          by_cases hq : T.1 = 0
          · rw [if_pos hq]
            exact Prod.ext hq rfl
          · rw [if_neg hq]
            exact Prod.ext rfl (hT0 hq)
        rintro b1' b2' b3' b4' b5' w ⟨g1, g2, g3, g4, g5, g6, i, l, g7, g8, g9⟩
        subst g1 g2 g3 g4
        have toend : ((w.1 8).toInt = 0 → i = N) → ub_204_117 (Par d) b1' b2' b3' b4' b5' w (fun v s' => v = none ∧ RVq K L B (wdT K L cd ar b0 b1) (m + 1) x y t a R s1 s') := by
          intro hiN
          by_cases h0 : (w.1 8).toInt = 0
          · obtain ⟨k1, k2, k3, k4, k5, k6⟩ := g9 h0
            have q := hiN h0
            subst q
            refine fin w b5' l g5 g6 k1 g8 (fun _ => ⟨?_, k3, ?_, fun _ => ⟨z, u, c1, c2, c3, ?_⟩⟩)
            · rw [k6, Nat.sub_self]
              show (if (0 : Int) = 0 then ((0 : Int), l ++ []) else _) = _
              rw [if_pos rfl, List.append_nil]
            · rw [c2] at k4
              exact k4
            · exact yCh_one c4 (fun j hj _ => k5 j hj) (fun j _ => by rw [g5.2.2.1 225 (by decide) (by decide) (by decide)])
          · -- a fault: the numbers do not matter
            unfold ub_204_117
            rw [e1]
            intro _ _ x1 hx1 _ s7 hs7 _
            have f7 : RVf x y a w s7 := by rw [hs7]; exact RVf_a ⟨Int.le_refl _, y1.2⟩ y1.1 (Or.inr rfl)
            have F7 := RVf_tr g5 f7 (Int.le_refl _) (Int.le_refl _) (Int.le_refl _)
            have v8 : (s7.1 8).toInt = (w.1 8).toInt := by rw [hs7]; rfl
            have v222 : (s7.2.1 222 x.toNat).toInt = B + t := by rw [RV_ok (p := 222) F7 (by decide) (by decide) (by decide)]; exact y3
            have vL : (s7.2.1 216 (B + t).toNat).toInt = L t := by rw [RV_ok (p := 216) F7 (by decide) (by decide) (by decide)]; exact hLr
            refine ⟨fun _ => ⟨rfl, done s7 F7 (by rw [g8 h0]; exact h0) (by rw [v8, g8 h0])⟩, fun _ _ => ?_⟩
            refine Par.imp (x_163w (B := B) (t := t) (φ := (w.1 8).toInt) (L := L) v222 v8 vL) ?_
            rintro v4 s8 ⟨rfl, p1, p2⟩
            rw [if_neg h0] at p2
            exact ⟨rfl, rfl, done s8 (RVf_tr F7 (RVf_8 (x := x) (y := y) (a := a) p1) (Int.le_refl _) (Int.le_refl _) (Int.le_refl _)) (by rw [g8 h0]; exact h0) (by rw [p2, g8 h0])⟩
        unfold ub_204_102
        refine ⟨fun q => toend (fun h0 => ?_), fun q => ⟨fun q1 => toend (fun h0 => absurd h0 q1), fun q1 => ?_⟩⟩
        · have k2 := (g9 h0).2.1
          rcases Nat.lt_or_ge i N with h | h
          · rw [if_pos h] at k2
            have := mo 0 i (by omega) (by omega)
            omega
          · omega
        · obtain ⟨k1, k2, k3, k4, k5, k6⟩ := g9 q1
          have hi : i < N := by
            rcases Nat.lt_or_ge i N with h | h
            · exact h
            · rw [if_neg (by omega)] at k2
              omega
          rw [if_pos hi] at k2
          clear g9 toend fin
          obtain ⟨p1, p2, p3⟩ := hps i hi
          obtain ⟨p4, p5⟩ := hEN i hi
          have m0 := mo 0 i (by omega) (by omega)
          have m1 := mo (i + 1) N (by omega) (Nat.le_refl _)
          obtain ⟨n1, n2, n3⟩ := c4.1 i hi
          have hyT : yT K L B w m (z i) (z (i + 1)) (u i) := yT_eq m _ _ _ n1 ⟨fun p j hp _ _ => by rw [g5.2.2.1 p (by omega) (by omega) (by omega)], fun j _ _ => by rw [g5.2.2.1 225 (by decide) (by decide) (by decide)]⟩
          refine Par.imp (ih (by omega) d b5' b2' (z i) (z (i + 1)) (u i) (a + 1 + (l.length : Int)) w k2 e2 (by omega) p1 (by omega) hyT q1 k1 (by omega) (RVh_f g5 hH)) ?_
          rintro v2 s9 ⟨rfl, r1, r2, r3⟩
          refine ⟨rfl, fun _ => ?_⟩
          have ens : N - i = (N - (i + 1)) + 1 := by omega
          rw [ens, tlS_s] at k6
          have f9 := RVf_tr g5 r1 (by omega) (by omega) (by omega)
          have w9 : (s9.2.1 231 x.toNat).toInt = a := by
            rw [r1.2.2.2.1 231 x.toNat (Or.inl rfl) (by omega)]
            exact g6
          refine ⟨rfl, rfl, rfl, rfl, f9, w9, i + 1, l ++ (tlT K L cd ar m (u i)).2, by omega, fun h => ?_, fun h => ?_⟩
          · rw [r2] at h ⊢
            rw [if_neg h] at k6
            have hT1 : ¬ T.1 = 0 := by rw [k6, if_neg h]; exact h
            have hR2 := hR1
            rw [if_neg hT1] at hR2
            rw [hR2, k6, if_neg h]
          · rw [r2] at h
            obtain ⟨r4, r5, r6, r7⟩ := r3 h
            rw [if_pos h] at k6
            have hb5 : (s9.2.1 225 b5'.toInt.toNat).toInt = if i + 1 < N then z (i + 1) else -1 := by
              rw [f9.2.2.1 225 (by decide) (by decide) (by decide), k2]
              by_cases hh : i + 1 < N
              · rw [if_pos hh]
                exact c4.2.1 i hh
              · rw [if_neg hh]
                have := c4.2.2 c0
                rw [show N - 1 = i by omega] at this
                exact this
            refine ⟨?_, hb5, ?_, fun j j1 j2 => ?_, fun j hj => ?_, ?_⟩
            · rw [r4, List.length_append]
              omega
            · rw [List.map_append, ← List.cons_append]
              refine SGr_app (SGr_eq (fun q _ q2 => r1.2.2.2.2 q (by rw [List.length_cons, List.length_map] at q2; omega)) ha k3) ?_
              rw [List.length_cons, List.length_map, show a + ((l.length + 1 : Nat) : Int) = a + 1 + (l.length : Int) by omega]
              have h30 : SNr s9 (z i) (wdT K L cd ar b0 b1 m (u i)) := by
                cases m with
                | zero => exact False.elim r5
                | succ m => exact r5.2.2.1
              have := h30.2.2
              rw [r7] at this
              exact this
            · rw [List.length_append]
              by_cases hj : j < z i
              · rw [r1.2.2.2.1 231 j.toNat (Or.inl rfl) (by omega), r1.2.2.2.1 232 j.toNat (Or.inr rfl) (by omega)]
                have := k4 j j1 hj
                omega
              · have := r6 j (by omega) j2
                omega
            · by_cases ej : j = i
              · rw [ej]
                exact r5
              · have mj := mo (j + 1) i (by omega) (by omega)
                have mj0 := mo 0 j (by omega) (by omega)
                exact yRv_eq (a := a + 1 + (l.length : Int)) m _ _ _ (k5 j (by omega)) (fun p h1 h2 h3 => r1.2.2.1 p h1 h2 h3) (fun p q hp hq => r1.2.2.2.1 p q hp (by omega)) (fun q hq => r1.2.2.2.2 q hq) (fun q q1 q2 => (k4 q (by omega) (by omega)).2)
            · rw [k6]
              have es : nxT K L (u i) + 1 = u (i + 1) := n2.symm
              rw [es]
              by_cases h2 : (tlS (tlT K L cd ar m) (nxT K L) (N - (i + 1)) (u (i + 1))).1 = 0
              · rw [if_pos h2, if_pos h2]
                show (if (0 : Int) = 0 then _ else _) = _
                rw [if_pos rfl, List.append_assoc]
              · rw [if_neg h2, if_neg h2, if_neg h2]
    -- the look at the word
    unfold ub_204_31
    rw [e1]
    have bad : ∀ (q : Int32) (b4 b5 : Int32), (q.toInt = 2 ∨ q.toInt = 4) → R = (q.toInt + 16 * L t, []) → ∀ x9 : Int32, x9.toInt = B + t → Par d 163 [.ref 213, .int q, .int x9] s1 (fun v4 s3 => v4 = none ∧ ub_204_68 (Par d) a1 a2 b4 b5 s3 (fun v s' => v = none ∧ RVq K L B (wdT K L cd ar b0 b1) (m + 1) x y t a R s1 s')) := by
      intro q b4 b5 hq hRq x9 hx9
      refine Par.imp (x_163w (B := B) (t := t) (φ := 0) (L := L) hx9 h8 hLr) ?_
      rintro v4 s3 ⟨rfl, p1, p2⟩
      rw [if_pos rfl] at p2
      refine ⟨rfl, ?_⟩
      unfold ub_204_68
      have hp2 : ¬ (s3.1 8).toInt ≤ 0 := by rw [p2]; omega
      exact ⟨fun w => absurd w hp2, fun _ => ⟨rfl, done s3 (RVf_8 p1) (by rw [hRq]; show ¬ q.toInt + 16 * L t = 0; omega) (by rw [p2, hRq])⟩⟩
    have hrc : rhC b0 b1 (cd t) = if cd t < 24 then cd t else rhC b0 b1 (cd t) := by
      by_cases h : cd t < 24
      · rw [if_pos h]
        unfold rhC
        rw [if_pos h]
      · rw [if_neg h]
    have hrc2 : ¬ cd t < 24 → 1000 ≤ rhC b0 b1 (cd t) := fun h => by
      unfold rhC
      rw [if_neg h]
      split
      · omega
      · split
        · omega
        · omega
    refine ⟨fun w _ => ⟨fun w1 => ?_, fun w1 => ?_⟩, fun w _ => ?_⟩
    · have hc24 : cd t < 24 := by
        rcases Int.lt_or_le (cd t) 24 with h | h
        · exact h
        · have := hrc2 (by omega)
          omega
      rw [if_pos hc24] at hrc
      rw [hSC.1]
      intro _ x1 hx1 _ x2 hx2 _
      have har2 : (s1.2.1 236 x2.toInt.toNat).toInt = ar (cd t) := by
        rw [show x2.toInt = 24 * b + cd t by omega]
        exact hAr _ (by omega) (hcb.2.2.2 hc24)
      unfold ub_204_60
      rw [har2, e1, hmany]
      refine ⟨fun w2 => body ?_ (by omega) w2 _, fun w2 _ => bad 4 _ _ (Or.inr (by decide)) ?_ _ y3⟩
      · rw [hR, if_neg (by omega), if_neg (fun q => q w2)]
      · rw [hR, if_neg (by omega), if_pos w2]
        rfl
    · have hc24 : ¬ cd t < 24 := fun h => by
        rw [if_pos h] at hrc
        omega
      have ha0 := har (cd t) (by omega)
      unfold ub_204_60
      rw [e1, hmany, show (0 : Int32).toInt = 0 by decide]
      refine ⟨fun w2 => body ?_ (by omega) (by rw [ha0]; exact w2) _, fun w2 _ => bad 4 _ _ (Or.inr (by decide)) ?_ _ y3⟩
      · rw [hR, if_neg (by omega), if_neg (fun q => q (by rw [ha0]; exact w2))]
      · rw [hR, if_neg (by omega), if_pos (by rw [ha0]; exact w2)]
        rfl
    · refine bad 2 _ _ (Or.inl (by decide)) ?_ _ y3
      rw [hR, if_pos ?_]
      · rfl
      · rcases Int.lt_or_le (cd t) 24 with h | h
        · rw [if_pos h] at hrc
          omega
        · have := hrc2 (by omega)
          omega
end WRV
