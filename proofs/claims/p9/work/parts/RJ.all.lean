/-! ===== readAll: the declarations ===== -/
/-- how many types, funcs, heads stand in declarations -/
def kTy (K : Int → Int) : List Int → Nat
  | [] => 0
  | t :: l => (if K t = 6 then 0 else 1) + kTy K l
def kFn (K : Int → Int) : List Int → Nat
  | [] => 0
  | t :: l => (if K t = 6 then 1 else 0) + kFn K l
def kHd (K L : Int → Int) : List Int → Nat
  | [] => 0
  | t :: l => (if K t = 6 then 1 else tNh K L false (0, t)) + kHd K L l
/-- what the declarations Ls left in bank b, heads from h0 on -/
def ALr (K L : Int → Int) (B : Int) (s : yS) (b h0 x y : Int) (Ls : List Int) : Prop := ∀ (i : Nat) (t : Int), Ls[i]? = some t → (K t = 6 → (s.2.1 262 (84 * b + i).toNat).toInt = 100 + (kFn K (Ls.take i) : Int) ∧ FNr K L B s (60 * b + (kFn K (Ls.take i) : Int)) (h0 + (kHd K L (Ls.take i) : Int)) x y t) ∧ (¬ K t = 6 → (s.2.1 262 (84 * b + i).toNat).toInt = (kTy K (Ls.take i) : Int) ∧ TYr K L B s (24 * b + (kTy K (Ls.take i) : Int)) (h0 + (kHd K L (Ls.take i) : Int)) x y t)
section RAL
variable {d : Nat} {K L : Int → Int} {B n N N' x y : Int} {s s' s'' t : yS} {σ ρ τ : RSt} {D G h h0 e b k q : Int} {Ls : List Int} {W : Nat → Nat → Prop} {p i : Nat}
theorem kTy_app : ∀ l : List Int, kTy K (l ++ [q]) = kTy K l + (if K q = 6 then 0 else 1)
  | [] => by show _ + 0 = 0 + _; omega
  | t :: l => by
    show (if K t = 6 then 0 else 1) + kTy K (l ++ [q]) = (if K t = 6 then 0 else 1) + kTy K l + _
    rw [kTy_app l]
    omega
theorem kFn_app : ∀ l : List Int, kFn K (l ++ [q]) = kFn K l + (if K q = 6 then 1 else 0)
  | [] => by show _ + 0 = 0 + _; omega
  | t :: l => by
    show (if K t = 6 then 1 else 0) + kFn K (l ++ [q]) = (if K t = 6 then 1 else 0) + kFn K l + _
    rw [kFn_app l]
    omega
theorem kHd_app : ∀ l : List Int, kHd K L (l ++ [q]) = kHd K L l + (if K q = 6 then 1 else tNh K L false (0, q))
  | [] => by show _ + 0 = 0 + _; omega
  | t :: l => by
    show (if K t = 6 then 1 else tNh K L false (0, t)) + kHd K L (l ++ [q]) = (if K t = 6 then 1 else tNh K L false (0, t)) + kHd K L l + _
    rw [kHd_app l]
    omega
theorem kTF : ∀ l : List Int, kTy K l + kFn K l = l.length
  | [] => rfl
  | t :: l => by
    show (if K t = 6 then 0 else 1) + kTy K l + ((if K t = 6 then 1 else 0) + kFn K l) = l.length + 1
    have := kTF l
    by_cases h : K t = 6
    · rw [if_pos h, if_pos h]
      omega
    · rw [if_neg h, if_neg h]
      omega
/-- one more ahead of the end: counts grow -/
theorem k_lt : ∀ (l : List Int) (i : Nat) (t : Int), l[i]? = some t → kTy K (l.take i) + (if K t = 6 then 0 else 1) ≤ kTy K l ∧ kFn K (l.take i) + (if K t = 6 then 1 else 0) ≤ kFn K l ∧ kHd K L (l.take i) + (if K t = 6 then 1 else tNh K L false (0, t)) ≤ kHd K L l
  | [], i, t, h => by cases h
  | a :: l, 0, t, h => by
    have : a = t := by simpa using h
    subst this
    show 0 + _ ≤ _ + kTy K l ∧ 0 + _ ≤ _ + kFn K l ∧ 0 + _ ≤ _ + kHd K L l
    omega
  | a :: l, i + 1, t, h => by
    obtain ⟨h1, h2, h3⟩ := k_lt l i t (by simpa using h)
    show (if K a = 6 then 0 else 1) + kTy K (l.take i) + _ ≤ (if K a = 6 then 0 else 1) + kTy K l ∧ (if K a = 6 then 1 else 0) + kFn K (l.take i) + _ ≤ (if K a = 6 then 1 else 0) + kFn K l ∧ (if K a = 6 then 1 else tNh K L false (0, a)) + kHd K L (l.take i) + _ ≤ (if K a = 6 then 1 else tNh K L false (0, a)) + kHd K L l
    omega
theorem W180_h (hk : k < h) (w : W183 k p i) : ¬ W180 D h e b p i := fun q => by
  have lo := W183_lo w
  rcases q with q | q | q | q | q | q
  · omega
  · omega
  · rcases w with w | w
    · omega
    · omega
  · rcases w with w | w
    · omega
    · omega
  · omega
  · omega
theorem W184_h (hk : k < h) (w : W183 k p i) : ¬ W184 G h e b p i := fun q => by
  have lo := W183_lo w
  rcases q with q | q | q | q | q
  · omega
  · rcases w with w | w
    · omega
    · omega
  · rcases w with w | w
    · omega
    · omega
  · omega
  · omega
/-- a type's own rows -/
theorem W180_t {D' : Int} (hD : D < D') (hp : (((234 ≤ p ∧ p ≤ 236) ∨ p = 239 ∨ p = 242 ∨ p = 243) ∧ (i : Int) = D) ∨ ((p = 237 ∨ p = 238 ∨ p = 240 ∨ p = 241) ∧ 6 * D ≤ (i : Int) ∧ (i : Int) < 6 * D + 6)) : ¬ W180 D' h e b p i := fun q => by
  rcases q with q | q | q | q | q | q
  · omega
  · omega
  · omega
  · omega
  · omega
  · omega
theorem W184_t (hp : 234 ≤ p ∧ p ≤ 243) : ¬ W184 G h e b p i := fun q => by
  rcases q with q | q | q | q | q
  · omega
  · omega
  · omega
  · omega
  · omega
theorem W180_f (hp : 253 ≤ p ∧ p ≤ 258) : ¬ W180 D h e b p i := fun q => by
  rcases q with q | q | q | q | q | q
  · omega
  · omega
  · omega
  · omega
  · omega
  · omega
theorem W184_f {G' : Int} (hG : G < G') (hp : 253 ≤ p ∧ p ≤ 258) (hi : (i : Int) = G) : ¬ W184 G' h e b p i := fun q => by
  rcases q with q | q | q | q | q
  · omega
  · omega
  · omega
  · omega
  · omega
theorem W180_e (he : (i : Int) < e) : ¬ W180 D h e b 262 i := fun q => by
  rcases q with q | q | q | q | q | q
  · omega
  · omega
  · omega
  · omega
  · omega
  · omega
theorem W184_e (he : (i : Int) < e) : ¬ W184 G h e b 262 i := fun q => by
  rcases q with q | q | q | q | q
  · omega
  · omega
  · omega
  · omega
  · omega
theorem tNh_eq {t : Int} : (if tSt K L false (0, t) = true then 0 else ((tMe K L false (0, t)).length : Int)) = (tNh K L false (0, t) : Int) := by
  unfold tNh
  by_cases h : tSt K L false (0, t) = true
  · rw [if_pos h, if_pos h]
    rfl
  · rw [if_neg h, if_neg h]
/-- the declarations stay: what is written lies behind them -/
theorem ALr_fr (hb : 0 ≤ b) (hh : 0 ≤ h0) (hW : ∀ p i, W p i → noR p) (g : GFx N W s s') (hy : y ≤ N) (w1 : ∀ (D : Int) (p i : Nat), D < 24 * b + (kTy K Ls : Int) → 0 ≤ D → ((((234 ≤ p ∧ p ≤ 236) ∨ p = 239 ∨ p = 242 ∨ p = 243) ∧ (i : Int) = D) ∨ ((p = 237 ∨ p = 238 ∨ p = 240 ∨ p = 241) ∧ 6 * D ≤ (i : Int) ∧ (i : Int) < 6 * D + 6)) → ¬ W p i) (w2 : ∀ (k : Int) (p i : Nat), k < h0 + (kHd K L Ls : Int) → W183 k p i → ¬ W p i) (w3 : ∀ p i : Nat, 253 ≤ p ∧ p ≤ 258 → (i : Int) < 60 * b + (kFn K Ls : Int) → ¬ W p i) (w4 : ∀ i : Nat, (i : Int) < 84 * b + (Ls.length : Int) → ¬ W 262 i) (a : ALr K L B s b h0 x y Ls) : ALr K L B s' b h0 x y Ls := fun i t ht => by
  obtain ⟨a1, a2⟩ := a i t ht
  obtain ⟨c1, c2, c3⟩ := k_lt (K := K) (L := L) Ls i t ht
  have hi : i < Ls.length := by
    rcases Nat.lt_or_ge i Ls.length with h | h
    · exact h
    · rw [List.getElem?_eq_none h] at ht
      cases ht
  refine ⟨fun hk => ?_, fun hk => ?_⟩
  · rw [if_pos hk] at c1 c2 c3
    obtain ⟨b1, b2⟩ := a1 hk
    refine ⟨by rw [GFx_rd g (by omega) (w4 _ (by omega))]; exact b1, FNr_fr hW (by omega) g hy (fun p p1 p2 => w3 p _ ⟨p1, p2⟩ (by omega)) (fun p j w => w2 _ p j (by omega) w) b2⟩
  · rw [if_neg hk] at c1 c2 c3
    obtain ⟨b1, b2, b3⟩ := a2 hk
    have hl : tSt K L false (0, t) = false → ((tMe K L false (0, t)).length : Int) = (tNh K L false (0, t) : Int) := fun hs => by
      rw [← tNh_eq, if_neg (by rw [hs]; decide)]
    refine ⟨by rw [GFx_rd g (by omega) (w4 _ (by omega))]; exact b1, TYb_fr hW (by omega) g hy (fun p j w => w1 (24 * b + (kTy K (Ls.take i) : Int)) p j (by omega) (by omega) (by omega)) b2, TYm_fr hW (by omega) (by omega) g hy (fun p j w => w1 (24 * b + (kTy K (Ls.take i) : Int)) p j (by omega) (by omega) (by omega)) (fun hs k k1 k2 p j w => w2 k p j (by have := hl hs; omega) w) b3⟩
theorem ALr_wi {x' y' : Int} (hx : x' ≤ x) (hy : y ≤ y') (a : ALr K L B s b h0 x y Ls) : ALr K L B s b h0 x' y' Ls := fun i t ht => by
  obtain ⟨a1, a2⟩ := a i t ht
  exact ⟨fun hk => ⟨(a1 hk).1, FNr_wi hx hy (a1 hk).2⟩, fun hk => ⟨(a2 hk).1, TYb_wi hx hy (a2 hk).2.1, TYm_wi hx hy (a2 hk).2.2⟩⟩
theorem ALr_nil : ALr K L B s b h0 x y [] := fun i t ht => by cases ht
theorem ALr_add (a : ALr K L B s b h0 x y Ls) (h1 : K q = 6 → (s.2.1 262 (84 * b + (Ls.length : Int)).toNat).toInt = 100 + (kFn K Ls : Int) ∧ FNr K L B s (60 * b + (kFn K Ls : Int)) (h0 + (kHd K L Ls : Int)) x y q) (h2 : ¬ K q = 6 → (s.2.1 262 (84 * b + (Ls.length : Int)).toNat).toInt = (kTy K Ls : Int) ∧ TYr K L B s (24 * b + (kTy K Ls : Int)) (h0 + (kHd K L Ls : Int)) x y q) : ALr K L B s b h0 x y (Ls ++ [q]) := fun i t ht => by
  by_cases hi : i < Ls.length
  · rw [List.getElem?_append_left hi] at ht
    have e : (Ls ++ [q]).take i = Ls.take i := by rw [List.take_append_of_le_length (by omega)]
    rw [e]
    exact a i t ht
  · rw [List.getElem?_append_right (by omega)] at ht
    have e : i - Ls.length = 0 := by
      rcases Nat.eq_zero_or_pos (i - Ls.length) with h | h
      · exact h
      · rw [List.getElem?_eq_none (by simp only [List.length_cons, List.length_nil]; omega)] at ht
        cases ht
    rw [e] at ht
    have eq1 : q = t := by simpa using ht
    have ei : i = Ls.length := by omega
    have e2 : (Ls ++ [q]).take i = Ls := by rw [ei, List.take_append_of_le_length (Nat.le_refl _), List.take_length]
    rw [e2, ← eq1, ei]
    exact ⟨h1, h2⟩
/-- no declaration begins so -/
theorem pty_n (h0 : σ.1 = 0) (hk : ¬ K σ.2 = 3) {c : Bool} : p_ty K L c σ = (1 + 16 * L σ.2, σ.2) := by
  have hf : ¬ ((1 + 16 * L σ.2, σ.2) : RSt).1 = 0 := by
    dsimp only
    omega
  have e0 : y_0 K L c σ = σ := by
    unfold y_0
    rw [if_neg (fun w => hk (tk_t w.1).2)]
  have e1 : y_1 K L c σ = (1 + 16 * L σ.2, σ.2) := by
    unfold y_1 e_k
    rw [e0, if_pos h0, if_neg hk]
  have e2 : y_2 K L c σ = (1 + 16 * L σ.2, σ.2) := by
    unfold y_2
    rw [e1, ek_f hf]
  have e3 : y_3 K L c σ = (1 + 16 * L σ.2, σ.2) := by
    unfold y_3
    rw [e2, tk_f hf, if_neg (by decide)]
  have e4 : y_4 K L c σ = (1 + 16 * L σ.2, σ.2) := by
    unfold y_4
    rw [e3, tk_f hf, if_neg (by decide), ek_f hf]
  have e5 : y_5 K L c σ = (1 + 16 * L σ.2, σ.2) := by
    unfold y_5
    rw [e4, ek_f hf]
  unfold p_ty
  rw [e5, pmb_f hf, ek_f hf]
theorem pal_f (hf : ¬ σ.1 = 0) : ∀ k T F : Nat, p_al K L k T F σ = σ
  | 0, T, F => rfl
  | k + 1, T, F => by rw [p_al, if_neg (fun w => hf w.1)]
theorem pal_s (k T F : Nat) (σ : RSt) : p_al K L (k + 1) T F σ = if σ.1 = 0 ∧ ¬ K σ.2 = 8 then (if K σ.2 = 6 then p_al K L k T (F + 1) (p_fn K L (decide (60 ≤ F)) σ) else p_al K L k (T + 1) F (p_ty K L (decide (24 ≤ T)) σ)) else σ := by rw [p_al]
theorem lal_s (k T F : Nat) (σ : RSt) : l_al K L (k + 1) T F σ = if σ.1 = 0 ∧ ¬ K σ.2 = 8 then σ.2 :: (if K σ.2 = 6 then l_al K L k T (F + 1) (p_fn K L (decide (60 ≤ F)) σ) else l_al K L k (T + 1) F (p_ty K L (decide (24 ≤ T)) σ)) else [] := by rw [l_al]
end RAL
