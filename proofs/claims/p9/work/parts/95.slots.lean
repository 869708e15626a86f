/-! ===== all slots of a program ===== -/
def vS (b T H : Nat) (s : yS) (q i : Nat) : Prop := (∃ d k, d < T ∧ k < nT s 236 (24 * b + d) ∧ q = 238 ∧ i = 6 * (24 * b + d) + k) ∨ (∃ d k, d < T ∧ k < nT s 239 (24 * b + d) ∧ q = 241 ∧ i = 6 * (24 * b + d) + k) ∨ (∃ h k, h < H ∧ k < nT s 245 (204 * b + h) ∧ q = 247 ∧ i = 6 * (204 * b + h) + k) ∨ (∃ h k, h < H ∧ k < nT s 248 (204 * b + h) ∧ q = 250 ∧ i = 6 * (204 * b + h) + k) ∨ (∃ h, h < H ∧ q = 251 ∧ i = 204 * b + h)
theorem vS_q {b T H q i : Nat} {s : yS} (h : vS b T H s q i) : q ∈ slR := by
  rcases h with ⟨d, k, -, -, rfl, -⟩ | ⟨d, k, -, -, rfl, -⟩ | ⟨d, k, -, -, rfl, -⟩ | ⟨d, k, -, -, rfl, -⟩ | ⟨d, -, rfl, -⟩ <;> decide
theorem vS_eq {b T H q i : Nat} {s s' : yS} (hr : ∀ q ∈ [236, 239, 245, 248], s'.2.1 q = s.2.1 q) : vS b T H s' q i ↔ vS b T H s q i := by
  unfold vS nT
  rw [hr 236 (by decide), hr 239 (by decide), hr 245 (by decide), hr 248 (by decide)]
theorem RSx_of {b T H : Nat} {s : yS} (h : ∀ q i, vS b T H s q i → SY s q i) : RSH b H s ∧ RSD b T s ∧ RSF b T s := by
  refine ⟨fun x hx => ⟨fun k hk => h _ _ (Or.inr (Or.inr (Or.inl ⟨x, k, hx, ?_, rfl, rfl⟩))), fun k hk => h _ _ (Or.inr (Or.inr (Or.inr (Or.inl ⟨x, k, hx, ?_, rfl, rfl⟩)))), h _ _ (Or.inr (Or.inr (Or.inr (Or.inr ⟨x, hx, rfl, rfl⟩))))⟩, fun d hd k hk => h _ _ (Or.inl ⟨d, k, hd, ?_, rfl, rfl⟩), fun d hd k hk => h _ _ (Or.inr (Or.inl ⟨d, k, hd, ?_, rfl, rfl⟩))⟩ <;> (unfold nT; omega)
/-- where a program's numbers lie -/
def pgI (b n : Nat) (p i : Nat) : Prop := (p ∈ [233, 252] ∧ i = b) ∨ (p ∈ [235, 236, 239, 242, 243] ∧ 24 * b ≤ i ∧ i < 24 * b + 24) ∨ (p ∈ [244, 245, 248] ∧ 204 * b ≤ i ∧ i < 204 * b + 204) ∨ (p ∈ [255, 257, 261] ∧ 60 * b ≤ i ∧ i < 60 * b + 60) ∨ (p = 217 ∧ 4002 * b ≤ i ∧ i < 4002 * b + n)
/-- the program is its numbers and the TYPES of its slots -/
theorem pg_sl {b n N T F H : Nat} {own : Nat → Nat × Nat} {s s' : yS} (hS : ST b n own N T F H s) (hr : ∀ p i, pgI b n p i → s'.2.1 p i = s.2.1 p i) (hs : ∀ q i, vS b T H s q i → tyS s' q i = tyS s q i) : pg s' b H = pg s b H := by
  obtain ⟨hb, hn, hT24, hF60, hH, r33, r52, hA⟩ := hS
  have n33' : nT s 233 b = T := by unfold nT; omega
  have n52' : nT s 252 b = F := by unfold nT; omega
  have n33 : nT s' 233 b = T := by unfold nT; rw [hr 233 b (Or.inl ⟨by decide, rfl⟩)]; exact n33'
  have n52 : nT s' 252 b = F := by unfold nT; rw [hr 252 b (Or.inl ⟨by decide, rfl⟩)]; exact n52'
  have pt : ∀ q, q ∈ [235, 236, 239, 242, 243] → pgT s' b q = pgT s b q := fun q hq => by
    funext d
    unfold pgT
    rw [n33, n33']
    split
    · unfold nT
      rw [hr q _ (Or.inr (Or.inl ⟨hq, by omega, by omega⟩))]
    · rfl
  have hh : ∀ q, q ∈ [244, 245, 248] → ∀ h, h < H → nT s' q (204 * b + h) = nT s q (204 * b + h) := fun q hq h w => by
    unfold nT
    rw [hr q _ (Or.inr (Or.inr (Or.inl ⟨hq, by omega, by omega⟩)))]
  have hf : ∀ q, q ∈ [255, 257, 261] → ∀ f, f < F → nT s' q (60 * b + f) = nT s q (60 * b + f) := fun q hq h w => by
    unfold nT
    rw [hr q _ (Or.inr (Or.inr (Or.inr (Or.inl ⟨hq, by omega, by omega⟩))))]
  have dlt : ∀ q d k, k < pgT s b q d → d < T ∧ k < nT s q (24 * b + d) := by
    intro q d k hk
    unfold pgT at hk
    rw [n33'] at hk
    split at hk
    · rename_i hd
      exact ⟨hd, hk⟩
    · omega
  unfold pg
  refine Prod.ext (n33.trans n33'.symm) (Prod.ext (n52.trans n52'.symm) (Prod.ext (pt 236 (by decide)) (Prod.ext (pt 235 (by decide)) (Prod.ext ?_ (Prod.ext (pt 243 (by decide)) (Prod.ext ?_ (Prod.ext ?_ (Prod.ext ?_ (Prod.ext ?_ (Prod.ext ?_ (Prod.ext ?_ (Prod.ext ?_ (Prod.ext ?_ (Prod.ext (pt 239 (by decide)) (Prod.ext ?_ (Prod.ext ?_ ?_))))))))))))))))
  · funext d
    show pgT s' b 242 d - 204 * b = pgT s b 242 d - 204 * b
    rw [pt 242 (by decide)]
  · funext h
    show (if h < H then _ else _) = (if h < H then _ else _)
    split
    · rename_i w
      have tk := (hA.2.1 h w).1.1
      rw [hh 244 (by decide) h w]
      have : nT s 244 (204 * b + h) = (s.2.1 244 (204 * b + h)).toInt.toNat := rfl
      obtain ⟨t1, t2, -⟩ := tk
      rw [hr 217 _ (Or.inr (Or.inr (Or.inr (Or.inr ⟨rfl, by omega, by omega⟩))))]
    · rfl
  · funext h
    show (if h < H then _ else _) = (if h < H then _ else _)
    split
    · rename_i w
      exact hh 245 (by decide) h w
    · rfl
  · funext h
    show (if h < H then _ else _) = (if h < H then _ else _)
    split
    · rename_i w
      exact hh 248 (by decide) h w
    · rfl
  · funext h k
    show (if h < H ∧ k < nT s' 245 (204 * b + h) then _ else _) = (if h < H ∧ k < nT s 245 (204 * b + h) then _ else _)
    by_cases w : h < H
    · rw [hh 245 (by decide) h w]
      split
      · rename_i w'
        exact hs _ _ (Or.inr (Or.inr (Or.inl ⟨h, k, w'.1, w'.2, rfl, rfl⟩)))
      · rfl
    · rw [if_neg (fun w' => w w'.1), if_neg (fun w' => w w'.1)]
  · funext h k
    show (if h < H ∧ k < nT s' 248 (204 * b + h) then _ else _) = (if h < H ∧ k < nT s 248 (204 * b + h) then _ else _)
    by_cases w : h < H
    · rw [hh 248 (by decide) h w]
      split
      · rename_i w'
        exact hs _ _ (Or.inr (Or.inr (Or.inr (Or.inl ⟨h, k, w'.1, w'.2, rfl, rfl⟩))))
      · rfl
    · rw [if_neg (fun w' => w w'.1), if_neg (fun w' => w w'.1)]
  · funext h
    show (if h < H then _ else _) = (if h < H then _ else _)
    split
    · rename_i w
      exact hs _ _ (Or.inr (Or.inr (Or.inr (Or.inr ⟨h, w, rfl, rfl⟩))))
    · rfl
  · funext d k
    show (if k < pgT s' b 236 d then _ else _) = (if k < pgT s b 236 d then _ else _)
    rw [pt 236 (by decide)]
    split
    · rename_i w
      have := dlt 236 d k w
      exact hs _ _ (Or.inl ⟨d, k, this.1, this.2, rfl, rfl⟩)
    · rfl
  · funext d k
    show (if k < pgT s' b 239 d then _ else _) = (if k < pgT s b 239 d then _ else _)
    rw [pt 239 (by decide)]
    split
    · rename_i w
      have := dlt 239 d k w
      exact hs _ _ (Or.inr (Or.inl ⟨d, k, this.1, this.2, rfl, rfl⟩))
    · rfl
  · funext f
    show (if f < nT s' 252 b then _ else _) = (if f < nT s 252 b then _ else _)
    rw [n52, n52']
    split
    · rename_i w
      exact hf 261 (by decide) f w
    · rfl
  · funext f
    show (if f < nT s' 252 b then _ else _) = (if f < nT s 252 b then _ else _)
    rw [n52, n52']
    split
    · rename_i w
      rw [hf 257 (by decide) f w]
    · rfl
  · funext f
    show (if f < nT s' 252 b then _ else _) = (if f < nT s 252 b then _ else _)
    rw [n52, n52']
    split
    · rename_i w
      exact hf 255 (by decide) f w
    · rfl
/-- a TYPE's node y, its elements at [p, p + l): resolved for good, in the bank's part of ty, ahead of S -/
def RY (b : Nat) (V : Nat → Prop) (S : Nat) (s : yS) (y : Nat) : Prop := ∃ p l : Nat, rsv s V 11 y p l ∧ 10 + 4100 * b ≤ p ∧ p + l ≤ S ∧ y < 12006
theorem RY_SY {b S q i y : Nat} {V : Nat → Prop} {s : yS} (hS : S ≤ 13000) (hy : (s.2.1 q i).toInt = (y : Int)) (h : RY b V S s y) : SY s q i := by
  obtain ⟨p, l, h1, h2, h3, h4⟩ := h
  obtain ⟨g1, g2, g3, g4, -⟩ := id h1
  exact ⟨y, p, l, hy, h4, g1, g2, by omega, g4⟩
