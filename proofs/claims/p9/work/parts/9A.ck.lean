/-! ===== a program, read and resolved ===== -/
section PGA
variable {own : Nat → Nat × Nat} {b n W N T F H : Nat} {s s' z : yS}
/-- a program's numbers -/
theorem pgA (hS : ST b n own N T F H s) : gT (pg s b H) = T ∧ gF (pg s b H) = F ∧ (∀ d, d < T → gfm (pg s b H) d = nT s 236 (24 * b + d) ∧ gst (pg s b H) d = nT s 235 (24 * b + d) ∧ ghf (pg s b H) d = nT s 242 (24 * b + d) - 204 * b ∧ ghm (pg s b H) d = nT s 243 (24 * b + d) ∧ gfd (pg s b H) d = nT s 239 (24 * b + d)) ∧ (∀ h, h < H → ghn (pg s b H) h = nT s 245 (204 * b + h) ∧ gvn (pg s b H) h = nT s 248 (204 * b + h) ∧ ght (pg s b H) h = tyS s 251 (204 * b + h) ∧ gwd (pg s b H) h = (s.2.1 217 (nT s 244 (204 * b + h))).toInt) ∧ (∀ h k, h < H → (k < nT s 245 (204 * b + h) → ghb (pg s b H) h k = tyS s 247 (6 * (204 * b + h) + k)) ∧ (k < nT s 248 (204 * b + h) → gvt (pg s b H) h k = tyS s 250 (6 * (204 * b + h) + k))) ∧ (∀ d k, d < T → (k < nT s 236 (24 * b + d) → gfb (pg s b H) d k = tyS s 238 (6 * (24 * b + d) + k)) ∧ (k < nT s 239 (24 * b + d) → gft (pg s b H) d k = tyS s 241 (6 * (24 * b + d) + k))) ∧ ∀ f, f < F → gso (pg s b H) f = nT s 261 (60 * b + f) ∧ gfh (pg s b H) f = nT s 257 (60 * b + f) - 204 * b ∧ gpm (pg s b H) f = nT s 255 (60 * b + f) := by
  obtain ⟨hb, hn, hT24, hF60, hH, r33, r52, hA⟩ := hS
  have n33 : nT s 233 b = T := by unfold nT; omega
  have n52 : nT s 252 b = F := by unfold nT; omega
  have pt : ∀ q d, d < T → pgT s b q d = nT s q (24 * b + d) := by
    intro q d hd
    unfold pgT
    rw [n33, if_pos hd]
  refine ⟨n33, n52, fun d hd => ⟨pt 236 d hd, pt 235 d hd, ?_, pt 243 d hd, pt 239 d hd⟩, fun h hh => ⟨if_pos hh, if_pos hh, if_pos hh, if_pos hh⟩, fun h k hh => ⟨fun hk => if_pos ⟨hh, hk⟩, fun hk => if_pos ⟨hh, hk⟩⟩, fun d k hd => ⟨fun hk => if_pos ?_, fun hk => if_pos ?_⟩, fun f hf => ⟨?_, ?_, ?_⟩⟩
  · show pgT s b 242 d - 204 * b = _
    rw [pt 242 d hd]
  · rw [pt 236 d hd]; exact hk
  · rw [pt 239 d hd]; exact hk
  · show (if f < nT s 252 b then _ else _) = _
    rw [n52, if_pos hf]
  · show (if f < nT s 252 b then _ else _) = _
    rw [n52, if_pos hf]
  · show (if f < nT s 252 b then _ else _) = _
    rw [n52, if_pos hf]
/-- a slot, resolved: its node, where its TYPE stands -/
def SYo (own : Nat → Nat × Nat) (b N S0 : Nat) (s : yS) (q i : Nat) : Prop := ∃ y p l : Nat, (s.2.1 q i).toInt = (y : Int) ∧ own y = (q, i) ∧ 4002 * b ≤ y ∧ y < N ∧ NY s y p l ∧ 10 + 4100 * b ≤ p ∧ p + l ≤ S0
theorem SYo_SY {S0 q i : Nat} (h : SYo own b N S0 s q i) : SY s q i := by
  obtain ⟨y, p, l, h1, -, -, -, h2, -⟩ := h
  exact ⟨y, p, l, h1, h2⟩
/-- the tables stand, all slots are resolved, the program is G -/
def CK (own : Nat → Nat × Nat) (b n N T F H S0 : Nat) (G : PG) (s : yS) : Prop := ST b n own N T F H s ∧ (∀ q i, vS b T H s q i → SYo own b N S0 s q i) ∧ (∀ f, f < F → 0 ≤ (s.2.1 261 (60 * b + f)).toInt) ∧ BP s ∧ TYN s ∧ GC s ∧ (s.1 75).toInt = (b : Int) ∧ pg s b H = G ∧ WG G H ∧ S0 ≤ 10 + 4100 * (b + 1)
theorem CK_eq {S0 : Nat} {G : PG} (h : CK own b n N T F H S0 G s) (nl : NL b n N s s') (hy : ∀ y, 4002 * b ≤ y → y < N → (own y).1 ∈ slR → s'.2.1 231 y = s.2.1 231 y ∧ s'.2.1 232 y = s.2.1 232 y) (ht : ∀ j, (j < 10 ∨ (10 + 4100 * b ≤ j ∧ j < S0)) → s'.2.1 264 j = s.2.1 264 j) (h61 : ∀ i, 60 * b ≤ i → i < 60 * b + 60 → s'.2.1 261 i = s.2.1 261 i) (hT : TYN s') (hG : GC s') (h75 : (s'.1 75).toInt = (b : Int)) : CK own b n N T F H S0 G s' := by
  obtain ⟨c1, c2, c3, c4, c5, c6, c7, c8, c9, c10⟩ := h
  obtain ⟨hb, hn, hT24, hF60, hH, r33, r52, hA⟩ := id c1
  have kT : ∀ p ∈ tR, ∀ d, d < T → s'.2.1 p (24 * b + d) = s.2.1 p (24 * b + d) := fun p hp d hd => nl.2.2 p _ (zlR.1 hp).2 (by rw [(zlR.1 hp).1]; omega) (by rw [(zlR.1 hp).1]; omega)
  have kH : ∀ p ∈ hR, ∀ d, d < H → s'.2.1 p (204 * b + d) = s.2.1 p (204 * b + d) := fun p hp d hd => nl.2.2 p _ (zlR.2.2.1 hp).2 (by rw [(zlR.2.2.1 hp).1]; omega) (by rw [(zlR.2.2.1 hp).1]; omega)
  have vv : ∀ q i, vS b T H s' q i → vS b T H s q i := by
    intro q i hv
    rcases hv with ⟨d, k, w1, w2, w3, w4⟩ | ⟨d, k, w1, w2, w3, w4⟩ | ⟨d, k, w1, w2, w3, w4⟩ | ⟨d, k, w1, w2, w3, w4⟩ | ⟨d, w1, w3, w4⟩
    · exact Or.inl ⟨d, k, w1, by unfold nT at w2 ⊢; rw [kT 236 (by decide) d w1] at w2; exact w2, w3, w4⟩
    · exact Or.inr (Or.inl ⟨d, k, w1, by unfold nT at w2 ⊢; rw [kT 239 (by decide) d w1] at w2; exact w2, w3, w4⟩)
    · exact Or.inr (Or.inr (Or.inl ⟨d, k, w1, by unfold nT at w2 ⊢; rw [kH 245 (by decide) d w1] at w2; exact w2, w3, w4⟩))
    · exact Or.inr (Or.inr (Or.inr (Or.inl ⟨d, k, w1, by unfold nT at w2 ⊢; rw [kH 248 (by decide) d w1] at w2; exact w2, w3, w4⟩)))
    · exact Or.inr (Or.inr (Or.inr (Or.inr ⟨d, w1, w3, w4⟩)))
  have sl : ∀ q i, vS b T H s q i → s'.2.1 q i = s.2.1 q i := by
    intro q i hv
    rcases hv with ⟨d, k, w1, w2, w3, w4⟩ | ⟨d, k, w1, w2, w3, w4⟩ | ⟨d, k, w1, w2, w3, w4⟩ | ⟨d, k, w1, w2, w3, w4⟩ | ⟨d, w1, w3, w4⟩
    · have := (hA.1 d w1).2.2.2.2.1
      unfold nT at w2
      rw [w3, w4]
      exact nl.2.2 238 _ (by decide) (by rw [show zl 238 = 144 by decide]; omega) (by rw [show zl 238 = 144 by decide]; omega)
    · have := (hA.1 d w1).2.2.2.2.2.2.2.1
      unfold nT at w2
      rw [w3, w4]
      exact nl.2.2 241 _ (by decide) (by rw [show zl 241 = 144 by decide]; omega) (by rw [show zl 241 = 144 by decide]; omega)
    · have := (hA.2.1 d w1).1.2.2.1
      unfold nT at w2
      rw [w3, w4]
      exact nl.2.2 247 _ (by decide) (by rw [show zl 247 = 1224 by decide]; omega) (by rw [show zl 247 = 1224 by decide]; omega)
    · have := (hA.2.1 d w1).1.2.2.2.2.2.1
      unfold nT at w2
      rw [w3, w4]
      exact nl.2.2 250 _ (by decide) (by rw [show zl 250 = 1224 by decide]; omega) (by rw [show zl 250 = 1224 by decide]; omega)
    · rw [w3, w4]
      exact kH 251 (by decide) d w1
  have so : ∀ q i, vS b T H s q i → SYo own b N S0 s' q i ∧ tyS s' q i = tyS s q i := by
    intro q i hv
    obtain ⟨y, p, l, k1, k2, k3, k4, k5, k6, k7⟩ := c2 q i hv
    have e := hy y k3 k4 (by rw [k2]; exact vS_q hv)
    have n' : NY s' y p l := by
      unfold NY
      rw [e.1, e.2]
      exact k5
    have e1 : (s'.2.1 q i).toInt = (y : Int) := by rw [sl q i hv]; exact k1
    refine ⟨⟨y, p, l, e1, k2, k3, k4, n', k6, k7⟩, ?_⟩
    rw [SY_ty e1 n', SY_ty k1 k5]
    exact seg_eq (fun j j1 j2 => ht j (Or.inr ⟨by omega, by omega⟩))
  refine ⟨ST_lo nl c1, fun q i hv => (so q i (vv q i hv)).1, fun f hf => by rw [h61 _ (by omega) (by omega)]; exact c3 f hf, fun a ha => ?_, hT, hG, h75, ?_, c9, c10⟩
  · have := c4 a ha
    unfold tyE at this ⊢
    rw [ht a (Or.inl (by omega))]
    exact this
  · rw [← c8]
    refine pg_sl c1 (fun p i hp => ?_) (fun q i hv => (so q i hv).2)
    rcases hp with ⟨hp, rfl⟩ | ⟨hp, i1, i2⟩ | ⟨hp, i1, i2⟩ | ⟨hp, i1, i2⟩ | ⟨rfl, i1, i2⟩
    · have : zl p = 1 ∧ p ∈ tbR := by clear vv sl so kT kH; revert p; decide
      exact nl.2.2 p _ this.2 (by rw [this.1]; omega) (by rw [this.1]; omega)
    · have : zl p = 24 ∧ p ∈ tbR := by clear vv sl so kT kH; revert p; decide
      exact nl.2.2 p _ this.2 (by rw [this.1]; omega) (by rw [this.1]; omega)
    · have : zl p = 204 ∧ p ∈ tbR := by clear vv sl so kT kH; revert p; decide
      exact nl.2.2 p _ this.2 (by rw [this.1]; omega) (by rw [this.1]; omega)
    · have : p = 261 ∨ (zl p = 60 ∧ p ∈ tbR) := by clear vv sl so kT kH; revert p; decide
      rcases this with rfl | this
      · exact h61 i i1 i2
      · exact nl.2.2 p _ this.2 (by rw [this.1]; omega) (by rw [this.1]; omega)
    · exact (nl.1 i i1 i2).2
end PGA
