/-! ===== the bank's own part: trees hang on it alone ===== -/
def tkL (b n : Nat) (s s' : yS) : Prop := ∀ t : Nat, 4002 * b ≤ t → t < 4002 * b + n → s'.2.1 215 t = s.2.1 215 t ∧ s'.2.1 217 t = s.2.1 217 t
section LO
variable {b n : Nat} {s s' : yS}
theorem tkN_lo (tl : tkL b n s s') {t : Int} (h : tkN b n s t) : tkN b n s' t := by
  obtain ⟨h1, h2, h3, h4⟩ := h
  have := tl t.toNat (by omega) (by omega)
  exact ⟨h1, h2, by rw [this.1]; exact h3, by rw [this.2]; exact h4⟩
theorem isY_lo (tl : tkL b n s s') : ∀ (k hi x : Nat), (∀ y, x ≤ y → y < hi → s'.2.1 221 y = s.2.1 221 y ∧ s'.2.1 222 y = s.2.1 222 y ∧ s'.2.1 224 y = s.2.1 224 y ∧ ((s.2.1 221 y).toInt = 0 → s'.2.1 226 y = s.2.1 226 y) ∧ (x < y → s'.2.1 225 y = s.2.1 225 y)) → isY b n s k hi x → isY b n s' k hi x
  | 0, hi, x, _, h => h
  | k + 1, hi, x, he, h => by
    obtain ⟨h1, h0, h2, h3, h4, h5, cs, h6, h7, h8, hp, h9⟩ := h
    have hx := he x (Nat.le_refl _) h1
    have hlt : ∀ c ∈ cs, c < hi := by
      intro c hc
      obtain ⟨-, hh, h10, -, h11⟩ := h9 c hc
      have := isY_lt h11
      omega
    refine ⟨h1, by rw [hx.1]; exact h0, by rw [hx.2.1]; exact h2, by rw [hx.2.1]; exact h3, by rw [hx.2.1, (tl (s.2.1 222 x).toInt.toNat (by omega) (by omega)).1]; exact h4, by rw [hx.2.1, (tl (s.2.1 222 x).toInt.toNat (by omega) (by omega)).2]; exact h5, cs, by rw [hx.2.2.2.1 h0]; exact h6, h7, ?_, hp, fun c hc => ⟨(h9 c hc).1, ?_⟩⟩
    · rw [hx.2.2.1]
      exact chn_eq cs _ (fun c hc => (he c (Nat.le_of_lt (h9 c hc).1) (hlt c hc)).2.2.2.2 (h9 c hc).1) h8
    · obtain ⟨hxc, hh, h10, h12, h11⟩ := h9 c hc
      refine ⟨hh, h10, h12, isY_lo tl k hh c (fun y hy hy2 => ?_) h11⟩
      have := he y (by omega) (by omega)
      exact ⟨this.1, this.2.1, this.2.2.1, this.2.2.2.1, fun _ => this.2.2.2.2 (by omega)⟩
theorem isY_lo2 (tl : tkL b n s s') {k hi x : Nat} (he : ∀ y, x ≤ y → y < hi → SR s s' y ∧ (x < y → s'.2.1 225 y = s.2.1 225 y)) (h : isY b n s k hi x) : isY b n s' k hi x := by
  refine isY_lo tl k hi x (fun y h1 h2 => ?_) h
  obtain ⟨⟨a1, a2, a3, a4, a5, a6, a7, a8⟩, a9⟩ := he y h1 h2
  exact ⟨a1, a2, a4, fun h0 => a7 (by omega), a9⟩
theorem yqs_lo (tl : tkL b n s s') {k lo hi : Nat} {x len : Int} (he : ∀ y, lo ≤ y → y < hi → SR s s' y ∧ s'.2.1 225 y = s.2.1 225 y) (h : yqs b n s k x len lo hi) : yqs b n s' k x len lo hi := by
  obtain ⟨cs, h1, h2, h3, h4, h5⟩ := h
  refine ⟨cs, h1, h2, chn_eq cs _ (fun c hc => ?_) h3, h4, fun c hc => ?_⟩
  · obtain ⟨a1, h, a2, a3, a4⟩ := h5 c hc
    have := isY_lt a4
    exact (he c a1 (by omega)).2
  · obtain ⟨a1, h, a2, a3, a4⟩ := h5 c hc
    exact ⟨a1, h, a2, a3, isY_lo2 tl (fun y h1 h2 => ⟨(he y (by omega) (by omega)).1, fun _ => (he y (by omega) (by omega)).2⟩) a4⟩
theorem baE_lo (tl : tkL b n s s') {Q Q' : Nat → Nat → Nat → Prop} {hi e : Nat} (hl : e < hi) (he : ∀ y, e ≤ y → y < hi → SR s s' y ∧ (e < y → s'.2.1 225 y = s.2.1 225 y)) (hQ : ∀ l h c, e < l → h ≤ hi → Q l h c → Q' l h c) (h3 : baE b n s Q hi e) : baE b n s' Q' hi e := by
  obtain ⟨⟨a1, a2, a3, a4, a5, a6, a7, a8⟩, -⟩ := he e (Nat.le_refl _) hl
  rcases h3 with ⟨b1, b2⟩ | ⟨b1, y, h, b2, b3, b4, b5, b6⟩
  · exact Or.inl ⟨by rw [a1]; exact b1, by rw [a2]; exact tkN_lo tl b2⟩
  · have := isY_lt b5
    refine Or.inr ⟨by rw [a1]; exact b1, y, h, by rw [a6]; exact b2, b3, b4, ?_, ?_⟩
    · exact isY_lo2 tl (fun z z1 z2 => ⟨(he z (by omega) (by omega)).1, fun z3 => (he z (by omega) (by omega)).2 (by omega)⟩) b5
    · rw [a4, a7 (by omega)]
      exact eqs_eq (fun z z1 z2 => (he z (by omega) (by omega)).2 (by omega)) (fun l h' c q1 q2 => hQ l h' c (by omega) q2) b6
theorem bdE_lo (tl : tkL b n s s') {Q Q' : Nat → Nat → Nat → Prop} {hi e : Nat} (hl : e < hi) (he : ∀ y, e ≤ y → y < hi → SR s s' y ∧ (e < y → s'.2.1 225 y = s.2.1 225 y)) (hQ : ∀ l h c, e < l → h ≤ hi → Q l h c → Q' l h c) (h7 : bdE b n s Q hi e) : bdE b n s' Q' hi e := by
  obtain ⟨⟨a1, a2, a3, a4, a5, a6, a7, a8⟩, -⟩ := he e (Nat.le_refl _) hl
  rcases h7 with ⟨b1, b2⟩ | ⟨b1, y, b2, b3, b4⟩ | ⟨b1, b2, h, b3, b4, b5, b6⟩
  · exact Or.inl ⟨by rw [a1]; exact b1, by rw [a2]; exact tkN_lo tl b2⟩
  · refine Or.inr (Or.inl ⟨by rw [a1]; exact b1, y, by rw [a6]; exact b2, b3, ?_⟩)
    exact isY_lo2 tl (fun z z1 z2 => ⟨(he z (by omega) (by omega)).1, fun z3 => (he z (by omega) (by omega)).2 (by omega)⟩) b4
  · refine Or.inr (Or.inr ⟨by rw [a1]; exact b1, by rw [a2]; exact tkN_lo tl b2, h, b3, b4, ?_, ?_⟩)
    · rw [a6, a8 (by omega)]
      exact yqs_lo tl (fun z z1 z2 => ⟨(he z (by omega) (by omega)).1, (he z (by omega) (by omega)).2 (by omega)⟩) b5
    · rw [a4, a7 (by omega)]
      exact eqs_eq (fun z z1 z2 => (he z (by omega) (by omega)).2 (by omega)) (fun l h' c q1 q2 => hQ l h' c (by omega) q2) b6
theorem isEp_lo (tl : tkL b n s s') {Q Q' : Nat → Nat → Nat → Prop} : ∀ (p lo hi e : Nat), (∀ y, lo ≤ y → y < hi → SR s s' y ∧ (¬ y = e → s'.2.1 225 y = s.2.1 225 y ∧ s'.2.1 228 y = s.2.1 228 y)) → (∀ l h c, lo < l → h ≤ hi → (h ≤ e ∨ e < l) → Q l h c → Q' l h c) → isEp b n s Q p lo hi e → isEp b n s' Q' p lo hi e
  | 0, lo, hi, e, he, hQ, h => by
    obtain ⟨rfl, h1, h2, h3⟩ := h
    obtain ⟨⟨a1, a2, a3, a4, a5, a6, a7, a8⟩, -⟩ := he e (Nat.le_refl _) h1
    exact ⟨rfl, h1, by rw [a5]; exact h2, baE_lo tl h1 (fun y y1 y2 => ⟨(he y y1 y2).1, fun y3 => ((he y y1 y2).2 (by omega)).1⟩) (fun l h c q1 q2 => hQ l h c q1 q2 (Or.inr q1)) h3⟩
  | p + 1, lo, hi, e, he, hQ, h => by
    obtain ⟨h1, a, h2, h3, h4, h5, h6, h7⟩ := h
    have hl := isEp_lt h4
    obtain ⟨⟨a1, a2, a3, a4, a5, a6, a7, a8⟩, -⟩ := he e (by omega) h1
    have ha := (he a hl.1 (by omega)).2 (by omega)
    refine ⟨h1, a, by rw [a5]; exact h2, by rw [ha.2]; exact h3, ?_, by rw [a3]; exact h5, by rw [a3]; exact h6, bdE_lo tl h1 (fun y y1 y2 => ⟨(he y (by omega) y2).1, fun y3 => ((he y (by omega) y2).2 (by omega)).1⟩) (fun l h c q1 q2 => hQ l h c (by omega) q2 (Or.inr q1)) h7⟩
    exact isEp_lo tl p lo e a (fun y y1 y2 => ⟨(he y y1 (by omega)).1, fun _ => (he y y1 (by omega)).2 (by omega)⟩) (fun l h c q1 q2 q3 => hQ l h c q1 (by omega) (Or.inl q2)) h4
theorem isE_lo (tl : tkL b n s s') : ∀ (m lo hi e : Nat), (∀ y, lo ≤ y → y < hi → SR s s' y ∧ (¬ y = e → s'.2.1 225 y = s.2.1 225 y ∧ s'.2.1 228 y = s.2.1 228 y)) → isE b n s m lo hi e → isE b n s' m lo hi e
  | 0, _, _, _, _, h => h
  | m + 1, lo, hi, e, he, h => by
    obtain ⟨p, hp, h⟩ := h
    refine ⟨p, hp, isEp_lo tl p lo hi e he (fun l h' c q1 q2 q3 q => ?_) h⟩
    refine isE_lo tl m l h' c (fun y y1 y2 => ?_) q
    have := he y (by omega) (by omega)
    exact ⟨this.1, fun _ => this.2 (by omega)⟩
end LO
def tbR : List Nat := tR ++ t6 ++ hR ++ h6 ++ fR ++ [233, 252, 259, 262, 263]
/-- the bank's tokens, nodes and tables are the same -/
def NL (b n N : Nat) (s s' : yS) : Prop := tkL b n s s' ∧ (∀ x, 4002 * b ≤ x → x < N → SR s s' x ∧ s'.2.1 225 x = s.2.1 225 x ∧ s'.2.1 228 x = s.2.1 228 x) ∧ ∀ p i, p ∈ tbR → zl p * b ≤ i → i < zl p * (b + 1) → s'.2.1 p i = s.2.1 p i
section LS
variable {own : Nat → Nat × Nat} {b n N T F H : Nat} {s s' : yS}
theorem YS_lo {p i : Nat} (nl : NL b n N s s') (hc : s'.2.1 p i = s.2.1 p i) (h : YS own b n N s p i) : YS own b n N s' p i := by
  obtain ⟨y, h, h1, h2, h3, h4, h5⟩ := h
  exact ⟨y, h, by rw [hc]; exact h1, h2, h3, isY_lo2 nl.1 (fun x x1 x2 => ⟨(nl.2.1 x (by omega) (by omega)).1, fun _ => (nl.2.1 x (by omega) (by omega)).2.1⟩) h4, h5⟩
theorem ES_lo {p i : Nat} (nl : NL b n N s s') (hc : s'.2.1 p i = s.2.1 p i) (h : ES own b n N s p i) : ES own b n N s' p i := by
  obtain ⟨e, l, h, h1, h2, h3, h4, h5⟩ := h
  exact ⟨e, l, h, by rw [hc]; exact h1, h2, h3, isE_lo nl.1 11 l h e (fun x x1 x2 => ⟨(nl.2.1 x (by omega) (by omega)).1, fun _ => (nl.2.1 x (by omega) (by omega)).2⟩) h4, h5⟩
theorem SL_lo {a1 a2 fr k : Nat} (nl : NL b n N s s') (hc : ∀ j, j < k → s'.2.1 a1 (fr + j) = s.2.1 a1 (fr + j) ∧ s'.2.1 a2 (fr + j) = s.2.1 a2 (fr + j)) (h : SL own b n N s a1 a2 fr k) : SL own b n N s' a1 a2 fr k := by
  intro j hj
  obtain ⟨h1, h2⟩ := h j hj
  exact ⟨by rw [(hc j hj).1]; exact tkN_lo nl.1 h1, YS_lo nl (hc j hj).2 h2⟩
theorem zlR {p : Nat} : (p ∈ tR → zl p = 24 ∧ p ∈ tbR) ∧ (p ∈ t6 → zl p = 144 ∧ p ∈ tbR) ∧ (p ∈ hR → zl p = 204 ∧ p ∈ tbR) ∧ (p ∈ h6 → zl p = 1224 ∧ p ∈ tbR) ∧ (p ∈ fR → zl p = 60 ∧ p ∈ tbR) := by
  refine ⟨?_, ?_, ?_, ?_, ?_⟩ <;> (revert p; decide)
theorem ST_lo (nl : NL b n N s s') (h : ST b n own N T F H s) : ST b n own N T F H s' := by
  obtain ⟨hb, hn, hT24, hF60, hH, r33, r52, a1, a2, a3, a4, a5⟩ := h
  have kT : ∀ p ∈ tR, ∀ d, d < T → s'.2.1 p (24 * b + d) = s.2.1 p (24 * b + d) := fun p hp d hd => nl.2.2 p _ (zlR.1 hp).2 (by rw [(zlR.1 hp).1]; omega) (by rw [(zlR.1 hp).1]; omega)
  have k6 : ∀ p ∈ t6, ∀ d, d < T → ∀ j, j < 6 → s'.2.1 p (6 * (24 * b + d) + j) = s.2.1 p (6 * (24 * b + d) + j) := fun p hp d hd j hj => nl.2.2 p _ (zlR.2.1 hp).2 (by rw [(zlR.2.1 hp).1]; omega) (by rw [(zlR.2.1 hp).1]; omega)
  have kH : ∀ p ∈ hR, ∀ d, d < H → s'.2.1 p (204 * b + d) = s.2.1 p (204 * b + d) := fun p hp d hd => nl.2.2 p _ (zlR.2.2.1 hp).2 (by rw [(zlR.2.2.1 hp).1]; omega) (by rw [(zlR.2.2.1 hp).1]; omega)
  have kH6 : ∀ p ∈ h6, ∀ d, d < H → ∀ j, j < 6 → s'.2.1 p (6 * (204 * b + d) + j) = s.2.1 p (6 * (204 * b + d) + j) := fun p hp d hd j hj => nl.2.2 p _ (zlR.2.2.2.1 hp).2 (by rw [(zlR.2.2.2.1 hp).1]; omega) (by rw [(zlR.2.2.2.1 hp).1]; omega)
  have kF : ∀ p ∈ fR, ∀ d, d < F → s'.2.1 p (60 * b + d) = s.2.1 p (60 * b + d) := fun p hp d hd => nl.2.2 p _ (zlR.2.2.2.2 hp).2 (by rw [(zlR.2.2.2.2 hp).1]; omega) (by rw [(zlR.2.2.2.2 hp).1]; omega)
  have k62 : ∀ i, i < T + F → s'.2.1 262 (84 * b + i) = s.2.1 262 (84 * b + i) := fun i hi => nl.2.2 262 _ (by decide) (by rw [show zl 262 = 84 by decide]; omega) (by rw [show zl 262 = 84 by decide]; omega)
  have k1 : ∀ p ∈ [233, 252, 259, 263], s'.2.1 p b = s.2.1 p b := by
    intro p hp
    have : zl p = 1 ∧ p ∈ tbR := by clear a1 a2 a3 a4 a5 kT k6 kH kH6 kF k62; revert p; decide
    exact nl.2.2 p b this.2 (by rw [this.1]; omega) (by rw [this.1]; omega)
  refine ⟨hb, hn, hT24, hF60, hH, by rw [k1 233 (by decide)]; exact r33, by rw [k1 252 (by decide)]; exact r52, fun d hd => ?_, fun h hh => ?_, fun f hf => ?_, ?_, ?_⟩
  · obtain ⟨h1, h2, h3, h4, h5, h6, h7, h8, h9, h10, h11, h12, h13⟩ := a1 d hd
    unfold RT
    rw [kT 234 (by decide) d hd, kT 235 (by decide) d hd, kT 236 (by decide) d hd, kT 239 (by decide) d hd, kT 242 (by decide) d hd, kT 243 (by decide) d hd]
    exact ⟨tkN_lo nl.1 h1, h2, h3, h4, h5, SL_lo nl (fun j hj => ⟨k6 237 (by decide) d hd j (by omega), k6 238 (by decide) d hd j (by omega)⟩) h6, h7, h8, SL_lo nl (fun j hj => ⟨k6 240 (by decide) d hd j (by omega), k6 241 (by decide) d hd j (by omega)⟩) h9, h10, h11, h12, h13⟩
  · obtain ⟨⟨h1, h2, h3, h4, h5, h6, h7⟩, h8⟩ := a2 h hh
    unfold RH RHa
    rw [kH 244 (by decide) h hh, kH 245 (by decide) h hh, kH 248 (by decide) h hh]
    exact ⟨⟨tkN_lo nl.1 h1, h2, h3, SL_lo nl (fun j hj => ⟨kH6 246 (by decide) h hh j (by omega), kH6 247 (by decide) h hh j (by omega)⟩) h4, h5, h6, SL_lo nl (fun j hj => ⟨kH6 249 (by decide) h hh j (by omega), kH6 250 (by decide) h hh j (by omega)⟩) h7⟩, YS_lo nl (kH 251 (by decide) h hh) h8⟩
  · obtain ⟨⟨h1, h2, h3, h4, h5⟩, h6, h7, h8⟩ := a3 f hf
    unfold RF RFa
    rw [kF 253 (by decide) f hf, kF 254 (by decide) f hf, kF 255 (by decide) f hf, kF 256 (by decide) f hf, kF 257 (by decide) f hf]
    exact ⟨⟨tkN_lo nl.1 h1, tkN_lo nl.1 h2, h3, h4, fun k hk => tkN_lo nl.1 (h5 k hk)⟩, h6, h7, ES_lo nl (kF 258 (by decide) f hf) h8⟩
  · obtain ⟨c1, c2, c3⟩ := a4
    refine ⟨fun d hd => ?_, fun f hf => ?_, fun i hi => ?_⟩
    · obtain ⟨i, i1, i2⟩ := c1 d hd
      exact ⟨i, i1, by rw [k62 i i1]; exact i2⟩
    · obtain ⟨i, i1, i2⟩ := c2 f hf
      exact ⟨i, i1, by rw [k62 i i1]; exact i2⟩
    · rw [k62 i hi]
      exact c3 i hi
  · obtain ⟨hs, o1, o2, o3, o4⟩ := a5
    refine ⟨hs, o1, o2, fun i j hi hj e => o3 i j hi hj (by rw [← k62 i hi, ← k62 j hj]; exact e), fun i hi => ⟨(o4 i hi).1, ?_⟩⟩
    rw [k62 i hi]
    rcases (o4 i hi).2 with ⟨d, q1, q2, q3, q4⟩ | ⟨f, q1, q2, q3, q4⟩
    · exact Or.inl ⟨d, q1, q2, by rw [kT 242 (by decide) d q1]; exact q3, by rw [kT 243 (by decide) d q1]; exact q4⟩
    · exact Or.inr ⟨f, q1, q2, by rw [kF 257 (by decide) f q1]; exact q3, q4⟩
end LS
