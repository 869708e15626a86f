/-! ===== trees of E ===== -/
/-- a name of the bank b -/
def tkN (b n : Nat) (s : yS) (t : Int) : Prop := 4002 * (b : Int) ≤ t ∧ t < 4002 * (b : Int) + n ∧ (s.2.1 215 t.toNat).toInt = 1 ∧ 5 < (s.2.1 217 t.toNat).toInt
/-- a row of TYPES -/
def yqs (b n : Nat) (s : yS) (k : Nat) (x len : Int) (lo hi : Nat) : Prop := ∃ cs : List Nat, cs.length ≤ 6 ∧ len = (cs.length : Int) ∧ chn s x cs ∧ cs.Pairwise (· < ·) ∧ ∀ c ∈ cs, lo ≤ c ∧ ∃ h, h ≤ hi ∧ (∀ c' ∈ cs, c < c' → h ≤ c') ∧ isY b n s k h c
/-- a row of E: (from, behind, node) -/
def eqs (Q : Nat → Nat → Nat → Prop) (s : yS) (x len : Int) (lo hi : Nat) : Prop := ∃ cs : List (Nat × Nat × Nat), cs.length ≤ 6 ∧ len = (cs.length : Int) ∧ chn s x (cs.map (·.2.2)) ∧ cs.Pairwise (fun a b => a.2.1 ≤ b.1) ∧ ∀ c ∈ cs, lo ≤ c.1 ∧ c.1 ≤ c.2.2 ∧ c.2.2 < c.2.1 ∧ c.2.1 ≤ hi ∧ Q c.1 c.2.1 c.2.2
/-- an E ahead of all points -/
def baE (b n : Nat) (s : yS) (Q : Nat → Nat → Nat → Prop) (hi e : Nat) : Prop := ((s.2.1 221 e).toInt = 1 ∧ tkN b n s (s.2.1 222 e).toInt) ∨ ((s.2.1 221 e).toInt = 2 ∧ ∃ y h : Nat, (s.2.1 229 e).toInt = (y : Int) ∧ e < y ∧ h ≤ hi ∧ isY b n s 11 h y ∧ eqs Q s (s.2.1 224 e).toInt (s.2.1 226 e).toInt h hi)
/-- what stands behind a point -/
def bdE (b n : Nat) (s : yS) (Q : Nat → Nat → Nat → Prop) (hi e : Nat) : Prop := ((s.2.1 221 e).toInt = 3 ∧ tkN b n s (s.2.1 222 e).toInt) ∨ ((s.2.1 221 e).toInt = 5 ∧ ∃ y : Nat, (s.2.1 229 e).toInt = (y : Int) ∧ e < y ∧ isY b n s 11 hi y) ∨ ((s.2.1 221 e).toInt = 4 ∧ tkN b n s (s.2.1 222 e).toInt ∧ ∃ h : Nat, e < h ∧ h ≤ hi ∧ yqs b n s 11 (s.2.1 229 e).toInt (s.2.1 230 e).toInt (e + 1) h ∧ eqs Q s (s.2.1 224 e).toInt (s.2.1 226 e).toInt h hi)
/-- an E of p points; Q: an E inside -/
def isEp (b n : Nat) (s : yS) (Q : Nat → Nat → Nat → Prop) : Nat → Nat → Nat → Nat → Prop
  | 0, lo, hi, e => e = lo ∧ e < hi ∧ (s.2.1 227 e).toInt = -1 ∧ baE b n s Q hi e
  | p + 1, lo, hi, e => e < hi ∧ ∃ a : Nat, (s.2.1 227 e).toInt = (a : Int) ∧ (s.2.1 228 a).toInt = (e : Int) ∧ isEp b n s Q p lo e a ∧ 4002 * (b : Int) ≤ (s.2.1 223 e).toInt ∧ (s.2.1 223 e).toInt < 4002 * (b : Int) + n ∧ bdE b n s Q hi e
def isE (b n : Nat) (s : yS) : Nat → Nat → Nat → Nat → Prop
  | 0, _, _, _ => False
  | m + 1, lo, hi, e => ∃ p, p ≤ 20 ∧ isEp b n s (isE b n s m) p lo hi e
theorem isEp_lt {b n : Nat} {s : yS} {Q : Nat → Nat → Nat → Prop} : ∀ {p lo hi e : Nat}, isEp b n s Q p lo hi e → lo ≤ e ∧ e < hi
  | 0, lo, hi, e, h => ⟨Nat.le_of_eq h.1.symm, h.2.1⟩
  | p + 1, lo, hi, e, h => by
    obtain ⟨h1, a, -, -, h2, -⟩ := h
    have := isEp_lt h2
    exact ⟨by omega, h1⟩
theorem isE_lt {b n : Nat} {s : yS} {m lo hi e : Nat} (h : isE b n s m lo hi e) : lo ≤ e ∧ e < hi := by
  cases m with
  | zero => exact absurd h id
  | succ m =>
    obtain ⟨p, -, h⟩ := h
    exact isEp_lt h
/-- the same node in both states, but for its neighbours -/
def SR (s s' : yS) (y : Nat) : Prop := s'.2.1 221 y = s.2.1 221 y ∧ s'.2.1 222 y = s.2.1 222 y ∧ s'.2.1 223 y = s.2.1 223 y ∧ s'.2.1 224 y = s.2.1 224 y ∧ s'.2.1 227 y = s.2.1 227 y ∧ s'.2.1 229 y = s.2.1 229 y ∧ (¬ (s.2.1 221 y).toInt = 3 → s'.2.1 226 y = s.2.1 226 y) ∧ (¬ (s.2.1 221 y).toInt = 1 → s'.2.1 230 y = s.2.1 230 y)
theorem SR_rf {s : yS} {y : Nat} : SR s s y := ⟨rfl, rfl, rfl, rfl, rfl, rfl, fun _ => rfl, fun _ => rfl⟩
section ET
variable {b n : Nat} {s s' : yS}
theorem tkN_eq (t5 : s'.2.1 215 = s.2.1 215) (t7 : s'.2.1 217 = s.2.1 217) {t : Int} (h : tkN b n s t) : tkN b n s' t := by
  unfold tkN at *
  rw [t5, t7]
  exact h
theorem isY_eq2 (t5 : s'.2.1 215 = s.2.1 215) (t7 : s'.2.1 217 = s.2.1 217) {k hi x : Nat} (he : ∀ y, x ≤ y → y < hi → SR s s' y ∧ (x < y → s'.2.1 225 y = s.2.1 225 y)) (h : isY b n s k hi x) : isY b n s' k hi x := by
  refine isY_eq t5 t7 k hi x (fun y h1 h2 => ?_) h
  obtain ⟨⟨a1, a2, a3, a4, a5, a6, a7, a8⟩, a9⟩ := he y h1 h2
  exact ⟨a1, a2, a4, fun h0 => a7 (by omega), a9⟩
theorem yqs_eq (t5 : s'.2.1 215 = s.2.1 215) (t7 : s'.2.1 217 = s.2.1 217) {k lo hi : Nat} {x len : Int} (he : ∀ y, lo ≤ y → y < hi → SR s s' y ∧ s'.2.1 225 y = s.2.1 225 y) (h : yqs b n s k x len lo hi) : yqs b n s' k x len lo hi := by
  obtain ⟨cs, h1, h2, h3, h4, h5⟩ := h
  refine ⟨cs, h1, h2, chn_eq cs _ (fun c hc => ?_) h3, h4, fun c hc => ?_⟩
  · obtain ⟨a1, h, a2, a3, a4⟩ := h5 c hc
    have := isY_lt a4
    exact (he c a1 (by omega)).2
  · obtain ⟨a1, h, a2, a3, a4⟩ := h5 c hc
    exact ⟨a1, h, a2, a3, isY_eq2 t5 t7 (fun y h1 h2 => ⟨(he y (by omega) (by omega)).1, fun _ => (he y (by omega) (by omega)).2⟩) a4⟩
theorem eqs_eq {Q Q' : Nat → Nat → Nat → Prop} {lo hi : Nat} {x len : Int} (he : ∀ y, lo ≤ y → y < hi → s'.2.1 225 y = s.2.1 225 y) (hQ : ∀ l h c, lo ≤ l → h ≤ hi → Q l h c → Q' l h c) (h : eqs Q s x len lo hi) : eqs Q' s' x len lo hi := by
  obtain ⟨cs, h1, h2, h3, h4, h5⟩ := h
  refine ⟨cs, h1, h2, chn_eq _ _ (fun c hc => ?_) h3, h4, fun c hc => ?_⟩
  · obtain ⟨t, ht, rfl⟩ := List.mem_map.mp hc
    obtain ⟨a1, a2, a3, a4, -⟩ := h5 t ht
    exact he _ (by omega) (by omega)
  · obtain ⟨a1, a2, a3, a4, a5⟩ := h5 c hc
    exact ⟨a1, a2, a3, a4, hQ _ _ _ a1 a4 a5⟩
theorem baE_eq (t5 : s'.2.1 215 = s.2.1 215) (t7 : s'.2.1 217 = s.2.1 217) {Q Q' : Nat → Nat → Nat → Prop} {hi e : Nat} (hl : e < hi) (he : ∀ y, e ≤ y → y < hi → SR s s' y ∧ (e < y → s'.2.1 225 y = s.2.1 225 y)) (hQ : ∀ l h c, e < l → h ≤ hi → Q l h c → Q' l h c) (h3 : baE b n s Q hi e) : baE b n s' Q' hi e := by
  obtain ⟨⟨a1, a2, a3, a4, a5, a6, a7, a8⟩, -⟩ := he e (Nat.le_refl _) hl
  rcases h3 with ⟨b1, b2⟩ | ⟨b1, y, h, b2, b3, b4, b5, b6⟩
  · exact Or.inl ⟨by rw [a1]; exact b1, by rw [a2]; exact tkN_eq t5 t7 b2⟩
  · have := isY_lt b5
    refine Or.inr ⟨by rw [a1]; exact b1, y, h, by rw [a6]; exact b2, b3, b4, ?_, ?_⟩
    · exact isY_eq2 t5 t7 (fun z z1 z2 => ⟨(he z (by omega) (by omega)).1, fun z3 => (he z (by omega) (by omega)).2 (by omega)⟩) b5
    · rw [a4, a7 (by omega)]
      exact eqs_eq (fun z z1 z2 => (he z (by omega) (by omega)).2 (by omega)) (fun l h' c q1 q2 => hQ l h' c (by omega) q2) b6
theorem bdE_eq (t5 : s'.2.1 215 = s.2.1 215) (t7 : s'.2.1 217 = s.2.1 217) {Q Q' : Nat → Nat → Nat → Prop} {hi e : Nat} (hl : e < hi) (he : ∀ y, e ≤ y → y < hi → SR s s' y ∧ (e < y → s'.2.1 225 y = s.2.1 225 y)) (hQ : ∀ l h c, e < l → h ≤ hi → Q l h c → Q' l h c) (h7 : bdE b n s Q hi e) : bdE b n s' Q' hi e := by
  obtain ⟨⟨a1, a2, a3, a4, a5, a6, a7, a8⟩, -⟩ := he e (Nat.le_refl _) hl
  rcases h7 with ⟨b1, b2⟩ | ⟨b1, y, b2, b3, b4⟩ | ⟨b1, b2, h, b3, b4, b5, b6⟩
  · exact Or.inl ⟨by rw [a1]; exact b1, by rw [a2]; exact tkN_eq t5 t7 b2⟩
  · refine Or.inr (Or.inl ⟨by rw [a1]; exact b1, y, by rw [a6]; exact b2, b3, ?_⟩)
    exact isY_eq2 t5 t7 (fun z z1 z2 => ⟨(he z (by omega) (by omega)).1, fun z3 => (he z (by omega) (by omega)).2 (by omega)⟩) b4
  · refine Or.inr (Or.inr ⟨by rw [a1]; exact b1, by rw [a2]; exact tkN_eq t5 t7 b2, h, b3, b4, ?_, ?_⟩)
    · rw [a6, a8 (by omega)]
      exact yqs_eq t5 t7 (fun z z1 z2 => ⟨(he z (by omega) (by omega)).1, (he z (by omega) (by omega)).2 (by omega)⟩) b5
    · rw [a4, a7 (by omega)]
      exact eqs_eq (fun z z1 z2 => (he z (by omega) (by omega)).2 (by omega)) (fun l h' c q1 q2 => hQ l h' c (by omega) q2) b6
theorem isEp_eq (t5 : s'.2.1 215 = s.2.1 215) (t7 : s'.2.1 217 = s.2.1 217) {Q Q' : Nat → Nat → Nat → Prop} : ∀ (p lo hi e : Nat), (∀ y, lo ≤ y → y < hi → SR s s' y ∧ (¬ y = e → s'.2.1 225 y = s.2.1 225 y ∧ s'.2.1 228 y = s.2.1 228 y)) → (∀ l h c, lo < l → h ≤ hi → (h ≤ e ∨ e < l) → Q l h c → Q' l h c) → isEp b n s Q p lo hi e → isEp b n s' Q' p lo hi e
  | 0, lo, hi, e, he, hQ, h => by
    obtain ⟨rfl, h1, h2, h3⟩ := h
    obtain ⟨⟨a1, a2, a3, a4, a5, a6, a7, a8⟩, -⟩ := he e (Nat.le_refl _) h1
    exact ⟨rfl, h1, by rw [a5]; exact h2, baE_eq t5 t7 h1 (fun y y1 y2 => ⟨(he y y1 y2).1, fun y3 => ((he y y1 y2).2 (by omega)).1⟩) (fun l h c q1 q2 => hQ l h c q1 q2 (Or.inr q1)) h3⟩
  | p + 1, lo, hi, e, he, hQ, h => by
    obtain ⟨h1, a, h2, h3, h4, h5, h6, h7⟩ := h
    have hl := isEp_lt h4
    obtain ⟨⟨a1, a2, a3, a4, a5, a6, a7, a8⟩, -⟩ := he e (by omega) h1
    have ha := (he a hl.1 (by omega)).2 (by omega)
    refine ⟨h1, a, by rw [a5]; exact h2, by rw [ha.2]; exact h3, ?_, by rw [a3]; exact h5, by rw [a3]; exact h6, bdE_eq t5 t7 h1 (fun y y1 y2 => ⟨(he y (by omega) y2).1, fun y3 => ((he y (by omega) y2).2 (by omega)).1⟩) (fun l h c q1 q2 => hQ l h c (by omega) q2 (Or.inr q1)) h7⟩
    exact isEp_eq t5 t7 p lo e a (fun y y1 y2 => ⟨(he y y1 (by omega)).1, fun _ => (he y y1 (by omega)).2 (by omega)⟩) (fun l h c q1 q2 q3 => hQ l h c q1 (by omega) (Or.inl q2)) h4
theorem isE_eq (t5 : s'.2.1 215 = s.2.1 215) (t7 : s'.2.1 217 = s.2.1 217) : ∀ (m lo hi e : Nat), (∀ y, lo ≤ y → y < hi → SR s s' y ∧ (¬ y = e → s'.2.1 225 y = s.2.1 225 y ∧ s'.2.1 228 y = s.2.1 228 y)) → isE b n s m lo hi e → isE b n s' m lo hi e
  | 0, _, _, _, _, h => h
  | m + 1, lo, hi, e, he, h => by
    obtain ⟨p, hp, h⟩ := h
    refine ⟨p, hp, isEp_eq t5 t7 p lo hi e he (fun l h' c q1 q2 q3 q => ?_) h⟩
    refine isE_eq t5 t7 m l h' c (fun y y1 y2 => ?_) q
    have := he y (by omega) (by omega)
    exact ⟨this.1, fun _ => this.2 (by omega)⟩
theorem isE_sf {m lo hi e k : Nat} {v : Int32} (h : isE b n s m lo hi e) : isE b n (sf s k v) m lo hi e := isE_eq (s := s) (s' := sf s k v) rfl rfl m lo hi e (fun _ _ _ => ⟨⟨rfl, rfl, rfl, rfl, rfl, rfl, fun _ => rfl, fun _ => rfl⟩, fun _ => ⟨rfl, rfl⟩⟩) h
end ET
/-- the reader's frame, two states changed alike -/
theorem Fr_both {N p i : Nat} {s s' : yS} {v : Int32} (h : Fr N s s') : Fr N (sa s p i v) (sa s' p i v) := ⟨h.1, fun q j hq => by
  rw [sa_2, sa_2]
  split
  · rfl
  · exact h.2.1 q j hq, h.2.2⟩
theorem Fr_lo {N N' : Nat} {s s' : yS} (h : Fr N s s') (hN : N' ≤ N ∧ N / 4002 = N' / 4002) : Fr N' s s' := ⟨h.1, fun p i hp => h.2.1 p i (fun q => hp ⟨by omega, by omega, q.2.2⟩), h.2.2⟩
theorem Fr_sa0 {N p i : Nat} {s s' : yS} {v : Int32} (hp : p ∈ ndB) (hi : N ≤ i ∧ i / 4002 = N / 4002) (h : Fr N (sa s p i v) s') : Fr N s s' := ⟨h.1, fun q j hq => by
  rw [h.2.1 q j hq, sa_2, if_neg (fun e => hq ⟨by omega, by rw [e.2]; exact hi.2, by rw [e.1]; exact hp⟩)], h.2.2⟩
/-- the node's own row outside the frame -/
theorem Fr_at {N p i : Nat} {s s' : yS} (h : Fr N s s') (hi : i < N) : s'.2.1 p i = s.2.1 p i := h.2.1 p i (fun q => by omega)
theorem dvb {b : Nat} {x : Int} (h1 : 4002 * (b : Int) ≤ x) (h2 : x < 4002 * (b : Int) + 4002) : x.toNat / 4002 = b := by
  have h : x.toNat = 4002 * b + (x.toNat - 4002 * b) := by omega
  omega
