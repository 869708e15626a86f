/-! ===== the world of typeE ===== -/
def tK : List Nat := [8, 64, 65, 71, 72, 73, 74, 80, 81, 85]
/-- what typeE changes, for an E whose nodes are from lo to hi -/
def TFr (ks : List Nat) (b lo hi S P E O : Nat) (s s' : yS) : Prop := (∀ k, k ∉ ks → s'.1 k = s.1 k) ∧ (∀ q i, ¬ ((q = 226 ∧ (s.2.1 221 i).toInt = 3 ∨ q = 230 ∧ (s.2.1 221 i).toInt = 1 ∨ q = 231 ∨ q = 232 ∨ q = 271 ∨ q = 272) ∧ lo ≤ i ∧ i < hi) → ¬ (q = 264 ∧ (S ≤ i ∧ i < 10 + 4100 * (b + 1) ∨ P ≤ i)) → ¬ ((q = 265 ∨ q = 266) ∧ 2 * E ≤ i) → ¬ ((q = 267 ∨ q = 268) ∧ 12 * E ≤ i) → ¬ (q = 270 ∧ O ≤ i ∧ i < 60000 * (b + 1)) → s'.2.1 q i = s.2.1 q i) ∧ s'.2.2 = s.2.2 ∧ TYN s' ∧ GC s'
theorem tbR_t : ∀ p ∈ tbR, p ∉ [226, 230, 231, 232, 264, 265, 266, 267, 268, 270, 271, 272] := by decide
section TF
variable {ks ks' : List Nat} {b lo hi lo' hi' S S' P P' E E' O O' : Nat} {s s' s'' : yS}
theorem TF_rf (hT : TYN s) (hG : GC s) : TFr ks b lo hi S P E O s s := ⟨fun _ _ => rfl, fun _ _ _ _ _ _ _ => rfl, rfl, hT, hG⟩
theorem TF_row {q : Nat} (h : TFr ks b lo hi S P E O s s') (hq : q ∉ [226, 230, 231, 232, 264, 265, 266, 267, 268, 270, 271, 272]) : s'.2.1 q = s.2.1 q := by
  simp only [List.mem_cons, List.not_mem_nil, or_false, not_or] at hq
  funext i
  exact h.2.1 q i (fun w => by omega) (fun w => by omega) (fun w => by omega) (fun w => by omega) (fun w => by omega)
theorem TF_tr (h : TFr ks b lo hi S P E O s s') (h' : TFr ks' b lo' hi' S' P' E' O' s' s'') (hk : ∀ k, k ∈ ks' → k ∈ ks) (h1 : lo ≤ lo') (h2 : hi' ≤ hi) (hS : S ≤ S') (hP : P ≤ P') (hE : E ≤ E') (hO : O ≤ O') : TFr ks b lo hi S P E O s s'' := by
  refine ⟨fun k w => (h'.1 k (fun w' => w (hk k w'))).trans (h.1 k w), fun q i w1 w2 w3 w4 w5 => ?_, h'.2.2.1.trans h.2.2.1, h'.2.2.2⟩
  have e221 : s'.2.1 221 = s.2.1 221 := TF_row h (by decide)
  rw [h'.2.1 q i (fun w => w1 ⟨by rw [e221] at w; exact w.1, by omega, by omega⟩) (fun w => w2 ⟨w.1, by omega⟩) (fun w => w3 ⟨w.1, by omega⟩) (fun w => w4 ⟨w.1, by omega⟩) (fun w => w5 ⟨w.1, by omega, by omega⟩)]
  exact h.2.1 q i w1 w2 w3 w4 w5
theorem TF_mo (h : TFr ks' b lo' hi' S' P' E' O' s s') (hk : ∀ k, k ∈ ks' → k ∈ ks) (h1 : lo ≤ lo') (h2 : hi' ≤ hi) (hS : S ≤ S') (hP : P ≤ P') (hE : E ≤ E') (hO : O ≤ O') : TFr ks b lo hi S P E O s s' := ⟨fun k w => h.1 k (fun w' => w (hk k w')), fun q i w1 w2 w3 w4 w5 => h.2.1 q i (fun w => w1 ⟨w.1, by omega, by omega⟩) (fun w => w2 ⟨w.1, by omega⟩) (fun w => w3 ⟨w.1, by omega⟩) (fun w => w4 ⟨w.1, by omega⟩) (fun w => w5 ⟨w.1, by omega, by omega⟩), h.2.2⟩
theorem TF_xf (h : XF ks P E s s') : TFr ks b lo hi S P E O s s' := ⟨h.1, fun q i _ w2 w3 w4 _ => h.2.1 q i (fun w => w2 ⟨w.1, Or.inr w.2⟩) w3 w4, h.2.2⟩
theorem TF_sf {k : Nat} {v : Int32} (h : TFr ks b lo hi S P E O s s') (hk : k ∈ ks) : TFr ks b lo hi S P E O s (sf s' k v) := ⟨fun j hj => by
  rw [sf_1, if_neg (fun w => hj (by rw [w]; exact hk))]
  exact h.1 j hj, h.2⟩
theorem TF_back {k : Nat} (h : TFr (k :: ks) b lo hi S P E O s s') : TFr ks b lo hi S P E O s (sf s' k (s.1 k)) := ⟨fun j hj => by
  rw [sf_1]
  split
  · rename_i w; rw [w]
  · rename_i w
    exact h.1 j (fun w' => (List.mem_cons.mp w').elim w hj), h.2⟩
theorem TF_fo (h : TFr ks b lo hi S P E O s s') (hF : FO s' s'') (h8 : 8 ∈ ks) : TFr ks b lo hi S P E O s s'' := by
  have e2 := FO_2 hF
  refine ⟨fun k hk => ?_, fun q i w1 w2 w3 w4 w5 => by rw [e2]; exact h.2.1 q i w1 w2 w3 w4 w5, by rw [e2]; exact h.2.2.1, fun i => by rw [e2]; exact h.2.2.2.1 i, fun i => by rw [e2]; exact h.2.2.2.2 i⟩
  rw [FO_1 hF (fun w => hk (by rw [w]; exact h8))]
  exact h.1 k hk
theorem TF_seg {p l : Nat} (h : TFr ks b lo hi S P E O s s') (h1 : p + l ≤ S ∨ 100000 ≤ p) (h2 : p + l ≤ P) (hb : b < 2) : seg s' p l = seg s p l := seg_eq (fun i i1 i2 => h.2.1 264 i (fun w => by omega) (fun w => by omega) (fun w => by omega) (fun w => by omega) (fun w => by omega))
theorem TF_CA {n lo0 hi0 : Nat} (h : TFr ks b lo hi S P E O s s') (hd : hi0 ≤ lo ∨ hi ≤ lo0) (hS : S ≤ P) : CA b n lo0 hi0 S O s s' := by
  refine ⟨fun q hq x x1 x2 => ?_, fun t _ _ => by rw [TF_row h (by decide)], fun j j1 j2 => ?_, fun j j1 j2 => ?_⟩
  · have hn : ¬ q = 264 ∧ ¬ q = 265 ∧ ¬ q = 266 ∧ ¬ q = 267 ∧ ¬ q = 268 ∧ ¬ q = 270 := by clear h; revert q; decide
    exact h.2.1 q x (fun w => by omega) (fun w => by omega) (fun w => by omega) (fun w => by omega) (fun w => by omega)
  · exact h.2.1 264 j (fun w => by omega) (fun w => by omega) (fun w => by omega) (fun w => by omega) (fun w => by omega)
  · exact h.2.1 270 j (fun w => by omega) (fun w => by omega) (fun w => by omega) (fun w => by omega) (fun w => by omega)
theorem TF_NL {n N : Nat} (h : TFr ks b lo hi S P E O s s') : NL b n N s s' := by
  refine ⟨fun t _ _ => ⟨by rw [TF_row h (by decide)], by rw [TF_row h (by decide)]⟩, fun x _ _ => ⟨⟨by rw [TF_row h (by decide)], by rw [TF_row h (by decide)], by rw [TF_row h (by decide)], by rw [TF_row h (by decide)], by rw [TF_row h (by decide)], by rw [TF_row h (by decide)], fun hn => ?_, fun hn => ?_⟩, by rw [TF_row h (by decide)], by rw [TF_row h (by decide)]⟩, fun p i hp _ _ => ?_⟩
  · exact h.2.1 226 x (fun w => by omega) (fun w => by omega) (fun w => by omega) (fun w => by omega) (fun w => by omega)
  · exact h.2.1 230 x (fun w => by omega) (fun w => by omega) (fun w => by omega) (fun w => by omega) (fun w => by omega)
  · rw [TF_row h (tbR_t p hp)]
/-- where what an env gives lies: ahead of S, or in the work's part of ty -/
def EVl (S : Nat) (s : yS) (e : Nat) (As Bs : List (List Nat)) : Prop := (∀ (a : Nat) (A : List Nat), As[a]? = some A → (s.2.1 267 (12 * e + a)).toInt + (A.length : Int) ≤ (S : Int) ∨ 100000 ≤ (s.2.1 267 (12 * e + a)).toInt) ∧ ∀ (a : Nat) (A : List Nat), Bs[a]? = some A → (s.2.1 267 (12 * e + 6 + a)).toInt + (A.length : Int) ≤ (S : Int) ∨ 100000 ≤ (s.2.1 267 (12 * e + 6 + a)).toInt
theorem EVg_lo {i base Q : Nat} {As : List (List Nat)} (hb : b < 2) (h : EVg s i base Q As) (hl : ∀ (a : Nat) (A : List Nat), As[a]? = some A → (s.2.1 267 (6 * i + a)).toInt + (A.length : Int) ≤ (S : Int) ∨ 100000 ≤ (s.2.1 267 (6 * i + a)).toInt) (hw : TFr ks b lo hi S P E O s s') (hi2 : i < 2 * E) (hP : Q ≤ P) : EVg s' i base Q As ∧ ∀ a, a < 6 → s'.2.1 267 (6 * i + a) = s.2.1 267 (6 * i + a) := by
  have cell : ∀ q i, (q = 265 ∨ q = 266) ∧ i < 2 * E ∨ (q = 267 ∨ q = 268) ∧ i < 12 * E → s'.2.1 q i = s.2.1 q i := fun q i hq => hw.2.1 q i (fun w => by omega) (fun w => by omega) (fun w => by omega) (fun w => by omega) (fun w => by omega)
  obtain ⟨g1, g2, g3, g4⟩ := h
  refine ⟨⟨by rw [cell 265 i (by omega)]; exact g1, by rw [cell 266 i (by omega)]; exact g2, g3, fun a A hA => ?_⟩, fun a ha => cell _ _ (by omega)⟩
  obtain ⟨w1, q, w2, w3, w4, w5⟩ := g4 a A hA
  have ha : a < 6 := by
    by_cases q : a < As.length
    · omega
    · rw [List.getElem?_eq_none (by omega)] at hA
      cases hA
  have hl := hl a A hA
  exact ⟨w1, q, by rw [cell 267 _ (by omega)]; exact w2, by rw [cell 268 _ (by omega)]; exact w3, by rw [TF_seg hw (by omega) (by omega) hb]; exact w4, w5⟩
theorem EV_tf {e b0 b1 Q : Nat} {As Bs : List (List Nat)} (hb : b < 2) (h : EV s e Q b0 As b1 Bs) (hl : EVl S s e As Bs) (hw : TFr ks b lo hi S P E O s s') (he : e < E) (hP : Q ≤ P) (hS : S ≤ S') : EV s' e Q b0 As b1 Bs ∧ EVl S' s' e As Bs := by
  obtain ⟨k1, k2⟩ := EVg_lo hb h.1 (fun a A hA => by rw [show 6 * (2 * e) + a = 12 * e + a by omega]; exact hl.1 a A hA) hw (by omega) hP
  obtain ⟨k3, k4⟩ := EVg_lo hb h.2 (fun a A hA => by rw [show 6 * (2 * e + 1) + a = 12 * e + 6 + a by omega]; exact hl.2 a A hA) hw (by omega) hP
  have six : ∀ {Cs : List (List Nat)} {a : Nat} {A : List Nat}, Cs.length ≤ 6 → Cs[a]? = some A → a < 6 := by
    intro Cs a A h6 hA
    by_cases q : a < Cs.length
    · omega
    · rw [List.getElem?_eq_none (by omega)] at hA
      cases hA
  refine ⟨⟨k1, k3⟩, fun a A hA => ?_, fun a A hA => ?_⟩
  · have := k2 a (six h.1.2.2.1 hA)
    rw [show 6 * (2 * e) + a = 12 * e + a by omega] at this
    rw [this]
    have := hl.1 a A hA
    omega
  · have := k4 a (six h.2.2.2.1 hA)
    rw [show 6 * (2 * e + 1) + a = 12 * e + 6 + a by omega] at this
    rw [this]
    have := hl.2 a A hA
    omega
end TF
