/-! ===== TYPES as rows of elements ===== -/
/-- a row of k TYPES -/
def isF : Nat → List Nat → Prop
  | k, [] => k = 0
  | k, x :: L => 1 ≤ k ∧ isF (k - 1 + x % 8) L
theorem isF_app : ∀ {a b : Nat} {A B : List Nat}, isF a A → isF b B → isF (a + b) (A ++ B)
  | a, b, [], B, hA, hB => by
    have : a = 0 := hA
    subst this
    rw [Nat.zero_add]
    exact hB
  | a, b, x :: A, B, hA, hB => by
    refine ⟨by have := hA.1; omega, ?_⟩
    have := isF_app hA.2 hB
    rw [show a - 1 + x % 8 + b = a + b - 1 + x % 8 by have := hA.1; omega] at this
    exact this
theorem isF_spl : ∀ {a b : Nat} {L : List Nat}, isF (a + b) L → ∃ A B, L = A ++ B ∧ isF a A ∧ isF b B
  | 0, b, L, h => ⟨[], L, rfl, rfl, by rw [Nat.zero_add] at h; exact h⟩
  | a + 1, b, [], h => by
    have : a + 1 + b = 0 := h
    omega
  | a + 1, b, x :: L, h => by
    have h2 := h.2
    rw [show a + 1 + b - 1 + x % 8 = (a + x % 8) + b by omega] at h2
    obtain ⟨A, B, e, h3, h4⟩ := isF_spl h2
    refine ⟨x :: A, B, by rw [e]; rfl, ⟨by omega, ?_⟩, h4⟩
    rw [show a + 1 - 1 + x % 8 = a + x % 8 by omega]
    exact h3
theorem isF_1 {k : Nat} {L : List Nat} (h : isF (k + 1) L) : ∃ x A B, L = x :: A ++ B ∧ isF (x % 8) A ∧ isF k B := by
  cases L with
  | nil =>
    have : k + 1 = 0 := h
    omega
  | cons x L =>
    have h2 := h.2
    rw [show k + 1 - 1 + x % 8 = x % 8 + k by omega] at h2
    obtain ⟨A, B, e, h3, h4⟩ := isF_spl h2
    exact ⟨x, A, B, by rw [e]; rfl, h3, h4⟩
theorem isF_ne {k : Nat} {L : List Nat} (h : isF (k + 1) L) : 1 ≤ L.length := by
  obtain ⟨x, A, B, rfl, -⟩ := isF_1 h
  rw [List.length_append, List.length_cons]
  omega
/-- one way to cut -/
theorem isF_inj : ∀ {a : Nat} {A A' B B' : List Nat}, isF a A → isF a A' → A ++ B = A' ++ B' → A = A' ∧ B = B'
  | a, [], [], B, B', _, _, e => ⟨rfl, e⟩
  | a, [], y :: A', B, B', h, h', e => by
    have h0 : a = 0 := h
    have := h'.1
    omega
  | a, x :: A, [], B, B', h, h', e => by
    have h0 : a = 0 := h'
    have := h.1
    omega
  | a, x :: A, y :: A', B, B', h, h', e => by
    have e1 : x = y := (List.cons.inj e).1
    have e2 : A ++ B = A' ++ B' := (List.cons.inj e).2
    subst e1
    have := isF_inj h.2 h'.2 e2
    exact ⟨by rw [this.1], this.2⟩
/-- what stands for an element -/
def sub (σ : Nat → Option (List Nat)) (x : Nat) : List Nat := match σ (x / 8) with
  | some L => L
  | none => [x]
def subs (σ : Nat → Option (List Nat)) (L : List Nat) : List Nat := L.flatMap (sub σ)
/-- all that is given are TYPES, and only what has no arguments is told -/
def okS (σ : Nat → Option (List Nat)) (L : List Nat) : Prop := ∀ x ∈ L, ∀ A, σ (x / 8) = some A → isF 1 A ∧ x % 8 = 0
theorem isF_subs {σ : Nat → Option (List Nat)} : ∀ {k : Nat} {L : List Nat}, okS σ L → isF k L → isF k (subs σ L)
  | k, [], _, h => h
  | k, x :: L, ho, h => by
    have ih := isF_subs (fun y hy => ho y (List.mem_cons_of_mem _ hy)) h.2
    have h1 := h.1
    show isF k (sub σ x ++ subs σ L)
    unfold sub
    split
    · rename_i A hA
      obtain ⟨q1, q2⟩ := ho x List.mem_cons_self A hA
      have := isF_app q1 ih
      rw [show 1 + (k - 1 + x % 8) = k by omega] at this
      exact this
    · exact ⟨h1, ih⟩
theorem subs_app {σ : Nat → Option (List Nat)} {A B : List Nat} : subs σ (A ++ B) = subs σ A ++ subs σ B := List.flatMap_append
theorem subs_cons {σ : Nat → Option (List Nat)} {x : Nat} {B : List Nat} : subs σ (x :: B) = sub σ x ++ subs σ B := rfl
/-! ===== segments of ty ===== -/
def tyE (s : yS) (i : Nat) : Nat := (s.2.1 264 i).toInt.toNat
def seg (s : yS) : Nat → Nat → List Nat
  | _, 0 => []
  | p, l + 1 => tyE s p :: seg s (p + 1) l
theorem seg_len {s : yS} : ∀ {p l : Nat}, (seg s p l).length = l
  | _, 0 => rfl
  | p, l + 1 => by
    show (seg s (p + 1) l).length + 1 = l + 1
    rw [seg_len]
theorem seg_add {s : yS} : ∀ {p a b : Nat}, seg s p (a + b) = seg s p a ++ seg s (p + a) b
  | p, 0, b => by rw [Nat.zero_add]; rfl
  | p, a + 1, b => by
    rw [show a + 1 + b = (a + b) + 1 by omega]
    show tyE s p :: seg s (p + 1) (a + b) = tyE s p :: (seg s (p + 1) a ++ seg s (p + (a + 1)) b)
    rw [seg_add, show p + 1 + a = p + (a + 1) by omega]
theorem seg_eq {s s' : yS} : ∀ {p l : Nat}, (∀ i, p ≤ i → i < p + l → s'.2.1 264 i = s.2.1 264 i) → seg s' p l = seg s p l
  | _, 0, _ => rfl
  | p, l + 1, h => by
    show tyE s' p :: seg s' (p + 1) l = tyE s p :: seg s (p + 1) l
    rw [seg_eq (fun i h1 h2 => h i (by omega) (by omega))]
    unfold tyE
    rw [h p (Nat.le_refl _) (by omega)]
theorem seg_get {s : yS} : ∀ {p l i : Nat}, i < l → (seg s p l)[i]? = some (tyE s (p + i))
  | p, 0, i, h => absurd h (by omega)
  | p, l + 1, 0, h => rfl
  | p, l + 1, i + 1, h => by
    show (seg s (p + 1) l)[i]? = _
    rw [seg_get (by omega), show p + 1 + i = p + (i + 1) by omega]
/-- elements are small -/
def TYN (s : yS) : Prop := ∀ i, 0 ≤ (s.2.1 264 i).toInt ∧ (s.2.1 264 i).toInt ≤ 50000
/-- a row in a segment is cut where its parts end -/
theorem seg_cut {s : yS} {p l : Nat} {A B : List Nat} (h : seg s p l = A ++ B) : seg s p A.length = A ∧ seg s (p + A.length) B.length = B ∧ l = A.length + B.length := by
  have hl : l = A.length + B.length := by
    have := seg_len (s := s) (p := p) (l := l)
    rw [h, List.length_append] at this
    omega
  rw [hl, seg_add] at h
  have := List.append_inj h (by rw [seg_len])
  exact ⟨this.1, this.2, hl⟩
