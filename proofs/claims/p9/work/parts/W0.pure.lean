/-! ===== TYPES by their codes: pure ===== -/
/-- the place of the first that holds, k being the first one's; -1: none -/
def fIx (p : Int → Bool) : Nat → List Int → Int
  | _, [] => -1
  | k, t :: l => if p t = true then (k : Int) else fIx p (k + 1) l
theorem fIx_no {p : Int → Bool} : ∀ (l : List Int) (k : Nat), (∀ (i : Nat) (u : Int), l[i]? = some u → p u = false) → fIx p k l = -1
  | [], _, _ => rfl
  | t :: l, k, h => by
    have h0 : p t = false := h 0 t rfl
    rw [fIx, h0, if_neg (by decide)]
    exact fIx_no l (k + 1) (fun i u hu => h (i + 1) u hu)
theorem fIx_at {p : Int → Bool} : ∀ (l : List Int) (k i : Nat) (u : Int), l[i]? = some u → p u = true → (∀ (j : Nat) (v : Int), j < i → l[j]? = some v → p v = false) → fIx p k l = (k : Int) + (i : Int)
  | [], _, _, _, h, _, _ => by cases h
  | t :: l, k, 0, u, h, hp, _ => by
    have e : t = u := by simpa using h
    rw [fIx, e, hp, if_pos rfl]
    omega
  | t :: l, k, i + 1, u, h, hp, hn => by
    have h0 : p t = false := hn 0 t (by omega) rfl
    rw [fIx, h0, if_neg (by decide), fIx_at l (k + 1) i u h hp (fun j v hj hv => hn (j + 1) v (by omega) hv)]
    omega
theorem fIx_in {p : Int → Bool} : ∀ (l : List Int) (k : Nat), 0 ≤ fIx p k l → ∃ (i : Nat) (u : Int), l[i]? = some u ∧ p u = true ∧ fIx p k l = (k : Int) + (i : Int)
  | [], k, h => by
    rw [fIx] at h
    omega
  | t :: l, k, h => by
    rw [fIx] at h ⊢
    by_cases hp : p t = true
    · rw [if_pos hp]
      exact ⟨0, t, rfl, hp, by omega⟩
    · rw [if_neg hp] at h ⊢
      obtain ⟨i, u, h1, h2, h3⟩ := fIx_in l (k + 1) h
      exact ⟨i + 1, u, h1, h2, by omega⟩
theorem fIx_lt {p : Int → Bool} {l : List Int} : -1 ≤ fIx p 0 l ∧ fIx p 0 l < (l.length : Int) := by
  rcases Int.lt_or_le (fIx p 0 l) 0 with h | h
  · have : fIx p 0 l = -1 := by
      refine fIx_no l 0 (fun i u hu => ?_)
      cases e : p u with
      | false => rfl
      | true =>
        exfalso
        have key : ∀ (n : Nat), ∀ (i : Nat) (u : Int), i ≤ n → l[i]? = some u → p u = true → 0 ≤ fIx p 0 l := by
          intro n
          induction n with
          | zero =>
            intro i u hi hu hp
            have : i = 0 := by omega
            subst this
            rw [fIx_at l 0 0 u hu hp (fun j v hj _ => by omega)]
            omega
          | succ n ih =>
            intro i u hi hu hp
            by_cases hx : ∃ (j : Nat) (v : Int), j < i ∧ l[j]? = some v ∧ p v = true
            · obtain ⟨j, v, j1, j2, j3⟩ := hx
              exact ih j v (by omega) j2 j3
            · rw [fIx_at l 0 i u hu hp (fun j v hj hv => by
                cases e : p v with
                | false => rfl
                | true => exact absurd ⟨j, v, hj, hv, e⟩ hx)]
              omega
        have := key i i u (Nat.le_refl _) hu e
        omega
    have := Int.natCast_nonneg l.length
    omega
  · obtain ⟨i, u, h1, h2, h3⟩ := fIx_in l 0 h
    have := (List.getElem?_eq_some_iff.mp h1).1
    omega
def wEq (W : Int → Int) (t u : Int) : Bool := decide (W u = W t)
/-- the code of the word at token t: PARAMS of the HEAD, of the type or func, types -/
def cdOf (W : Int → Int) (hf tp TN : List Int) (t : Int) : Int := if 0 ≤ fIx (wEq W t) 0 hf then 30 + fIx (wEq W t) 0 hf else if 0 ≤ fIx (wEq W t) 0 tp then 24 + fIx (wEq W t) 0 tp else fIx (wEq W t) 0 TN
theorem cdOf_b {W : Int → Int} {hf tp TN : List Int} {t : Int} (h1 : hf.length ≤ 6) (h2 : tp.length ≤ 6) (h3 : TN.length ≤ 24) : -1 ≤ cdOf W hf tp TN t ∧ cdOf W hf tp TN t < 36 ∧ (24 ≤ cdOf W hf tp TN t → cdOf W hf tp TN t < 24 + (tp.length : Int) ∨ (30 ≤ cdOf W hf tp TN t ∧ cdOf W hf tp TN t < 30 + (hf.length : Int))) ∧ (cdOf W hf tp TN t < 24 → cdOf W hf tp TN t < (TN.length : Int)) := by
  have a := fIx_lt (p := wEq W t) (l := hf)
  have b := fIx_lt (p := wEq W t) (l := tp)
  have c := fIx_lt (p := wEq W t) (l := TN)
  unfold cdOf
  split
  · omega
  · split
    · omega
    · omega
/-- how many TYPES stand in [ ] behind a word -/
def ntc (K L : Int → Int) (t : Int) : Nat := if K (t + 1) = 91 then NT K L (t + 1) else 0
/-- TYPES in a row, told -/
def tlS (f : Int → Int × List (Int × Int)) (nx : Int → Int) : Nat → Int → Int × List (Int × Int)
  | 0, _ => (0, [])
  | n + 1, u => if (f u).1 = 0 then (if (tlS f nx n (nx u + 1)).1 = 0 then (0, (f u).2 ++ (tlS f nx n (nx u + 1)).2) else ((tlS f nx n (nx u + 1)).1, [])) else ((f u).1, [])
/-- a TYPE told: its fault, or its words with their tokens -/
def tlT (K L cd ar : Int → Int) : Nat → Int → Int × List (Int × Int)
  | 0, _ => (0, [])
  | m + 1, t => if cd t < 0 then (2 + 16 * L t, []) else if ¬ (ntc K L t : Int) = ar (cd t) then (4 + 16 * L t, []) else
    if (tlS (tlT K L cd ar m) (nxT K L) (ntc K L t) (t + 2)).1 = 0 then (if 60 < (tlS (tlT K L cd ar m) (nxT K L) (ntc K L t) (t + 2)).2.length + 1 then (9 + 16 * L t, []) else (0, (cd t, t) :: (tlS (tlT K L cd ar m) (nxT K L) (ntc K L t) (t + 2)).2)) else ((tlS (tlT K L cd ar m) (nxT K L) (ntc K L t) (t + 2)).1, [])
/-- the first fault of a row -/
def ffs : List Int → Int
  | [] => 0
  | x :: l => if x = 0 then ffs l else x
theorem ffs_app : ∀ l l' : List Int, ffs (l ++ l') = if ffs l = 0 then ffs l' else ffs l
  | [], l' => by
    show ffs l' = if (0 : Int) = 0 then ffs l' else 0
    rw [if_pos rfl]
  | x :: l, l' => by
    show (if x = 0 then ffs (l ++ l') else x) = if (if x = 0 then ffs l else x) = 0 then ffs l' else (if x = 0 then ffs l else x)
    by_cases h : x = 0
    · rw [if_pos h, if_pos h]
      exact ffs_app l l'
    · rw [if_neg h, if_neg h, if_neg h]
theorem ffs_0 : ∀ {l : List Int}, ffs l = 0 ↔ ∀ x ∈ l, x = 0
  | [] => ⟨fun _ x hx => absurd hx List.not_mem_nil, fun _ => rfl⟩
  | x :: l => by
    show (if x = 0 then ffs l else x) = 0 ↔ _
    by_cases h : x = 0
    · rw [if_pos h, ffs_0 (l := l)]
      exact ⟨fun g y hy => by rcases List.mem_cons.mp hy with e | hy; · rw [e]; exact h
                              · exact g y hy, fun g y hy => g y (List.mem_cons_of_mem _ hy)⟩
    · rw [if_neg h]
      exact ⟨fun g => absurd g h, fun g => absurd (g x List.mem_cons_self) h⟩
