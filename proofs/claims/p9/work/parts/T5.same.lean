/-! ===== the same tape, the same tokens ===== -/
section TSM
variable {sg sg' : Nat → Int32} {n k e j l w q : Nat} {r : Int}
/-- two tapes of n signs -/
def Agr (n : Nat) (sg sg' : Nat → Int32) : Prop := ∀ i, i < n → sg' i = sg i
theorem ag_iwd (h : Agr n sg sg') : ∀ k, k < n → iwd sg' k = iwd sg k
  | 0, _ => rfl
  | k + 1, hk => by
    show ((isLt (sg' (k + 1)).toInt || isDg (sg' (k + 1)).toInt) && (iwd sg' k || isLt (sg' k).toInt)) = ((isLt (sg (k + 1)).toInt || isDg (sg (k + 1)).toInt) && (iwd sg k || isLt (sg k).toInt))
    rw [h (k + 1) hk, h k (by omega), ag_iwd h k (by omega)]
theorem ag_stt (h : Agr n sg sg') (hk : k < n) : stt sg' k = stt sg k := by
  unfold stt
  rw [h k hk, ag_iwd h k hk]
theorem ag_ntk (h : Agr n sg sg') : ∀ k, k ≤ n → ntk sg' k = ntk sg k
  | 0, _ => rfl
  | k + 1, hk => by
    show ntk sg' k + (if stt sg' k = true then 1 else 0) = ntk sg k + (if stt sg k = true then 1 else 0)
    rw [ag_ntk h k (by omega), ag_stt h (by omega)]
theorem ag_WEd (h : Agr n sg sg') (g : WEd sg' n k e) : WEd sg n k e := by
  obtain ⟨g1, g2, g3, g4⟩ := g
  refine ⟨g1, g2, fun j j1 j2 => by rw [← ag_iwd h j (by omega)]; exact g3 j j1 j2, ?_⟩
  by_cases en : e = n
  · exact Or.inl en
  · rcases g4 with g4 | g4
    · exact Or.inl g4
    · right
      rw [← ag_iwd h e (by omega)]
      exact g4
theorem WEd_un {e' : Nat} (h : WEd sg n k e) (g : WEd sg n k e') : e = e' := by
  obtain ⟨h1, h2, h3, h4⟩ := h
  obtain ⟨g1, g2, g3, g4⟩ := g
  rcases Nat.lt_trichotomy e e' with w | w | w
  · exfalso
    rcases h4 with h4 | h4
    · omega
    · rw [g3 e h1 w] at h4
      cases h4
  · exact w
  · exfalso
    rcases g4 with g4 | g4
    · omega
    · rw [h3 e' g1 w] at g4
      cases g4
/-- each number is a token's -/
theorem ntk_sur : ∀ (n q : Nat), q < ntk sg n → ∃ j, j < n ∧ stt sg j = true ∧ ntk sg j = q
  | 0, q, h => absurd h (Nat.not_lt_zero _)
  | n + 1, q, h => by
    have e : ntk sg (n + 1) = ntk sg n + (if stt sg n = true then 1 else 0) := rfl
    by_cases hq : q < ntk sg n
    · obtain ⟨j, h1, h2, h3⟩ := ntk_sur n q hq
      exact ⟨j, by omega, h2, h3⟩
    · by_cases hs : stt sg n = true
      · rw [if_pos hs] at e
        exact ⟨n, by omega, hs, by omega⟩
      · rw [if_neg hs] at e
        omega
/-- a word's signs -/
theorem wd_ch (hl : isLt (sg k).toInt = true) (hW : WEd sg n k e) : ∀ i, k + i < e → isLt (sg (k + i)).toInt = true ∨ isDg (sg (k + i)).toInt = true := by
  intro i hi
  cases i with
  | zero => exact Or.inl hl
  | succ i =>
    have h1 := hW.2.2.1 (k + (i + 1)) (by omega) hi
    have h2 : iwd sg (k + i + 1) = ((isLt (sg (k + i + 1)).toInt || isDg (sg (k + i + 1)).toInt) && (iwd sg (k + i) || isLt (sg (k + i)).toInt)) := rfl
    rw [show k + (i + 1) = k + i + 1 by omega] at h1 ⊢
    rw [h2, Bool.and_eq_true, Bool.or_eq_true] at h1
    exact h1.1
/-- the number of a word says its signs -/
def cut9 (f : Nat → Int) (l : Nat) : Nat → Int := fun i => if i < l then f i else 1
theorem wvl_cut {f : Nat → Int} {m : Nat} : ∀ l, l ≤ m → wvl (cut9 f m) l = wvl f l
  | 0, _ => rfl
  | l + 1, h => by
    show 64 * wvl (cut9 f m) l + cut9 f m l = 64 * wvl f l + f l
    rw [wvl_cut l (by omega)]
    unfold cut9
    rw [if_pos (by omega)]
theorem wvl_inj' {f g : Nat → Int} {l m : Nat} (hf : ∀ i, i < l → 1 ≤ f i ∧ f i ≤ 62) (hg : ∀ i, i < m → 1 ≤ g i ∧ g i ≤ 62) (h : wvl f l = wvl g m) : l = m ∧ ∀ i, i < l → f i = g i := by
  have h1 : ∀ i, 1 ≤ cut9 f l i ∧ cut9 f l i ≤ 62 := fun i => by
    unfold cut9
    by_cases hi : i < l
    · rw [if_pos hi]
      exact hf i hi
    · rw [if_neg hi]
      decide
  have h2 : ∀ i, 1 ≤ cut9 g m i ∧ cut9 g m i ≤ 62 := fun i => by
    unfold cut9
    by_cases hi : i < m
    · rw [if_pos hi]
      exact hg i hi
    · rw [if_neg hi]
      decide
  obtain ⟨e1, e2⟩ := wvl_inj h1 h2 l m (by rw [wvl_cut l (Nat.le_refl _), wvl_cut m (Nat.le_refl _)]; exact h)
  refine ⟨e1, fun i hi => ?_⟩
  have := e2 i hi
  unfold cut9 at this
  rw [if_pos hi, if_pos (by omega)] at this
  exact this
theorem wvl_lt {f : Nat → Int} {l : Nat} (hf : ∀ i, i < l → 1 ≤ f i ∧ f i ≤ 62) : 0 ≤ wvl f l ∧ wvl f l < 64 ^ l := by
  have h1 : ∀ i, 1 ≤ cut9 f l i ∧ cut9 f l i ≤ 62 := fun i => by
    unfold cut9
    by_cases hi : i < l
    · rw [if_pos hi]
      exact hf i hi
    · rw [if_neg hi]
      decide
  have := wvl_nn h1 l
  rw [wvl_cut l (Nat.le_refl _)] at this
  exact this
theorem pow64 : ∀ l : Nat, l ≤ 9 → (64 : Int) ^ l ≤ 18014398509481984 := by decide
theorem ofI_inj {x y : Int} (hx : 0 ≤ x ∧ x < 18014398509481984) (hy : 0 ≤ y ∧ y < 18014398509481984) (h : Int64.ofInt x = Int64.ofInt y) : x = y := by
  have e1 : (Int64.ofInt x).toInt = x := Int64.toInt_ofInt_of_le (by omega) (by omega)
  have e2 : (Int64.ofInt y).toInt = y := Int64.toInt_ofInt_of_le (by omega) (by omega)
  rw [← e1, ← e2, h]
/-- two words of letters and digits, told by sg, sg': the same two numbers, the same signs -/
theorem ecw_inj {m : Nat} (hl : l ≤ 12) (hm : m ≤ 12) (hf : ∀ i, i < l → isLt (sg (k + i)).toInt = true ∨ isDg (sg (k + i)).toInt = true) (hg : ∀ i, i < m → isLt (sg' (j + i)).toInt = true ∨ isDg (sg' (j + i)).toInt = true) (h : ecw sg k l = ecw sg' j m) : l = m ∧ ∀ i, i < l → (sg (k + i)).toInt = (sg' (j + i)).toInt := by
  unfold ecw at h
  have a1 := congrArg Prod.fst h
  have a2 := congrArg Prod.snd h
  dsimp only at a1 a2
  have b1 : ∀ i, i < min l 9 → 1 ≤ rgc sg k i ∧ rgc sg k i ≤ 62 := fun i hi => rkc_in (hf i (by omega))
  have b2 : ∀ i, i < min m 9 → 1 ≤ rgc sg' j i ∧ rgc sg' j i ≤ 62 := fun i hi => rkc_in (hg i (by omega))
  have b3 : ∀ i, i < l - 9 → 1 ≤ rgc sg (k + 9) i ∧ rgc sg (k + 9) i ≤ 62 := fun i hi => by
    have := hf (9 + i) (by omega)
    rw [← Nat.add_assoc] at this
    exact rkc_in this
  have b4 : ∀ i, i < m - 9 → 1 ≤ rgc sg' (j + 9) i ∧ rgc sg' (j + 9) i ≤ 62 := fun i hi => by
    have := hg (9 + i) (by omega)
    rw [← Nat.add_assoc] at this
    exact rkc_in this
  have c1 := wvl_lt b1
  have c2 := wvl_lt b2
  have c3 := wvl_lt b3
  have c4 := wvl_lt b4
  have p1 := pow64 (min l 9) (by omega)
  have p2 := pow64 (min m 9) (by omega)
  have p3 := pow64 (l - 9) (by omega)
  have p4 := pow64 (m - 9) (by omega)
  obtain ⟨e1, e2⟩ := wvl_inj' b1 b2 (ofI_inj ⟨c1.1, by omega⟩ ⟨c2.1, by omega⟩ a1)
  obtain ⟨e3, e4⟩ := wvl_inj' b3 b4 (ofI_inj ⟨c3.1, by omega⟩ ⟨c4.1, by omega⟩ a2)
  refine ⟨by omega, fun i hi => ?_⟩
  by_cases h9 : i < 9
  · exact rkc_inj (hf i hi) (hg i (by omega)) (e2 i (by omega))
  · have := e4 (i - 9) (by omega)
    unfold rgc at this
    rw [show k + 9 + (i - 9) = k + i by omega, show j + 9 + (i - 9) = j + i by omega] at this
    exact rkc_inj (hf i hi) (hg i (by omega)) this
theorem wvl_cg {f g : Nat → Int} : ∀ l, (∀ i, i < l → f i = g i) → wvl f l = wvl g l
  | 0, _ => rfl
  | l + 1, h => by
    show 64 * wvl f l + f l = 64 * wvl g l + g l
    rw [wvl_cg l (fun i hi => h i (by omega)), h l (by omega)]
theorem ecw_cg (h : ∀ i, i < l → (sg (k + i)).toInt = (sg' (j + i)).toInt) : ecw sg k l = ecw sg' j l := by
  unfold ecw
  refine Prod.ext (congrArg Int64.ofInt (wvl_cg _ (fun i hi => ?_))) (congrArg Int64.ofInt (wvl_cg _ (fun i hi => ?_)))
  · unfold rgc
    rw [h i (by omega)]
  · unfold rgc
    rw [show k + 9 + i = k + (9 + i) by omega, show j + 9 + i = j + (9 + i) by omega, h (9 + i) (by omega)]
end TSM
