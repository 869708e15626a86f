/-! ===== the reference: envs of two HEADS; a TYPE of each ===== -/
/-- the class's answer as the reference's -/
def cvA (x : Int) : Int := if x = 0 then 1 else if x = 7 then 0 else 2
section YRA
variable {ar : Int → Int} {d e n : Nat} {T c0 c1 β0 β1 b0 b1 b0' b1' : Int} {s s' s6 s12 : yS} {X Y : List (List Int)} {A B O x y : List Int} {η θ : Nat → List Int}
theorem stn_at {i : Nat} (h : i < 6) : sTn[i]? = some [36 + (i : Int)] ∧ ([40000, 40008, 40016, 40024, 40032, 40040] : List Int)[i]? = some (40000 + 8 * (i : Int)) := by
  match i, h with
  | 0, _ => exact ⟨rfl, rfl⟩
  | 1, _ => exact ⟨rfl, rfl⟩
  | 2, _ => exact ⟨rfl, rfl⟩
  | 3, _ => exact ⟨rfl, rfl⟩
  | 4, _ => exact ⟨rfl, rfl⟩
  | 5, _ => exact ⟨rfl, rfl⟩
theorem stn_len (hn : n ≤ 6) : (sTn.take n).length = n := by
  rw [List.length_take]
  show min n 6 = n
  omega
theorem GRe_gr {g g' : Nat} {m : Nat} (hf : GRf g' s s') (hg : ¬ g = g') (hm : m ≤ 6) (h : GRe s g T X m) : GRe s' g T X m := fun i Z hi hZ => by
  obtain ⟨p, h1, h2, h3, h4⟩ := h i Z hi hZ
  refine ⟨p, ?_, ?_, h3, GRf_el hf h4⟩
  · rw [hf.2.2 _ _ (fun q => by omega) (fun q => by omega)]
    exact h1
  · rw [hf.2.2 _ _ (fun q => by omega) (fun q => by omega)]
    exact h2
/-- an env of a type's TYPES and of stand-ins -/
theorem ev_of (h24 : ∀ c, 24 ≤ c → ar c = 0) (h1 : (s6.2.1 265 (2 * e)).toInt = c0) (h2 : (s6.2.1 266 (2 * e)).toInt = (X.length : Int)) (h3 : GRe s6 (2 * e) T X X.length) (hX6 : X.length ≤ 6) (hf : GRf (2 * e + 1) s6 s12) (h4 : (s12.2.1 265 (2 * e + 1)).toInt = c1) (h5 : (s12.2.1 266 (2 * e + 1)).toInt = (n : Int)) (h6 : ∀ i : Nat, i < n → (s12.2.1 267 (6 * (2 * e + 1) + i)).toInt = (i : Int) ∧ (s12.2.1 268 (6 * (2 * e + 1) + i)).toInt = 1) (h0 : RWel s6 0 [40000, 40008, 40016, 40024, 40032, 40040]) (hT : 10 ≤ T) (hn : n ≤ 6) : EVr s12 e T c0 X c1 ((sTn.take n).map (List.map (rhE ar β0 β1))) := by
  have hl : ((sTn.take n).map (List.map (rhE ar β0 β1))).length = n := by rw [List.length_map, stn_len hn]
  refine ⟨⟨?_, ?_, GRe_gr hf (by omega) hX6 h3⟩, h4, by rw [hl]; exact h5, fun i Z hi hZ => ?_⟩
  · rw [hf.2.2 _ _ (fun q => by omega) (fun q => by omega)]
    exact h1
  · rw [hf.2.2 _ _ (fun q => by omega) (fun q => by omega)]
    exact h2
  · rw [hl] at hi
    obtain ⟨k1, k2⟩ := h6 i hi
    obtain ⟨m1, m2⟩ := stn_at (i := i) (by omega)
    rw [List.getElem?_map, List.getElem?_take_of_lt hi, m1] at hZ
    have eZ : [rhE ar β0 β1 (36 + (i : Int))] = Z := Option.some.inj hZ
    have ev : rhE ar β0 β1 (36 + (i : Int)) = 40000 + 8 * (i : Int) := by
      unfold rhE rhC
      rw [if_neg (by omega), if_neg (by omega), if_neg (by omega), h24 _ (by omega)]
      omega
    rw [ev] at eZ
    rw [← eZ]
    refine ⟨(i : Int), k1, k2, ?_, fun j v hv => ?_⟩
    · show 0 ≤ (i : Int) ∧ (i : Int) + ((1 : Nat) : Int) ≤ T
      omega
    · cases j with
      | zero =>
        have e1 : 40000 + 8 * (i : Int) = v := by simpa using hv
        have := GRf_el hf h0 i _ m2
        rw [← e1, show (i : Int) + ((0 : Nat) : Int) = 0 + (i : Int) by omega]
        exact this
      | succ j => cases hv
/-- what is put for the PARAMS of a HEAD: a type's TYPES, and stand-ins -/
theorem eta_st {c : Int} (hX : X.length ≤ 6) (hn : n ≤ 6) (hc : 0 ≤ c ∧ c < 36 ∧ (24 ≤ c → c < 30 → c - 24 < (X.length : Int)) ∧ (30 ≤ c → c - 30 < (n : Int))) : (24 ≤ c → c < 30 → eta X sTn (c - 24).toNat = X.getD (c - 24).toNat []) ∧ (30 ≤ c → eta X sTn (c - 24).toNat = (sTn.take n).getD (c - 30).toNat []) := by
  obtain ⟨h1, h2, h3, h4⟩ := hc
  refine ⟨fun w1 w2 => ?_, fun w1 => ?_⟩
  · have := h3 w1 w2
    unfold eta
    rw [if_pos (by omega), if_pos (by omega)]
  · have := h4 w1
    unfold eta
    rw [if_neg (by omega), if_pos (by show (c - 24).toNat - 6 < 6; omega), show (c - 24).toNat - 6 = (c - 30).toNat by omega, List.getD_eq_getElem?_getD, List.getD_eq_getElem?_getD, List.getElem?_take_of_lt (by omega)]
theorem enc_hd (ha : ∀ c, 0 ≤ ar c ∧ ar c ≤ 7) (hb : bOK b0 b1) (hX : X.length ≤ 6) (hn : n ≤ 6) (hA : cdW (X.length : Int) (n : Int) A) : (A.map (rhE ar b0 b1)).flatMap (rpt b0 (X.map (List.map (rhE ar β0 β1))) b1 ((sTn.take n).map (List.map (rhE ar β0 β1)))) = (sbs (eta X sTn) A).map (rhE ar β0 β1) := by
  refine enc_put ha hb hX A ?_ (fun c hc => eta_st hX hn (hA c hc))
  rw [stn_len hn]
  exact hA
theorem sTn_42 : ∀ x ∈ sTn, ∀ c ∈ x, 0 ≤ c ∧ c < 42 := by decide
theorem eta_42 (hX : ∀ x ∈ X, ∀ c ∈ x, 0 ≤ c ∧ c < 36) {p : Nat} (hp : p < 12) : ∀ c ∈ eta X sTn p, 0 ≤ c ∧ c < 42 := fun c hc => by
  unfold eta at hc
  by_cases h1 : p < 6
  · rw [if_pos h1] at hc
    by_cases h2 : p < X.length
    · rw [if_pos h2] at hc
      have := hX _ (getD_mem h2) c hc
      omega
    · rw [if_neg h2] at hc
      rw [List.mem_singleton.mp hc]
      omega
  · rw [if_neg h1] at hc
    have h2 : p - 6 < sTn.length := by show p - 6 < 6; omega
    rw [if_pos h2] at hc
    exact sTn_42 _ (getD_mem h2) c hc
theorem sbs_42 (hη : ∀ p, p < 12 → ∀ c ∈ η p, 0 ≤ c ∧ c < 42) (hA : ∀ c ∈ A, 0 ≤ c ∧ c < 36) : ∀ c ∈ sbs η A, 0 ≤ c ∧ c < 42 := fun c hc => by
  unfold sbs at hc
  obtain ⟨c', h1, h2⟩ := List.mem_flatMap.mp hc
  have h3 := hA c' h1
  by_cases h4 : c' < 24
  · rw [if_pos h4] at h2
    rw [List.mem_singleton.mp h2]
    omega
  · rw [if_neg h4] at h2
    exact hη _ (by omega) c h2
/-- a TYPE of each of two HEADS -/
theorem al_one (ha : ∀ c, 0 ≤ ar c ∧ ar c ≤ 7) (hb : bOK β0 β1) (hx : ∀ c ∈ sbs η x, 0 ≤ c ∧ c < 42) (hy : ∀ c ∈ sbs θ y, 0 ≤ c ∧ c < 42) {b : Bool} {k : Nat} (hk : ¬ (k = 0 ∧ b = true)) : (on2 ((sbs η x).map (rhE ar β0 β1)) ((sbs θ y).map (rhE ar β0 β1)) = 1 ∧ alkL η θ b k (x :: X) (y :: Y) = alkL η θ b (k - 1) X Y) ∨ (¬ on2 ((sbs η x).map (rhE ar β0 β1)) ((sbs θ y).map (rhE ar β0 β1)) = 1 ∧ on2 ((sbs η x).map (rhE ar β0 β1)) ((sbs θ y).map (rhE ar β0 β1)) = cvA (alkL η θ b k (x :: X) (y :: Y))) := by
  have e1 : alkL η θ b k (x :: X) (y :: Y) = if k = 0 ∧ b = true then 7 else if 60 < (sbs η x).length ∨ 60 < (sbs θ y).length then 9 else if sbs η x = sbs θ y then alkL η θ b (k - 1) X Y else 7 := rfl
  rw [e1, if_neg hk]
  unfold on2
  rw [List.length_map, List.length_map]
  by_cases h1 : 60 < (sbs η x).length ∨ 60 < (sbs θ y).length
  · rw [if_pos h1, if_pos h1]
    exact Or.inr ⟨by decide, rfl⟩
  · rw [if_neg h1, if_neg h1]
    by_cases h2 : sbs η x = sbs θ y
    · rw [if_pos h2, if_pos (by rw [h2])]
      exact Or.inl ⟨rfl, rfl⟩
    · rw [if_neg h2, if_neg (fun q => h2 (enc_inj ha hb _ _ hx hy q))]
      exact Or.inr ⟨by decide, rfl⟩
end YRA
