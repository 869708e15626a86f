/-! ===== the words of a TYPE that was told are one TYPE ===== -/
section YTO
variable {K L cd ar : Int → Int}
theorem tlS_R {f : Int → Int × List (Int × Int)} {nx : Int → Int} {g : Int → Prop} (hf : ∀ t, g t → (f t).1 = 0 → isR ar 1 ((f t).2.map Prod.fst) ∧ ∀ c ∈ (f t).2.map Prod.fst, 0 ≤ c ∧ c < 36) : ∀ (n : Nat) (u : Int), (∀ i, i < n → g (uS nx u i)) → (tlS f nx n u).1 = 0 → isR ar (n : Int) ((tlS f nx n u).2.map Prod.fst) ∧ ∀ c ∈ (tlS f nx n u).2.map Prod.fst, 0 ≤ c ∧ c < 36
  | 0, u, _, _ => ⟨rfl, fun c hc => absurd hc List.not_mem_nil⟩
  | n + 1, u, hg, h => by
    have e1 : tlS f nx (n + 1) u = if (f u).1 = 0 then (if (tlS f nx n (nx u + 1)).1 = 0 then (0, (f u).2 ++ (tlS f nx n (nx u + 1)).2) else ((tlS f nx n (nx u + 1)).1, [])) else ((f u).1, []) := rfl
    by_cases h1 : (f u).1 = 0
    · by_cases h2 : (tlS f nx n (nx u + 1)).1 = 0
      · rw [e1, if_pos h1, if_pos h2]
        obtain ⟨i1, i2⟩ := hf u (hg 0 (Nat.succ_pos _)) h1
        obtain ⟨j1, j2⟩ := tlS_R hf n (nx u + 1) (fun i hi => by rw [uS_s]; exact hg (i + 1) (by omega)) h2
        show isR ar ((n + 1 : Nat) : Int) (((f u).2 ++ (tlS f nx n (nx u + 1)).2).map Prod.fst) ∧ ∀ c ∈ ((f u).2 ++ (tlS f nx n (nx u + 1)).2).map Prod.fst, 0 ≤ c ∧ c < 36
        rw [List.map_append, show ((n + 1 : Nat) : Int) = 1 + (n : Int) by omega]
        exact ⟨isR_app _ _ 1 (n : Int) (by omega) i1 j1, fun c hc => (List.mem_append.mp hc).elim (i2 c) (j2 c)⟩
      · rw [e1, if_pos h1, if_neg h2] at h
        exact absurd h h2
    · rw [e1, if_neg h1] at h
      exact absurd h h1
theorem tlT_R (hcd : ∀ t, cd t < 36) (har : ∀ c, 0 ≤ ar c) : ∀ (m : Nat) (t : Int), m ≤ 11 → (p_t K L m false (0, t)).1 = 0 → (tlT K L cd ar m t).1 = 0 → (isR ar 1 ((tlT K L cd ar m t).2.map Prod.fst) ∧ ∀ c ∈ (tlT K L cd ar m t).2.map Prod.fst, 0 ≤ c ∧ c < 36) ∧ (tlT K L cd ar m t).2.length ≤ 60
  | 0, t, _, h, _ => (pt_tr (K := K) (L := L) (m := 0) (σ := (0, t)) h).elim
  | m + 1, t, hm, h, g => by
    obtain ⟨-, u1, u2⟩ := pt_u (by omega) h
    obtain ⟨T, hT⟩ : ∃ T, tlS (tlT K L cd ar m) (nxT K L) (ntc K L t) (t + 2) = T := ⟨_, rfl⟩
    have e1 : tlT K L cd ar (m + 1) t = if cd t < 0 then (2 + 16 * L t, []) else if ¬ (ntc K L t : Int) = ar (cd t) then (4 + 16 * L t, []) else if T.1 = 0 then (if 60 < T.2.length + 1 then (9 + 16 * L t, []) else (0, (cd t, t) :: T.2)) else (T.1, []) := by
      rw [← hT]
      rfl
    rw [e1] at g ⊢
    by_cases h1 : cd t < 0
    · rw [if_pos h1] at g
      have g' : 2 + 16 * L t = 0 := g
      omega
    rw [if_neg h1] at g ⊢
    by_cases h2 : (ntc K L t : Int) = ar (cd t)
    · rw [if_neg (fun q => q h2)] at g ⊢
      by_cases h3 : T.1 = 0
      · rw [if_pos h3] at g ⊢
        by_cases h4 : 60 < T.2.length + 1
        · rw [if_pos h4] at g
          have g' : 9 + 16 * L t = 0 := g
          omega
        · rw [if_neg h4]
          have key := tlS_R (ar := ar) (f := tlT K L cd ar m) (nx := nxT K L) (g := fun t => (p_t K L m false (0, t)).1 = 0) (fun t' q1 q2 => (tlT_R hcd har m t' (by omega) q1 q2).1) (ntc K L t) (t + 2) (fun i hi => by
            unfold ntc at hi
            by_cases h5 : K (t + 1) = 91
            · rw [if_pos h5] at hi
              exact (u1 h5).2.1 i hi
            · rw [if_neg h5] at hi
              exact absurd hi (Nat.not_lt_zero _)) (by rw [hT]; exact h3)
          rw [hT, h2] at key
          refine ⟨⟨⟨by decide, har _, ?_⟩, fun c hc => ?_⟩, by show T.2.length + 1 ≤ 60; omega⟩
          · show isR ar (1 + ar (cd t) - 1) (T.2.map Prod.fst)
            rw [show 1 + ar (cd t) - 1 = ar (cd t) by omega]
            exact key.1
          · rcases List.mem_cons.mp hc with q | q
            · rw [q]
              have := hcd t
              show 0 ≤ cd t ∧ cd t < 36
              omega
            · exact key.2 c q
      · rw [if_neg h3] at g
        exact absurd g h3
    · rw [if_pos h2] at g
      have g' : 4 + 16 * L t = 0 := g
      omega
end YTO
