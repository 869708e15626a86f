/-! ===== addMethod: what it copies ===== -/
section AM
variable {own : Nat → Nat × Nat} {b n N T F H S0 : Nat} {G : PG} {S O R M P E : Nat} {s u : yS}
/-- an element of a TYPE in scope is small -/
theorem vE_50 {sc : Nat → Prop} {x : Nat} (hT : gT G ≤ 24) (hsc : scC G H sc) (h : vE G sc x) : x ≤ 40007 := by
  rcases h with h | ⟨h1, h2, h3⟩
  · omega
  · have := (hsc _ h3).1
    rcases this with w | w | w
    · omega
    · omega
    · omega
/-- what openTypes keeps, element by element -/
theorem sg_at {q i : Nat} {A : List Nat} {sc : Nat → Prop} (hT : gT G ≤ 24) (hsc : scC G H sc) (hA : okE G sc A) (hs : sg s q A.length = A) (hi : i < A.length) : (s.2.1 270 (q + i)).toInt = (A.getD i 0 : Nat) ∧ A.getD i 0 ≤ 40007 := by
  have hget : A[i]? = some A[i] := List.getElem?_eq_getElem hi
  have h1 : (sg s q A.length)[i]? = some (if (s.2.1 270 (q + i)).toInt < 0 then 100000 else (s.2.1 270 (q + i)).toInt.toNat) := by
    unfold sg
    rw [List.getElem?_map, List.getElem?_range hi]
    rfl
  rw [hs, hget] at h1
  have h2 := Option.some.inj h1
  have h3 := vE_50 hT hsc (hA.2 A[i] (List.getElem_mem hi))
  rw [List.getD_eq_getElem?_getD, hget]
  show (s.2.1 270 (q + i)).toInt = ((A[i] : Nat) : Int) ∧ A[i] ≤ 40007
  by_cases hn : (s.2.1 270 (q + i)).toInt < 0
  · rw [if_pos hn] at h2
    omega
  · rw [if_neg hn] at h2
    exact ⟨by omega, h3⟩
/-- the receiver's open TYPE is copied to the top -/
theorem am12 {d e q : Nat} {A0 : List Nat} {a1 a2 a3 : Int32} {sc : Nat → Prop} {Φ : Option Value → yS → Prop} (hT : gT G ≤ 24) (hsc : scC G H sc) (hA : okE G sc A0) (h60 : A0.length ≤ 60) (hTy : TYN u) (h64 : (u.1 64).toInt = (P : Int)) (hP : P + 600 ≤ 199000) (h1 : a1.toInt = (e : Int)) (he : e < 12006) (h71 : (u.2.1 271 e).toInt = (q : Int)) (h72 : (u.2.1 272 e).toInt = (A0.length : Int)) (hq : q + A0.length ≤ 120000) (hs : sg u q A0.length = A0) (hΦ : ∀ w : yS, (∀ k, ¬ k = 64 → w.1 k = u.1 k) → (w.1 64).toInt = (P : Int) + A0.length → (∀ q' i, ¬ (q' = 264 ∧ P ≤ i ∧ i < P + A0.length) → w.2.1 q' i = u.2.1 q' i) → w.2.2 = u.2.2 → TYN w → seg w P A0.length = A0 → ((w.1 111).toInt = 0 → w_255_58 (Tot d) a1 a2 a3 (w.1 64) w Φ) ∧ (¬ (w.1 111).toInt = 0 → Tot d 191 [.ref 213, .int a3, .int (w.2.1 272 e), .int a2] w (fun v2 s1 => ∃ x3, v2 = some (.int x3) ∧ ((x3.toInt = 0 → w_255_58 (Tot d) a1 a2 a3 (w.1 64) s1 Φ) ∧ (¬ x3.toInt = 0 → w_255_59 (Tot d) a1 a2 a3 (w.1 64) 1 s1 Φ))))) : wl_255_12 (Tot d) a1 a2 a3 0 u Φ := by
  refine ⟨fun z1 z2 z3 z4 w => z1 = a1 ∧ z2 = a2 ∧ z3 = a3 ∧ (∀ k, ¬ k = 64 → w.1 k = u.1 k) ∧ w.2.2 = u.2.2 ∧ TYN w ∧ (∀ q' i, ¬ (q' = 264 ∧ P ≤ i ∧ i < P + A0.length) → w.2.1 q' i = u.2.1 q' i) ∧ ∃ k : Nat, z4.toInt = (k : Int) ∧ k ≤ A0.length ∧ (w.1 64).toInt = (P : Int) + k ∧ ∀ i, i < k → tyE w (P + i) = A0.getD i 0, fun _ _ _ z4 _ => (100 - z4.toInt).toNat, ⟨rfl, rfl, rfl, fun _ _ => rfl, rfl, hTy, fun _ _ _ => rfl, 0, rfl, by omega, by omega, fun i hi => by omega⟩, ?_⟩
  rintro z1 z2 z3 z4 w ⟨e1, e2, e3, w1, w2, w3, w4, k, k1, k2, k3, k4⟩
  have e1 := e1.symm
  have e2 := e2.symm
  have e3 := e3.symm
  subst e1 e2 e3
  have r : ∀ q' i, ¬ q' = 264 → w.2.1 q' i = u.2.1 q' i := fun q' i hq => w4 q' i (fun w => hq w.1)
  unfold w_255_12
  rw [show a1.toInt.toNat = e by omega, r 272 e (by decide), r 271 e (by decide)]
  refine ⟨by omega, fun hend => ?_, fun hmore => ⟨by omega, by omega, fun x4 hx4 => ⟨by omega, by omega, ?_⟩⟩⟩
  · have ek : k = A0.length := by omega
    have sg' : seg w P A0.length = A0 := by
      refine List.ext_getElem? (fun i => ?_)
      by_cases hi : i < A0.length
      · rw [seg_get hi, k4 i (by omega), List.getD_eq_getElem?_getD, List.getElem?_eq_getElem hi]
        rfl
      · rw [List.getElem?_eq_none (by rw [seg_len]; omega), List.getElem?_eq_none (by omega)]
    obtain ⟨p1, p2⟩ := hΦ w w1 (by omega) w4 w2 w3 sg'
    rw [r 272 e (by decide)] at p2
    exact ⟨p1, fun hne => ⟨by omega, p2 hne⟩⟩
  · rintro s5 rfl
    rw [show x4.toInt.toNat = q + k by omega, show (w.1 64).toInt.toNat = P + k by omega, r 270 _ (by decide)]
    have e64 : (sa w 264 (P + k) (u.2.1 270 (q + k))).1 64 = w.1 64 := rfl
    rw [e64]
    refine ⟨by omega, ?_⟩
    rintro x6 hx6 s7 rfl
    obtain ⟨g1, g2⟩ := sg_at hT hsc hA hs (show k < A0.length by omega)
    refine ⟨by omega, fun x8 hx8 => ⟨⟨rfl, rfl, rfl, fun j hj => ?_, w2, fun j => ?_, fun q' j c => ?_, k + 1, by omega, by omega, by show x6.toInt = _; omega, fun i hi => ?_⟩, by show (100 - x8.toInt).toNat < (100 - z4.toInt).toNat; omega⟩⟩
    · rw [sf_1, if_neg hj]
      exact w1 j hj
    · show 0 ≤ ((sa w 264 (P + k) (u.2.1 270 (q + k))).2.1 264 j).toInt ∧ ((sa w 264 (P + k) (u.2.1 270 (q + k))).2.1 264 j).toInt ≤ 50000
      rw [sa_2]
      by_cases ej : j = P + k
      · rw [if_pos ⟨rfl, ej⟩]
        omega
      · rw [if_neg (fun w => ej w.2)]
        exact w3 j
    · show (sa w 264 (P + k) (u.2.1 270 (q + k))).2.1 q' j = _
      rw [sa_2, if_neg (fun e => c ⟨e.1, by omega⟩)]
      exact w4 q' j c
    · unfold tyE
      show ((sa w 264 (P + k) (u.2.1 270 (q + k))).2.1 264 (P + i)).toInt.toNat = _
      rw [sa_2]
      by_cases ei : i = k
      · rw [if_pos ⟨rfl, by omega⟩, ei]
        omega
      · rw [if_neg (fun e => by omega)]
        exact k4 i (by omega)
end AM
