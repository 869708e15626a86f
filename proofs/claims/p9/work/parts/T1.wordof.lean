/-! ===== wordOf ===== -/
/-- the words of bank b -/
def WTb (b : Int) (Wl : List (Int64 × Int64)) (s : yS) : Prop := (s.2.1 220 b.toNat).toInt = (Wl.length : Int) ∧ ∀ (i : Nat) (p : Int64 × Int64), Wl[i]? = some p → s.2.2 218 (2100 * b + i).toNat = p.1 ∧ s.2.2 219 (2100 * b + i).toNat = p.2
/-- one word more, or it stood: k its number -/
def WAd (p : Int64 × Int64) (Wl Wl' : List (Int64 × Int64)) (k : Nat) : Prop := Wl'[k]? = some p ∧ ((Wl' = Wl) ∨ (Wl' = Wl ++ [p] ∧ p ∉ Wl))
def WFs (b : Int) (s s' : yS) : Prop := s'.1 = s.1 ∧ ∀ p i, ¬ (p = 220 ∧ i = b.toNat) → s'.2.1 p i = s.2.1 p i
section TWO
variable {d : Nat} {s s' : yS} {b : Int} {Wl Wl' : List (Int64 × Int64)} {a1 a3 : Int64} {p : Int64 × Int64} {k : Nat}
theorem slr_1 {q i : Nat} {x : Int64} : (sl s q i x).1 = s.1 := rfl
theorem slr_21 {q i : Nat} {x : Int64} : (sl s q i x).2.1 = s.2.1 := rfl
theorem slr_22 {q i r j : Nat} {x : Int64} : (sl s q i x).2.2 r j = if r = q ∧ j = i then x else s.2.2 r j := by
  show (if r = q then vp_updL (s.2.2 q) i x else s.2.2 r) j = _
  by_cases h : r = q
  · subst h
    rw [if_pos rfl]
    unfold vp_updL
    by_cases h2 : j = i
    · rw [if_pos h2, if_pos ⟨rfl, h2⟩]
    · rw [if_neg h2, if_neg (fun w => h2 w.2)]
  · rw [if_neg h, if_neg (fun w => h w.1)]
theorem WAd_nd (h : WAd p Wl Wl' k) (hn : Wl.Nodup) : Wl'.Nodup := by
  rcases h.2 with e | ⟨e, hp⟩
  · rw [e]
    exact hn
  · rw [e, List.nodup_append]
    refine ⟨hn, by simp, fun a ha c hc w => ?_⟩
    have : c = p := by simpa using hc
    rw [w, this] at ha
    exact hp ha
theorem WAd_pre (h : WAd p Wl Wl' k) {i : Nat} {q : Int64 × Int64} (hi : Wl[i]? = some q) : Wl'[i]? = some q := by
  rcases h.2 with e | ⟨e, -⟩
  · rw [e]
    exact hi
  · rw [e]
    have : i < Wl.length := by
      rcases Nat.lt_or_ge i Wl.length with w | w
      · exact w
      · rw [List.getElem?_eq_none w] at hi
        cases hi
    rw [List.getElem?_append_left this]
    exact hi
set_option maxHeartbeats 2000000 in
theorem x_160 (h9 : (s.1 9).toInt = b) (hb : 0 ≤ b) (hW : WTb b Wl s) : Par d 160 [.ref 213, .long a1, .long a3] s (fun v s' => ∃ (r : Int32) (k : Nat) (Wl' : List (Int64 × Int64)), v = some (.int r) ∧ r.toInt = (k : Int) ∧ WAd (a1, a3) Wl Wl' k ∧ WTb b Wl' s' ∧ WFs b s s') := by
  cases d with
  | zero => exact Par_0
  | succ d =>
    refine pb_160 ?_
    unfold ub_160_0
    rw [h9]
    intro _ x1 hx1
    refine ⟨fun b1 b3 b5 b6 t => b1 = a1 ∧ b3 = a3 ∧ b5 = x1 ∧ t = s ∧ ∃ j : Nat, b6.toInt = (j : Int) ∧ j ≤ Wl.length ∧ ∀ i, i < j → ¬ Wl[i]? = some (a1, a3), ⟨rfl, rfl, rfl, rfl, 0, by decide, Nat.zero_le _, fun i hi => by omega⟩, ?_⟩
    rintro b1 b3 b5 b6 t ⟨e1, e2, e3, e4, j, g1, g2, g3⟩
    subst e1 e2 e3 e4
    have nxt : j < Wl.length → ¬ Wl[j]? = some (b1, b3) → ub_160_34 (Par d) (fun b1' b3' b5' b6 t' => b1' = b1 ∧ b3' = b3 ∧ b5' = b5 ∧ t' = t ∧ ∃ j : Nat, b6.toInt = (j : Int) ∧ j ≤ Wl.length ∧ ∀ i, i < j → ¬ Wl[i]? = some (b1, b3)) b1 b3 b5 b6 t (fun v s' => ∃ (r : Int32) (k : Nat) (Wl' : List (Int64 × Int64)), v = some (.int r) ∧ r.toInt = (k : Int) ∧ WAd (b1, b3) Wl Wl' k ∧ WTb b Wl' s' ∧ WFs b t s') := fun hj hne => by
      unfold ub_160_34
      intro _ x2 hx2
      refine ⟨rfl, rfl, rfl, rfl, j + 1, by omega, by omega, fun i hi => ?_⟩
      by_cases e : i = j
      · rw [e]
        exact hne
      · exact g3 i (by omega)
    unfold ub_160_7
    rw [h9, hW.1]
    intro hb3
    refine ⟨fun w => ?_, fun w => ?_⟩
    · have hj : j = Wl.length := by omega
      subst hj
      intro _ _ x2 hx2 _ s2 hs2
      have e2 : s2.1 = t.1 := by rw [hs2]; rfl
      have e21 : s2.2.1 = t.2.1 := by rw [hs2]; rfl
      rw [e2, h9, e21, hW.1]
      intro _ _ x3 hx3 _ s4 hs4
      have e4 : s4.1 = t.1 := by rw [hs4, ← e2]; rfl
      have e41 : s4.2.1 = t.2.1 := by rw [hs4, ← e21]; rfl
      rw [e4, h9, e41, hW.1]
      intro _ _ x5 hx5 _ s6 hs6
      have e6 : s6.1 = t.1 := by rw [hs6, ← e4]; rfl
      have r6 : ∀ q i, s6.2.1 q i = if q = 220 ∧ i = b.toNat then x5 else t.2.1 q i := fun q i => by rw [hs6, sa_21, e41]
      have l6 : ∀ q i, s6.2.2 q i = if q = 219 ∧ i = x3.toInt.toNat then b3 else if q = 218 ∧ i = x2.toInt.toNat then b1 else t.2.2 q i := fun q i => by
        rw [hs6]
        show s4.2.2 q i = _
        rw [hs4, slr_22, hs2, slr_22]
      rw [e6, h9, r6, if_pos ⟨rfl, rfl⟩]
      intro _ _ x7 hx7
      have el : (Wl ++ [(b1, b3)]).length = Wl.length + 1 := by
        rw [List.length_append]
        rfl
      refine ⟨x7, Wl.length, Wl ++ [(b1, b3)], rfl, by omega, ⟨by rw [List.getElem?_append_right (Nat.le_refl _), Nat.sub_self]; rfl, Or.inr ⟨rfl, fun hm => ?_⟩⟩, ⟨by rw [r6, if_pos ⟨rfl, rfl⟩, el]; omega, fun i p hp => ?_⟩, e6, fun q i hq => by rw [r6, if_neg hq]⟩
      · obtain ⟨i, hi, hi2⟩ := List.mem_iff_getElem.mp hm
        exact g3 i hi (by rw [List.getElem?_eq_getElem hi, hi2])
      · by_cases hi : i < Wl.length
        · rw [List.getElem?_append_left hi] at hp
          obtain ⟨c1, c2⟩ := hW.2 i p hp
          rw [l6, if_neg (by omega), if_neg (by omega), l6, if_neg (by omega), if_neg (by omega)]
          exact ⟨c1, c2⟩
        · rw [List.getElem?_append_right (by omega)] at hp
          have e : i - Wl.length = 0 := by
            rcases Nat.eq_zero_or_pos (i - Wl.length) with h | h
            · exact h
            · rw [List.getElem?_eq_none (by simp only [List.length_cons, List.length_nil]; omega)] at hp
              cases hp
          rw [e] at hp
          have ep : (b1, b3) = p := by simpa using hp
          rw [← ep, l6, if_neg (by omega), if_pos ⟨rfl, by omega⟩, l6, if_pos ⟨rfl, by omega⟩]
          exact ⟨rfl, rfl⟩
    · have hj : j < Wl.length := by omega
      have hp : Wl[j]? = some Wl[j] := List.getElem?_eq_getElem hj
      obtain ⟨c1, c2⟩ := hW.2 j _ hp
      intro _ x8 hx8 _
      have ex : x8.toInt.toNat = (2100 * b + (j : Int)).toNat := by omega
      rw [ex, c1]
      refine ⟨fun w1 => nxt hj (fun q => w1 (lgc_0.mpr ?_)), fun w1 _ x9 hx9 _ => ?_⟩
      · rw [hp] at q
        have := congrArg Prod.fst (Option.some.inj q)
        exact this
      · have ex9 : x9.toInt.toNat = (2100 * b + (j : Int)).toNat := by omega
        rw [ex9, c2]
        refine ⟨fun w2 => nxt hj (fun q => w2 (lgc_0.mpr ?_)), fun w2 => ?_⟩
        · rw [hp] at q
          have := congrArg Prod.snd (Option.some.inj q)
          exact this
        · refine ⟨b6, j, Wl, rfl, g1, ⟨?_, Or.inl rfl⟩, hW, rfl, fun _ _ _ => rfl⟩
          rw [hp]
          exact congrArg some (Prod.ext (lgc_0.mp w1) (lgc_0.mp w2))
end TWO
