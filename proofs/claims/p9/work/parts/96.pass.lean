/-! ===== the pass over the words, whole ===== -/
def dSl (b T F : Nat) (z : yS) (i : Nat) (p : Nat × Nat) : Prop := (∃ d, d < T ∧ (z.2.1 262 (84 * b + i)).toInt = (d : Int) ∧ tSl z (24 * b + d) p) ∨ (∃ f, f < F ∧ (z.2.1 262 (84 * b + i)).toInt = 100 + (f : Int) ∧ hSl (nT z 257 (60 * b + f)) p)
def dDn (b T F : Nat) (z : yS) (D : Nat × Nat → Bool) (s : yS) (i : Nat) : Prop := (∃ d, d < T ∧ (z.2.1 262 (84 * b + i)).toInt = (d : Int) ∧ tDn z (24 * b + d) D) ∨ (∃ f, f < F ∧ (z.2.1 262 (84 * b + i)).toInt = 100 + (f : Int) ∧ hDn z (nT z 257 (60 * b + f)) D ∧ SO b T z s f)
def P1 (own : Nat → Nat × Nat) (b n W N T F H : Nat) (z : yS) (k : Nat) (s : yS) : Prop := ∃ D, PH own b n W N T F H D z s ∧ (∀ p, D p = true → ∃ i, i < k ∧ dSl b T F z i p) ∧ ((s.1 8).toInt = 0 → ∀ i, i < k → dDn b T F z D s i)
theorem hs_mono {hs : Nat → Nat} {K : Nat} (h : ∀ i, i < K → hs i ≤ hs (i + 1)) : ∀ j i, i ≤ j → j ≤ K → hs i ≤ hs j
  | 0, i, h1, _ => by have : i = 0 := by omega
                      rw [this]; exact Nat.le_refl _
  | j + 1, i, h1, h2 => by
    by_cases e : i = j + 1
    · rw [e]; exact Nat.le_refl _
    · exact Nat.le_trans (hs_mono h j i (by omega) (by omega)) (h j (by omega))
theorem tSl_h {z : yS} {d : Nat} {p : Nat × Nat} (h : tSl z d p) : ((p.1 = 238 ∨ p.1 = 241) ∧ p.2 / 6 = d) ∨ ∃ h, nT z 242 d ≤ h ∧ h < nT z 242 d + nT z 243 d ∧ hSl h p := h
section PA
variable {own : Nat → Nat × Nat} {b n W N T F H : Nat} {z s : yS}
/-- slots of two declarations are not the same -/
theorem dSl_inj (hO : HO b T F H z) (hT : T ≤ 24) {i j : Nat} {p : Nat × Nat} (hi : i < T + F) (hj : j < T + F) (h : dSl b T F z i p) (h' : dSl b T F z j p) : i = j := by
  obtain ⟨hs, o1, o2, o3, o4⟩ := hO
  have mono := hs_mono (fun i hi => (o4 i hi).1)
  -- a head slot: which head
  have head : ∀ i, i < T + F → dSl b T F z i p → ¬ (p.1 = 238 ∨ p.1 = 241) → ∃ h, 204 * b + hs i ≤ h ∧ h < 204 * b + hs (i + 1) ∧ hSl h p := by
    intro i hi hd hn
    obtain ⟨m, o⟩ := o4 i hi
    rcases hd with ⟨d, d1, d2, d3⟩ | ⟨f, f1, f2, f3⟩
    · rcases o with ⟨d', q1, q2, q3, q4⟩ | ⟨f', q1, q2, q3, q4⟩
      · have : d' = d := by omega
        subst this
        rcases d3 with w | ⟨h, w1, w2, w3⟩
        · exact absurd w.1 hn
        · unfold nT at w1 w2
          exact ⟨h, by omega, by omega, w3⟩
      · omega
    · rcases o with ⟨d', q1, q2, q3, q4⟩ | ⟨f', q1, q2, q3, q4⟩
      · omega
      · have : f' = f := by omega
        subst this
        refine ⟨nT z 257 (60 * b + f'), ?_, ?_, f3⟩ <;> (unfold nT; omega)
  by_cases hn : p.1 = 238 ∨ p.1 = 241
  · have ty : ∀ i, dSl b T F z i p → (z.2.1 262 (84 * b + i)).toInt = ((p.2 / 6 : Nat) : Int) - 24 * b := by
      intro i hd
      rcases hd with ⟨d, d1, d2, d3⟩ | ⟨f, f1, f2, f3⟩
      · rcases d3 with w | ⟨h, w1, w2, w3⟩
        · omega
        · exact absurd hn (hSl_n w3)
      · exact absurd hn (hSl_n f3)
    exact o3 i j hi hj (by rw [ty i h, ty j h'])
  · obtain ⟨x, x1, x2, x3⟩ := head i hi h hn
    obtain ⟨y, y1, y2, y3⟩ := head j hj h' hn
    have := hSl_inj x3 y3
    rcases Nat.lt_trichotomy i j with e | e | e
    · have := mono j (i + 1) e (by omega)
      omega
    · exact e
    · have := mono i (j + 1) e (by omega)
      omega
theorem HO_z (hP : FZ b z s) (hO : HO b T F H s) : HO b T F H z := by
  unfold HO at *
  rw [FZ_row hP (show 262 ∉ [231, 232, 261, 264] by decide), FZ_row hP (show 242 ∉ [231, 232, 261, 264] by decide), FZ_row hP (show 243 ∉ [231, 232, 261, 264] by decide), FZ_row hP (show 257 ∉ [231, 232, 261, 264] by decide)] at hO
  exact hO
/-- goThrough, time 1 -/
theorem s_231b {i : Nat} {a1 a2 : Int32} (hP : P1 own b n W N T F H z i s) (hi : i < T + F) (h0 : (s.1 8).toInt = 0) (h30 : (s.1 30).toInt = (b : Int)) (h1 : a1.toInt = 1) (h2 : a2 = s.2.1 262 (84 * b + i)) : Tot 17 231 [.ref 213, .int a1, .int a2] s (fun v s' => v = none ∧ P1 own b n W N T F H z (i + 1) s') := by
  obtain ⟨D, hP, hD, hdn⟩ := hP
  obtain ⟨hb, hn, hT24, hF60, hH204, -, -, hA⟩ := id hP.2.1
  have hO : HO b T F H z := HO_z hP.2.2.2.2.2.2.2.2.1 hA.2.2.2.2
  have hdc := hA.2.2.2.1.2.2 i hi
  have z62 : s.2.1 262 = z.2.1 262 := PH_row hP (by decide)
  have free : ∀ p, dSl b T F z i p → D p = false := by
    intro p hp
    cases e : D p with
    | false => rfl
    | true =>
      obtain ⟨j, j1, j2⟩ := hD p e
      have := dSl_inj hO hT24 hi (by omega) hp j2
      omega
  refine t_231 ?_
  unfold w_231_0
  rw [← h2] at hdc
  have ha : 0 ≤ a2.toInt ∧ a2.toInt < 160 := by
    rcases hdc with ⟨d, d1, d2⟩ | ⟨f, f1, f2⟩ <;> omega
  refine ⟨by omega, fun x1 hx1 => ⟨by omega, fun x2 hx2 => ⟨by omega, fun x3 hx3 => ⟨by omega, fun x4 hx4 => ⟨by omega, fun x5 hx5 => ⟨fun _ => ⟨fun q => absurd h1 q, fun _ => ⟨fun hge => ?_, fun hlt => ?_⟩⟩, fun q => absurd q (by omega)⟩⟩⟩⟩⟩⟩
  · obtain ⟨f, f1, f2⟩ := hdc.resolve_left (fun ⟨d, d1, d2⟩ => by omega)
    have ez : (z.2.1 262 (84 * b + i)).toInt = 100 + (f : Int) := by rw [← z62, ← h2]; exact f2
    refine Tot.imp (s_210 (f := f) hP f1 (by omega) (fun p hp => free p (Or.inr ⟨f, f1, ez, hp⟩))) ?_
    rintro v s' ⟨rfl, D', k1, k2, k3, k4⟩
    unfold w_231_56
    refine ⟨rfl, rfl, D', k1, fun p hp => ?_, fun hf j hj => ?_⟩
    · rcases k2.2 p hp with w | w
      · obtain ⟨j, j1, j2⟩ := hD p w
        exact ⟨j, by omega, j2⟩
      · exact ⟨i, by omega, Or.inr ⟨f, f1, ez, w⟩⟩
    · obtain ⟨m1, m2⟩ := k4 hf
      by_cases e : j = i
      · rw [e]
        exact Or.inr ⟨f, f1, ez, m1, m2⟩
      · rcases hdn h0 j (by omega) with ⟨d, d1, d2, d3⟩ | ⟨f', g1, g2, g3, g4⟩
        · exact Or.inl ⟨d, d1, d2, fun j hj => k2.1 _ (d3.1 j hj), fun j hj => k2.1 _ (d3.2.1 j hj), fun h w1 w2 => hDn_mo (d3.2.2 h w1 w2) k2.1⟩
        · refine Or.inr ⟨f', g1, g2, hDn_mo g3 k2.1, ?_⟩
          obtain ⟨c, c1, c2, c3, c4⟩ := g4
          refine ⟨c, c1, ?_, c3, c4⟩
          rw [k3 _ (fun w => ?_)]
          · exact c2
          · have : f' = f := by omega
            obtain ⟨hs, o1, o2, o3, o4⟩ := hO
            have := o3 j i (by omega) hi (by rw [g2, ez, this])
            omega
  · obtain ⟨d, d1, d2⟩ := hdc.resolve_right (fun ⟨f, f1, f2⟩ => by omega)
    have ez : (z.2.1 262 (84 * b + i)).toInt = (d : Int) := by rw [← z62, ← h2]; exact d2
    refine Tot.imp (s_209 (d := d) hP d1 (by omega) (fun p hp => free p (Or.inl ⟨d, d1, ez, hp⟩))) ?_
    rintro v s' ⟨rfl, D', k1, k2, k3, k4⟩
    unfold w_231_56
    refine ⟨rfl, rfl, D', k1, fun p hp => ?_, fun hf j hj => ?_⟩
    · rcases k2.2 p hp with w | w
      · obtain ⟨j, j1, j2⟩ := hD p w
        exact ⟨j, by omega, j2⟩
      · exact ⟨i, by omega, Or.inl ⟨d, d1, ez, w⟩⟩
    · by_cases e : j = i
      · rw [e]
        exact Or.inl ⟨d, d1, ez, k3⟩
      · rcases hdn h0 j (by omega) with ⟨d, d1, d2, d3⟩ | ⟨f', g1, g2, g3, g4⟩
        · exact Or.inl ⟨d, d1, d2, fun j hj => k2.1 _ (d3.1 j hj), fun j hj => k2.1 _ (d3.2.1 j hj), fun h w1 w2 => hDn_mo (d3.2.2 h w1 w2) k2.1⟩
        · refine Or.inr ⟨f', g1, g2, hDn_mo g3 k2.1, ?_⟩
          obtain ⟨c, c1, c2, c3, c4⟩ := g4
          exact ⟨c, c1, by rw [k4.1]; exact c2, c3, c4⟩
/-- the pass is over: all slots are resolved -/
theorem P1_end (hP : P1 own b n W N T F H z (T + F) s) (h0 : (s.1 8).toInt = 0) : (∀ q i, vS b T H z q i → RSg own b n N T (VF b T F z q i) s q i) ∧ ∀ f, f < F → SO b T z s f := by
  obtain ⟨D, hP, hD, hdn⟩ := hP
  obtain ⟨hb, hn, hT24, hF60, hH204, -, -, hA⟩ := id hP.2.1
  have hO : HO b T F H z := HO_z hP.2.2.2.2.2.2.2.2.1 hA.2.2.2.2
  have z62 : s.2.1 262 = z.2.1 262 := PH_row hP (by decide)
  have rs := hP.2.2.2.2.2.2.2.2.2 h0
  have dn := hdn h0
  obtain ⟨c1, c2, c3⟩ := hA.2.2.2.1
  rw [z62] at c1 c2 c3
  have ofD : ∀ d, d < T → tDn z (24 * b + d) D := by
    intro d hd
    obtain ⟨i, i1, i2⟩ := c1 d hd
    rcases dn i i1 with ⟨d', d1, d2, d3⟩ | ⟨f', g1, g2, g3, g4⟩
    · have : d' = d := by omega
      rw [← this]; exact d3
    · omega
  have ofF : ∀ f, f < F → hDn z (nT z 257 (60 * b + f)) D ∧ SO b T z s f := by
    intro f hf
    obtain ⟨i, i1, i2⟩ := c2 f hf
    rcases dn i i1 with ⟨d', d1, d2, d3⟩ | ⟨f', g1, g2, g3, g4⟩
    · omega
    · have : f' = f := by omega
      rw [← this]; exact ⟨g3, g4⟩
  have ofH : ∀ h, h < H → hDn z (204 * b + h) D := by
    intro h hh
    obtain ⟨hs, o1, o2, o3, o4⟩ := hO
    have key : ∀ K, K ≤ T + F → h < hs K → ∃ i, i < T + F ∧ hs i ≤ h ∧ h < hs (i + 1) := by
      intro K
      induction K with
      | zero => intro _ w; omega
      | succ K ih =>
        intro w1 w2
        by_cases e : h < hs K
        · exact ih (by omega) e
        · exact ⟨K, by omega, by omega, w2⟩
    obtain ⟨i, i1, i2, i3⟩ := key (T + F) (Nat.le_refl _) (by omega)
    rcases (o4 i i1).2 with ⟨d, q1, q2, q3, q4⟩ | ⟨f, q1, q2, q3, q4⟩
    · refine (ofD d q1).2.2 _ ?_ ?_ <;> (unfold nT; omega)
    · have := (ofF f q1).1
      rw [show nT z 257 (60 * b + f) = 204 * b + h by unfold nT; omega] at this
      exact this
  refine ⟨fun q i hv => ?_, fun f hf => (ofF f hf).2⟩
  refine rs q i (vS_q hv) ?_
  rcases hv with ⟨d, k, w1, w2, rfl, rfl⟩ | ⟨d, k, w1, w2, rfl, rfl⟩ | ⟨h, k, w1, w2, rfl, rfl⟩ | ⟨h, k, w1, w2, rfl, rfl⟩ | ⟨h, w1, rfl, rfl⟩
  · exact (ofD d w1).1 k w2
  · exact (ofD d w1).2.1 k w2
  · exact (ofH h w1).1 k w2
  · exact (ofH h w1).2.1 k w2
  · exact (ofH h w1).2.2
end PA
