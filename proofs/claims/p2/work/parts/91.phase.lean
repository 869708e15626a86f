/-! ===== the pass over the words: one slot more ===== -/
def slR : List Nat := [238, 241, 247, 250, 251]
theorem slR_n : ∀ {q : Nat}, q ∈ slR → q ∉ [231, 232, 264] := by decide
def addD (D : Nat × Nat → Bool) (q : Nat × Nat) : Nat × Nat → Bool := fun p => D p || p == q
/-- D: slots done; Vf: what an element of a slot may be -/
def PH (own : Nat → Nat × Nat) (b n W N T F H : Nat) (D : Nat × Nat → Bool) (Vf : Nat → Nat → Nat → Prop) (s : yS) : Prop := Lx b n W s ∧ ST b n own N T F H s ∧ (s.1 75).toInt = (b : Int) ∧ TYN s ∧ (0 ≤ (s.1 8).toInt ∧ (s.1 8).toInt ≤ 70000) ∧ 4002 * b ≤ N ∧ N ≤ 4002 * b + 2760 ∧ (∃ S : Nat, (s.1 65).toInt = (S : Int) ∧ S ≤ 10 + 4100 * b + cnt own D (4002 * b) N) ∧ ((s.1 8).toInt = 0 → ∀ q i, q ∈ slR → D (q, i) = true → RSl own b n N (Vf q i) s q i)
/-- what the pass leaves -/
def WP (s s' : yS) : Prop := (∀ k, k ∉ [8, 65] → s'.1 k = s.1 k) ∧ (∀ q, q ∉ [231, 232, 264] → s'.2.1 q = s.2.1 q) ∧ s'.2.2 = s.2.2
theorem ph_step {own : Nat → Nat × Nat} {b n W N T F H q i y h S : Nat} {D : Nat × Nat → Bool} {Vf : Nat → Nat → Nat → Prop} {s s' : yS} (hP : PH own b n W N T F H D Vf s) (hq : q ∈ slR) (hD : D (q, i) = false) (hy : (s.2.1 q i).toInt = (y : Int)) (h2 : 4002 * b ≤ y) (h3 : h ≤ N) (h4 : isY b n s 11 h y) (h5 : ∀ x, y ≤ x → x < h → own x = (q, i)) (hS : (s.1 65).toInt = (S : Int)) (hS2 : S ≤ 10 + 4100 * b + cnt own D (4002 * b) N) (hI : RI b n W b n own N T F H (Vf q i) 0 s) (hQ : RQ (Vf q i) 11 y h S s s') : PH own b n W N T F H (addD D (q, i)) Vf s' ∧ WP s s' := by
  obtain ⟨p1, p2, p3, p4, p5, p6, p7, -, p9⟩ := hP
  obtain ⟨q1, q2, q3, S', q4, q5, q6, q7⟩ := hQ
  have hr : ∀ q, q ∉ [231, 232, 264] → s'.2.1 q = s.2.1 q := fun q hq => RFr_row q1 hq
  have hI' := RI_eq hI q1.1 hr q2 q3
  have hl := isY_lt h4
  have hc := cnt_add (own := own) (D := D) (D' := addD D (q, i)) (lo := 4002 * b) (N := N) (y := y) (h := h) h2 (Nat.le_of_lt hl) h3 h5 hD (by unfold addD; simp) (fun p hp => by unfold addD; simp [hp])
  have hq3 : q ∉ [231, 232, 264] := slR_n hq
  refine ⟨⟨hI'.1, hI'.2.1, hI'.2.2.2.1, q2, q3, p6, p7, ⟨S', q4, by omega⟩, fun hf q' i' hq' hD' => ?_⟩, q1.1, hr, q1.2.2⟩
  obtain ⟨m1, m2⟩ := q7 hf
  by_cases e : (q', i') = (q, i)
  · have e1 : q' = q := congrArg Prod.fst e
    have e2 : i' = i := congrArg Prod.snd e
    rw [e1, e2]
    exact ⟨y, h, S, S' - S, by rw [hr q hq3]; exact hy, h2, h3, isY_nd2 hr h4, h5, m2, by omega⟩
  · have hD'' : D (q', i') = true := by
      unfold addD at hD'
      rcases Bool.or_eq_true_iff.mp hD' with w | w
      · exact w
      · exact absurd (by simpa using w) e
    exact RSl_eq (p9 m1 q' i' hq' hD'') q1 h5 e (by omega) (slR_n hq')
theorem ph_204 {own : Nat → Nat × Nat} {b n W N T F H q i : Nat} {D : Nat × Nat → Bool} {Vf : Nat → Nat → Nat → Prop} {s : yS} {a1 : Int32} (hP : PH own b n W N T F H D Vf s) (hq : q ∈ slR) (hD : D (q, i) = false) (hY : YS own b n N s q i) (h1 : a1 = s.2.1 q i) (hPL : PL b T F H s) (hV : ∀ c : Nat, scp b T F H s c → Vf q i (8 * c + if c < 1000 then nT s 236 (24 * b + c) else 0)) : Tot 13 204 [.ref 213, .int a1, .int 0] s (fun v s' => v = none ∧ PH own b n W N T F H (addD D (q, i)) Vf s' ∧ WP s s') := by
  obtain ⟨p1, p2, p3, p4, p5, p6, p7, ⟨S, p8, p8'⟩, p9⟩ := id hP
  obtain ⟨y, h, k1, k2, k3, k4, k5⟩ := hY
  have hb := p2.1
  have hl := isY_lt k4
  have hI : RI b n W b n own N T F H (Vf q i) 0 s := ⟨p1, p2, hPL, p3, p4, p5, hV, fun w => absurd rfl w⟩
  have hc := cnt_add (own := own) (D := D) (D' := addD D (q, i)) (lo := 4002 * b) (N := N) (y := y) (h := h) k2 (Nat.le_of_lt hl) k3 k5 hD (by unfold addD; simp) (fun p hp => by unfold addD; simp [hp])
  have hc2 := cnt_le (own := own) (D := addD D (q, i)) (lo := 4002 * b) (N := N)
  refine Tot.imp (s_204 11 s a1 0 y h S (by rw [show (0 : Int32).toInt = 0 by decide]; exact hI) k4 (by omega) (by rw [h1]; exact k1) p8 (by omega)) ?_
  rintro v s' ⟨rfl, hQ⟩
  exact ⟨rfl, ph_step hP hq hD k1 k2 k3 k4 k5 p8 p8' hI hQ⟩
theorem ph_207 {own : Nat → Nat × Nat} {b n W N T F H q i : Nat} {D : Nat × Nat → Bool} {Vf : Nat → Nat → Nat → Prop} {s : yS} {a1 : Int32} (hVT : ∀ x, Vf q i x → x / 8 < T ∨ 1000 ≤ x / 8) (hP : PH own b n W N T F H D Vf s) (hq : q ∈ slR) (hD : D (q, i) = false) (hY : YS own b n N s q i) (h1 : a1 = s.2.1 q i) (hPL : PL b T F H s) (hV : ∀ c : Nat, scp b T F H s c → Vf q i (8 * c + if c < 1000 then nT s 236 (24 * b + c) else 0)) : Tot 14 207 [.ref 213, .int a1] s (fun v s' => v = none ∧ PH own b n W N T F H (addD D (q, i)) Vf s' ∧ WP s s' ∧ ((s'.1 8).toInt = 0 → ∃ S : Nat, (s'.2.1 231 (s'.2.1 q i).toInt.toNat).toInt = (S : Int) ∧ tyE s' S / 8 < T ∧ (s'.2.1 235 (24 * b + tyE s' S / 8)).toInt = 0)) := by
  obtain ⟨p1, p2, p3, p4, p5, p6, p7, ⟨S, p8, p8'⟩, p9⟩ := id hP
  obtain ⟨y, h, k1, k2, k3, k4, k5⟩ := hY
  have hb := p2.1
  have hl := isY_lt k4
  have hI : RI b n W b n own N T F H (Vf q i) 0 s := ⟨p1, p2, hPL, p3, p4, p5, hV, fun w => absurd rfl w⟩
  have hc := cnt_add (own := own) (D := D) (D' := addD D (q, i)) (lo := 4002 * b) (N := N) (y := y) (h := h) k2 (Nat.le_of_lt hl) k3 k5 hD (by unfold addD; simp) (fun p hp => by unfold addD; simp [hp])
  have hc2 := cnt_le (own := own) (D := addD D (q, i)) (lo := 4002 * b) (N := N)
  refine Tot.imp (s_207 (k := 11) hVT hI k4 (by omega) (by rw [h1]; exact k1) p8 (by omega)) ?_
  rintro v s' ⟨rfl, hQ, hb'⟩
  have st := ph_step hP hq hD k1 k2 k3 k4 k5 p8 p8' hI hQ
  refine ⟨rfl, st.1, st.2, fun hf => ⟨S, ?_, hb' hf⟩⟩
  obtain ⟨-, -, -, S', -, -, -, m⟩ := hQ
  obtain ⟨-, m⟩ := m hf
  rw [st.2.2.1 q (slR_n hq), k1]
  exact m.1
