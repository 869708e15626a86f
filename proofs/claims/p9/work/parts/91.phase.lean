/-! ===== the pass over the words ===== -/
def stR : List Nat := [215, 217, 233, 252, 262] ++ ndB ++ tR ++ t6 ++ hR ++ h6 ++ fR
theorem stR_nd : ∀ q ∈ ndB, q ∈ stR := by decide
theorem stR_t : ∀ q ∈ tR, q ∈ stR := by decide
theorem stR_t6 : ∀ q ∈ t6, q ∈ stR := by decide
theorem stR_h : ∀ q ∈ hR, q ∈ stR := by decide
theorem stR_h6 : ∀ q ∈ h6, q ∈ stR := by decide
theorem stR_f : ∀ q ∈ fR, q ∈ stR := by decide
/-- the tables stand as long as their rows do -/
theorem ST_eq {b n N T F H : Nat} {own : Nat → Nat × Nat} {s s' : yS} (hr : ∀ q ∈ stR, s'.2.1 q = s.2.1 q) (h : ST b n own N T F H s) : ST b n own N T F H s' := by
  obtain ⟨g1, g2, g3, g4, g5, g6, g7, g8⟩ := h
  refine ⟨g1, g2, g3, g4, g5, by rw [hr 233 (by decide)]; exact g6, by rw [hr 252 (by decide)]; exact g7, RAq_eq g8 ⟨fun q hq i _ => by rw [hr q (stR_nd q hq)], hr 215 (by decide), hr 217 (by decide)⟩ (fun p hp => hr p ?_) (fun _ _ => rfl) (Nat.le_refl _)⟩
  rcases hp with hp | hp | hp | hp | hp | hp
  · exact stR_t p hp
  · exact stR_t6 p hp
  · exact stR_h p hp
  · exact stR_h6 p hp
  · exact stR_f p hp
  · rw [hp]; decide
def slR : List Nat := [238, 241, 247, 250, 251]
theorem slR_n : ∀ {q : Nat}, q ∈ slR → q ∉ [231, 232, 261, 264] := by decide
theorem slR_m : ∀ {q : Nat}, q ∈ slR → q ∉ [231, 232, 264] := by decide
def addD (D : Nat × Nat → Bool) (q : Nat × Nat) : Nat × Nat → Bool := fun p => D p || p == q
/-- parameters in scope: of type d; of head h -/
def scD (b : Nat) (z : yS) (d c : Nat) : Prop := ∃ k, k < nT z 236 (24 * b + d) ∧ c = 1000 + 6 * d + k
def scH (b T F : Nat) (z : yS) (h c : Nat) : Prop := (∃ k, k < nT z 245 (204 * b + h) ∧ c = 2000 + 6 * h + k) ∨ (∃ d, d < T ∧ nT z 242 (24 * b + d) ≤ 204 * b + h ∧ 204 * b + h < nT z 242 (24 * b + d) + nT z 243 (24 * b + d) ∧ scD b z d c) ∨ (∃ f k, f < F ∧ nT z 257 (60 * b + f) = 204 * b + h ∧ k < nT z 255 (60 * b + f) ∧ c = 4000 + 6 * f + k)
/-- an element: a type with as many arguments as it has formals, or a parameter in scope -/
def VE (b T : Nat) (z : yS) (sc : Nat → Prop) (x : Nat) : Prop := (x / 8 < T ∧ x % 8 = nT z 236 (24 * b + x / 8)) ∨ (x % 8 = 0 ∧ 1000 ≤ x / 8 ∧ sc (x / 8))
def VF (b T F : Nat) (z : yS) (q i : Nat) : Nat → Prop := VE b T z (fun c => if q = 238 ∨ q = 241 then scD b z (i / 6 - 24 * b) c else if q = 251 then scH b T F z (i - 204 * b) c else scH b T F z (i / 6 - 204 * b) c)
theorem VE_T {b T : Nat} {z : yS} {sc : Nat → Prop} {x : Nat} (h : VE b T z sc x) : x / 8 < T ∨ 1000 ≤ x / 8 := by
  rcases h with h | h
  · exact Or.inl h.1
  · exact Or.inr h.2.1
/-- a slot is resolved, its elements V; a bound's slot to an interface -/
def RSg (own : Nat → Nat × Nat) (b n N T : Nat) (V : Nat → Prop) (s : yS) (q i : Nat) : Prop := ∃ y h p l : Nat, (s.2.1 q i).toInt = (y : Int) ∧ 4002 * b ≤ y ∧ h ≤ N ∧ isY b n s 11 h y ∧ (∀ x, y ≤ x → x < h → own x = (q, i)) ∧ rsv s V 11 y p l ∧ 10 + 4100 * b ≤ p ∧ p + l ≤ 10 + 4100 * (b + 1) ∧ (p : Int) + l ≤ (s.1 65).toInt ∧ ((q = 238 ∨ q = 247) → tyE s p / 8 < T ∧ (s.2.1 235 (24 * b + tyE s p / 8)).toInt = 0)
/-- resolving another slot leaves it -/
theorem RSg_eq {own : Nat → Nat × Nat} {b n N T y0 h0 q0 i0 : Nat} {V : Nat → Prop} {s s' : yS} {q i : Nat} (h : RSg own b n N T V s q i) (hF : RFr y0 h0 s s') (ho : ∀ x, y0 ≤ x → x < h0 → own x = (q0, i0)) (hne : ¬ (q, i) = (q0, i0)) (hS : (s.1 65).toInt ≤ (s'.1 65).toInt) (hq : q ∉ [231, 232, 264]) : RSg own b n N T V s' q i := by
  obtain ⟨y, h, p, l, h1, h2, h3, h4, h5, h6, h7, h7b, h8, h9⟩ := h
  have hr : ∀ q, q ∉ [231, 232, 264] → s'.2.1 q = s.2.1 q := fun q hq => RFr_row hF hq
  have hl : 1 ≤ l := h6.2.2.1
  have et : tyE s' p = tyE s p := by
    unfold tyE
    rw [hF.2.1 264 p (fun w => by omega) (fun w => by omega)]
  refine ⟨y, h, p, l, by rw [hr q hq]; exact h1, h2, h3, isY_nd2 hr h4, h5, rsv_eq h4 (fun x x1 x2 => ?_) (fun j j1 j2 => hF.2.1 264 j (fun w => by omega) (fun w => by omega)) h6, h7, h7b, by omega, by rw [et, hr 235 (by decide)]; exact h9⟩
  have nx : ¬ (y0 ≤ x ∧ x < h0) := fun w => hne (by rw [← h5 x x1 x2]; exact ho x w.1 w.2)
  exact ⟨hF.2.1 231 x (fun w => nx w.2) (fun w => by omega), hF.2.1 232 x (fun w => nx w.2) (fun w => by omega), by rw [hr 224 (by decide)], fun _ => by rw [hr 225 (by decide)]⟩
/-- what the pass changes, z the state ahead of it -/
def FZ (b : Nat) (z s : yS) : Prop := (∀ k, k ∉ [8, 65, 76, 77, 78] → s.1 k = z.1 k) ∧ (∀ q i, ¬ ((q = 231 ∨ q = 232) ∧ 4002 * b ≤ i ∧ i < 4002 * (b + 1)) → ¬ (q = 264 ∧ 10 + 4100 * b ≤ i ∧ i < 10 + 4100 * (b + 1)) → ¬ (q = 261 ∧ 60 * b ≤ i ∧ i < 60 * (b + 1)) → s.2.1 q i = z.2.1 q i) ∧ s.2.2 = z.2.2
theorem FZ_row {b q : Nat} {z s : yS} (h : FZ b z s) (hq : q ∉ [231, 232, 261, 264]) : s.2.1 q = z.2.1 q := by
  funext i
  refine h.2.1 q i (fun w => hq ?_) (fun w => hq (by rw [w.1]; decide)) (fun w => hq (by rw [w.1]; decide))
  rcases w.1 with w | w <;> rw [w] <;> decide
theorem FZ_rf {b : Nat} {z : yS} : FZ b z z := ⟨fun _ _ => rfl, fun _ _ _ _ _ => rfl, rfl⟩
/-- what a step of the pass keeps -/
def KQ (s s' : yS) : Prop := s'.2.1 261 = s.2.1 261 ∧ ((s'.1 8).toInt = 0 → (s.1 8).toInt = 0)
theorem KQ_tr {s s' s'' : yS} (h : KQ s s') (h' : KQ s' s'') : KQ s s'' := ⟨h'.1.trans h.1, fun w => h.2 (h'.2 w)⟩
def KP (s s' : yS) : Prop := (∀ k, k ∉ [8, 65] → s'.1 k = s.1 k) ∧ KQ s s'
/-- the pass so far. D: slots done -/
def PH (own : Nat → Nat × Nat) (b n W N T F H : Nat) (D : Nat × Nat → Bool) (z s : yS) : Prop := Lx b n W s ∧ ST b n own N T F H s ∧ (s.1 75).toInt = (b : Int) ∧ TYN s ∧ (0 ≤ (s.1 8).toInt ∧ (s.1 8).toInt ≤ 70000) ∧ 4002 * b ≤ N ∧ N ≤ 4002 * b + 2760 ∧ (∃ S : Nat, (s.1 65).toInt = (S : Int) ∧ 10 + 4100 * b ≤ S ∧ S ≤ 10 + 4100 * b + cnt own D (4002 * b) N) ∧ FZ b z s ∧ ((s.1 8).toInt = 0 → ∀ q i, q ∈ slR → D (q, i) = true → RSg own b n N T (VF b T F z q i) s q i)
theorem ph_step {own : Nat → Nat × Nat} {b n W N T F H q i y h S : Nat} {D : Nat × Nat → Bool} {z s s' : yS} (hP : PH own b n W N T F H D z s) (hq : q ∈ slR) (hD : D (q, i) = false) (hy : (s.2.1 q i).toInt = (y : Int)) (h2 : 4002 * b ≤ y) (h3 : h ≤ N) (h4 : isY b n s 11 h y) (h5 : ∀ x, y ≤ x → x < h → own x = (q, i)) (hS : (s.1 65).toInt = (S : Int)) (hSl : 10 + 4100 * b ≤ S) (hS2 : S ≤ 10 + 4100 * b + cnt own D (4002 * b) N) (hI : RI b n W b n own N T F H (VF b T F z q i) 0 s) (hQ : RQ (VF b T F z q i) 11 y h S s s') (hB : (s'.1 8).toInt = 0 → (q = 238 ∨ q = 247) → tyE s' S / 8 < T ∧ (s'.2.1 235 (24 * b + tyE s' S / 8)).toInt = 0) : PH own b n W N T F H (addD D (q, i)) z s' ∧ KP s s' := by
  obtain ⟨p1, p2, p3, p4, p5, p6, p7, -, pz, p9⟩ := hP
  obtain ⟨q1, q2, q3, S', q4, q5, q6, q7⟩ := hQ
  have hr : ∀ q, q ∉ [231, 232, 264] → s'.2.1 q = s.2.1 q := fun q hq => RFr_row q1 hq
  have hI' := RI_eq hI q1.1 hr q2 q3
  have hl := isY_lt h4
  have hc := cnt_add (own := own) (D := D) (D' := addD D (q, i)) (lo := 4002 * b) (N := N) (y := y) (h := h) h2 (Nat.le_of_lt hl) h3 h5 hD (by unfold addD; simp) (fun p hp => by unfold addD; simp [hp])
  have hc2 := cnt_le (own := own) (D := addD D (q, i)) (lo := 4002 * b) (N := N)
  have hq3 : q ∉ [231, 232, 264] := slR_m hq
  refine ⟨⟨hI'.1, hI'.2.1, hI'.2.2.2.1, q2, q3, p6, p7, ⟨S', q4, by omega, by omega⟩, ⟨fun k hk => ?_, fun q i w1 w2 w3 => ?_, by rw [q1.2.2]; exact pz.2.2⟩, fun hf q' i' hq' hD' => ?_⟩, q1.1, hr 261 (by decide), fun w => (q7 w).1⟩
  · rw [q1.1 k (fun w => hk (by clear hk; revert k; decide))]
    exact pz.1 k hk
  · rw [q1.2.1 q i (fun w => w1 ⟨w.1, by omega, by omega⟩) (fun w => w2 ⟨w.1, by omega, by omega⟩)]
    exact pz.2.1 q i w1 w2 w3
  · obtain ⟨m1, m2⟩ := q7 hf
    by_cases e : (q', i') = (q, i)
    · have e1 : q' = q := congrArg Prod.fst e
      have e2 : i' = i := congrArg Prod.snd e
      rw [e1, e2]
      exact ⟨y, h, S, S' - S, by rw [hr q hq3]; exact hy, h2, h3, isY_nd2 hr h4, h5, m2, hSl, by omega, by omega, hB hf⟩
    · have hD'' : D (q', i') = true := by
        unfold addD at hD'
        rcases Bool.or_eq_true_iff.mp hD' with w | w
        · exact w
        · exact absurd (by simpa using w) e
      exact RSg_eq (p9 m1 q' i' hq' hD'') q1 h5 e (by omega) (slR_m hq')
section PHS
variable {own : Nat → Nat × Nat} {b n W N T F H q i : Nat} {D : Nat × Nat → Bool} {z s s' : yS} {a1 : Int32}
theorem ph_204 (hP : PH own b n W N T F H D z s) (hq : q ∈ slR) (hqn : ¬ (q = 238 ∨ q = 247)) (hD : D (q, i) = false) (hY : YS own b n N s q i) (h1 : a1 = s.2.1 q i) (hPL : PL b T F H s) (hV : ∀ c : Nat, scp b T F H s c → VF b T F z q i (8 * c + if c < 1000 then nT s 236 (24 * b + c) else 0)) : Tot 13 204 [.ref 213, .int a1, .int 0] s (fun v s' => v = none ∧ PH own b n W N T F H (addD D (q, i)) z s' ∧ KP s s') := by
  obtain ⟨p1, p2, p3, p4, p5, p6, p7, ⟨S, p8, p8a, p8'⟩, pz, p9⟩ := id hP
  obtain ⟨y, h, k1, k2, k3, k4, k5⟩ := hY
  have hb := p2.1
  have hl := isY_lt k4
  have hI : RI b n W b n own N T F H (VF b T F z q i) 0 s := ⟨p1, p2, hPL, p3, p4, p5, hV, fun w => absurd rfl w⟩
  have hc := cnt_add (own := own) (D := D) (D' := addD D (q, i)) (lo := 4002 * b) (N := N) (y := y) (h := h) k2 (Nat.le_of_lt hl) k3 k5 hD (by unfold addD; simp) (fun p hp => by unfold addD; simp [hp])
  have hc2 := cnt_le (own := own) (D := addD D (q, i)) (lo := 4002 * b) (N := N)
  refine Tot.imp (s_204 11 s a1 0 y h S (by rw [show (0 : Int32).toInt = 0 by decide]; exact hI) k4 (by omega) (by rw [h1]; exact k1) p8 (by omega)) ?_
  rintro v s' ⟨rfl, hQ⟩
  exact ⟨rfl, ph_step hP hq hD k1 k2 k3 k4 k5 p8 p8a p8' hI hQ (fun _ w => absurd w hqn)⟩
theorem ph_207 (hP : PH own b n W N T F H D z s) (hq : q ∈ slR) (hD : D (q, i) = false) (hY : YS own b n N s q i) (h1 : a1 = s.2.1 q i) (hPL : PL b T F H s) (hV : ∀ c : Nat, scp b T F H s c → VF b T F z q i (8 * c + if c < 1000 then nT s 236 (24 * b + c) else 0)) : Tot 14 207 [.ref 213, .int a1] s (fun v s' => v = none ∧ PH own b n W N T F H (addD D (q, i)) z s' ∧ KP s s') := by
  obtain ⟨p1, p2, p3, p4, p5, p6, p7, ⟨S, p8, p8a, p8'⟩, pz, p9⟩ := id hP
  obtain ⟨y, h, k1, k2, k3, k4, k5⟩ := hY
  have hb := p2.1
  have hl := isY_lt k4
  have hI : RI b n W b n own N T F H (VF b T F z q i) 0 s := ⟨p1, p2, hPL, p3, p4, p5, hV, fun w => absurd rfl w⟩
  have hc := cnt_add (own := own) (D := D) (D' := addD D (q, i)) (lo := 4002 * b) (N := N) (y := y) (h := h) k2 (Nat.le_of_lt hl) k3 k5 hD (by unfold addD; simp) (fun p hp => by unfold addD; simp [hp])
  have hc2 := cnt_le (own := own) (D := addD D (q, i)) (lo := 4002 * b) (N := N)
  refine Tot.imp (s_207 (k := 11) (fun x => VE_T) hI k4 (by omega) (by rw [h1]; exact k1) p8 (by omega)) ?_
  rintro v s' ⟨rfl, hQ, hb'⟩
  exact ⟨rfl, ph_step hP hq hD k1 k2 k3 k4 k5 p8 p8a p8' hI hQ (fun hf _ => hb' hf)⟩
/-- another place, another structOf, a fault -/
theorem PH_mv (hP : PH own b n W N T F H D z s) (hf : ∀ k, k ∉ [8, 76, 77, 78] → s'.1 k = s.1 k) (h8 : 0 ≤ (s'.1 8).toInt ∧ (s'.1 8).toInt ≤ 70000) (h80 : (s'.1 8).toInt = 0 → (s.1 8).toInt = 0) (hr : ∀ q i, ¬ (q = 261 ∧ 60 * b ≤ i ∧ i < 60 * (b + 1)) → s'.2.1 q i = s.2.1 q i) (hl : s'.2.2 = s.2.2) : PH own b n W N T F H D z s' := by
  obtain ⟨p1, p2, p3, p4, p5, p6, p7, ⟨S, p8, p8a, p8'⟩, pz, p9⟩ := hP
  have hr' : ∀ q, ¬ q = 261 → s'.2.1 q = s.2.1 q := fun q hq => funext (fun i => hr q i (fun w => hq w.1))
  refine ⟨Lx_eq p1 (hr' 215 (by decide)) (hr' 216 (by decide)) (hr' 217 (by decide)), ST_eq (fun q hq => hr' q (fun w => by rw [w] at hq; revert hq; decide)) p2, by rw [hf 75 (by decide)]; exact p3, fun j => by rw [hr' 264 (by decide)]; exact p4 j, h8, p6, p7, ⟨S, by rw [hf 65 (by decide)]; exact p8, p8a, p8'⟩, ⟨fun k hk => ?_, fun q i w1 w2 w3 => by rw [hr q i w3]; exact pz.2.1 q i w1 w2 w3, by rw [hl]; exact pz.2.2⟩, fun h0 q i hq hD => ?_⟩
  · rw [hf k (fun w => hk (by clear hk; revert k; decide))]
    exact pz.1 k hk
  · obtain ⟨y, h, p, l, k1, k2, k3, k4, k5, k6, k7, k7b, k8, k9⟩ := p9 (h80 h0) q i hq hD
    have hqn : ¬ q = 261 := fun w => by rw [w] at hq; revert hq; decide
    have et : tyE s' p = tyE s p := by unfold tyE; rw [hr' 264 (by decide)]
    refine ⟨y, h, p, l, by rw [hr' q hqn]; exact k1, k2, k3, isY_eq (hr' 215 (by decide)) (hr' 217 (by decide)) 11 h y (fun x _ _ => ⟨by rw [hr' 221 (by decide)], by rw [hr' 222 (by decide)], by rw [hr' 224 (by decide)], fun _ => by rw [hr' 226 (by decide)], fun _ => by rw [hr' 225 (by decide)]⟩) k4, k5, rsv_eq k4 (fun x x1 x2 => ?_) (fun j j1 j2 => by rw [hr' 264 (by decide)]) k6, k7, k7b, by rw [hf 65 (by decide)]; exact k8, by rw [et, hr' 235 (by decide)]; exact k9⟩
    exact ⟨by rw [hr' 231 (by decide)], by rw [hr' 232 (by decide)], by rw [hr' 224 (by decide)], fun _ => by rw [hr' 225 (by decide)]⟩
end PHS
