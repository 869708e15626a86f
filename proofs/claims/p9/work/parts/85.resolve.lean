/-! ===== resolve ===== -/
/-- what resolve changes: nodes in [y, h), ty from statics on -/
def RFr (y h : Nat) (s s' : yS) : Prop := (∀ k, k ∉ [8, 65] → s'.1 k = s.1 k) ∧ (∀ q i, ¬ ((q = 231 ∨ q = 232) ∧ y ≤ i ∧ i < h) → ¬ (q = 264 ∧ (s.1 65).toInt ≤ (i : Int) ∧ (i : Int) < (s.1 65).toInt + ((h - y : Nat) : Int)) → s'.2.1 q i = s.2.1 q i) ∧ s'.2.2 = s.2.2
theorem RFr_row {y h q : Nat} {s s' : yS} (hf : RFr y h s s') (hq : q ∉ [231, 232, 264]) : s'.2.1 q = s.2.1 q := by
  funext i
  refine hf.2.1 q i (fun w => hq ?_) (fun w => hq (by rw [w.1]; decide))
  rcases w.1 with w | w <;> rw [w] <;> decide
/-- what resolve wants of a state -/
def RI (bt n W b n2 : Nat) (own : Nat → Nat × Nat) (N T F H : Nat) (V : Nat → Prop) (asked : Int) (s : yS) : Prop := Lx bt n W s ∧ ST b n2 own N T F H s ∧ PL b T F H s ∧ (s.1 75).toInt = (b : Int) ∧ TYN s ∧ (0 ≤ (s.1 8).toInt ∧ (s.1 8).toInt ≤ 70000) ∧ (∀ c : Nat, scp b T F H s c → V (8 * c + if c < 1000 then nT s 236 (24 * b + c) else 0)) ∧ (¬ asked = 0 → ∃ nb W2 : Nat, nb < 2 ∧ (s.1 29).toInt = (nb : Int) ∧ (s.2.1 220 nb).toInt = (W2 : Int) ∧ W2 ≤ 2100)
theorem scp_eq {b T F H c : Nat} {s s' : yS} (h76 : s'.1 76 = s.1 76) (h77 : s'.1 77 = s.1 77) (h78 : s'.1 78 = s.1 78) (hr : ∀ q ∈ [245, 236, 255], s'.2.1 q = s.2.1 q) : scp b T F H s' c ↔ scp b T F H s c := by
  unfold scp nT
  rw [h76, h77, h78, hr 245 (by decide), hr 236 (by decide), hr 255 (by decide)]
theorem RI_eq {bt n W b n2 N T F H : Nat} {own : Nat → Nat × Nat} {V : Nat → Prop} {asked : Int} {s s' : yS} (h : RI bt n W b n2 own N T F H V asked s) (hf : ∀ k, k ∉ [8, 65] → s'.1 k = s.1 k) (hr : ∀ q, q ∉ [231, 232, 264] → s'.2.1 q = s.2.1 q) (hT : TYN s') (h8 : 0 ≤ (s'.1 8).toInt ∧ (s'.1 8).toInt ≤ 70000) : RI bt n W b n2 own N T F H V asked s' := by
  obtain ⟨h1, h2, h3, h4, h5, h6, h7, h9⟩ := h
  obtain ⟨g1, g2, g3, g4, g5, g6, g7, g8⟩ := h2
  have r : ∀ q ∈ [245, 236, 255], s'.2.1 q = s.2.1 q := fun q hq => hr q (by revert q; decide)
  refine ⟨Lx_eq h1 (hr 215 (by decide)) (hr 216 (by decide)) (hr 217 (by decide)), ⟨g1, g2, g3, g4, g5, by rw [hr 233 (by decide)]; exact g6, by rw [hr 252 (by decide)]; exact g7, RAq_eq g8 ⟨fun q hq i _ => by rw [hr q (by revert q; decide)], hr 215 (by decide), hr 217 (by decide)⟩ (fun p hp => hr p ?_) (fun _ _ => rfl) (Nat.le_refl _)⟩, ?_, by rw [hf 75 (by decide)]; exact h4, hT, h8, fun c hc => ?_, fun q => ?_⟩
  · rcases hp with hp | hp | hp | hp | hp | hp
    · clear r hr; revert p; decide
    · clear r hr; revert p; decide
    · clear r hr; revert p; decide
    · clear r hr; revert p; decide
    · clear r hr; revert p; decide
    · rw [hp]; decide
  · unfold PL
    rw [hf 76 (by decide), hf 77 (by decide), hf 78 (by decide)]
    exact h3
  · have := h7 c ((scp_eq (hf 76 (by decide)) (hf 77 (by decide)) (hf 78 (by decide)) r).mp hc)
    unfold nT at this ⊢
    rw [hr 236 (by decide)]
    exact this
  · obtain ⟨nb, W2, w1, w2, w3, w4⟩ := h9 q
    exact ⟨nb, W2, w1, by rw [hf 29 (by decide)]; exact w2, by rw [hr 220 (by decide)]; exact w3, w4⟩
/-- resolve's end -/
def RQ (V : Nat → Prop) (k y h S : Nat) (s s' : yS) : Prop := RFr y h s s' ∧ TYN s' ∧ (0 ≤ (s'.1 8).toInt ∧ (s'.1 8).toInt ≤ 70000) ∧ ∃ S' : Nat, (s'.1 65).toInt = (S' : Int) ∧ S ≤ S' ∧ S' ≤ S + (h - y) ∧ ((s'.1 8).toInt = 0 → (s.1 8).toInt = 0 ∧ rsv s' V k y S (S' - S))
def RP (bt n W b n2 : Nat) (own : Nat → Nat × Nat) (N T F H : Nat) (V : Nat → Prop) (k d : Nat) : Prop := ∀ (s : yS) (a1 a2 : Int32) (y h S : Nat), RI bt n W b n2 own N T F H V a2.toInt s → isY bt n s k h y → h ≤ 12006 → a1.toInt = (y : Int) → (s.1 65).toInt = (S : Int) → S + (h - y) ≤ 13000 → Tot d 204 [.ref 213, .int a1, .int a2] s (fun v s' => v = none ∧ RQ V k y h S s s')
