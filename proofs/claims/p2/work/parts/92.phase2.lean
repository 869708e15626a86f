/-- a slot resolved to an interface -/
def RSi (own : Nat → Nat × Nat) (b n N T : Nat) (V : Nat → Prop) (s : yS) (q i : Nat) : Prop := ∃ y h p l : Nat, (s.2.1 q i).toInt = (y : Int) ∧ 4002 * b ≤ y ∧ h ≤ N ∧ isY b n s 11 h y ∧ (∀ x, y ≤ x → x < h → own x = (q, i)) ∧ rsv s V 11 y p l ∧ (p : Int) + l ≤ (s.1 65).toInt ∧ tyE s p / 8 < T ∧ (s.2.1 235 (24 * b + tyE s p / 8)).toInt = 0
theorem RSi_l {own : Nat → Nat × Nat} {b n N T : Nat} {V : Nat → Prop} {s : yS} {q i : Nat} (h : RSi own b n N T V s q i) : RSl own b n N V s q i := by
  obtain ⟨y, h, p, l, h1, h2, h3, h4, h5, h6, h7, -⟩ := h
  exact ⟨y, h, p, l, h1, h2, h3, h4, h5, h6, h7⟩
theorem RSi_eq {own : Nat → Nat × Nat} {b n N T y0 h0 q0 i0 : Nat} {V : Nat → Prop} {s s' : yS} {q i : Nat} (h : RSi own b n N T V s q i) (hF : RFr y0 h0 s s') (ho : ∀ x, y0 ≤ x → x < h0 → own x = (q0, i0)) (hne : ¬ (q, i) = (q0, i0)) (hS : (s.1 65).toInt ≤ (s'.1 65).toInt) (hq : q ∉ [231, 232, 264]) : RSi own b n N T V s' q i := by
  obtain ⟨y, h, p, l, h1, h2, h3, h4, h5, h6, h7, h8, h9⟩ := h
  have hr : ∀ q, q ∉ [231, 232, 264] → s'.2.1 q = s.2.1 q := fun q hq => RFr_row hF hq
  have hl : 1 ≤ l := h6.2.2.1
  have et : tyE s' p = tyE s p := by
    unfold tyE
    rw [hF.2.1 264 p (fun w => by omega) (fun w => by omega)]
  refine ⟨y, h, p, l, by rw [hr q hq]; exact h1, h2, h3, isY_nd2 hr h4, h5, rsv_eq h4 (fun x x1 x2 => ?_) (fun j j1 j2 => hF.2.1 264 j (fun w => by omega) (fun w => by omega)) h6, by omega, by rw [et]; exact h8, by rw [et, hr 235 (by decide)]; exact h9⟩
  have nx : ¬ (y0 ≤ x ∧ x < h0) := fun w => hne (by rw [← h5 x x1 x2]; exact ho x w.1 w.2)
  exact ⟨hF.2.1 231 x (fun w => nx w.2) (fun w => by omega), hF.2.1 232 x (fun w => nx w.2) (fun w => by omega), by rw [hr 224 (by decide)], fun _ => by rw [hr 225 (by decide)]⟩
/-- an interface's TYPE says which type it is -/
theorem RSi_ty {own : Nat → Nat × Nat} {b n N T : Nat} {V : Nat → Prop} {s : yS} {q i : Nat} (h : RSi own b n N T V s q i) (hN : N ≤ 12006) (hS : (s.1 65).toInt ≤ 13000) : ∃ x As, cutT (tyS s q i) x As ∧ x / 8 < T ∧ (s.2.1 235 (24 * b + x / 8)).toInt = 0 := by
  obtain ⟨y, h, p, l, h1, h2, h3, h4, h5, h6, h7, h8, h9⟩ := h
  have hl := isY_lt h4
  have h6' := h6
  obtain ⟨g1, g2, g3, g4, -⟩ := h6'
  have nY : NY s y p l := ⟨by omega, g1, g2, by omega, g4⟩
  obtain ⟨x, As, hc⟩ := cutT_ex (rsv_F h6)
  have := (cut_len hc).2
  refine ⟨x, As, by rw [SY_ty h1 nY]; exact hc, by rw [← this]; exact h8, by rw [← this]; exact h9⟩
theorem ph_207i {own : Nat → Nat × Nat} {b n W N T F H q i : Nat} {D : Nat × Nat → Bool} {Vf : Nat → Nat → Nat → Prop} {s : yS} {a1 : Int32} (hVT : ∀ x, Vf q i x → x / 8 < T ∨ 1000 ≤ x / 8) (hP : PH own b n W N T F H D Vf s) (hq : q ∈ slR) (hD : D (q, i) = false) (hY : YS own b n N s q i) (h1 : a1 = s.2.1 q i) (hPL : PL b T F H s) (hV : ∀ c : Nat, scp b T F H s c → Vf q i (8 * c + if c < 1000 then nT s 236 (24 * b + c) else 0)) : Tot 14 207 [.ref 213, .int a1] s (fun v s' => v = none ∧ PH own b n W N T F H (addD D (q, i)) Vf s' ∧ WP s s' ∧ (∃ y h : Nat, RFr y h s s' ∧ (∀ x, y ≤ x → x < h → own x = (q, i))) ∧ (s.1 65).toInt ≤ (s'.1 65).toInt ∧ ((s'.1 8).toInt = 0 → (s.1 8).toInt = 0 ∧ RSi own b n N T (Vf q i) s' q i)) := by
  obtain ⟨p1, p2, p3, p4, p5, p6, p7, ⟨S, p8, p8'⟩, p9⟩ := id hP
  obtain ⟨y, h, k1, k2, k3, k4, k5⟩ := hY
  have hb := p2.1
  have hl := isY_lt k4
  have hI : RI b n W b n own N T F H (Vf q i) 0 s := ⟨p1, p2, hPL, p3, p4, p5, hV, fun w => absurd rfl w⟩
  have hc := cnt_add (own := own) (D := D) (D' := addD D (q, i)) (lo := 4002 * b) (N := N) (y := y) (h := h) k2 (Nat.le_of_lt hl) k3 k5 hD (by unfold addD; simp) (fun p hp => by unfold addD; simp [hp])
  have hc2 := cnt_le (own := own) (D := addD D (q, i)) (lo := 4002 * b) (N := N)
  refine Tot.imp (s_207 (k := 11) hVT hI k4 (by omega) (by rw [h1]; exact k1) p8 (by omega)) ?_
  rintro v s' ⟨rfl, hQ, hb'⟩
  have st := ph_step hP hq hD k1 k2 k3 k4 k5 p8 p8' hI hQ
  obtain ⟨q1, -, -, S', q4, q5, -, m⟩ := hQ
  refine ⟨rfl, st.1, st.2, ⟨y, h, q1, k5⟩, by omega, fun hf => ?_⟩
  obtain ⟨m0, m⟩ := m hf
  have hbb := hb' hf
  exact ⟨m0, y, h, S, S' - S, by rw [st.2.2.1 q (slR_n hq)]; exact k1, k2, k3, isY_nd2 st.2.2.1 k4, k5, m, by omega, hbb.1, hbb.2⟩
