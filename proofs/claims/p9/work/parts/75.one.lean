/-! ===== one ===== -/
/-- what the work on TYPES changes: ty from P on, envs from E on -/
def WF (P E : Nat) (s s' : yS) : Prop := (∀ k, k ∉ [71, 72, 73, 74] → s'.1 k = s.1 k) ∧ (∀ q i, ¬ (q = 264 ∧ P ≤ i) → ¬ ((q = 265 ∨ q = 266) ∧ 2 * E ≤ i) → ¬ ((q = 267 ∨ q = 268) ∧ 12 * E ≤ i) → s'.2.1 q i = s.2.1 q i) ∧ s'.2.2 = s.2.2 ∧ TYN s' ∧ GC s'
section WFS
variable {P P' E E' : Nat} {s s' s'' : yS}
theorem WF_rf (hT : TYN s) (hG : GC s) : WF P E s s := ⟨fun _ _ => rfl, fun _ _ _ _ _ => rfl, rfl, hT, hG⟩
theorem WF_tr (h : WF P E s s') (h' : WF P' E' s' s'') (hP : P ≤ P') (hE : E ≤ E') : WF P E s s'' := ⟨fun k hk => (h'.1 k hk).trans (h.1 k hk), fun q i h1 h2 h3 => (h'.2.1 q i (fun w => h1 ⟨w.1, by omega⟩) (fun w => h2 ⟨w.1, by omega⟩) (fun w => h3 ⟨w.1, by omega⟩)).trans (h.2.1 q i h1 h2 h3), h'.2.2.1.trans h.2.2.1, h'.2.2.2.1, h'.2.2.2.2⟩
theorem WF_row {q : Nat} (h : WF P E s s') (hq : q ∉ [264, 265, 266, 267, 268]) : s'.2.1 q = s.2.1 q := by
  funext i
  refine h.2.1 q i (fun w => hq (by rw [w.1]; decide)) (fun w => hq ?_) (fun w => hq ?_)
  · rcases w.1 with w | w <;> rw [w] <;> decide
  · rcases w.1 with w | w <;> rw [w] <;> decide
theorem WF_seg {p l : Nat} (h : WF P E s s') (hp : p + l ≤ P) : seg s' p l = seg s p l := seg_eq (fun i _ h2 => h.2.1 264 i (fun w => by omega) (fun w => by omega) (fun w => by omega))
theorem EVg_mv {i base : Nat} {As : List (List Nat)} (h : EVg s i base P As) (h65 : s'.2.1 265 i = s.2.1 265 i) (h66 : s'.2.1 266 i = s.2.1 266 i) (h67 : ∀ a, a < 6 → s'.2.1 267 (6 * i + a) = s.2.1 267 (6 * i + a) ∧ s'.2.1 268 (6 * i + a) = s.2.1 268 (6 * i + a)) (hty : ∀ j, j < P → s'.2.1 264 j = s.2.1 264 j) (hP : P ≤ P') : EVg s' i base P' As := by
  obtain ⟨g1, g2, g3, g4⟩ := h
  refine ⟨by rw [h65]; exact g1, by rw [h66]; exact g2, g3, fun a A hA => ?_⟩
  obtain ⟨w1, q, w2, w3, w4, w5⟩ := g4 a A hA
  have ha : a < 6 := by
    by_cases q : a < As.length
    · omega
    · rw [List.getElem?_eq_none (by omega)] at hA
      cases hA
  have := h67 a ha
  exact ⟨w1, q, by rw [this.1]; exact w2, by rw [this.2]; exact w3, by rw [seg_eq (fun j _ h2 => hty j (by omega))]; exact w4, by omega⟩
theorem EV_wf {e b0 b1 : Nat} {As Bs : List (List Nat)} (h : EV s e P b0 As b1 Bs) (hw : WF P' E s s') (he : e < E) (hP : P ≤ P') : EV s' e P b0 As b1 Bs := by
  have cell : ∀ q i, (q = 265 ∨ q = 266) ∧ i < 2 * E ∨ (q = 267 ∨ q = 268) ∧ i < 12 * E ∨ q = 264 ∧ i < P' → s'.2.1 q i = s.2.1 q i := fun q i hq => hw.2.1 q i (fun w => by omega) (fun w => by omega) (fun w => by omega)
  exact ⟨EVg_mv h.1 (cell _ _ (by omega)) (cell _ _ (by omega)) (fun a ha => ⟨cell _ _ (by omega), cell _ _ (by omega)⟩) (fun j hj => cell _ _ (by omega)) (Nat.le_refl _), EVg_mv h.2 (cell _ _ (by omega)) (cell _ _ (by omega)) (fun a ha => ⟨cell _ _ (by omega), cell _ _ (by omega)⟩) (fun j hj => cell _ _ (by omega)) (Nat.le_refl _)⟩
theorem EV_top {e b0 b1 : Nat} {As Bs : List (List Nat)} (h : EV s e P b0 As b1 Bs) (hP : P ≤ P') : EV s e P' b0 As b1 Bs := ⟨EVg_mv h.1 rfl rfl (fun _ _ => ⟨rfl, rfl⟩) (fun _ _ => rfl) hP, EVg_mv h.2 rfl rfl (fun _ _ => ⟨rfl, rfl⟩) (fun _ _ => rfl) hP⟩
theorem PF_WF (h : PF P s s') (hG : GC s) (hk : ∀ k, k ∉ [71, 72, 73, 74] → s'.1 k = s.1 k) : WF P E s s' := ⟨hk, fun q i h1 _ _ => h.1 q i (fun w => h1 ⟨w.1, w.2.1⟩), h.2.1, h.2.2, fun i => by rw [h.1 265 i (fun w => by omega)]; exact hG i⟩
end WFS
/-- a node's TYPE: where it is, how long -/
def NY (s : yS) (y p l : Nat) : Prop := y < 12006 ∧ (s.2.1 231 y).toInt = (p : Int) ∧ (s.2.1 232 y).toInt = (l : Int) ∧ p + l ≤ 13000 ∧ l ≤ 60
theorem s_197 {d y z p1 l1 p2 l2 P E ea eb a0 a1' b0 b1' : Nat} {As As' Bs Bs' : List (List Nat)} {a1 a2 a3 a4 : Int32} {s : yS} (hT : TYN s) (hG : GC s) (hP : (s.1 64).toInt = (P : Int)) (hP1 : 13000 ≤ P) (hP2 : P ≤ 199800) (h1 : a1.toInt = (y : Int)) (hy : NY s y p1 l1) (h3 : a3.toInt = (z : Int)) (hz : NY s z p2 l2) (h2 : a2.toInt = (ea : Int)) (h4 : a4.toInt = (eb : Int)) (hea : ea < 300) (heb : eb < 300) (hVa : EV s ea P a0 As a1' As') (hVb : EV s eb P b0 Bs b1' Bs') : Tot (d + 3) 197 [.ref 213, .int a1, .int a2, .int a3, .int a4] s (fun v s' => WF P E s s' ∧ ∃ x : Int32, v = some (.int x) ∧ 0 ≤ x.toInt ∧ x.toInt ≤ 2 ∧ (x.toInt = 1 → subs (envS a0 As a1' As') (seg s p1 l1) = subs (envS b0 Bs b1' Bs') (seg s p2 l2))) := by
  obtain ⟨y1, y2, y3, y4⟩ := hy
  obtain ⟨z1, z2, z3, z4⟩ := hz
  have e1 : a1.toInt.toNat = y := by omega
  have e3 : a3.toInt.toNat = z := by omega
  refine t_197 ?_
  unfold w_197_0
  rw [e1, e3]
  refine ⟨by omega, by omega, ?_⟩
  refine Tot.imp (s_191 (d := d) (p := p1) (l := l1) (P := P) hT hG hP hVa hea y2 y3 h2 (by omega) (by omega)) ?_
  rintro v s1 ⟨x3, rfl, F1, k1, r1⟩
  refine ⟨x3, rfl, fun x30 => ?_, fun x30 => ?_⟩
  · obtain ⟨-, N1, n1, n2, n3, n4, n5, n6⟩ := r1.resolve_left (fun w => x30 w.1)
    have hG1 : GC s1 := fun i => by rw [F1.1 265 i (fun w => by omega)]; exact hG i
    have r31 : s1.2.1 231 z = s.2.1 231 z := F1.1 231 z (fun w => by omega)
    have r32 : s1.2.1 232 z = s.2.1 232 z := F1.1 232 z (fun w => by omega)
    rw [r31, r32]
    refine ⟨by omega, by omega, ?_⟩
    have hVb1 : EV s1 eb (P + N1) b0 Bs b1' Bs' := by
      refine EV_top (P := P) ?_ (by omega)
      exact ⟨EVg_mv hVb.1 (F1.1 _ _ (fun w => by omega)) (F1.1 _ _ (fun w => by omega)) (fun _ _ => ⟨F1.1 _ _ (fun w => by omega), F1.1 _ _ (fun w => by omega)⟩) (fun j hj => F1.1 _ _ (fun w => by omega)) (Nat.le_refl _), EVg_mv hVb.2 (F1.1 _ _ (fun w => by omega)) (F1.1 _ _ (fun w => by omega)) (fun _ _ => ⟨F1.1 _ _ (fun w => by omega), F1.1 _ _ (fun w => by omega)⟩) (fun j hj => F1.1 _ _ (fun w => by omega)) (Nat.le_refl _)⟩
    refine Tot.imp (s_191 (d := d) (p := p2) (l := l2) (P := P + N1) F1.2.2 hG1 (by omega) hVb1 heb z2 z3 h4 (by omega) (by omega)) ?_
    rintro v s4 ⟨x6, rfl, F4, k4, r4⟩
    have hG4 : GC s4 := fun i => by rw [F4.1 265 i (fun w => by omega)]; exact hG1 i
    have wf : ∀ x : Int32, x = s.1 64 → WF P E s (sf s4 64 x) := by
      intro x hx
      refine ⟨fun k hk => ?_, fun q i h1 h2 h3 => ?_, F4.2.1.trans F1.2.1, F4.2.2, hG4⟩
      · rw [sf_1]
        split
        · rename_i w
          rw [w, hx]
        · rename_i w
          have hk' : k ∉ [64, 71, 72] := fun m => by
            rcases List.mem_cons.mp m with m | m
            · exact w m
            · exact hk (by revert m; simp only [List.mem_cons]; grind)
          rw [k4 k hk', k1 k hk']
      · show s4.2.1 q i = _
        rw [F4.1 q i (fun w => h1 ⟨w.1, by omega⟩), F1.1 q i (fun w => h1 ⟨w.1, by omega⟩)]
    refine ⟨x6, rfl, fun x60 => ?_, fun x60 => ?_⟩
    · obtain ⟨-, N2, m1, m2, m3, m4, m5, m6⟩ := r4.resolve_left (fun w => x60 w.1)
      have sg1 : seg s4 P N1 = seg s1 P N1 := PF_seg F4 (Nat.le_refl _)
      refine Tot.imp (Tot.mono (by omega) (s_187 (d := 0) (p := P) (l := N1) (q := P + N1) (m := N2) (by rw [n3]; exact hP) n4 (by rw [m3]; omega) m4 (by omega) (by omega) F4.2.2)) ?_
      rintro v s7 ⟨es, x9, rfl, h9⟩
      subst es
      have p2s : seg s1 p2 l2 = seg s p2 l2 := PF_seg F1 (by omega)
      refine ⟨x9, rfl, fun x90 => ?_, fun x90 => ?_⟩
      · unfold w_197_51
        rintro s8 rfl
        exact ⟨wf _ rfl, 0, rfl, by decide, by decide, fun q => absurd q (by decide)⟩
      · unfold w_197_51
        rintro s8 rfl
        refine ⟨wf _ rfl, 1, rfl, by decide, by decide, fun _ => ?_⟩
        have h9 := h9.resolve_left x90
        rw [← p2s, ← m6, ← h9.2.2, sg1, n6]
    · unfold w_197_51
      rintro s8 rfl
      exact ⟨wf _ rfl, 2, rfl, by decide, by decide, fun q => absurd q (by decide)⟩
  · have r1 := r1.resolve_right (fun w => by omega)
    exact ⟨PF_WF F1 hG (fun k hk => by rw [r1.2.1]), 2, rfl, by decide, by decide, fun q => absurd q (by decide)⟩
