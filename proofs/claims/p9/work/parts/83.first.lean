/-! ===== firstOf, wordNow ===== -/
theorem s_178 {d b n lo hi m e : Nat} {a1 : Int32} {s : yS} (hb : b < 3) (hn : n ≤ 4000) (h1 : a1.toInt = (e : Int)) (hE : isE b n s (m + 1) lo hi e) (hhi : hi ≤ 12006) : Tot (d + 1) 178 [.ref 213, .int a1] s (fun v s' => s' = s ∧ ∃ x : Int32, v = some (.int x) ∧ tkN b n s x.toInt) := by
  obtain ⟨p, -, hE⟩ := hE
  refine t_178 ?_
  refine ⟨fun z1 z2 t => z1 = a1 ∧ t = s ∧ ∃ q hi' a : Nat, z2.toInt = (a : Int) ∧ hi' ≤ 12006 ∧ isEp b n s (isE b n s m) q lo hi' a, fun _ z2 _ => z2.toInt.toNat, ⟨rfl, rfl, p, hi, e, h1, hhi, hE⟩, ?_⟩
  clear hE
  rintro z1 z2 t ⟨y1, y2, q, hi', a, k1, k2, k3⟩
  have y1 := y1.symm
  have y2 := y2.symm
  subst y1 y2
  have hl := isEp_lt k3
  have ea : z2.toInt.toNat = a := by omega
  unfold w_178_2 w_178_31
  rw [ea]
  cases q with
  | zero =>
    obtain ⟨g1, g2, g3, g4⟩ := k3
    refine ⟨by omega, fun _ => ⟨by omega, fun hne => ⟨by omega, rfl, _, rfl, ?_⟩, fun heq => ⟨by omega, ?_⟩⟩, fun w => absurd (by omega) w⟩
    · exact (g4.resolve_right (fun w => hne w.1)).2
    · obtain ⟨-, y, h, g5, g6, g7, g8, -⟩ := g4.resolve_left (fun w => by have := w.1; omega)
      have hy := isY_lt g8
      have ey : (s.2.1 229 a).toInt.toNat = y := by omega
      rw [ey]
      refine ⟨by omega, rfl, _, rfl, ?_⟩
      obtain ⟨-, -, w1, w2, w3, w4, -⟩ := g8
      exact ⟨w1, w2, w3, w4⟩
  | succ q =>
    obtain ⟨g1, a', g2, g3, g4, -⟩ := k3
    have hl' := isEp_lt g4
    refine ⟨by omega, fun w => absurd w (by omega), fun _ => ⟨by omega, ⟨rfl, rfl, q, a, a', g2, by omega, g4⟩, ?_⟩⟩
    show (s.2.1 227 a).toInt.toNat < z2.toInt.toNat
    omega
theorem s_205 {d nb W w : Nat} {a1 : Int32} {s : yS} (hnb : nb < 2) (h29 : (s.1 29).toInt = (nb : Int)) (hW : (s.2.1 220 nb).toInt = (W : Int)) (hW2 : W ≤ 2100) (h1 : a1.toInt = (w : Int)) (hw : w < 2100) : Tot (d + 1) 205 [.ref 213, .int a1] s (fun v s' => s' = s ∧ ∃ x : Int32, v = some (.int x) ∧ -1 ≤ x.toInt ∧ x.toInt < 2100) := by
  have e29 : (s.1 29).toInt.toNat = nb := by omega
  refine t_205 ?_
  refine ⟨fun z1 z2 z3 t => z1 = a1 ∧ t = s ∧ -1 ≤ z2.toInt ∧ z2.toInt < 2100 ∧ 0 ≤ z3.toInt ∧ z3.toInt ≤ 2100, fun _ _ z3 _ => (3000 - z3.toInt).toNat, ⟨rfl, rfl, by decide, by decide, by decide, by decide⟩, ?_⟩
  rintro z1 z2 z3 t ⟨y1, y2, y3, y4, y5, y6⟩
  have y1 := y1.symm
  have y2 := y2.symm
  subst y1 y2
  unfold w_205_4 w_205_47 w_205_48
  rw [e29, hW]
  refine ⟨by omega, fun _ => ⟨rfl, z2, rfl, y3, y4⟩, fun q => ?_⟩
  have nx : ∀ t0 : Int32, -1 ≤ t0.toInt → t0.toInt < 2100 → (-2147483648 ≤ z3.toInt + 1 ∧ z3.toInt + 1 ≤ 2147483647) ∧ ∀ x1 : Int32, x1.toInt = z3.toInt + 1 → ((a1 = a1 ∧ s = s ∧ -1 ≤ t0.toInt ∧ t0.toInt < 2100 ∧ 0 ≤ x1.toInt ∧ x1.toInt ≤ 2100) ∧ (3000 - x1.toInt).toNat < (3000 - z3.toInt).toNat) := fun t0 k1 k2 => ⟨by omega, fun x1 hx1 => ⟨⟨rfl, rfl, k1, k2, by omega, by omega⟩, by omega⟩⟩
  refine ⟨by omega, fun x1 hx1 => ⟨by omega, fun x2 hx2 => ⟨by omega, by omega, fun x3 hx3 => ⟨by omega, fun _ => nx z2 y3 y4, fun _ => ⟨by omega, fun x4 hx4 => ⟨by omega, fun x5 hx5 => ⟨by omega, by omega, fun x6 hx6 => ⟨by omega, fun _ => nx z2 y3 y4, fun _ => nx z3 (by omega) (by omega)⟩⟩⟩⟩⟩⟩⟩⟩
