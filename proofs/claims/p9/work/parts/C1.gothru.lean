/-! ===== goThrough, times 0 and 2 ===== -/
section GT
variable {own : Nat → Nat × Nat} {b n W N T F H S0 P E : Nat} {G : PG} {s : yS}
theorem s_231a {e i : Nat} {a1 a2 : Int32} (hL : Lx b n W s) (hb : b < 2) (h8 : 0 ≤ (s.1 8).toInt ∧ (s.1 8).toInt ≤ 70000) (h30 : (s.1 30).toInt = (b : Int)) (hC : RC b T F H s) (hA : RAq own b n N T F H s) (hi : i < T + F) (h1 : a1.toInt = 0) (h2 : a2 = s.2.1 262 (84 * b + i)) : Tot (e + 4) 231 [.ref 213, .int a1, .int a2] s (fun v s' => v = none ∧ FO s s') := by
  have hdc := hA.2.2.2.1.2.2 i hi
  have hT := hC.1
  have hF := hC.2.1
  rw [← h2] at hdc
  have ha : 0 ≤ a2.toInt ∧ a2.toInt < 160 := by
    rcases hdc with ⟨d, d1, d2⟩ | ⟨f, f1, f2⟩ <;> omega
  refine t_231 ?_
  unfold w_231_0
  refine ⟨by omega, fun x1 hx1 => ⟨by omega, fun x2 hx2 => ⟨by omega, fun x3 hx3 => ⟨by omega, fun x4 hx4 => ⟨by omega, fun x5 hx5 => ⟨fun q => absurd h1 q, fun _ => ⟨fun hge => ?_, fun hlt => ?_⟩⟩⟩⟩⟩⟩⟩
  · obtain ⟨f, f1, f2⟩ := hdc.resolve_left (fun ⟨d, d1, d2⟩ => by omega)
    refine Tot.imp (s_202 (e := e) (f := f) hL hb h8 h30 hC hA (by omega) f1) ?_
    rintro v s' ⟨rfl, k⟩
    exact ⟨rfl, rfl, k⟩
  · obtain ⟨d, d1, d2⟩ := hdc.resolve_right (fun ⟨f, f1, f2⟩ => by omega)
    refine Tot.imp (s_201 (e := e) (d := d) hL hb h8 h30 hC hA (by omega) d1) ?_
    rintro v s' ⟨rfl, k⟩
    exact ⟨rfl, rfl, k⟩
theorem s_231c {i : Nat} {a1 a2 : Int32} (hW : WV own b n N T F H S0 W P E G s) (h30 : (s.1 30).toInt = (b : Int)) (hi : i < T + F) (h1 : a1.toInt = 2) (h2 : a2 = s.2.1 262 (84 * b + i)) : Tot 21 231 [.ref 213, .int a1, .int a2] s (fun v s' => v = none ∧ XF b5K P E s s' ∧ f8 s s') := by
  obtain ⟨hb, hn, hT24, hF60, hH204, -, -, hA⟩ := id hW.1.1.1
  have hdc := hA.2.2.2.1.2.2 i hi
  rw [← h2] at hdc
  have ha : 0 ≤ a2.toInt ∧ a2.toInt < 160 := by
    rcases hdc with ⟨d, d1, d2⟩ | ⟨f, f1, f2⟩ <;> omega
  refine t_231 ?_
  unfold w_231_0
  refine ⟨by omega, fun x1 hx1 => ⟨by omega, fun x2 hx2 => ⟨by omega, fun x3 hx3 => ⟨by omega, fun x4 hx4 => ⟨by omega, fun x5 hx5 => ⟨fun _ => ⟨fun _ => ⟨fun hge => ?_, fun hlt => ?_⟩, fun q => absurd q (by omega)⟩, fun q => absurd q (by omega)⟩⟩⟩⟩⟩⟩
  · obtain ⟨f, f1, f2⟩ := hdc.resolve_left (fun ⟨d, d1, d2⟩ => by omega)
    obtain ⟨-, g1, g2, -⟩ := hA.2.2.1 f f1
    rw [show x5.toInt.toNat = 60 * b + f by omega]
    refine ⟨by omega, ?_⟩
    refine Tot.imp (Tot.mono (by omega) (s_213 (h := (s.2.1 257 (60 * b + f)).toInt.toNat - 204 * b) hW (by omega) (by omega))) ?_
    rintro v s' ⟨rfl, k⟩
    exact ⟨rfl, rfl, k⟩
  · obtain ⟨d, d1, d2⟩ := hdc.resolve_right (fun ⟨f, f1, f2⟩ => by omega)
    refine Tot.imp (s_214 (d := d) hW d1 (by omega)) ?_
    rintro v s' ⟨rfl, k⟩
    exact ⟨rfl, rfl, k⟩
end GT
