theorem s_262 {d : Nat} {a0 : Int32} {s : yS} (h : 0 ≤ a0.toInt ∧ a0.toInt < 64) : Tot (d + 1) 262 [.int a0] s (fun v s' => s' = s ∧ ∃ x : Int32, v = some (.int x)) := by
  refine t_262 ?_
  unfold w_262_0 w_262_23
  exact ⟨fun _ => ⟨fun _ => ⟨by omega, fun x1 hx1 => ⟨by omega, fun x2 hx2 => ⟨rfl, x2, rfl⟩⟩⟩, fun _ => ⟨by omega, fun x3 hx3 => ⟨by omega, fun x4 hx4 => ⟨rfl, x4, rfl⟩⟩⟩⟩, fun _ => ⟨by omega, fun x5 hx5 => ⟨by omega, fun x6 hx6 => ⟨rfl, x6, rfl⟩⟩⟩⟩
/-- made -/
theorem s_259 {d R : Nat} {a1 : Int32} {s : yS} (hR : (s.1 112).toInt = (R : Int)) (hR2 : R ≤ 150) : Tot (d + 2) 259 [.ref 213, .int a1] s (fun v s' => s' = sf s 0 0 ∧ ∃ x : Int32, v = some (.int x)) := by
  refine t_259 ?_
  unfold w_259_0 w_259_14 w_259_19
  rintro s1 rfl
  refine ⟨fun _ => ⟨rfl, _, rfl⟩, fun _ => ⟨fun _ => ⟨rfl, _, rfl⟩, fun _ => ⟨fun _ => ⟨rfl, _, rfl⟩, fun _ => ⟨fun _ => ?_, fun _ => ⟨rfl, _, rfl⟩⟩⟩⟩⟩
  refine Tot.imp (s_258 (d := d) (s := sf s 0 0) hR hR2) ?_
  rintro v s2 ⟨rfl, x, rfl, -⟩
  exact ⟨x, rfl, rfl, x, rfl⟩
