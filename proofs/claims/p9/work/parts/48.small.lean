/-! ===== small methods ===== -/
theorem s_248 {d : Nat} {s : yS} : Tot (d + 1) 248 [.ref 213] s (fun v s' => v = some (.int (s.1 92)) ∧ s' = sf s 0 0) := by
  refine t_248 ?_
  unfold w_248_0
  rintro s1 rfl
  exact ⟨rfl, rfl⟩
theorem s_249 {d : Nat} {s : yS} : Tot (d + 1) 249 [.ref 213] s (fun v s' => v = some (.int (s.1 93)) ∧ s' = sf s 0 0) := by
  refine t_249 ?_
  unfold w_249_0
  rintro s1 rfl
  exact ⟨rfl, rfl⟩
theorem s_269 {d : Nat} {s : yS} {i : Int32} (h : (s.1 120).toInt ≤ 2000) : Tot (d + 1) 269 [.ref 213, .int i] s (fun v s' => (∃ x : Int32, v = some (.int x)) ∧ s' = sf s 0 0) := by
  refine t_269 ?_
  unfold w_269_0 w_269_9 w_269_15
  rintro s1 rfl
  have e : (sf s 0 0).1 120 = s.1 120 := rfl
  rw [e]
  grind
theorem s_185 {d : Nat} {s : yS} {x : Int32} (h : 0 ≤ x.toInt) : Tot (d + 1) 185 [.int x] s (fun v s' => s' = s ∧ ∃ y : Int32, v = some (.int y) ∧ y.toInt = x.toInt / 8) := by
  refine t_185 ?_
  unfold w_185_0
  exact ⟨h, fun y hy => ⟨rfl, y, rfl, hy⟩⟩
theorem s_216 {d : Nat} {s : yS} {x y : Int32} : Tot (d + 1) 216 [.ref 213, .int x, .int y] s (fun v s' => v = none ∧ s' = sf (sf s 80 x) 81 y) := by
  refine t_216 ?_
  unfold w_216_0
  rintro s1 rfl s2 rfl
  exact ⟨rfl, rfl⟩
theorem s_206 {d : Nat} {s : yS} {x y z : Int32} : Tot (d + 1) 206 [.ref 213, .int x, .int y, .int z] s (fun v s' => v = none ∧ s' = sf (sf (sf s 76 x) 77 y) 78 z) := by
  refine t_206 ?_
  unfold w_206_0
  rintro s1 rfl s2 rfl s3 rfl
  exact ⟨rfl, rfl⟩
theorem s_261 {d : Nat} {s : yS} {c : Int32} (h : 0 ≤ (s.1 120).toInt ∧ (s.1 120).toInt ≤ 2000) : Tot (d + 1) 261 [.ref 213, .int c] s (fun v s' => v = none ∧ eqx [120] [284] [] s s' ∧ (s'.1 120).toInt ≤ 2000 ∧ ((s.1 120).toInt = 2000 → s' = s) ∧ ((s.1 120).toInt < 2000 → (s'.1 120).toInt = (s.1 120).toInt + 1)) := by
  refine t_261 ?_
  unfold w_261_0 w_261_16
  refine ⟨fun h1 => ⟨rfl, eqx_rf, by omega, fun _ => rfl, fun q => by omega⟩, fun h1 => ⟨by omega, ?_⟩⟩
  rintro s1 rfl
  refine ⟨by show _ ≤ (s.1 120).toInt + 1 ∧ (s.1 120).toInt + 1 ≤ _; omega, ?_⟩
  rintro x hx s2 rfl
  have hx : x.toInt = (s.1 120).toInt + 1 := hx
  exact ⟨rfl, eqx_sf (eqx_sa eqx_rf (by decide)) (by decide), by show x.toInt ≤ _; omega, fun q => by omega, fun _ => hx⟩
theorem s_270 {d : Nat} {s : yS} {w : Int32} (h : 0 ≤ (s.1 29).toInt ∧ (s.1 29).toInt ≤ 1) : Tot (d + 1) 270 [.ref 213, .int w] s (fun v s' => (∃ x : Int32, v = some (.int x)) ∧ s' = sf s 0 0) := by
  refine t_270 ?_
  unfold w_270_0 w_270_32
  rintro s1 rfl
  have e : (sf s 0 0).1 29 = s.1 29 := rfl
  rw [e]
  grind
