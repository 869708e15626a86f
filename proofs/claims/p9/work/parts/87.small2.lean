/-! ===== more small methods ===== -/
theorem s_232 {d : Nat} {s : yS} : Tot (d + 1) 232 [.ref 213] s (fun v s' => v = none ∧ s' = sf (sf (sf (sf (sf (sf (sf s 90 1) 91 (-1)) 92 (-1)) 93 0) 95 0) 109 (-1)) 110 0) := by
  refine t_232 ?_
  rintro s1 rfl s2 rfl s3 rfl s4 rfl s5 rfl s6 rfl s7 rfl
  exact ⟨rfl, rfl⟩
/-- STEPS left; so many were taken -/
def lft (s : yS) : Int := min ((s.1 96).toInt - (s.1 95).toInt) (60000 - (s.1 94).toInt)
def usd (u : Int) (s s' : yS) : Prop := (s'.1 95).toInt = (s.1 95).toInt + u ∧ (s'.1 94).toInt = (s.1 94).toInt + u
/-- spend -/
theorem s_237 {d m : Nat} {a1 : Int32} {s : yS} (h1 : a1.toInt = (m : Int)) (hm : m ≤ 5000) (h95 : 0 ≤ (s.1 95).toInt ∧ (s.1 95).toInt ≤ (s.1 96).toInt) (h96 : (s.1 96).toInt ≤ 5000) (h94 : 0 ≤ (s.1 94).toInt ∧ (s.1 94).toInt ≤ 60000) : Tot (d + 1) 237 [.ref 213, .int a1] s (fun v s' => ∃ x1 x3 r : Int32, v = some (.int r) ∧ s' = sf (sf s 95 x1) 94 x3 ∧ (s.1 95).toInt ≤ x1.toInt ∧ x1.toInt ≤ (s.1 96).toInt ∧ (s.1 94).toInt ≤ x3.toInt ∧ x3.toInt ≤ 60000 ∧ ((r.toInt = 0 ∧ x1.toInt = (s.1 95).toInt + m ∧ x3.toInt = (s.1 94).toInt + m ∧ (m : Int) ≤ lft s) ∨ (r.toInt = 2 ∧ x1.toInt = (s.1 95).toInt + lft s ∧ x3.toInt = (s.1 94).toInt + lft s ∧ lft s < (m : Int)))) := by
  refine t_237 ?_
  have hlf : lft s = min ((s.1 96).toInt - (s.1 95).toInt) (60000 - (s.1 94).toInt) := rfl
  have go : ∀ t0 : Int32, 0 ≤ t0.toInt → t0.toInt ≤ (s.1 96).toInt - (s.1 95).toInt → t0.toInt ≤ 60000 - (s.1 94).toInt → t0.toInt = lft s → w_237_20 (Tot d) a1 t0 s (fun v s' => ∃ x1 x3 r : Int32, v = some (.int r) ∧ s' = sf (sf s 95 x1) 94 x3 ∧ (s.1 95).toInt ≤ x1.toInt ∧ x1.toInt ≤ (s.1 96).toInt ∧ (s.1 94).toInt ≤ x3.toInt ∧ x3.toInt ≤ 60000 ∧ ((r.toInt = 0 ∧ x1.toInt = (s.1 95).toInt + m ∧ x3.toInt = (s.1 94).toInt + m ∧ (m : Int) ≤ lft s) ∨ (r.toInt = 2 ∧ x1.toInt = (s.1 95).toInt + lft s ∧ x3.toInt = (s.1 94).toInt + lft s ∧ lft s < (m : Int)))) := by
    intro t0 k0 k1 k2 k3
    have go27 : ∀ t1 : Int32, 0 ≤ t1.toInt → t1.toInt ≤ t0.toInt → (a1.toInt ≤ t0.toInt → t1.toInt = (m : Int)) → (t0.toInt < a1.toInt → t1.toInt = t0.toInt) → w_237_27 (Tot d) a1 t0 t1 s (fun v s' => ∃ x1 x3 r : Int32, v = some (.int r) ∧ s' = sf (sf s 95 x1) 94 x3 ∧ (s.1 95).toInt ≤ x1.toInt ∧ x1.toInt ≤ (s.1 96).toInt ∧ (s.1 94).toInt ≤ x3.toInt ∧ x3.toInt ≤ 60000 ∧ ((r.toInt = 0 ∧ x1.toInt = (s.1 95).toInt + m ∧ x3.toInt = (s.1 94).toInt + m ∧ (m : Int) ≤ lft s) ∨ (r.toInt = 2 ∧ x1.toInt = (s.1 95).toInt + lft s ∧ x3.toInt = (s.1 94).toInt + lft s ∧ lft s < (m : Int)))) := by
      intro t1 m0 m1 m2 m3
      unfold w_237_27 w_237_46
      refine ⟨by omega, ?_⟩
      rintro x1 hx1 s2 rfl
      have e94 : (sf s 95 x1).1 94 = s.1 94 := rfl
      rw [e94]
      refine ⟨by omega, ?_⟩
      rintro x3 hx3 s4 rfl
      refine ⟨fun q => ⟨x1, x3, 0, rfl, rfl, by omega, by omega, by omega, by omega, Or.inl ⟨by decide, ?_, ?_, by omega⟩⟩, fun q => ⟨x1, x3, 2, rfl, rfl, by omega, by omega, by omega, by omega, Or.inr ⟨by decide, ?_, ?_, by omega⟩⟩⟩
      · have := m2 q
        omega
      · have := m2 q
        omega
      · have := m3 (by omega)
        omega
      · have := m3 (by omega)
        omega
    unfold w_237_20
    exact ⟨fun q => go27 t0 k0 (Int.le_refl _) (fun q2 => by omega) (fun _ => rfl), fun q => go27 a1 (by omega) (by omega) (fun _ => h1) (fun q2 => by omega)⟩
  unfold w_237_0
  exact ⟨by omega, fun x1 hx1 => ⟨by omega, fun x2 hx2 => ⟨fun q => ⟨by omega, fun x3 hx3 => go x3 (by omega) (by omega) (by omega) (by omega)⟩, fun q => ⟨by omega, fun x4 hx4 => go x4 (by omega) (by omega) (by omega) (by omega)⟩⟩⟩⟩
/-- hasParams -/
theorem s_238 {d p l : Nat} {a1 a2 : Int32} {s : yS} (hT : TYN s) (h1 : a1.toInt = (p : Int)) (h2 : a2.toInt = (l : Int)) (hl : p + l ≤ 200000) : Tot (d + 2) 238 [.ref 213, .int a1, .int a2] s (fun v s' => s' = s ∧ ∃ r : Int32, v = some (.int r) ∧ ((¬ r.toInt = 0 ∧ ¬ ∀ x ∈ seg s p l, x / 8 < 1000) ∨ (r.toInt = 0 ∧ ∀ x ∈ seg s p l, x / 8 < 1000))) := by
  refine t_238 ?_
  refine ⟨fun z1 z2 z3 z4 t => z1 = a1 ∧ z2 = a2 ∧ t = s ∧ (z3.toInt = 0 ∨ z3.toInt = 1) ∧ ∃ j : Nat, z4.toInt = (p : Int) + j ∧ j ≤ l ∧ (z3.toInt = 0 → ∀ x ∈ seg s p j, x / 8 < 1000) ∧ (¬ z3.toInt = 0 → ¬ ∀ x ∈ seg s p l, x / 8 < 1000), fun _ _ _ z4 _ => ((p : Int) + l - z4.toInt).toNat, ⟨rfl, rfl, rfl, Or.inl (by decide), 0, by omega, by omega, (fun _ x hx => by cases hx), fun w => absurd (by decide) w⟩, ?_⟩
  rintro z1 z2 z3 z4 t ⟨y1, y2, y3, k0, j, k1, k2, k3, k4⟩
  have y1 := y1.symm
  have y2 := y2.symm
  have y3 := y3.symm
  subst y1 y2 y3
  have fin : (z3.toInt = 0 → j = l) → w_238_24 (Tot (d + 1)) a1 a2 z3 z4 s (fun v s' => s' = s ∧ ∃ r : Int32, v = some (.int r) ∧ ((¬ r.toInt = 0 ∧ ¬ ∀ x ∈ seg s p l, x / 8 < 1000) ∨ (r.toInt = 0 ∧ ∀ x ∈ seg s p l, x / 8 < 1000))) := by
    intro hj
    unfold w_238_24
    refine ⟨k0, rfl, z3, rfl, ?_⟩
    by_cases q : z3.toInt = 0
    · refine Or.inr ⟨q, ?_⟩
      have := k3 q
      rw [hj q] at this
      exact this
    · exact Or.inl ⟨q, k4 q⟩
  unfold w_238_4
  refine ⟨by omega, fun x1 hx1 => ⟨fun q => fin (fun _ => by omega), fun q => ⟨fun q2 => fin (fun w => absurd w q2), fun q2 => ⟨by omega, ?_⟩⟩⟩⟩
  have e4 : z4.toInt.toNat = p + j := by omega
  rw [e4]
  have ht := hT (p + j)
  refine Tot.imp (s_185 (d := d) ht.1) ?_
  rintro v s2 ⟨es, x4, rfl, hx4⟩
  have es := es.symm
  subst es
  unfold w_238_21
  refine ⟨x4, rfl, fun q4 => ⟨by omega, fun x5 hx5 => ⟨⟨rfl, rfl, rfl, Or.inl (by decide), j + 1, by omega, by omega, fun _ x hx => ?_, fun w => absurd (by decide) w⟩, by show ((p : Int) + l - x5.toInt).toNat < ((p : Int) + l - z4.toInt).toNat; omega⟩⟩, fun q4 => ⟨by omega, fun x5 hx5 => ⟨⟨rfl, rfl, rfl, Or.inr (by decide), j + 1, by omega, by omega, (fun w => absurd w (by decide)), fun _ w => ?_⟩, by show ((p : Int) + l - x5.toInt).toNat < ((p : Int) + l - z4.toInt).toNat; omega⟩⟩⟩
  · rw [seg_snoc] at hx
    rcases List.mem_append.mp hx with hx | hx
    · exact k3 q2 x hx
    · rw [List.mem_singleton.mp hx]
      unfold tyE
      omega
  · have hm := List.mem_of_getElem? (seg_get (s := s) (p := p) (l := l) (i := j) (by omega))
    have := w _ hm
    unfold tyE at this
    omega
/-- isOfStruct -/
theorem s_220 {d b n N T F H p : Nat} {own : Nat → Nat × Nat} {a1 : Int32} {s : yS} (hS : ST b n own N T F H s) (hT : TYN s) (h75 : (s.1 75).toInt = (b : Int)) (h1 : a1.toInt = (p : Int)) (hp : p < 200000) (hc : tyE s p / 8 < T ∨ 1000 ≤ tyE s p / 8) : Tot (d + 2) 220 [.ref 213, .int a1] s (fun v s' => s' = s ∧ ∃ r : Int32, v = some (.int r) ∧ ((r.toInt = 1 ∧ tyE s p / 8 < T ∧ ¬ gst (pg s b H) (tyE s p / 8) = 0) ∨ (r.toInt = 0 ∧ (1000 ≤ tyE s p / 8 ∨ gst (pg s b H) (tyE s p / 8) = 0)))) := by
  obtain ⟨hb, hn, hT24, hF60, hH, r33, r52, hA⟩ := id hS
  have ht := hT p
  have hcI : (s.2.1 264 p).toInt / 8 = (tyE s p / 8 : Nat) := by unfold tyE; omega
  obtain ⟨c, hcc⟩ : ∃ c, c = tyE s p / 8 := ⟨_, rfl⟩
  rw [← hcc] at hc hcI ⊢
  have e1 : a1.toInt.toNat = p := by omega
  refine t_220 ?_
  unfold w_220_0 w_220_23 w_220_24
  rw [e1]
  refine ⟨by omega, ?_⟩
  refine Tot.imp (s_185 (d := d) ht.1) ?_
  rintro v s1 ⟨es, x3, rfl, hx3⟩
  have es := es.symm
  subst es
  refine ⟨x3, rfl, fun q => ⟨Or.inl (by decide), rfl, 0, rfl, Or.inr ⟨by decide, Or.inl (by omega)⟩⟩, fun q => ?_⟩
  have hcT : c < T := hc.resolve_right (by omega)
  have n33 : nT s 233 b = T := by unfold nT; omega
  have gst_e : gst (pg s b H) c = (s.2.1 235 (24 * b + c)).toInt.toNat := by
    show pgT s b 235 c = _; unfold pgT; rw [n33, if_pos hcT]; rfl
  obtain ⟨d1, d2, d3, -⟩ := hA.1 c hcT
  refine ⟨by omega, fun x4 hx4 => ⟨by omega, ?_⟩⟩
  refine Tot.imp (s_185 (d := d) ht.1) ?_
  rintro v s1 ⟨es, x7, rfl, hx7⟩
  have es := es.symm
  subst es
  refine ⟨x7, rfl, by omega, fun x8 hx8 => ?_⟩
  have e8 : x8.toInt.toNat = 24 * b + c := by omega
  rw [e8]
  exact ⟨by omega, fun q35 => ⟨Or.inl (by decide), rfl, 0, rfl, Or.inr ⟨by decide, Or.inr (by rw [gst_e]; omega)⟩⟩, fun q35 => ⟨Or.inr (by decide), rfl, 1, rfl, Or.inl ⟨by decide, hcT, by rw [gst_e]; omega⟩⟩⟩
/-- howMany -/
theorem s_258 {d R : Nat} {a1 : Int32} {s : yS} (hR : (s.1 112).toInt = (R : Int)) (hR2 : R ≤ 150) : Tot (d + 1) 258 [.ref 213, .int a1] s (fun v s' => s' = s ∧ ∃ x : Int32, v = some (.int x) ∧ 0 ≤ x.toInt ∧ x.toInt ≤ (R : Int)) := by
  refine t_258 ?_
  refine ⟨fun z1 z2 z3 t => z1 = a1 ∧ t = s ∧ 0 ≤ z2.toInt ∧ z2.toInt ≤ z3.toInt ∧ z3.toInt ≤ (R : Int), fun _ _ z3 _ => (200 - z3.toInt).toNat, ⟨rfl, rfl, by decide, by decide, by rw [show (0 : Int32).toInt = 0 by decide]; omega⟩, ?_⟩
  rintro z1 z2 z3 t ⟨y1, y2, k1, k2, k3⟩
  have y1 := y1.symm
  have y2 := y2.symm
  subst y1 y2
  have o0 : (0 : Int32).toInt = 0 := by decide
  have o1 : (1 : Int32).toInt = 1 := by decide
  unfold w_258_4 w_258_18
  rw [hR]
  exact ⟨fun q => ⟨rfl, z2, rfl, k1, by omega⟩, fun q => ⟨by omega, fun _ => ⟨by omega, fun x1 hx1 => ⟨by omega, fun x2 hx2 => ⟨⟨rfl, rfl, by omega, by omega, by omega⟩, by show (200 - x2.toInt).toNat < (200 - z3.toInt).toNat; omega⟩⟩⟩, fun _ => ⟨by omega, fun x1 hx1 => ⟨by omega, fun x2 hx2 => ⟨⟨rfl, rfl, by omega, by omega, by omega⟩, by show (200 - x2.toInt).toNat < (200 - z3.toInt).toNat; omega⟩⟩⟩⟩⟩
