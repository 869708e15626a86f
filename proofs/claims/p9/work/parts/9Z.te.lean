/-! ===== typeE ===== -/
section TEX
variable {own : Nat → Nat × Nat} {b n W N T F H S0 : Nat} {G : PG} {fo : Option Nat}
theorem TEH_mo {m d d' : Nat} (h : TEH own b n W N T F H S0 G fo m d) (hd : d ≤ d') : TEH own b n W N T F H S0 G fo m d' := fun s a1 lo hi e S O P E w c i ha => Tot.mono hd (h s a1 lo hi e S O P E w c i ha)
theorem PEH_mo {m p d d' : Nat} (h : PEH own b n W N T F H S0 G fo m p d) (hd : d ≤ d') : PEH own b n W N T F H S0 G fo m p d' := fun s a1 lo hi e S O P E w c i ha => Tot.mono hd (h s a1 lo hi e S O P E w c i ha)
theorem TEQ_mo {lo hi hi' S O P E g g' : Nat} {R R' : yS → Nat → Nat → List Nat → Prop} {s s' : yS} (h : TEQ b lo hi S O P E g R s s') (h1 : lo ≤ hi) (h2 : hi ≤ hi') (hg : g ≤ g') (hR : TFr tK b lo hi S P E O s s' → ∀ S' O' A, R s' S' O' A → R' s' S' O' A) : TEQ b lo hi' S O P E g' R' s s' := by
  obtain ⟨F, f, S', O', P', k1, k2, k3, k4, k5, k6, k7, k8, k9, k10⟩ := h
  refine ⟨TF_mo F (fun _ w => w) (Nat.le_refl _) h2 (Nat.le_refl _) (Nat.le_refl _) (Nat.le_refl _) (Nat.le_refl _), f, S', O', P', k1, k2, k3, k4, nu1 k5 h2, k6, nu3 k7 (cM_sub (Nat.le_refl _) h1 h2), k8, Nat.le_trans k9 (Nat.add_le_add_left hg _), fun q => ?_⟩
  obtain ⟨A, p, a1, a2, a3, a4, a5, a6⟩ := k10 q
  exact ⟨A, p, a1, a2, a3, a4, a5, hR F _ _ _ a6⟩
/-- behind a fault typeE does nothing -/
theorem te_f {d lo hi g S O P E : Nat} {R : yS → Nat → Nat → List Nat → Prop} {a1 : Int32} {s : yS} (hW : TW own b n W N T F H S0 G fo S O P E s) (hne : ¬ (s.1 8).toInt ≤ 0) : Tot (d + 1) 217 [.ref 213, .int a1] s (fun v s' => v = none ∧ TEQ b lo hi S O P E g R s s') := by
  obtain ⟨c1, c2, c3, c4, c5, c6, c7, c8, c9, c10, c11, c12, c13⟩ := id hW
  refine t_217 ?_
  unfold w_217_0
  exact ⟨fun w => absurd w hne, fun _ => ⟨rfl, TEQ_bad (TF_rf c1.2.2.2.2.1 c1.2.2.2.2.2.1) (f8_rf c3) (by omega) c5 c7 c8 (Nat.le_refl _) (by omega) (Nat.le_refl _) (by omega) (Nat.le_refl _) (by omega)⟩⟩
theorem PEH_0 {m d : Nat} (ih : TEH own b n W N T F H S0 G fo m d) (hd : 18 ≤ d) : PEH own b n W N T F H S0 G fo m 0 (d + 3) := by
  intro s a1 lo hi e S O P E hW hC hE h1
  obtain ⟨c1, c2, c3, c4, c5, c6, c7, c8, c9, c10, c11, c12, c13⟩ := id hW
  obtain ⟨t1, t2, t3, t4, t5, t6, t7, t8⟩ := id hC
  by_cases hf : (s.1 8).toInt ≤ 0
  · obtain ⟨rfl, h2, h3, h4⟩ := hE
    have e1 : a1.toInt.toNat = e := by omega
    have hP : P ≤ 199000 := Nat.le_trans (Nat.le_add_right _ _) t7
    refine t_217 ?_
    unfold w_217_0
    rw [e1]
    refine ⟨fun _ => ⟨by omega, fun w => ?_, fun w => ?_, fun w => ?_, fun w => ?_, fun w => ?_⟩, fun w => absurd hf w⟩
    · exfalso
      rcases h4 with ⟨q, -⟩ | ⟨q, -⟩ <;> omega
    · rcases h4 with ⟨-, q⟩ | ⟨q, -⟩
      · refine Tot.imp (Tot.mono (show 0 + 3 ≤ d + 2 by omega) (s_218 (d := 0) hW hP h1 (by omega) w q (t4 e (Nat.le_refl _) h2))) ?_
        rintro v s' ⟨rfl, hT⟩
        refine ⟨rfl, rfl, TEQ_mo hT (by omega) (by omega) (by omega) (fun F S' O' A hR => ⟨rfl, h2, by rw [TF_row F (by decide)]; exact h3, Or.inl ⟨by rw [TF_row F (by decide)]; exact w, hR.1⟩, hR.2⟩)⟩
      · omega
    · rcases h4 with ⟨q, -⟩ | ⟨-, y, h, q1, q2, q3, q4, q5⟩
      · omega
      · refine Tot.imp (s_221 ih (by omega) hW hC h2 h1 w q1 q2 q3 q4 q5) ?_
        rintro v s' ⟨rfl, hT⟩
        exact ⟨rfl, rfl, TEQ_mo hT (by omega) (Nat.le_refl _) (by omega) (fun F S' O' A hR => ⟨rfl, h2, by rw [TF_row F (by decide)]; exact h3, hR⟩)⟩
    · exfalso
      rcases h4 with ⟨q, -⟩ | ⟨q, -⟩ <;> omega
    · exfalso
      rcases h4 with ⟨q, -⟩ | ⟨q, -⟩ <;> omega
  · exact te_f (d := d + 2) hW hf
theorem PEH_s {m p d : Nat} (ih : TEH own b n W N T F H S0 G fo m d) (ihp : PEH own b n W N T F H S0 G fo m p (d + 1)) (hd : 18 ≤ d) (hp : p ≤ 19) : PEH own b n W N T F H S0 G fo m (p + 1) (d + 3) := by
  intro s a1 lo hi e S O P E hW hC hE h1
  obtain ⟨c1, c2, c3, c4, c5, c6, c7, c8, c9, c10, c11, c12, c13⟩ := id hW
  obtain ⟨t1, t2, t3, t4, t5, t6, t7, t8⟩ := id hC
  by_cases hf : (s.1 8).toInt ≤ 0
  · obtain ⟨h2, a, h3, h4, h5, h6, h7, h8⟩ := hE
    have e1 : a1.toInt.toNat = e := by omega
    refine t_217 ?_
    unfold w_217_0
    rw [e1]
    refine ⟨fun _ => ⟨by omega, fun w => ?_, fun w => ?_, fun w => ?_, fun w => ?_, fun w => ?_⟩, fun w => absurd hf w⟩
    · rcases h8 with ⟨q, -⟩ | ⟨q, y, q1, q2, q3⟩ | ⟨q, -⟩
      · omega
      · refine Tot.imp (s_228 ihp (by omega) hp hW hC h2 h1 h3 h4 h5 ⟨h6, h7⟩ q q1 q2 q3) ?_
        rintro v s' ⟨rfl, hT⟩
        exact ⟨rfl, rfl, hT⟩
      · omega
    · exfalso
      rcases h8 with ⟨q, -⟩ | ⟨q, -⟩ | ⟨q, -⟩ <;> omega
    · exfalso
      rcases h8 with ⟨q, -⟩ | ⟨q, -⟩ | ⟨q, -⟩ <;> omega
    · rcases h8 with ⟨q, q1⟩ | ⟨q, -⟩ | ⟨q, -⟩
      · refine Tot.imp (s_223 ihp (by omega) hp hW hC h2 h1 h3 h4 h5 ⟨h6, h7⟩ q q1) ?_
        rintro v s' ⟨rfl, hT⟩
        exact ⟨rfl, rfl, hT⟩
      · omega
      · omega
    · rcases h8 with ⟨q, -⟩ | ⟨q, -⟩ | ⟨-, q1, hm, q2, q3, ⟨ys, y1, y2, y3, y4, y5⟩, cs, l1, l2, l3, l4, l5⟩
      · omega
      · omega
      · refine Tot.imp (s_226 (hm := hm) (ys := ys) (cs := cs) ih ihp hd hp hW hC h1 h3 h4 h5 w q1 q2 q3 ⟨y3, y1, y4, fun y hy => ?_, l3, l4, l5⟩ y2 l2) ?_
        · obtain ⟨z1, h', z2, z3, z4⟩ := y5 y hy
          exact ⟨z1, h', z2, z3, z4⟩
        · rintro v s' ⟨rfl, hT⟩
          exact ⟨rfl, rfl, hT⟩
  · exact te_f (d := d + 2) hW hf
theorem PEH_all {m d : Nat} (ih : TEH own b n W N T F H S0 G fo m d) (hd : 18 ≤ d) : ∀ p, p ≤ 20 → PEH own b n W N T F H S0 G fo m p (d + 3 + 2 * p)
  | 0, _ => PEH_0 ih hd
  | p + 1, hp => by
    have := PEH_all ih hd p (by omega)
    exact PEH_mo (PEH_s (d := d + 2 + 2 * p) (TEH_mo ih (by omega)) (PEH_mo this (by omega)) (by omega) (by omega)) (by omega)
theorem TEH_all : ∀ m, TEH own b n W N T F H S0 G fo m (20 + 50 * m)
  | 0 => fun s a1 lo hi e S O P E _ _ hE => absurd hE id
  | m + 1 => by
    have ih := TEH_all m
    intro s a1 lo hi e S O P E hW hC hE h1
    obtain ⟨p, hp, hE⟩ := hE
    have hl := isEp_lt hE
    refine Tot.imp (Tot.mono (by omega) (PEH_all ih (by omega) p hp s a1 lo hi e S O P E hW hC hE h1)) ?_
    rintro v s' ⟨rfl, hT⟩
    exact ⟨rfl, TEQ_mo hT (by omega) (Nat.le_refl _) (by omega) (fun F S' O' A hR => ⟨p, hp, hR⟩)⟩
end TEX
