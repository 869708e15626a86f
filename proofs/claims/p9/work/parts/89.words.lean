/-! ===== boundWords ===== -/
theorem RQ_fo {V : Nat → Prop} {k y h S : Nat} {s t u : yS} (hQ : RQ V k y h S s t) (hF : FO t u) (hne : ¬ (u.1 8).toInt = 0) : RQ V k y h S s u := by
  obtain ⟨q1, q2, q3, S', q4, q5, q6, q7⟩ := hQ
  have e2 := FO_2 hF
  refine ⟨⟨fun k hk => ?_, fun q i w1 w2 => by rw [e2]; exact q1.2.1 q i w1 w2, by rw [e2]; exact q1.2.2⟩, fun i => by rw [e2]; exact q2 i, FO_8 hF, S', by rw [FO_1 hF (by decide)]; exact q4, q5, q6, fun q => absurd q hne⟩
  rw [FO_1 hF (fun w => hk (by rw [w]; decide))]
  exact q1.1 k hk
theorem s_207 {bt n W b n2 N T F H k y h S : Nat} {own : Nat → Nat × Nat} {V : Nat → Prop} {a1 : Int32} {s : yS} (hVT : ∀ x, V x → x / 8 < T ∨ 1000 ≤ x / 8) (hI : RI bt n W b n2 own N T F H V 0 s) (hY : isY bt n s k h y) (hh : h ≤ 12006) (h1 : a1.toInt = (y : Int)) (hS : (s.1 65).toInt = (S : Int)) (hS2 : S + (h - y) ≤ 13000) : Tot (k + 3) 207 [.ref 213, .int a1] s (fun v s' => v = none ∧ RQ V k y h S s s' ∧ ((s'.1 8).toInt = 0 → tyE s' S / 8 < T ∧ (s'.2.1 235 (24 * b + tyE s' S / 8)).toInt = 0)) := by
  have e1 : a1.toInt.toNat = y := by omega
  refine t_207 ?_
  unfold w_207_0 w_207_41
  rw [e1]
  refine Tot.imp (s_204 k s a1 0 y h S (by rw [show (0 : Int32).toInt = 0 by decide]; exact hI) hY hh h1 hS hS2) ?_
  rintro v t ⟨rfl, hQ⟩
  refine ⟨rfl, fun hf => ⟨rfl, hQ, fun q => absurd q hf⟩, fun hf => ?_⟩
  obtain ⟨q1, q2, q3, S', q4, q5, q6, q7⟩ := id hQ
  have hr : ∀ q, q ∉ [231, 232, 264] → t.2.1 q = s.2.1 q := fun q hq => RFr_row q1 hq
  have tI := RI_eq hI q1.1 hr q2 q3
  obtain ⟨hb, hn2, hT24, hF60, hH, r33, r52, hA⟩ := tI.2.1
  have hbt := tI.1.1
  have hn := tI.1.2.1
  cases k with
  | zero => exact absurd hY id
  | succ k =>
    obtain ⟨m1, m2, m3, m4, m5, -⟩ := (q7 hf).2
    obtain ⟨g1, -, g2, g3, -⟩ := id hY
    have e31 : (t.2.1 231 y).toInt.toNat = S := by omega
    have ht := q2 S
    have tyI : (t.2.1 264 S).toInt / 8 = (tyE t S / 8 : Nat) := by unfold tyE; omega
    have hc := hVT _ m5
    rw [e31]
    have c222 : t.2.1 222 y = s.2.1 222 y := by rw [hr 222 (by decide)]
    have go34 : w_207_34 (Tot (k + 3)) a1 t (fun v s' => v = none ∧ RQ V (k + 1) y h S s s' ∧ ((s'.1 8).toInt = 0 → tyE s' S / 8 < T ∧ (s'.2.1 235 (24 * b + tyE s' S / 8)).toInt = 0)) := by
      unfold w_207_34 w_207_41
      rw [e1, c222]
      refine ⟨by omega, ?_⟩
      refine Tot.imp (Tot.mono (by omega) (fo_163 (d := 0) (w := 6) tI.1 q3 (by decide) (by omega))) ?_
      rintro v u ⟨rfl, hF, hne⟩
      exact ⟨rfl, rfl, RQ_fo hQ hF hne, fun q => absurd q hne⟩
    refine ⟨by omega, by omega, ?_⟩
    refine Tot.imp (Tot.mono (by omega) (s_185 (d := 0) ht.1)) ?_
    rintro v s3 ⟨es, x5, rfl, hx5⟩
    have es := es.symm
    subst es
    refine ⟨x5, rfl, fun _ => go34, fun q => ?_⟩
    obtain ⟨c, hcc⟩ : ∃ c, c = tyE t S / 8 := ⟨_, rfl⟩
    rw [← hcc] at hc tyI
    have hcT : c < T := hc.resolve_right (by omega)
    have h75 := tI.2.2.2.1
    refine ⟨by omega, fun x6 hx6 => ⟨by omega, ?_⟩⟩
    rw [e31]
    refine ⟨by omega, ?_⟩
    refine Tot.imp (Tot.mono (by omega) (s_185 (d := 0) ht.1)) ?_
    rintro v s3 ⟨es, x9, rfl, hx9⟩
    have es := es.symm
    subst es
    refine ⟨x9, rfl, by omega, fun x10 hx10 => ?_⟩
    have e10 : x10.toInt.toNat = 24 * b + c := by omega
    rw [e10]
    exact ⟨by omega, fun q35 => ⟨rfl, hQ, fun _ => by rw [← hcc]; exact ⟨hcT, q35⟩⟩, fun _ => go34⟩
