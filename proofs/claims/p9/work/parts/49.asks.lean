/-! ===== asks ===== -/
theorem s_235 {d : Nat} {s : yS} (ht : 0 ≤ (s.1 2).toInt ∧ (s.1 2).toInt ≤ 4000) : Tot (d + 4) 235 [.ref 213] s (fun v s' => v = none ∧ (s'.1 7).toInt = 8004 ∧ (s'.1 8).toInt = 0 ∧ (s'.1 2).toInt = 0 ∧ (s'.1 26).toInt = 8004 ∧ (s'.1 65).toInt = 8210 ∧ (∀ k, k ∉ [2, 3, 7, 8, 9, 26, 65] → s'.1 k = s.1 k) ∧ CF 2 s s' ∧ ∃ n W : Nat, Lx 2 n W s' ∧ Rd 2 n s') := by
  refine t_235 ?_
  unfold w_235_0
  rintro s1 rfl
  refine Tot.imp (Tot.mono (by omega) (s_161 (d := 0) (b := 2) (by decide) (show (2 : Int32).toInt = 2 by decide))) ?_
  rintro v s2 ⟨rfl, a1, a2, a3, W0, a4, a5, a6, a7⟩
  refine ⟨rfl, ?_⟩
  have t2 : s2.1 2 = s.1 2 := by rw [a1]; rfl
  refine Tot.imp (Tot.mono (by omega) (s_162 (d := 0) (b := 2) (by decide) (by rw [a1]; exact (show (2 : Int32).toInt = 2 by decide)) (by rw [t2]; exact ht) a4 a5 a7)) ?_
  rintro v s3 ⟨rfl, b1, b2, b3, b4, b5, n, W, b6, -, -⟩
  refine ⟨rfl, ?_⟩
  rintro s4 rfl s5 rfl
  refine ⟨rfl, by show (s3.1 7).toInt = _; rw [b1]; rfl, b2, b3, by show (8004 : Int32).toInt = _; decide, by show (8210 : Int32).toInt = _; decide, fun k hk => ?_, ⟨fun p hp => (b5.1 p hp).trans (a2 p (fun e => hp (by rw [e]; decide))), fun p i hp hi => (b5.2.1 p i hp hi).trans (by rw [a2 p (fun e => by rw [e] at hp; revert hp; decide)]; rfl), fun q hq => (b5.2.2.1 q hq).trans (a3 q hq), fun q i hi => (b5.2.2.2 q i hi).trans (a6 q i hi)⟩, n, W, Lx_eq b6 rfl rfl rfl, ?_⟩
  · rw [sf_1, if_neg (fun e => hk (by rw [e]; decide)), sf_1, if_neg (fun e => hk (by rw [e]; decide)), b4 k (fun e => hk (by revert e; simp only [List.mem_cons, List.not_mem_nil]; grind)), a1, sf_1, if_neg (fun e => hk (by rw [e]; decide))]
  · unfold Rd
    show 0 ≤ (s3.1 8).toInt ∧ (s3.1 8).toInt ≤ 70000 ∧ 0 ≤ (s3.1 7).toInt ∧ (s3.1 7).toInt ≤ 13000 ∧ ((s3.1 8).toInt = 0 → _ ≤ (s3.1 7).toInt ∧ (s3.1 7).toInt ≤ _)
    rw [b1, b2]
    omega
