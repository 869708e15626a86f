/-! ===== failed, calls, count: class and reference answer alike ===== -/
section ZWG
variable {h : xH} {s : yS}
theorem zv_143 {P : Nat} {z : zS} (hP : P = 3 ∨ P = 39) : Zu 9 [] [(0, 9, P)] [] 143 [.ref 0] z (fun v _ => v = some (.int (if (z.1 105 13).toInt = 1 then z.1 105 12 else -1))) := by
  refine zc_143 (d := 0) hP ?_
  unfold v_143_0 v_143_10
  exact ⟨fun w => by rw [if_neg w], fun w => by rw [if_pos w]⟩
theorem zv_144 {P : Nat} {z : zS} (hP : P = 3 ∨ P = 39) : Zu 9 [] [(0, 9, P)] [] 144 [.ref 0] z (fun v _ => v = some (.int (z.1 105 11))) := by
  refine zc_144 (d := 0) hP ?_
  unfold v_144_0
  rfl
theorem Y_failed (hL : LSr h s) : PXr 143 [.ref 0] 248 [.ref 213] h True := by
  obtain ⟨P, hP, f0⟩ := cur_of hL.1.1
  refine Y_keep (Rv := fun r => r = s.1 92) hL K_143 (by decide) rfl rfl rfl rfl ⟨⟨0, rfl, cmem_ok rfl⟩, trivial⟩ rfl rfl rfl (EX_of hL.1.1 hL.1.2.2.2.2.2.2 (by decide) (cw_of f0) (zw_143 (d := 0) hP)) (fun v h1 cs sl e => hz_n (c' := []) hL.1.1 e (by decide +kernel) (by decide +kernel) (fun C z hC => zw_143 (d := 0) hC)) (r_keep (R_248 hL.1.2.2.1) (Tot_and rk_248 re_248) (Tot.imp (s_248 (d := 0)) (fun v s' q r hr => by
    rw [q.1] at hr
    exact (Value.int.inj (Option.some.inj hr)).symm))) (by decide) (fun x h1 cs sl e r hr _ => ?_)
  obtain ⟨hS, z, C, S, q1, q2, q3, q4, q5, -⟩ := hL
  obtain ⟨z1, hv, -⟩ := cz_of hS.1 q1 (cw_of q3) e (zv_143 (by omega))
  rw [Value.int.inj (Option.some.inj hv), hr]
  by_cases w : (z.1 105 13).toInt = 1
  · rw [if_pos w]
    exact q5.1.2.2.1.2.1 w
  · rw [if_neg w]
    exact (q5.1.2.2.1.2.2 w).symm
theorem Y_calls (hL : LSr h s) : PXr 144 [.ref 0] 249 [.ref 213] h True := by
  obtain ⟨P, hP, f0⟩ := cur_of hL.1.1
  refine Y_keep (Rv := fun r => r = s.1 93) hL K_144 (by decide) rfl rfl rfl rfl ⟨⟨0, rfl, cmem_ok rfl⟩, trivial⟩ rfl rfl rfl (EX_of hL.1.1 hL.1.2.2.2.2.2.2 (by decide) (cw_of f0) (zw_144 (d := 0) hP)) (fun v h1 cs sl e => hz_n (c' := []) hL.1.1 e (by decide +kernel) (by decide +kernel) (fun C z hC => zw_144 (d := 0) hC)) (r_keep (R_249 hL.1.2.2.1) (Tot_and rk_249 re_249) (Tot.imp (s_249 (d := 0)) (fun v s' q r hr => by
    rw [q.1] at hr
    exact (Value.int.inj (Option.some.inj hr)).symm))) (by decide) (fun x h1 cs sl e r hr _ => ?_)
  obtain ⟨hS, z, C, S, q1, q2, q3, q4, q5, -⟩ := hL
  obtain ⟨z1, hv, -⟩ := cz_of hS.1 q1 (cw_of q3) e (zv_144 (by omega))
  rw [Value.int.inj (Option.some.inj hv), hr]
  exact q5.1.2.2.1.1.1
/-- count's six answers: TYPES, FUNCS, STEPS in all, of the last run, signs, loaded -/
def cnA (a r t f n l c d : Int32) : Prop := (¬ (0 ≤ a.toInt ∧ a.toInt ≤ 5) → r = -1) ∧ (a.toInt = 0 → r = t) ∧ (a.toInt = 1 → r = f) ∧ (a.toInt = 2 → r = n) ∧ (a.toInt = 3 → r = l) ∧ (a.toInt = 4 → r = c) ∧ (a.toInt = 5 → r = d)
theorem cnA_eq {a r r' t f n l c d : Int32} (h : cnA a r t f n l c d) (g : cnA a r' t f n l c d) : r = r' := by
  obtain ⟨h1, h2, h3, h4, h5, h6, h7⟩ := h
  obtain ⟨g1, g2, g3, g4, g5, g6, g7⟩ := g
  by_cases w : 0 ≤ a.toInt ∧ a.toInt ≤ 5
  · have : a.toInt = 0 ∨ a.toInt = 1 ∨ a.toInt = 2 ∨ a.toInt = 3 ∨ a.toInt = 4 ∨ a.toInt = 5 := by omega
    rcases this with e | e | e | e | e | e
    · rw [h2 e, g2 e]
    · rw [h3 e, g3 e]
    · rw [h4 e, g4 e]
    · rw [h5 e, g5 e]
    · rw [h6 e, g6 e]
    · rw [h7 e, g7 e]
  · rw [h1 w, g1 w]
theorem cnA_of {a r t f n l c d : Int32} (h : (¬ (0 ≤ a.toInt ∧ a.toInt ≤ 5) ∧ r = -1) ∨ (a.toInt = 0 ∧ r = t) ∨ (a.toInt = 1 ∧ r = f) ∨ (a.toInt = 2 ∧ r = n) ∨ (a.toInt = 3 ∧ r = l) ∨ (a.toInt = 4 ∧ r = c) ∨ (a.toInt = 5 ∧ r = d)) : cnA a r t f n l c d := by
  refine ⟨fun w => ?_, fun w => ?_, fun w => ?_, fun w => ?_, fun w => ?_, fun w => ?_, fun w => ?_⟩
  all_goals
    rcases h with ⟨e, h⟩ | ⟨e, h⟩ | ⟨e, h⟩ | ⟨e, h⟩ | ⟨e, h⟩ | ⟨e, h⟩ | ⟨e, h⟩
    all_goals first
      | exact h
      | (exfalso; omega)
theorem zv_150 {P : Nat} {z : zS} {a1 : Int32} (hP : P = 3 ∨ P = 39) : Zu 9 [] [(0, 9, P)] [] 150 [.ref 0, .int a1] z (fun v _ => ∃ r : Int32, v = some (.int r) ∧ cnA a1 r (if (z.1 0 11).toInt = 0 then 0 else z.1 (P + 24) 2 / 6) (if (z.1 0 11).toInt = 0 then 0 else z.1 (P + 26) 2 / 10) (z.1 0 12) (z.1 105 10) (z.1 1 2) (if (z.1 0 11).toInt = 0 then 0 else 1)) := by
  refine zc_150 (d := 0) hP ?_
  unfold v_150_0 v_150_10 v_150_19 v_150_37
  refine ⟨fun w => ⟨_, rfl, cnA_of (Or.inl ⟨by omega, rfl⟩)⟩, fun w => ⟨fun e => ⟨_, rfl, cnA_of (Or.inr (Or.inl ⟨w, by rw [if_pos e]⟩))⟩, fun e => ⟨_, rfl, cnA_of (Or.inr (Or.inl ⟨w, by rw [if_neg e]⟩))⟩⟩, fun w => ⟨fun e => ⟨_, rfl, cnA_of (Or.inr (Or.inr (Or.inl ⟨w, by rw [if_pos e]⟩)))⟩, fun e => ⟨_, rfl, cnA_of (Or.inr (Or.inr (Or.inl ⟨w, by rw [if_neg e]⟩)))⟩⟩, fun w => ⟨_, rfl, cnA_of (Or.inr (Or.inr (Or.inr (Or.inl ⟨w, rfl⟩))))⟩, fun w => ⟨_, rfl, cnA_of (Or.inr (Or.inr (Or.inr (Or.inr (Or.inl ⟨w, rfl⟩)))))⟩, fun w => ⟨_, rfl, cnA_of (Or.inr (Or.inr (Or.inr (Or.inr (Or.inr (Or.inl ⟨w, rfl⟩))))))⟩, fun w => ⟨fun e => ⟨_, rfl, cnA_of (Or.inr (Or.inr (Or.inr (Or.inr (Or.inr (Or.inr ⟨w, by rw [if_pos e]⟩))))))⟩, fun e => ⟨_, rfl, cnA_of (Or.inr (Or.inr (Or.inr (Or.inr (Or.inr (Or.inr ⟨w, by rw [if_neg e]⟩))))))⟩⟩⟩
theorem rv_270 {a1 : Int32} (hb : 0 ≤ (s.1 29).toInt ∧ (s.1 29).toInt < 2) : Tot 1 270 [.ref 213, .int a1] s (fun v _ => ∃ r : Int32, v = some (.int r) ∧ cnA a1 r (s.2.1 233 (s.1 29).toInt.toNat) (s.2.1 252 (s.1 29).toInt.toNat) (s.1 94) (s.1 95) (s.1 2) (if (s.1 90).toInt = 0 then 0 else 1)) := by
  refine t_270 (d := 0) ?_
  unfold w_270_0 w_270_32
  rintro s1 rfl
  refine ⟨fun w => ⟨_, rfl, cnA_of (Or.inl ⟨by omega, rfl⟩)⟩, fun w => ⟨hb, _, rfl, cnA_of (Or.inr (Or.inl ⟨w, rfl⟩))⟩, fun w => ⟨hb, _, rfl, cnA_of (Or.inr (Or.inr (Or.inl ⟨w, rfl⟩)))⟩, fun w => ⟨_, rfl, cnA_of (Or.inr (Or.inr (Or.inr (Or.inl ⟨w, rfl⟩))))⟩, fun w => ⟨_, rfl, cnA_of (Or.inr (Or.inr (Or.inr (Or.inr (Or.inl ⟨w, rfl⟩)))))⟩, fun w => ⟨_, rfl, cnA_of (Or.inr (Or.inr (Or.inr (Or.inr (Or.inr (Or.inl ⟨w, rfl⟩))))))⟩, fun w => ⟨fun e => ⟨_, rfl, cnA_of (Or.inr (Or.inr (Or.inr (Or.inr (Or.inr (Or.inr ⟨w, (if_pos e).symm⟩))))))⟩, fun e => ⟨_, rfl, cnA_of (Or.inr (Or.inr (Or.inr (Or.inr (Or.inr (Or.inr ⟨w, (if_neg e).symm⟩))))))⟩⟩⟩
theorem Y_count (hL : LSr h s) (n : Int32) : PXr 150 [.ref 0, .int n] 270 [.ref 213, .int n] h True := by
  obtain ⟨P, hP, f0⟩ := cur_of hL.1.1
  have hb : 0 ≤ (s.1 29).toInt ∧ (s.1 29).toInt < 2 := by
    obtain ⟨nb, a1, a2, -⟩ := id hL.1.2.2.1
    omega
  refine Y_keep (Rv := fun r => cnA n r (s.2.1 233 (s.1 29).toInt.toNat) (s.2.1 252 (s.1 29).toInt.toNat) (s.1 94) (s.1 95) (s.1 2) (if (s.1 90).toInt = 0 then 0 else 1)) hL K_150 (by decide) rfl rfl rfl rfl ⟨⟨0, rfl, cmem_ok rfl⟩, vK_int n, trivial⟩ rfl rfl rfl (EX_of hL.1.1 hL.1.2.2.2.2.2.2 (by decide) (cw_of f0) (zw_150 (d := 0) hP)) (fun v h1 cs sl e => hz_n (c' := []) hL.1.1 e (by decide +kernel) (by decide +kernel) (fun C z hC => zw_150 (d := 0) hC)) (r_keep (R_270 hL.1.2.2.1) (Tot_and (rk_270 hL.1.2.2.1) (re_270 hL.1.2.2.1)) (Tot.imp (rv_270 hb) (fun v s' q r hr => by
    obtain ⟨r', rfl, q⟩ := q
    rw [← Value.int.inj (Option.some.inj hr)]
    exact q))) (by decide) (fun x h1 cs sl e r hr _ => ?_)
  obtain ⟨hS, z, C, S, q1, q2, q3, q4, q5, -⟩ := hL
  have hC : C = 3 ∨ C = 39 := by omega
  obtain ⟨z1, ⟨x', hv, hx⟩, -⟩ := cz_of hS.1 q1 (cw_of q3) e (zv_150 hC)
  rw [Value.int.inj (Option.some.inj hv)]
  obtain ⟨⟨c1, c2, ⟨⟨c3, c4⟩, c5⟩, c6⟩, c7⟩ := q5
  have e12 : z.1 1 2 = s.1 2 := by
    have w := q1.1 1 2 (by decide +kernel)
    rw [hS.2.2.2.2.1] at w
    exact (Value.int.inj (Option.some.inj w)).symm
  rw [c1, c4, e12] at hx
  by_cases h90 : (s.1 90).toInt = 0
  · rw [if_pos (c2.mpr h90), if_pos (c2.mpr h90), if_pos (c2.mpr h90)] at hx
    obtain ⟨d1, d2⟩ := c6 h90
    rw [if_pos h90, z32.mp d1, z32.mp d2] at hr
    exact cnA_eq hx hr
  · have n11 : ¬ (z.1 0 11).toInt = 0 := fun w => h90 (c2.mp w)
    rw [if_neg n11, if_neg n11, if_neg n11] at hx
    rw [if_neg h90] at hr
    obtain ⟨K, L, W, ar, nI, m, ⟨g1, g2, k0, k, zz, PG, -⟩, ⟨⟨-, d1, d2⟩, -⟩⟩ := c7 h90
    obtain ⟨b1, b2, -⟩ := PG.1.2.2.2.2.2.2.1
    have hnT := PR_nT g1
    obtain ⟨t24, f60⟩ := g1.2.2.1
    have e1 : z.1 (C + 24) 2 / 6 = s.2.1 233 (s.1 29).toInt.toNat := Int32.toInt_inj.mp (by
      rw [d1, i_div6 (a := 6 * (kTy K (lsF K L) : Int)) b1 (by omega), hnT]
      omega)
    have e2 : z.1 (C + 26) 2 / 10 = s.2.1 252 (s.1 29).toInt.toNat := Int32.toInt_inj.mp (by
      rw [d2, i_div10 (a := 10 * (kFn K (lsF K L) : Int)) b2 (by omega)]
      omega)
    rw [e1, e2] at hx
    exact cnA_eq hx hr
end ZWG
