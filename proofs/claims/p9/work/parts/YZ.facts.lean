/-! ===== what stands of HEADS and types in a program in order ===== -/
section YZF
variable {K L W ar kd : Int → Int} {n lo hi : Int} {TN Ls : List Int} {i j : Nat} {t q : Int}
theorem kTy_lt (h1 : Ls[i]? = some t) (h6 : ¬ K t = 6) : kTy K (Ls.take i) < kTy K Ls := by
  have := (List.getElem?_eq_some_iff.mp (tyL_at Ls i t h1 h6)).1
  rw [tyL_len] at this
  exact this
theorem kFn_lt (h1 : Ls[i]? = some t) (h6 : K t = 6) : kFn K (Ls.take i) < kFn K Ls := by
  have := (List.getElem?_eq_some_iff.mp (fnL_at Ls i t h1 h6)).1
  rw [fnL_len] at this
  exact this
theorem kHd_lt (h1 : Ls[i]? = some t) (h2 : (dHd K L t)[j]? = some q) : kHd K L (Ls.take i) + j < kHd K L Ls := by
  have := (List.getElem?_eq_some_iff.mp (hdX_at Ls i j 0 0 t q h1 h2)).1
  rw [hdX_len] at this
  exact this
theorem kHd_le : ∀ l : List Int, (∀ t ∈ l, ¬ K t = 6 → (tMe K L false (0, t)).length ≤ 6) → kHd K L l ≤ 6 * kTy K l + kFn K l
  | [], _ => Nat.zero_le _
  | t :: l, h => by
    have ih := kHd_le l (fun t ht => h t (List.mem_cons_of_mem _ ht))
    show (if K t = 6 then 1 else tNh K L false (0, t)) + kHd K L l ≤ 6 * ((if K t = 6 then 0 else 1) + kTy K l) + ((if K t = 6 then 1 else 0) + kFn K l)
    by_cases h6 : K t = 6
    · rw [if_pos h6, if_pos h6, if_pos h6]
      omega
    · rw [if_neg h6, if_neg h6, if_neg h6]
      have := h t List.mem_cons_self h6
      unfold tNh
      split
      · omega
      · omega
theorem PR_nT (h : PRm K L W ar kd n lo hi TN Ls) : TN.length = kTy K Ls := by rw [h.2.1, List.length_map, tyL_len]
/-- a func's struct -/
theorem fn_fact (h : PRm K L W ar kd n lo hi TN Ls) (h1 : Ls[i]? = some t) (h6 : K t = 6) : (0 ≤ fcd K L W TN t ∧ fcd K L W TN t < (kTy K Ls : Int)) ∧ kd (fcd K L W TN t) = 1 ∧ ar (fcd K L W TN t) = ((fPa K L false (0, t)).length : Int) := by
  have e0 : bdF K L W ar kd TN t = 0 := dFs_0 h h1 _ (List.mem_append_left _ (by rw [if_pos h6]; exact List.mem_singleton.mpr rfl))
  obtain ⟨⟨hX, hC, hlo, hhi⟩, -, -, -, -, h0, -⟩ := h
  obtain ⟨w1, -, -⟩ := fn_wd (n := n) hC hlo hhi h1 h6
  obtain ⟨b1, b2, b3⟩ := bdF_0 hX w1 e0
  refine ⟨⟨b1, ?_⟩, b2, b3⟩
  rcases Int.lt_or_le (fcd K L W TN t) (kTy K Ls : Int) with z | z
  · exact z
  · have := h0 _ (Or.inr z)
    omega
/-- PARAMS of a declaration -/
theorem tp_fact (h : PRm K L W ar kd n lo hi TN Ls) (h1 : Ls[i]? = some t) : (dTp K L t).length ≤ 6 ∧ ((dTp K L t).length : Int) = ar (if K t = 6 then fcd K L W TN t else (kTy K (Ls.take i) : Int)) := by
  have hh := h
  obtain ⟨⟨hX, hC, hlo, hhi⟩, -, -, ⟨ha, -⟩, h5, -⟩ := h
  obtain ⟨d1, d2, d3⟩ := dcC_at Ls i t lo hi hC h1
  unfold dTp
  by_cases h6 : K t = 6
  · rw [if_pos h6, if_pos h6]
    have := (fn_fact hh h1 h6).2.2
    exact ⟨pa_len (fn_fw (d2 h6).1).1, this.symm⟩
  · rw [if_neg h6, if_neg h6]
    have := (h5 i t h1 h6).1
    exact ⟨fo_len (ty_fw (d3 h6).1).1, this.symm⟩
theorem hSlt_sub (h : PRm K L W ar kd n lo hi TN Ls) (h1 : Ls[i]? = some t) (h2 : (dHd K L t)[j]? = some q) : ∀ x ∈ hSlt K L ((kHd K L (Ls.take i) + j : Nat) : Int) (0, q + 1), x ∈ sDc K L (kHd K L (Ls.take i) : Int) t := by
  obtain ⟨⟨hX, hC, hlo, hhi⟩, -⟩ := h
  obtain ⟨d1, d2, d3⟩ := dcC_at Ls i t lo hi hC h1
  intro x hx
  unfold dHd at h2
  unfold sDc
  by_cases h6 : K t = 6
  · rw [if_pos h6] at h2 ⊢
    have hj : j = 0 := by
      have := (List.getElem?_eq_some_iff.mp h2).1
      simp only [List.length_cons, List.length_nil] at this
      omega
    subst hj
    have e : (f_5 K L false (0, t)).2 = q := by simpa using h2
    obtain ⟨f1, f2, f3, f4, f5, f6, f7, -⟩ := f7_fw (fn_fw (d2 h6).1).1
    have e6 : f_6 K L false (0, t) = (0, q + 1) := by
      rw [f7, ← e, f6]
      show ((0 : Int), (f_4 K L false (0, t)).2 + 2) = (0, (f_4 K L false (0, t)).2 + 1 + 1)
      rw [show (f_4 K L false (0, t)).2 + 2 = (f_4 K L false (0, t)).2 + 1 + 1 by omega]
    unfold fSlt
    rw [e6]
    exact List.mem_cons_of_mem _ (List.mem_append_right _ hx)
  · rw [if_neg h6] at h2 ⊢
    by_cases hst : tSt K L false (0, t) = true
    · rw [if_pos hst] at h2
      cases h2
    · rw [if_neg hst] at h2
      unfold tSlt
      rw [if_neg hst]
      refine List.mem_append_right _ ?_
      obtain ⟨k, hk⟩ := List.getElem?_of_mem hx
      have e1 : ((kHd K L (Ls.take i) + j : Nat) : Int) = (kHd K L (Ls.take i) : Int) + (j : Int) := by omega
      rw [e1] at hk
      exact List.mem_of_getElem? (hsL_at _ j k _ q x h2 hk)
/-- a HEAD -/
theorem hd_fact (h : PRm K L W ar kd n lo hi TN Ls) (h1 : Ls[i]? = some t) (h2 : (dHd K L t)[j]? = some q) : ((p_hd K L (0, q + 1)).1 = 0 ∧ wTk K n q) ∧ ((h_f K L (0, q + 1)).length ≤ 6 ∧ (h_v K L (0, q + 1)).length ≤ 6) ∧ (∀ v ∈ h_f K L (0, q + 1), 0 ≤ v) ∧ (∀ v ∈ h_v K L (0, q + 1), 0 ≤ v) ∧ (hfS K L Ls ((kHd K L (Ls.take i) + j : Nat) : Int) = h_f K L (0, q + 1)) ∧ ∀ x ∈ hSlt K L ((kHd K L (Ls.take i) + j : Nat) : Int) (0, q + 1), 0 ≤ x.2.2.1 ∧ x.2.2.2 = ((kHd K L (Ls.take i) + j : Nat) : Int) ∧ (tlT K L (cdOf W (h_f K L (0, q + 1)) (dTp K L t) TN) ar 10 x.2.2.1).1 = 0 ∧ (p_t K L 10 false (0, x.2.2.1)).1 = 0 ∧ (x.2.1 = 0 → kd (cdOf W (h_f K L (0, q + 1)) (dTp K L t) TN x.2.2.1) = 2) := by
  have hh := h
  obtain ⟨⟨hX, hC, hlo, hhi⟩, -⟩ := h
  obtain ⟨p1, p2, p3, p4⟩ := dHd_ps hC h1 h2
  obtain ⟨w1, w2⟩ := hd_wn p1
  obtain ⟨r1, r2, r3, r4⟩ := hd_pc (kd' := 0) (sg := 0) p1
  have le1 := srtQ_le r1
  have le2 := srtQ_le r2
  have le1' : q + 1 ≤ (h_2 K L (0, q + 1)).2 := le1
  have hfw := (pt_fw 10 _ _ r3).2
  rw [← (pt_g 10 (by omega) false _ r3).2.2, r4] at hfw
  have hfw' : (h_3 K L (0, q + 1)).2 < (p_hd K L (0, q + 1)).2 := hfw
  have hf : hfS K L Ls ((kHd K L (Ls.take i) + j : Nat) : Int) = h_f K L (0, q + 1) := hfS_at (hdL_at Ls i j t q h1 h2)
  have q1 : ∀ v ∈ h_f K L (0, q + 1), 0 ≤ v := fun v hv => by
    have : q + 1 ≤ v := (w1 v hv).2.1
    omega
  have q2 : ∀ v ∈ h_v K L (0, q + 1), 0 ≤ v := fun v hv => by
    have : q + 1 ≤ v := (w2 v hv).2.1
    omega
  refine ⟨⟨p1, by omega, by omega, p2⟩, hd_len p1, q1, q2, hf, fun x hx => ?_⟩
  have hx2 : 0 ≤ x.2.2.1 ∧ x.2.2.2 = ((kHd K L (Ls.take i) + j : Nat) : Int) := by
    unfold hSlt nmS at hx
    rcases List.mem_append.mp hx with hx | hx
    · rcases List.mem_append.mp hx with hx | hx
      · obtain ⟨v, hv, rfl⟩ := List.mem_map.mp hx
        have := q1 v hv
        exact ⟨by show 0 ≤ v + 1; omega, rfl⟩
      · obtain ⟨v, hv, rfl⟩ := List.mem_map.mp hx
        have := q2 v hv
        exact ⟨by show 0 ≤ v + 1; omega, rfl⟩
    · rw [List.mem_singleton.mp hx]
      exact ⟨by show 0 ≤ (h_3 K L (0, q + 1)).2; omega, rfl⟩
  obtain ⟨s1, s2, -, s3⟩ := slot_ok hh h1 (hSlt_sub hh h1 h2 x hx) hx2.1
  rw [hx2.2, hf] at s1 s3
  exact ⟨hx2.1, hx2.2, s1, s2, s3⟩
theorem hSlt_len {h : Int} : (hSlt K L h (0, q + 1)).length = (h_f K L (0, q + 1)).length + (h_v K L (0, q + 1)).length + 1 := by
  unfold hSlt
  rw [List.length_append, List.length_append, nmS_len, nmS_len]
  rfl
theorem hSlt_at {h : Int} : (∀ (k : Nat) (v : Int), (h_f K L (0, q + 1))[k]? = some v → (hSlt K L h (0, q + 1))[k]? = some (v, 0, v + 1, h)) ∧ (∀ (k : Nat) (v : Int), (h_v K L (0, q + 1))[k]? = some v → (hSlt K L h (0, q + 1))[(h_f K L (0, q + 1)).length + k]? = some (v, 3, v + 1, h)) ∧ (hSlt K L h (0, q + 1))[(h_f K L (0, q + 1)).length + (h_v K L (0, q + 1)).length]? = some (-1, 4, (h_3 K L (0, q + 1)).2, h) := by
  unfold hSlt
  refine ⟨fun k v hv => ?_, fun k v hv => ?_, ?_⟩
  · have hk := (List.getElem?_eq_some_iff.mp hv).1
    rw [List.getElem?_append_left (by rw [List.length_append, nmS_len, nmS_len]; omega), List.getElem?_append_left (by rw [nmS_len]; exact hk)]
    exact nmS_at hv
  · have hk := (List.getElem?_eq_some_iff.mp hv).1
    rw [List.getElem?_append_left (by rw [List.length_append, nmS_len, nmS_len]; omega), app_at nmS_len]
    exact nmS_at hv
  · have := app_at (l := nmS 0 h (h_f K L (0, q + 1)) ++ nmS 3 h (h_v K L (0, q + 1))) (l' := [((-1 : Int), (4 : Int), (h_3 K L (0, q + 1)).2, h)]) (n := (h_f K L (0, q + 1)).length + (h_v K L (0, q + 1)).length) (by rw [List.length_append, nmS_len, nmS_len]) 0
    exact this
/-- FORMALS, FIELDS of a type -/
theorem ty_fact (h : PRm K L W ar kd n lo hi TN Ls) (h1 : Ls[i]? = some t) (h6 : ¬ K t = 6) : (∀ v ∈ tFo K L false (0, t), 0 ≤ v ∧ (tlT K L (cdOf W [] (tFo K L false (0, t)) TN) ar 10 (v + 1)).1 = 0 ∧ (p_t K L 10 false (0, v + 1)).1 = 0 ∧ kd (cdOf W [] (tFo K L false (0, t)) TN (v + 1)) = 2) ∧ (tSt K L false (0, t) = true → ∀ v ∈ tMe K L false (0, t), 0 ≤ v ∧ (tlT K L (cdOf W [] (tFo K L false (0, t)) TN) ar 10 (v + 1)).1 = 0 ∧ (p_t K L 10 false (0, v + 1)).1 = 0) := by
  have hh := h
  obtain ⟨⟨hX, hC, hlo, hhi⟩, -⟩ := h
  obtain ⟨d1, d2, d3⟩ := dcC_at Ls i t lo hi hC h1
  have hty := ty_fw (d3 h6).1
  have ed : dTp K L t = tFo K L false (0, t) := if_neg h6
  have es : sDc K L (kHd K L (Ls.take i) : Int) t = tSlt K L (kHd K L (Ls.take i) : Int) false (0, t) := if_neg h6
  refine ⟨fun v hv => ?_, fun hst v hv => ?_⟩
  · have h0 : 0 ≤ v := by
      have := (fo_wn hty.1 v hv).2.1
      omega
    obtain ⟨s1, s2, -, s3⟩ := slot_ok hh h1 (x := (v, 0, v + 1, -1)) (by
      rw [es]
      unfold tSlt nmS
      exact List.mem_append_left _ (List.mem_map.mpr ⟨v, hv, rfl⟩)) (by show 0 ≤ v + 1; omega)
    rw [ed] at s1 s3
    rw [show hfS K L Ls ((v, 0, v + 1, -1) : Int × Int × Int × Int).2.2.2 = [] from hfS_n] at s1 s3
    exact ⟨h0, s1, s2, s3 rfl⟩
  · have hym : y_m K L false (0, t) = m_s K L := if_pos hst
    have hv2 := hv
    unfold tMe at hv2
    have hq := hty.2.2.1
    rw [hym] at hv2 hq
    have hle := y5_le hty.1
    have h0 : 0 ≤ v := by
      have := (ms_wn 7 _ hq v hv2).2.1
      omega
    obtain ⟨s1, s2, -, -⟩ := slot_ok hh h1 (x := (v, 2, v + 1, -1)) (by
      rw [es]
      unfold tSlt
      rw [if_pos hst]
      unfold nmS
      exact List.mem_append_right _ (List.mem_map.mpr ⟨v, hv, rfl⟩)) (by show 0 ≤ v + 1; omega)
    rw [ed] at s1
    rw [show hfS K L Ls ((v, 2, v + 1, -1) : Int × Int × Int × Int).2.2.2 = [] from hfS_n] at s1
    exact ⟨h0, s1, s2⟩
theorem twH_at : ∀ (l pre : List Int) (j : Nat) (q : Int), l[j]? = some q → (q, anyW W (pre ++ l.take j) q) ∈ twH W K L pre l
  | [], pre, j, q, h => by cases h
  | a :: l, pre, 0, q, h => by
    have e : a = q := by simpa using h
    rw [e, List.take_zero, List.append_nil]
    exact List.mem_cons_self
  | a :: l, pre, j + 1, q, h => by
    have ih := twH_at l (pre ++ [a]) j q h
    rw [List.take_succ_cons, show pre ++ a :: l.take j = pre ++ [a] ++ l.take j by rw [List.append_assoc]; rfl]
    exact List.mem_cons_of_mem _ (List.mem_append_right _ ih)
/-- METHODS of an interface have names of their own -/
theorem me_inj (h : PRm K L W ar kd n lo hi TN Ls) (h1 : Ls[i]? = some t) (h6 : ¬ K t = 6) (hst : ¬ tSt K L false (0, t) = true) {j j' : Nat} {q q' : Int} (hq : (tMe K L false (0, t))[j]? = some q) (hq' : (tMe K L false (0, t))[j']? = some q') (hw : W q = W q') : j = j' := by
  have key : ∀ (a b : Nat) (u v : Int), a < b → (tMe K L false (0, t))[a]? = some u → (tMe K L false (0, t))[b]? = some v → W u = W v → False := by
    intro a b u v hab hu hv hw
    have m1 := twH_at (W := W) (K := K) (L := L) (tMe K L false (0, t)) [] b v hv
    rw [List.nil_append] at m1
    have e1 : anyW W ((tMe K L false (0, t)).take b) v = true := anyW_t.mpr ⟨a, u, by rw [List.getElem?_take_of_lt hab]; exact hu, hw⟩
    rw [e1] at m1
    refine h.2.2.2.2.2.2.2 v ⟨i, t, h1, ?_⟩
    unfold twD twT
    rw [if_neg h6, if_neg hst]
    exact List.mem_cons_of_mem _ (List.mem_append_right _ m1)
  rcases Nat.lt_trichotomy j j' with z | z | z
  · exact (key j j' q q' z hq hq' hw).elim
  · exact z
  · exact (key j' j q' q z hq' hq hw.symm).elim
end YZF
