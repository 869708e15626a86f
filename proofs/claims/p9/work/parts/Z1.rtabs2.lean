/-! ===== the reference's tables are the program's: types, funcs, interfaces ===== -/
section Z1R
variable {K L W ar kd : Int → Int} {n lo hi B b A x y : Int} {TN Ls : List Int} {i j : Nat} {t q c : Int} {s : yS}
theorem PR_ar (h : PRm K L W ar kd n lo hi TN Ls) : (∀ c, 0 ≤ ar c ∧ ar c ≤ 7) ∧ ∀ c, 24 ≤ c → ar c = 0 := h.2.2.2.1
/-- the BOUND of a FORMAL -/
theorem bf_fact (h : PRm K L W ar kd n lo hi TN Ls) (h1 : Ls[i]? = some t) (h6 : ¬ K t = 6) : ((Bfd K L W ar TN Ls (kTy K (Ls.take i) : Int)).length : Int) = ar (kTy K (Ls.take i) : Int) ∧ ∀ M ∈ Bfd K L W ar TN Ls (kTy K (Ls.take i) : Int), cdW (ar (kTy K (Ls.take i) : Int)) 0 M ∧ isR ar 1 M ∧ M.length ≤ 60 ∧ kd (M.headD 0) = 2 ∧ cdT (TN.length : Int) M := by
  have hnT := PR_nT h
  have hT24 := h.2.2.1.1
  obtain ⟨e1, -, -⟩ := tb_ty (W := W) (ar := ar) (TN := TN) (L := L) h1 h6
  have ea := (h.2.2.2.2.1 i t h1 h6).1
  have htp := (tp_fact h h1).1
  rw [show dTp K L t = tFo K L false (0, t) from if_neg h6] at htp
  rw [e1]
  refine ⟨by rw [List.length_map, ea], fun M hM => ?_⟩
  obtain ⟨v, hv, rfl⟩ := List.mem_map.mp hM
  obtain ⟨v0, v1, v2, v3⟩ := (ty_fact h h1 h6).1 v hv
  obtain ⟨o1, o2, o3, o4, o5⟩ := wdC_ok (PR_ar h).1 (Nat.zero_le _) htp (by omega) v1 v2
  rw [ea, o5]
  exact ⟨o3, o1, o2, v3, o4⟩
theorem PG_t (h : PRm K L W ar kd n lo hi TN Ls) (hS : RST K L W ar kd TN Ls n B b A x y s) : PGt ar kd (TN.length : Int) (Bfd K L W ar TN Ls) b A s := by
  have hnT := PR_nT h
  intro c hc0 hc1
  obtain ⟨i, t, h1, h6, rfl⟩ := ty_dc (K := K) (Ls := Ls) hc0 (by rw [hnT] at hc1; exact hc1)
  obtain ⟨b1, b2⟩ := bf_fact h h1 h6
  obtain ⟨-, hA, hD, -⟩ := hS
  obtain ⟨a1, a2⟩ := ((hA i t h1).2 h6).2
  obtain ⟨y1, y2, y3, y4, y5, y6⟩ := a1
  have ek := (h.2.2.2.2.1 i t h1 h6)
  refine ⟨?_, ⟨by rw [y2, ek.1], by rw [ek.1]; omega⟩, b1, b2, fun k hk => ?_⟩
  · rw [y5, ek.2]
    by_cases hst : tSt K L false (0, t) = true
    · rw [if_pos hst, if_pos hst]
      exact Or.inl ⟨rfl, rfl⟩
    · rw [if_neg hst, if_neg hst]
      exact Or.inr ⟨rfl, rfl⟩
  · have hk' : k < (tFo K L false (0, t)).length := by omega
    have hv := List.getElem?_eq_getElem hk'
    have := RSn_e (((hD i t h1).2 h6).1 k _ hv)
    unfold wTy at this
    rw [wdC_map, show 1000 + 6 * (24 * b + (kTy K (Ls.take i) : Int) - 24 * b) = 1000 + 6 * (kTy K (Ls.take i) : Int) by omega] at this
    have e1 := (tb_ty (W := W) (ar := ar) (TN := TN) (L := L) h1 h6).1
    have e2 : (Bfd K L W ar TN Ls (kTy K (Ls.take i) : Int)).getD k [] = wdC K L W ar TN [] (tFo K L false (0, t)) ((tFo K L false (0, t))[k] + 1) := by
      rw [e1, List.getD_eq_getElem?_getD, List.getElem?_map, hv]
      rfl
    rw [e2]
    exact this
theorem PG_f (h : PRm K L W ar kd n lo hi TN Ls) (hS : RST K L W ar kd TN Ls n B b A x y s) : PGf kd (cfO K L W TN Ls) (fsd K L Ls) (kFn K Ls) (kHd K L Ls) (TN.length : Int) (hbd K L Ls) (owd K L W TN Ls) b s := by
  have hnT := PR_nT h
  obtain ⟨-, hA, hD, h252, -⟩ := hS
  refine ⟨h252, fun f hf => ?_⟩
  obtain ⟨i, t, h1, h6, rfl⟩ := fn_dc (K := K) hf
  obtain ⟨e1, e2⟩ := tb_fn (L := L) (W := W) (TN := TN) h1 h6
  obtain ⟨f1, f2, f3⟩ := fn_fact h h1 h6
  have hd0 : (dHd K L t)[0]? = some (f_5 K L false (0, t)).2 := by
    unfold dHd
    rw [if_pos h6]
    rfl
  obtain ⟨-, t2, t3, -⟩ := tb_hd (W := W) (ar := ar) (TN := TN) h1 hd0
  have hlt := kHd_lt h1 hd0
  rw [Nat.add_zero] at t2 t3 hlt
  rw [if_pos h6] at t2 t3
  rw [e1, e2, hnT]
  exact ⟨((hD i t h1).1 h6).2, ((hA i t h1).1 h6).2.2.1, hlt, t2, t3, f1.1, f1.2, f2⟩
theorem PG_i (h : PRm K L W ar kd n lo hi TN Ls) (hS : RST K L W ar kd TN Ls n B b A x y s) : PGi kd (kHd K L Ls) (TN.length : Int) (tmd K L Ls) (tnd K L Ls) (hbd K L Ls) (owd K L W TN Ls) (hwd K L W Ls) b s := by
  have hnT := PR_nT h
  intro c hk
  have hc : 0 ≤ c ∧ c < (kTy K Ls : Int) := by
    have h0 := h.2.2.2.2.2.1
    refine ⟨?_, ?_⟩
    · rcases Int.lt_or_le c 0 with z | z
      · have := h0 c (Or.inl z)
        omega
      · exact z
    · rcases Int.lt_or_le c (kTy K Ls : Int) with z | z
      · exact z
      · have := h0 c (Or.inr z)
        omega
  obtain ⟨i, t, h1, h6, rfl⟩ := ty_dc (K := K) (Ls := Ls) hc.1 hc.2
  have hst : ¬ tSt K L false (0, t) = true := fun z => by
    have := (h.2.2.2.2.1 i t h1 h6).2
    rw [if_pos z] at this
    omega
  have hst' : tSt K L false (0, t) = false := by
    cases hb : tSt K L false (0, t) with
    | false => rfl
    | true => exact absurd hb hst
  obtain ⟨-, e2, e3⟩ := tb_ty (W := W) (ar := ar) (TN := TN) (L := L) h1 h6
  obtain ⟨-, hA, hD, -⟩ := hS
  obtain ⟨a1, a2⟩ := ((hA i t h1).2 h6).2
  have hdd0 : dHd K L t = tMe K L false (0, t) := by
    unfold dHd
    rw [if_neg h6, if_neg hst]
  have at0 : ∀ g : Nat, kHd K L (Ls.take i) ≤ g → g < kHd K L (Ls.take i) + (tMe K L false (0, t)).length → ∃ (j : Nat) (q : Int), g = kHd K L (Ls.take i) + j ∧ (tMe K L false (0, t))[j]? = some q ∧ hbd K L Ls g = 1000 + 6 * (kTy K (Ls.take i) : Int) ∧ owd K L W TN Ls g = (kTy K (Ls.take i) : Int) ∧ hwd K L W Ls g = W q := by
    intro g g1 g2
    have hj : g - kHd K L (Ls.take i) < (tMe K L false (0, t)).length := by omega
    have hq := List.getElem?_eq_getElem hj
    obtain ⟨-, t2, t3, t4⟩ := tb_hd (W := W) (ar := ar) (TN := TN) h1 (by rw [hdd0]; exact hq)
    rw [if_neg h6] at t2 t3
    rw [show kHd K L (Ls.take i) + (g - kHd K L (Ls.take i)) = g by omega] at t2 t3 t4
    exact ⟨g - kHd K L (Ls.take i), _, by omega, hq, t2, t3, t4⟩
  rw [e2, e3]
  refine ⟨by rw [hnT]; exact hc, a1.2.2.2.2.2, (a2.2.2 hst').2.1, ?_, fun g g1 g2 => ?_⟩
  · rcases Nat.eq_zero_or_pos (tMe K L false (0, t)).length with z | z
    · rw [z]
      have e4 : Ls.take i ++ Ls.drop i = Ls := List.take_append_drop i Ls
      have : ∀ l l' : List Int, kHd K L l ≤ kHd K L (l ++ l') := fun l l' => by
        induction l with
        | nil => exact Nat.zero_le _
        | cons a l ih =>
          show (if K a = 6 then 1 else tNh K L false (0, a)) + kHd K L l ≤ (if K a = 6 then 1 else tNh K L false (0, a)) + kHd K L (l ++ l')
          omega
      have := this (Ls.take i) (Ls.drop i)
      rw [e4] at this
      exact this
    · have hq := List.getElem?_eq_getElem (show (tMe K L false (0, t)).length - 1 < (tMe K L false (0, t)).length by omega)
      have := kHd_lt h1 (by rw [hdd0]; exact hq)
      omega
  · obtain ⟨j, q, j1, j2, j3, j4, j5⟩ := at0 g g1 g2
    refine ⟨j3, j4, fun g' g1' g2' hw => ?_⟩
    obtain ⟨j', q', k1, k2, k3, k4, k5⟩ := at0 g' g1' g2'
    rw [j5, k5] at hw
    have := me_inj h h1 h6 hst j2 k2 hw
    omega
theorem hH_204 (h : PRm K L W ar kd n lo hi TN Ls) (hS : RST K L W ar kd TN Ls n B b A x y s) : kHd K L Ls ≤ 204 := by
  have h1 := h.2.2.1
  have h2 := kHd_le (K := K) (L := L) Ls (fun t ht h6 => by
    obtain ⟨i, hi⟩ := List.getElem?_of_mem ht
    exact ((hS.2.1 i t hi).2 h6).2.2.1)
  omega
theorem PG_of (h : PRm K L W ar kd n lo hi TN Ls) (hS : RST K L W ar kd TN Ls n B b A x y s) : PGr ar kd (cfO K L W TN Ls) (fsd K L Ls) (kFn K Ls) (kHd K L Ls) (TN.length : Int) (tmd K L Ls) (tnd K L Ls) (hdd K L W ar TN Ls) (hbd K L Ls) (owd K L W TN Ls) (hwd K L W Ls) (Bfd K L W ar TN Ls) b A s := by
  have hnT := PR_nT h
  have h1 := h.2.2.1
  have h3 := hH_204 h hS
  exact ⟨⟨hS.1.1, hS.2.2.2.2.2.2, hS.2.2.2.2.2.1.1, h3, h1.2, by omega⟩, PG_t h hS, PG_f h hS, PG_i h hS, PG_h h hS h3, hS.2.2.2.2.1, PR_ar h⟩
/-- the scope of a HEAD, of a type's own slots -/
theorem SP_hd (h : PRm K L W ar kd n lo hi TN Ls) (hH : kHd K L Ls ≤ 204) (h1 : Ls[i]? = some t) (h2 : (dHd K L t)[j]? = some q) {bn : Int → List Int} (hb1 : ∀ k : Nat, (k : Int) < ((dTp K L t).length : Int) → bn (24 + (k : Int)) = (Bfd K L W ar TN Ls (owd K L W TN Ls (kHd K L (Ls.take i) + j))).getD k []) (hb2 : ∀ k : Nat, k < (h_f K L (0, q + 1)).length → bn (30 + (k : Int)) = (hdd K L W ar TN Ls (kHd K L (Ls.take i) + j)).2.2.getD k []) : SPe ar (cfO K L W TN Ls) (kFn K Ls) (kHd K L Ls) (TN.length : Int) (hdd K L W ar TN Ls) (hbd K L Ls) (owd K L W TN Ls) (Bfd K L W ar TN Ls) (hbd K L Ls (kHd K L (Ls.take i) + j)) (2000 + 6 * ((kHd K L (Ls.take i) + j : Nat) : Int)) ((dTp K L t).length : Int) ((h_f K L (0, q + 1)).length : Int) bn := by
  have hnT := PR_nT h
  have h24 := h.2.2.1
  obtain ⟨t1, t2, t3, t4⟩ := tb_hd (W := W) (ar := ar) (TN := TN) h1 h2
  obtain ⟨tp6, tpa⟩ := tp_fact h h1
  have how : ar (owd K L W TN Ls (kHd K L (Ls.take i) + j)) = ((dTp K L t).length : Int) := by rw [t3, tpa]
  have hlt := kHd_lt h1 h2
  refine ⟨?_, Or.inr ⟨owd K L W TN Ls (kHd K L (Ls.take i) + j), ?_, how.symm, fun k hk => hb1 k (by rw [how] at hk; exact hk), ?_⟩, Or.inr ⟨kHd K L (Ls.take i) + j, hlt, by rw [t1], rfl, rfl, how, fun k hk => hb2 k (by rw [t1] at hk; exact hk)⟩⟩
  · rw [t2]
    unfold bOK
    by_cases h6 : K t = 6
    · rw [if_pos h6]
      have := kFn_lt h1 h6
      omega
    · rw [if_neg h6]
      have := kTy_lt h1 h6
      omega
  · rw [t3, hnT]
    by_cases h6 : K t = 6
    · rw [if_pos h6]
      exact (fn_fact h h1 h6).1
    · rw [if_neg h6]
      have := kTy_lt h1 h6
      omega
  · rw [t2, t3]
    by_cases h6 : K t = 6
    · rw [if_pos h6, if_pos h6]
      exact Or.inr ⟨kFn K (Ls.take i), kFn_lt h1 h6, (tb_fn (L := L) (W := W) (TN := TN) h1 h6).2, rfl⟩
    · rw [if_neg h6, if_neg h6]
      exact Or.inl rfl
theorem SP_ty (h : PRm K L W ar kd n lo hi TN Ls) (h1 : Ls[i]? = some t) (h6 : ¬ K t = 6) {bn : Int → List Int} (hb1 : ∀ k : Nat, (k : Int) < ((tFo K L false (0, t)).length : Int) → bn (24 + (k : Int)) = (Bfd K L W ar TN Ls (kTy K (Ls.take i) : Int)).getD k []) : SPe ar (cfO K L W TN Ls) (kFn K Ls) (kHd K L Ls) (TN.length : Int) (hdd K L W ar TN Ls) (hbd K L Ls) (owd K L W TN Ls) (Bfd K L W ar TN Ls) (1000 + 6 * (kTy K (Ls.take i) : Int)) 2000 ((tFo K L false (0, t)).length : Int) 0 bn := by
  have hnT := PR_nT h
  have h24 := h.2.2.1
  have hl := kTy_lt h1 h6
  have ea := (h.2.2.2.2.1 i t h1 h6).1
  refine ⟨?_, Or.inr ⟨(kTy K (Ls.take i) : Int), by omega, ea.symm, fun k hk => hb1 k (by rw [ea] at hk; exact hk), Or.inl rfl⟩, Or.inl rfl⟩
  unfold bOK
  omega
end Z1R
