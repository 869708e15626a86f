/-! ===== the reference's tables are the program's ===== -/
/-- the reference's state behind the telling -/
def RST (K L W ar kd : Int → Int) (TN Ls : List Int) (n B b A x y : Int) (s : yS) : Prop := RBh K L W ar kd n B b s TN ∧ ALr K L B s b (204 * b) x y Ls ∧ (∀ (i : Nat) (t : Int), Ls[i]? = some t → RDc K L W ar TN B b Ls s A i t) ∧ (s.2.1 252 b.toNat).toInt = (kFn K Ls : Int) ∧ RWel s 0 [40000, 40008, 40016, 40024, 40032, 40040] ∧ (10 ≤ A ∧ 10 + 4100 * (B / 4002) ≤ A) ∧ 0 ≤ b
section Z0R
variable {K L W ar kd : Int → Int} {n lo hi B b A x y : Int} {TN Ls : List Int} {i j : Nat} {t q c : Int} {s : yS} {w : Nat → Int → List Int}
theorem RSn_w {z : Int} (h : RSn K L B w s A z t) : ∃ z', yRw K L B s w A 10 z z' t := by
  obtain ⟨z', h1, h2, h3, -⟩ := h
  exact ⟨z', h2, h3⟩
theorem RSn_e {z : Int} (h : RSn K L B w s A z t) : RSe s A z (w 10 t) := by
  obtain ⟨z', h1⟩ := RSn_w h
  exact (yRw_xm h1).2.2
theorem wdC_map {hf tp : List Int} {b0 b1 : Int} : wdT K L (cdOf W hf tp TN) ar b0 b1 10 t = (wdC K L W ar TN hf tp t).map (rhE ar b0 b1) := by
  unfold wdC wdT
  rw [List.map_map]
  rfl
/-- a HEAD's rows -/
theorem hr_at (hS : RST K L W ar kd TN Ls n B b A x y s) (h1 : Ls[i]? = some t) (h2 : (dHd K L t)[j]? = some q) : HDr K L B s (204 * b + ((kHd K L (Ls.take i) + j : Nat) : Int)) x y q ∧ RHD K L B (wHd K L W ar TN (dTp K L t) (hbd K L Ls (kHd K L (Ls.take i) + j)) b (204 * b + ((kHd K L (Ls.take i) + j : Nat) : Int)) q) s A (204 * b + ((kHd K L (Ls.take i) + j : Nat) : Int)) q := by
  obtain ⟨-, hA, hD, -⟩ := hS
  have hb := (tb_hd (W := W) (ar := ar) (TN := TN) h1 h2).2.1
  obtain ⟨a1, a2⟩ := hA i t h1
  obtain ⟨d1, d2⟩ := hD i t h1
  rw [hb]
  unfold dHd at h2
  unfold dTp
  by_cases h6 : K t = 6
  · rw [if_pos h6] at h2 ⊢
    rw [if_pos h6]
    have hj : j = 0 := by
      have := (List.getElem?_eq_some_iff.mp h2).1
      simp only [List.length_cons, List.length_nil] at this
      omega
    subst hj
    have e : (f_5 K L false (0, t)).2 = q := by simpa using h2
    rw [show ((kHd K L (Ls.take i) + 0 : Nat) : Int) = (kHd K L (Ls.take i) : Int) by omega, ← e]
    exact ⟨(a1 h6).2.2.2.1, (d1 h6).1⟩
  · rw [if_neg h6] at h2 ⊢
    rw [if_neg h6]
    by_cases hst : tSt K L false (0, t) = true
    · rw [if_pos hst] at h2
      cases h2
    · rw [if_neg hst] at h2
      have hst' : tSt K L false (0, t) = false := by
        cases hb : tSt K L false (0, t) with
        | false => rfl
        | true => exact absurd hb hst
      have m1 := ((a2 h6).2.2.2.2 hst').2.2 j q h2
      have m2 := (d2 h6).2.2 hst' j q h2
      rw [show 204 * b + ((kHd K L (Ls.take i) + j : Nat) : Int) = 204 * b + (kHd K L (Ls.take i) : Int) + (j : Int) by omega]
      rw [show 1000 + 6 * (24 * b + (kTy K (Ls.take i) : Int) - 24 * b) = 1000 + 6 * (kTy K (Ls.take i) : Int) by omega] at m2
      exact ⟨m1, m2⟩
set_option maxHeartbeats 4000000 in
theorem PG_h (h : PRm K L W ar kd n lo hi TN Ls) (hS : RST K L W ar kd TN Ls n B b A x y s) (hH : kHd K L Ls ≤ 204) : PGh ar kd (kHd K L Ls) (TN.length : Int) (hdd K L W ar TN Ls) (hbd K L Ls) (owd K L W TN Ls) (hwd K L W Ls) b A s := by
  have hnT := PR_nT h
  have hT24 := h.2.2.1
  have ha := h.2.2.2.1.1
  have wq : ∀ {h : Nat} {i j : Nat} {t q : Int}, h = kHd K L (Ls.take i) + j → Ls[i]? = some t → (dHd K L t)[j]? = some q → wHr b s h = (s.2.1 217 (B + q).toNat).toInt := fun {h i j t q} e h1 h2 => by
    have := (hr_at hS h1 h2).1.1.1
    rw [← e] at this
    unfold wHr
    rw [this]
  intro g hg
  obtain ⟨i, j, t, q, h1, h2, e⟩ := hd_dc hg
  obtain ⟨⟨p1, p2⟩, ⟨l1, l2⟩, n1, n2, hf, hx⟩ := hd_fact h h1 h2
  obtain ⟨t1, t2, t3, t4⟩ := tb_hd (W := W) (ar := ar) (TN := TN) h1 h2
  obtain ⟨r1, r2⟩ := hr_at hS h1 h2
  obtain ⟨tp6, tpa⟩ := tp_fact h h1
  rw [← e] at t1 t2 t3 t4 r1 r2 hx
  have how : ar (owd K L W TN Ls g) = ((dTp K L t).length : Int) := by rw [t3, tpa]
  have hok : ∀ z ∈ hSlt K L (g : Int) (0, q + 1), isR ar 1 (wdC K L W ar TN (h_f K L (0, q + 1)) (dTp K L t) z.2.2.1) ∧ (wdC K L W ar TN (h_f K L (0, q + 1)) (dTp K L t) z.2.2.1).length ≤ 60 ∧ cdW ((dTp K L t).length : Int) ((h_f K L (0, q + 1)).length : Int) (wdC K L W ar TN (h_f K L (0, q + 1)) (dTp K L t) z.2.2.1) ∧ cdT (TN.length : Int) (wdC K L W ar TN (h_f K L (0, q + 1)) (dTp K L t) z.2.2.1) ∧ (wdC K L W ar TN (h_f K L (0, q + 1)) (dTp K L t) z.2.2.1).headD 0 = cdOf W (h_f K L (0, q + 1)) (dTp K L t) TN z.2.2.1 := fun z hz => by
    obtain ⟨-, -, z3, z4, -⟩ := hx z hz
    exact wdC_ok ha l1 tp6 (by omega) z3 z4
  have hmem : ∀ M ∈ (hdd K L W ar TN Ls g).2.2, ∃ z ∈ hSlt K L (g : Int) (0, q + 1), M = wdC K L W ar TN (h_f K L (0, q + 1)) (dTp K L t) z.2.2.1 := fun M hM => by
    rw [t1] at hM
    obtain ⟨z, hz, rfl⟩ := List.mem_map.mp hM
    exact ⟨z, hz, rfl⟩
  have hgd : ∀ (k : Nat) (z : Int × Int × Int × Int), (hSlt K L (g : Int) (0, q + 1))[k]? = some z → (hdd K L W ar TN Ls g).2.2.getD k [] = wdC K L W ar TN (h_f K L (0, q + 1)) (dTp K L t) z.2.2.1 := fun k z hz => by
    rw [t1, List.getD_eq_getElem?_getD, List.getElem?_map, hz]
    rfl
  obtain ⟨s1, s2, s3⟩ := hSlt_at (K := K) (L := L) (q := q) (h := (g : Int))
  have ew : ∀ {z : Int}, wHd K L W ar TN (dTp K L t) (hbd K L Ls g) b (204 * b + (g : Int)) q 10 z = (wdC K L W ar TN (h_f K L (0, q + 1)) (dTp K L t) z).map (rhE ar (hbd K L Ls g) (2000 + 6 * (g : Int))) := fun {z} => by
    unfold wHd
    rw [wdC_map, show 204 * b + (g : Int) - 204 * b = (g : Int) by omega]
  refine ⟨⟨⟨?_, ?_⟩, ⟨?_, ?_, ?_⟩, fun M hM => ?_, fun k hk => ?_, fun k hk => ?_, ?_⟩, ?_, ⟨?_, fun M hM => ?_, fun k hk => ?_⟩, fun g' hg' => ?_⟩
  · rw [t1]
    exact r1.1.2.1
  · rw [t1]
    exact r1.2.1.1
  · rw [t1]
    exact l1
  · rw [t1]
    exact l2
  · rw [t1]
    show ((hSlt K L (g : Int) (0, q + 1)).map _).length = _
    rw [List.length_map, hSlt_len]
  · obtain ⟨z, hz, rfl⟩ := hmem M hM
    obtain ⟨o1, o2, o3, -⟩ := hok z hz
    rw [t1, how]
    exact ⟨o3, o1, o2⟩
  · rw [t1] at hk
    have hk' : k < (h_f K L (0, q + 1)).length := hk
    have hv := List.getElem?_eq_getElem hk'
    rw [hgd k _ (s1 k _ hv)]
    have := RSn_e (r2.1 k _ hv)
    rw [ew] at this
    exact this
  · rw [t1] at hk
    have hk' : k < (h_v K L (0, q + 1)).length := hk
    have hv := List.getElem?_eq_getElem hk'
    have e1 : (hdd K L W ar TN Ls g).1 = (h_f K L (0, q + 1)).length := by rw [t1]
    rw [e1, hgd _ _ (s2 k _ hv)]
    have := RSn_e (r2.2.1 k _ hv)
    rw [ew] at this
    exact this
  · have e1 : (hdd K L W ar TN Ls g).1 = (h_f K L (0, q + 1)).length := by rw [t1]
    have e2 : (hdd K L W ar TN Ls g).2.1 = (h_v K L (0, q + 1)).length := by rw [t1]
    rw [e1, e2, hgd _ _ s3]
    have := RSn_e r2.2.2
    rw [ew] at this
    exact this
  · rw [t2]
    unfold bOK
    by_cases h6 : K t = 6
    · rw [if_pos h6]
      have := kFn_lt h1 h6
      omega
    · rw [if_neg h6]
      have := kTy_lt h1 h6
      omega
  · rw [t3, hnT]
    by_cases h6 : K t = 6
    · rw [if_pos h6]
      exact (fn_fact h h1 h6).1
    · rw [if_neg h6]
      have := kTy_lt h1 h6
      omega
  · obtain ⟨z, hz, rfl⟩ := hmem M hM
    exact (hok z hz).2.2.2.1
  · rw [t1] at hk
    have hk' : k < (h_f K L (0, q + 1)).length := hk
    have hv := List.getElem?_eq_getElem hk'
    have hz := s1 k _ hv
    rw [hgd k _ hz, (hok _ (List.mem_of_getElem? hz)).2.2.2.2]
    exact (hx _ (List.mem_of_getElem? hz)).2.2.2.2 rfl
  · obtain ⟨i', j', t', q', h1', h2', e'⟩ := hd_dc hg'
    have w1 := wq e h1 h2
    have w2 := wq e' h1' h2'
    have t4' := (tb_hd (W := W) (ar := ar) (TN := TN) h1' h2').2.2.2
    rw [← e'] at t4'
    have p2' := (hd_fact h h1' h2').1.2
    rw [w1, w2, t4, t4']
    exact (hS.1.2.1 q q' p2.1 p2.2.1 p2'.1 p2'.2.1 p2.2.2 p2'.2.2).symm
end Z0R
