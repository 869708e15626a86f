/-! ===== the class: enterFunc ===== -/
section ZZEN
variable {K L W ar kd : Int → Int} {TN Ls : List Int} {n lo hi k0 t : Int} {d P i : Nat} {s u w : zS} {a1 : Int32}
theorem lmb_lt {f : Bool → RSt → RSt} (hg : ∀ σ, ¬ (f true σ).1 = 0) : ∀ (k : Nat) (σ : RSt), (p_mb K f (k + 1) σ).1 = 0 → (l_mb K f (k + 1) σ).length ≤ k
  | 0, σ, h => by
    rw [pmb_s] at h
    rw [lmb_s]
    by_cases c : σ.1 = 0 ∧ ¬ K σ.2 = 125
    · rw [if_pos c] at h
      exact absurd h (hg σ)
    · rw [if_neg c]
      exact Nat.le_refl _
  | k + 1, σ, h => by
    rw [pmb_s] at h
    rw [lmb_s]
    by_cases c : σ.1 = 0 ∧ ¬ K σ.2 = 125
    · rw [if_pos c] at h ⊢
      have := lmb_lt hg k _ h
      rw [List.length_cons]
      omega
    · rw [if_neg c]
      exact Nat.zero_le _
theorem m_st {σ : RSt} : ¬ (m_s K L true σ).1 = 0 ∧ ¬ (m_i K L true σ).1 = 0 := by
  have key : ∀ (τ : RSt) (c : Int), (e_k K L c τ).1 = 0 → τ.1 = 0 := fun τ c h => by
    by_cases q : τ.1 = 0
    · exact q
    · rw [ek_f q] at h
      exact h
  refine ⟨fun h => ?_, fun h => ?_⟩
  · have h1 : (n_f K L true σ).1 = 0 := key _ _ h
    exact ef_t (pt_fw 10 false _ h1).1
  · have h1 : (p_hd K L (e_f K L true σ)).1 = 0 := key _ _ h
    exact ef_t (hd_fw h1).1
theorem kHd_204 (h : PRm K L W ar kd n lo hi TN Ls) : kHd K L Ls ≤ 204 := by
  have h1 := h.2.2.1
  have h2 := kHd_le (K := K) (L := L) Ls (fun t ht h6 => by
    obtain ⟨i, hi'⟩ := List.getElem?_of_mem ht
    obtain ⟨d1, d2, d3⟩ := dcC_at Ls i t lo hi h.1.2.1 hi'
    have q := (ty_fw (d3 h6).1).2.2.1
    refine lmb_lt (fun σ => ?_) 6 _ q
    unfold y_m
    split
    · exact m_st.1
    · exact m_st.2)
  omega
/-- the tables stay where cells of code, envs, scratch, and where a func's code begins, are written -/
theorem CSz_g (hP : P = 3 ∨ P = 39) (hr : ∀ r : Nat, ((0 < r ∧ r < 18) ∨ (20 < r ∧ r < 34 ∧ ¬ r = 26)) → w.2 (P + r) = u.2 (P + r)) (h26 : ∀ j : Nat, ¬ j % 10 = 8 → w.2 (P + 26) j = u.2 (P + 26) j) (h18 : ∀ j : Nat, ((j : Int) < 18 ∨ (18738 ≤ (j : Int) ∧ (j : Int) < k0)) → w.2 (P + 18) j = u.2 (P + 18) j) (h20 : ∀ j : Nat, (j : Int) < k0 - 18738 → w.2 (P + 20) j = u.2 (P + 20) j) (hz : ∀ b : Nat, b = P + 24 ∨ b = P + 26 ∨ b = P + 32 → w.1 b 2 = u.1 b 2) (C : CSz K L W ar kd TN Ls n k0 P u) : CSz K L W ar kd TN Ls n k0 P w := by
  obtain ⟨⟨⟨d1, d2, d3, d4⟩, d5, d6, d7⟩, c2, c3, c4, ⟨c5, c5'⟩, c6, c7, c8⟩ := C
  have et : ∀ i c, tyc w P i c = tyc u P i c := fun i c => by
    unfold tyc
    rw [hr 24 (by decide)]
  have eg : ∀ i c, sgc w P i c = sgc u P i c := fun i c => by
    unfold sgc
    rw [hr 28 (by decide)]
  have ef : ∀ (i : Nat) (c : Int), 0 ≤ c ∧ c < 10 ∧ ¬ c = 8 → fnc w P (i : Int) c = fnc u P (i : Int) c := fun i c hc => by
    unfold fnc
    rw [KI_p (by omega), KI_p (by omega), h26 _ (by omega)]
  have es : ∀ i c, slc w P i c = slc u P i c := fun i c => by
    unfold slc
    rw [hr 30 (by decide)]
  have ed : ∀ i c, dcl w P i c = dcl u P i c := fun i c => by
    unfold dcl
    rw [hr 32 (by decide)]
  have ez : ∀ b : Nat, b = P + 24 ∨ b = P + 26 ∨ b = P + 32 → zsz w b = zsz u b := fun b hb => by
    unfold zsz
    rw [hz b hb]
  refine ⟨⟨⟨by rw [hr 4 (by decide)]; exact d1, by rw [hr 6 (by decide)]; exact d2, by rw [hr 10 (by decide)]; exact d3, by rw [hr 22 (by decide)]; exact d4⟩, ?_, ?_, KDz_r (hr 24 (by decide)) d7⟩, fun i hi => ?_, ⟨fun f hf => ?_, fun c h0 h1 => ?_⟩, fun i q hq => ?_, ⟨fun i q v hi h1 h2 => ?_, c5'⟩, fun i t h1 => ⟨⟨fun h6 => ?_, fun h6 => ?_⟩, fun j q h2 => ?_⟩, by rw [ez _ (by omega), ez _ (by omega), ez _ (by omega)]; exact c7, c8⟩
  · unfold SMz okT eqT zpl zln at *
    rw [hr 2 (by decide), hr 6 (by decide), hr 8 (by decide)]
    exact d5
  · unfold TNz at d6 ⊢
    rw [ez _ (by omega)]
    refine ⟨d6.1, d6.2.1, fun i v hv => ?_⟩
    rw [et]
    exact d6.2.2 i v hv
  · rw [← c2 i hi, KI_n, KI_n, h18 i (Or.inl (by omega))]
  · rw [ef f 2 (by decide), ef f 9 (by decide)]
    exact c3.1 f hf
  · rw [et]
    exact c3.2 c h0 h1
  · rw [es, es, es, es]
    exact c4 i q hq
  · rw [es]
    obtain ⟨w1, w2⟩ := c5 i q v hi h1 h2
    refine ⟨w1, fun h0 => ?_⟩
    obtain ⟨v1, v2, v3, v4⟩ := w2 h0
    refine ⟨v1, v2, fun j c hc => ?_, fun j c hc => ?_⟩
    · have hj := (List.getElem?_eq_some_iff.mp hc).1
      rw [List.length_map] at hj
      rw [← v3 j c hc, KI_p (by omega), KI_p (by omega), h18 _ (Or.inr (by omega))]
    · have hj := (List.getElem?_eq_some_iff.mp hc).1
      rw [List.length_map] at hj
      rw [← v4 j c hc, KI_p (by omega), KI_p (by omega), h20 _ (by omega)]
  · rw [ed, ed, ed, ef _ 0 (by decide), ef _ 1 (by decide), ef _ 3 (by decide), ef _ 4 (by decide), ef _ 5 (by decide), ef _ 6 (by decide), ef _ 7 (by decide)]
    exact (c6 i t h1).1.1 h6
  · rw [ed, ed, ed, et, et, et, et]
    exact (c6 i t h1).1.2 h6
  · obtain ⟨j0, g1, g2⟩ := (c6 i t h1).2 j q h2
    refine ⟨j0, ?_, g2⟩
    rw [eg, eg, eg, eg, eg]
    exact g1
/-- the TYPES of a func's VARS -/
theorem VTy_fn (h : PRm K L W ar kd n lo hi TN Ls) (h1 : Ls[i]? = some t) (h6 : K t = 6) : VTy ar (TN.length : Int) (fnS K L W ar TN Ls i t) := by
  have hnT := PR_nT h
  obtain ⟨ha, h24⟩ := PR_ar h
  have hc24 := h.2.2.1
  obtain ⟨f1, f2, f3⟩ := fn_fact h h1 h6
  have tp6 := (tp_fact h h1).1
  have ed : dTp K L t = fPa K L false (0, t) := if_pos h6
  rw [ed] at tp6
  intro A hA
  have hA : A ∈ (fcd K L W TN t :: (List.range (fPa K L false (0, t)).length).map (fun k : Nat => 24 + (k : Int))) :: (h_v K L (0, (f_5 K L false (0, t)).2 + 1)).map (fun v => wdC K L W ar TN (h_f K L (0, (f_5 K L false (0, t)).2 + 1)) (fPa K L false (0, t)) (v + 1)) := hA
  show isR ar 1 A ∧ (A.length ≤ 60 ∧ cdT (TN.length : Int) A) ∧ cdW ((fPa K L false (0, t)).length : Int) ((h_f K L (0, (f_5 K L false (0, t)).2 + 1)).length : Int) A
  rcases List.mem_cons.mp hA with rfl | hA
  · refine ⟨?_, ⟨?_, fun c hc hc24 => ?_⟩, fun c hc => ?_⟩
    · have := isR_cfl (ar := ar) (c := fcd K L W TN t) (Z := (List.range (fPa K L false (0, t)).length).map (fun k : Nat => [24 + (k : Int)])) (by rw [List.length_map, List.length_range]; exact f3) (fun x hx => by
        obtain ⟨k, -, rfl⟩ := List.mem_map.mp hx
        have := h24 (24 + (k : Int)) (by omega)
        refine ⟨by decide, by omega, ?_⟩
        show (1 : Int) + ar (24 + (k : Int)) - 1 = 0
        omega)
      have e : ((List.range (fPa K L false (0, t)).length).map (fun k : Nat => [24 + (k : Int)])).flatten = (List.range (fPa K L false (0, t)).length).map (fun k : Nat => 24 + (k : Int)) := by
        rw [← List.flatMap_def]
        induction (List.range (fPa K L false (0, t)).length) with
        | nil => rfl
        | cons a l ih => rw [List.flatMap_cons, List.map_cons, ih]; rfl
      rw [e] at this
      exact this
    · rw [List.length_cons, List.length_map, List.length_range]
      omega
    · rcases List.mem_cons.mp hc with rfl | hc
      · omega
      · obtain ⟨k, -, rfl⟩ := List.mem_map.mp hc
        omega
    · rcases List.mem_cons.mp hc with rfl | hc
      · exact ⟨f1.1, by omega, fun z => by omega, fun z => by omega⟩
      · obtain ⟨k, hk, rfl⟩ := List.mem_map.mp hc
        have := List.mem_range.mp hk
        exact ⟨by omega, by omega, fun _ _ => by omega, fun z => by omega⟩
  · obtain ⟨v, hv, rfl⟩ := List.mem_map.mp hA
    obtain ⟨k, hk⟩ := List.getElem?_of_mem hv
    have hd0 : (dHd K L t)[0]? = some (f_5 K L false (0, t)).2 := by
      unfold dHd
      rw [if_pos h6]
      rfl
    obtain ⟨-, ⟨l1, l2⟩, -, -, -, hx⟩ := hd_fact h h1 hd0
    have hz := (hSlt_at (K := K) (L := L) (q := (f_5 K L false (0, t)).2) (h := ((kHd K L (Ls.take i) + 0 : Nat) : Int))).2.1 k v hk
    obtain ⟨-, -, z3, z4, -⟩ := hx _ (List.mem_of_getElem? hz)
    rw [ed] at z3
    obtain ⟨o1, o2, o3, o4, -⟩ := wdC_ok (K := K) (L := L) (W := W) ha l1 tp6 (by omega) z3 z4
    exact ⟨o1, ⟨o2, o4⟩, o3⟩
end ZZEN
