/-! ===== the class: heldBy, findHoldingItself ===== -/
section ZBC
variable {K L W ar kd : Int → Int} {n lo hi k0 : Int} {TN Ls : List Int} {P d : Nat} {s u : zS} {a1 : Int32} {a c : Nat}
theorem eg5_b (h : PRm K L W ar kd n lo hi TN Ls) (he : eg5 K L W kd TN Ls a c) : a < kTy K Ls ∧ c < kTy K Ls := by
  obtain ⟨i, t, h1, h6, rfl, -, v, -, -, hk⟩ := he
  refine ⟨kTy_lt h1 h6, ?_⟩
  have h0 := h.2.2.2.2.2.1
  rcases Int.lt_or_le (c : Int) (kTy K Ls : Int) with z | z
  · omega
  · have := h0 _ (Or.inr z)
    omega
theorem ty_one {i i' : Nat} {t t' : Int} (h1 : Ls[i]? = some t) (h6 : ¬ K t = 6) (h1' : Ls[i']? = some t') (h6' : ¬ K t' = 6) (e : kTy K (Ls.take i) = kTy K (Ls.take i')) : t = t' := by
  have e1 := tyL_at Ls i t h1 h6
  have e2 := tyL_at Ls i' t' h1' h6'
  rw [e, e2] at e1
  exact (Option.some.inj e1).symm
set_option maxHeartbeats 1000000 in
/-- heldBy -/
theorem zs_137 (hP : P = 3 ∨ P = 39) (h : PRm K L W ar kd n lo hi TN Ls) (C : CSz K L W ar kd TN Ls n k0 P u) (ha : a1.toInt = (a : Int)) (hlt : a < kTy K Ls) : Zt (d + 9) (wd P 137) 137 [.ref 83, .int a1] u (fun v s' => s' = u ∧ ∃ r : Int32, v = some (.int r) ∧ ∀ c : Nat, c < 32 → (r.toBitVec.getLsbD c = true ↔ eg5 K L W kd TN Ls a c)) := by
  have h24 := h.2.2.1.1
  obtain ⟨i, t, h1, h6, e0⟩ := ty_dc (K := K) (Ls := Ls) (c := (a : Int)) (by omega) (by omega)
  have ea : a = kTy K (Ls.take i) := by omega
  obtain ⟨-, -, e2, e3, e4⟩ := (C.2.2.2.2.2.1 i t h1).1.2 h6
  rw [← ea] at e2 e3 e4
  have ek := (h.2.2.2.2.1 i t h1 h6).2
  rw [← ea] at ek
  have hnT := PR_nT h
  have zs := (zInf_k (kd := kd) C.1.2.2.1 C.1.2.2.2 (x := a1) (by omega)).2
  rw [ha, ek] at zs
  have hme := me_le (K := K) (L := L) (t := t)
  have main : ∀ cnt : Nat, cnt ≤ 7 → (¬ tSt K L false (0, t) = true → cnt = 0) → (tSt K L false (0, t) = true → cnt = (tMe K L false (0, t)).length) → ∀ t0 : Int32, t0.toInt = (cnt : Int) → v_137_14 (fun j => Zt (d + 8) (wd P j) j) P a1 0 t0 u (fun v s' => s' = u ∧ ∃ r : Int32, v = some (.int r) ∧ ∀ c : Nat, c < 32 → (r.toBitVec.getLsbD c = true ↔ eg5 K L W kd TN Ls a c)) := by
    intro cnt hc7 hc0 hc1 t0 ht0
    unfold v_137_14
    refine ⟨fun b1 b2 b3 b4 w => b1 = a1 ∧ b3 = t0 ∧ w = u ∧ ∃ idx : Nat, idx ≤ cnt ∧ b4.toInt = (idx : Int) ∧ ∀ c : Nat, c < 32 → (b2.toBitVec.getLsbD c = true ↔ ∃ (k : Nat) (v : Int), k < idx ∧ (tMe K L false (0, t))[k]? = some v ∧ cdOf W [] (tFo K L false (0, t)) TN (v + 1) = (c : Int) ∧ kd (c : Int) = 1), fun _ _ _ b4 _ => (100 - b4.toInt).toNat, ⟨rfl, rfl, rfl, 0, Nat.zero_le _, by decide, fun c hc => ?_⟩, ?_⟩
    · rw [tb_0]
      exact ⟨fun q => absurd q (by decide), fun ⟨k, v, q, _⟩ => absurd q (Nat.not_lt_zero _)⟩
    rintro b1 b2 b3 b4 w ⟨rfl, rfl, rfl, idx, i1, i2, i3⟩
    unfold v_137_17
    refine ⟨fun y => ⟨rfl, b2, rfl, fun c hc => ?_⟩, fun y x2 hx2 => ?_⟩
    · have ei : idx = cnt := by omega
      rw [i3 c hc]
      refine ⟨fun ⟨k, v, q1, q2, q3, q4⟩ => ?_, fun ⟨i', t', q1, q2, q3, q4, v, q5, q6, q7⟩ => ?_⟩
      · have hst : tSt K L false (0, t) = true := by
          by_cases z : tSt K L false (0, t) = true
          · exact z
          · have := hc0 z
            omega
        exact ⟨i, t, h1, h6, ea, hst, v, List.mem_of_getElem? q2, q3, q4⟩
      · have et : t = t' := ty_one h1 h6 q1 q2 (by omega)
        subst et
        obtain ⟨k, hk⟩ := List.getElem?_of_mem q5
        refine ⟨k, v, ?_, hk, q6, q7⟩
        have := (List.getElem?_eq_some_iff.mp hk).1
        rw [ei, hc1 q4]
        exact this
    · have hst : tSt K L false (0, t) = true := by
        by_cases z : tSt K L false (0, t) = true
        · exact z
        · have := hc0 z
          omega
      have hcl := hc1 hst
      rw [if_pos hst] at e3
      have hk : idx < (tMe K L false (0, t)).length := by omega
      have hv := List.getElem?_eq_getElem hk
      have es : (sDc K L (kHd K L (Ls.take i) : Int) t)[(tFo K L false (0, t)).length + idx]? = some ((tMe K L false (0, t))[idx], (2 : Int), (tMe K L false (0, t))[idx] + 1, (-1 : Int)) := by
        unfold sDc
        rw [if_neg h6]
        unfold tSlt
        rw [if_pos hst, app_at nmS_len]
        exact nmS_at hv
      obtain ⟨v0, v1, v2⟩ := (ty_fact h h1 h6).2 hst _ (List.mem_of_getElem? hv)
      obtain ⟨⟨sl0, -⟩, -, sl6⟩ := cz_sl C h1 es
      have hl4 := C.2.2.2.2.2.2.2.1
      obtain ⟨⟨y5, y6⟩, y7, -⟩ := sl6 (by show 0 ≤ (tMe K L false (0, t))[idx] + 1; omega)
      have ed : dTp K L t = tFo K L false (0, t) := if_neg h6
      rw [show hfS K L Ls (((tMe K L false (0, t))[idx], (2 : Int), (tMe K L false (0, t))[idx] + 1, (-1 : Int)) : Int × Int × Int × Int).2.2.2 = [] from hfS_n, ed] at y6 y7
      have htp := (tp_fact h h1).1
      rw [ed] at htp
      obtain ⟨r1, r2, r3, r4, r5⟩ := wdC_ok (PR_ar h).1 (Nat.zero_le _) htp (by omega) v1 v2
      obtain ⟨c0, l0, ew⟩ : ∃ c0 l0, wdC K L W ar TN [] (tFo K L false (0, t)) ((tMe K L false (0, t))[idx] + 1) = c0 :: l0 := by
        cases hh : wdC K L W ar TN [] (tFo K L false (0, t)) ((tMe K L false (0, t))[idx] + 1) with
        | nil => exact absurd hh (isR_ne r1)
        | cons q l => exact ⟨q, l, rfl⟩
      have ec : c0 = cdOf W [] (tFo K L false (0, t)) TN ((tMe K L false (0, t))[idx] + 1) := by
        rw [← r5, ew]
        rfl
      have y7' : WDz P w (slc w P (((aSl K L 0 (Ls.take i)).length + ((tFo K L false (0, t)).length + idx) : Nat) : Int) 3) (c0 :: l0) := by rw [← ew]; exact y7
      have r3c := r3 c0 (by rw [ew]; exact List.mem_cons_self)
      have o3 : (3 : Int32).toInt = 3 := by decide
      have g3 : (zg w (P + 24) (b1 * 6 + 3)).toInt = tyc w P (a : Int) 3 := by rw [zg_ty o3 (by decide) (by omega), ha]
      rw [g3, e3] at hx2
      have ex2 := hx2 (by omega)
      have gs : (zg w (P + 30) (x2 * 5 + 3)).toInt = slc w P (((aSl K L 0 (Ls.take i)).length + ((tFo K L false (0, t)).length + idx) : Nat) : Int) 3 := by
        rw [zg_sl o3 (by decide) (by omega), show x2.toInt = (((aSl K L 0 (Ls.take i)).length + ((tFo K L false (0, t)).length + idx) : Nat) : Int) by omega]
      obtain ⟨z, hz⟩ : ∃ z, z = zg w (P + 18) (zg w (P + 30) (x2 * 5 + 3)) := ⟨_, rfl⟩
      have vz : z.toInt = c0 := by
        rw [hz, zg_K, gs]
        have := y7' 0 c0 rfl
        rw [show slc w P (((aSl K L 0 (Ls.take i)).length + ((tFo K L false (0, t)).length + idx) : Nat) : Int) 3 + ((0 : Nat) : Int) = slc w P (((aSl K L 0 (Ls.take i)).length + ((tFo K L false (0, t)).length + idx) : Nat) : Int) 3 by omega] at this
        exact this
      rw [← hz]
      have zz := (zInf_k (kd := kd) C.1.2.2.1 C.1.2.2.2 (x := z) (by omega)).2
      rw [vz] at zz
      have stp : ∀ t1 : Int32, (∀ c : Nat, c < 32 → (t1.toBitVec.getLsbD c = true ↔ c0 = (c : Int) ∧ kd (c : Int) = 1)) → v_137_47 (fun j => Zt (d + 8) (wd P j) j) P (fun b1' b2' b3' b4' w' => (b1' = b1 ∧ b3' = b3 ∧ w' = w ∧ ∃ idx : Nat, idx ≤ cnt ∧ b4'.toInt = (idx : Int) ∧ ∀ c : Nat, c < 32 → (b2'.toBitVec.getLsbD c = true ↔ ∃ (k : Nat) (v : Int), k < idx ∧ (tMe K L false (0, t))[k]? = some v ∧ cdOf W [] (tFo K L false (0, t)) TN (v + 1) = (c : Int) ∧ kd (c : Int) = 1)) ∧ (100 - b4'.toInt).toNat < (100 - b4.toInt).toNat) b1 b2 b3 b4 z b2 t1 w (fun v s' => s' = w ∧ ∃ r : Int32, v = some (.int r) ∧ ∀ c : Nat, c < 32 → (r.toBitVec.getLsbD c = true ↔ eg5 K L W kd TN Ls a c)) := by
        intro t1 ht1
        unfold v_137_47
        intro x1 hx1
        have ex1 := hx1 (by omega)
        refine ⟨⟨rfl, rfl, rfl, idx + 1, by omega, by omega, fun c hc => ?_⟩, by omega⟩
        rw [tb_or, Bool.or_eq_true, i3 c hc, ht1 c hc]
        refine ⟨fun q => ?_, fun ⟨k, v, q1, q2, q3, q4⟩ => ?_⟩
        · rcases q with ⟨k, v, q1, q2⟩ | ⟨q1, q2⟩
          · exact ⟨k, v, by omega, q2⟩
          · exact ⟨idx, _, by omega, hv, by rw [← ec]; exact q1, q2⟩
        · by_cases ek2 : k = idx
          · rw [ek2, hv] at q2
            have := Option.some.inj q2
            rw [← this, ← ec] at q3
            exact Or.inr ⟨q3, q4⟩
          · exact Or.inl ⟨k, v, by omega, q2, q3, q4⟩
      refine ⟨fun z1 => stp 0 (fun c hc => ?_), fun z1 => stp _ (fun c hc => ?_)⟩
      · rw [tb_0]
        refine ⟨fun q => absurd q (by decide), fun q => ?_⟩
        have := zz.mp z1
        rw [q.1] at this
        exact absurd q.2 this
      · have hk1 : kd c0 = 1 := Decidable.of_not_not (fun q => z1 (zz.mpr q))
        have hc24 : c0 < 24 := by
          rcases Int.lt_or_le c0 (kTy K Ls : Int) with z | z
          · omega
          · have := h.2.2.2.2.2.1 c0 (Or.inr z)
            omega
        rw [tb_one (c := c0.toNat) (by rw [vz]; omega) (by omega) hc, decide_eq_true_iff]
        refine ⟨fun q => ?_, fun q => by omega⟩
        have : c0 = (c : Int) := by omega
        rw [← this]
        exact ⟨rfl, hk1⟩
  refine zc_137 hP ?_
  unfold v_137_0
  refine ⟨fun y => main 0 (by omega) (fun _ => rfl) (fun q => ?_) 0 (by decide), fun y => main (tMe K L false (0, t)).length hme (fun q => ?_) (fun _ => rfl) _ ?_⟩
  · rw [if_pos q] at zs
    exact absurd rfl (zs.mp y)
  · rw [if_neg q] at zs
    exact absurd (zs.mpr (by decide)) y
  · rw [zg_ty (k := 4) (by decide) (by decide) (by omega), ha]
    exact e4
end ZBC
