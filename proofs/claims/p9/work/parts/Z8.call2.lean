/-! ===== the class: lookAtAll, whole ===== -/
section Z8C
variable {K L W ar kd : Int → Int} {n lo hi m k0 T : Int} {TN Ls : List Int} {i j P d : Nat} {t q : Int} {s u w : zS} {x : Int × Int × Int × Int} {mv : List Int → List Int → List Int → Int} {a1 a2 : Int32}
/-- the HEAD whose slot it is -/
theorem sg_fact (h : PRm K L W ar kd n lo hi TN Ls) (h1 : Ls[i]? = some t) (hx : x ∈ sDc K L (kHd K L (Ls.take i) : Int) t) : (hfS K L Ls x.2.2.2).length ≤ 6 ∧ (((hfS K L Ls x.2.2.2).length : Int) ≤ 0 ∨ ∃ g : Nat, g < kHd K L Ls ∧ x.2.2.2 = (g : Int) ∧ ((hfS K L Ls x.2.2.2).length : Int) = ((hdd K L W ar TN Ls g).1 : Int)) := by
  rcases sDc_sg hx with z | ⟨jj, z1, z2⟩
  · rw [z, hfS_n]
    exact ⟨Nat.zero_le _, Or.inl (Int.le_refl _)⟩
  · have hq := List.getElem?_eq_getElem z1
    obtain ⟨-, ⟨l1, -⟩, -, -, hf, -⟩ := hd_fact h h1 hq
    have e : x.2.2.2 = ((kHd K L (Ls.take i) + jj : Nat) : Int) := by rw [z2]; omega
    rw [e, hf]
    refine ⟨l1, Or.inr ⟨kHd K L (Ls.take i) + jj, kHd_lt h1 hq, rfl, ?_⟩⟩
    rw [(tb_hd (W := W) (ar := ar) (TN := TN) h1 hq).1]
theorem dOw_fact (h : PRm K L W ar kd n lo hi TN Ls) (h1 : Ls[i]? = some t) : (0 ≤ dOw K L W TN (kTy K (Ls.take i)) t ∧ dOw K L W TN (kTy K (Ls.take i)) t < (kTy K Ls : Int)) ∧ ((dTp K L t).length : Int) = ar (dOw K L W TN (kTy K (Ls.take i)) t) := by
  refine ⟨?_, (tp_fact h h1).2⟩
  unfold dOw
  by_cases h6 : K t = 6
  · rw [if_pos h6]
    exact (fn_fact h h1 h6).1
  · rw [if_neg h6]
    have := kTy_lt h1 h6
    omega
set_option maxHeartbeats 1000000 in
/-- lookAtBounds of a slot -/
theorem sl_135 (hP : P = 3 ∨ P = 39) (h : PRm K L W ar kd n lo hi TN Ls) (C : CSz K L W ar kd TN Ls n k0 P w) (hT : (w.1 75 3).toInt = T) (hT2 : 18 ≤ T ∧ T + 180 ≤ 18738) (hf : (w.1 P 14).toInt = 0) (hmv : mv = mtV ar kd (rso kd (cfO K L W TN Ls) (fsd K L Ls) (kFn K Ls) (tmd K L Ls) (tnd K L Ls) (hwd K L W Ls)) (hwd K L W Ls) (hdd K L W ar TN Ls) (tmd K L Ls) (tnd K L Ls)) (h1 : Ls[i]? = some t) (hx : (sDc K L (kHd K L (Ls.take i) : Int) t)[j]? = some x) (h0 : 0 ≤ x.2.2.1) (h4 : (w.1 75 4).toInt = dOw K L W TN (kTy K (Ls.take i)) t) (h6 : (w.1 75 6).toInt = x.2.2.2) (ha1 : a1.toInt = slc w P (((aSl K L 0 (Ls.take i)).length + j : Nat) : Int) 3) (ha2 : a2.toInt = a1.toInt + ((wdC K L W ar TN (hfS K L Ls x.2.2.2) (dTp K L t) x.2.2.1).length : Int)) : Zt (d + 12) (wd P 135) 135 [.ref 83, .int a1, .int a2] w (fun v s' => v = none ∧ RFz P T w s' ∧ (∀ b q, ¬ (b = P ∧ q = 14) → s'.1 b q = w.1 b q) ∧ (s'.1 P 14).toInt = ffs (slL K L W ar mv TN Ls (dTp K L t) (dOw K L W TN (kTy K (Ls.take i)) t) x)) := by
  have hxm := List.mem_of_getElem? hx
  obtain ⟨-, -, z⟩ := cz_sl C h1 hx
  obtain ⟨⟨z1, z2⟩, z3, z4⟩ := z h0
  obtain ⟨o1, o2, ⟨o3, o4⟩, -⟩ := slot_ok h h1 hxm h0
  obtain ⟨lf, hY⟩ := sg_fact h h1 hxm
  obtain ⟨w1, w2⟩ := dOw_fact h h1
  have hnT := PR_nT h
  have h24 := h.2.2.1
  have hX := h.1.1
  have hlo := h.1.2.2.1
  have hhi := h.1.2.2.2
  have hk0 := C.2.2.2.2.1.2
  obtain ⟨r1, r2, r3, r4, -⟩ := wdC_ok (PR_ar h).1 lf (tp_fact h h1).1 (by omega) o1 o2
  have hLp := C.1.1.2.1
  rw [← ha1] at z1 z2 z3 z4
  have es : slL K L W ar mv TN Ls (dTp K L t) (dOw K L W TN (kTy K (Ls.take i)) t) x = slG K L W ar mv (Bfd K L W ar TN Ls) (bnD (Bfd K L W ar TN Ls) (hdd K L W ar TN Ls) (dOw K L W TN (kTy K (Ls.take i)) t) x.2.2.2) TN (hfS K L Ls x.2.2.2) (dTp K L t) x.2.2.1 := if_neg (by omega)
  rw [es]
  unfold slG
  rw [hmv, ← cz_mv h C]
  have hlen : (wdC K L W ar TN (hfS K L Ls x.2.2.2) (dTp K L t) x.2.2.1).length = (tlT K L (cdOf W (hfS K L Ls x.2.2.2) (dTp K L t) TN) ar 10 x.2.2.1).2.length := by
    unfold wdC
    rw [List.length_map]
  refine zs_135 (d := d) (k := 1) hP (PR_ar h).1 (PR_ar h).2 (cz_lk h C) h24.2 C.2.2.2.2.2.2.2.2 hT hT2 hf r1 (by omega) (fun q hq => ?_) (fun c hc => ⟨(r3 c hc).1, (r3 c hc).2.1⟩) z3 ⟨z1, by omega⟩ ha2 (cz_bf h C r4) (cz_sp h C h4 h6 (by rw [← w2]; exact r3) (fun _ => w1) hY) hLp (fun q hq => ?_)
  · have := (subT_app (C := []) (fun c => ((PR_ar h).1 c).1) r1 hq).2
    omega
  · have hq' : q < (tlT K L (cdOf W (hfS K L Ls x.2.2.2) (dTp K L t) TN) ar 10 x.2.2.1).2.length := by omega
    have hv := List.getElem?_eq_getElem hq'
    have e1 := z4 q _ (by rw [List.getElem?_map, hv]; rfl)
    have e2 : tokF K L W ar TN (hfS K L Ls x.2.2.2) (dTp K L t) x.2.2.1 q = L ((tlT K L (cdOf W (hfS K L Ls x.2.2.2) (dTp K L t) TN) ar 10 x.2.2.1).2[q]).2 := by
      unfold tokF
      rw [List.getD_eq_getElem?_getD, List.getElem?_map, hv]
      rfl
    have e3 := tlT_tk 10 _ (by decide) o2 o1 _ (List.mem_of_getElem? hv)
    have e4 := hX.2.2 ((tlT K L (cdOf W (hfS K L Ls x.2.2.2) (dTp K L t) TN) ar 10 x.2.2.1).2[q]).2 (by omega) (by omega)
    rw [e2, show a1.toInt + (q : Int) - 18738 = a1.toInt - 18738 + (q : Int) by omega, e1]
    exact ⟨rfl, e4.1, by omega⟩
end Z8C
