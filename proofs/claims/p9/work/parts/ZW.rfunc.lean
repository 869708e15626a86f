/-! ===== the reference: typeFunc ===== -/
section ZWF
variable {K L W ar kd : Int → Int} {n lo hi B b A0 x y : Int} {TN Ls : List Int} {s : yS} {d i : Nat} {t : Int} {a1 : Int32}
/-- where a declaration ends -/
def dcNd (K L : Int → Int) (t : Int) : Int := if K t = 6 then (p_fn K L false (0, t)).2 else (p_ty K L false (0, t)).2
theorem dcC_or : ∀ (l : List Int) (i j : Nat) (t t' lo hi : Int), dcC K L lo hi l → l[i]? = some t → l[j]? = some t' → i < j → dcNd K L t ≤ t'
  | [], _, _, _, _, _, _, _, h, _, _ => by cases h
  | q :: l, 0, 0, _, _, _, _, _, _, _, h => absurd h (Nat.lt_irrefl _)
  | q :: l, 0, j + 1, t, t', lo, hi, hD, h1, h2, _ => by
    have e : q = t := by simpa using h1
    subst e
    have h2 : l[j]? = some t' := h2
    unfold dcNd
    by_cases h6 : K q = 6
    · rw [if_pos h6]
      have := hD.2
      rw [if_pos h6] at this
      exact (dcC_at l j t' _ hi this.2 h2).1
    · rw [if_neg h6]
      have := hD.2
      rw [if_neg h6] at this
      exact (dcC_at l j t' _ hi this.2 h2).1
  | q :: l, i + 1, 0, _, _, _, _, _, _, _, h => absurd h (Nat.not_lt_zero _)
  | q :: l, i + 1, j + 1, t, t', lo, hi, hD, h1, h2, h => by
    have hD2 := hD.2
    by_cases h6 : K q = 6
    · rw [if_pos h6] at hD2
      exact dcC_or l i j t t' _ hi hD2.2 h1 h2 (by omega)
    · rw [if_neg h6] at hD2
      exact dcC_or l i j t t' _ hi hD2.2 h1 h2 (by omega)
/-- where the slots of a declaration stand -/
theorem slt_in (hD : dcC K L lo hi Ls) (h1 : Ls[i]? = some t) {h : Int} {q : Int × Int × Int × Int} (hq : q ∈ sDc K L h t) (h0 : 0 ≤ q.2.2.1) : t < q.2.2.1 ∧ nxT K L q.2.2.1 ≤ dcNd K L t ∧ (K t = 6 → nxT K L q.2.2.1 ≤ (f_7 K L false (0, t)).2) := by
  obtain ⟨d1, d2, d3⟩ := dcC_at Ls i t lo hi hD h1
  obtain ⟨j, hj⟩ := List.getElem?_of_mem hq
  unfold sDc at hj
  unfold dcNd
  by_cases h6 : K t = 6
  · rw [if_pos h6] at hj ⊢
    have hfn := fn_fw (d2 h6).1
    obtain ⟨a, b, q1, q2, q3, -, q5, -⟩ := srtQ_at _ _ _ j q (srt_fn (h := h) hfn.1) hj
    have q1 : t + 2 ≤ a := q1
    have := q5 h0
    exact ⟨by omega, by omega, fun _ => by omega⟩
  · rw [if_neg h6] at hj ⊢
    obtain ⟨a, b, q1, q2, q3, -, q5, -⟩ := srtQ_at _ _ _ j q (srt_ty (h := h) (d3 h6).1) hj
    have q1 : t + 2 ≤ a := q1
    have := q5 h0
    exact ⟨by omega, by omega, fun w => absurd w h6⟩
/-- a func's E stands in no slot -/
theorem fn_ns (hD : dcC K L lo hi Ls) (h1 : Ls[i]? = some t) (h6 : K t = 6) {v : Int} (v1 : (f_7 K L false (0, t)).2 ≤ v) (v2 : v < (p_fn K L false (0, t)).2) (vt : t ≤ (f_7 K L false (0, t)).2) : nsD K L Ls v := by
  intro j t' hj q hq h0 hv
  obtain ⟨g1, g2, g3⟩ := slt_in hD hj hq h0
  rcases Nat.lt_trichotomy j i with w | w | w
  · have := dcC_or Ls j i t' t lo hi hD hj h1 w
    omega
  · rw [w, h1] at hj
    have e : t = t' := Option.some.inj hj
    subst e
    have := g3 h6
    omega
  · have := dcC_or Ls i j t t' lo hi hD h1 hj w
    unfold dcNd at this
    rw [if_pos h6] at this
    omega
/-- main's E stands in no slot -/
theorem mn_ns (h : PRm K L W ar kd n lo hi TN Ls) {v : Int} (hv : hi ≤ v) : nsD K L Ls v := by
  intro j t' hj q hq h0 hw
  have := (slot_ok h hj hq h0).2.2.1
  omega
/-- a func's scope -/
def fnS (K L W ar : Int → Int) (TN Ls : List Int) (i : Nat) (t : Int) : Scp := (h_f K L (0, (f_5 K L false (0, t)).2 + 1), fPa K L false (0, t), fun c => if c < 30 then (Bfd K L W ar TN Ls (fcd K L W TN t)).getD (c - 24).toNat [] else (hdd K L W ar TN Ls (kHd K L (Ls.take i))).2.2.getD (c - 30).toNat [], (f_1 K L false (0, t)).2 :: h_v K L (0, (f_5 K L false (0, t)).2 + 1), (fcd K L W TN t :: (List.range (fPa K L false (0, t)).length).map (fun k : Nat => 24 + (k : Int))) :: (h_v K L (0, (f_5 K L false (0, t)).2 + 1)).map (fun v => wdC K L W ar TN (h_f K L (0, (f_5 K L false (0, t)).2 + 1)) (fPa K L false (0, t)) (v + 1)))
theorem EWd_fn (h : PRm K L W ar kd n lo hi TN Ls) (hH : kHd K L Ls ≤ 204) (hB : 0 ≤ B) (hb : 0 ≤ b) (h1 : Ls[i]? = some t) (h6 : K t = 6) : EWd K L W ar kd TN Ls n lo hi B b (4000 + 6 * (kFn K (Ls.take i) : Int)) (2000 + 6 * (kHd K L (Ls.take i) : Int)) (fnS K L W ar TN Ls i t) := by
  have hnT := PR_nT h
  have h24 := h.2.2.1.1
  obtain ⟨⟨hX, hD, hlo, hhi⟩, hTN, -⟩ := id h
  obtain ⟨d1, d2, d3⟩ := dcC_at Ls i t lo hi hD h1
  have hpf := (d2 h6).1
  have hfn := fn_fw hpf
  obtain ⟨e1, e3, e4, e5⟩ := fn_end hpf
  obtain ⟨hw1, hw2⟩ := hd_wn e3
  have hd2 := (d2 h6).2
  have h4f := f4_le hfn.1
  have hpw := pa_wn hfn.1
  obtain ⟨f1', f2', f3', f4', f5', f6', f7', f8', f9', f10'⟩ := f7_fw hfn.1
  have e5' : (f_5 K L false (0, t)).2 = (f_4 K L false (0, t)).2 + 1 := by rw [f6']
  have hTw : ∀ v ∈ TN, wTk K n v := fun v hv => tNm_w hD hlo hhi v (by unfold tNm; rw [← hTN]; exact hv)
  have hd0 : (dHd K L t)[0]? = some (f_5 K L false (0, t)).2 := by
    unfold dHd
    rw [if_pos h6]
    rfl
  obtain ⟨t1, t2, t3, -⟩ := tb_hd (W := W) (ar := ar) (TN := TN) h1 hd0
  rw [if_pos h6] at t2 t3
  have edT : dTp K L t = fPa K L false (0, t) := if_pos h6
  have sp := SP_hd (W := W) (bn := (fnS K L W ar TN Ls i t).2.2.1) h hH h1 hd0 (fun k hk => by
    rw [t3]
    have l6 := (tp_fact h h1).1
    show (if (24 + (k : Int)) < 30 then (Bfd K L W ar TN Ls (fcd K L W TN t)).getD ((24 + (k : Int)) - 24).toNat [] else _) = _
    rw [if_pos (by omega), show ((24 + (k : Int)) - 24).toNat = k by omega]) (fun k hk => by
    show (if (30 + (k : Int)) < 30 then _ else (hdd K L W ar TN Ls (kHd K L (Ls.take i))).2.2.getD ((30 + (k : Int)) - 30).toNat []) = _
    rw [if_neg (by omega), show ((30 + (k : Int)) - 30).toNat = k by omega, Nat.add_zero])
  rw [t2, edT, Nat.add_zero] at sp
  refine ⟨h, ⟨fun v hv => ?_, fun v hv => ?_, hTw, ⟨(hd_len e3).1, pa_len hfn.1, by omega⟩, ⟨by omega, by omega⟩, (PR_ar h).2, (PR_ar h).1⟩, sp, hB, hb⟩
  · obtain ⟨z1, z2, z3⟩ := hw1 v hv
    have z2' : (f_5 K L false (0, t)).2 + 1 ≤ v := z2
    exact ⟨by omega, by omega, z1⟩
  · obtain ⟨z1, z2, z3⟩ := hpw v hv
    exact ⟨by omega, by omega, z1⟩
end ZWF
