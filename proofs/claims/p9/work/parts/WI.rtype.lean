/-! ===== the reference: typeWords ===== -/
/-- HEADS one behind another -/
def srtH (K L : Int → Int) : Int → Int → List Int → Prop
  | lo, hi, [] => lo ≤ hi
  | lo, hi, q :: l => lo ≤ q ∧ (p_hd K L (0, q + 1)).1 = 0 ∧ q + 1 < (p_hd K L (0, q + 1)).2 ∧ srtH K L (p_hd K L (0, q + 1)).2 hi l
def tyFs (K L W ar kd : Int → Int) (TN : List Int) (t : Int) : List Int := (tFo K L false (0, t)).map (fun u => tF K L W ar kd [] (tFo K L false (0, t)) TN 0 (u + 1)) ++ (if tSt K L false (0, t) = true then (tMe K L false (0, t)).map (fun u => tF K L W ar kd [] (tFo K L false (0, t)) TN 2 (u + 1)) else (tMe K L false (0, t)).flatMap (fun q => hFs K L W ar kd (h_f K L (0, q + 1)) (tFo K L false (0, t)) TN q))
/-- the words of a type's slots, of its heads' slots -/
def wTy (K L W ar : Int → Int) (TN tp : List Int) (b0 : Int) : Nat → Int → List Int := wdT K L (cdOf W [] tp TN) ar b0 2000
def wHd (K L W ar : Int → Int) (TN tp : List Int) (b0 b h q : Int) : Nat → Int → List Int := wdT K L (cdOf W (h_f K L (0, q + 1)) tp TN) ar b0 (2000 + 6 * (h - 204 * b))
def RTY (K L W ar : Int → Int) (TN : List Int) (B b : Int) (s : yS) (A D h t : Int) : Prop := (∀ (i : Nat) (u : Int), (tFo K L false (0, t))[i]? = some u → RSn K L B (wTy K L W ar TN (tFo K L false (0, t)) (1000 + 6 * (D - 24 * b))) s A (s.2.1 238 (6 * D + i).toNat).toInt (u + 1)) ∧ (tSt K L false (0, t) = true → ∀ (i : Nat) (u : Int), (tMe K L false (0, t))[i]? = some u → RSn K L B (wTy K L W ar TN (tFo K L false (0, t)) (1000 + 6 * (D - 24 * b))) s A (s.2.1 241 (6 * D + i).toNat).toInt (u + 1)) ∧ (tSt K L false (0, t) = false → ∀ (i : Nat) (q : Int), (tMe K L false (0, t))[i]? = some q → RHD K L B (wHd K L W ar TN (tFo K L false (0, t)) (1000 + 6 * (D - 24 * b)) b (h + i) q) s A (h + i) q)
/-- what telling leaves: faults Fs, tokens in [lo, hi) -/
def TRq (B : Int) (Fs : List Int) (lo hi : Int) (s s' : yS) (R : Prop) : Prop := RWf B lo hi (s.1 65).toInt s s' ∧ (s'.1 8).toInt = ffs ((s.1 8).toInt :: Fs) ∧ 0 ≤ (s'.1 8).toInt ∧ ((s'.1 8).toInt = 0 → (s.1 65).toInt ≤ (s'.1 65).toInt ∧ (s'.1 65).toInt ≤ (s.1 65).toInt + (hi - lo) ∧ R) ∧ (¬ (s.1 8).toInt = 0 → (∀ p, ¬ p = 261 → s'.2.1 p = s.2.1 p) ∧ s'.1 65 = s.1 65)
section WTI
variable {d : Nat} {s s' s'' u u' : yS} {B b b0 b1 n : Int} {K L W ar kd : Int → Int} {hf tp TN : List Int} {lo hi mi a x y t f h q A D : Int} {a1 a2 a3 : Int32} {w : Nat → Int → List Int} {F : Int → Int} {Ls : List Int} {σ : RSt} {kd' sg : Int}
theorem srtH_le : ∀ {l : List Int} {lo hi : Int}, srtH K L lo hi l → lo ≤ hi
  | [], _, _, g => g
  | z :: l, lo, hi, g => by
    obtain ⟨g1, g2, g3, g4⟩ := g
    have := srtH_le g4
    omega
theorem srtH_at : ∀ (l : List Int) (lo hi : Int) (i : Nat) (z : Int), srtH K L lo hi l → l[i]? = some z → lo ≤ z ∧ (p_hd K L (0, z + 1)).1 = 0 ∧ z + 1 < (p_hd K L (0, z + 1)).2 ∧ (p_hd K L (0, z + 1)).2 ≤ hi ∧ srtH K L (p_hd K L (0, z + 1)).2 hi (l.drop (i + 1))
  | [], _, _, i, z, _, e => by cases e
  | v :: l, lo, hi, 0, z, g, e => by
    have e' : v = z := by simpa using e
    obtain ⟨g1, g2, g3, g4⟩ := g
    rw [e'] at g1 g2 g3 g4
    exact ⟨g1, g2, g3, srtH_le g4, g4⟩
  | v :: l, lo, hi, i + 1, z, g, e => by
    obtain ⟨g1, g2, g3, g4⟩ := g
    obtain ⟨k1, k2, k3, k4, k5⟩ := srtH_at l _ hi i z g4 e
    exact ⟨by omega, k2, k3, k4, k5⟩
theorem srtH_lo {lo' : Int} (hl : lo ≤ lo') (g : srtH K L lo' hi Ls) : srtH K L lo hi Ls := by
  cases Ls with
  | nil => exact Int.le_trans hl g
  | cons z l => exact ⟨Int.le_trans hl g.1, g.2⟩
theorem srt_mh : ∀ (k : Nat) (σ : RSt), (p_mb K (m_i K L) k σ).1 = 0 → srtH K L σ.2 (p_mb K (m_i K L) k σ).2 (l_mb K (m_i K L) k σ)
  | 0, σ, hq => Int.le_refl _
  | k + 1, σ, hq => by
    rw [pmb_s] at hq ⊢
    rw [lmb_s]
    by_cases hc : σ.1 = 0 ∧ ¬ K σ.2 = 125
    · rw [if_pos hc] at hq ⊢
      rw [if_pos hc]
      have hm : (m_i K L (decide (k = 0)) σ).1 = 0 := by
        rcases Classical.em ((m_i K L (decide (k = 0)) σ).1 = 0) with w1 | w1
        · exact w1
        · rw [pmb_f w1 k] at hq
          exact absurd hq w1
      have hm' := hm
      unfold m_i at hm'
      obtain ⟨e1, e2, e3⟩ := ek_0 hm'
      obtain ⟨f1, f2, f3, f4⟩ := ef_0 (hd_fw e1).1
      rw [f4] at e1 e3
      have em : m_i K L (decide (k = 0)) σ = (0, (p_hd K L (0, σ.2 + 1)).2 + 1) := by
        unfold m_i
        rw [f4, e3]
      have ih := srt_mh k _ hq
      rw [em] at ih ⊢
      have hh := (hd_fw e1).2
      have hh' : σ.2 + 1 + 2 < (p_hd K L (0, σ.2 + 1)).2 := hh
      exact ⟨Int.le_refl _, e1, by omega, srtH_lo (by show (p_hd K L (0, σ.2 + 1)).2 ≤ (p_hd K L (0, σ.2 + 1)).2 + 1; omega) ih⟩
    · rw [if_neg hc, if_neg hc]
      exact Int.le_refl _
theorem ty_pc (hq : (p_ty K L false (0, t)).1 = 0) : srtQ K L (t + 2) (y_5 K L false (0, t)).2 (nmS kd' sg (tFo K L false (0, t))) ∧ (tSt K L false (0, t) = true → srtQ K L (y_5 K L false (0, t)).2 (p_ty K L false (0, t)).2 (nmS kd' sg (tMe K L false (0, t)))) ∧ (tSt K L false (0, t) = false → srtH K L (y_5 K L false (0, t)).2 (p_ty K L false (0, t)).2 (tMe K L false (0, t))) := by
  obtain ⟨h5, -, a1, a3⟩ := ty_fw hq
  obtain ⟨h3, h2, -, -, -, e2, e5, -⟩ := y5_fw h5
  have e2' : (y_2 K L false (0, t)).2 = t + 2 := e2
  refine ⟨?_, fun hst => ?_, fun hst => ?_⟩
  · unfold tFo y_3 at *
    by_cases hc : t_k K 91 (y_2 K L false (0, t)) = true
    · rw [if_pos hc] at h3 e5
      rw [if_pos hc]
      refine srtQ_hi ?_ (srtQ_lo ?_ (srt_nm7 h3))
      · omega
      · show t + 2 ≤ (y_2 K L false (0, t)).2 + 1
        omega
    · rw [if_neg hc] at h3 e5
      rw [if_neg hc]
      show t + 2 ≤ (y_5 K L false (0, t)).2
      omega
  · have hym : y_m K L false (0, t) = m_s K L := if_pos hst
    unfold tMe
    rw [hym] at a1 a3 ⊢
    rw [a3]
    exact srtQ_hi (by omega) (srt_ms 7 _ a1)
  · have hym : y_m K L false (0, t) = m_i K L := if_neg (fun e => by
      have e' : tSt K L false (0, t) = true := e
      rw [hst] at e'
      cases e')
    unfold tMe
    rw [hym] at a1 a3 ⊢
    rw [a3]
    have := srt_mh 7 _ a1
    have key : ∀ (l : List Int) (lo : Int), srtH K L lo (p_mb K (m_i K L) 7 (y_5 K L false (0, t))).2 l → srtH K L lo ((p_mb K (m_i K L) 7 (y_5 K L false (0, t))).2 + 1) l := by
      intro l
      induction l with
      | nil =>
        intro lo g
        have g' : lo ≤ (p_mb K (m_i K L) 7 (y_5 K L false (0, t))).2 := g
        show lo ≤ (p_mb K (m_i K L) 7 (y_5 K L false (0, t))).2 + 1
        omega
      | cons z l ih => exact fun lo g => ⟨g.1, g.2.1, g.2.2.1, ih _ g.2.2.2⟩
    exact key _ _ this
/-- the heads of a type, one by one: the state behind k of them -/
def LHq (K L W ar kd : Int → Int) (B b b0 : Int) (tp TN : List Int) (h lo hi : Int) (Ls : List Int) (s : yS) (k : Nat) (u : yS) : Prop := k ≤ Ls.length ∧ RWf B lo hi (s.1 65).toInt s u ∧ u.2.1 261 = s.2.1 261 ∧ 0 ≤ (u.1 8).toInt ∧ (u.1 8).toInt = ffs ((s.1 8).toInt :: (Ls.take k).flatMap (fun q => hFs K L W ar kd (h_f K L (0, q + 1)) tp TN q)) ∧ ((u.1 8).toInt = 0 → (s.1 65).toInt ≤ (u.1 65).toInt ∧ ∃ mi, lo ≤ mi ∧ (u.1 65).toInt ≤ (s.1 65).toInt + (mi - lo) ∧ srtH K L mi hi (Ls.drop k) ∧ ∀ (i : Nat) (q : Int), i < k → Ls[i]? = some q → RHD K L B (wHd K L W ar TN tp b0 b (h + i) q) u (u.1 65).toInt (h + i) q ∧ (p_hd K L (0, q + 1)).2 ≤ mi ∧ (p_hd K L (0, q + 1)).1 = 0 ∧ 0 ≤ q) ∧ (¬ (s.1 8).toInt = 0 → u.2 = s.2 ∧ u.1 65 = s.1 65)
theorem LHq_0 (hs : srtH K L lo hi Ls) (h8 : 0 ≤ (s.1 8).toInt) : LHq K L W ar kd B b b0 tp TN h lo hi Ls s 0 s := by
  refine ⟨Nat.zero_le _, RWf_rf, rfl, h8, ?_, fun _ => ⟨Int.le_refl _, lo, Int.le_refl _, by omega, ?_, fun i t hi2 => absurd hi2 (Nat.not_lt_zero _)⟩, fun _ => ⟨rfl, rfl⟩⟩
  · rw [List.take_zero]
    show _ = if (s.1 8).toInt = 0 then 0 else (s.1 8).toInt
    by_cases h0 : (s.1 8).toInt = 0
    · rw [if_pos h0]
      exact h0
    · rw [if_neg h0]
  · rw [List.drop_zero]
    exact hs
theorem LHq_s {k : Nat} (h1 : LHq K L W ar kd B b b0 tp TN h lo hi Ls s k u) (hz : Ls[k]? = some q) (hq0 : 0 ≤ q) (g : HRq K L B (wHd K L W ar TN tp b0 b (h + k) q) (hFs K L W ar kd (h_f K L (0, q + 1)) tp TN q) (h + k) q u u') : LHq K L W ar kd B b b0 tp TN h lo hi Ls s (k + 1) u' := by
  obtain ⟨k1, k2, k3, k4, k5, k6, k7⟩ := h1
  obtain ⟨r1, r2, r3, r4, r5, r6⟩ := g
  have hk := (List.getElem?_eq_some_iff.mp hz).1
  have em : (Ls.take (k + 1)).flatMap (fun q => hFs K L W ar kd (h_f K L (0, q + 1)) tp TN q) = (Ls.take k).flatMap (fun q => hFs K L W ar kd (h_f K L (0, q + 1)) tp TN q) ++ hFs K L W ar kd (h_f K L (0, q + 1)) tp TN q := by
    rw [take_s hz, List.flatMap_append]
    congr 1
    show hFs K L W ar kd (h_f K L (0, q + 1)) tp TN q ++ [] = _
    rw [List.append_nil]
  have ef : (u'.1 8).toInt = ffs ((s.1 8).toInt :: (Ls.take (k + 1)).flatMap (fun q => hFs K L W ar kd (h_f K L (0, q + 1)) tp TN q)) := by
    rw [r3, k5, ffs_c, em, List.cons_append]
  have e : Ls.drop k = q :: Ls.drop (k + 1) := by
    rw [List.drop_eq_getElem_cons hk]
    have := (List.getElem?_eq_some_iff.mp hz).2
    rw [this]
  by_cases h0 : (u.1 8).toInt = 0
  · obtain ⟨g1, mi, g2, g3, g4, g5⟩ := k6 h0
    rw [e] at g4
    obtain ⟨c1, c2, c3, c4⟩ := g4
    have hle := srtH_le c4
    refine ⟨by omega, RWf_tr k2 r1 (by omega) (by omega) g1, r2.trans k3, r4, ef, fun h9 => ?_, fun hs => ?_⟩
    · obtain ⟨r7, r8, r9⟩ := r5 h9
      refine ⟨by omega, (p_hd K L (0, q + 1)).2, by omega, by omega, c4, fun i z hi2 hz2 => ?_⟩
      by_cases ei : i = k
      · rw [ei, hz] at hz2
        rw [← Option.some.inj hz2, ei]
        exact ⟨r9, Int.le_refl _, c2, hq0⟩
      · obtain ⟨m1, m2, m3, m4⟩ := g5 i z (by omega) hz2
        have m5 := RHD_f m3 m4 m1 r1 (Or.inl (by omega)) (Int.le_refl _)
        refine ⟨⟨fun j v hv => RSn_A (m5.1 j v hv) r7, fun j v hv => RSn_A (m5.2.1 j v hv) r7, RSn_A m5.2.2 r7⟩, by omega, m3, m4⟩
    · have := k7 hs
      have h8' : (u.1 8).toInt = (s.1 8).toInt := by
        rw [k5]
        exact if_neg hs
      omega
  · obtain ⟨z1, z2⟩ := r6 h0
    refine ⟨by omega, ?_, r2.trans k3, r4, ef, fun h9 => ?_, fun hs => ?_⟩
    · have a1' : RWf B lo hi (s.1 65).toInt u u' := ⟨r1.1, r1.2.1, r1.2.2.1, fun p i _ _ => by rw [z1], fun i _ => by rw [z1]⟩
      exact RWf_tr k2 a1' (Int.le_refl _) (Int.le_refl _) (Int.le_refl _)
    · have : (u'.1 8).toInt = (u.1 8).toInt := by
        rw [r3]
        exact if_neg h0
      omega
    · obtain ⟨y1, y2⟩ := k7 hs
      exact ⟨z1.trans y1, z2.trans y2⟩
end WTI
