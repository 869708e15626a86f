/-! ===== the reference: keepOpen, told; what a METHOD's node holds ===== -/
section ZSK
variable {K L W ar kd : Int → Int} {n lo hi B b A0 x y β0 β1 : Int} {TN Ls : List Int} {S : Scp} {D : Int → Prop} {s s' u : yS} {d m N e g : Nat} {a1 a2 a3 : Int32} {z z' t : Int} {zt : Nat → Int}
theorem er_204d (hW : EWd K L W ar kd TN Ls n lo hi B b β0 β1 S) (hI : EIn K L W ar kd TN Ls n B b A0 x y β0 β1 S s) (h8 : (s.1 8).toInt = 0) (hm : m ≤ 10) (ha : a1.toInt = z) (hT : yT K L B s m z z' t) (hp : (p_t K L m false (0, t)).1 = 0) (ht : 0 ≤ t) (hn : nxT K L t ≤ n) : Par d 204 [.ref 213, .int a1, .int 0] s (fun _ s' => EF0 (fun v => t ≤ v ∧ v < nxT K L t) B (s.1 65).toInt s s') := by
  obtain ⟨hP, hS, -, hB, hb⟩ := hW
  obtain ⟨s1, s2, s3, ⟨s4, s5, s6⟩, ⟨s7, s8⟩, s9, s10⟩ := hS
  have hp10 : (p_t K L 10 false (0, t)).1 = 0 := by
    rw [pt_mono m 10 hm false (0, t) hp]
    exact hp
  have hT10 := yT_mono m 10 z z' t hm hT
  have hnx := (pt_g 10 (by omega) false t hp10).2.2
  have hA0 : A0 ≤ (s.1 65).toInt := hI.2.2.1.1
  have h10 : 10 ≤ A0 := hI.1.2.2.2.2.2.1.1
  refine Par.imp (x_204 (W := W) (hf := S.1) (tp := S.2.1) (TN := TN) (ar := ar) hP.1.1 hb hB s1 s2 s3 s4 s5 s6 s7 s8 s9 10 (Nat.le_refl _) d a1 0 z z' t (s.1 65).toInt s ha (by decide) ht hp10 (by rw [← hnx]; exact hn) hT10 h8 rfl (by omega) (RVh_of hI)) ?_
  rintro v s' ⟨rfl, r1, r2, r3⟩
  have tk := yT_tok 10 _ _ _ (by decide) hT10 hp10
  refine ⟨fun k hk => r1.1 k (fun e => hk (by unfold fEx; omega)) (fun e => hk (by unfold fEx; omega)), r1.2.1, fun q hq => r1.2.2.1 q (fun e => hq (by unfold rEx; omega)) (fun e => hq (by unfold rEx; omega)) (fun e => hq (by unfold rEx; omega)), fun j _ => by rw [r1.2.2.1 226 (by decide) (by decide) (by decide)], fun j _ => by rw [r1.2.2.1 230 (by decide) (by decide) (by decide)], fun q j hq hj => r1.2.2.2.1 q j hq (fun w => hj ?_), fun j hj => r1.2.2.2.2 j hj⟩
  have := tk (j : Int) w.1 w.2
  rw [Int.toNat_natCast] at this
  exact ⟨by omega, by omega⟩
/-- keepOpen -/
theorem x_225 : Par d 225 [.ref 213, .int a1] s (fun v s' => v = none ∧ EF0 D B A0 s s' ∧ EFl s s' ∧ (∀ k, ¬ k = 85 → s'.1 k = s.1 k) ∧ ∀ q j, q < 270 → s'.2.1 q j = s.2.1 q j) := by
  cases d with
  | zero => exact Par_0
  | succ d =>
    have st : ∀ {v : yS} {q i : Nat} {r : Int32}, (EF0 D B A0 s v ∧ EFl s v ∧ (∀ k, ¬ k = 85 → v.1 k = s.1 k) ∧ ∀ q j, q < 270 → v.2.1 q j = s.2.1 q j) → (270 ≤ q ∧ q ≤ 272) → (EF0 D B A0 s (sa v q i r) ∧ EFl s (sa v q i r) ∧ (∀ k, ¬ k = 85 → (sa v q i r).1 k = s.1 k) ∧ ∀ q' j, q' < 270 → (sa v q i r).2.1 q' j = s.2.1 q' j) := fun {v q i r} hv hq =>
      ⟨EF0_tr hv.1 (EF0_sa (Or.inr (Or.inr hq))), EFl_tr hv.2.1 (EFl_sa (by omega)), fun k hk => by rw [sa_1r]; exact hv.2.2.1 k hk, fun q' j hq' => by rw [sa_21, if_neg (by omega)]; exact hv.2.2.2 q' j hq'⟩
    refine pb_225 ?_
    unfold ub_225_0
    intro _ s1 hs1 _ s2 hs2
    refine ⟨fun b1 b2 v => EF0 D B A0 s v ∧ EFl s v ∧ (∀ k, ¬ k = 85 → v.1 k = s.1 k) ∧ ∀ q j, q < 270 → v.2.1 q j = s.2.1 q j, ?_, ?_⟩
    · rw [hs2, hs1]
      exact st (st ⟨EF0_rf, EFl_rf, fun _ _ => rfl, fun _ _ _ => rfl⟩ (by omega)) (by omega)
    · intro b1 b2 v hv
      unfold ub_225_14
      refine ⟨fun _ => ⟨rfl, hv⟩, fun _ _ x1 hx1 _ _ s2' hs2' _ x3 hx3 s4 hs4 _ x5 hx5 => ?_⟩
      obtain ⟨n1, n2, n3, n4⟩ := st (q := 270) (i := (v.1 85).toInt.toNat) (r := v.2.1 264 x1.toInt.toNat) hv (by omega)
      rw [← hs2'] at n1 n2 n3 n4
      rw [hs4]
      refine ⟨EF0_tr n1 (EF0_sf (by unfold fEx; omega)), EFl_tr n2 (EFl_sf (by omega)), fun k hk => ?_, n4⟩
      rw [sfr_1, if_neg hk]
      exact n3 k hk
/-- told -/
theorem x_227 (hb : (s.1 75).toInt = b) (h2 : a2.toInt = 204 * b + (g : Int)) (h1 : a1.toInt = (e : Int)) (hN : N ≤ 6) (h3 : a3.toInt = if 0 < N then zt 0 else -1) (hz : ∀ j, j < N → 0 ≤ zt j ∧ (s.2.1 225 (zt j).toNat).toInt = if j + 1 < N then zt (j + 1) else -1) : Par d 227 [.ref 213, .int a1, .int a2, .int a3] s (fun v s' => v = none ∧ GRf (2 * e + 1) s s' ∧ (s'.2.1 265 (2 * e + 1)).toInt = 2000 + 6 * (g : Int) ∧ (s'.2.1 266 (2 * e + 1)).toInt = (N : Int) ∧ ∀ j, j < N → s'.2.1 267 (6 * (2 * e + 1) + j) = s.2.1 231 (zt j).toNat ∧ s'.2.1 268 (6 * (2 * e + 1) + j) = s.2.1 232 (zt j).toNat) := by
  cases d with
  | zero => exact Par_0
  | succ d =>
    refine pb_227 ?_
    unfold ub_227_0
    rw [hb]
    intro _ x1 hx1 _ x2 hx2 _ x3 hx3 _ x4 hx4 _ x5 hx5 _ x6 hx6 k6 s7 hs7 _ s8 hs8
    have e2 : x2.toInt.toNat = 2 * e + 1 := by omega
    rw [e2] at hs7 hs8
    have c8 : ∀ q j, s8.2.1 q j = if q = 266 ∧ j = 2 * e + 1 then 0 else if q = 265 ∧ j = 2 * e + 1 then x6 else s.2.1 q j := fun q j => by rw [hs8, sa_21, hs7, sa_21]
    refine ⟨fun b1 b2 b3 b4 b5 v => b4 = x2 ∧ GRf (2 * e + 1) s v ∧ v.2.1 265 (2 * e + 1) = x6 ∧ ∃ k : Nat, k ≤ N ∧ (v.2.1 266 (2 * e + 1)).toInt = (k : Int) ∧ b5.toInt = (if k < N then zt k else -1) ∧ ∀ j, j < k → v.2.1 267 (6 * (2 * e + 1) + j) = s.2.1 231 (zt j).toNat ∧ v.2.1 268 (6 * (2 * e + 1) + j) = s.2.1 232 (zt j).toNat, ⟨rfl, ⟨by rw [hs8, sa_1r, hs7, sa_1r], by rw [hs8, hs7]; rfl, fun q j q1 q2 => by rw [c8, if_neg (fun w => q1 ⟨Or.inr w.1, w.2⟩), if_neg (fun w => q1 ⟨Or.inl w.1, w.2⟩)]⟩, by rw [c8, if_neg (fun w => absurd w.1 (by decide)), if_pos ⟨rfl, rfl⟩], 0, Nat.zero_le _, by rw [c8, if_pos ⟨rfl, rfl⟩]; decide, h3, fun j hj => absurd hj (Nat.not_lt_zero _)⟩, ?_⟩
    rintro b1 b2 b3 b4 b5 v ⟨rb4, v1, v2, k, k1, k2, k3, k4⟩
    subst rb4
    have r : ∀ q j, q < 264 → v.2.1 q j = s.2.1 q j := fun q j hq => v1.2.2 q j (fun w => by omega) (fun w => by omega)
    unfold ub_227_27
    rw [e2, k2]
    refine ⟨fun w => ?_, fun w _ y1 hy1 _ _ y2 hy2 _ _ s3 hs3 _ y4 hy4 _ => ?_⟩
    · have hk : k = N := by
        by_cases q : k < N
        · rw [if_pos q] at k3
          have := (hz k q).1
          omega
        · omega
      rw [hk] at k2 k4
      exact ⟨rfl, v1, by rw [v2]; omega, k2, k4⟩
    · have hkN : k < N := by
        by_cases q : k < N
        · exact q
        · rw [if_neg q] at k3
          omega
      rw [if_pos hkN] at k3
      have i2 : y2.toInt.toNat = 6 * (2 * e + 1) + k := by omega
      rw [i2, k3] at hs3
      have e266 : (s3.2.1 266 (2 * e + 1)).toInt = (k : Int) := by
        rw [hs3, sa_21, if_neg (fun w => absurd w.1 (by decide))]
        exact k2
      rw [e266]
      intro _ y5 hy5 _ _ s6 hs6 _
      have i5 : y5.toInt.toNat = 6 * (2 * e + 1) + k := by omega
      rw [i5, k3] at hs6
      have e266' : (s6.2.1 266 (2 * e + 1)).toInt = (k : Int) := by
        rw [hs6, sa_21, if_neg (fun w => absurd w.1 (by decide))]
        exact e266
      rw [e266']
      intro _ y7 hy7 _ s8' hs8' _
      have e232 : s3.2.1 232 (zt k).toNat = s.2.1 232 (zt k).toNat := by
        rw [hs3, sa_21, if_neg (fun w => absurd w.1 (by decide)), r 232 _ (by decide)]
      rw [e232] at hs6
      rw [r 231 _ (by decide)] at hs3
      have c9 : ∀ q j, s8'.2.1 q j = if q = 266 ∧ j = 2 * e + 1 then y7 else if q = 268 ∧ j = 6 * (2 * e + 1) + k then s.2.1 232 (zt k).toNat else if q = 267 ∧ j = 6 * (2 * e + 1) + k then s.2.1 231 (zt k).toNat else v.2.1 q j := fun q j => by
        rw [hs8', sa_21, hs6, sa_21, hs3, sa_21]
      refine ⟨rfl, ⟨by rw [hs8', sa_1r, hs6, sa_1r, hs3, sa_1r]; exact v1.1, by rw [hs8', hs6, hs3]; exact v1.2.1, fun q j q1 q2 => ?_⟩, ?_, k + 1, by omega, ?_, ?_, fun j hj => ?_⟩
      · rw [c9, if_neg (fun w => q1 ⟨Or.inr w.1, w.2⟩), if_neg (fun w => q2 ⟨Or.inr w.1, by omega, by omega⟩), if_neg (fun w => q2 ⟨Or.inl w.1, by omega, by omega⟩)]
        exact v1.2.2 q j q1 q2
      · rw [c9, if_neg (fun w => absurd w.1 (by decide)), if_neg (fun w => absurd w.1 (by decide)), if_neg (fun w => absurd w.1 (by decide))]
        exact v2
      · rw [c9, if_pos ⟨rfl, rfl⟩]
        omega
      · rw [c9, if_neg (fun w => absurd w.1 (by decide)), if_neg (fun w => absurd w.1 (by decide)), if_neg (fun w => absurd w.1 (by decide)), k3, r 225 _ (by decide)]
        exact (hz k hkN).2
      · by_cases ej : j = k
        · rw [ej]
          refine ⟨?_, ?_⟩
          · rw [c9, if_neg (fun w => absurd w.1 (by decide)), if_neg (fun w => absurd w.1 (by decide)), if_pos ⟨rfl, rfl⟩]
          · rw [c9, if_neg (fun w => absurd w.1 (by decide)), if_pos ⟨rfl, rfl⟩]
        · obtain ⟨q1, q2⟩ := k4 j (by omega)
          refine ⟨?_, ?_⟩
          · rw [c9, if_neg (fun w => absurd w.1 (by decide)), if_neg (fun w => absurd w.1 (by decide)), if_neg (fun w => by omega)]
            exact q1
          · rw [c9, if_neg (fun w => absurd w.1 (by decide)), if_neg (fun w => by omega), if_neg (fun w => absurd w.1 (by decide))]
            exact q2
/-- what the node of a METHOD holds -/
theorem ePt_m {f : Int → Int → Int → Int → Prop} {e0 e y a : Int} (h : ePt K L B s m f e0 e y a) (h40 : ¬ K (a + 1) = 40) (hb : K (a + 2) = 91 ∨ K (a + 2) = 40) : ((s.2.1 221 e.toNat).toInt = 4 ∧ (s.2.1 222 e.toNat).toInt = B + (a + 1)) ∧ (s.2.1 230 e.toNat).toInt = (exN K L (a + 1) : Int) ∧ ∃ (y1 : Int) (zt : Nat → Int), (zt 0 = e + 1 ∧ zt (exN K L (a + 1)) = y1 ∧ y1 ≤ y) ∧ (s.2.1 229 e.toNat).toInt = (if 0 < exN K L (a + 1) then zt 0 else -1) ∧ (∀ j, j < exN K L (a + 1) → yT K L B s m (zt j) (zt (j + 1)) (uS (nxT K L) (a + 3) j) ∧ (0 ≤ zt j ∧ zt j < zt (j + 1)) ∧ (s.2.1 225 (zt j).toNat).toInt = if j + 1 < exN K L (a + 1) then zt (j + 1) else -1) ∧ (∀ i j, i ≤ j → j ≤ exN K L (a + 1) → zt i ≤ zt j) ∧ eAr K L s f 40 41 e y1 y (mO K L (a + 1)).2 ∧ ∀ (D' : Int → Prop) (A' : Int) (s' : yS) (g : Int → Int → Int → Int → Prop), EF0 D' B A' s s' → eAr K L s' g 40 41 e y1 y (mO K L (a + 1)).2 → ePt K L B s' m g e0 e y a := by
  obtain ⟨g1, g2, g3, g4⟩ := h
  rw [if_neg h40] at g4
  obtain ⟨g5, g6⟩ := g4
  have ea : a + 1 + 1 = a + 2 := by omega
  by_cases h91 : K (a + 2) = 91
  · rw [if_pos h91] at g6
    obtain ⟨k1, k2, k3, y1, k4, ⟨zt, v, z0, zc, u0, k5⟩, k8⟩ := g6
    have eN : exN K L (a + 1) = NT K L (a + 2) := by
      unfold exN
      rw [ea, if_pos h91]
    have mo := yCh_mono k5
    obtain ⟨k5, k6, k7⟩ := k5
    rw [eN]
    have ev : ∀ i, i ≤ NT K L (a + 2) → v i = uS (nxT K L) (a + 3) i := by
      intro i
      induction i with
      | zero => exact fun _ => u0
      | succ i ih =>
        intro hi
        rw [(k5 i (by omega)).2.1, ih (by omega)]
        rfl
    have hpos : 0 < NT K L (a + 2) := by
      unfold NT p_n
      split <;> omega
    refine ⟨⟨k1, g5⟩, k3, y1, zt, ⟨z0, zc, k4⟩, by rw [if_pos hpos, z0]; exact k2, fun j hj => ?_, mo, k8, fun D' A' s' g' hE hAr => ?_⟩
    rotate_left
    · have r : ∀ q, ¬ rEx q → s'.2.1 q = s.2.1 q := hE.2.2.1
      refine ⟨g1, by rw [r 227 (by unfold rEx; omega)]; exact g2, by rw [r 223 (by unfold rEx; omega)]; exact g3, ?_⟩
      rw [if_neg h40, if_pos h91, r 221 (by unfold rEx; omega), r 222 (by unfold rEx; omega), r 229 (by unfold rEx; omega), hE.2.2.2.2.1 _ (by rw [k1]; decide)]
      refine ⟨g5, k1, k2, k3, y1, k4, ⟨zt, v, z0, zc, u0, fun i hi => ⟨yT_e hE _ _ _ _ (k5 i hi).1, (k5 i hi).2⟩, ?_, ?_⟩, hAr⟩
      · rw [r 225 (by unfold rEx; omega)]
        exact k6
      · rw [r 225 (by unfold rEx; omega)]
        exact k7
    obtain ⟨q1, -, q3⟩ := k5 j hj
    rw [ev j (by omega)] at q1
    refine ⟨q1, q3, ?_⟩
    by_cases hl : j + 1 < NT K L (a + 2)
    · rw [if_pos hl]
      exact k6 j hl
    · rw [if_neg hl]
      have := k7 hpos
      rw [show NT K L (a + 2) - 1 = j by omega] at this
      exact this
  · have h4 : K (a + 2) = 40 := by omega
    rw [if_neg h91, if_pos h4] at g6
    obtain ⟨k1, k2, k3, k8⟩ := g6
    have eN : exN K L (a + 1) = 0 := by
      unfold exN
      rw [ea, if_neg h91]
    have eM : (mO K L (a + 1)).2 = a + 2 := by
      unfold mO
      rw [ea, if_neg h91]
    rw [eN, eM]
    refine ⟨⟨k1, g5⟩, k3, e + 1, fun _ => e + 1, ⟨rfl, rfl, by have := g1; omega⟩, k2, fun j hj => absurd hj (Nat.not_lt_zero _), fun _ _ _ _ => Int.le_refl _, k8, fun D' A' s' g' hE hAr => ?_⟩
    have r : ∀ q, ¬ rEx q → s'.2.1 q = s.2.1 q := hE.2.2.1
    refine ⟨g1, by rw [r 227 (by unfold rEx; omega)]; exact g2, by rw [r 223 (by unfold rEx; omega)]; exact g3, ?_⟩
    rw [if_neg h40, if_neg h91, if_pos h4, r 221 (by unfold rEx; omega), r 222 (by unfold rEx; omega), r 229 (by unfold rEx; omega), hE.2.2.2.2.1 _ (by rw [k1]; decide)]
    exact ⟨g5, k1, k2, k3, hAr⟩
/-- words of HEADS against a word -/
theorem hw_r (h : PRm K L W ar kd n lo hi TN Ls) (hS : RST K L W ar kd TN Ls n B b A0 x y s) {q0 : Int} (hq : wTk K n q0) : ∀ h : Nat, h < kHd K L Ls → (wHr b s h = (s.2.1 217 (B + q0).toNat).toInt ↔ hwd K L W Ls h = W q0) := by
  intro g hg
  obtain ⟨i, j, t, q, h1, h2, e⟩ := hd_dc hg
  have hw := (hd_fact h h1 h2).1.2
  obtain ⟨-, -, -, t4⟩ := tb_hd (W := W) (ar := ar) (TN := TN) h1 h2
  have r := (hr_at hS h1 h2).1.1.1
  rw [← e] at r t4
  unfold wHr
  rw [r, t4]
  exact (hS.1.2.1 q q0 hw.1 hw.2.1 hq.1 hq.2.1 hw.2.2 hq.2.2).symm
end ZSK
