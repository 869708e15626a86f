/-! ===== the reference: a TYPE in an E; small steps ===== -/
section ZLT
variable {K L W ar kd : Int → Int} {n lo hi B b A0 x y β0 β1 : Int} {TN Ls Z : List Int} {S : Scp} {s s' : yS} {d m : Nat} {a1 a2 : Int32} {z z' t c l : Int}
theorem RVh_of (hI : EIn K L W ar kd TN Ls n B b A0 x y β0 β1 S s) : RVh K L W ar n B b β0 β1 s S.1 S.2.1 TN := ⟨hI.1.1.2.1, hI.1.1.2.2.1, hI.2.1, hI.1.1.2.2.2.1, hI.1.1.2.2.2.2.1⟩
/-- resolve of a TYPE in an E -/
theorem er_204 (hW : EWd K L W ar kd TN Ls n lo hi B b β0 β1 S) (hI : EIn K L W ar kd TN Ls n B b A0 x y β0 β1 S s) (h8 : (s.1 8).toInt = 0) (hm : m ≤ 10) (ha : a1.toInt = z) (hT : yT K L B s m z z' t) (hp : (p_t K L m false (0, t)).1 = 0) (ht : 0 ≤ t) (hn : nxT K L t ≤ n) (hD : ∀ v, t ≤ v → v < nxT K L t → nsD K L Ls v) (hA : (s.1 65).toInt + (nxT K L t - t) ≤ 100000) : Par d 204 [.ref 213, .int a1, .int 0] s (fun v s' => v = none ∧ EF0 (nsD K L Ls) B A0 s s' ∧ (s'.1 8).toInt = (tlT K L (cdOf W S.1 S.2.1 TN) ar 10 t).1 ∧ ((tlT K L (cdOf W S.1 S.2.1 TN) ar 10 t).1 = 0 → EFl s s' ∧ NFx z z' s s' ∧ ((s'.1 65).toInt ≤ (s.1 65).toInt + (nxT K L t - t) ∧ s'.1 64 = s.1 64) ∧ RSn K L B (wdT K L (cdOf W S.1 S.2.1 TN) ar β0 β1) s' (s'.1 65).toInt z t ∧ (s.1 65).toInt ≤ (s'.2.1 231 z.toNat).toInt)) := by
  obtain ⟨hP, hS, -, hB, hb⟩ := hW
  obtain ⟨s1, s2, s3, ⟨s4, s5, s6⟩, ⟨s7, s8⟩, s9, s10⟩ := hS
  have hp10 : (p_t K L 10 false (0, t)).1 = 0 := by
    rw [pt_mono m 10 hm false (0, t) hp]
    exact hp
  have hT10 := yT_mono m 10 z z' t hm hT
  have hnx := (pt_g 10 (by omega) false t hp10).2.2
  have hA0 : A0 ≤ (s.1 65).toInt := hI.2.2.1.1
  have h10 : 10 ≤ A0 := hI.1.2.2.2.2.2.1.1
  have hlow := hI.1.2.2.2.2.2.1.2
  have hz0 : 0 ≤ z := by
    cases m with
    | zero => exact hT.elim
    | succ m => exact hT.1.1
  refine Par.imp (Par_and (x_204 (W := W) (hf := S.1) (tp := S.2.1) (TN := TN) (ar := ar) hP.1.1 hb hB s1 s2 s3 s4 s5 s6 s7 s8 s9 10 (Nat.le_refl _) d a1 0 z z' t (s.1 65).toInt s ha (by decide) ht hp10 (by rw [← hnx]; exact hn) hT10 h8 rfl (by omega) (RVh_of hI)) (xf_204 d a1 0 s (by decide))) ?_
  rintro v s' ⟨⟨rfl, r1, r2, r3⟩, -, f1, f2⟩
  have tk := yT_tok 10 _ _ _ (by decide) hT10 hp10
  have hl := tlT_le (cd := cdOf W S.1 S.2.1 TN) (ar := ar) 10 t (Nat.le_refl _) hp10
  refine ⟨rfl, ⟨fun k hk => r1.1 k (fun e => hk (by unfold fEx; omega)) (fun e => hk (by unfold fEx; omega)), r1.2.1, fun q hq => r1.2.2.1 q (fun e => hq (by unfold rEx; omega)) (fun e => hq (by unfold rEx; omega)) (fun e => hq (by unfold rEx; omega)), fun j _ => by rw [r1.2.2.1 226 (by decide) (by decide) (by decide)], fun j _ => by rw [r1.2.2.1 230 (by decide) (by decide) (by decide)], fun q j hq hj => r1.2.2.2.1 q j hq (fun w => hj ?_), fun j hj => r1.2.2.2.2 j (by omega)⟩, r2, fun h0 => ?_⟩
  · have := tk (j : Int) w.1 w.2
    rw [Int.toNat_natCast] at this
    exact hD _ (by omega) (by omega)
  · obtain ⟨q1, q2, q3, q4⟩ := r3 h0
    have k : ∀ k, ¬ k = 8 → ¬ k = 65 → s'.1 k = s.1 k := r1.1
    refine ⟨⟨⟨k 70 (by decide) (by decide), k 76 (by decide) (by decide), k 77 (by decide) (by decide), k 78 (by decide) (by decide)⟩, ⟨f1, by rw [k 64 (by decide) (by decide)]; exact Int.le_refl _⟩, fun j hj => f2 j (by omega), fun q j hq _ => by rw [r1.2.2.1 q (by omega) (by omega) (by omega)], fun q j hq _ => by rw [r1.2.2.1 q (by omega) (by omega) (by omega)]⟩, fun q j hq hj => ?_, ⟨by omega, k 64 (by decide) (by decide)⟩, ⟨z', yT_eq 10 _ _ _ hT10 ⟨fun p i hq _ _ => by rw [r1.2.2.1 p (by omega) (by omega) (by omega)], fun i _ _ => by rw [r1.2.2.1 225 (by decide) (by decide) (by decide)]⟩, q2, fun j j1 j2 => by rw [q1]; exact (q3 j j1 j2).2, fun j j1 j2 => by have := (q3 j j1 j2).1; omega⟩, by rw [q4]; exact Int.le_refl _⟩
    by_cases w : q = 231 ∨ q = 232
    · exact r1.2.2.2.1 q j w hj
    · rw [r1.2.2.1 q (fun e => w (Or.inl e)) (fun e => w (Or.inr e)) (by omega)]
theorem wdT_wdC : wdT K L (cdOf W S.1 S.2.1 TN) ar β0 β1 10 t = (wdC K L W ar TN S.1 S.2.1 t).map (rhE ar β0 β1) := by
  unfold wdT wdC
  rw [List.map_map]
  rfl
/-- a TYPE that is told: its shape -/
theorem wdE_ok (hW : EWd K L W ar kd TN Ls n lo hi B b β0 β1 S) (h0 : (tlT K L (cdOf W S.1 S.2.1 TN) ar 10 t).1 = 0) (hp : (p_t K L 10 false (0, t)).1 = 0) : isR ar 1 (wdC K L W ar TN S.1 S.2.1 t) ∧ ((wdC K L W ar TN S.1 S.2.1 t).length ≤ 60 ∧ cdT (TN.length : Int) (wdC K L W ar TN S.1 S.2.1 t)) ∧ cdW (S.2.1.length : Int) (S.1.length : Int) (wdC K L W ar TN S.1 S.2.1 t) := by
  obtain ⟨hP, hS, -, -, -⟩ := hW
  obtain ⟨-, -, -, ⟨s4, s5, s6⟩, -, -, s10⟩ := hS
  have hcd : ∀ v, 0 ≤ cdOf W S.1 S.2.1 TN v → cdP (TN.length : Int) (S.2.1.length : Int) (S.1.length : Int) (cdOf W S.1 S.2.1 TN v) := fun v hv => cdP_of s4 s5 s6 hv
  obtain ⟨⟨r1, -⟩, r3⟩ := tlT_R (cd := cdOf W S.1 S.2.1 TN) (fun v => (cdOf_b s4 s5 s6).2.1) (fun c => (s10 c).1) 10 t (by decide) hp h0
  have r4 := tlT_P hcd 10 t h0
  unfold wdC
  refine ⟨r1, ⟨by rw [List.length_map]; exact r3, fun v hv => ?_⟩, fun v hv => ?_⟩
  · obtain ⟨q, hq, rfl⟩ := List.mem_map.mp hv
    exact (r4 q hq).2.2.2.2
  · obtain ⟨q, hq, rfl⟩ := List.mem_map.mp hv
    obtain ⟨k1, k2, k3, k4, -⟩ := r4 q hq
    exact ⟨k1, k2, k3, k4⟩
/-- the TYPE of a node stands at its place -/
theorem ty_of (hW : EWd K L W ar kd TN Ls n lo hi B b β0 β1 S) (hI : EIn K L W ar kd TN Ls n B b A0 x y β0 β1 S s) (hA : (s.1 65).toInt ≤ 100000) (hz : RSn K L B (wdT K L (cdOf W S.1 S.2.1 TN) ar β0 β1) s (s.1 65).toInt z t) (h0 : (tlT K L (cdOf W S.1 S.2.1 TN) ar 10 t).1 = 0) (hp : (p_t K L 10 false (0, t)).1 = 0) : 0 ≤ z ∧ TYp ar (TN.length : Int) β0 β1 (S.2.1.length : Int) (S.1.length : Int) s (s.2.1 231 z.toNat).toInt (s.2.1 232 z.toNat).toInt (wdC K L W ar TN S.1 S.2.1 t) := by
  obtain ⟨e1, e2, e3, e4⟩ := RSn_e hz
  rw [wdT_wdC, List.length_map] at e2 e3
  rw [wdT_wdC] at e4
  have h100 := hI.2.2.1.2.1
  exact ⟨e1, Or.inl e2.2, e3, ⟨e2.1, by omega⟩, e4, wdE_ok hW h0 hp⟩
/-- bounds of a TYPE in an E -/
theorem eb_211 (hW : EWd K L W ar kd TN Ls n lo hi B b β0 β1 S) (hI : EIn K L W ar kd TN Ls n B b A0 x y β0 β1 S s) (h8 : (s.1 8).toInt = 0) (ha : a1.toInt = z) (hA : (s.1 65).toInt ≤ 100000) (hz : RSn K L B (wdT K L (cdOf W S.1 S.2.1 TN) ar β0 β1) s (s.1 65).toInt z t) (h0 : (tlT K L (cdOf W S.1 S.2.1 TN) ar 10 t).1 = 0) (hp : (p_t K L 10 false (0, t)).1 = 0) (ht : 0 ≤ t) (hn : nxT K L t ≤ n) : Par d 211 [.ref 213, .int a1] s (fun v s' => v = none ∧ EF0 (nsD K L Ls) B A0 s s' ∧ (s'.1 8).toInt = ffs (slG K L W ar (mvD K L W ar kd TN Ls) (Bfd K L W ar TN Ls) S.2.2.1 TN S.1 S.2.1 t) ∧ EFl s s' ∧ (∀ q j, (q < 264 ∨ 268 < q) → s'.2.1 q j = s.2.1 q j) ∧ s'.1 64 = s.1 64 ∧ s'.1 65 = s.1 65) := by
  obtain ⟨hP, hS, hSP, -, -⟩ := hW
  obtain ⟨-, -, -, ⟨s4, s5, s6⟩, -, -, -⟩ := hS
  have h100 := hI.2.2.1.2.1
  have hA0 := hI.2.2.1.1
  have he : ((s.1 70).toInt.toNat : Int) = (s.1 70).toInt := Int.toNat_of_nonneg hI.2.2.1.2.2
  refine Par.imp (sl_211 (mv := mvD K L W ar kd TN Ls) (T := (s.1 64).toInt) (e := (s.1 70).toInt.toNat) (nX := 0) (nY := 0) hP (RST_A hI.1 hA0) (by omega) rfl hSP s4 s5 rfl hz ha h0 hp ⟨ht, hn⟩ ⟨WFr_rf, rfl, he.symm⟩ h8) ?_
  rintro v s' ⟨rfl, w1, ⟨w2, w3⟩, w4⟩
  refine ⟨rfl, EF0_wf w1 (by omega), w4, EFl_wf w1 rfl he.symm w3 (by rw [w2]; exact Int.le_refl _) (by omega), w1.2.2.1, w2, w1.1 65 (by decide) (by decide) (by decide) (by decide) (by decide) (by decide) (by decide)⟩
theorem x_216 : Par d 216 [.ref 213, .int a1, .int a2] s (fun v s' => v = none ∧ s' = sf (sf s 80 a1) 81 a2) := by
  cases d with
  | zero => exact Par_0
  | succ d =>
    refine pb_216 ?_
    unfold ub_216_0
    rintro s1 rfl s2 rfl
    exact ⟨rfl, rfl⟩
/-- the code of a TYPE's first element -/
theorem TYp_c (hb : bOK β0 β1) (ha : ∀ c, 0 ≤ ar c ∧ ar c ≤ 7) {nT nX nY p : Int} (g : TYp ar nT β0 β1 nX nY s p l (c :: Z)) : (s.2.1 264 p.toNat).toInt / 8 = rhC β0 β1 c ∧ KI (s.2.1 264) p / 8 = rhC β0 β1 c ∧ (0 ≤ c ∧ c < 36) ∧ (c < 24 → c < nT ∧ rhC β0 β1 c = c) ∧ (24 ≤ c → 1000 ≤ rhC β0 β1 c) ∧ 0 ≤ p := by
  obtain ⟨-, -, ⟨g1, -⟩, g2, -, ⟨-, g3⟩, g4⟩ := g
  have e := g2 0 (rhE ar β0 β1 c) rfl
  have c1 := g4 c List.mem_cons_self
  have c2 := g3 c List.mem_cons_self
  have e0 : p + ((0 : Nat) : Int) = p := Int.add_zero p
  rw [e0] at e
  have e' := e
  rw [KI_p g1] at e'
  have hd := rhE_d (b0 := β0) (b1 := β1) (ha c)
  refine ⟨by rw [e', hd], by rw [e, hd], ⟨c1.1, c1.2.1⟩, fun w => ⟨c2 w, ?_⟩, fun w => ?_, g1⟩
  · unfold rhC
    rw [if_pos w]
  · unfold rhC
    unfold bOK at hb
    rw [if_neg (by omega)]
    by_cases h30 : c < 30
    · rw [if_pos h30]
      omega
    · rw [if_neg h30, if_pos c1.2.1]
      omega
/-- isOfStruct -/
theorem x_220 (hW : EWd K L W ar kd TN Ls n lo hi B b β0 β1 S) (hI : EIn K L W ar kd TN Ls n B b A0 x y β0 β1 S s) {nX nY : Int} (g : TYp ar (TN.length : Int) β0 β1 nX nY s a1.toInt l (c :: Z)) : Par d 220 [.ref 213, .int a1] s (fun v s' => s' = s ∧ ∃ r : Int32, v = some (.int r) ∧ ((r.toInt = 1 ∧ kd c = 1) ∨ (r.toInt = 0 ∧ ¬ kd c = 1))) := by
  cases d with
  | zero => exact Par_0
  | succ d =>
    obtain ⟨hP, -, hSP, -, -⟩ := hW
    obtain ⟨ha, -⟩ := PR_ar hP
    obtain ⟨c1, -, c3, c4, c5, -⟩ := TYp_c hSP.1 ha g
    have hnT := PR_nT hP
    have h24 := hP.2.2.1.1
    have hG := (PG_of hP hI.1).2.1
    have hb := hI.1.1.1
    refine pb_220 ?_
    unfold ub_220_0
    intro _
    refine Par.imp x_185 ?_
    rintro v2 s1 ⟨hs1, x3, rfl, hx3⟩
    subst hs1
    rw [c1] at hx3
    refine ⟨x3, rfl, fun w => ?_, fun w _ x4 hx4 _ => Par.imp x_185 ?_⟩
    · unfold ub_220_23 ub_220_24
      refine fun _ => ⟨rfl, 0, rfl, Or.inr ⟨by decide, fun q => ?_⟩⟩
      have c24 : 24 ≤ c := by
        rcases Int.lt_or_le c 24 with q2 | q2
        · have := (c4 q2).2
          omega
        · exact q2
      have := hP.2.2.2.2.2.1 c (Or.inr (by omega))
      omega
    · rintro v6 s5 ⟨hs5, x7, rfl, hx7⟩
      subst hs5
      rw [c1] at hx7
      have c24 : c < 24 := by
        rcases Int.lt_or_le c 24 with q2 | q2
        · exact q2
        · have := c5 q2
          omega
      obtain ⟨n1, n2⟩ := c4 c24
      refine ⟨x7, rfl, fun _ x8 hx8 _ => ?_⟩
      have e8 : x8.toInt = 24 * b + c := by omega
      rw [e8]
      unfold ub_220_23 ub_220_24
      have := (hG c c3.1 n1).1
      refine ⟨fun w2 _ => ⟨rfl, 0, rfl, Or.inr ⟨by decide, fun q => by omega⟩⟩, fun w2 _ => ⟨rfl, 1, rfl, Or.inl ⟨by decide, by omega⟩⟩⟩
end ZLT
