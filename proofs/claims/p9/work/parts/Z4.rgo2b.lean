/-! ===== the reference: goThrough, time 2, a declaration ===== -/
section Z4G
variable {K L W ar kd : Int → Int} {n lo hi B b A x y T : Int} {TN Ls : List Int} {i j d e : Nat} {t q : Int} {s u : yS} {mv : List Int → List Int → List Int → Int} {a1 a2 : Int32}
theorem bnD_lo {Bf : Int → List (List Int)} {hd : Nat → Nat × Nat × List (List Int)} {c h : Int} {k : Nat} (hk : k < 6) : bnD Bf hd c h (24 + (k : Int)) = (Bf c).getD k [] := by
  unfold bnD
  rw [if_pos (by omega), show (24 + (k : Int) - 24).toNat = k by omega]
theorem bnD_hi {Bf : Int → List (List Int)} {hd : Nat → Nat × Nat × List (List Int)} {c : Int} {h k : Nat} : bnD Bf hd c (h : Int) (30 + (k : Int)) = (hd h).2.2.getD k [] := by
  unfold bnD
  rw [if_neg (by omega), if_neg (by omega), Int.toNat_natCast, show (30 + (k : Int) - 30).toNat = k by omega]
/-- headBounds of HEAD j of declaration i -/
theorem hd_213 (h : PRm K L W ar kd n lo hi TN Ls) (hS : RST K L W ar kd TN Ls n B b A x y s) (hA : A ≤ T) (hT : (s.1 64).toInt = T) (hmv : mv = mtV ar kd (rso kd (cfO K L W TN Ls) (fsd K L Ls) (kFn K Ls) (tmd K L Ls) (tnd K L Ls) (hwd K L W Ls)) (hwd K L W Ls) (hdd K L W ar TN Ls) (tmd K L Ls) (tnd K L Ls)) (h1 : Ls[i]? = some t) (h2 : (dHd K L t)[j]? = some q) (ha : a1.toInt = 204 * b + ((kHd K L (Ls.take i) + j : Nat) : Int)) (hu : UUr T (e : Int) s u) (h8 : (u.1 8).toInt = 0) : Par d 213 [.ref 213, .int a1] u (BNq T (e : Int) (ffs ((hSlt K L ((kHd K L (Ls.take i) + j : Nat) : Int) (0, q + 1)).flatMap (slL K L W ar mv TN Ls (dTp K L t) (dOw K L W TN (kTy K (Ls.take i)) t)))) u) := by
  obtain ⟨⟨p1, p2⟩, ⟨l1, l2⟩, n1, n2, hf, hx⟩ := hd_fact h h1 h2
  obtain ⟨r1, r2⟩ := hr_at hS h1 h2
  obtain ⟨s1, s2, s3⟩ := hSlt_at (K := K) (L := L) (q := q) (h := ((kHd K L (Ls.take i) + j : Nat) : Int))
  obtain ⟨tp6, -⟩ := tp_fact h h1
  have hH := hH_204 h hS
  have t3 := (tb_hd (W := W) (ar := ar) (TN := TN) h1 h2).2.2.1
  have hfl := hd_len p1
  have hSP := SP_hd h hH h1 h2 (bn := bnD (Bfd K L W ar TN Ls) (hdd K L W ar TN Ls) (dOw K L W TN (kTy K (Ls.take i)) t) ((kHd K L (Ls.take i) + j : Nat) : Int)) (fun k hk => by rw [bnD_lo (by omega), t3]; rfl) (fun k hk => bnD_hi)
  have one : ∀ (z : Int × Int × Int × Int), z ∈ hSlt K L ((kHd K L (Ls.take i) + j : Nat) : Int) (0, q + 1) → ∀ (d : Nat) (a : Int32) (v : yS) (z0 : Int), a.toInt = z0 → RSn K L B (wHd K L W ar TN (dTp K L t) (hbd K L Ls (kHd K L (Ls.take i) + j)) b (204 * b + ((kHd K L (Ls.take i) + j : Nat) : Int)) q) s A z0 z.2.2.1 → UUr T (e : Int) s v → (v.1 8).toInt = 0 → Par d 211 [.ref 213, .int a] v (BNq T (e : Int) (ffs (slL K L W ar mv TN Ls (dTp K L t) (dOw K L W TN (kTy K (Ls.take i)) t) z)) v) := by
    intro z hz d a v z0 ha hR hv h8
    obtain ⟨z1, z2, z3, z4, -⟩ := hx z hz
    obtain ⟨-, -, ⟨o1, o2⟩, -⟩ := slot_ok h h1 (hSlt_sub h h1 h2 z hz) z1
    have es : slL K L W ar mv TN Ls (dTp K L t) (dOw K L W TN (kTy K (Ls.take i)) t) z = slG K L W ar mv (Bfd K L W ar TN Ls) (bnD (Bfd K L W ar TN Ls) (hdd K L W ar TN Ls) (dOw K L W TN (kTy K (Ls.take i)) t) ((kHd K L (Ls.take i) + j : Nat) : Int)) TN (h_f K L (0, q + 1)) (dTp K L t) z.2.2.1 := by
      unfold slL
      rw [if_neg (by omega), z2, hf]
    rw [es]
    unfold wHd at hR
    rw [show 204 * b + ((kHd K L (Ls.take i) + j : Nat) : Int) - 204 * b = ((kHd K L (Ls.take i) + j : Nat) : Int) by omega] at hR
    have hlo := h.1.2.2.1
    have hhi := h.1.2.2.2
    exact sl_211 h hS hA hT (nX := 0) (nY := 0) hSP l1 tp6 hmv hR ha z3 z4 ⟨by omega, by omega⟩ hv h8
  refine x_213 ha (hSlt_len) r1.1.2.1 r1.2.1.1 (fun k z hk hz d v hv h8 => ?_) (fun k z hk hz d v hv h8 => ?_) (fun z hz d v hv h8 => ?_) hu h8
  · have hv' := List.getElem?_eq_getElem hk
    have e1 := s1 k _ hv'
    rw [hz] at e1
    have e2 : z = ((h_f K L (0, q + 1))[k], 0, (h_f K L (0, q + 1))[k] + 1, ((kHd K L (Ls.take i) + j : Nat) : Int)) := Option.some.inj e1
    refine one z (List.mem_of_getElem? hz) d _ v _ rfl ?_ hv h8
    rw [e2]
    exact r2.1 k _ hv'
  · have hv' := List.getElem?_eq_getElem hk
    have e1 := s2 k _ hv'
    rw [hz] at e1
    have e2 : z = ((h_v K L (0, q + 1))[k], 3, (h_v K L (0, q + 1))[k] + 1, ((kHd K L (Ls.take i) + j : Nat) : Int)) := Option.some.inj e1
    refine one z (List.mem_of_getElem? hz) d _ v _ rfl ?_ hv h8
    rw [e2]
    exact r2.2.1 k _ hv'
  · have e1 := s3
    rw [hz] at e1
    have e2 : z = (-1, 4, (h_3 K L (0, q + 1)).2, ((kHd K L (Ls.take i) + j : Nat) : Int)) := Option.some.inj e1
    refine one z (List.mem_of_getElem? hz) d _ v _ rfl ?_ hv h8
    rw [e2]
    exact r2.2.2
set_option maxHeartbeats 1000000 in
/-- goThrough at time 2 -/
theorem x_231t (h : PRm K L W ar kd n lo hi TN Ls) (hS : RST K L W ar kd TN Ls n B b A x y s) (hA : A ≤ T) (hT : (s.1 64).toInt = T) (hmv : mv = mtV ar kd (rso kd (cfO K L W TN Ls) (fsd K L Ls) (kFn K Ls) (tmd K L Ls) (tnd K L Ls) (hwd K L W Ls)) (hwd K L W Ls) (hdd K L W ar TN Ls) (tmd K L Ls) (tnd K L Ls)) (h30 : (s.1 30).toInt = b) (h1 : Ls[i]? = some t) (h2 : (K t = 6 → a2.toInt = 100 + (kFn K (Ls.take i) : Int)) ∧ (¬ K t = 6 → a2.toInt = (kTy K (Ls.take i) : Int))) (hu : UUr T (e : Int) s u) (h8 : (u.1 8).toInt = 0) : Par d 231 [.ref 213, .int 2, .int a2] u (BNq T (e : Int) (ffs (dcL K L W ar mv TN Ls i t)) u) := by
  cases d with
  | zero => exact Par_0
  | succ d =>
    have hb : 0 ≤ b := hS.2.2.2.2.2.2
    have e30 : (u.1 30).toInt = b := by
      rw [hu.1.1 30 (by decide) (by decide) (by decide) (by decide) (by decide) (by decide) (by decide)]
      exact h30
    have z2 : (2 : Int32).toInt = 2 := by decide
    have hT24 := h.2.2.1.1
    refine pb_231 ?_
    unfold ub_231_0
    rw [e30, z2]
    intro _ x1 hx1 _ x2 hx2 _ x3 hx3 _ x4 hx4 _ x5 hx5
    refine ⟨fun _ => ⟨fun _ => ⟨fun w _ => ?_, fun w => ?_⟩, fun w => absurd w (by decide)⟩, fun w => absurd w (by decide)⟩
    · have h6 : K t = 6 := by
        by_cases z : K t = 6
        · exact z
        · have := h2.2 z
          have := kTy_lt h1 z
          omega
      have e2 := h2.1 h6
      have e5 : x5.toInt = 60 * b + (kFn K (Ls.take i) : Int) := by omega
      have hd0 : (dHd K L t)[0]? = some (f_5 K L false (0, t)).2 := by
        unfold dHd
        rw [if_pos h6]
        rfl
      have e257 : (u.2.1 257 x5.toInt.toNat).toInt = 204 * b + ((kHd K L (Ls.take i) + 0 : Nat) : Int) := by
        rw [hu.1.2.2.1 _ _ (by decide), e5]
        exact ((hS.2.1 i t h1).1 h6).2.2.1
      have ed : ffs (dcL K L W ar mv TN Ls i t) = ffs ((hSlt K L ((kHd K L (Ls.take i) + 0 : Nat) : Int) (0, (f_5 K L false (0, t)).2 + 1)).flatMap (slL K L W ar mv TN Ls (dTp K L t) (dOw K L W TN (kTy K (Ls.take i)) t))) := by
        obtain ⟨d1, d2, -⟩ := dcC_at Ls i t lo hi h.1.2.1 h1
        obtain ⟨f1, f2, f3, f4, f5, f6, f7, -⟩ := f7_fw (fn_fw (d2 h6).1).1
        have e6 : f_6 K L false (0, t) = (0, (f_5 K L false (0, t)).2 + 1) := by
          rw [f7, f6]
          show ((0 : Int), (f_4 K L false (0, t)).2 + 2) = (0, (f_4 K L false (0, t)).2 + 1 + 1)
          rw [show (f_4 K L false (0, t)).2 + 2 = (f_4 K L false (0, t)).2 + 1 + 1 by omega]
        unfold dcL sDc
        rw [if_pos h6]
        unfold fSlt
        rw [e6]
        show ffs (slL K L W ar mv TN Ls (dTp K L t) (dOw K L W TN (kTy K (Ls.take i)) t) ((f_1 K L false (0, t)).2, 3, -1, (kHd K L (Ls.take i) : Int)) ++ (prS (kHd K L (Ls.take i) : Int) (fPa K L false (0, t)) ++ hSlt K L (kHd K L (Ls.take i) : Int) (0, (f_5 K L false (0, t)).2 + 1)).flatMap (slL K L W ar mv TN Ls (dTp K L t) (dOw K L W TN (kTy K (Ls.take i)) t))) = _
        rw [List.flatMap_append, Nat.add_zero]
        have n1 : slL K L W ar mv TN Ls (dTp K L t) (dOw K L W TN (kTy K (Ls.take i)) t) ((f_1 K L false (0, t)).2, 3, -1, (kHd K L (Ls.take i) : Int)) = [] := if_pos (show (-1 : Int) < 0 by decide)
        have n2 : (prS (kHd K L (Ls.take i) : Int) (fPa K L false (0, t))).flatMap (slL K L W ar mv TN Ls (dTp K L t) (dOw K L W TN (kTy K (Ls.take i)) t)) = [] := by
          unfold prS
          rw [List.flatMap_map, List.flatMap_eq_nil_iff]
          intro z _
          exact if_pos (show (-1 : Int) < 0 by decide)
        rw [n1, n2, List.nil_append, List.nil_append]
      rw [ed]
      refine Par.imp (hd_213 h hS hA hT hmv h1 hd0 e257 hu h8) ?_
      intro v u' hu'
      exact ⟨hu'.1, ⟨rfl, hu'.2⟩⟩
    · have h6 : ¬ K t = 6 := fun z => by
        have := h2.1 z
        omega
      have e2 := h2.2 h6
      have e2' : x2.toInt = 24 * b + (kTy K (Ls.take i) : Int) := by omega
      have hSs := hS
      obtain ⟨-, hA0, hD0, -⟩ := hS
      obtain ⟨y1, m0, m1, m2⟩ := ((hA0 i t h1).2 h6).2
      obtain ⟨-, y2, y3, -, y5, y6⟩ := y1
      obtain ⟨k1, k2, k3⟩ := (hD0 i t h1).2 h6
      obtain ⟨f1, f2⟩ := ty_fact h h1 h6
      have ed : dTp K L t = tFo K L false (0, t) := if_neg h6
      have eo : dOw K L W TN (kTy K (Ls.take i)) t = (kTy K (Ls.take i) : Int) := if_neg h6
      have hSP := SP_ty h h1 h6 (bn := bnD (Bfd K L W ar TN Ls) (hdd K L W ar TN Ls) (kTy K (Ls.take i) : Int) (-1)) (fun k hk => bnD_lo (by omega))
      have es : sDc K L (kHd K L (Ls.take i) : Int) t = tSlt K L (kHd K L (Ls.take i) : Int) false (0, t) := if_neg h6
      have hlo := h.1.2.2.1
      have hhi := h.1.2.2.2
      have one : ∀ (v : Int) (k : Int), (v, k, v + 1, -1) ∈ sDc K L (kHd K L (Ls.take i) : Int) t → 0 ≤ v → (tlT K L (cdOf W [] (tFo K L false (0, t)) TN) ar 10 (v + 1)).1 = 0 → (p_t K L 10 false (0, v + 1)).1 = 0 → ∀ (d : Nat) (a : Int32) (z : yS) (z0 : Int), a.toInt = z0 → RSn K L B (wTy K L W ar TN (tFo K L false (0, t)) (1000 + 6 * (24 * b + (kTy K (Ls.take i) : Int) - 24 * b))) s A z0 (v + 1) → UUr T (e : Int) s z → (z.1 8).toInt = 0 → Par d 211 [.ref 213, .int a] z (BNq T (e : Int) (ffs (slL K L W ar mv TN Ls (dTp K L t) (dOw K L W TN (kTy K (Ls.take i)) t) (v, k, v + 1, -1))) z) := by
        intro v k hm h0 q1 q2 d a z z0 haz hR hz hz8
        obtain ⟨-, -, ⟨o1, o2⟩, -⟩ := slot_ok h h1 hm (by show 0 ≤ v + 1; omega)
        have o1' : lo ≤ v + 1 := o1
        have o2' : nxT K L (v + 1) ≤ hi := o2
        have e1 : slL K L W ar mv TN Ls (dTp K L t) (dOw K L W TN (kTy K (Ls.take i)) t) (v, k, v + 1, -1) = slG K L W ar mv (Bfd K L W ar TN Ls) (bnD (Bfd K L W ar TN Ls) (hdd K L W ar TN Ls) (kTy K (Ls.take i) : Int) (-1)) TN [] (tFo K L false (0, t)) (v + 1) := by
          unfold slL
          rw [if_neg (by show ¬ v + 1 < 0; omega), ed, eo]
          show slG K L W ar mv (Bfd K L W ar TN Ls) _ TN (hfS K L Ls (-1)) _ _ = _
          rw [hfS_n]
        rw [e1]
        unfold wTy at hR
        rw [show 1000 + 6 * (24 * b + (kTy K (Ls.take i) : Int) - 24 * b) = 1000 + 6 * (kTy K (Ls.take i) : Int) by omega] at hR
        exact sl_211 h hSs hA hT (nX := 0) (nY := 0) hSP (Nat.zero_le _) y3 hmv hR haz q1 q2 ⟨by omega, by omega⟩ hz hz8
      have hS1 : ∀ (k : Nat) (z : Int × Int × Int × Int), k < (tFo K L false (0, t)).length → (nmS 0 (-1) (tFo K L false (0, t)))[k]? = some z → ∀ (d : Nat) (v : yS), UUr T (e : Int) s v → (v.1 8).toInt = 0 → Par d 211 [.ref 213, .int (s.2.1 238 (6 * (24 * b + (kTy K (Ls.take i) : Int)) + (k : Int)).toNat)] v (BNq T (e : Int) (ffs (slL K L W ar mv TN Ls (dTp K L t) (dOw K L W TN (kTy K (Ls.take i)) t) z)) v) := by
        intro k z hk hz d v hv hv8
        have hv' := List.getElem?_eq_getElem hk
        have e1 := nmS_at (kd' := 0) (sg := -1) hv'
        rw [hz] at e1
        have e3 : z = ((tFo K L false (0, t))[k], 0, (tFo K L false (0, t))[k] + 1, -1) := Option.some.inj e1
        obtain ⟨o1, o2, o3, -⟩ := f1 _ (List.mem_of_getElem? hv')
        rw [e3]
        refine one _ 0 ?_ o1 o2 o3 d _ v _ rfl (k1 k _ hv') hv hv8
        rw [es]
        unfold tSlt
        refine List.mem_append_left _ ?_
        rw [← e3]
        exact List.mem_of_getElem? hz
      by_cases hst : tSt K L false (0, t) = true
      · obtain ⟨q1, q2, -⟩ := m1 hst
        have hdl : dcL K L W ar mv TN Ls i t = (nmS 0 (-1) (tFo K L false (0, t))).flatMap (slL K L W ar mv TN Ls (dTp K L t) (dOw K L W TN (kTy K (Ls.take i)) t)) ++ (nmS 2 (-1) (tMe K L false (0, t))).flatMap (slL K L W ar mv TN Ls (dTp K L t) (dOw K L W TN (kTy K (Ls.take i)) t)) ++ ([] : List (List Int)).flatten := by
          unfold dcL
          rw [es]
          unfold tSlt
          rw [if_pos hst, List.flatMap_append, List.flatten_nil, List.append_nil]
        rw [hdl]
        refine Par.imp (x_214 (n3 := 0) (S1 := nmS 0 (-1) (tFo K L false (0, t))) (S2 := nmS 2 (-1) (tMe K L false (0, t))) (H := ([] : List (List Int))) e2' nmS_len nmS_len rfl y2 q1 y6 (by rw [q2]; rfl) hS1 (fun k z hk hz d v hv hv8 => ?_) (fun k z hk => absurd hk (Nat.not_lt_zero _)) hu h8) ?_
        · have hv' := List.getElem?_eq_getElem hk
          have e1 := nmS_at (kd' := 2) (sg := -1) hv'
          rw [hz] at e1
          have e3 : z = ((tMe K L false (0, t))[k], 2, (tMe K L false (0, t))[k] + 1, -1) := Option.some.inj e1
          obtain ⟨o1, o2, o3⟩ := f2 hst _ (List.mem_of_getElem? hv')
          rw [e3]
          refine one _ 2 ?_ o1 o2 o3 d _ v _ rfl (k2 hst k _ hv') hv hv8
          rw [es]
          unfold tSlt
          rw [if_pos hst]
          refine List.mem_append_right _ ?_
          rw [← e3]
          exact List.mem_of_getElem? hz
        · intro v u' hu'
          exact ⟨hu'.1, ⟨rfl, hu'.2⟩⟩
      · have hst' : tSt K L false (0, t) = false := by
          cases hb : tSt K L false (0, t) with
          | false => rfl
          | true => exact absurd hb hst
        obtain ⟨q1, q2, -⟩ := m2 hst'
        have hdd0 : dHd K L t = tMe K L false (0, t) := by
          unfold dHd
          rw [if_neg h6, if_neg hst]
        have hdl : dcL K L W ar mv TN Ls i t = (nmS 0 (-1) (tFo K L false (0, t))).flatMap (slL K L W ar mv TN Ls (dTp K L t) (dOw K L W TN (kTy K (Ls.take i)) t)) ++ ([] : List (Int × Int × Int × Int)).flatMap (slL K L W ar mv TN Ls (dTp K L t) (dOw K L W TN (kTy K (Ls.take i)) t)) ++ ((List.range (tMe K L false (0, t)).length).map (fun j => (hSlt K L ((kHd K L (Ls.take i) + j : Nat) : Int) (0, (tMe K L false (0, t)).getD j 0 + 1)).flatMap (slL K L W ar mv TN Ls (dTp K L t) (dOw K L W TN (kTy K (Ls.take i)) t)))).flatten := by
          unfold dcL
          rw [es]
          unfold tSlt
          rw [if_neg hst, List.flatMap_append, hsL_fm, List.flatMap_nil, List.append_nil]
        rw [hdl]
        refine Par.imp (x_214 (n2 := 0) (n3 := (tMe K L false (0, t)).length) (S1 := nmS 0 (-1) (tFo K L false (0, t))) (S2 := ([] : List (Int × Int × Int × Int))) (H := (List.range (tMe K L false (0, t)).length).map (fun j => (hSlt K L ((kHd K L (Ls.take i) + j : Nat) : Int) (0, (tMe K L false (0, t)).getD j 0 + 1)).flatMap (slL K L W ar mv TN Ls (dTp K L t) (dOw K L W TN (kTy K (Ls.take i)) t)))) e2' nmS_len rfl (by rw [List.length_map, List.length_range]) y2 (by rw [q1]; rfl) y6 q2 hS1 (fun k z hk => absurd hk (Nat.not_lt_zero _)) (fun k z hk hz d a v hav hv hv8 => ?_) hu h8) ?_
        · rw [List.getElem?_map, List.getElem?_range hk] at hz
          have e3 := Option.some.inj hz
          have hv' := List.getElem?_eq_getElem hk
          have e4 : (tMe K L false (0, t)).getD k 0 = (tMe K L false (0, t))[k] := by rw [List.getD_eq_getElem?_getD, hv']; rfl
          dsimp only at e3
          rw [e4] at e3
          rw [← e3]
          exact hd_213 h hSs hA hT hmv h1 (by rw [hdd0]; exact hv') (by omega) hv hv8
        · intro v u' hu'
          exact ⟨hu'.1, ⟨rfl, hu'.2⟩⟩
end Z4G
