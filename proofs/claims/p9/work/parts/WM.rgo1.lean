/-! ===== the reference: goThrough the second time, all declarations ===== -/
/-- declaration i (token t) was told -/
def RDc (K L W ar : Int → Int) (TN : List Int) (B b : Int) (Ls : List Int) (u : yS) (A : Int) (i : Nat) (t : Int) : Prop := (K t = 6 → RHD K L B (wHd K L W ar TN (fPa K L false (0, t)) (4000 + 6 * (kFn K (Ls.take i) : Int)) b (204 * b + (kHd K L (Ls.take i) : Int)) (f_5 K L false (0, t)).2) u A (204 * b + (kHd K L (Ls.take i) : Int)) (f_5 K L false (0, t)).2 ∧ (u.2.1 261 (60 * b + (kFn K (Ls.take i) : Int)).toNat).toInt = fcd K L W TN t) ∧ (¬ K t = 6 → RTY K L W ar TN B b u A (24 * b + (kTy K (Ls.take i) : Int)) (204 * b + (kHd K L (Ls.take i) : Int)) t)
/-- where a declaration ends -/
def dcE (K L : Int → Int) (t : Int) : Int := if K t = 6 then (p_fn K L false (0, t)).2 else (p_ty K L false (0, t)).2
/-- the state behind k declarations -/
def RA3 (K L W ar kd : Int → Int) (TN : List Int) (B b lo hi : Int) (Ls : List Int) (s : yS) (k : Nat) (u : yS) : Prop := k ≤ Ls.length ∧ RWf B lo hi (s.1 65).toInt s u ∧ (u.1 8).toInt = ffs ((Ls.take k).flatMap (rFs K L W ar kd TN)) ∧ 0 ≤ (u.1 8).toInt ∧ ((u.1 8).toInt = 0 → (s.1 65).toInt ≤ (u.1 65).toInt ∧ ∃ mi, lo ≤ mi ∧ (u.1 65).toInt ≤ (s.1 65).toInt + (mi - lo) ∧ dcC K L mi hi (Ls.drop k) ∧ ∀ (i : Nat) (t : Int), i < k → Ls[i]? = some t → RDc K L W ar TN B b Ls u (u.1 65).toInt i t ∧ dcE K L t ≤ mi)
section WMG
variable {d : Nat} {s s' s'' u u' : yS} {B b b0 b1 n lo hi a : Int} {K L W ar kd : Int → Int} {TN : List Int} {x y t h D A : Int} {a2 : Int32} {Ls : List Int}
theorem RTY_f (hp : (p_ty K L false (0, t)).1 = 0) (ht : 0 ≤ t) (g : RWf B lo hi a s s') (h1 : RTY K L W ar TN B b s A D h t) (h2 : (p_ty K L false (0, t)).2 ≤ lo) (h3 : A ≤ a) : RTY K L W ar TN B b s' A D h t := by
  obtain ⟨p1, p2, p3⟩ := ty_pc (kd' := 0) (sg := 0) hp
  have hty := ty_fw hp
  have wf := fo_wn hty.1
  have l2 : (y_5 K L false (0, t)).2 ≤ (p_ty K L false (0, t)).2 := by
    cases hst : tSt K L false (0, t) with
    | true => exact srtQ_le (p2 hst)
    | false => exact srtH_le (p3 hst)
  have h5 := y5_le hty.1
  refine ⟨fun i v hv => ?_, fun hst i v hv => ?_, fun hst i z hz => ?_⟩
  · have h0 := (wf v (List.mem_of_getElem? hv)).2.1
    obtain ⟨ca, cb, -, -, c3, -, c5, -⟩ := srtQ_at _ _ _ i _ p1 (nmS_at hv)
    obtain ⟨e1, e2, e3⟩ := c5 (show 0 ≤ v + 1 by omega)
    have e2' : nxT K L (v + 1) ≤ cb := e2
    rw [RWf_r g (p := 238) (by decide) (by decide) (by decide) (by decide)]
    exact RSn_f (h1.1 i v hv) e3 g (Or.inl (by omega)) h3
  · have hym : y_m K L false (0, t) = m_s K L := if_pos hst
    have h0 : 0 ≤ v := by
      have hv' := List.mem_of_getElem? hv
      unfold tMe at hv'
      rw [hym] at hv' hty
      have := (ms_wn 7 _ hty.2.2.1 v hv').2.1
      omega
    obtain ⟨ca, cb, -, -, c3, -, c5, -⟩ := srtQ_at _ _ _ i _ (p2 hst) (nmS_at hv)
    obtain ⟨e1, e2, e3⟩ := c5 (show 0 ≤ v + 1 by omega)
    have e2' : nxT K L (v + 1) ≤ cb := e2
    rw [RWf_r g (p := 241) (by decide) (by decide) (by decide) (by decide)]
    exact RSn_f (h1.2.1 hst i v hv) e3 g (Or.inl (by omega)) h3
  · obtain ⟨y1, y2, y3, y4, -⟩ := srtH_at _ _ _ i z (p3 hst) hz
    exact RHD_f y2 (by omega) (h1.2.2 hst i z hz) g (Or.inl (by omega)) h3
theorem RSn_A2 {w : Nat → Int → List Int} {A' : Int} (hA : A ≤ A') {q : Int} (g : RHD K L B w s A h q) : RHD K L B w s A' h q := ⟨fun i v hv => RSn_A (g.1 i v hv) hA, fun i v hv => RSn_A (g.2.1 i v hv) hA, RSn_A g.2.2 hA⟩
theorem RTY_A {A' : Int} (hA : A ≤ A') (g : RTY K L W ar TN B b s A D h t) : RTY K L W ar TN B b s A' D h t := ⟨fun i v hv => RSn_A (g.1 i v hv) hA, fun hst i v hv => RSn_A (g.2.1 hst i v hv) hA, fun hst i z hz => RSn_A2 hA (g.2.2 hst i z hz)⟩
theorem ffs_f {l l' : List Int} : ffs (0 :: l) = ffs l := if_pos rfl
theorem RA3_0 (hD : dcC K L lo hi Ls) (h0 : (s.1 8).toInt = 0) : RA3 K L W ar kd TN B b lo hi Ls s 0 s := by
  refine ⟨Nat.zero_le _, RWf_rf, ?_, by rw [h0]; exact Int.le_refl _, fun _ => ⟨Int.le_refl _, lo, Int.le_refl _, by omega, ?_, fun i t hi2 => absurd hi2 (Nat.not_lt_zero _)⟩⟩
  · rw [List.take_zero, h0]
    rfl
  · rw [List.drop_zero]
    exact hD
theorem fn_end (hq : (p_fn K L false (0, t)).1 = 0) : (f_5 K L false (0, t)).2 + 1 ≤ (p_hd K L (0, (f_5 K L false (0, t)).2 + 1)).2 ∧ (p_hd K L (0, (f_5 K L false (0, t)).2 + 1)).1 = 0 ∧ (p_hd K L (0, (f_5 K L false (0, t)).2 + 1)).2 ≤ (p_fn K L false (0, t)).2 ∧ t + 5 ≤ (f_5 K L false (0, t)).2 := by
  have hfn := fn_fw hq
  obtain ⟨f1, f2, f3, f4, f5, f6, f7, f8, f9, f10⟩ := f7_fw hfn.1
  have e5 : (f_5 K L false (0, t)).2 = (f_4 K L false (0, t)).2 + 1 := by rw [f6]
  have e6 : f_6 K L false (0, t) = (0, (f_5 K L false (0, t)).2 + 1) := by
    rw [f7, e5]
    show ((0 : Int), (f_4 K L false (0, t)).2 + 2) = (0, (f_4 K L false (0, t)).2 + 1 + 1)
    rw [show (f_4 K L false (0, t)).2 + 2 = (f_4 K L false (0, t)).2 + 1 + 1 by omega]
  rw [e6] at f8 f9
  have h4 := f4_le hfn.1
  have hh := (hd_fw f8).2
  have hh' : (f_5 K L false (0, t)).2 + 1 + 2 < (p_hd K L (0, (f_5 K L false (0, t)).2 + 1)).2 := hh
  have a4 := hfn.2.2.2.1
  have a5 := hfn.2.2.2.2
  have e9 : (f_7 K L false (0, t)).2 = (p_hd K L (0, (f_5 K L false (0, t)).2 + 1)).2 + 2 := by rw [f9]
  exact ⟨by omega, f8, by omega, by omega⟩
/-- one declaration more -/
theorem RA3_s {k : Nat} (hlo : 0 ≤ lo) (hDc : dcC K L lo hi Ls) (hg : RA3 K L W ar kd TN B b lo hi Ls s k u) (h0 : (u.1 8).toInt = 0) (h1 : Ls[k]? = some t) {q1 q2 : Int} (hq : (K t = 6 → q1 = (f_5 K L false (0, t)).2 + 1 ∧ q2 = (p_hd K L (0, (f_5 K L false (0, t)).2 + 1)).2) ∧ (¬ K t = 6 → q1 = t + 2 ∧ q2 = (p_ty K L false (0, t)).2)) (g : TRq B (rFs K L W ar kd TN t) q1 q2 u u' (RDc K L W ar TN B b Ls u' (u'.1 65).toInt k t)) (h261 : ∀ j : Nat, j < kFn K (Ls.take k) → u'.2.1 261 (60 * b + (j : Int)).toNat = u.2.1 261 (60 * b + (j : Int)).toNat) : RA3 K L W ar kd TN B b lo hi Ls s (k + 1) u' := by
  obtain ⟨k1, k2, k3, k4, k5⟩ := hg
  obtain ⟨r1, r2, r3, r4, r5⟩ := g
  obtain ⟨g1, mi, g2, g3, g4, g5⟩ := k5 h0
  have hk := (List.getElem?_eq_some_iff.mp h1).1
  have e : Ls.drop k = t :: Ls.drop (k + 1) := by
    rw [List.drop_eq_getElem_cons hk]
    have := (List.getElem?_eq_some_iff.mp h1).2
    rw [this]
  rw [e] at g4
  obtain ⟨c1, c2⟩ := g4
  have hend : mi ≤ q1 ∧ q1 ≤ q2 ∧ q2 ≤ dcE K L t ∧ dcE K L t ≤ hi ∧ dcC K L (dcE K L t) hi (Ls.drop (k + 1)) ∧ mi ≤ dcE K L t := by
    unfold dcE
    by_cases h6 : K t = 6
    · rw [if_pos h6] at c2 ⊢
      obtain ⟨e1, e2, e3, e4⟩ := fn_end c2.1
      obtain ⟨o1, o2⟩ := hq.1 h6
      have hle := srtQ_le (srt_al (Ls.drop (k + 1)) _ _ 0 c2.2)
      exact ⟨by omega, by omega, by omega, hle, c2.2, by omega⟩
    · rw [if_neg h6] at c2 ⊢
      obtain ⟨o1, o2⟩ := hq.2 h6
      have hle := srtQ_le (srt_al (Ls.drop (k + 1)) _ _ 0 c2.2)
      have hs := srtQ_le (srt_ty (h := 0) c2.1)
      have hs' : t + 2 ≤ (p_ty K L false (0, t)).2 := hs
      exact ⟨by omega, by omega, by omega, hle, c2.2, by omega⟩
  obtain ⟨n1, n2, n3, n4, n5, n6⟩ := hend
  refine ⟨by omega, RWf_tr k2 r1 (by omega) (by omega) g1, ?_, r3, fun h9 => ?_⟩
  · rw [r2, h0, take_s h1, List.flatMap_append, ffs_app, ← k3, h0, if_pos rfl]
    show (if (0 : Int) = 0 then ffs (rFs K L W ar kd TN t) else 0) = ffs (rFs K L W ar kd TN t ++ [])
    rw [if_pos rfl, List.append_nil]
  · obtain ⟨r6, r7, r8⟩ := r4 h9
    refine ⟨by omega, dcE K L t, by omega, by omega, n5, fun i z hi2 hz => ?_⟩
    by_cases ei : i = k
    · rw [ei, h1] at hz
      rw [← Option.some.inj hz, ei]
      exact ⟨r8, Int.le_refl _⟩
    · obtain ⟨m1, m2⟩ := g5 i z (by omega) hz
      refine ⟨⟨fun h6 => ?_, fun h6 => ?_⟩, by omega⟩
      · obtain ⟨m3, m4⟩ := m1.1 h6
        obtain ⟨dz1, dz2, -⟩ := dcC_at Ls i z lo hi hDc hz
        have hm2 : dcE K L z ≤ mi := m2
        unfold dcE at hm2
        rw [if_pos h6] at hm2
        have hlt : kFn K (Ls.take i) < kFn K (Ls.take k) := by
          have e2 : (Ls.take k)[i]? = some z := by
            rw [List.getElem?_take, if_pos (by omega)]
            exact hz
          have := (k_lt (K := K) (L := L) (Ls.take k) i z e2).2.1
          rw [if_pos h6, List.take_take, show min i k = i by omega] at this
          omega
        rw [h261 _ hlt]
        obtain ⟨e1, e2, e3, e4⟩ := fn_end (dz2 h6).1
        exact ⟨RSn_A2 r6 (RHD_f e2 (by omega) m3 r1 (Or.inl (by omega)) (Int.le_refl _)), m4⟩
      · obtain ⟨dz1, -, dz3⟩ := dcC_at Ls i z lo hi hDc hz
        have hm2 : dcE K L z ≤ mi := m2
        unfold dcE at hm2
        rw [if_neg h6] at hm2
        exact RTY_A r6 (RTY_f (dz3 h6).1 (by omega) r1 (m1.2 h6) (by omega) (Int.le_refl _))
/-- the tables of all declarations stay -/
theorem TYr_W (g : ∀ p, ¬ p = 231 → ¬ p = 232 → ¬ p = 264 → ¬ p = 261 → s'.2.1 p = s.2.1 p) (h1 : TYr K L B s D h x y t) : TYr K L B s' D h x y t := by
  obtain ⟨⟨b1', b2', b3', b4', b5', b6'⟩, ⟨c1', c2', c3'⟩⟩ := h1
  refine ⟨⟨by rw [g 234 (by decide) (by decide) (by decide) (by decide)]; exact b1', by rw [g 236 (by decide) (by decide) (by decide) (by decide)]; exact b2', b3', YA_W (by decide) (by decide) g b4', by rw [g 235 (by decide) (by decide) (by decide) (by decide)]; exact b5', by rw [g 242 (by decide) (by decide) (by decide) (by decide)]; exact b6'⟩, c1', fun hst => ?_, fun hst => ?_⟩
  · obtain ⟨k1, k2, k3⟩ := c2' hst
    exact ⟨by rw [g 239 (by decide) (by decide) (by decide) (by decide)]; exact k1, by rw [g 243 (by decide) (by decide) (by decide) (by decide)]; exact k2, YA_W (by decide) (by decide) g k3⟩
  · obtain ⟨k1, k2, k3⟩ := c3' hst
    exact ⟨by rw [g 239 (by decide) (by decide) (by decide) (by decide)]; exact k1, by rw [g 243 (by decide) (by decide) (by decide) (by decide)]; exact k2, fun i z hz => HDr_W g (k3 i z hz)⟩
theorem FNr_W (g : ∀ p, ¬ p = 231 → ¬ p = 232 → ¬ p = 264 → ¬ p = 261 → s'.2.1 p = s.2.1 p) {G : Int} (h1 : FNr K L B s G h x y t) : FNr K L B s' G h x y t := by
  obtain ⟨⟨b1', b2', b3', b4', b5'⟩, c1', c2', ea, ec, ee, c3', c4', c5', c6', c7', c8'⟩ := h1
  refine ⟨⟨by rw [g 253 (by decide) (by decide) (by decide) (by decide)]; exact b1', by rw [g 254 (by decide) (by decide) (by decide) (by decide)]; exact b2', by rw [g 255 (by decide) (by decide) (by decide) (by decide)]; exact b3', b4', fun hne => by rw [g 256 (by decide) (by decide) (by decide) (by decide)]; exact b5' hne⟩, by rw [g 257 (by decide) (by decide) (by decide) (by decide)]; exact c1', HDr_W g c2', ea, ec, ee, c3', c4', c5', c6', by rw [g 258 (by decide) (by decide) (by decide) (by decide)]; exact c7', ?_⟩
  exact eT_eq 10 _ _ _ _ c8' ⟨fun p i hp _ _ => by rw [g p (by omega) (by omega) (by omega) (by omega)], fun i _ _ _ => by rw [g 225 (by decide) (by decide) (by decide) (by decide)]⟩
end WMG
