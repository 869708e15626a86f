/-! ===== the reference: the nodes of an E and its code ===== -/
/-- what stands, in both tellings -/
def TWd (K L W ar kd : Int → Int) (TN Ls : List Int) (nI lo' hi' : Int) (own : Nat → Nat × Nat) (b n N T F H S0 : Nat) (G : PG) (Ag : Int) (s : yS) : Prop := PRm K L W ar kd nI lo' hi' TN Ls ∧ PGr ar kd (cfO K L W TN Ls) (fsd K L Ls) (kFn K Ls) (kHd K L Ls) (TN.length : Int) (tmd K L Ls) (tnd K L Ls) (hdd K L W ar TN Ls) (hbd K L Ls) (owd K L W TN Ls) (hwd K L W Ls) (Bfd K L W ar TN Ls) (b : Int) Ag s ∧ CK own b n N T F H S0 G s ∧ (T : Int) = (TN.length : Int) ∧ F = kFn K Ls ∧ (∀ q0, wTk K nI q0 → ∀ h : Nat, h < kHd K L Ls → (wHr (b : Int) s h = (s.2.1 217 (4002 * (b : Int) + q0).toNat).toInt ↔ hwd K L W Ls h = W q0)) ∧ FDr K L W ar kd TN Ls (b : Int) Ag s
/-- a scope, in both tellings -/
def TSc (K L W ar kd : Int → Int) (TN Ls : List Int) (nI lo' hi' : Int) (H : Nat) (G : PG) (fo : Option Nat) (β0 β1 : Int) (S' : Scp) : Prop := (∃ B0 bI : Int, EWd K L W ar kd TN Ls nI lo' hi' B0 bI β0 β1 S') ∧ (VTy ar (TN.length : Int) S' ∧ S'.2.2.2.2.length = S'.2.2.2.1.length) ∧ (S'.2.1.length = 0 ∨ 4000 ≤ β0) ∧ (∀ h : Nat, β1 = 2000 + 6 * (h : Int) → 0 < S'.1.length → h < H) ∧ ∀ (k : Nat) (A : List Nat), tVX G fo k = some A → ∃ D : List Int, S'.2.2.2.2[k]? = some D ∧ A = enN ar β0 β1 D
section ZVYB
variable {K L W ar kd : Int → Int} {TN Ls : List Int} {nI lo' hi' : Int} {own : Nat → Nat × Nat} {b n N T F H S0 : Nat} {G : PG} {s : yS} {Ag β0 β1 Z : Int} {S' : Scp} {S O : Nat} {A0 A1 : Int} {fo : Option Nat} {m m' : Nat} {t : Int} {wr hw : Nat → Int} {Hn : Nat}
theorem nNd_s : ∀ (f : Nat) (e : Int) (C : List Ins), nNd ar β0 β1 Z wr hw Hn s f e C → nNd ar β0 β1 Z wr hw Hn s (f + 1) e C
  | 0, _, _, h => h.elim
  | f + 1, e, C, h => by
    have ih := nNd_s f
    obtain ⟨h0, h⟩ := h
    refine ⟨h0, ?_⟩
    rcases h with h | ⟨h1, D, es, Cs, k, h2, ⟨h3, h4, h5⟩, h6⟩ | ⟨h1, C0, k, h2, h3⟩ | ⟨h1, C0, D, k, h2, h3, h4⟩ | ⟨h1, C0, Ai, Ys, ys, es, Cs, k, g, h2, h3, h4, ⟨h5, h6, h7⟩, ⟨h8, h9, h10⟩, h11⟩
    · exact Or.inl h
    · exact Or.inr (Or.inl ⟨h1, D, es, Cs, k, h2, ⟨h3, h4, fun i c B hc hB => ih c B (h5 i c B hc hB)⟩, h6⟩)
    · exact Or.inr (Or.inr (Or.inl ⟨h1, C0, k, ih _ _ h2, h3⟩))
    · exact Or.inr (Or.inr (Or.inr (Or.inl ⟨h1, C0, D, k, ih _ _ h2, h3, h4⟩)))
    · exact Or.inr (Or.inr (Or.inr (Or.inr ⟨h1, C0, Ai, Ys, ys, es, Cs, k, g, ih _ _ h2, h3, h4, ⟨h5, h6, h7⟩, ⟨h8, h9, fun i c B hc hB => ih c B (h10 i c B hc hB)⟩, h11⟩)))
theorem nNd_le {f f' : Nat} {e : Int} {C : List Ins} (h : nNd ar β0 β1 Z wr hw Hn s f e C) (hf : f ≤ f') : nNd ar β0 β1 Z wr hw Hn s f' e C := by
  induction hf with
  | refl => exact h
  | step _ ih => exact nNd_s _ e C ih
theorem nCh_of {NN : Nat} {ww : Nat → Int} (hw : ∀ i, i < NN → 0 ≤ ww i ∧ (s.2.1 225 (ww i).toNat).toInt = if i + 1 < NN then ww (i + 1) else -1) : ∀ (d j : Nat) (x : Int), j + d = NN → x = (if j < NN then ww j else -1) → nCh s ((List.range' j d).map ww) x
  | 0, j, x, hj, hx => by
    rw [if_neg (by omega)] at hx
    show x < 0
    omega
  | d + 1, j, x, hj, hx => by
    rw [if_pos (by omega)] at hx
    obtain ⟨h1, h2⟩ := hw j (by omega)
    exact ⟨⟨hx, h1⟩, nCh_of hw d (j + 1) _ (by omega) h2⟩
/-- the E in a list -/
theorem ty_args {o cc a x0 y1 y bb : Int} {NN m1 hm hi : Nat} {fT : Nat → List Nat} (ih : ∀ (lo hi e : Nat) (A : List Nat) (x y t : Int), wE G H b n (scX G fo) (tVX G fo) S O s m lo hi e A → eC K L W ar kd TN Ls (4002 * (b : Int)) β0 β1 S' A0 A1 s m' x y t (e : Int) → (p_e K L m' false (0, t)).1 = 0 → (exE6 K L W ar kd TN Ls S' m' t).1 = 0 → 0 ≤ t → nxE K L t ≤ nI → nNd ar β0 β1 Z wr hw Hn s (21 * m') (e : Int) (ciE K L W ar kd TN Ls S' m' t)) (hm' : m' ≤ 10) (hAr : eAr K L s (eC K L W ar kd TN Ls (4002 * (b : Int)) β0 β1 S' A0 A1 s m') o cc x0 y1 y a) (hAO : AOk K L m' o cc a bb) (hN : p_vn K L (p_e K L 11) o cc (0, a) = NN) (hz : ∀ i, i < NN → (exE6 K L W ar kd TN Ls S' m' (uS (nxE K L) (a + 1) i)).1 = 0) (hwl : wL G s (wE G H b n (scX G fo) (tVX G fo) S O s m) (s.2.1 224 x0.toNat).toInt hm hi m1 fT) (ha0 : 0 ≤ a) (hbb : bb ≤ nI) : ∃ (es : List Int) (Cs : List (List Ins)), (nCh s es (s.2.1 224 x0.toNat).toInt ∧ Cs.length = es.length ∧ ∀ (i : Nat) (c : Int) (B : List Ins), es[i]? = some c → Cs[i]? = some B → nNd ar β0 β1 Z wr hw Hn s (21 * m') c B) ∧ Cs.flatten = ciP (ciE K L W ar kd TN Ls S' m') (exU K L a NN) := by
  obtain ⟨c226, zz, ww, z0, zN, c224, cE, cmo⟩ := eAr_ch hAr hAO
  obtain ⟨oa, oE⟩ := AOk_o hm' hAO
  have hpe := hAO.2.2.1
  rw [hN] at c226 zN c224 cE cmo oE hpe
  obtain ⟨cs, l1, l2, l3⟩ := hwl
  have hww : ∀ i, i < NN → 0 ≤ ww i ∧ (s.2.1 225 (ww i).toNat).toInt = if i + 1 < NN then ww (i + 1) else -1 := fun i hi => ⟨by have := (cE i hi).2.1; omega, (cE i hi).2.2⟩
  obtain ⟨cl1, cl2⟩ := ch_ww hww (cs.map (·.2.2)) 0 _ (Nat.zero_le _) c224 l2
  rw [List.length_map, Nat.zero_add] at cl1
  refine ⟨(List.range NN).map ww, (exU K L a NN).map (ciE K L W ar kd TN Ls S' m'), ⟨?_, by rw [List.length_map, exU_len, List.length_map, List.length_range], fun i c B hc hB => ?_⟩, rfl⟩
  · rw [List.range_eq_range']
    exact nCh_of hww NN 0 _ (by omega) c224
  · have hi : i < NN := by
      have := (List.getElem?_eq_some_iff.mp hc).1
      rw [List.length_map, List.length_range] at this
      exact this
    rw [List.getElem?_map, List.getElem?_range hi] at hc
    have hc : ww i = c := Option.some.inj hc
    rw [List.getElem?_map, exU_at hi] at hB
    have hB : ciE K L W ar kd TN Ls S' m' (uS (nxE K L) (a + 1) i) = B := Option.some.inj hB
    obtain ⟨q, hq⟩ : ∃ q, cs[i]? = some q := ⟨_, List.getElem?_eq_getElem (by omega)⟩
    obtain ⟨-, -, -, -, B', w1, -⟩ := l3 i q hq
    have e1 := cl2 i q.2.2 (by rw [List.getElem?_map, hq]; rfl)
    rw [Nat.zero_add] at e1
    obtain ⟨k1, k2, k3, -⟩ := oE i hi
    have hC := (cE i hi).1
    rw [← e1] at hC
    rw [← hc, ← hB, ← e1]
    exact ih _ _ _ _ _ _ _ w1 hC (hpe i hi) (hz i hi) (by omega) (by omega)
/-- exP says that each E is typed -/
theorem exP_each {ev' : Int → Int × List Int} {η : Nat → List Int} {a : Int} {NN : Nat} {Zs : List (List Int)} (hZ : NN ≤ Zs.length) (h : exP K L W ar kd TN Ls S' ev' η ((exU K L a NN).zip Zs) = 0) : ∀ i, i < NN → (ev' (uS (nxE K L) (a + 1) i)).1 = 0 := fun i hi => by
  have h1 : ((exU K L a NN).zip Zs)[i]? = some (uS (nxE K L) (a + 1) i, Zs[i]'(by omega)) := by
    rw [List.getElem?_zip_eq_some]
    exact ⟨exU_at hi, List.getElem?_eq_getElem (by omega)⟩
  exact exP_0 h _ (List.mem_of_getElem? h1)
/-- a struct's TYPE -/
theorem exL_2 {ev : Int → Int × List Int} {t : Int} (hL : 0 ≤ L t) (h : (exL K L W ar kd TN Ls S' ev t).1 = 0) : (exL K L W ar kd TN Ls S' ev t).2 = wdC K L W ar TN S'.1 S'.2.1 t := by
  unfold exL at h ⊢
  by_cases c1 : (exT K L W ar kd TN Ls S' t).1 = 0
  rotate_left
  · rw [if_neg c1] at h
    exact absurd h c1
  rw [if_pos c1] at h ⊢
  by_cases c2 : kd ((exT K L W ar kd TN Ls S' t).2.headD 0) = 1
  rotate_left
  · rw [if_neg c2] at h
    have h : 6 + 16 * L t = 0 := h
    omega
  rw [if_pos c2] at h ⊢
  by_cases c3 : NV K L (nxT K L t) = (fTy K L W ar TN Ls ((exT K L W ar kd TN Ls S' t).2.headD 0)).length
  rotate_left
  · rw [if_neg c3] at h
    have h : 4 + 16 * L t = 0 := h
    omega
  rw [if_pos c3]
  exact exT_2 c1
/-- what an assert names -/
theorem exA_2 {a : Int} {A : List Int} (hL : 0 ≤ L a) (hL2 : 0 ≤ L (a + 2)) (h : (exA K L W ar kd TN Ls S' a A).1 = 0) (hm : ∀ X Y M : List Int, 0 ≤ mvD K L W ar kd TN Ls X Y M) : (exA K L W ar kd TN Ls S' a A).2 = wdC K L W ar TN S'.1 S'.2.1 (a + 2) := by
  unfold exA at h ⊢
  by_cases c1 : kd (A.headD 0) = 1
  · rw [if_pos c1] at h
    have h : 6 + 16 * L a = 0 := h
    omega
  rw [if_neg c1] at h ⊢
  by_cases c2 : (exT K L W ar kd TN Ls S' (a + 2)).1 = 0
  rotate_left
  · rw [if_neg c2] at h
    exact absurd h c2
  rw [if_pos c2] at h ⊢
  by_cases c3 : kd ((exT K L W ar kd TN Ls S' (a + 2)).2.headD 0) = 1 ∧ ¬ mvD K L W ar kd TN Ls (exT K L W ar kd TN Ls S' (a + 2)).2 (ownT S'.2.2.1 (exT K L W ar kd TN Ls S' (a + 2)).2) (ownT S'.2.2.1 A) = 0
  · rw [if_pos c3] at h
    have h : mvD K L W ar kd TN Ls (exT K L W ar kd TN Ls S' (a + 2)).2 (ownT S'.2.2.1 (exT K L W ar kd TN Ls S' (a + 2)).2) (ownT S'.2.2.1 A) + 16 * L (a + 2) = 0 := h
    have := hm (exT K L W ar kd TN Ls S' (a + 2)).2 (ownT S'.2.2.1 (exT K L W ar kd TN Ls S' (a + 2)).2) (ownT S'.2.2.1 A)
    have := c3.2
    omega
  · rw [if_neg c3]
    exact exT_2 c2
/-- a FIELD's TYPE -/
theorem exF_2 {a : Int} {A : List Int} (hL : 0 ≤ L a) (hL1 : 0 ≤ L (a + 1)) (h : (exF K L W ar kd TN Ls a A).1 = 0) : kd (A.headD 0) = 1 ∧ 0 ≤ fIx (wEq W (a + 1)) 0 (fNm K L Ls (A.headD 0)) ∧ (exF K L W ar kd TN Ls a A).2 = sbs (eta (argT ar A) []) ((fTy K L W ar TN Ls (A.headD 0)).getD (fIx (wEq W (a + 1)) 0 (fNm K L Ls (A.headD 0))).toNat []) := by
  unfold exF at h ⊢
  by_cases c1 : kd (A.headD 0) = 1
  rotate_left
  · rw [if_neg c1] at h
    have h : 6 + 16 * L a = 0 := h
    omega
  rw [if_pos c1] at h ⊢
  by_cases c2 : 0 ≤ fIx (wEq W (a + 1)) 0 (fNm K L Ls (A.headD 0))
  rotate_left
  · rw [if_neg c2] at h
    have h : 2 + 16 * L (a + 1) = 0 := h
    omega
  rw [if_pos c2] at h ⊢
  by_cases c3 : 60 < (sbs (eta (argT ar A) []) ((fTy K L W ar TN Ls (A.headD 0)).getD (fIx (wEq W (a + 1)) 0 (fNm K L Ls (A.headD 0))).toNat [])).length
  · rw [if_pos c3] at h
    have h : 9 + 16 * L (a + 1) = 0 := h
    omega
  · rw [if_neg c3]
    exact ⟨c1, c2, rfl⟩
set_option maxHeartbeats 8000000 in
/-- what stands ahead of the points -/
theorem ty_head {p lo hi eN : Nat} {A : List Nat} {x y : Int} (hT : TWd K L W ar kd TN Ls nI lo' hi' own b n N T F H S0 G Ag s) (hS : TSc K L W ar kd TN Ls nI lo' hi' H G fo β0 β1 S') (hZ : A1 ≤ Z) (hm' : m' ≤ 9) (ih : ∀ (lo hi e : Nat) (A : List Nat) (x y t : Int), wE G H b n (scX G fo) (tVX G fo) S O s m lo hi e A → eC K L W ar kd TN Ls (4002 * (b : Int)) β0 β1 S' A0 A1 s m' x y t (e : Int) → (p_e K L m' false (0, t)).1 = 0 → (exE6 K L W ar kd TN Ls S' m' t).1 = 0 → 0 ≤ t → nxE K L t ≤ nI → nNd ar β0 β1 Z wr hw Hn s (21 * m') (e : Int) (ciE K L W ar kd TN Ls S' m' t)) (hwp : wEp G H b n (scX G fo) (tVX G fo) S O s (wE G H b n (scX G fo) (tVX G fo) S O s m) p lo hi eN A) (hx : (eN : Int) = x) (hE : eHd K L (4002 * (b : Int)) s m' (eC K L W ar kd TN Ls (4002 * (b : Int)) β0 β1 S' A0 A1 s m') x y t) (hc : cHd K L W ar TN β0 β1 S' A0 A1 s x t) (hHO : HOk K L m' t) (h0 : (exH K L W ar kd TN Ls S' (exE6 K L W ar kd TN Ls S' m') t).1 = 0) (ht0 : 0 ≤ t) (htn : aHd K L t ≤ nI) : A = enN ar β0 β1 (exH K L W ar kd TN Ls S' (exE6 K L W ar kd TN Ls S' m') t).2 ∧ nNd ar β0 β1 Z wr hw Hn s (21 * m' + 1) x (ciH K L W ar TN S' (ciE K L W ar kd TN Ls S' m') t) := by
  obtain ⟨hPR, hG, hC, hTn, hFn, hwd, hFD⟩ := hT
  obtain ⟨⟨B0, bI, hW⟩, ⟨hV, hVl⟩, hβ, hSH, hVX⟩ := hS
  obtain ⟨-, -, -, ⟨l1, l2, l3⟩, -⟩ := hW.2.1
  have hHt : t < aHd K L t := by
    by_cases hc : K (t + 1) = 123 ∨ K (t + 1) = 91
    · obtain ⟨hp', hO⟩ := hHO.2 hc
      have q1 := nxT_gt (m := m') (by omega) hp'
      have q2 := (AOk_o (by omega) hO).1
      omega
    · have : aHd K L t = t + 1 := if_neg hc
      omega
  have hLt := (hPR.1.1.2.2 t ht0 (by omega)).1
  obtain ⟨hE1, hE2, hE3⟩ := hE
  have ex : x.toNat = eN := by omega
  rw [ex] at hE2 hE3
  cases p with
  | succ p =>
    obtain ⟨-, a', A0', q1, -⟩ := hwp
    omega
  | zero =>
    obtain ⟨q1, q2, q3, q4, q5, q6⟩ := hwp
    by_cases hcK : K (t + 1) = 123 ∨ K (t + 1) = 91
    · rw [if_pos hcK] at hE3
      obtain ⟨h221, h229, yy1, ky, kT, kA⟩ := hE3
      have eL : ciH K L W ar TN S' (ciE K L W ar kd TN Ls S' m') t = ciL K L W ar TN S' (ciE K L W ar kd TN Ls S' m') t := if_pos hcK
      have eX : exH K L W ar kd TN Ls S' (exE6 K L W ar kd TN Ls S' m') t = exL K L W ar kd TN Ls S' (exE6 K L W ar kd TN Ls S' m') t := if_pos hcK
      rw [eX] at h0 ⊢
      rw [eL, exL_2 hLt h0]
      obtain ⟨hp, hO⟩ := hHO.2 hcK
      obtain ⟨xT, Zs, hZ1, hZ2⟩ := exL_0 hLt h0
      have gtT := nxT_gt (m := m') (by omega) hp
      unfold cHd at hc
      rw [if_pos hcK] at hc
      rcases q4 with ⟨z, -⟩ | ⟨-, yT, hT', y1, y2, y3, y4, y5, xx, Cs0, y6, y7, y8, hwl⟩
      · omega
      have hc1 := hc.1
      have hA : A = enN ar β0 β1 (wdC K L W ar TN S'.1 S'.2.1 t) := by
        rw [show x + 1 = (yT : Int) by omega] at hc1
        exact wT_en y5 hc1
      obtain ⟨es, Cs, hes, hCs⟩ := ty_args (o := 123) (cc := 125) (a := nxT K L t) (x0 := x) (NN := NV K L (nxT K L t)) ih (by omega) kA hO rfl (exP_each (by omega) hZ2) (by rw [ex]; exact hwl) (by omega) htn
      refine ⟨hA, by omega, Or.inr (Or.inl ⟨by rw [ex]; exact h221, wdC K L W ar TN S'.1 S'.2.1 t, es, Cs, (NV K L (nxT K L t) : Int), ?_, hes, ?_⟩)⟩
      · rw [ex, h229]
        exact RSe_le hc.1 hZ
      · unfold ciL
        rw [hCs]
    · rw [if_neg hcK] at hE3
      obtain ⟨h221, h222, hy⟩ := hE3
      have eL : ciH K L W ar TN S' (ciE K L W ar kd TN Ls S' m') t = ciV W S' t := if_neg hcK
      have eX : exH K L W ar kd TN Ls S' (exE6 K L W ar kd TN Ls S' m') t = exV L W S' t := if_neg hcK
      rw [eX] at h0 ⊢
      rw [eL]
      unfold cHd at hc
      rw [if_neg hcK, ex] at hc
      rcases q4 with ⟨-, k, k1, k2⟩ | ⟨z, -⟩
      rotate_left
      · omega
      obtain ⟨D, d1, d2⟩ := hVX k A k2
      refine ⟨?_, by omega, Or.inl ⟨by rw [ex]; exact h221, fun I hI => ?_⟩⟩
      · unfold exV
        rw [← hc, k1, if_pos (by omega), Int.toNat_natCast]
        show A = enN ar β0 β1 (S'.2.2.2.2.getD k [])
        rw [List.getD_eq_getElem?_getD, d1]
        exact d2
      · have hI := List.mem_singleton.mp hI
        rw [hI]
        exact ⟨tl_no (show ¬ (1 : Int) = 2 by decide) (show ¬ (1 : Int) = 6 by decide) (show ¬ (1 : Int) = 5 by decide), show ¬ (1 : Int) = 5 by decide⟩
end ZVYB
