/-! ===== the reference: goThrough, time 2 ===== -/
/-- the places of a TYPE's words -/
def tokF (K L W ar : Int → Int) (TN hf tp : List Int) (t : Int) (j : Nat) : Int := ((tlT K L (cdOf W hf tp TN) ar 10 t).2.map (fun q => L q.2)).getD j 0
/-- the faults of a told TYPE against BOUNDS -/
def slG (K L W ar : Int → Int) (mv : List Int → List Int → List Int → Int) (Bf : Int → List (List Int)) (bn : Int → List Int) (TN hf tp : List Int) (t : Int) : List Int := bdD ar (bdGs mv Bf bn (tokF K L W ar TN hf tp t)) (wdC K L W ar TN hf tp t) (wdC K L W ar TN hf tp t).length
/-- BOUNDS in the scope of type c and HEAD h -/
def bnD (Bf : Int → List (List Int)) (hd : Nat → Nat × Nat × List (List Int)) (c h x : Int) : List Int := if x < 30 then (Bf c).getD (x - 24).toNat [] else if h < 0 then [] else (hd h.toNat).2.2.getD (x - 30).toNat []
/-- whose PARAMS hold in a declaration -/
def dOw (K L W : Int → Int) (TN : List Int) (T : Nat) (t : Int) : Int := if K t = 6 then fcd K L W TN t else (T : Int)
def slL (K L W ar : Int → Int) (mv : List Int → List Int → List Int → Int) (TN Ls tp : List Int) (c : Int) (x : Int × Int × Int × Int) : List Int := if x.2.2.1 < 0 then [] else slG K L W ar mv (Bfd K L W ar TN Ls) (bnD (Bfd K L W ar TN Ls) (hdd K L W ar TN Ls) c x.2.2.2) TN (hfS K L Ls x.2.2.2) tp x.2.2.1
/-- the faults of declaration i -/
def dcL (K L W ar : Int → Int) (mv : List Int → List Int → List Int → Int) (TN Ls : List Int) (i : Nat) (t : Int) : List Int := (sDc K L (kHd K L (Ls.take i) : Int) t).flatMap (slL K L W ar mv TN Ls (dTp K L t) (dOw K L W TN (kTy K (Ls.take i)) t))
section Z3G
variable {K L W ar kd cd : Int → Int} {n lo hi B b A x y T e β0 β1 : Int} {TN Ls hf tp : List Int} {i j d : Nat} {t q c : Int} {s u : yS} {mv : List Int → List Int → List Int → Int} {bn : Int → List Int} {a1 a2 : Int32}
theorem tlT_tk : ∀ (m : Nat) (t : Int), m ≤ 10 → (p_t K L m false (0, t)).1 = 0 → (tlT K L cd ar m t).1 = 0 → ∀ q ∈ (tlT K L cd ar m t).2, t ≤ q.2 ∧ q.2 < nxT K L t
  | 0, t, _, _, _, q, hq => by cases hq
  | m + 1, t, hm, hp, h0, q, hq => by
    obtain ⟨-, i3, i4⟩ := tlT_ok h0
    obtain ⟨pK, pu, pn⟩ := pt_u (m := m) (by omega) hp
    have hfw : ∀ (m : Nat) (z : Int), m ≤ 10 → (p_t K L m false (0, z)).1 = 0 → z < nxT K L z := fun m z hm hz => by
      rw [(pt_g m (by omega) false z hz).2.2]
      exact (pt_fw m _ _ hz).2
    have h1 := hfw (m + 1) t hm hp
    rw [i4] at hq
    rcases List.mem_cons.mp hq with e | hq
    · rw [e]
      exact ⟨Int.le_refl _, h1⟩
    · obtain ⟨l, hl, hql⟩ := List.mem_flatten.mp hq
      obtain ⟨i, hi, rfl⟩ := List.mem_map.mp hl
      have hi2 := List.mem_range.mp hi
      have hK : K (t + 1) = 91 := by
        by_cases z : K (t + 1) = 91
        · exact z
        · have : ntc K L t = 0 := if_neg z
          omega
      have en : ntc K L t = NT K L (t + 1) := if_pos hK
      obtain ⟨-, u2, u3⟩ := pu hK
      rw [en] at hi2
      have zm := z_mono (z := uS (nxT K L) (t + 2)) (NT K L (t + 1)) (fun j hj => by
        have := hfw m _ (by omega) (u2 j hj)
        show uS (nxT K L) (t + 2) j < nxT K L (uS (nxT K L) (t + 2) j) + 1
        omega)
      have z1 := zm i (by omega)
      have z2 := zm (i + 1) (by omega)
      have z0 : uS (nxT K L) (t + 2) 0 = t + 2 := rfl
      have z3 : uS (nxT K L) (t + 2) (i + 1) = nxT K L (uS (nxT K L) (t + 2) i) + 1 := rfl
      have z4 : nxT K L t = uS (nxT K L) (t + 2) (NT K L (t + 1)) := by rw [(pt_g (m + 1) (by omega) false t hp).2.2, u3]
      obtain ⟨k1, k2⟩ := tlT_tk m _ (by omega) (u2 i hi2) (i3 i (by rw [en]; exact hi2)) q hql
      omega
theorem tokF_nn (hX : TXp K L n) (ht : 0 ≤ t ∧ nxT K L t ≤ n) (hp : (p_t K L 10 false (0, t)).1 = 0) (h0 : (tlT K L (cdOf W hf tp TN) ar 10 t).1 = 0) : ∀ j, 0 ≤ tokF K L W ar TN hf tp t j := fun j => by
  unfold tokF
  rw [List.getD_eq_getElem?_getD, List.getElem?_map]
  cases hj : (tlT K L (cdOf W hf tp TN) ar 10 t).2[j]? with
  | none => exact Int.le_refl _
  | some q =>
    have := tlT_tk 10 t (by decide) hp h0 q (List.mem_of_getElem? hj)
    exact (hX.2.2 q.2 (by omega) (by omega)).1
/-- bounds of a slot's TYPE -/
theorem sl_211 (h : PRm K L W ar kd n lo hi TN Ls) (hS : RST K L W ar kd TN Ls n B b A x y s) (hA : A ≤ T) (hT : (s.1 64).toInt = T) {e : Nat} {nX nY : Int} (hSP : SPe ar (cfO K L W TN Ls) (kFn K Ls) (kHd K L Ls) (TN.length : Int) (hdd K L W ar TN Ls) (hbd K L Ls) (owd K L W TN Ls) (Bfd K L W ar TN Ls) β0 β1 (tp.length : Int) (hf.length : Int) bn) (lf : hf.length ≤ 6) (lt : tp.length ≤ 6) (hmv : mv = mtV ar kd (rso kd (cfO K L W TN Ls) (fsd K L Ls) (kFn K Ls) (tmd K L Ls) (tnd K L Ls) (hwd K L W Ls)) (hwd K L W Ls) (hdd K L W ar TN Ls) (tmd K L Ls) (tnd K L Ls)) {z : Int} (hz : RSn K L B (wdT K L (cdOf W hf tp TN) ar β0 β1) s A z t) (ha : a1.toInt = z) (h0 : (tlT K L (cdOf W hf tp TN) ar 10 t).1 = 0) (hp : (p_t K L 10 false (0, t)).1 = 0) (ht : 0 ≤ t ∧ nxT K L t ≤ n) (hu : UUr T (e : Int) s u) (h8 : (u.1 8).toInt = 0) : Par d 211 [.ref 213, .int a1] u (BNq T (e : Int) (ffs (slG K L W ar mv (Bfd K L W ar TN Ls) bn TN hf tp t)) u) := by
  have hnT := PR_nT h
  have h24 := h.2.2.1
  have hX := h.1.1
  obtain ⟨z', hz'⟩ := RSn_w hz
  have hG := PGr_w hu.1 hA (PG_of h hS)
  have key := x_211 (b := b) (A := A) (T := T) (B := B) (K := K) (L := L) (cd := cdOf W hf tp TN) (kd := kd) (fs := fsd K L Ls) (tm := tmd K L Ls) (tn := tnd K L Ls) (hw := hwd K L W Ls) (mv := mv) (tok := tokF K L W ar TN hf tp t) hSP hA (fun v hv => cdP_of lf lt (by omega) hv) hmv (tokF_nn hX ht hp h0) 10 (by decide) d a1 z z' t 0 e u hG (by rw [hu.2.1]; exact hT) hu.2.2 h8 ha (yRw_w hu.1 hA _ _ _ _ hz') h0 hp (fun q hq => ?_) (fun j q hq => ?_)
  · have e1 : (fun c X j => bdGs mv (Bfd K L W ar TN Ls) bn (tokF K L W ar TN hf tp t) c X (0 + j)) = bdGs mv (Bfd K L W ar TN Ls) bn (tokF K L W ar TN hf tp t) := by
      funext c X j
      rw [Nat.zero_add]
    rw [e1] at key
    have e2 : (wdC K L W ar TN hf tp t).length = (tlT K L (cdOf W hf tp TN) ar 10 t).2.length := by
      unfold wdC
      rw [List.length_map]
    rw [← e2] at key
    exact key
  · have := tlT_tk 10 t (by decide) hp h0 q hq
    rw [hu.1.2.2.1 _ _ (by decide)]
    exact (hS.1.2.2.1 q.2 (by omega) (by omega)).2
  · rw [Nat.zero_add]
    unfold tokF
    rw [List.getD_eq_getElem?_getD, List.getElem?_map, hq]
    rfl
theorem hsL_fm {f : (Int × Int × Int × Int) → List Int} : ∀ (l : List Int) (h : Nat), (hsL K L (h : Int) l).flatMap f = ((List.range l.length).map (fun j => (hSlt K L ((h + j : Nat) : Int) (0, l.getD j 0 + 1)).flatMap f)).flatten
  | [], h => rfl
  | q :: l, h => by
    have ih := hsL_fm (f := f) l (h + 1)
    show (hSlt K L (h : Int) (0, q + 1) ++ hsL K L ((h : Int) + 1) l).flatMap f = _
    rw [List.flatMap_append, show (h : Int) + 1 = ((h + 1 : Nat) : Int) by omega, ih, List.length_cons, List.range_succ_eq_map, List.map_cons, List.map_map]
    show _ = (hSlt K L ((h + 0 : Nat) : Int) (0, q + 1)).flatMap f ++ _
    rw [Nat.add_zero]
    congr 2
    refine List.map_congr_left (fun j _ => ?_)
    show (hSlt K L ((h + 1 + j : Nat) : Int) (0, l.getD j 0 + 1)).flatMap f = (hSlt K L ((h + (j + 1) : Nat) : Int) (0, (q :: l).getD (j + 1) 0 + 1)).flatMap f
    rw [show h + 1 + j = h + (j + 1) by omega]
    rfl
end Z3G
