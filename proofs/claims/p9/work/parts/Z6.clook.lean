/-! ===== the class's tables: what looks find in them ===== -/
section Z6C
variable {K L W ar kd : Int → Int} {n lo hi m k0 : Int} {TN Ls : List Int} {i j P : Nat} {t q : Int} {s u : zS} {x : Int × Int × Int × Int}
theorem lmb_le {f : Bool → RSt → RSt} : ∀ (k : Nat) (σ : RSt), (l_mb K f k σ).length ≤ k
  | 0, _ => Nat.le_refl _
  | k + 1, σ => by
    show (if σ.1 = 0 ∧ ¬ K σ.2 = 125 then σ.2 :: l_mb K f k (f (decide (k = 0)) σ) else []).length ≤ k + 1
    by_cases h : σ.1 = 0 ∧ ¬ K σ.2 = 125
    · rw [if_pos h, List.length_cons]
      have := lmb_le (f := f) k (f (decide (k = 0)) σ)
      omega
    · rw [if_neg h]
      exact Nat.zero_le _
theorem me_le : (tMe K L false (0, t)).length ≤ 7 := lmb_le 7 _
/-- a slot: its cells, its words, their tokens -/
theorem cz_sl (C : CSz K L W ar kd TN Ls n k0 P u) (h1 : Ls[i]? = some t) (hx : (sDc K L (kHd K L (Ls.take i) : Int) t)[j]? = some x) : ((aSl K L 0 (Ls.take i)).length + j < (aSl K L 0 Ls).length ∧ slc u P (((aSl K L 0 (Ls.take i)).length + j : Nat) : Int) 0 = x.1 ∧ slc u P (((aSl K L 0 (Ls.take i)).length + j : Nat) : Int) 1 = x.2.1 ∧ slc u P (((aSl K L 0 (Ls.take i)).length + j : Nat) : Int) 2 = x.2.2.1 ∧ slc u P (((aSl K L 0 (Ls.take i)).length + j : Nat) : Int) 4 = x.2.2.2) ∧ (x.2.2.1 < 0 → slc u P (((aSl K L 0 (Ls.take i)).length + j : Nat) : Int) 3 = -1) ∧ (0 ≤ x.2.2.1 → (18738 ≤ slc u P (((aSl K L 0 (Ls.take i)).length + j : Nat) : Int) 3 ∧ slc u P (((aSl K L 0 (Ls.take i)).length + j : Nat) : Int) 3 + ((wdC K L W ar TN (hfS K L Ls x.2.2.2) (dTp K L t) x.2.2.1).length : Int) ≤ k0) ∧ WDz P u (slc u P (((aSl K L 0 (Ls.take i)).length + j : Nat) : Int) 3) (wdC K L W ar TN (hfS K L Ls x.2.2.2) (dTp K L t) x.2.2.1) ∧ TTz P u (slc u P (((aSl K L 0 (Ls.take i)).length + j : Nat) : Int) 3) ((tlT K L (cdOf W (hfS K L Ls x.2.2.2) (dTp K L t) TN) ar 10 x.2.2.1).2.map Prod.snd)) := by
  obtain ⟨-, -, -, c4, ⟨c5, -⟩, -⟩ := C
  have e1 := aSl_at Ls i j 0 t x h1 (by rw [Int.zero_add]; exact hx)
  have e2 := aWd_at (W := W) (ar := ar) (TN := TN) (hfs := hfS K L Ls) Ls i j 0 t x h1 (by rw [Int.zero_add]; exact hx)
  have hlt := (List.getElem?_eq_some_iff.mp e1).1
  obtain ⟨w1, w2⟩ := c5 _ x _ hlt e1 e2
  refine ⟨⟨hlt, c4 _ x e1⟩, w1, fun h0 => ?_⟩
  obtain ⟨v1, v2, v3, v4⟩ := w2 h0
  have ew : slW K L W ar (dTp K L t) TN (hfS K L Ls) x = (tlT K L (cdOf W (hfS K L Ls x.2.2.2) (dTp K L t) TN) ar 10 x.2.2.1).2 := if_neg (by omega)
  rw [ew] at v2 v3 v4
  refine ⟨⟨v1, ?_⟩, v3, v4⟩
  unfold wdC
  rw [List.length_map]
  exact v2
/-- slots of a HEAD, of a type -/
theorem cz_ss (h : PRm K L W ar kd n lo hi TN Ls) (C : CSz K L W ar kd TN Ls n k0 P u) (h1 : Ls[i]? = some t) {j0 : Nat} {hf : List Int} {S : List (Int × Int × Int × Int)} (hS : ∀ (k : Nat) x, S[k]? = some x → (sDc K L (kHd K L (Ls.take i) : Int) t)[j0 + k]? = some x ∧ 0 ≤ x.2.2.1 ∧ hfS K L Ls x.2.2.2 = hf) (lf : hf.length ≤ 6) : SSz ar P u (((aSl K L 0 (Ls.take i)).length + j0 : Nat) : Int) (S.map (fun x => wdC K L W ar TN hf (dTp K L t) x.2.2.1)) := by
  intro k A hk
  rw [List.getElem?_map] at hk
  cases hx : S[k]? with
  | none => rw [hx] at hk; cases hk
  | some x =>
    rw [hx] at hk
    have eA : wdC K L W ar TN hf (dTp K L t) x.2.2.1 = A := Option.some.inj hk
    obtain ⟨s1, s2, s3⟩ := hS k x hx
    obtain ⟨-, -, z⟩ := cz_sl C h1 s1
    obtain ⟨⟨z1, z2⟩, z3, -⟩ := z s2
    rw [s3, eA] at z2 z3
    obtain ⟨o1, o2, -⟩ := slot_ok h h1 (List.mem_of_getElem? s1) s2
    rw [s3] at o1
    have hnT := PR_nT h
    have h24 := h.2.2.1.1
    obtain ⟨r1, r2, r3, -⟩ := wdC_ok (PR_ar h).1 lf (tp_fact h h1).1 (by omega) o1 o2
    rw [eA] at r1 r2 r3
    have hk0 := C.2.2.2.2.1.2
    rw [show (((aSl K L 0 (Ls.take i)).length + j0 : Nat) : Int) + (k : Int) = (((aSl K L 0 (Ls.take i)).length + (j0 + k) : Nat) : Int) by omega]
    exact ⟨⟨z1, by omega⟩, z3, r1, r2, fun c hc => ⟨(r3 c hc).1, (r3 c hc).2.1⟩⟩
theorem cz_hd (h : PRm K L W ar kd n lo hi TN Ls) (C : CSz K L W ar kd TN Ls n k0 P u) : HDz ar P u (hdd K L W ar TN Ls) (kHd K L Ls) := by
  intro g hg
  obtain ⟨i, j, t, q, h1, h2, e⟩ := hd_dc hg
  subst e
  obtain ⟨⟨p1, p2⟩, ⟨l1, l2⟩, n1, n2, hf, hx⟩ := hd_fact h h1 h2
  obtain ⟨t1, -⟩ := tb_hd (W := W) (ar := ar) (TN := TN) h1 h2
  obtain ⟨j0, ⟨g0, g1, g2, g3, g4⟩, g5⟩ := (C.2.2.2.2.2.1 i t h1).2 j q h2
  have hlen := C.2.2.2.2.2.2.2.1
  have hb : (aSl K L 0 (Ls.take i)).length + j0 < (aSl K L 0 Ls).length := by
    have hs := hSlt_len (K := K) (L := L) (q := q) (h := ((kHd K L (Ls.take i) + j : Nat) : Int))
    have := g5 0 _ (List.getElem?_eq_getElem (by omega))
    exact (cz_sl C h1 this).1.1
  rw [t1, g3, g4, g2]
  refine ⟨⟨rfl, rfl, by omega, by omega⟩, ⟨l1, l2⟩, ?_, ?_⟩
  · show ((hSlt K L ((kHd K L (Ls.take i) + j : Nat) : Int) (0, q + 1)).map _).length = _
    rw [List.length_map, hSlt_len]
  · refine cz_ss h C h1 (fun k x hk => ?_) l1
    obtain ⟨z1, z2, -⟩ := hx x (List.mem_of_getElem? hk)
    exact ⟨g5 k x hk, z1, by rw [z2, hf]⟩
theorem kd_2 (h : PRm K L W ar kd n lo hi TN Ls) {c : Int} (hk : kd c = 2) : ∃ (i : Nat) (t : Int), Ls[i]? = some t ∧ ¬ K t = 6 ∧ c = (kTy K (Ls.take i) : Int) ∧ ¬ tSt K L false (0, t) = true := by
  have h0 := h.2.2.2.2.2.1
  obtain ⟨i, t, h1, h6, rfl⟩ := ty_dc (K := K) (Ls := Ls) (c := c) (by
    rcases Int.lt_or_le c 0 with z | z
    · have := h0 c (Or.inl z)
      omega
    · exact z) (by
    rcases Int.lt_or_le c (kTy K Ls : Int) with z | z
    · exact z
    · have := h0 c (Or.inr z)
      omega)
  refine ⟨i, t, h1, h6, rfl, fun z => ?_⟩
  have := (h.2.2.2.2.1 i t h1 h6).2
  rw [if_pos z] at this
  omega
theorem kHd_me (h1 : Ls[i]? = some t) (h6 : ¬ K t = 6) (hst : ¬ tSt K L false (0, t) = true) : kHd K L (Ls.take i) + (tMe K L false (0, t)).length ≤ kHd K L Ls := by
  have := (k_lt (K := K) (L := L) Ls i t h1).2.2
  rw [if_neg h6] at this
  unfold tNh at this
  rw [if_neg hst] at this
  exact this
theorem cz_lk (h : PRm K L W ar kd n lo hi TN Ls) (C : CSz K L W ar kd TN Ls n k0 P u) : LKz ar K kd (cfO K L W TN Ls) (kFn K Ls) (kHd K L Ls) (hdd K L W ar TN Ls) n TN P u := by
  have hHd := cz_hd h C
  obtain ⟨c1, c2, c3, c4, c5, c6, c7, c8⟩ := C
  refine ⟨c1.1.2.2.2, c2, c1.2.2.1, c1.2.2.2, c3, hHd, fun f hf => ?_, fun c hk => ?_⟩
  · obtain ⟨i, t, h1, h6, rfl⟩ := fn_dc (K := K) hf
    have e5 := ((c6 i t h1).1.1 h6).2.2.2.2.2.1
    have hd0 : (dHd K L t)[0]? = some (f_5 K L false (0, t)).2 := by
      unfold dHd
      rw [if_pos h6]
      rfl
    have := kHd_lt h1 hd0
    rw [e5]
    omega
  · obtain ⟨i, t, h1, h6, rfl, hst⟩ := kd_2 h hk
    obtain ⟨-, e0, e2, e3, e4⟩ := (c6 i t h1).1.2 h6
    rw [if_neg hst] at e3
    have := kHd_me h1 h6 hst
    have := me_le (K := K) (L := L) (t := t)
    rw [e3, e4]
    omega
theorem lFw_cg {cf wf wf' : Nat → Int} {c x : Int} : ∀ F : Nat, (∀ f, f < F → wf f = wf' f) → lFw cf wf c x F = lFw cf wf' c x F
  | 0, _ => rfl
  | F + 1, h => by
    show (if cf F = c ∧ wf F = x then (F : Int) else lFw cf wf c x F) = if cf F = c ∧ wf' F = x then (F : Int) else lFw cf wf' c x F
    rw [h F (by omega), lFw_cg F (fun f hf => h f (by omega))]
theorem fsM_cg {wf wf' : Nat → Int} {x : Int} : ∀ (k i : Nat), (∀ g, i ≤ g → g < i + k → wf g = wf' g) → fsM wf x i k = fsM wf' x i k
  | 0, _, _ => rfl
  | k + 1, i, h => by
    show (if wf i = x then (i : Int) else fsM wf x (i + 1) k) = if wf' i = x then (i : Int) else fsM wf' x (i + 1) k
    rw [h i (Nat.le_refl _) (by omega), fsM_cg k (i + 1) (fun g g1 g2 => h g (by omega) (by omega))]
theorem mtL_cg {so so' : Int → Int} {hw hw' : Nat → Int} {hd : Nat → Nat × Nat × List (List Int)} {η θ : Nat → List Int} (hso : ∀ y, so y = so' y) : ∀ (k i : Nat), (∀ g, i ≤ g → g < i + k → hw g = hw' g) → mtL so hw hd η θ i k = mtL so' hw' hd η θ i k
  | 0, _, _ => rfl
  | k + 1, i, h => by
    have e1 : mtK so hw hd η θ i = mtK so' hw' hd η θ i := by
      unfold mtK
      rw [h i (Nat.le_refl _) (by omega), hso]
    show (if mtK so hw hd η θ i = 0 then mtL so hw hd η θ (i + 1) k else mtK so hw hd η θ i) = if mtK so' hw' hd η θ i = 0 then mtL so' hw' hd η θ (i + 1) k else mtK so' hw' hd η θ i
    rw [e1, mtL_cg hso k (i + 1) (fun g g1 g2 => h g (by omega) (by omega))]
theorem cz_hw (h : PRm K L W ar kd n lo hi TN Ls) (C : CSz K L W ar kd TN Ls n k0 P u) {g : Nat} (hg : g < kHd K L Ls) : sgc u P (g : Int) 1 = hwd K L W Ls g := by
  obtain ⟨i, j, t, q, h1, h2, rfl⟩ := hd_dc hg
  obtain ⟨j0, ⟨-, g1, -⟩, -⟩ := (C.2.2.2.2.2.1 i t h1).2 j q h2
  rw [g1, (tb_hd (W := W) (ar := ar) (TN := TN) h1 h2).2.2.2]
theorem cz_ty (h : PRm K L W ar kd n lo hi TN Ls) (C : CSz K L W ar kd TN Ls n k0 P u) {c : Int} (hk : kd c = 2) : (tyc u P c 3).toNat = tmd K L Ls c ∧ (tyc u P c 4).toNat = tnd K L Ls c ∧ tmd K L Ls c + tnd K L Ls c ≤ kHd K L Ls := by
  obtain ⟨i, t, h1, h6, rfl, hst⟩ := kd_2 h hk
  obtain ⟨-, e0, e2, e3, e4⟩ := (C.2.2.2.2.2.1 i t h1).1.2 h6
  rw [if_neg hst] at e3
  obtain ⟨-, f2, f3⟩ := tb_ty (W := W) (ar := ar) (TN := TN) (L := L) h1 h6
  have := kHd_me h1 h6 hst
  rw [e3, e4, f2, f3]
  exact ⟨Int.toNat_natCast _, Int.toNat_natCast _, this⟩
theorem cz_so (h : PRm K L W ar kd n lo hi TN Ls) (C : CSz K L W ar kd TN Ls n k0 P u) (c y : Int) : sgO (cfO K L W TN Ls) (kFn K Ls) kd P u c y = rso kd (cfO K L W TN Ls) (fsd K L Ls) (kFn K Ls) (tmd K L Ls) (tnd K L Ls) (hwd K L W Ls) c y := by
  unfold sgO rso
  have ef : ∀ f : Nat, f < kFn K Ls → fnc u P (f : Int) 6 = hwd K L W Ls (fsd K L Ls f) ∧ fnc u P (f : Int) 5 = (fsd K L Ls f : Int) := fun f hf => by
    obtain ⟨i, t, h1, h6, rfl⟩ := fn_dc (K := K) hf
    obtain ⟨-, -, -, -, -, f5, f6, -⟩ := (C.2.2.2.2.2.1 i t h1).1.1 h6
    have hd0 : (dHd K L t)[0]? = some (f_5 K L false (0, t)).2 := by
      unfold dHd
      rw [if_pos h6]
      rfl
    have t4 := (tb_hd (W := W) (ar := ar) (TN := TN) h1 hd0).2.2.2
    rw [Nat.add_zero] at t4
    rw [f6, f5, (tb_fn (L := L) (W := W) (TN := TN) h1 h6).1, t4]
    exact ⟨rfl, rfl⟩
  by_cases k1 : kd c = 1
  · rw [if_pos k1, if_pos k1, lFw_cg (wf' := fun f => hwd K L W Ls (fsd K L Ls f)) (kFn K Ls) (fun f hf => (ef f hf).1)]
    rcases lFw_b (cf := cfO K L W TN Ls) (wf := fun f => hwd K L W Ls (fsd K L Ls f)) (c := c) (x := y) (kFn K Ls) with z | ⟨g, z1, z2, -⟩
    · rw [z]
      rfl
    · rw [z2, if_pos (by omega), if_pos (by omega), (ef g z1).2, Int.toNat_natCast]
  · rw [if_neg k1, if_neg k1]
    by_cases k2 : kd c = 2
    · obtain ⟨e1, e2, e3⟩ := cz_ty h C k2
      rw [if_pos k2, if_pos k2, e1, e2]
      exact fsM_cg _ _ (fun g g1 g2 => cz_hw h C (by omega))
    · rw [if_neg k2, if_neg k2]
theorem cz_mv (h : PRm K L W ar kd n lo hi TN Ls) (C : CSz K L W ar kd TN Ls n k0 P u) : mvS ar kd (cfO K L W TN Ls) (kFn K Ls) (hdd K L W ar TN Ls) P u = mtV ar kd (rso kd (cfO K L W TN Ls) (fsd K L Ls) (kFn K Ls) (tmd K L Ls) (tnd K L Ls) (hwd K L W Ls)) (hwd K L W Ls) (hdd K L W ar TN Ls) (tmd K L Ls) (tnd K L Ls) := by
  funext A O B
  unfold mvS mtV
  by_cases k2 : kd (B.headD 0) = 2
  · obtain ⟨e1, e2, e3⟩ := cz_ty h C k2
    rw [if_pos k2, if_pos k2]
    dsimp only
    rw [e1, e2]
    exact mtL_cg (fun y => cz_so h C _ y) _ _ (fun g g1 g2 => cz_hw h C (by omega))
  · rw [if_neg k2, if_neg k2]
theorem cz_bf (h : PRm K L W ar kd n lo hi TN Ls) (C : CSz K L W ar kd TN Ls n k0 P u) {A : List Int} (hA : cdT (TN.length : Int) A) : BFz ar P u (Bfd K L W ar TN Ls) A := by
  intro c hcA h0 ha
  have hnT := PR_nT h
  have hc : c < (kTy K Ls : Int) := by
    have := hA c hcA
    rcases Int.lt_or_le c 24 with z | z
    · have := this z
      omega
    · have := (PR_ar h).2 c z
      omega
  obtain ⟨i, t, h1, h6, rfl⟩ := ty_dc (K := K) (Ls := Ls) h0 hc
  obtain ⟨-, e0, e2, e3, e4⟩ := (C.2.2.2.2.2.1 i t h1).1.2 h6
  have hlen := C.2.2.2.2.2.2.2.1
  obtain ⟨b1, -⟩ := bf_fact h h1 h6
  have eb := (tb_ty (W := W) (ar := ar) (TN := TN) (L := L) h1 h6).1
  have hle : (aSl K L 0 (Ls.take i)).length ≤ 4000 := by
    have ht0 : 0 < (tFo K L false (0, t)).length := by
      rw [eb, List.length_map] at b1
      omega
    have es : (sDc K L (kHd K L (Ls.take i) : Int) t)[0]? = some ((tFo K L false (0, t))[0], (0 : Int), (tFo K L false (0, t))[0] + 1, (-1 : Int)) := by
      unfold sDc
      rw [if_neg h6]
      unfold tSlt
      rw [List.getElem?_append_left (by rw [nmS_len]; exact ht0)]
      exact nmS_at (List.getElem?_eq_getElem ht0)
    have := (cz_sl C h1 es).1.1
    omega
  rw [e2]
  refine ⟨by omega, ?_, b1⟩
  rw [eb]
  have ed : dTp K L t = tFo K L false (0, t) := if_neg h6
  have key := cz_ss h C h1 (j0 := 0) (hf := []) (S := nmS 0 (-1) (tFo K L false (0, t))) (fun k x hk => ?_) (Nat.zero_le _)
  · rw [ed, Nat.add_zero] at key
    have em : (nmS 0 (-1) (tFo K L false (0, t))).map (fun x => wdC K L W ar TN [] (tFo K L false (0, t)) x.2.2.1) = (tFo K L false (0, t)).map (fun v => wdC K L W ar TN [] (tFo K L false (0, t)) (v + 1)) := by
      unfold nmS
      rw [List.map_map]
      rfl
    rw [em] at key
    exact key
  · have hk2 := (List.getElem?_eq_some_iff.mp hk).1
    rw [nmS_len] at hk2
    have hv := List.getElem?_eq_getElem hk2
    have e5 := nmS_at (kd' := 0) (sg := -1) hv
    rw [hk] at e5
    have e6 : x = ((tFo K L false (0, t))[k], 0, (tFo K L false (0, t))[k] + 1, -1) := Option.some.inj e5
    refine ⟨?_, ?_, ?_⟩
    · unfold sDc
      rw [if_neg h6, Nat.zero_add]
      unfold tSlt
      rw [List.getElem?_append_left (by rw [nmS_len]; exact hk2)]
      exact hk
    · rw [e6]
      have := ((ty_fact h h1 h6).1 _ (List.mem_of_getElem? hv)).1
      show 0 ≤ (tFo K L false (0, t))[k] + 1
      omega
    · rw [e6]
      exact hfS_n
end Z6C
