/-! ===== the class: enterFunc, whole ===== -/
section ZZEF
variable {K L W ar kd : Int → Int} {TN Ls : List Int} {n lo hi lo' hi' k0 t : Int} {d P i : Nat} {s u w : zS} {a1 : Int32}
set_option maxHeartbeats 4000000 in
theorem zs_6 (hP : P = 3 ∨ P = 39) (h : PRm K L W ar kd n lo hi TN Ls) (C : CSz K L W ar kd TN Ls n k0 P u) (h1 : Ls[i]? = some t) (h6 : K t = 6) (ha1 : a1.toInt = (kFn K (Ls.take i) : Int)) (hLA : LAz K L P lo' hi' u) : Zt (d + 10) (wd P 6) 6 [.ref 84, .int a1] u (fun v s' => v = none ∧ CIn K L W ar kd TN Ls n k0 (fnS K L W ar TN Ls i t) P lo' hi' (19 + ((fPa K L false (0, t)).length : Int)) s' ∧ (s'.1 75 3).toInt = 19 + ((fPa K L false (0, t)).length : Int) ∧ (s'.1 84 5).toInt = (f_7 K L false (0, t)).2 ∧ s'.1 P 14 = u.1 P 14 ∧ s'.1 P 10 = u.1 P 10 ∧ s'.2 (P + 12) = u.2 (P + 12) ∧ s'.1 P 11 = u.1 P 11 ∧ (s'.1 75 6).toInt = (kHd K L (Ls.take i) : Int) ∧ s'.1 (P + 34) 2 = u.1 (P + 34) 2 ∧ s'.2 (P + 34) = u.2 (P + 34) ∧ (∀ j : Nat, 18738 ≤ (j : Int) → s'.2 (P + 18) j = u.2 (P + 18) j) ∧ (∀ j : Nat, ¬ (j : Int) = 10 * (kFn K (Ls.take i) : Int) + 8 → s'.2 (P + 26) j = u.2 (P + 26) j) ∧ fnc s' P (kFn K (Ls.take i) : Int) 8 = (u.1 (P + 34) 2).toInt / 6) := by
  have hnT := PR_nT h
  obtain ⟨ha, h24⟩ := PR_ar h
  have hc24 := h.2.2.1
  obtain ⟨f1, f2, f3⟩ := fn_fact h h1 h6
  have tp6 := (tp_fact h h1).1
  have ed : dTp K L t = fPa K L false (0, t) := if_pos h6
  rw [ed] at tp6
  have hfl := kFn_lt h1 h6
  obtain ⟨-, c0, c1, c3, c4, c5, c6, c7⟩ := (C.2.2.2.2.2.1 i t h1).1.1 h6
  have c2 := (C.2.2.1.1 (kFn K (Ls.take i)) hfl).1
  rw [(tb_fn (L := L) (W := W) (TN := TN) h1 h6).2] at c2
  have hd0 : (dHd K L t)[0]? = some (f_5 K L false (0, t)).2 := by
    unfold dHd
    rw [if_pos h6]
    rfl
  have hgl := kHd_lt h1 hd0
  rw [Nat.add_zero] at hgl
  obtain ⟨t1, -⟩ := tb_hd (W := W) (ar := ar) (TN := TN) h1 hd0
  rw [Nat.add_zero] at t1
  obtain ⟨j0, ⟨-, -, g2, g3, g4⟩, g5⟩ := (C.2.2.2.2.2.1 i t h1).2 0 _ hd0
  rw [Nat.add_zero] at g2 g3 g4 g5
  obtain ⟨⟨p1, p2, p3⟩, ⟨p4, p4'⟩, p5, p6⟩ := cz_hd h C _ hgl
  have p7 := cz_hk h C hgl
  obtain ⟨hlA, hH4⟩ := C.2.2.2.2.2.2.2
  obtain ⟨g, hg⟩ : ∃ g, g = kHd K L (Ls.take i) := ⟨_, rfl⟩
  rw [← hg] at hgl t1 g2 g3 g4 g5 p1 p2 p3 p4 p4' p5 p6 p7 c5
  obtain ⟨hf, hhf⟩ : ∃ l, l = h_f K L (0, (f_5 K L false (0, t)).2 + 1) := ⟨_, rfl⟩
  obtain ⟨hv, hhv⟩ : ∃ l, l = h_v K L (0, (f_5 K L false (0, t)).2 + 1) := ⟨_, rfl⟩
  obtain ⟨tp, htp⟩ : ∃ l, l = fPa K L false (0, t) := ⟨_, rfl⟩
  obtain ⟨A0, hA0⟩ : ∃ A0, A0 = fcd K L W TN t :: (List.range tp.length).map (fun k : Nat => 24 + (k : Int)) := ⟨_, rfl⟩
  have hA0l : A0.length = tp.length + 1 := by rw [hA0, List.length_cons, List.length_map, List.length_range]
  rw [← htp] at tp6 f3 c4 ⊢
  rw [← hhf] at g3
  rw [← hhv] at g4
  have e1 : (hdd K L W ar TN Ls g).1 = hf.length := by rw [t1, hhf]
  have e2 : (hdd K L W ar TN Ls g).2.1 = hv.length := by rw [t1, hhv]
  have hj0 : (aSl K L 0 (Ls.take i)).length + j0 ≤ 4000 := by omega
  have lAt : (aSl K L 0 (Ls.take i)).length + 1 ≤ (aSl K L 0 Ls).length := by
    have es : (sDc K L (kHd K L (Ls.take i) : Int) t)[0]? = some ((f_1 K L false (0, t)).2, 3, -1, (kHd K L (Ls.take i) : Int)) := by
      unfold sDc
      rw [if_pos h6]
      rfl
    have := (cz_sl C h1 es).1.1
    omega
  have nmT : ∀ (k : Nat) (v : Int), tp[k]? = some v → slc u P (((aSl K L 0 (Ls.take i)).length : Int) + 1 + (k : Int)) 0 = v := fun k v hv' => by
    have es : (sDc K L (kHd K L (Ls.take i) : Int) t)[k + 1]? = some (v, 1, -1, (kHd K L (Ls.take i) : Int)) := by
      unfold sDc
      rw [if_pos h6]
      unfold fSlt
      have hk := (List.getElem?_eq_some_iff.mp hv').1
      rw [htp] at hk hv'
      rw [List.getElem?_cons_succ, List.getElem?_append_left (by unfold prS; rw [List.length_map]; exact hk)]
      unfold prS
      rw [List.getElem?_map, hv']
      rfl
    have := (cz_sl C h1 es).1.2.1
    rw [show (((aSl K L 0 (Ls.take i)).length + (k + 1) : Nat) : Int) = ((aSl K L 0 (Ls.take i)).length : Int) + 1 + (k : Int) by omega] at this
    exact this
  have nmH : ∀ (k : Nat) (x : Int × Int × Int × Int), (hSlt K L (g : Int) (0, (f_5 K L false (0, t)).2 + 1))[k]? = some x → slc u P (sgc u P (g : Int) 2 + (k : Int)) 0 = x.1 := fun k x hx => by
    have := (cz_sl C h1 (by rw [← hg]; exact g5 k x hx)).1.2.1
    rw [g2, show (((aSl K L 0 (Ls.take i)).length + j0 : Nat) : Int) + (k : Int) = (((aSl K L 0 (Ls.take i)).length + (j0 + k) : Nat) : Int) by omega]
    exact this
  obtain ⟨hs1, hs2, hs3⟩ := hSlt_at (K := K) (L := L) (q := (f_5 K L false (0, t)).2) (h := (g : Int))
  rw [← hhf] at hs1 hs2 hs3
  rw [← hhv] at hs2 hs3
  have hlast : (aSl K L 0 (Ls.take i)).length + (j0 + (hf.length + hv.length)) < (aSl K L 0 Ls).length := (cz_sl C h1 (by rw [← hg]; exact g5 _ _ hs3)).1.1
  rw [show d + 10 = d + 1 + 9 by omega]
  refine Zt_bd (fun hB => zc_6 hP ?_)
  have h34 : 0 ≤ (u.1 (P + 34) 2).toInt ∧ (u.1 (P + 34) 2).toInt ≤ 24000 := by
    rcases hP with rfl | rfl <;> exact hB.2 _ 2 _ _ (by decide +kernel) (by decide +kernel)
  unfold v_6_0
  intro s1 hs1'
  have r1 : s1.2 = u.2 := by rw [hs1']; rfl
  have z2 : (zg s1 (P + 26) (a1 * 10 + 2)).toInt = fcd K L W TN t := by
    rw [zg_fn (s := s1) (P := P) (a1 := a1) (c := 2) (k := 2) (by decide) (by decide) (by omega), ha1, ← c2]
    unfold fnc
    rw [r1]
  have z3 : (zg s1 (P + 26) (a1 * 10 + 3)).toInt = ((aSl K L 0 (Ls.take i)).length : Int) + 1 := by
    rw [zg_fn (s := s1) (P := P) (a1 := a1) (c := 3) (k := 3) (by decide) (by decide) (by omega), ha1, ← c3]
    unfold fnc
    rw [r1]
  have z5 : (zg s1 (P + 26) (a1 * 10 + 5)).toInt = (g : Int) := by
    rw [zg_fn (s := s1) (P := P) (a1 := a1) (c := 5) (k := 5) (by decide) (by decide) (by omega), ha1, ← c5]
    unfold fnc
    rw [r1]
  obtain ⟨x2, hx2⟩ : ∃ x, x = zg s1 (P + 26) (a1 * 10 + 2) := ⟨_, rfl⟩
  obtain ⟨x3, hx3⟩ : ∃ x, x = zg s1 (P + 26) (a1 * 10 + 3) := ⟨_, rfl⟩
  obtain ⟨x5, hx5⟩ : ∃ x, x = zg s1 (P + 26) (a1 * 10 + 5) := ⟨_, rfl⟩
  rw [← hx2] at z2
  rw [← hx3] at z3
  rw [← hx5] at z5
  rw [← hx2, ← hx3, ← hx5]
  refine zc_82 (d := d) hP ?_
  unfold v_82_0
  intro q1 hq1 q2 hq2 s6 hs6
  refine ⟨rfl, fun s7 hs7 x8 hx8 s9 hs9 => ⟨Or.inr ?_, fun s10 hs10 => ?_⟩⟩
  · rw [hs9, zf_1, if_neg (by decide), hs7, zf_1, if_pos ⟨rfl, rfl⟩]
    decide
  have r7 : s7.2 = u.2 := by rw [hs7, hs6, hq2, hq1, hs1']; rfl
  have ar2 : (zg s7 (P + 22) x2).toInt = (tp.length : Int) := by
    rw [zg_K, r7, C.1.1.2.2.2, z2]
    exact f3
  rw [ar2] at hx8
  have ex8 := hx8 (by omega)
  have F9 : ∀ c q, s9.1 c q = if c = 75 ∧ q = 3 then x8 else if c = 84 ∧ q = 7 then 18 else if c = 75 ∧ q = 6 then x5 else if c = 75 ∧ q = 5 then x3 else if c = 75 ∧ q = 4 then x2 else if c = 84 ∧ q = 6 then a1 else u.1 c q := fun c q => by rw [hs9, zf_1, hs7, zf_1, hs6, zf_1, hq2, zf_1, hq1, zf_1, hs1', zf_1]
  have r9 : s9.2 = u.2 := by rw [hs9]; exact r7
  have hlim : lim (P + 18) = 82938 := by rcases hP with rfl | rfl <;> decide +kernel
  have hlim26 : lim (P + 26) = 600 := by rcases hP with rfl | rfl <;> decide +kernel
  have e97 : s9.1 84 7 = 18 := by rw [F9, if_neg (by decide), if_pos (by decide)]
  rw [e97] at hs10
  have i18 : (18 : Int32).toInt = 18 := by decide
  have e10 : s10 = zr s9 (P + 18) 18 x2 := by
    rw [hs10, zt_in ⟨by decide, by rw [hlim]; decide⟩]
    rfl
  have f10 : s10.1 = s9.1 := by rw [e10, zr_1]
  refine ⟨fun b1 b2 b3 w => b1 = a1 ∧ b2 = x2 ∧ w.1 = s9.1 ∧ (∀ r, ¬ r = P + 18 → w.2 r = u.2 r) ∧ (∀ j : Nat, (j < 18 ∨ 25 < j) → w.2 (P + 18) j = u.2 (P + 18) j) ∧ ∃ k : Nat, k ≤ tp.length ∧ b3.toInt = (k : Int) ∧ WDz P w 18 (A0.take (k + 1)), fun _ _ b3 _ => (100 - b3.toInt).toNat, ⟨rfl, rfl, f10, fun r hr => ?_, fun j hj => ?_, 0, Nat.zero_le _, by decide, ?_⟩, ?_⟩
  · funext j
    rw [e10, zr_2, if_neg (fun z => hr z.1), r9]
  · rw [e10, zr_2, if_neg (fun z => by omega), r9]
  · intro j c hc
    have hj := (List.getElem?_eq_some_iff.mp hc).1
    rw [List.length_take] at hj
    have ej : j = 0 := by omega
    subst ej
    rw [hA0] at hc
    have ec : fcd K L W TN t = c := by simpa using hc
    rw [← ec, show (18 : Int) + ((0 : Nat) : Int) = 18 by omega, KI_p (by decide), e10, zr_2, if_pos ⟨rfl, by decide⟩]
    exact z2
  rintro b1 b2 b3 w ⟨e1', e2', w1, w2, w3, k, k1, k2, k3⟩
  subst e1' e2'
  have arw : (zg w (P + 22) b2).toInt = (tp.length : Int) := by
    rw [zg_K, w2 _ (by omega), C.1.1.2.2.2, z2]
    exact f3
  unfold v_6_45
  rw [arw]
  refine ⟨fun y s2 hs2' y3 hy3 y4 hy4 y5 hy5 => ?_, fun y x7 hx7 x8' hx8' x9 hx9 => ⟨Or.inr (by
    rw [w1, e97, i18] at hx7
    have e7 := hx7 (by omega)
    have e8 := hx8' (by omega)
    omega), fun s10' hs10' x11 hx11 => ?_⟩⟩
  · have hk : k = tp.length := by omega
    rw [hk, ← hA0l, List.take_length] at k3
    have ey3 := hy3 (by omega)
    have ey4 := hy4 (by omega)
    have e34 : s2.1 (P + 34) 2 = u.1 (P + 34) 2 := by
      rw [hs2', zf_1, if_neg (fun z => absurd z.2 (by decide)), w1, F9, if_neg (fun z => absurd z.2 (by decide)), if_neg (fun z => absurd z.2 (by decide)), if_neg (fun z => absurd z.2 (by decide)), if_neg (fun z => absurd z.2 (by decide)), if_neg (fun z => absurd z.2 (by decide)), if_neg (fun z => absurd z.2 (by decide))]
    rw [e34] at hy5
    have ey5 := hy5 h34.1
    refine ⟨⟨by omega, by omega⟩, fun s6' hs6' => ?_⟩
    have e6 : s6' = zr s2 (P + 26) y4.toInt.toNat y5 := by
      rw [hs6']
      exact zt_in ⟨by omega, by rw [hlim26]; omega⟩
    have at7 : (zg w (P + 26) (b1 * 10 + 7)).toInt = (f_7 K L false (0, t)).2 := by
      rw [zg_fn (s := w) (P := P) (a1 := b1) (c := 7) (k := 7) (by decide) (by decide) (by omega), ha1, ← c7]
      unfold fnc
      rw [w2 _ (by omega)]
    have fs : ∀ c q, s6'.1 c q = if c = 84 ∧ q = 5 then zg w (P + 26) (b1 * 10 + 7) else s9.1 c q := fun c q => by rw [e6, zr_1, hs2', zf_1, w1]
    have rs : ∀ r, ¬ r = P + 18 → ¬ r = P + 26 → s6'.2 r = u.2 r := fun r q1 q2 => by
      funext j
      rw [e6, zr_2, if_neg (fun z => q2 z.1), hs2', zf_2, w2 r q1]
    have r26 : ∀ j : Nat, ¬ j % 10 = 8 → s6'.2 (P + 26) j = u.2 (P + 26) j := fun j hj => by
      rw [e6, zr_2, if_neg (fun z => hj (by rw [z.2]; omega)), hs2', zf_2, w2 _ (by omega)]
    have r18 : ∀ j : Nat, s6'.2 (P + 18) j = w.2 (P + 18) j := fun j => by rw [e6, zr_2, if_neg (fun z => by omega), hs2', zf_2]
    have es : ∀ i c, slc s6' P i c = slc u P i c := fun i c => by
      unfold slc
      rw [rs _ (by omega) (by omega)]
    have eg : ∀ i c, sgc s6' P i c = sgc u P i c := fun i c => by
      unfold sgc
      rw [rs _ (by omega) (by omega)]
    have q754 : s6'.1 75 4 = b2 := by rw [fs, if_neg (by decide), F9, if_neg (by decide), if_neg (by decide), if_neg (by decide), if_neg (by decide), if_pos (by decide)]
    have q755 : s6'.1 75 5 = x3 := by rw [fs, if_neg (by decide), F9, if_neg (by decide), if_neg (by decide), if_neg (by decide), if_pos (by decide)]
    have q756 : s6'.1 75 6 = x5 := by rw [fs, if_neg (by decide), F9, if_neg (by decide), if_neg (by decide), if_pos (by decide)]
    have q753 : s6'.1 75 3 = x8 := by rw [fs, if_neg (by decide), F9, if_pos (by decide)]
    have q846 : s6'.1 84 6 = b1 := by rw [fs, if_neg (by decide), F9, if_neg (by decide), if_neg (by decide), if_neg (by decide), if_neg (by decide), if_neg (by decide), if_pos (by decide)]
    have q847 : s6'.1 84 7 = 18 := by rw [fs, if_neg (by decide)]; exact e97
    have oth : ∀ c q, ¬ c = 75 → ¬ c = 84 → s6'.1 c q = u.1 c q := fun c q n1 n2 => by rw [fs, if_neg (fun z => n2 z.1), F9, if_neg (fun z => n1 z.1), if_neg (fun z => n2 z.1), if_neg (fun z => n1 z.1), if_neg (fun z => n1 z.1), if_neg (fun z => n1 z.1), if_neg (fun z => n2 z.1)]
    refine ⟨rfl, ⟨?_, ?_, ?_, ?_, ?_⟩, by rw [q753]; exact ex8, by rw [fs, if_pos ⟨rfl, rfl⟩]; exact at7, oth P 14 (by omega) (by omega), oth P 10 (by omega) (by omega), rs _ (by omega) (by omega), oth P 11 (by omega) (by omega), by rw [q756, ← hg]; exact z5, oth _ 2 (by omega) (by omega), rs _ (by omega) (by omega), fun j hj => by rw [r18, w3 j (by omega)], fun j hj => by rw [e6, zr_2, if_neg (fun z => hj (by have := z.2; omega)), hs2', zf_2, w2 _ (by omega)], by
      unfold fnc
      rw [KI_p (by omega), e6, zr_2, if_pos ⟨rfl, by omega⟩]
      exact ey5⟩
    · refine CSz_g hP (fun r hr => rs _ (by omega) (by omega)) r26 (fun j hj => ?_) (fun j _ => by rw [rs _ (by omega) (by omega)]) (fun b hb => oth b 2 (by omega) (by omega)) C
      rw [r18, w3 j (by omega)]
    · show SCz P s6' (h_f K L (0, (f_5 K L false (0, t)).2 + 1)) (fPa K L false (0, t))
      rw [← hhf, ← htp]
      unfold SCz
      rw [q754, q755, q756, z5, z3, z2, rs _ (by omega) (by omega), C.1.1.2.2.2]
      refine ⟨Or.inr ⟨by omega, by omega, by rw [eg]; exact g3, by rw [eg]; exact p3, fun k v hv' => ?_⟩, f3, tp6, fun _ => ⟨by omega, by omega⟩, fun k v hv' => ?_⟩
      · rw [eg, es]
        exact nmH k _ (hs1 k v hv')
      · rw [es]
        exact nmT k v hv'
    · intro q y1 y2
      rw [rs _ (by omega) (by omega)]
      exact hLA q y1 y2
    · refine ⟨fcd K L W TN t, (g : Int), by rw [q754]; exact z2, by rw [q756]; exact z5, ?_, fun _ => f1, Or.inr ⟨g, hgl, rfl, ?_⟩, ?_⟩
      · show ar (fcd K L W TN t) = ((fPa K L false (0, t)).length : Int)
        rw [← htp]
        exact f3
      · show (h_f K L (0, (f_5 K L false (0, t)).2 + 1)).length = _
        rw [← hhf, e1]
      · funext c
        show (if c < 30 then (Bfd K L W ar TN Ls (fcd K L W TN t)).getD (c - 24).toNat [] else (hdd K L W ar TN Ls (kHd K L (Ls.take i))).2.2.getD (c - 30).toNat []) = bnD (Bfd K L W ar TN Ls) (hdd K L W ar TN Ls) (fcd K L W TN t) (g : Int) c
        unfold bnD
        by_cases q : c < 30
        · rw [if_pos q, if_pos q]
        · rw [if_neg q, if_neg q, if_neg (by omega), Int.toNat_natCast, hg]
    · refine Or.inr ⟨(f_1 K L false (0, t)).2, hv, A0, hv.map (fun v => wdC K L W ar TN hf tp (v + 1)), sgc u P (g : Int) 2 + (hf.length : Int), ?_, ?_, List.length_map _, by omega, ?_, ?_, by rw [q847]; decide, by omega, ?_, ?_, ?_, ?_, ?_, fun k v hv' => ?_, fun k M hM => ?_⟩
      · rw [hhv]
        rfl
      · rw [hA0, hhv, hhf, htp]
        rfl
      · rw [q846, ha1]
        omega
      · rw [q846, ha1]
        unfold fnc at c1 ⊢
        rw [KI_p (by omega), r26 _ (by omega), ← KI_p (by omega)]
        exact c1
      · intro j c hc
        have := k3 j c hc
        rw [← this, KI_p (by omega), KI_p (by omega), r18]
      · rw [q756, z5]
        omega
      · rw [q756, z5, eg]
        exact g4
      · rw [q756, z5, eg, eg, g3]
      · omega
      · rw [es]
        have := nmH _ _ (hs2 k v hv')
        rw [show sgc u P (g : Int) 2 + (hf.length : Int) + (k : Int) = sgc u P (g : Int) 2 + ((hf.length + k : Nat) : Int) by omega]
        exact this
      · rw [es]
        rw [List.getElem?_map] at hM
        obtain ⟨v, hv', rfl⟩ := Option.map_eq_some_iff.mp hM
        have hX : (hdd K L W ar TN Ls g).2.2[hf.length + k]? = some (wdC K L W ar TN hf tp (v + 1)) := by
          rw [t1]
          show ((hSlt K L (g : Int) (0, (f_5 K L false (0, t)).2 + 1)).map (fun x => wdC K L W ar TN (h_f K L (0, (f_5 K L false (0, t)).2 + 1)) (dTp K L t) x.2.2.1))[hf.length + k]? = _
          rw [List.getElem?_map, hs2 k v hv', ed, ← hhf, ← htp]
          rfl
        obtain ⟨⟨y1, y1'⟩, y2, -⟩ := p6 _ _ hX
        have y3 := p7 _ _ hX
        rw [show sgc u P (g : Int) 2 + ((hf.length + k : Nat) : Int) = sgc u P (g : Int) 2 + (hf.length : Int) + (k : Int) by omega] at y1 y1' y2 y3
        refine ⟨y1, y3, fun j c hc => ?_⟩
        have hj := (List.getElem?_eq_some_iff.mp hc).1
        have hk0 := C.2.2.2.2.1.2
        rw [← y2 j c hc, KI_p (by omega), KI_p (by omega), r18, w3 _ (by omega)]
  · have hk : k < tp.length := by omega
    have ew7 : (w.1 84 7).toInt = 18 := by rw [w1, e97]; decide
    rw [ew7] at hx7
    have y7 := hx7 (by omega)
    have y8 := hx8' (by omega)
    have y9 := hx9 (by omega)
    have y11 := hx11 (by omega)
    have e' : s10' = zr w (P + 18) x8'.toInt.toNat x9 := by
      rw [hs10']
      exact zt_in ⟨by omega, by rw [hlim]; omega⟩
    refine ⟨⟨rfl, rfl, by rw [e', zr_1]; exact w1, fun r hr => ?_, fun j hj => ?_, k + 1, by omega, by omega, fun j c hc => ?_⟩, by dsimp only; omega⟩
    · funext j
      rw [e', zr_2, if_neg (fun z => hr z.1), w2 r hr]
    · rw [e', zr_2, if_neg (fun z => by omega), w3 j hj]
    · have hj := (List.getElem?_eq_some_iff.mp hc).1
      rw [List.length_take] at hj
      rw [List.getElem?_take, if_pos (by omega)] at hc
      rw [KI_p (by omega), e', zr_2]
      by_cases ej : j = k + 1
      · rw [if_pos ⟨rfl, by omega⟩, y9]
        rw [ej, hA0, List.getElem?_cons_succ, List.getElem?_map, List.getElem?_range hk] at hc
        have hc : 24 + (k : Int) = c := by simpa using hc
        omega
      · rw [if_neg (fun z => by omega)]
        have := k3 j c (by rw [List.getElem?_take, if_pos (by omega)]; exact hc)
        rw [KI_p (by omega)] at this
        exact this
end ZZEF
