/-! ===== print: words, TYPES ===== -/
theorem l_div {a b : Int64} (ha : 0 ≤ a.toInt) (hb : 0 < b.toInt) : (a / b).toInt = a.toInt / b.toInt := by
  rw [Int64.toInt_div, Int.tdiv_eq_ediv_of_nonneg ha]
  have h1 : a.toInt / b.toInt ≤ a.toInt := Int.ediv_le_self _ ha
  have h2 : 0 ≤ a.toInt / b.toInt := Int.ediv_nonneg ha (by omega)
  have h3 := a.toInt_lt
  exact l_bm (by omega)
theorem l_rem {a b : Int64} (ha : 0 ≤ a.toInt) (hb : 0 < b.toInt) : (a - a / b * b).toInt = a.toInt % b.toInt := by
  have h1 := l_div ha hb
  have h2 : 0 ≤ a.toInt / b.toInt := Int.ediv_nonneg ha (by omega)
  have h3 : a.toInt / b.toInt * b.toInt ≤ a.toInt := Int.ediv_mul_le _ (by omega)
  have h4 : 0 ≤ a.toInt / b.toInt * b.toInt := Int.mul_nonneg h2 (by omega)
  have h5 := a.toInt_lt
  have e := Int.emod_def a.toInt b.toInt
  have e2 : b.toInt * (a.toInt / b.toInt) = a.toInt / b.toInt * b.toInt := Int.mul_comm _ _
  rw [Int64.toInt_sub, Int64.toInt_mul, h1, l_bm (z := a.toInt / b.toInt * b.toInt) (by omega), l_bm (by omega)]
  omega
theorem lgc {x y : Int64} : ((lg_cmp x y).toInt ≤ 0 ↔ x.toInt ≤ y.toInt) ∧ (0 < (lg_cmp x y).toInt ↔ y.toInt < x.toInt) := by
  unfold lg_cmp
  by_cases h : x > y
  · have := Int64.lt_iff_toInt_lt.mp h
    rw [if_pos h, show (1 : Int32).toInt = 1 by decide]
    omega
  · have h' : ¬ y.toInt < x.toInt := fun w => h (Int64.lt_iff_toInt_lt.mpr w)
    rw [if_neg h]
    split
    · rw [show (0 : Int32).toInt = 0 by decide]
      omega
    · rw [show (-1 : Int32).toInt = -1 by decide]
      omega
theorem l32 {a : Int64} (h : 0 ≤ a.toInt ∧ a.toInt ≤ 1000) : (Int64.toInt32 a).toInt = a.toInt := by
  rw [Int64.toInt_toInt32]
  exact Int.bmod_eq_of_le (by omega) (by omega)
theorem p64_pos : ∀ k, 0 < p64 k
  | 0 => by decide
  | k + 1 => by
    have := p64_pos k
    show 0 < 64 * p64 k
    omega
/-- what saying leaves -/
def SAy (s s' : yS) : Prop := eqx [120] [284] [] s s' ∧ (0 ≤ (s'.1 120).toInt ∧ (s'.1 120).toInt ≤ 2000) ∧ (s.1 120).toInt ≤ (s'.1 120).toInt
def sOK (s : yS) : Prop := 0 ≤ (s.1 120).toInt ∧ (s.1 120).toInt ≤ 2000
section SAY
variable {s s' s'' : yS}
theorem SAy_rf (h : sOK s) : SAy s s := ⟨eqx_rf, h, Int.le_refl _⟩
theorem SAy_tr (h : SAy s s') (h' : SAy s' s'') : SAy s s'' := ⟨eqx_tr h.1 h'.1, h'.2.1, Int.le_trans h.2.2 h'.2.2⟩
theorem s_261' {d : Nat} {c : Int32} (h : sOK s) : Tot (d + 1) 261 [.ref 213, .int c] s (fun v s' => v = none ∧ SAy s s' ∧ ((s.1 120).toInt < 2000 → (s.1 120).toInt + 1 ≤ (s'.1 120).toInt)) := by
  refine Tot.imp (s_261 h) ?_
  rintro v s' ⟨rfl, h1, h2, h3, h4⟩
  unfold sOK at h
  by_cases q : (s.1 120).toInt < 2000
  · exact ⟨rfl, ⟨h1, by omega, by omega⟩, fun _ => by omega⟩
  · have e := h3 (by omega)
    subst e
    exact ⟨rfl, ⟨h1, h, Int.le_refl _⟩, fun w => absurd w q⟩
theorem s_263 {d : Nat} {a : Int64} (hs : sOK s) (h0 : 0 ≤ a.toInt) (h1 : a.toInt < 18014398509481984) : Tot (d + 2) 263 [.ref 213, .long a] s (fun v s' => v = none ∧ SAy s s' ∧ (0 < a.toInt → (s.1 120).toInt < 2000 → (s.1 120).toInt + 1 ≤ (s'.1 120).toInt)) := by
  refine t_263 ?_
  unfold w_263_0
  have e64 : (64 : Int64).toInt = 64 := by decide
  refine ⟨fun a1 a3 t => a1 = a ∧ t = s ∧ ∃ k : Nat, k ≤ 9 ∧ a3.toInt = p64 k ∧ (k = 0 ∨ p64 k ≤ a.toInt), fun _ a3 _ => (1152921504606846976 - a3.toInt).toNat, ⟨rfl, rfl, 0, by omega, by decide, Or.inl rfl⟩, ?_⟩
  rintro a1 a3 t ⟨e1, e2, k, k1, k2, k3⟩
  have e1 := e1.symm
  have e2 := e2.symm
  subst e1 e2
  have kp := p64_pos k
  have kl := p64_le k1
  have hd : (a / 64).toInt = a.toInt / 64 := by rw [l_div h0 (by rw [e64]; decide), e64]
  unfold w_263_2
  refine ⟨fun hend => ?_, fun hmore => ?_⟩
  · have hend := lgc.2.mp hend
    rw [hd] at hend
    clear k3
    refine ⟨fun b1 b3 b5 t => b1 = a ∧ SAy s t ∧ 0 ≤ b5.toInt ∧ ((b3.toInt = 0 ∧ (0 < a.toInt → (s.1 120).toInt < 2000 → (s.1 120).toInt + 1 ≤ (t.1 120).toInt)) ∨ ∃ j : Nat, j ≤ 9 ∧ b3.toInt = p64 j ∧ b5.toInt < 64 * p64 j), fun _ b3 _ _ => b3.toInt.toNat, ⟨rfl, SAy_rf hs, h0, Or.inr ⟨k, k1, k2, by omega⟩⟩, ?_⟩
    rintro b1 b3 b5 t ⟨e1, tS, b5p, hb⟩
    have e1 := e1.symm
    subst e1
    unfold w_263_15 w_263_39
    rw [lgc.1, lgc.1, show (0 : Int64).toInt = 0 by decide]
    refine ⟨fun hz => ⟨rfl, tS, ?_⟩, fun hz => ⟨fun hz2 => ⟨rfl, tS, fun w => by omega⟩, fun hz2 => ?_⟩⟩
    · rcases hb with hb | ⟨j, j1, j2, j3⟩
      · exact hb.2
      · have := p64_pos j
        omega
    · obtain ⟨j, j1, j2, j3⟩ := hb.resolve_left (fun w => hz (by omega))
      have jp := p64_pos j
      have hb0 : ¬ b3 = 0 := fun w => hz (by rw [w]; decide)
      have q1 := l_div (a := b5) (b := b3) b5p (by omega)
      have q2 : b5.toInt / b3.toInt < 64 := Int.ediv_lt_of_lt_mul (by omega) (by rw [j2]; exact j3)
      have q3 : 0 ≤ b5.toInt / b3.toInt := Int.ediv_nonneg b5p (by omega)
      refine ⟨hb0, ?_⟩
      refine Tot.imp (Tot.mono (by omega) (s_262 (d := 0) (by rw [l32 (by omega)]; omega))) ?_
      rintro v t1 ⟨e, x3, rfl⟩
      have e := e.symm
      subst e
      refine ⟨x3, rfl, ?_⟩
      refine Tot.imp (Tot.mono (by omega) (s_261' (d := 0) (s := t) tS.2.1)) ?_
      rintro v t2 ⟨rfl, uS, u2⟩
      have r1 := l_rem (a := b5) (b := b3) b5p (by omega)
      have r2 : 0 ≤ b5.toInt % b3.toInt := Int.emod_nonneg _ (by omega)
      have r3 : b5.toInt % b3.toInt < b3.toInt := Int.emod_lt_of_pos _ (by omega)
      have r4 : (b3 / 64).toInt = b3.toInt / 64 := by rw [l_div (by omega) (by rw [e64]; decide), e64]
      refine ⟨rfl, hb0, ⟨rfl, SAy_tr tS uS, by omega, ?_⟩, by show (b3 / 64).toInt.toNat < b3.toInt.toNat; omega⟩
      have key : 0 < a.toInt → (s.1 120).toInt < 2000 → (s.1 120).toInt + 1 ≤ (t2.1 120).toInt := fun _ w => by
        have := tS.2.2
        have := uS.2.2
        by_cases c : (t.1 120).toInt < 2000
        · have := u2 c
          omega
        · omega
      cases j with
      | zero =>
        have : b3.toInt = 1 := j2
        exact Or.inl ⟨by omega, key⟩
      | succ j =>
        have e : p64 (j + 1) = 64 * p64 j := rfl
        exact Or.inr ⟨j, by omega, by omega, by omega⟩
  · have hmore : a3.toInt ≤ a.toInt / 64 := by
      by_cases w : a3.toInt ≤ a.toInt / 64
      · exact w
      · exact absurd (lgc.2.mpr (by rw [hd]; omega)) hmore
    have hk : k ≤ 8 := by
      by_cases w : k ≤ 8
      · exact w
      · have e9 : k = 9 := by omega
        have : p64 9 = 18014398509481984 := by decide
        rw [e9] at k2
        omega
    have hm : (a3 * 64).toInt = 64 * a3.toInt := by
      rw [Int64.toInt_mul, e64, l_bm (by omega)]
      omega
    have e : p64 (k + 1) = 64 * p64 k := rfl
    refine ⟨⟨rfl, rfl, k + 1, by omega, by omega, Or.inr (by omega)⟩, ?_⟩
    show (1152921504606846976 - (a3 * 64).toInt).toNat < (1152921504606846976 - a3.toInt).toNat
    omega
theorem s_264 {d b w : Nat} {a : Int32} (hs : sOK s) (h29 : (s.1 29).toInt = (b : Int)) (hb : b < 2) (ha : a.toInt = (w : Int)) (hw : w < 2100) (hg : gw s.2.2 (2100 * b + w)) : Tot (d + 3) 264 [.ref 213, .int a] s (fun v s' => v = none ∧ SAy s s' ∧ ((s.1 120).toInt < 2000 → (s.1 120).toInt + 1 ≤ (s'.1 120).toInt)) := by
  obtain ⟨g1, g2, g3, g4⟩ := hg
  refine t_264 ?_
  unfold w_264_0
  refine ⟨by omega, fun x1 hx1 => ⟨by omega, fun x2 hx2 => ⟨by omega, ?_⟩⟩⟩
  rw [show x2.toInt.toNat = 2100 * b + w by omega]
  refine Tot.imp (s_263 hs (by omega) g2) ?_
  rintro v t ⟨rfl, tS, t1⟩
  have t29 : t.1 29 = s.1 29 := tS.1.1 29 (by decide)
  have t22 : t.2.2 219 = s.2.2 219 := tS.1.2.2 219 (by decide)
  rw [t29, t22]
  refine ⟨rfl, by omega, fun x5 hx5 => ⟨by omega, fun x6 hx6 => ⟨by omega, ?_⟩⟩⟩
  rw [show x6.toInt.toNat = 2100 * b + w by omega]
  refine Tot.imp (s_263 (s := t) tS.2.1 g3 g4) ?_
  rintro v u ⟨rfl, uS, -⟩
  refine ⟨rfl, rfl, SAy_tr tS uS, fun q => ?_⟩
  have := t1 g1 q
  have := uS.2.2
  omega
/-- names of the types -/
def NMs (b T : Nat) (s : yS) : Prop := (s.1 29).toInt = (b : Int) ∧ b < 2 ∧ T ≤ 24 ∧ ∀ c, c < T → ∃ t w : Nat, (s.2.1 234 (24 * b + c)).toInt = (t : Int) ∧ t < 12006 ∧ (s.2.1 217 t).toInt = (w : Int) ∧ w < 2100 ∧ gw s.2.2 (2100 * b + w)
theorem NMs_eq {b T : Nat} {ks rs : List Nat} (h : NMs b T s) (hx : eqx ks rs [] s s') (h1 : 29 ∉ ks) (h2 : 234 ∉ rs) (h3 : 217 ∉ rs) : NMs b T s' := by
  obtain ⟨k1, k2, k3, k4⟩ := h
  refine ⟨by rw [hx.1 29 h1]; exact k1, k2, k3, fun c hc => ?_⟩
  obtain ⟨t, w, q1, q2, q3, q4, q5⟩ := k4 c hc
  refine ⟨t, w, by rw [hx.2.1 234 h2]; exact q1, q2, by rw [hx.2.1 217 h3]; exact q3, q4, ?_⟩
  unfold gw at q5 ⊢
  rw [hx.2.2 218 (by decide), hx.2.2 219 (by decide)]
  exact q5
/-- a row of elements stands in saidRow -/
def RWs (s : yS) (p : Nat) (L : List Nat) : Prop := ∀ (i x : Nat), L[i]? = some x → (s.2.1 285 (p + i)).toInt = (x : Int)
theorem RWs_app {p : Nat} {A B : List Nat} (h : RWs s p (A ++ B)) : RWs s p A ∧ RWs s (p + A.length) B := by
  refine ⟨fun i x hx => h i x ?_, fun i x hx => ?_⟩
  · have hi : i < A.length := by
      by_cases q : i < A.length
      · exact q
      · rw [List.getElem?_eq_none (by omega)] at hx
        cases hx
    rw [List.getElem?_append_left hi]
    exact hx
  · rw [Nat.add_assoc]
    refine h _ x ?_
    rw [List.getElem?_append_right (by omega), show A.length + i - A.length = i by omega]
    exact hx
theorem RWs_eq {p : Nat} {L : List Nat} (h : RWs s p L) (e : s'.2.1 285 = s.2.1 285) : RWs s' p L := fun i x hx => by rw [e]; exact h i x hx
theorem s_265 {b T : Nat} : ∀ (k : Nat) (L : List Nat) (p : Nat) (s : yS) (a : Int32), L.length ≤ k → isF 1 L → (∀ x ∈ L, x / 8 < T) → RWs s p L → p + L.length ≤ 60 → a.toInt = (p : Int) → NMs b T s → sOK s → Tot (k + 4) 265 [.ref 213, .int a] s (fun v s' => ∃ x : Int32, v = some (.int x) ∧ x.toInt = (p : Int) + L.length ∧ SAy s s' ∧ ((s.1 120).toInt < 2000 → (s.1 120).toInt + 1 ≤ (s'.1 120).toInt))
  | 0, L, p, s, a, hk, hF, _, _, _, _, _, _ => by
    have : L = [] := List.length_eq_zero_iff.mp (by omega)
    rw [this] at hF
    have h1 : 1 = 0 := hF
    omega
  | k + 1, L, p, s, a, hk, hF, hV, hR, h60, ha, hN, hs => by
    obtain ⟨x, As, hc⟩ := cutT_ex hF
    obtain ⟨n1, n2, n3, n4⟩ := id hN
    have hx : x / 8 < T := hV x (by rw [hc.1]; exact List.mem_cons_self)
    have r0 : (s.2.1 285 p).toInt = (x : Int) := hR 0 x (by rw [hc.1]; rfl)
    have hlen : L.length = 1 + As.flatten.length := by rw [hc.1, List.length_cons]; omega
    obtain ⟨t, w, t1, t2, t3, t4, t5⟩ := n4 _ hx
    refine t_265 ?_
    unfold w_265_0
    rw [show a.toInt.toNat = p by omega]
    refine ⟨by omega, ?_⟩
    refine Tot.imp (Tot.mono (by omega) (s_185 (d := 0) (by omega))) ?_
    rintro v s1 ⟨e, x3, rfl, hx3⟩
    have e := e.symm
    subst e
    rw [r0] at hx3
    refine ⟨x3, rfl, by omega, by omega, fun x4 hx4 => ⟨by omega, fun x5 hx5 => ⟨by omega, fun x6 hx6 => ?_⟩⟩⟩
    have e6 : x6.toInt.toNat = 24 * b + x / 8 := by omega
    rw [e6, show (s.2.1 234 (24 * b + x / 8)).toInt.toNat = t by omega]
    refine ⟨by omega, by omega, ?_⟩
    refine Tot.imp (Tot.mono (by omega) (s_264 (d := 0) hs n1 n2 t3 t4 t5)) ?_
    rintro v u ⟨rfl, uS, u1⟩
    refine ⟨rfl, by omega, fun x9 hx9 => ?_⟩
    have hT : ∀ B ∈ As, ∀ y ∈ B, y / 8 < T := fun B hB y hy => hV y (by rw [hc.1]; exact List.mem_cons_of_mem _ (List.mem_flatten.mpr ⟨B, hB, hy⟩))
    have hRf : RWs s (p + 1) As.flatten := by
      have := (RWs_app (s := s) (p := p) (A := [x]) (B := As.flatten) (by rw [hc.1] at hR; exact hR)).2
      exact this
    refine ⟨fun z1 z2 z3 z4 z5 f => z3 = x4 ∧ SAy u f ∧ ∃ j q : Nat, z5.toInt = (j : Int) ∧ j ≤ As.length ∧ z4.toInt = (q : Int) ∧ p + 1 ≤ q ∧ q + (As.drop j).flatten.length = p + L.length ∧ RWs s q (As.drop j).flatten, fun _ _ _ _ z5 _ => (100 - z5.toInt).toNat, ⟨rfl, SAy_rf uS.2.1, 0, p + 1, rfl, by omega, by omega, Nat.le_refl _, by rw [List.drop_zero]; omega, hRf⟩, ?_⟩
    rintro z1 z2 z3 z4 z5 f ⟨e3, fS, j, q, j1, j2, j3, j4, j5, j6⟩
    have e3 := e3.symm
    subst e3
    have h8 : As.length = x % 8 := hc.2.2
    have sf' := SAy_tr uS fS
    have up : (s.1 120).toInt < 2000 → (s.1 120).toInt + 1 ≤ (f.1 120).toInt := fun w => by
      have := u1 w
      have := fS.2.2
      omega
    unfold w_265_33 w_265_54 w_265_42
    have step : ∀ (c : Int32), j < As.length → Tot (k + 1 + 3) 261 [.ref 213, .int c] f (fun v2 s1 => v2 = none ∧ (Tot (k + 1 + 3) 265 [.ref 213, .int z4] s1 (fun v4 s3 => ∃ x5, v4 = some (.int x5) ∧ ((-2147483648 ≤ z5.toInt + 1 ∧ z5.toInt + 1 ≤ 2147483647) ∧ (∀ x6 : Int32, x6.toInt = z5.toInt + 1 → (x4 = x4 ∧ SAy u s3 ∧ ∃ j q : Nat, x6.toInt = (j : Int) ∧ j ≤ As.length ∧ x5.toInt = (q : Int) ∧ p + 1 ≤ q ∧ q + (As.drop j).flatten.length = p + L.length ∧ RWs s q (As.drop j).flatten) ∧ (100 - x6.toInt).toNat < (100 - z5.toInt).toNat))))) := by
      intro c hj
      refine Tot.imp (Tot.mono (by omega) (s_261' (d := 0) (s := f) fS.2.1)) ?_
      rintro v g ⟨rfl, gS, -⟩
      refine ⟨rfl, ?_⟩
      have hd : As.drop j = As[j] :: As.drop (j + 1) := drop_get (List.getElem?_eq_getElem hj)
      rw [hd, List.flatten_cons] at j5 j6
      rw [List.length_append] at j5
      obtain ⟨w1, w2⟩ := RWs_app j6
      have hm : As[j] ∈ As := List.getElem_mem hj
      have sg := SAy_tr sf' gS
      have hl := len_flat hm
      refine Tot.imp (s_265 k As[j] q g z4 (by omega) (hc.2.1 _ hm) (hT _ hm) (RWs_eq w1 (sg.1.2.1 285 (by decide))) (by omega) j3 (NMs_eq hN sg.1 (by decide) (by decide) (by decide)) sg.2.1) ?_
      rintro v h ⟨y, rfl, hy, hS, -⟩
      exact ⟨y, rfl, by omega, fun x6 hx6 => ⟨⟨rfl, SAy_tr (SAy_tr fS gS) hS, j + 1, q + As[j].length, by omega, by omega, by omega, by omega, by omega, w2⟩, by omega⟩⟩
    refine ⟨fun hend => ?_, fun hmore => ⟨fun _ => step 44 (by omega), fun _ => step 91 (by omega)⟩⟩
    have ej : j = As.length := by omega
    rw [ej, List.drop_length] at j5
    have j5 : q + 0 = p + L.length := j5
    refine ⟨fun _ => ⟨z4, rfl, by omega, sf', up⟩, fun _ => ?_⟩
    refine Tot.imp (Tot.mono (by omega) (s_261' (d := 0) (s := f) fS.2.1)) ?_
    rintro v g ⟨rfl, gS, -⟩
    exact ⟨rfl, z4, rfl, by omega, SAy_tr sf' gS, fun w => by have := up w; have := gS.2.2; omega⟩
end SAY
