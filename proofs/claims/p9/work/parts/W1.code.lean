/-! ===== the class: blame, typeNamed, codeOf ===== -/
/-- two words of the text are one -/
def SMz (P : Nat) (s : zS) (K W : Int → Int) (n : Int) : Prop := ∀ t u : Int, 0 ≤ t → t ≤ n → 0 ≤ u → u ≤ n → K t = 1 → K u = 1 → okT s P t.toNat ∧ okT s P u.toNat ∧ (eqT s P t.toNat u.toNat ↔ W t = W u)
/-- a word's token -/
def wTk (K : Int → Int) (n t : Int) : Prop := 0 ≤ t ∧ t ≤ n ∧ K t = 1
/-- the types' names -/
def TNz (P : Nat) (s : zS) (K : Int → Int) (n : Int) (TN : List Int) : Prop := zsz s (P + 24) = 6 * (TN.length : Int) ∧ TN.length ≤ 24 ∧ ∀ (i : Nat) (u : Int), TN[i]? = some u → tyc s P (i : Int) 0 = u ∧ wTk K n u
/-- the scope: PARAMS of the HEAD, of the type or func -/
def SCz (P : Nat) (s : zS) (hf tp : List Int) : Prop := (((s.1 75 6).toInt < 0 ∧ hf = []) ∨ ((0 ≤ (s.1 75 6).toInt ∧ (s.1 75 6).toInt ≤ 4000) ∧ hf.length ≤ 6 ∧ sgc s P (s.1 75 6).toInt 3 = (hf.length : Int) ∧ (0 ≤ sgc s P (s.1 75 6).toInt 2 ∧ sgc s P (s.1 75 6).toInt 2 ≤ 4000) ∧ ∀ (i : Nat) (u : Int), hf[i]? = some u → slc s P (sgc s P (s.1 75 6).toInt 2 + i) 0 = u)) ∧ KI (s.2 (P + 22)) (s.1 75 4).toInt = (tp.length : Int) ∧ tp.length ≤ 6 ∧ (tp ≠ [] → 0 ≤ (s.1 75 5).toInt ∧ (s.1 75 5).toInt ≤ 4000) ∧ ∀ (i : Nat) (u : Int), tp[i]? = some u → slc s P ((s.1 75 5).toInt + i) 0 = u
section WCD
variable {d P : Nat} {s : zS} {a1 a2 a3 : Int32} {K L W : Int → Int} {n : Int} {hf tp TN : List Int}
/-- blame -/
theorem zs_38b (hP : P = 3 ∨ P = 39) (hL : 0 ≤ KI (s.2 (P + 6)) a2.toInt ∧ KI (s.2 (P + 6)) a2.toInt ≤ 5000) (h1 : 0 ≤ a1.toInt ∧ a1.toInt ≤ 15) : Zt (d + 9) (wd P 38) 38 [.ref P, .int a1, .int a2] s (fun v s' => v = none ∧ (((s.1 P 14).toInt = 0 ∧ ¬ a1.toInt = 0 ∧ ∃ x : Int32, x.toInt = a1.toInt + 16 * KI (s.2 (P + 6)) a2.toInt ∧ s' = zf s P 14 x) ∨ (¬ ((s.1 P 14).toInt = 0 ∧ ¬ a1.toInt = 0) ∧ s' = s))) := by
  refine zc_38 hP ?_
  unfold v_38_0
  rw [zg_K]
  refine ⟨fun w => ⟨rfl, Or.inr ⟨fun q => w q.1, rfl⟩⟩, fun h0 => ⟨fun w => ⟨rfl, Or.inr ⟨fun q => q.2 w, rfl⟩⟩, fun hc x1 hx1 x2 hx2 s3 hs3 => ⟨rfl, Or.inl ⟨h0, hc, x2, ?_, hs3⟩⟩⟩⟩
  have e1 := hx1 (by omega)
  have e2 := hx2 (by omega)
  omega
theorem cn_ty (h : zsz s (P + 24) = 6 * (n : Int)) (hn : 0 ≤ n) : (s.1 (P + 24) 2 / 6).toInt = n := by
  rw [i_dv (x := s.1 (P + 24) 2) (y := 6) rfl (show (6 : Int32).toInt = 6 by decide) (by decide) (by unfold zsz at h; omega)]
  unfold zsz at h
  omega
/-- typeNamed -/
theorem zs_51 (hP : P = 3 ∨ P = 39) (hS : SMz P s K W n) (hT : TNz P s K n TN) (h2 : wTk K n a2.toInt) : Zt (d + 10) (wd P 51) 51 [.ref P, .ref (P + 1), .int a2] s (fun v s' => s' = s ∧ ∃ r : Int32, v = some (.int r) ∧ r.toInt = fIx (wEq W a2.toInt) 0 TN) := by
  obtain ⟨t1, t2, t3⟩ := hT
  refine zc_51 (d := d + 1) hP ?_
  unfold v_51_0
  refine ⟨fun b2 b3 u => b2 = a2 ∧ u = s ∧ ∃ i : Nat, b3.toInt = (i : Int) ∧ i ≤ TN.length ∧ ∀ (j : Nat) (v : Int), j < i → TN[j]? = some v → wEq W a2.toInt v = false, fun _ b3 _ => (24 - b3.toInt).toNat, ⟨rfl, rfl, 0, by decide, Nat.zero_le _, fun j v hj _ => by omega⟩, ?_⟩
  rintro b2 b3 u ⟨e1, e2, i, g1, g2, g3⟩
  subst e1 e2
  unfold v_51_2
  rw [cn_ty t1 (by omega)]
  refine ⟨fun w => ⟨rfl, -1, rfl, ?_⟩, fun w => ?_⟩
  · rw [fIx_no TN 0 (fun j v hv => g3 j v (by have := (List.getElem?_eq_some_iff.mp hv).1; omega) hv)]
    decide
  · have hi : i < TN.length := by omega
    have hu : TN[i]? = some TN[i] := List.getElem?_eq_getElem hi
    obtain ⟨t4, t5⟩ := t3 i _ hu
    have n0 := zg_ty (s := u) (P := P) (a1 := b3) (c := 0) (k := 0) (by decide) (by decide) (by omega)
    rw [g1, t4] at n0
    obtain ⟨o1, o2, o3⟩ := hS TN[i] b2.toInt t5.1 t5.2.1 h2.1 h2.2.1 t5.2.2 h2.2.2
    refine Zt.imp (Zt.mo (d := 9) (by omega) (zs_111 (d := 0) hP (by rw [n0]; exact t5.1) h2.1 (by rw [n0]; exact o1) o2)) ?_
    rintro v2 s3 ⟨hs3, x4, rfl, hr⟩
    subst hs3
    rw [n0] at hr
    refine ⟨x4, rfl, fun w4 x5 hx5 => ?_, fun w4 => ⟨rfl, b3, rfl, ?_⟩⟩
    · have e5 := hx5 (by omega)
      rcases hr with ⟨r1, -⟩ | ⟨-, r1⟩
      · omega
      refine ⟨⟨rfl, rfl, i + 1, by omega, by omega, fun j v hj hv => ?_⟩, by dsimp only; omega⟩
      by_cases ej : j = i
      · rw [ej, hu] at hv
        rw [← Option.some.inj hv]
        exact decide_eq_false (fun q => r1 (o3.mpr q))
      · exact g3 j v (by omega) hv
    · rcases hr with ⟨-, r1⟩ | ⟨r1, -⟩
      · rw [fIx_at TN 0 i _ hu (decide_eq_true (o3.mp r1)) g3, g1]
        omega
      · omega
/-- codeOf -/
theorem zs_133 (hP : P = 3 ∨ P = 39) (hW : KI (s.2 (P + 10)) = W) (hS : SMz P s K W n) (hT : TNz P s K n TN) (hC : SCz P s hf tp) (h1 : wTk K n a1.toInt) : Zt (d + 11) (wd P 133) 133 [.ref 83, .int a1] s (fun v s' => s' = s ∧ ∃ r : Int32, v = some (.int r) ∧ r.toInt = cdOf W hf tp TN a1.toInt) := by
  obtain ⟨c1, c2, c3, c4, c5⟩ := hC
  refine zc_133 (d := d + 2) hP ?_
  have e2 : (zg s (P + 10) a1).toInt = W a1.toInt := by rw [zg_K, hW]
  -- the second list, behind the first
  have snd : fIx (wEq W a1.toInt) 0 hf = -1 → ∀ (b3 : Int32), vl_133_62 (fun j => Zt (d + 2 + 8) (wd P j) j) P a1 (zg s (P + 10) a1) b3 (zg s (P + 22) (s.1 75 4)) 0 s (fun v s' => s' = s ∧ ∃ r : Int32, v = some (.int r) ∧ r.toInt = cdOf W hf tp TN a1.toInt) := by
    intro hno b3
    have e4 : (zg s (P + 22) (s.1 75 4)).toInt = (tp.length : Int) := by rw [zg_K]; exact c2
    refine ⟨fun d1 d2 d3 d4 d5 u => d1 = a1 ∧ d2.toInt = W a1.toInt ∧ d4.toInt = (tp.length : Int) ∧ u = s ∧ ∃ i : Nat, d5.toInt = (i : Int) ∧ i ≤ tp.length ∧ ∀ (j : Nat) (v : Int), j < i → tp[j]? = some v → wEq W a1.toInt v = false, fun _ _ _ _ d5 _ => (6 - d5.toInt).toNat, ⟨rfl, e2, e4, rfl, 0, by decide, Nat.zero_le _, fun j v hj _ => by omega⟩, ?_⟩
    rintro d1 d2 d3 d4 d5 u ⟨f1, f2, f4, f5, i, g1, g2, g3⟩
    subst f1 f5
    unfold v_133_62
    refine ⟨fun w => ?_, fun w x4 hx4 => ?_⟩
    · refine Zt.imp (Zt.mo (d := 10) (by omega) (zs_51 (d := 0) hP hS hT h1)) ?_
      rintro v1 s2 ⟨hs2, x3, rfl, hr⟩
      refine ⟨x3, rfl, hs2, x3, rfl, ?_⟩
      rw [hr]
      unfold cdOf
      rw [hno, fIx_no tp 0 (fun j v hv => g3 j v (by have := (List.getElem?_eq_some_iff.mp hv).1; omega) hv), if_neg (by decide), if_neg (by decide)]
    · have hi : i < tp.length := by omega
      have hu : tp[i]? = some tp[i] := List.getElem?_eq_getElem hi
      have c4' := c4 (fun q => by rw [q] at hi; exact absurd hi (Nat.not_lt_zero _))
      have ex := hx4 (by omega)
      have ns := zg_sl (s := u) (P := P) (a1 := x4) (c := 0) (k := 0) (by decide) (by decide) (by omega)
      rw [show x4.toInt = (u.1 75 5).toInt + (i : Int) by omega, c5 i _ hu] at ns
      have nw : (zg u (P + 10) (zg u (P + 30) (x4 * 5 + 0))).toInt = W tp[i] := by rw [zg_K, ns, hW]
      rw [nw, f2]
      refine ⟨fun w4 x6 hx6 => ?_, fun w4 x7 hx7 => ⟨rfl, x7, rfl, ?_⟩⟩
      · have e6 := hx6 (by omega)
        refine ⟨⟨rfl, f2, f4, rfl, i + 1, by omega, by omega, fun j v hj hv => ?_⟩, by dsimp only; omega⟩
        by_cases ej : j = i
        · rw [ej, hu] at hv
          rw [← Option.some.inj hv]
          exact decide_eq_false w4
        · exact g3 j v (by omega) hv
      · have e7 := hx7 (by omega)
        unfold cdOf
        rw [hno, fIx_at tp 0 i _ hu (decide_eq_true w4) g3, if_neg (by decide), if_pos (by omega), e7, g1]
        omega
  have fst : ∀ (t0 : Int32), t0.toInt = (hf.length : Int) → v_133_27 (fun j => Zt (d + 2 + 8) (wd P j) j) P a1 (zg s (P + 10) a1) (zg s (P + 28) ((s.1 75 6) * 5 + 2)) t0 s (fun v s' => s' = s ∧ ∃ r : Int32, v = some (.int r) ∧ r.toInt = cdOf W hf tp TN a1.toInt) := by
    intro t0 ht0
    unfold v_133_27
    refine ⟨fun d1 d2 d3 d4 d5 u => d1 = a1 ∧ d2 = zg s (P + 10) a1 ∧ d3 = zg s (P + 28) ((s.1 75 6) * 5 + 2) ∧ d4.toInt = (hf.length : Int) ∧ u = s ∧ ∃ i : Nat, d5.toInt = (i : Int) ∧ i ≤ hf.length ∧ ∀ (j : Nat) (v : Int), j < i → hf[j]? = some v → wEq W a1.toInt v = false, fun _ _ _ _ d5 _ => (6 - d5.toInt).toNat, ⟨rfl, rfl, rfl, ht0, rfl, 0, by decide, Nat.zero_le _, fun j v hj _ => by omega⟩, ?_⟩
    rintro d1 d2 d3 d4 d5 u ⟨f1, f2, f3, f4, f5, i, g1, g2, g3⟩
    subst f1 f2 f3 f5
    unfold v_133_30
    refine ⟨fun w => snd (fIx_no hf 0 (fun j v hv => g3 j v (by have := (List.getElem?_eq_some_iff.mp hv).1; omega) hv)) _, fun w x1 hx1 => ?_⟩
    have hi : i < hf.length := by omega
    have hu : hf[i]? = some hf[i] := List.getElem?_eq_getElem hi
    rcases c1 with ⟨-, c1⟩ | ⟨k1, k2, k3, k4, k5⟩
    · rw [c1] at hi
      exact absurd hi (Nat.not_lt_zero _)
    have n2 := zg_sg (s := u) (P := P) (a1 := u.1 75 6) (c := 2) (k := 2) (by decide) (by decide) (by omega)
    have ex := hx1 (by omega)
    have ns := zg_sl (s := u) (P := P) (a1 := x1) (c := 0) (k := 0) (by decide) (by decide) (by omega)
    rw [show x1.toInt = sgc u P (u.1 75 6).toInt 2 + (i : Int) by omega, k5 i _ hu] at ns
    have nw : (zg u (P + 10) (zg u (P + 30) (x1 * 5 + 0))).toInt = W hf[i] := by rw [zg_K, ns, hW]
    rw [nw, e2]
    refine ⟨fun w4 x6 hx6 => ?_, fun w4 x7 hx7 => ⟨rfl, x7, rfl, ?_⟩⟩
    · have e6 := hx6 (by omega)
      refine ⟨⟨rfl, rfl, rfl, f4, rfl, i + 1, by omega, by omega, fun j v hj hv => ?_⟩, by dsimp only; omega⟩
      by_cases ej : j = i
      · rw [ej, hu] at hv
        rw [← Option.some.inj hv]
        exact decide_eq_false w4
      · exact g3 j v (by omega) hv
    · have e7 := hx7 (by omega)
      unfold cdOf
      rw [fIx_at hf 0 i _ hu (decide_eq_true w4) g3, if_pos (by omega), e7, g1]
      omega
  unfold v_133_0
  refine ⟨fun w => fst _ ?_, fun w => fst _ ?_⟩
  · rcases c1 with ⟨c1, -⟩ | ⟨k1, k2, k3, k4, k5⟩
    · omega
    · rw [zg_sg (s := s) (P := P) (a1 := s.1 75 6) (c := 3) (k := 3) (by decide) (by decide) (by omega), k3]
  · rcases c1 with ⟨-, c1⟩ | ⟨k1, -⟩
    · rw [c1]
      decide
    · omega
end WCD
