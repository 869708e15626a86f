/-! ===== the class: parts ===== -/
/-- value, m levels left -/
def C7 (K L W ar kd : Int → Int) (TN Ls : List Int) (n k0 : Int) (S : Scp) (P : Nat) (lo hi T0 : Int) (m D : Nat) : Prop := ∀ (a1 : Int32) (t T k : Int) (s : zS), CIn K L W ar kd TN Ls n k0 S P lo hi T0 s → (s.1 P 14).toInt = 0 → (s.1 84 5).toInt = t → a1.toInt = 11 - (m : Int) → (p_e K L m false (0, t)).1 = 0 → 0 ≤ t → nxE K L t ≤ n → lo ≤ t → nxE K L t ≤ hi → (s.1 75 3).toInt = T → T0 ≤ T ∧ T ≤ 5000 - 100 * (m : Int) → (s.1 P 10).toInt = k → k0 ≤ k → 18738 ≤ k → k + 15 * (nxE K L t - t) ≤ 82800 → SZc P s t → Zt D (wd P 7) 7 [.ref 84, .int a1] s (fun v s' => ∃ r : Int32, v = some (.int r) ∧ CPz ar (TN.length : Int) S P T k t (nxE K L t) (exE6 K L W ar kd TN Ls S m t) (ciE K L W ar kd TN Ls S m t) s s' r)
section ZZPA
variable {K L W ar kd : Int → Int} {TN Ls : List Int} {n lo hi lo' hi' k0 co T T0 k t e o c A0 b0 : Int} {S : Scp} {d D P m i N : Nat} {s s' u : zS} {a1 a2 a3 a4 a5 a6 : Int32} {A Z O' l y : List Int} {Ys Zs : List (List Int)}
set_option maxHeartbeats 4000000 in
theorem zs_11 (hP : P = 3 ∨ P = 39) (h : PRm K L W ar kd n lo' hi' TN Ls) (hm : m ≤ 10) (ih : C7 K L W ar kd TN Ls n k0 S P lo hi T0 m (d + 11)) (I : CIn K L W ar kd TN Ls n k0 S P lo hi T0 s) (hT0 : 18 ≤ T0) (hf0 : (s.1 P 14).toInt = 0) (hat : (s.1 84 5).toInt = A0) (hA0 : 0 ≤ A0) (hAO : AOk K L m o c A0 b0) (hN : p_vn K L (p_e K L 11) o c (0, A0) = N) (hbn : b0 ≤ n) (hlo : lo ≤ A0) (hhi : b0 ≤ hi) (ht : (s.1 75 3).toInt = T) (hT : T0 ≤ T ∧ T ≤ 5000 - 100 * (m : Int)) (hk : (s.1 P 10).toInt = k) (hk0 : k0 ≤ k) (hk1 : 18738 ≤ k) (hk2 : k + 15 * (b0 - A0 - 2) ≤ 82800) (hO : TYc ar (TN.length : Int) (S.2.1.length : Int) (S.1.length : Int) P T k s a3.toInt (co :: O')) (hY : TYs ar (TN.length : Int) (S.2.1.length : Int) (S.1.length : Int) P k s a4.toInt Ys) (h5 : a5.toInt = (Ys.length : Int)) (h6 : a6.toInt = 10 - (m : Int)) (h2 : a2.toInt = (N : Int)) (h1 : 0 ≤ a1.toInt ∧ a1.toInt ≤ 4900) (hZ : SSz ar P s a1.toInt Zs) (hZk : SSk P s k0 a1.toInt Zs) (hZl : N ≤ Zs.length) (hZc : ∀ M ∈ Zs, cdW ((argT ar (co :: O')).length : Int) (Ys.length : Int) M ∧ cdT (TN.length : Int) M) (hz : SZc P s A0) : Zt (d + 13) (wd P 11) 11 [.ref 84, .int a1, .int a2, .int a3, .int a4, .int a5, .int a6] s (fun v s' => v = none ∧ (s'.1 P 14).toInt = exP K L W ar kd TN Ls S (exE6 K L W ar kd TN Ls S m) (eta (argT ar (co :: O')) Ys) ((exU K L A0 N).zip Zs) ∧ ((s'.1 P 14).toInt = 0 → CFe P T k s s' ∧ (s'.1 84 5).toInt = b0 ∧ (s'.1 75 3).toInt = T ∧ ∃ k', (s'.1 P 10).toInt = k' ∧ k ≤ k' ∧ k' ≤ k + 15 * (b0 - A0 - 2) ∧ CDx P k' s s' (ciP (ciE K L W ar kd TN Ls S m) (exU K L A0 N)) ∧ ((ciP (ciE K L W ar kd TN Ls S m) (exU K L A0 N)).length : Int) ≤ b0 - A0 - 2)) := by
  obtain ⟨ha, h24⟩ := PR_ar h
  have hn := h.1.1.1
  have h14 : ∀ {c q : Nat}, ¬ q = 14 → ¬ (P = c ∧ (14 : Nat) = q) := fun h z => h z.2.symm
  obtain ⟨oa, oE⟩ := AOk_o hm hAO
  rw [hN] at oE
  obtain ⟨-, hN7, hpe, hb1, hb2⟩ := hAO
  rw [hN] at hN7 hpe hb1 hb2
  obtain ⟨η, hη⟩ : ∃ η, η = eta (argT ar (co :: O')) Ys := ⟨_, rfl⟩
  obtain ⟨ev, hev⟩ : ∃ ev, ev = exE6 K L W ar kd TN Ls S m := ⟨_, rfl⟩
  obtain ⟨Lf, hLf⟩ : ∃ Lf, Lf = ((exU K L A0 N).zip Zs).map (tkv K L W ar kd TN Ls S ev η) := ⟨_, rfl⟩
  rw [exP_ffs, ← hη, ← hev, ← hLf]
  have hLl : Lf.length = N := by rw [hLf, List.length_map, List.length_zip, exU_len]; omega
  -- where it stands ahead of E i
  obtain ⟨pos, hpos⟩ : ∃ pos : Nat → Int, pos = fun i => if i < N then uS (nxE K L) (A0 + 1) i else b0 - 1 := ⟨_, rfl⟩
  have pos0 : pos 0 = A0 + 1 := by
    rw [hpos]
    by_cases q : 0 < N
    · show (if 0 < N then uS (nxE K L) (A0 + 1) 0 else b0 - 1) = A0 + 1
      rw [if_pos q]
      rfl
    · show (if 0 < N then uS (nxE K L) (A0 + 1) 0 else b0 - 1) = A0 + 1
      rw [if_neg q]
      by_cases q2 : K (A0 + 1) = c
      · have := (hb1 q2).2
        omega
      · have := (hb2 q2).1
        omega
  have posN : pos N = b0 - 1 := by
    rw [hpos]
    exact if_neg (Nat.lt_irrefl _)
  have posi : ∀ i, i < N → pos i = uS (nxE K L) (A0 + 1) i := fun i hi => by
    rw [hpos]
    exact if_pos hi
  have posS : ∀ i, i < N → pos (i + 1) = nxE K L (pos i) + (if i + 1 < N then 1 else 0) := fun i hi => by
    rw [posi i hi]
    by_cases q : i + 1 < N
    · rw [posi (i + 1) q, if_pos q]
      rfl
    · rw [if_neg q, show i + 1 = N by omega, posN]
      have hne : ¬ K (A0 + 1) = c := fun z => by
        have := (hb1 z).1
        omega
      have e := (hb2 hne).2
      rw [show N = i + 1 by omega] at e
      have e2 : uS (nxE K L) (A0 + 1) (i + 1) = nxE K L (uS (nxE K L) (A0 + 1) i) + 1 := rfl
      omega
  -- the code of the first i of them
  obtain ⟨CC, hCC⟩ : ∃ CC : Nat → List Ins, CC = fun i => ciP (ciE K L W ar kd TN Ls S m) ((exU K L A0 N).take i) := ⟨_, rfl⟩
  have C0 : CC 0 = [] := by rw [hCC]; rfl
  have CN : CC N = ciP (ciE K L W ar kd TN Ls S m) (exU K L A0 N) := by
    rw [hCC]
    show ciP _ ((exU K L A0 N).take N) = _
    rw [List.take_of_length_le (by rw [exU_len]; exact Nat.le_refl _)]
  have C1 : ∀ i, i < N → CC (i + 1) = CC i ++ ciE K L W ar kd TN Ls S m (pos i) := fun i hi => by
    rw [hCC]
    show ciP _ ((exU K L A0 N).take (i + 1)) = ciP _ ((exU K L A0 N).take i) ++ _
    rw [List.take_add_one, exU_at hi, ← posi i hi]
    unfold ciP
    rw [List.flatMap_append]
    show _ ++ List.flatMap _ [pos i] = _
    rw [List.flatMap_cons, List.flatMap_nil, List.append_nil]
  rw [← CN]
  rw [show d + 13 = d + 4 + 9 by omega]
  refine zc_11 hP ?_
  unfold v_11_0
  intro x1 hx1 s2 hs2
  have ex1 := hx1 (by omega)
  have F2 : CFe P T k s s2 := by rw [hs2]; exact CFe_f (Or.inr (Or.inr ⟨rfl, rfl⟩))
  have f2 : ∀ c q, ¬ (c = 84 ∧ q = 5) → s2.1 c q = s.1 c q := fun c q hq => by rw [hs2, zf_1, if_neg hq]
  have at2 : (s2.1 84 5).toInt = A0 + 1 := by rw [hs2, zf_1, if_pos ⟨rfl, rfl⟩, ex1, hat]
  have cd0 : CDx P k s s2 (CC 0) := by
    rw [C0]
    obtain ⟨z, z0, -, z2⟩ := hz
    exact CDx_r F2 (Int.le_refl _) (f2 _ _ (fun z => absurd z.2 (by decide))) (by rw [hs2, zf_2]) (CDx_rf z0 z2)
  refine ⟨fun b1 b2 b3 b4 b5 b6 b7 w => b1 = a1 ∧ b2 = a2 ∧ b3 = a3 ∧ b4 = a4 ∧ b5 = a5 ∧ b6 = a6 ∧ ∃ i : Nat, i ≤ N ∧ b7.toInt = (i : Int) ∧ (w.1 P 14).toInt = ffs (Lf.take i) ∧ ((w.1 P 14).toInt = 0 → CFe P T k s w ∧ (w.1 84 5).toInt = pos i ∧ (w.1 75 3).toInt = T ∧ ∃ k', (w.1 P 10).toInt = k' ∧ k ≤ k' ∧ k' ≤ k + 15 * (pos i - A0 - 1) ∧ CDx P k' s w (CC i) ∧ ((CC i).length : Int) ≤ pos i - A0 - 1), fun _ _ _ _ _ _ b7 _ => (100 - b7.toInt).toNat, ⟨rfl, rfl, rfl, rfl, rfl, rfl, 0, Nat.zero_le _, by decide, ?_, fun _ => ⟨F2, by rw [pos0]; exact at2, by rw [f2 75 3 (fun z => absurd z.1 (by decide))]; exact ht, k, by rw [f2 P 10 (fun z => absurd z.2 (by decide))]; exact hk, Int.le_refl _, by rw [pos0]; omega, cd0, by rw [C0, pos0]; show ((0 : Nat) : Int) ≤ A0 + 1 - A0 - 1; omega⟩⟩, ?_⟩
  · rw [List.take_zero, f2 P 14 (fun z => absurd z.2 (by decide))]
    exact hf0
  rintro b1 b2 b3 b4 b5 b6 b7 w ⟨e1, e2, e3, e4, e5, e6, i, i1, i2, i3, i4⟩
  subst e1 e2 e3 e4 e5 e6
  have fin : (i = N ∨ ¬ (w.1 P 14).toInt = 0) → v_11_87 (fun j => Zt (d + 4 + 8) (wd P j) j) P b1 b2 b3 b4 b5 b6 b7 w (fun v s' => v = none ∧ (s'.1 P 14).toInt = ffs Lf ∧ ((s'.1 P 14).toInt = 0 → CFe P T k s s' ∧ (s'.1 84 5).toInt = b0 ∧ (s'.1 75 3).toInt = T ∧ ∃ k', (s'.1 P 10).toInt = k' ∧ k ≤ k' ∧ k' ≤ k + 15 * (b0 - A0 - 2) ∧ CDx P k' s s' (CC N) ∧ ((CC N).length : Int) ≤ b0 - A0 - 2)) := fun hc => by
    unfold v_11_87
    intro x1 hx1 s3 hs3
    have e14 : s3.1 P 14 = w.1 P 14 := by rw [hs3, zf_1, if_neg (fun z => absurd z.2 (by decide))]
    refine ⟨rfl, ?_, fun z => ?_⟩
    · rw [e14, i3]
      rcases hc with q | q
      · rw [q, ← hLl, List.take_length]
      · rw [i3] at q
        exact (ffs_take q).symm
    · rw [e14] at z
      obtain ⟨j1, j2, j3, k', j4, j5, j6, j7, j8⟩ := i4 z
      have hiN : i = N := by
        rcases hc with q | q
        · exact q
        · exact absurd z q
      rw [hiN, posN] at j2 j6 j8
      rw [hiN] at j7
      have e1 := hx1 (by omega)
      refine ⟨by rw [hs3]; exact CFe_tr j1 (CFe_f (Or.inr (Or.inr ⟨rfl, rfl⟩))) (Int.le_refl _) (Int.le_refl _), ?_, ?_, k', ?_, j5, by omega, ?_, by omega⟩
      · rw [hs3, zf_1, if_pos ⟨rfl, rfl⟩]
        omega
      · rw [hs3, zf_1, if_neg (fun z => absurd z.1 (by decide))]
        exact j3
      · rw [hs3, zf_1, if_neg (fun z => absurd z.2 (by decide))]
        exact j4
      · exact CDx_r (T := T) (by rw [hs3]; exact CFe_f (Or.inr (Or.inr ⟨rfl, rfl⟩))) (Int.le_refl _) (by rw [hs3, zf_1, if_neg (fun z => absurd z.2 (by decide))]) (by rw [hs3, zf_2]) j7
  unfold v_11_8
  refine ⟨fun w1 => fin (Or.inl (by omega)), fun w1 => ⟨fun w2 => fin (Or.inr w2), fun w2 x2 hx2 => ?_⟩⟩
  have hi : i < N := by omega
  have ex2 := hx2 (by omega)
  obtain ⟨j1, j2, j3, kw, j4, j5, j6, j7, j8⟩ := i4 w2
  have Iw := CIn_e hP hT0 hT.1 hk0 j1 I
  obtain ⟨p1, p2, p3, p4⟩ := oE i hi
  rw [← posi i hi] at p1 p2 p3
  have hpi := hpe i hi
  rw [← posi i hi] at hpi
  obtain ⟨Zi, hb⟩ : ∃ Zi, Zs[i]? = some Zi := ⟨_, List.getElem?_eq_getElem (show i < Zs.length by omega)⟩
  have hLk : Lf[i]? = some (tkv K L W ar kd TN Ls S ev η (pos i, Zi)) := by
    rw [hLf, List.getElem?_map, zip_at (exU_at hi) hb, posi i hi]
    rfl
  have eFs := ffs_tk hLk
  rw [← i3, if_pos w2] at eFs
  have eS := posS i hi
  -- behind E i, whatever its fault
  have rest : ∀ (x4 : Int32) (w' : zS), (w'.1 P 14).toInt = tkv K L W ar kd TN Ls S ev η (pos i, Zi) → ((w'.1 P 14).toInt = 0 → CFe P T k s w' ∧ (w'.1 84 5).toInt = nxE K L (pos i) ∧ ∃ k', (w'.1 P 10).toInt = k' ∧ k ≤ k' ∧ k' ≤ k + 15 * (nxE K L (pos i) - A0 - 1) ∧ CDx P k' s w' (CC (i + 1)) ∧ ((CC (i + 1)).length : Int) ≤ nxE K L (pos i) - A0 - 1) → v_11_68 (fun j => Zt (d + 4 + 8) (wd P j) j) P (fun a1' a2' a3' a4' a5' a6' a7' s' => (a1' = b1 ∧ a2' = b2 ∧ a3' = b3 ∧ a4' = b4 ∧ a5' = b5 ∧ a6' = b6 ∧ ∃ i : Nat, i ≤ N ∧ a7'.toInt = (i : Int) ∧ (s'.1 P 14).toInt = ffs (Lf.take i) ∧ ((s'.1 P 14).toInt = 0 → CFe P T k s s' ∧ (s'.1 84 5).toInt = pos i ∧ (s'.1 75 3).toInt = T ∧ ∃ k', (s'.1 P 10).toInt = k' ∧ k ≤ k' ∧ k' ≤ k + 15 * (pos i - A0 - 1) ∧ CDx P k' s s' (CC i) ∧ ((CC i).length : Int) ≤ pos i - A0 - 1)) ∧ (100 - a7'.toInt).toNat < (100 - b7.toInt).toNat) b1 b2 b3 b4 b5 b6 b7 (w.1 75 3) (w.1 84 5) x4 w' (fun v s' => v = none ∧ (s'.1 P 14).toInt = ffs Lf ∧ ((s'.1 P 14).toInt = 0 → CFe P T k s s' ∧ (s'.1 84 5).toInt = b0 ∧ (s'.1 75 3).toInt = T ∧ ∃ k', (s'.1 P 10).toInt = k' ∧ k ≤ k' ∧ k' ≤ k + 15 * (b0 - A0 - 2) ∧ CDx P k' s s' (CC N) ∧ ((CC N).length : Int) ≤ b0 - A0 - 2)) := by
    intro x4 w' q1 q2
    unfold v_11_68
    intro s1 hs1 y2 hy2
    have ey2 := hy2 (by omega)
    have last : ∀ t2 : Int32, t2.toInt = (if i + 1 < N then 1 else 0) → v_11_83 (fun j => Zt (d + 4 + 8) (wd P j) j) P (fun a1' a2' a3' a4' a5' a6' a7' s' => (a1' = b1 ∧ a2' = b2 ∧ a3' = b3 ∧ a4' = b4 ∧ a5' = b5 ∧ a6' = b6 ∧ ∃ i : Nat, i ≤ N ∧ a7'.toInt = (i : Int) ∧ (s'.1 P 14).toInt = ffs (Lf.take i) ∧ ((s'.1 P 14).toInt = 0 → CFe P T k s s' ∧ (s'.1 84 5).toInt = pos i ∧ (s'.1 75 3).toInt = T ∧ ∃ k', (s'.1 P 10).toInt = k' ∧ k ≤ k' ∧ k' ≤ k + 15 * (pos i - A0 - 1) ∧ CDx P k' s s' (CC i) ∧ ((CC i).length : Int) ≤ pos i - A0 - 1)) ∧ (100 - a7'.toInt).toNat < (100 - b7.toInt).toNat) b1 b2 b3 b4 b5 b6 b7 (w.1 75 3) (w.1 84 5) x4 (s1.1 84 5) t2 s1 (fun v s' => v = none ∧ (s'.1 P 14).toInt = ffs Lf ∧ ((s'.1 P 14).toInt = 0 → CFe P T k s s' ∧ (s'.1 84 5).toInt = b0 ∧ (s'.1 75 3).toInt = T ∧ ∃ k', (s'.1 P 10).toInt = k' ∧ k ≤ k' ∧ k' ≤ k + 15 * (b0 - A0 - 2) ∧ CDx P k' s s' (CC N) ∧ ((CC N).length : Int) ≤ b0 - A0 - 2)) := by
      intro t2 ht2
      unfold v_11_83
      intro y1 hy1 s4 hs4 y3 hy3
      have ey3 := hy3 (by omega)
      have e14 : s4.1 P 14 = w'.1 P 14 := by rw [hs4, zf_1, if_neg (fun z => absurd z.2 (by decide)), hs1, zf_1, if_neg (fun z => absurd z.2 (by decide))]
      refine ⟨⟨rfl, rfl, rfl, rfl, rfl, rfl, i + 1, by omega, by omega, by rw [eFs, e14]; exact q1, fun z => ?_⟩, by omega⟩
      rw [e14] at z
      obtain ⟨r1, r2, k', r3, r4, r5, r6, r7⟩ := q2 z
      have e5 : s1.1 84 5 = w'.1 84 5 := by rw [hs1, zf_1, if_neg (by decide)]
      rw [e5] at hy1
      have hif : (if i + 1 < N then (1 : Int) else 0) = 0 ∨ (if i + 1 < N then (1 : Int) else 0) = 1 := by
        by_cases q : i + 1 < N
        · exact Or.inr (if_pos q)
        · exact Or.inl (if_neg q)
      have ey1 := hy1 (by omega)
      refine ⟨?_, ?_, ?_, k', ?_, r4, by omega, CDx_r (T := T) (by rw [hs4, hs1]; exact CFe_tr (CFe_f (Or.inl ⟨rfl, rfl⟩)) (CFe_f (Or.inr (Or.inr ⟨rfl, rfl⟩))) (Int.le_refl _) (Int.le_refl _)) (Int.le_refl _) (by rw [hs4, zf_1, if_neg (fun z => absurd z.2 (by decide)), hs1, zf_1, if_neg (fun z => absurd z.2 (by decide))]) (by rw [hs4, zf_2, hs1, zf_2]) r6, by omega⟩
      · rw [hs4, hs1]
        exact CFe_tr (CFe_tr r1 (CFe_f (Or.inl ⟨rfl, rfl⟩)) (Int.le_refl _) (Int.le_refl _)) (CFe_f (Or.inr (Or.inr ⟨rfl, rfl⟩))) (Int.le_refl _) (Int.le_refl _)
      · rw [hs4, zf_1, if_pos ⟨rfl, rfl⟩, ey1, eS]
        omega
      · rw [hs4, zf_1, if_neg (by decide), hs1, zf_1, if_pos ⟨rfl, rfl⟩]
        exact j3
      · rw [hs4, zf_1, if_neg (fun z => absurd z.2 (by decide)), hs1, zf_1, if_neg (fun z => absurd z.2 (by decide))]
        exact r3
    refine ⟨fun z => last 0 ?_, fun z => last 1 ?_⟩
    · rw [if_neg (by omega)]
      decide
    · rw [if_pos (by omega)]
      decide
  refine Zt.imp (Zt.mo (d := d + 11) (by omega) (ih x2 (pos i) T kw w Iw w2 j2 (by omega) hpi (by omega) (by omega) (by omega) (by omega) j3 hT j4 (by omega) (by omega) (by omega) (SZc_c hz j7 (by omega)))) ?_
  rintro v2 s3 ⟨x4, rfl, c1, c2⟩
  rw [← hev] at c1 c2
  refine ⟨x4, rfl, fun z => rest x4 s3 ?_ (fun q => absurd q z), fun z => ?_⟩
  · unfold tkv
    rw [c1] at z
    rw [if_neg z]
    exact c1
  · have z0 : (ev (pos i)).1 = 0 := by rw [← c1]; exact z
    obtain ⟨d1, d2, ⟨dc, dl⟩, T', k', ⟨d3, d4, d5⟩, ⟨d6, d7, d8⟩, d9⟩ := c2 z0
    rw [d6] at dc
    have CS : CDx P k' s s3 (CC (i + 1)) := by rw [C1 i hi]; exact CDx_tr j7 dc d1 (by omega)
    have CL : ((CC (i + 1)).length : Int) ≤ nxE K L (pos i) - A0 - 1 := by rw [C1 i hi, List.length_append]; omega
    have D1 := CFe_tr j1 d1 (Int.le_refl _) (by omega)
    have I3 := CIn_e hP hT0 hT.1 hk0 D1 I
    obtain ⟨⟨z1, z2⟩, z3, z4, z5, z6⟩ := hZ i _ hb
    have z7 := hZk i _ hb
    obtain ⟨z8, z9⟩ := hZc _ (List.mem_of_getElem? hb)
    have esl : slc s3 P (b1.toInt + (i : Int)) 3 = slc s P (b1.toInt + (i : Int)) 3 := by
      unfold slc
      rw [CFe_r D1 (by decide) hP]
    have hkt : tkv K L W ar kd TN Ls S ev η (pos i, Zi) = ftk L (exK K L W ar kd TN Ls S (ev (pos i)).2 η Zi) (pos i) := if_pos z0
    have eL : ∀ {q : zS}, CFe P T k s q → KI (q.2 (P + 6)) = L := fun hq => by
      rw [CFe_r hq (by decide) hP]
      exact I.1.1.1.2.1
    have hLp := h.1.1.2.2 (pos i) (by omega) (by omega)
    refine fpm (k := k') (Ys := Ys) (A := (ev (pos i)).2) (Z := Zi) (sl := b1.toInt + (i : Int)) (d := d + 1) hP h I3 hT0 d3 ⟨by omega, by omega⟩ (by omega) (by omega) (TYc_e D1 hO d4 (by omega)) (TYs_e (T := T) (k := k) D1 hY (by omega)) h5 (by rw [i2]) ⟨by omega, by omega⟩ (by rw [esl]; exact z1) (by rw [esl]; exact z7) (by rw [esl]; exact CFe_wd D1 (by omega) (Or.inr ⟨z1, by omega⟩) z3) z4 z5 z8 z9 d9 ?_
    intro x y u Fu hu hu34 hy hy9
    have Fsu := CFe_tr D1 Fu (by omega) (by omega)
    rw [← hη] at hy
    rw [← hy] at hkt
    have e14 : (u.1 P 14).toInt = 0 := by rw [hu P 14 (fun z => absurd z.2 (by decide))]; exact z
    unfold v_11_66
    refine Zt.imp (Zt.mo (d := 9) (by omega) (zs_38b (d := 0) hP (by rw [eL Fsu, j2]; omega) (by omega))) ?_
    rintro v1 s4 ⟨rfl, hc⟩
    refine ⟨rfl, rest x4 s4 ?_ (fun q => ?_)⟩
    · rw [hkt]
      unfold ftk
      rcases hc with ⟨-, q2, x', hx', rfl⟩ | ⟨hc, rfl⟩
      · rw [eL Fsu, j2] at hx'
        rw [zf_1, if_pos ⟨rfl, rfl⟩, hx', if_neg q2]
      · rw [if_pos (Decidable.byContradiction (fun q => hc ⟨e14, q⟩))]
        exact e14
    · rcases hc with ⟨-, q2, x', hx', rfl⟩ | ⟨hc, rfl⟩
      · rw [zf_1, if_pos ⟨rfl, rfl⟩, hx', eL Fsu, j2] at q
        omega
      · exact ⟨Fsu, by rw [hu 84 5 (by decide)]; exact d2, k', by rw [hu P 10 (fun z => absurd z.2 (by decide))]; exact d6, by omega, by omega, CDx_r Fu (Int.le_refl _) (hu _ _ (fun z => absurd z.2 (by decide))) hu34 CS, CL⟩
end ZZPA
