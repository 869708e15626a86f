/-! ===== the class: check ===== -/
/-- faults of E: func by func, then main -/
def eFs (K L W ar kd : Int → Int) (TN Ls : List Int) (mB : Int) : List Int := (fnQi K 0 Ls).map (fun p => fnF K L W ar kd TN Ls p.1 p.2) ++ [(exE6 K L W ar kd TN Ls mnS 10 mB).1]
theorem nrE {P r : Nat} (hP : P = 3 ∨ P = 39) (h : r < 36) : ¬ P + r = 76 ∧ ¬ P + r = 78 ∧ ¬ P + r = 80 := by omega
section ZZCH
variable {K L W ar kd : Int → Int} {TN Ls : List Int} {n lo hi k0 mB t t' : Int} {d P i j : Nat} {s u w : zS} {a2 : Int32}
theorem fnQi_len : ∀ (l : List Int) (k : Nat), (fnQi K k l).length = kFn K l
  | [], _ => rfl
  | t :: l, k => by
    show ((if K t = 6 then [(k, t)] else []) ++ fnQi K (k + 1) l).length = (if K t = 6 then 1 else 0) + kFn K l
    rw [List.length_append, fnQi_len l]
    by_cases c : K t = 6
    · rw [if_pos c, if_pos c]
      rfl
    · rw [if_neg c, if_neg c]
      rfl
theorem fnQi_at : ∀ (l : List Int) (i k : Nat) (t : Int), l[i]? = some t → K t = 6 → (fnQi K k l)[kFn K (l.take i)]? = some (k + i, t)
  | [], i, k, t, g, _ => by cases g
  | a :: l, 0, k, t, g, c => by
    have e : a = t := by simpa using g
    show ((if K a = 6 then [(k, a)] else []) ++ fnQi K (k + 1) l)[0]? = some (k + 0, t)
    rw [e, if_pos c]
    rfl
  | a :: l, i + 1, k, t, g, c => by
    have ih := fnQi_at l i (k + 1) t (by simpa using g) c
    show ((if K a = 6 then [(k, a)] else []) ++ fnQi K (k + 1) l)[(if K a = 6 then 1 else 0) + kFn K (l.take i)]? = some (k + (i + 1), t)
    rw [app_at (by split <;> rfl), ih, show k + 1 + i = k + (i + 1) by omega]
theorem kFn_mo : ∀ (l : List Int) (i j : Nat), i ≤ j → kFn K (l.take i) ≤ kFn K (l.take j)
  | [], i, j, _ => by rw [List.take_nil, List.take_nil]; exact Nat.le_refl _
  | a :: l, 0, j, _ => Nat.zero_le _
  | a :: l, i + 1, 0, h => absurd h (Nat.not_succ_le_zero _)
  | a :: l, i + 1, j + 1, h => by
    have ih := kFn_mo l i j (by omega)
    show (if K a = 6 then 1 else 0) + kFn K (l.take i) ≤ (if K a = 6 then 1 else 0) + kFn K (l.take j)
    omega
theorem sbs_ide (Z : List Int) : sbs (eta [] []) Z = Z := by
  unfold sbs
  induction Z with
  | nil => rfl
  | cons c l ih =>
    rw [List.flatMap_cons, ih]
    by_cases q : c < 24
    · rw [if_pos q]
      rfl
    · rw [if_neg q]
      have e : eta [] [] (c - 24).toNat = [c] := by
        have e2 : 24 + (((c - 24).toNat : Nat) : Int) = c := by omega
        unfold eta
        split
        · rw [if_neg (show ¬ (c - 24).toNat < ([] : List (List Int)).length from Nat.not_lt_zero _), e2]
        · rw [if_neg (show ¬ (c - 24).toNat - 6 < ([] : List (List Int)).length from Nat.not_lt_zero _), e2]
      rw [e]
      rfl
set_option maxHeartbeats 4000000 in
/-- main's E -/
theorem ck_95 (hP : P = 3 ∨ P = 39) (h : PRm K L W ar kd n lo hi TN Ls) (C : CSz K L W ar kd TN Ls n k0 P w) {kw : Int} (hk : (w.1 P 10).toInt = kw) (hk0 : k0 ≤ kw) (hk1 : 18738 ≤ kw) (hk2 : kw + 15 * (nxE K L mB - mB) ≤ 82800) (hf0 : (w.1 P 14).toInt = 0) (hm : (w.1 P 11).toInt = mB) (hmP : (p_e K L 10 false (0, mB)).1 = 0) (hm0 : 0 ≤ mB) (hmn : nxE K L mB ≤ n) (hLM : LAz K L P mB (nxE K L mB) w) {z0 : Int} (hz : z0 + 1 ≤ mB) (hF : FDz K L W ar kd TN Ls P (kFn K Ls) z0 w) : v_5_95 (fun j => Zt (d + 72) (wd P j) j) P a2 w (fun v s' => v = none ∧ (s'.1 P 14).toInt = (exE6 K L W ar kd TN Ls mnS 10 mB).1 ∧ ((s'.1 P 14).toInt = 0 → CAz K L W ar kd TN Ls n k0 mB P s')) := by
  obtain ⟨z00, z34, zfn, zc0, zc1⟩ := hF
  have hW := EWd_mn (B := 0) (b := 0) h (Int.le_refl _) (Int.le_refl _)
  obtain ⟨ha, h24⟩ := PR_ar h
  unfold v_5_95
  refine ⟨fun _ s1 hs1 => ?_, fun z => absurd hf0 z⟩
  refine Zt.mo (d := 9) (by omega) (zc_82 (d := 0) hP ?_)
  unfold v_82_0
  intro q1 hq1 q2 hq2 s3 hs3
  refine ⟨rfl, fun s4 hs4 s5 hs5 x6 hx6 s7 hs7 => ?_⟩
  have r7 : s7.2 = w.2 := by rw [hs7, hs5, hs4, hs3, hq2, hq1, hs1]; rfl
  have e4 : s4.1 P 11 = w.1 P 11 := by rw [hs4, zf_1, if_neg (fun z => absurd z.2 (by decide)), hs3, zf_1, if_neg (fun z => absurd z.2 (by decide)), hq2, zf_1, if_neg (fun z => absurd z.2 (by decide)), hq1, zf_1, if_neg (fun z => absurd z.2 (by decide)), hs1, zf_1, if_neg (fun z => absurd z.2 (by decide))]
  have F7 : ∀ c q, s7.1 c q = if c = P ∧ q = 12 then x6 else if c = 84 ∧ q = 5 then w.1 P 11 else if c = 75 ∧ q = 3 then 18 else if c = 75 ∧ q = 6 then -1 else if c = 75 ∧ q = 5 then -1 else if c = 75 ∧ q = 4 then -1 else if c = 84 ∧ q = 6 then -1 else w.1 c q := fun c q => by rw [hs7, zf_1, hs5, zf_1, e4, hs4, zf_1, hs3, zf_1, hq2, zf_1, hq1, zf_1, hs1, zf_1]
  have oth : ∀ c q, ¬ (c = P ∧ q = 12) → ¬ c = 75 → ¬ c = 84 → s7.1 c q = w.1 c q := fun c q n0 n1 n2 => by rw [F7, if_neg n0, if_neg (fun z => n2 z.1), if_neg (fun z => n1 z.1), if_neg (fun z => n1 z.1), if_neg (fun z => n1 z.1), if_neg (fun z => n1 z.1), if_neg (fun z => n2 z.1)]
  have q754 : (s7.1 75 4).toInt = -1 := by rw [F7, if_neg (fun z => absurd z.2 (by decide)), if_neg (by decide), if_neg (by decide), if_neg (by decide), if_neg (by decide), if_pos (by decide)]; decide
  have q756 : (s7.1 75 6).toInt = -1 := by rw [F7, if_neg (fun z => absurd z.2 (by decide)), if_neg (by decide), if_neg (by decide), if_pos (by decide)]; decide
  have q753 : (s7.1 75 3).toInt = 18 := by rw [F7, if_neg (fun z => absurd z.2 (by decide)), if_neg (by decide), if_pos (by decide)]; decide
  have q846 : (s7.1 84 6).toInt = -1 := by rw [F7, if_neg (fun z => absurd z.2 (by decide)), if_neg (by decide), if_neg (by decide), if_neg (by decide), if_neg (by decide), if_neg (by decide), if_pos (by decide)]; decide
  have q845 : (s7.1 84 5).toInt = mB := by rw [F7, if_neg (fun z => absurd z.2 (by decide)), if_pos (by decide)]; exact hm
  have C7' : CSz K L W ar kd TN Ls n k0 P s7 := CSz_g hP (fun r _ => by rw [r7]) (fun j _ => by rw [r7]) (fun j _ => by rw [r7]) (fun j _ => by rw [r7]) (fun b hb => oth b 2 (fun z => absurd z.2 (by decide)) (by omega) (by omega)) C
  have arm : ar (-1) = 0 := by
    rw [← C7'.1.1.2.2.2]
    exact KI_neg (by decide)
  have I7 : CIn K L W ar kd TN Ls n k0 mnS P mB (nxE K L mB) 18 s7 := by
    refine ⟨C7', ?_, ?_, ?_, Or.inl ⟨by rw [q846]; decide, rfl⟩⟩
    · show SCz P s7 [] []
      unfold SCz
      rw [q756, q754]
      exact ⟨Or.inl ⟨by decide, rfl⟩, KI_neg (by decide), Nat.zero_le _, fun z => absurd rfl z, fun i v hv => by cases hv⟩
    · intro q y1 y2
      rw [r7]
      exact hLM q y1 y2
    · refine ⟨-1, -1, q754, q756, arm, fun z => absurd rfl z, Or.inl rfl, ?_⟩
      funext c
      show ([] : List Int) = bnD (Bfd K L W ar TN Ls) (hdd K L W ar TN Ls) (-1) (-1) c
      unfold bnD
      by_cases q : c < 30
      · rw [if_pos q]
        unfold Bfd
        rw [if_neg (by decide)]
        rfl
      · rw [if_neg q, if_pos (by decide)]
  have hnn := h.1.1.1
  have key := C7_all (k0 := k0) (P := P) (lo := mB) (hi := nxE K L mB) (T0 := 18) (TN := TN) (Ls := Ls) (n := n) hP hW (Nat.zero_le _) (Nat.zero_le _) (Int.le_refl _) (fun A hA => by cases hA) 10 (Nat.le_refl _) 1 mB 18 kw s7 I7 (by rw [oth P 14 (fun z => absurd z.2 (by decide)) (by omega) (by omega)]; exact hf0) q845 (by decide) hmP hm0 hmn (Int.le_refl _) (Int.le_refl _) q753 ⟨Int.le_refl _, by decide⟩ (by rw [oth P 10 (fun z => absurd z.2 (by decide)) (by omega) (by omega)]; exact hk) hk0 hk1 hk2 ⟨z0, z00, by omega, by rw [oth (P + 34) 2 (fun z => by omega) (by omega) (by omega)]; exact z34⟩
  refine Zt.imp (Zt.mo (d := 22 + 5 * 10) (by omega) key) ?_
  rintro v8 s9 ⟨x10, rfl, p1, p2⟩
  refine ⟨x10, rfl, ?_⟩
  have x6e : x6.toInt = z0 := by
    have e5 : s5.1 (P + 34) 2 = w.1 (P + 34) 2 := by
      rw [hs5, zf_1, if_neg (fun z => absurd z.2 (by decide)), hs4, zf_1, if_neg (fun z => absurd z.2 (by decide)), hs3, zf_1, if_neg (fun z => absurd z.2 (by decide)), hq2, zf_1, if_neg (fun z => absurd z.2 (by decide)), hq1, zf_1, if_neg (fun z => absurd z.2 (by decide)), hs1, zf_1, if_neg (fun z => absurd z.2 (by decide))]
    have := hx6 (by rw [e5]; omega)
    rw [e5] at this
    omega
  have e12 : (s7.1 P 12).toInt = z0 := by
    rw [F7, if_pos ⟨rfl, rfl⟩]
    exact x6e
  refine ⟨fun z => ?_, fun z => ?_⟩
  · rw [p1] at z
    unfold v_5_143
    intro s1' hs1'
    refine Zt.imp (Zt.mo (d := 9) (by omega) (zs_59 (d := 0) hP (by decide) (by decide) (by decide) (by decide) (by decide) (by decide))) ?_
    rintro v2 s3' ⟨rfl, g3⟩
    have e14 : (s3'.1 P 14).toInt = (exE6 K L W ar kd TN Ls mnS 10 mB).1 := by
      rw [g3.2 P 14 (fun z => absurd z.2 (by decide)), hs1', zf_1, if_neg (fun z => absurd z.2 (by decide))]
      exact p1
    exact ⟨rfl, rfl, e14, fun q => absurd (by rw [← e14]; exact q) z⟩
  rw [p1] at z
  obtain ⟨f1, f2, ⟨fd1, fd2⟩, T', k', ⟨f3, f4, f5⟩, ⟨f6, f7, f8⟩, f9⟩ := p2 z
  rw [f6] at fd1
  clear p2
  have I9 := CIn_e hP (Int.le_refl _) (Int.le_refl _) hk0 f1 I7
  have f91 := f9.1
  refine Zt.imp (Zt.mo (d := 10) (by omega) (zs_92 (d := 0) (kp := k') hP I9.1.1.1.2.2.2 ha f9.2.2.1 f9.2.2.2.1.1 ⟨by omega, by omega⟩ f6 ⟨by omega, by omega⟩ f9.2.1 (by omega))) ?_
  rintro v11 s12 ⟨g1, g2, g3, g4, x13, rfl, g5, g6, g7⟩
  refine ⟨x13, rfl, ?_⟩
  unfold v_5_143
  intro s1' hs1'
  obtain ⟨l1, l2, l3⟩ := CDx_ly fd1 (by rw [oth (P + 34) 2 (fun z => by omega) (by omega) (by omega)]; exact z34)
  have f1' : ∀ c q, ¬ (c = P ∧ (q = 10 ∨ q = 13)) → s1'.1 c q = s9.1 c q := fun c q hq => by
    rw [hs1', zf_1, if_neg (fun z => hq ⟨z.1, Or.inr z.2⟩), g3 c q (fun z => hq ⟨z.1, Or.inl z.2⟩)]
  have r1' : ∀ r, ¬ r = P + 18 → s1'.2 r = s9.2 r := fun r hr => by
    rw [hs1', zf_2, g1 r hr]
  have w1' : ∀ j : Nat, ((j : Int) < k' ∨ k' + 60 ≤ (j : Int)) → s1'.2 (P + 18) j = s9.2 (P + 18) j := fun j hj => by
    rw [hs1', zf_2, g2 j hj]
  obtain ⟨kE, hkE⟩ : ∃ kE, (s12.1 P 10).toInt = kE := ⟨_, rfl⟩
  rw [hkE] at g4 g7
  obtain ⟨Cm, hCm⟩ : ∃ Cm, Cm = ciE K L W ar kd TN Ls mnS 10 mB := ⟨_, rfl⟩
  rw [← hCm] at l1 l2 fd2
  have hz' : SZc P s1' (nxE K L mB - 1) := ⟨z0 + (Cm.length : Int), by omega, by omega, by rw [f1' (P + 34) 2 (fun z => by omega)]; exact l2⟩
  refine Zt.imp (Zt.mo (d := 9) (by omega) (zs_59c (d := 0) (k := kE) (t := nxE K L mB - 1) (I := lvI) hP (by decide) (by decide) (by decide) (by decide) (by decide) (by decide) hz' (by omega) (fun s' _ pc cc => inz_0 cc))) ?_
  rintro v2 s3' ⟨rfl, D3, cd3⟩
  obtain ⟨m1, m2, m3⟩ := CDx_ly cd3 (by rw [f1' (P + 34) 2 (fun z => by omega)]; exact l2)
  have fl3 : ∀ c q, ¬ (c = P + 34 ∧ q = 2) → s3'.1 c q = s1'.1 c q := D3.2
  have e14 : (s3'.1 P 14).toInt = (exE6 K L W ar kd TN Ls mnS 10 mB).1 := by
    rw [fl3 P 14 (fun z => by omega), f1' P 14 (fun z => by omega)]
    exact p1
  have w3' : ∀ j : Nat, 18738 ≤ (j : Int) → (j : Int) < k' → s3'.2 (P + 18) j = s9.2 (P + 18) j := fun j j1 j2 => by
    rw [D3.1 _ (by omega), w1' j (Or.inl j2)]
  have w3k : ∀ j : Nat, 18738 ≤ (j : Int) → (j : Int) < kw → s3'.2 (P + 18) j = w.2 (P + 18) j := fun j j1 j2 => by
    rw [w3' j j1 (by omega), f1.2.1 j (Or.inr ⟨j1, j2⟩), r7]
  have c3' : ∀ j : Nat, (j : Int) < 6 * (z0 + (Cm.length : Int)) → s3'.2 (P + 34) j = s9.2 (P + 34) j := fun j hj => by
    rw [m3 j hj, r1' _ (by omega)]
  have e13 : (s3'.1 P 13).toInt = x13.toInt := by
    rw [fl3 P 13 (fun z => by omega), hs1', zf_1, if_pos ⟨rfl, rfl⟩]
  have e12' : (s3'.1 P 12).toInt = z0 := by
    rw [fl3 P 12 (fun z => by omega), f1' P 12 (fun z => by omega), f1.2.2.2 P 12 (fun z => by omega) (fun z => by omega) (fun z => by omega) (fun z => by omega)]
    exact e12
  have ll : (([lvI] : List Ins).length : Int) = 1 := rfl
  rw [ll] at m1 m2
  have CS3 : CSz K L W ar kd TN Ls n k0 P s3' := CSz_g hP (fun r hr => by rw [D3.1 _ (by omega), r1' _ (by omega)]) (fun j _ => by rw [D3.1 _ (by omega), r1' _ (by omega)]) (fun j hj => by rw [D3.1 _ (by omega), w1' j (Or.inl (by omega))]) (fun j _ => by rw [D3.1 _ (by omega), r1' _ (by omega)]) (fun b hb => by rw [fl3 b 2 (fun z => by omega), f1' b 2 (fun z => by omega)]) I9.1
  suffices hall : (∀ (g : Nat) (p : Nat × Int), (fnQi K 0 Ls)[g]? = some p → LYz P kE (z0 + (Cm.length : Int) + 1) s3' (fnc s3' P (g : Int) 8) (fnC K L W ar kd TN Ls p)) ∧ LYz P kE (z0 + (Cm.length : Int) + 1) s3' (s3'.1 P 12).toInt (mnC K L W ar kd TN Ls mB) ∧ kpz P kE s3' (s3'.1 P 13).toInt (exE6 K L W ar kd TN Ls mnS 10 mB).2 ∧ (s3'.1 P 10).toInt = kE by
    refine ⟨rfl, rfl, e14, fun _ => ⟨CS3, kE, z0 + (Cm.length : Int) + 1, by omega, by omega, hall.1, hall.2.1, hall.2.2.1, hall.2.2.2, ?_⟩⟩
    by_cases hfn0 : kFn K Ls = 0
    · have hq := hall.2.1
      rw [e12', zc0 hfn0] at hq
      rw [zc0 hfn0]
      exact Or.inl hq
    · have hl0 : 0 < (fnQi K 0 Ls).length := by
        rw [fnQi_len]
        omega
      obtain ⟨p, hp⟩ : ∃ p, (fnQi K 0 Ls)[0]? = some p := ⟨_, List.getElem?_eq_getElem hl0⟩
      have hq := hall.1 0 p hp
      have e0 : fnc s3' P ((0 : Nat) : Int) 8 = fnc w P ((0 : Nat) : Int) 8 := by
        unfold fnc
        rw [D3.1 _ (by omega), r1' _ (by omega), CFe_r f1 (r := 26) (by decide) hP, r7]
      rw [e0, zc1 (by omega)] at hq
      exact Or.inr ⟨0, p, hp, hq⟩
  refine ⟨fun g p hg => ?_, ?_, ?_⟩
  · have hgl : g < kFn K Ls := by
      have := (List.getElem?_eq_some_iff.mp hg).1
      rw [fnQi_len] at this
      exact this
    have q := zfn g p hgl hg
    rw [hk] at q
    have efc : fnc s3' P (g : Int) 8 = fnc w P (g : Int) 8 := by
      unfold fnc
      rw [D3.1 _ (by omega), r1' _ (by omega), CFe_r f1 (r := 26) (by decide) hP, r7]
    rw [efc]
    exact LYz_k w3k (by omega) (fun j hj => by rw [c3' j (by omega), l3 j hj, r7]) (by omega) q
  · rw [e12']
    unfold mnC
    rw [← hCm]
    have q1 := LYz_k (k' := kE) (e' := z0 + (Cm.length : Int) + 1) w3' (by omega) c3' (by omega) l1
    refine ⟨z00, by rw [List.length_append, Int.natCast_add, ll]; omega, fun i I hi => ?_⟩
    by_cases hl : i < Cm.length
    · rw [List.getElem?_append_left hl] at hi
      exact q1.2.2 i I hi
    · rw [List.getElem?_append_right (by omega)] at hi
      have hi0 := (List.getElem?_eq_some_iff.mp hi).1
      have ei : i = Cm.length := by
        have : ([lvI] : List Ins).length = 1 := rfl
        omega
      have := m1.2.2 (i - Cm.length) I hi
      rw [show z0 + (Cm.length : Int) + ((i - Cm.length : Nat) : Int) = z0 + (i : Int) by omega] at this
      exact this
  · rw [e13]
    refine ⟨⟨g5.1, g7, fun i c hc => ?_⟩, ?_⟩
    · rw [D3.1 _ (by omega), hs1', zf_2]
      exact g6 i c hc
    · rw [fl3 P 10 (fun z => by omega), hs1', zf_1, if_neg (fun z => absurd z.2 (by decide))]
      exact hkE
set_option maxHeartbeats 4000000 in
theorem zs_5 (hP : P = 3 ∨ P = 39) (h : PRm K L W ar kd n lo hi TN Ls) (C : CSz K L W ar kd TN Ls n k0 P s) (hk : (s.1 P 10).toInt = k0) (hk1 : 18738 ≤ k0) (hf0 : (s.1 P 14).toInt = 0) (hLA : ∀ (i : Nat) (t : Int), Ls[i]? = some t → K t = 6 → LAz K L P (f_7 K L false (0, t)).2 (p_e K L 10 false (f_7 K L false (0, t))).2 s) (hm : (s.1 P 11).toInt = mB) (hmP : (p_e K L 10 false (0, mB)).1 = 0) (hmh : hi + 1 ≤ mB) (hmn : nxE K L mB ≤ n) (hLM : LAz K L P mB (nxE K L mB) s) (hz0 : (s.1 (P + 34) 2).toInt = 0) : Zu 73 [(84, 2), (84, 3), (84, 4), (83, 1), (83, 2)] [(75, 0, P), (75, 1, P + 18), (75, 2, P + 22)] [(83, 2, P + 1), (83, 1, P), (84, 4, P + 4), (84, 3, P + 1), (84, 2, P), (75, 0, P), (75, 1, P + 18), (75, 2, P + 22)] 5 [.ref 84, .ref P] s (fun v s' => v = none ∧ (s'.1 P 14).toInt = ffs (eFs K L W ar kd TN Ls mB) ∧ ((s'.1 P 14).toInt = 0 → CAz K L W ar kd TN Ls n k0 mB P s')) := by
  have hnn := h.1.1.1
  obtain ⟨ha, h24⟩ := PR_ar h
  have hnT := PR_nT h
  have hc24 := h.2.2.1
  obtain ⟨⟨hX, hD, hlo, hhi⟩, -⟩ := id h
  obtain ⟨FL, hFL⟩ : ∃ FL, FL = (fnQi K 0 Ls).map (fun p => fnF K L W ar kd TN Ls p.1 p.2) := ⟨_, rfl⟩
  have hFl : FL.length = kFn K Ls := by rw [hFL, List.length_map, fnQi_len]
  have eFF : eFs K L W ar kd TN Ls mB = FL ++ [(exE6 K L W ar kd TN Ls mnS 10 mB).1] := by rw [hFL]; rfl
  rw [eFF, ffs_s]
  have hlh : lo ≤ hi := by
    have key : ∀ (l : List Int) (a b : Int), dcC K L a b l → a ≤ b := fun l => by
      induction l with
      | nil => exact fun a b q => q
      | cons x l ih =>
        intro a b q
        have e1 := dcC_at (x :: l) 0 x a b q rfl
        by_cases c6 : K x = 6
        · have e2 := (e1.2.1 c6)
          have e3 := (pe_fw 10 _ _ (fn_fw e2.1).2.2.1)
          have e4 := fn_fw e2.1
          have e5 := srtQ_le (srt_fn (h := 0) e4.1)
          have e6 := e4.2.2.2.2
          have e7 := e4.2.2.2.1
          omega
        · have e2 := (e1.2.2 c6)
          have e3 := e1.1
          have e4 := ty_fw e2.1
          have e5 := srtQ_le (srt_ty (h := 0) e2.1)
          omega
    exact key Ls lo hi hD
  refine zc_5 (d := 64) hP ?_
  unfold v_5_0
  refine ⟨fun b2 w => ∃ f : Nat, f ≤ kFn K Ls ∧ b2.toInt = (f : Int) ∧ (w.1 P 14).toInt = ffs (FL.take f) ∧ ((w.1 P 14).toInt = 0 → CSz K L W ar kd TN Ls n k0 P w ∧ w.2 (P + 12) = s.2 (P + 12) ∧ w.1 P 11 = s.1 P 11 ∧ k0 ≤ (w.1 P 10).toInt ∧ (w.1 P 10).toInt ≤ k0 + 15 * hi ∧ (∀ (i : Nat) (t : Int), Ls[i]? = some t → K t = 6 → kFn K (Ls.take i) = f → (w.1 P 10).toInt ≤ k0 + 15 * t) ∧ ∃ z : Int, FDz K L W ar kd TN Ls P f z w ∧ z ≤ hi ∧ ∀ (i : Nat) (t : Int), Ls[i]? = some t → K t = 6 → kFn K (Ls.take i) = f → z ≤ t), fun b2 _ => (100 - b2.toInt).toNat, ⟨0, Nat.zero_le _, by decide, by rw [List.take_zero]; exact hf0, fun _ => ⟨C, rfl, rfl, by omega, by omega, fun i t g1 g6 _ => ?_, 0, ⟨Int.le_refl _, by omega, fun g p hg => absurd hg (Nat.not_lt_zero _), fun _ => rfl, fun q => absurd q (Nat.not_lt_zero _)⟩, by omega, fun i t g1 g6 _ => ?_⟩⟩, ?_⟩
  · have := (dcC_at Ls i t lo hi hD g1).1
    omega
  · have := (dcC_at Ls i t lo hi hD g1).1
    omega
  rintro b2 w ⟨f, i1, i2, i3, i4⟩
  have fin : (f = kFn K Ls ∨ ¬ (w.1 P 14).toInt = 0) → v_5_95 (fun j => Zt (64 + 8) (wd P j) j) P b2 w (fun v s' => v = none ∧ (s'.1 P 14).toInt = (if ffs FL = 0 then (exE6 K L W ar kd TN Ls mnS 10 mB).1 else ffs FL) ∧ ((s'.1 P 14).toInt = 0 → CAz K L W ar kd TN Ls n k0 mB P s')) := by
    intro hc
    by_cases z : (w.1 P 14).toInt = 0
    · have hf : f = kFn K Ls := by
        rcases hc with q | q
        · exact q
        · exact absurd z q
      rw [hf, ← hFl, List.take_length] at i3
      rw [if_pos (by rw [← i3]; exact z)]
      obtain ⟨j1, j2, j3, j4, j5, -, z0, zF, zh, -⟩ := i4 z
      rw [hf] at zF
      have hk0' := C.2.2.2.2.1.2
      exact ck_95 (d := 0) hP h j1 rfl j4 (by omega) (by omega) z (by rw [j3]; exact hm) hmP (by omega) hmn (fun q y1 y2 => by rw [j2]; exact hLM q y1 y2) (by omega) zF
    · have z1 := z
      rw [i3] at z1
      have e := ffs_take z1
      rw [if_neg (by rw [e]; exact z1), e]
      unfold v_5_95
      exact ⟨fun q => absurd q z, fun _ => ⟨rfl, i3, fun q => absurd q z⟩⟩
  by_cases w2 : (w.1 P 14).toInt = 0
  · obtain ⟨j1, j2, j3, j4, j5, j6, z0, ⟨z00, z34, zfn, zc0, zc1⟩, zh, zt⟩ := i4 w2
    have hcn : (w.1 (P + 26) 2 / 10).toInt = (kFn K Ls : Int) := cn_fn j1.2.2.2.2.2.2.1.2.1 (by omega)
    unfold v_5_22
    rw [hcn]
    refine ⟨fun w1 => fin (Or.inl (by omega)), fun w1 => ⟨fun z => absurd w2 z, fun _ => ?_⟩⟩
    have hfl : f < kFn K Ls := by omega
    obtain ⟨i, t, h1, h6, ef⟩ := fn_dc (K := K) hfl
    have hk0' := C.2.2.2.2.1.2
    obtain ⟨d1, d2, -⟩ := dcC_at Ls i t lo hi hD h1
    have hpf := (d2 h6).1
    have hd2 := (d2 h6).2
    have hfn := fn_fw hpf
    obtain ⟨tE, htE⟩ : ∃ tE, tE = (f_7 K L false (0, t)).2 := ⟨_, rfl⟩
    have ef7 : f_7 K L false (0, t) = (0, tE) := by rw [htE]; exact Prod.ext hfn.1 rfl
    obtain ⟨-, -, hpe, hlt, hend⟩ := hfn
    rw [ef7] at hpe hlt hend
    have hnx : nxE K L tE = (p_e K L 10 false (0, tE)).2 := (pe_g 10 (by decide) false tE hpe).2.2
    have hlt : tE < nxE K L tE := by rw [hnx]; exact hlt
    have hend : (p_fn K L false (0, t)).2 = nxE K L tE + 1 := by rw [hnx]; exact hend
    have htt : t + 2 ≤ tE := by
      have := srtQ_le (srt_fn (h := 0) (show (f_7 K L false (0, t)).1 = 0 by rw [ef7]))
      rw [← htE] at this
      exact this
    have kt := j6 i t h1 h6 ef.symm
    have zt := zt i t h1 h6 ef.symm
    have hLAw : LAz K L P tE (nxE K L tE) w := fun q y1 y2 => by
      have := hLA i t h1 h6
      rw [ef7, ← hnx] at this
      rw [j2]
      exact this q y1 y2
    have hFk : FL[f]? = some (fnF K L W ar kd TN Ls i t) := by
      rw [hFL, List.getElem?_map, ef, fnQi_at Ls i 0 t h1 h6]
      show some (fnF K L W ar kd TN Ls (0 + i) t) = _
      rw [Nat.zero_add]
    have eFs' := ffs_tk hFk
    rw [← i3, if_pos w2] at eFs'
    have hH := kHd_204 h
    have hW := EWd_fn (B := 0) (b := 0) h hH (Int.le_refl _) (Int.le_refl _) h1 h6
    have hV := VTy_fn h h1 h6
    have tp6 := (tp_fact h h1).1
    have ed : dTp K L t = fPa K L false (0, t) := if_pos h6
    rw [ed] at tp6
    have hd0 : (dHd K L t)[0]? = some (f_5 K L false (0, t)).2 := by
      unfold dHd
      rw [if_pos h6]
      rfl
    have hgl := kHd_lt h1 hd0
    rw [Nat.add_zero] at hgl
    obtain ⟨-, ⟨l1, l2⟩, -, -, -, hx⟩ := hd_fact h h1 hd0
    obtain ⟨S, hS⟩ : ∃ S, S = fnS K L W ar TN Ls i t := ⟨_, rfl⟩
    have hS1 : S.1.length ≤ 6 := by rw [hS]; exact l1
    have hS2 : S.2.1.length ≤ 6 := by rw [hS]; exact tp6
    rw [← hS] at hW hV
    refine Zt.imp (Zt.mo (d := 10) (by omega) (zs_6 (d := 0) (lo' := tE) (hi' := nxE K L tE) hP h j1 h1 h6 (by rw [i2, ef]) hLAw)) ?_
    rintro v1 s2 ⟨rfl, I2, e3, e5, e14, e10, e12, e11, e756, n34, m34, n18, n26, nfc⟩
    rw [← hS] at I2
    rw [← htE] at e5
    obtain ⟨T0, hT0⟩ : ∃ T0, T0 = 19 + ((fPa K L false (0, t)).length : Int) := ⟨_, rfl⟩
    rw [← hT0] at I2 e3
    obtain ⟨kw, hkw⟩ : ∃ kw, (w.1 P 10).toInt = kw := ⟨_, rfl⟩
    rw [hkw] at j4 j5 kt
    refine ⟨rfl, ?_⟩
    have key := C7_all (k0 := k0) (P := P) (lo := tE) (hi := nxE K L tE) (T0 := T0) (TN := TN) (Ls := Ls) (n := n) hP hW hS1 hS2 (by omega) hV 10 (Nat.le_refl _) 1 tE T0 kw s2 I2 (by rw [e14]; exact w2) e5 (by decide) hpe (by omega) (by omega) (Int.le_refl _) (Int.le_refl _) e3 ⟨Int.le_refl _, by omega⟩ (by rw [e10]; exact hkw) j4 (by omega) (by omega) ⟨z0, z00, by omega, by rw [n34]; exact z34⟩
    refine Zt.imp (Zt.mo (d := 22 + 5 * 10) (by omega) key) ?_
    rintro v3 s4 ⟨x5, rfl, p1, p2⟩
    refine ⟨x5, rfl, fun x8 hx8 x10 hx10 => ?_⟩
    obtain ⟨R, hR⟩ : ∃ R, R = exE6 K L W ar kd TN Ls S 10 tE := ⟨_, rfl⟩
    rw [← hR] at p1 p2
    obtain ⟨Z, hZ⟩ : ∃ Z, Z = wdC K L W ar TN (h_f K L (0, (f_5 K L false (0, t)).2 + 1)) (fPa K L false (0, t)) (h_3 K L (0, (f_5 K L false (0, t)).2 + 1)).2 := ⟨_, rfl⟩
    have eF : fnF K L W ar kd TN Ls i t = if R.1 = 0 then ftk L (exK K L W ar kd TN Ls S R.2 (eta [] []) Z) tE else R.1 := by
      rw [hR, hZ, hS]
      unfold fnF
      rw [← htE]
    -- the end of a func
    have nxt : ∀ (y5 y6 : Int32) (s' : zS), (s'.1 P 14).toInt = fnF K L W ar kd TN Ls i t → ((s'.1 P 14).toInt = 0 → CFe P T0 kw s2 s' ∧ kw ≤ (s'.1 P 10).toInt ∧ (s'.1 P 10).toInt ≤ kw + 15 * (nxE K L tE - tE) ∧ CDx P (s'.1 P 10).toInt s2 s' (ciE K L W ar kd TN Ls S 10 tE) ∧ ((ciE K L W ar kd TN Ls S 10 tE).length : Int) ≤ nxE K L tE - tE) → v_5_84 (fun j => Zt (64 + 8) (wd P j) j) P (fun b2' w' => (∃ f : Nat, f ≤ kFn K Ls ∧ b2'.toInt = (f : Int) ∧ (w'.1 P 14).toInt = ffs (FL.take f) ∧ ((w'.1 P 14).toInt = 0 → CSz K L W ar kd TN Ls n k0 P w' ∧ w'.2 (P + 12) = s.2 (P + 12) ∧ w'.1 P 11 = s.1 P 11 ∧ k0 ≤ (w'.1 P 10).toInt ∧ (w'.1 P 10).toInt ≤ k0 + 15 * hi ∧ (∀ (i : Nat) (t : Int), Ls[i]? = some t → K t = 6 → kFn K (Ls.take i) = f → (w'.1 P 10).toInt ≤ k0 + 15 * t) ∧ ∃ z : Int, FDz K L W ar kd TN Ls P f z w' ∧ z ≤ hi ∧ ∀ (i : Nat) (t : Int), Ls[i]? = some t → K t = 6 → kFn K (Ls.take i) = f → z ≤ t)) ∧ (100 - b2'.toInt).toNat < (100 - b2.toInt).toNat) b2 (s2.1 84 5) x5 y5 y6 s' (fun v s' => v = none ∧ (s'.1 P 14).toInt = (if ffs FL = 0 then (exE6 K L W ar kd TN Ls mnS 10 mB).1 else ffs FL) ∧ ((s'.1 P 14).toInt = 0 → CAz K L W ar kd TN Ls n k0 mB P s')) := by
      intro y5 y6 s' c1 c2
      unfold v_5_84
      by_cases z : (s'.1 P 14).toInt = 0
      · obtain ⟨F', k3, k4, cd5, cd6⟩ := c2 z
        obtain ⟨Cf, hCf⟩ : ∃ Cf, Cf = ciE K L W ar kd TN Ls S 10 tE := ⟨_, rfl⟩
        rw [← hCf] at cd5 cd6
        obtain ⟨l1, l2, l3⟩ := CDx_ly cd5 (by rw [n34]; exact z34)
        obtain ⟨kE, hkE⟩ : ∃ kE, (s'.1 P 10).toInt = kE := ⟨_, rfl⟩
        rw [hkE] at k3 k4 l1
        have hz' : SZc P s' (nxE K L tE) := ⟨z0 + (Cf.length : Int), by omega, by omega, l2⟩
        refine Zt.imp (Zt.mo (d := 9) (by omega) (zs_59c (d := 0) (k := kE) (t := nxE K L tE) (I := lvI) hP (by decide) (by decide) (by decide) (by decide) (by decide) (by decide) hz' (by omega) (fun s' _ pc cc => inz_0 cc))) ?_
        rintro v1 s9 ⟨rfl, g9, cd3⟩
        obtain ⟨m1, m2, m3⟩ := CDx_ly cd3 l2
        have ll : (([lvI] : List Ins).length : Int) = 1 := rfl
        rw [ll] at m1 m2
        have f9 : ∀ c q, ¬ q = 2 → s9.1 c q = s'.1 c q := fun c q hq => g9.2 c q (fun z => hq z.2)
        refine ⟨rfl, fun x3 hx3 => ?_⟩
        have ex3 := hx3 (by omega)
        refine ⟨⟨f + 1, by omega, by omega, by rw [f9 P 14 (by decide), eFs']; exact c1, fun _ => ?_⟩, by omega⟩
        have F9 : CFe P T0 kw s2 s9 := CFe_tr F' (CFe_df hP g9) (Int.le_refl _) (Int.le_refl _)
        have w9 : ∀ j : Nat, 18738 ≤ (j : Int) → (j : Int) < kw → s9.2 (P + 18) j = w.2 (P + 18) j := fun j q1 q2 => by
          rw [F9.2.1 j (Or.inr ⟨q1, q2⟩), n18 j q1]
        have nx2 : ∀ (i' : Nat) (t' : Int), Ls[i']? = some t' → K t' = 6 → kFn K (Ls.take i') = f + 1 → nxE K L tE + 1 ≤ t' := fun i' t' g1 g6 ge => by
          have hii : i < i' := by
            rcases Nat.lt_or_ge i i' with q | q
            · exact q
            · have := kFn_mo (K := K) Ls i' i q
              omega
          have := dcC_or (K := K) (L := L) Ls i i' t t' lo hi hD h1 g1 hii
          unfold dcNd at this
          rw [if_pos h6, hend] at this
          exact this
        rw [f9 P 10 (by decide), hkE]
        refine ⟨CSz_e hP (by omega) j4 F9 I2.1, by rw [CFe_r F9 (by decide) hP, e12, j2], ?_, by omega, by omega, fun i' t' g1 g6 ge => ?_, z0 + (Cf.length : Int) + 1, ⟨by omega, m2, fun g p hg hp => ?_, fun q => absurd q (Nat.succ_ne_zero _), fun _ => ?_⟩, by omega, fun i' t' g1 g6 ge => ?_⟩
        · rw [F9.2.2.2 P 11 (fun z => absurd z.2 (by decide)) (fun z => by omega) (fun z => absurd z.2 (by decide)) (fun z => absurd z.2 (by decide)), e11, j3]
        · have := nx2 i' t' g1 g6 ge
          omega
        · rw [f9 P 10 (by decide), hkE]
          have efc : fnc s9 P (g : Int) 8 = fnc s2 P (g : Int) 8 := by
            unfold fnc
            rw [CFe_r F9 (r := 26) (by decide) hP]
          rw [efc]
          by_cases eg : g = f
          · subst eg
            have ep : p = (i, t) := by
              have := fnQi_at Ls i 0 t h1 h6
              rw [← ef, hp, Nat.zero_add] at this
              exact Option.some.inj this
            rw [ef, nfc, z34, show 6 * z0 / 6 = z0 by omega, ep]
            show LYz P kE (z0 + (Cf.length : Int) + 1) s9 z0 (ciE K L W ar kd TN Ls (fnS K L W ar TN Ls i t) 10 (f_7 K L false (0, t)).2 ++ [lvI])
            rw [← htE, ← hS, ← hCf]
            refine ⟨z00, by rw [List.length_append, Int.natCast_add, ll]; omega, fun q I hq => ?_⟩
            by_cases hl : q < Cf.length
            · rw [List.getElem?_append_left hl] at hq
              exact inz_k (k := kE) (fun j _ _ => by rw [g9.1 _ (by omega)]) (Int.le_refl _) (fun j hj => m3 j (by omega)) (by omega) (l1.2.2 q I hq)
            · rw [List.getElem?_append_right (by omega)] at hq
              have hq0 := (List.getElem?_eq_some_iff.mp hq).1
              have : ([lvI] : List Ins).length = 1 := rfl
              have := m1.2.2 (q - Cf.length) I hq
              rw [show z0 + (Cf.length : Int) + ((q - Cf.length : Nat) : Int) = z0 + (q : Int) by omega] at this
              exact this
          · have q := zfn g p (by omega) hp
            rw [hkw] at q
            have e26 : fnc s2 P (g : Int) 8 = fnc w P (g : Int) 8 := by
              unfold fnc
              rw [KI_p (by omega), KI_p (by omega), n26 _ (by omega)]
            rw [e26]
            exact LYz_k w9 (by omega) (fun j hj => by rw [m3 j (by omega), l3 j hj, m34]) (by omega) q
        · have efc : fnc s9 P ((0 : Nat) : Int) 8 = fnc s2 P ((0 : Nat) : Int) 8 := by
            unfold fnc
            rw [CFe_r F9 (r := 26) (by decide) hP]
          by_cases e0 : f = 0
          · have q0 : fnc s2 P (f : Int) 8 = z0 := by
              rw [ef, nfc, z34]
              omega
            rw [e0] at q0
            rw [efc, q0]
            exact zc0 e0
          · have e26 : fnc s2 P ((0 : Nat) : Int) 8 = fnc w P ((0 : Nat) : Int) 8 := by
              unfold fnc
              rw [KI_p (by omega), KI_p (by omega), n26 _ (by omega)]
            rw [efc, e26]
            exact zc1 (by omega)
        · have := nx2 i' t' g1 g6 ge
          omega
      · refine Zt.imp (Zt.mo (d := 9) (by omega) (zs_59 (d := 0) hP (by decide) (by decide) (by decide) (by decide) (by decide) (by decide))) ?_
        rintro v1 s9 ⟨rfl, g9⟩
        have f9 : ∀ c q, ¬ q = 2 → s9.1 c q = s'.1 c q := fun c q hq => g9.2 c q (fun z => hq z.2)
        refine ⟨rfl, fun x3 hx3 => ?_⟩
        have ex3 := hx3 (by omega)
        refine ⟨⟨f + 1, by omega, by omega, by rw [f9 P 14 (by decide), eFs']; exact c1, fun q => absurd (by rw [← f9 P 14 (by decide)]; exact q) z⟩, by omega⟩
    refine ⟨fun z => ?_, fun z => ?_⟩
    · rw [p1] at z
      rw [if_neg z] at eF
      exact nxt _ _ s4 (by rw [p1, eF]) (fun q => absurd (by rw [← p1]; exact q) z)
    · rw [p1] at z
      rw [if_pos z] at eF
      obtain ⟨f1, f2, ⟨fd1, fd2⟩, T', k', ⟨f3, f4, f5⟩, ⟨f6, f7, f8⟩, f9⟩ := p2 z
      rw [f6] at fd1
      clear p2
      have I4 := CIn_e hP (show 18 ≤ T0 by omega) (Int.le_refl _) j4 f1 I2
      obtain ⟨g, hg⟩ : ∃ g, g = kHd K L (Ls.take i) := ⟨_, rfl⟩
      rw [← hg] at hgl
      obtain ⟨⟨q1, q2, q3⟩, ⟨q4, q4'⟩, q5, q6⟩ := cz_hd h I4.1 g hgl
      have q7 := cz_hk h I4.1 hgl
      obtain ⟨t1, -⟩ := tb_hd (W := W) (ar := ar) (TN := TN) h1 hd0
      rw [Nat.add_zero, ← hg] at t1
      rw [Nat.add_zero, ← hg] at hx
      obtain ⟨-, -, s3⟩ := hSlt_at (K := K) (L := L) (q := (f_5 K L false (0, t)).2) (h := (g : Int))
      obtain ⟨-, -, z3, z4, -⟩ := hx _ (List.mem_of_getElem? s3)
      rw [ed] at z3
      obtain ⟨o1, o2, o3, o4, -⟩ := wdC_ok (K := K) (L := L) (W := W) ha l1 tp6 (by omega) z3 z4
      have o1 : isR ar 1 Z := by rw [hZ]; exact o1
      have o2 : Z.length ≤ 60 := by rw [hZ]; exact o2
      have o3 : cdW (S.2.1.length : Int) (S.1.length : Int) Z := by rw [hZ, hS]; exact o3
      have o4 : cdT (TN.length : Int) Z := by rw [hZ]; exact o4
      have e1 : (hdd K L W ar TN Ls g).1 = (h_f K L (0, (f_5 K L false (0, t)).2 + 1)).length := by rw [t1]
      have e2 : (hdd K L W ar TN Ls g).2.1 = (h_v K L (0, (f_5 K L false (0, t)).2 + 1)).length := by rw [t1]
      rw [e1] at q1
      rw [e2] at q2
      have hXi : (hdd K L W ar TN Ls g).2.2[(h_f K L (0, (f_5 K L false (0, t)).2 + 1)).length + (h_v K L (0, (f_5 K L false (0, t)).2 + 1)).length]? = some Z := by
        rw [t1]
        show ((hSlt K L (g : Int) (0, (f_5 K L false (0, t)).2 + 1)).map (fun x => wdC K L W ar TN (h_f K L (0, (f_5 K L false (0, t)).2 + 1)) (dTp K L t) x.2.2.1))[(h_f K L (0, (f_5 K L false (0, t)).2 + 1)).length + (h_v K L (0, (f_5 K L false (0, t)).2 + 1)).length]? = _
        rw [List.getElem?_map, s3, ed, hZ]
        rfl
      obtain ⟨⟨y1, y1'⟩, y2, -⟩ := q6 _ _ hXi
      have y3 := q7 _ _ hXi
      rw [← hg] at e756
      have e75 : (s4.1 75 6).toInt = (g : Int) := by rw [CFe_75 f1 hP (by decide)]; exact e756
      have hgH := I4.1.2.2.2.2.2.2.2.2
      have g2 : (zg s4 (P + 28) ((s4.1 75 6) * 5 + 2)).toInt = sgc s4 P (g : Int) 2 := by rw [zg_sg (s := s4) (P := P) (a1 := s4.1 75 6) (c := 2) (k := 2) (by decide) (by decide) (by omega), e75]
      have g3 : (zg s4 (P + 28) ((s4.1 75 6) * 5 + 3)).toInt = sgc s4 P (g : Int) 3 := by rw [zg_sg (s := s4) (P := P) (a1 := s4.1 75 6) (c := 3) (k := 3) (by decide) (by decide) (by omega), e75]
      have g4 : (zg s4 (P + 28) ((s4.1 75 6) * 5 + 4)).toInt = sgc s4 P (g : Int) 4 := by rw [zg_sg (s := s4) (P := P) (a1 := s4.1 75 6) (c := 4) (k := 4) (by decide) (by decide) (by omega), e75]
      rw [g2, g3] at hx8
      rw [g4] at hx10
      have ex8 := hx8 (by omega)
      have ex10 := hx10 (by omega)
      have ez : (zg s4 (P + 30) (x10 * 5 + 3)).toInt = slc s4 P (sgc s4 P (g : Int) 2 + (((h_f K L (0, (f_5 K L false (0, t)).2 + 1)).length + (h_v K L (0, (f_5 K L false (0, t)).2 + 1)).length : Nat) : Int)) 3 := by
        rw [zg_sl (s := s4) (P := P) (a1 := x10) (c := 3) (k := 3) (by decide) (by decide) (by omega), ex10, ex8, q1, q2]
        congr 1
        omega
      obtain ⟨yz, hyz⟩ : ∃ y, y = zg s4 (P + 30) (x10 * 5 + 3) := ⟨_, rfl⟩
      rw [← hyz] at ez ⊢
      rw [← ez] at y1 y1' y2 y3
      have hTZ : TYc ar (TN.length : Int) (S.2.1.length : Int) (S.1.length : Int) P T' k' s4 yz.toInt Z := ⟨⟨by omega, Or.inr ⟨y1, by omega⟩⟩, y2, o1, ⟨o2, o4⟩, o3⟩
      refine Zt.imp (Zt.mo (d := 11) (by omega) (t_88 (d := 0) (k := k') (T := T') (A := R.2) (Z := Z) hP h I4 f3 ⟨by omega, by omega⟩ (by omega) f9 hTZ)) ?_
      rintro v12 s13 ⟨m1, x14, rfl, m2, m3⟩
      refine ⟨x14, rfl, ?_⟩
      have F13 : CFe P T0 kw s2 s13 := CFe_tr f1 (CFe_mf hP m1) f4 f7
      have eL13 : KI (s13.2 (P + 6)) = L := by
        rw [CFe_r F13 (by decide) hP]
        exact I2.1.1.1.2.1
      have hLt := hX.2.2 tE (by omega) (by omega)
      have e13 : (s13.1 P 14).toInt = 0 := by rw [m1.1, p1]; exact z
      have eK : exK K L W ar kd TN Ls S R.2 (eta [] []) Z = x14.toInt := by
        unfold exK
        rw [sbs_ide, if_neg (by omega)]
        exact m2.symm
      rw [eK] at eF
      refine Zt.imp (Zt.mo (d := 9) (by omega) (zs_38b (d := 0) hP (by rw [eL13, e5]; omega) (by omega))) ?_
      rintro v15 s16 ⟨rfl, hcs⟩
      refine ⟨rfl, nxt _ _ s16 ?_ (fun q => ?_)⟩
      · rw [eF]
        unfold ftk
        rcases hcs with ⟨-, n2, x, hx', rfl⟩ | ⟨hcs, rfl⟩
        · rw [eL13, e5] at hx'
          rw [zf_1, if_pos ⟨rfl, rfl⟩, hx', if_neg n2]
        · rw [if_pos (Decidable.byContradiction (fun q => hcs ⟨e13, q⟩))]
          exact e13
      · rcases hcs with ⟨-, n2, x, hx', rfl⟩ | ⟨hcs, rfl⟩
        · rw [zf_1, if_pos ⟨rfl, rfl⟩, hx', eL13, e5] at q
          omega
        · refine ⟨F13, ?_, ?_, ?_, fd2⟩
          · rw [m1.1, f6]
            exact f7
          · rw [m1.1, f6]
            exact f8
          · rw [m1.1, f6]
            exact CDx_r (T := T') (k := k') (CFe_mf hP m1) (Int.le_refl _) (by rw [m1.1]) (m1.2.1 _ (by omega) (nrE hP (by decide)).2.1 (nrE hP (by decide)).2.2) fd1
  · unfold v_5_22
    exact ⟨fun _ => fin (Or.inr w2), fun _ => ⟨fun _ => fin (Or.inr w2), fun z => absurd z w2⟩⟩
end ZZCH
