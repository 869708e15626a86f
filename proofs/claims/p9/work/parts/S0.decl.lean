/-! ===== the class: all declarations ===== -/
/-- the slots of a declaration, of declarations -/
def sDc (K L : Int → Int) (h t : Int) : List (Int × Int × Int × Int) := if K t = 6 then fSlt K L h false (0, t) else tSlt K L h false (0, t)
def aSl (K L : Int → Int) : Int → List Int → List (Int × Int × Int × Int)
  | _, [] => []
  | h, t :: l => sDc K L h t ++ aSl K L (h + ((if K t = 6 then 1 else tNh K L false (0, t) : Nat) : Int)) l
/-- a type's rows: number T, declaration D, slots from k on, heads from h on -/
def TYz (K L : Int → Int) (P : Nat) (s : zS) (T D k h : Nat) (t : Int) : Prop := (tSt K L false (0, t) = false → SGhs K L s P h ((k : Int) + ((tFo K L false (0, t)).length : Int)) (tMe K L false (0, t))) ∧ (s.2 (P + 22) T).toInt = ((tFo K L false (0, t)).length : Int) ∧ TYat s P T (t + 1) (if tSt K L false (0, t) = true then 4 else 5) k (if tSt K L false (0, t) = true then (k : Int) + ((tFo K L false (0, t)).length : Int) else (h : Int)) ((tMe K L false (0, t)).length : Int) (-1) ∧ DCat s P D (T : Int) k ((k : Int) + ((sDc K L h t).length : Int))
/-- a func's rows -/
def FNz (K L : Int → Int) (P : Nat) (s : zS) (F D k h : Nat) (t m : Int) : Prop := SGat s P h (f_5 K L false (0, t)).2 ((k : Int) + 1 + ((fPa K L false (0, t)).length : Int)) ((h_f K L (f_6 K L false (0, t))).length : Int) ((h_v K L (f_6 K L false (0, t))).length : Int) ∧ FNat s P F (f_2 K L false (0, t)).2 (f_1 K L false (0, t)).2 (-1) ((k : Int) + 1) ((fPa K L false (0, t)).length : Int) h (f_7 K L false (0, t)).2 (-1) (-1) ∧ DCat s P D (-1 - (F : Int)) k ((k : Int) + ((sDc K L h t).length : Int)) ∧ LAz K L P (f_7 K L false (0, t)).2 (p_e K L 10 false (f_7 K L false (0, t))).2 s ∧ (p_e K L 10 false (f_7 K L false (0, t))).2 ≤ m
/-- what the declarations Ls left, all ahead of token m -/
def ALz (K L : Int → Int) (P : Nat) (s : zS) (m : Int) (Ls : List Int) : Prop := ∀ (i : Nat) (t : Int), Ls[i]? = some t → (K t = 6 → FNz K L P s (kFn K (Ls.take i)) i (aSl K L 0 (Ls.take i)).length (kHd K L (Ls.take i)) t m) ∧ (¬ K t = 6 → TYz K L P s (kTy K (Ls.take i)) i (aSl K L 0 (Ls.take i)).length (kHd K L (Ls.take i)) t)
/-- the rows' sizes, the slots -/
def RWz (K L : Int → Int) (P : Nat) (s : zS) (m : Int) (Ls : List Int) : Prop := (zsz s (P + 24) = 6 * (kTy K Ls : Int) ∧ zsz s (P + 26) = 10 * (kFn K Ls : Int) ∧ zsz s (P + 28) = 5 * (kHd K L Ls : Int) ∧ zsz s (P + 30) = 5 * ((aSl K L 0 Ls).length : Int) ∧ zsz s (P + 32) = 3 * (Ls.length : Int)) ∧ SLat s P 0 (aSl K L 0 Ls) ∧ ((aSl K L 0 Ls).length : Int) ≤ m ∧ (kHd K L Ls : Int) ≤ m ∧ ∀ q ∈ aSl K L 0 Ls, 0 ≤ q.2.2.1 → GTt K L P s 0 m q.2.2.1
section SDC
variable {K L : Int → Int} {P : Nat} {s s' : zS} {m m' q : Int} {Ls : List Int} {R : List Nat}
theorem aSl_app : ∀ (l : List Int) (h : Int), aSl K L h (l ++ [q]) = aSl K L h l ++ sDc K L (h + (kHd K L l : Int)) q
  | [], h => by
    show sDc K L h q ++ [] = [] ++ sDc K L (h + ((0 : Nat) : Int)) q
    rw [List.append_nil, List.nil_append, show h + ((0 : Nat) : Int) = h by omega]
  | t :: l, h => by
    show sDc K L h t ++ aSl K L _ (l ++ [q]) = (sDc K L h t ++ aSl K L _ l) ++ _
    rw [aSl_app l, List.append_assoc]
    have e : (kHd K L (t :: l) : Int) = ((if K t = 6 then 1 else tNh K L false (0, t) : Nat) : Int) + (kHd K L l : Int) := by
      show (((if K t = 6 then 1 else tNh K L false (0, t)) + kHd K L l : Nat) : Int) = _
      omega
    rw [e, Int.add_assoc]
theorem FZq_c (g : FZq R P s s') {r i : Nat} (h1 : ¬ r = 12) (h2 : ¬ r = 22) (hi : (i : Int) < zsz s (P + r)) : s'.2 (P + r) i = s.2 (P + r) i := by
  by_cases w : r ∈ R
  · exact (g.2.2 r w).2 i hi
  · rw [FZq_row g w h1 h2]
theorem DCat_q {D : Nat} {a b c : Int} (g : FZq R P s s') (hz : 3 * ((D : Int) + 1) ≤ zsz s (P + 32)) (h : DCat s P D a b c) : DCat s' P D a b c := by
  unfold DCat at *
  rw [FZq_c g (by decide) (by decide) (by omega), FZq_c g (by decide) (by decide) (by omega), FZq_c g (by decide) (by decide) (by omega)]
  exact h
theorem TYat_q {T : Nat} {a b c d e f : Int} (g : FZq R P s s') (hz : 6 * ((T : Int) + 1) ≤ zsz s (P + 24)) (h : TYat s P T a b c d e f) : TYat s' P T a b c d e f := by
  unfold TYat at *
  rw [FZq_c g (by decide) (by decide) (by omega), FZq_c g (by decide) (by decide) (by omega), FZq_c g (by decide) (by decide) (by omega), FZq_c g (by decide) (by decide) (by omega), FZq_c g (by decide) (by decide) (by omega), FZq_c g (by decide) (by decide) (by omega)]
  exact h
theorem FNat_q {F : Nat} {a b c d e f bd cd nx : Int} (g : FZq R P s s') (hz : 10 * ((F : Int) + 1) ≤ zsz s (P + 26)) (hz2 : 0 ≤ f ∧ 5 * (f + 1) ≤ zsz s (P + 28)) (h : FNat s P F a b c d e f bd cd nx) : FNat s' P F a b c d e f bd cd nx := by
  unfold FNat at *
  rw [FZq_c (r := 26) g (by decide) (by decide) (by omega), FZq_c (r := 26) g (by decide) (by decide) (by omega), FZq_c (r := 26) g (by decide) (by decide) (by omega), FZq_c (r := 26) g (by decide) (by decide) (by omega), FZq_c (r := 26) g (by decide) (by decide) (by omega), FZq_c (r := 26) g (by decide) (by decide) (by omega), FZq_c (r := 26) g (by decide) (by decide) (by omega), FZq_c (r := 26) g (by decide) (by decide) (by omega), FZq_c (r := 26) g (by decide) (by decide) (by omega), FZq_c (r := 26) g (by decide) (by decide) (by omega), FZq_c (r := 28) g (by decide) (by decide) (by omega)]
  exact h
theorem getE_take {i : Nat} {t : Int} (h : Ls[i]? = some t) : i < Ls.length := by
  rcases Nat.lt_or_ge i Ls.length with w | w
  · exact w
  · rw [List.getElem?_eq_none w] at h
    cases h
/-- the declarations stay -/
theorem ALz_q (g : FZq R P s s') (hR : ∀ r ∈ R, r ∈ rwL) (hw : RWz K L P s m Ls) (h22 : ∀ i : Nat, i < kTy K Ls → (s'.2 (P + 22) i).toInt = (s.2 (P + 22) i).toInt) (hl : LO P m m' s s') (a : ALz K L P s m Ls) : ALz K L P s' m Ls := fun i t ht => by
  obtain ⟨⟨z1, z2, z3, z4, z5⟩, -⟩ := hw
  obtain ⟨a1, a2⟩ := a i t ht
  obtain ⟨c1, c2, c3⟩ := k_lt (K := K) (L := L) Ls i t ht
  have hi := getE_take ht
  refine ⟨fun hk => ?_, fun hk => ?_⟩
  · rw [if_pos hk] at c1 c2 c3
    obtain ⟨b1, b2, b3, b4, b5⟩ := a1 hk
    exact ⟨SGat_q b1 g hR (by omega), FNat_q g (by omega) (by omega) b2, DCat_q g (by omega) b3, LAz_out b4 hl (Or.inl b5), b5⟩
  · rw [if_neg hk] at c1 c2 c3
    obtain ⟨b1, b2, b3, b4⟩ := a2 hk
    refine ⟨fun hs => SGhs_q g hR _ _ _ (b1 hs) ?_, by rw [h22 _ (by omega)]; exact b2, TYat_q g (by omega) b3, DCat_q g (by omega) b4⟩
    have : ((tMe K L false (0, t)).length : Int) = (tNh K L false (0, t) : Int) := by
      rw [← tNh_eq, if_neg (by rw [hs]; decide)]
    omega
theorem ALz_add (a : ALz K L P s m Ls) (h1 : K q = 6 → FNz K L P s (kFn K Ls) Ls.length (aSl K L 0 Ls).length (kHd K L Ls) q m) (h2 : ¬ K q = 6 → TYz K L P s (kTy K Ls) Ls.length (aSl K L 0 Ls).length (kHd K L Ls) q) : ALz K L P s m (Ls ++ [q]) := fun i t ht => by
  by_cases hi : i < Ls.length
  · rw [List.getElem?_append_left hi] at ht
    have e : (Ls ++ [q]).take i = Ls.take i := by rw [List.take_append_of_le_length (by omega)]
    rw [e]
    exact a i t ht
  · rw [List.getElem?_append_right (by omega)] at ht
    have e : i - Ls.length = 0 := by
      rcases Nat.eq_zero_or_pos (i - Ls.length) with h | h
      · exact h
      · rw [List.getElem?_eq_none (by simp only [List.length_cons, List.length_nil]; omega)] at ht
        cases ht
    rw [e] at ht
    have eq1 : q = t := by simpa using ht
    have ei : i = Ls.length := by omega
    have e2 : (Ls ++ [q]).take i = Ls := by rw [ei, List.take_append_of_le_length (Nat.le_refl _), List.take_length]
    rw [e2, ← eq1, ei]
    exact ⟨h1, h2⟩
theorem ALz_mo (hm : m ≤ m') (a : ALz K L P s m Ls) : ALz K L P s m' Ls := fun i t ht => by
  obtain ⟨a1, a2⟩ := a i t ht
  refine ⟨fun hk => ?_, a2⟩
  obtain ⟨b1, b2, b3, b4, b5⟩ := a1 hk
  exact ⟨b1, b2, b3, b4, by omega⟩
/-- they hang on the rows alone -/
theorem SGhs_2 (h : s'.2 = s.2) : ∀ (l : List Int) (k : Nat) (b : Int), SGhs K L s P k b l → SGhs K L s' P k b l
  | [], _, _, _ => trivial
  | q :: l, k, b, a => by
    have e : s' = (s'.1, s.2) := by rw [← h]
    refine ⟨?_, SGhs_2 h l _ _ a.2⟩
    rw [e]
    exact a.1
theorem ALz_2 (h : s'.2 = s.2) (a : ALz K L P s m Ls) : ALz K L P s' m Ls := fun i t ht => by
  have e : s' = (s'.1, s.2) := by rw [← h]
  obtain ⟨a1, a2⟩ := a i t ht
  refine ⟨fun hk => ?_, fun hk => ⟨fun hs => SGhs_2 h _ _ _ ((a2 hk).1 hs), ?_⟩⟩
  · rw [e]
    exact a1 hk
  · rw [e]
    exact (a2 hk).2
theorem RWz_2 (h : s'.2 = s.2) (hz : ∀ r ∈ rwL, zsz s' (P + r) = zsz s (P + r)) (a : RWz K L P s m Ls) : RWz K L P s' m Ls := by
  obtain ⟨⟨z1, z2, z3, z4, z5⟩, w1, w2, w3, w4⟩ := a
  have e : s' = (s'.1, s.2) := by rw [← h]
  refine ⟨⟨by rw [hz 24 (by decide)]; exact z1, by rw [hz 26 (by decide)]; exact z2, by rw [hz 28 (by decide)]; exact z3, by rw [hz 30 (by decide)]; exact z4, by rw [hz 32 (by decide)]; exact z5⟩, ?_, w2, w3, fun q hq h0 => ?_⟩
  · rw [e]
    exact w1
  · rw [e]
    exact w4 q hq h0
theorem RWz_r (hP : P = 3 ∨ P = 39) (g : FZq [] P s s') (hl : LO P m m' s s') (a : RWz K L P s m Ls) : RWz K L P s' m Ls := by
  obtain ⟨⟨z1, z2, z3, z4, z5⟩, w1, w2, w3, w4⟩ := a
  have hz : ∀ r ∈ rwL, zsz s' (P + r) = zsz s (P + r) := fun r hr => FZq_sz g List.not_mem_nil hP hr
  exact ⟨⟨by rw [hz 24 (by decide)]; exact z1, by rw [hz 26 (by decide)]; exact z2, by rw [hz 28 (by decide)]; exact z3, by rw [hz 30 (by decide)]; exact z4, by rw [hz 32 (by decide)]; exact z5⟩, SLat_q w1 g (by omega), w2, w3, fun q hq h0 => GTt_out (w4 q hq h0) hl (Int.le_refl _)⟩
theorem ALz_nil : ALz K L P s m [] := fun i t ht => by cases ht
end SDC
