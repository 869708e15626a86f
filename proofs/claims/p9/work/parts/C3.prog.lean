/-! ===== program: counts, its end ===== -/
def cntM (own : Nat → Nat × Nat) (D : Nat × Nat → Bool) (s : yS) (lo N : Nat) : Nat := (List.range' lo (N - lo)).countP (fun x => D (own x) && ((s.2.1 221 x).toInt == 4))
theorem cntM_le {own : Nat → Nat × Nat} {D : Nat × Nat → Bool} {s : yS} {lo N : Nat} : cntM own D s lo N ≤ cM s lo N := by
  unfold cntM cM
  refine List.countP_mono_left (fun x _ hx => ?_)
  exact (Bool.and_eq_true _ _ ▸ hx).2
theorem cntM_eq {own : Nat → Nat × Nat} {D : Nat × Nat → Bool} {s s' : yS} {lo N : Nat} (h : s'.2.1 221 = s.2.1 221) : cntM own D s' lo N = cntM own D s lo N := by unfold cntM; rw [h]
theorem cntM_add {own : Nat → Nat × Nat} {D D' : Nat × Nat → Bool} {s : yS} {lo N y h : Nat} {q : Nat × Nat} (h1 : lo ≤ y) (h2 : y ≤ h) (h3 : h ≤ N) (ho : ∀ x, y ≤ x → x < h → own x = q) (hq : D q = false) (hq' : D' q = true) (hD : ∀ p, D p = true → D' p = true) : cntM own D s lo N + cM s y h ≤ cntM own D' s lo N := by
  unfold cntM cM
  have e : List.range' lo (N - lo) = List.range' lo (y - lo) ++ (List.range' y (h - y) ++ List.range' h (N - h)) := by
    rw [show N - lo = (y - lo) + ((h - y) + (N - h)) by omega]
    rw [← List.range'_append_1 (s := lo) (m := y - lo) (n := (h - y) + (N - h))]
    rw [show lo + (y - lo) = y by omega]
    rw [← List.range'_append_1 (s := y) (m := h - y) (n := N - h)]
    rw [show y + (h - y) = h by omega]
  rw [e]
  simp only [List.countP_append]
  have mo : ∀ x : Nat, (D (own x) && ((s.2.1 221 x).toInt == 4)) = true → (D' (own x) && ((s.2.1 221 x).toInt == 4)) = true := by
    intro x hx
    rw [Bool.and_eq_true] at hx ⊢
    exact ⟨hD _ hx.1, hx.2⟩
  have m1 : (List.range' lo (y - lo)).countP (fun x => D (own x) && ((s.2.1 221 x).toInt == 4)) ≤ (List.range' lo (y - lo)).countP (fun x => D' (own x) && ((s.2.1 221 x).toInt == 4)) := List.countP_mono_left (fun x _ hx => mo x hx)
  have m3 : (List.range' h (N - h)).countP (fun x => D (own x) && ((s.2.1 221 x).toInt == 4)) ≤ (List.range' h (N - h)).countP (fun x => D' (own x) && ((s.2.1 221 x).toInt == 4)) := List.countP_mono_left (fun x _ hx => mo x hx)
  have m2 : (List.range' y (h - y)).countP (fun x => D (own x) && ((s.2.1 221 x).toInt == 4)) = 0 := by
    rw [List.countP_eq_zero]
    intro x hx
    rw [List.mem_range'_1] at hx
    rw [ho x hx.1 (by omega), hq]
    simp
  have m4 : (List.range' y (h - y)).countP (fun x => (s.2.1 221 x).toInt == 4) ≤ (List.range' y (h - y)).countP (fun x => D' (own x) && ((s.2.1 221 x).toInt == 4)) := by
    refine List.countP_mono_left (fun x hx hx' => ?_)
    rw [List.mem_range'_1] at hx
    rw [ho x hx.1 (by omega), hq']
    exact hx'
  omega
theorem dSl_q {b T F i : Nat} {z : yS} {p : Nat × Nat} (h : dSl b T F z i p) : p.1 ∈ slR := by
  have hh : ∀ {h : Nat}, hSl h p → p.1 ∈ slR := by
    intro h w
    rcases w with ⟨e, -⟩ | ⟨e, -⟩
    · rcases e with e | e <;> rw [e] <;> decide
    · rw [e]; decide
  rcases h with ⟨d, -, -, h⟩ | ⟨f, -, -, h⟩
  · rcases h with ⟨e, -⟩ | ⟨k, -, -, h⟩
    · rcases e with e | e <;> rw [e] <;> decide
    · exact hh h
  · exact hh h
theorem P1_cnt {own : Nat → Nat × Nat} {b n W N T F H k : Nat} {z s : yS} (h : P1 own b n W N T F H z k s) : ∃ (D : Nat × Nat → Bool) (S : Nat), (s.1 65).toInt = (S : Int) ∧ S ≤ 10 + 4100 * b + cnt own D (4002 * b) N ∧ ∀ p, p.1 ∉ slR → D p = false := by
  obtain ⟨D, hP, hD, -⟩ := h
  obtain ⟨S, s1, -, s2⟩ := hP.2.2.2.2.2.2.2.1
  refine ⟨D, S, s1, s2, fun p hp => ?_⟩
  cases e : D p with
  | false => rfl
  | true =>
    obtain ⟨i, -, hi⟩ := hD p e
    exact absurd (dSl_q hi) hp
def pK : List Nat := [0, 2, 3, 7, 8, 9, 26, 27, 28, 30, 42, 64, 65, 70, 71, 72, 73, 74, 75, 76, 77, 78, 80, 81, 85]
def pK2 : List Nat := [29, 90, 91, 92, 93, 95, 109, 110] ++ pK
/-- program, so far -/
def PFm (Lg : (Nat → Nat → Int64) → Prop) (b : Nat) (z s : yS) : Prop := BKF b z s ∧ (∀ k, k ∉ pK → s.1 k = z.1 k) ∧ TYN s ∧ GC s ∧ BP s ∧ (0 ≤ (s.1 8).toInt ∧ (s.1 8).toInt ≤ 70000) ∧ (s.1 30).toInt = (b : Int) ∧ b < 2 ∧ Lg s.2.2 ∧ (∃ W2 : Nat, (s.2.1 220 b).toInt = (W2 : Int) ∧ W2 ≤ 2100) ∧ (s.1 2).toInt = 0 ∧ (s.1 26).toInt ≤ 4002 * (b : Int) + 4002
def PQ (Lg : (Nat → Nat → Int64) → Prop) (b : Nat) (z : yS) (v : Option Value) (s' : yS) : Prop := v = some (.int (s'.1 8)) ∧ BKF b z s' ∧ TYN s' ∧ GC s' ∧ BP s' ∧ (0 ≤ (s'.1 8).toInt ∧ (s'.1 8).toInt ≤ 70000) ∧ Lg s'.2.2 ∧ (s'.1 2).toInt = 0 ∧ ((¬ (s'.1 8).toInt = 0 ∧ (∀ k, k ∉ pK → s'.1 k = z.1 k) ∧ s'.1 75 = z.1 29) ∨ ((s'.1 8).toInt = 0 ∧ (∀ k, k ∉ pK2 → s'.1 k = z.1 k) ∧ (s'.1 29).toInt = (b : Int) ∧ (s'.1 75).toInt = (b : Int) ∧ (s'.1 90 = 1 ∧ s'.1 91 = -1 ∧ s'.1 92 = -1 ∧ s'.1 93 = 0 ∧ s'.1 95 = 0 ∧ s'.1 109 = -1 ∧ s'.1 110 = 0) ∧ GPx b s' ∧ (s'.1 65).toInt ≤ 10 + 4100 * ((b : Int) + 1) ∧ (s'.1 26).toInt ≤ 4002 * (b : Int) + 4002))
section PR
variable {Lg Lg' : (Nat → Nat → Int64) → Prop}
variable {own : Nat → Nat × Nat} {b n W N T F H S0 : Nat} {G : PG} {S O : Nat} {z s u : yS}
theorem p207 {Tt : Nat → List Value → yS → (Option Value → yS → Prop) → Prop} {a1 : Int32} (hLW : ∀ l, Lg' l → Lg l ∧ WKp b W l) (hF : PFm Lg' b z u) (hne : ¬ (u.1 8).toInt = 0) : w_230_207 Tt a1 u (PQ Lg b z) := by
  unfold w_230_207
  rintro s1 rfl
  obtain ⟨f1, f2, f3, f4, f5, f6, f7, f8, f9⟩ := hF
  refine ⟨rfl, f1, f3, f4, f5, f6, (hLW _ f9.1).1, f9.2.2.1, Or.inl ⟨hne, fun k hk => ?_, ?_⟩⟩
  · rw [sf_1, if_neg (fun w => hk (by rw [w]; decide))]
    exact f2 k hk
  · show u.1 29 = z.1 29
    exact f2 29 (by decide)
/-- rows but of main's TYPE stay: the program stays -/
theorem CK_rows {s' : yS} (h : CK own b n N T F H S0 G s) (hr : ∀ q, q ∉ [269, 273, 274] → s'.2.1 q = s.2.1 q) (h75 : (s'.1 75).toInt = (b : Int)) : CK own b n N T F H S0 G s' := by
  refine CK_eq h ⟨fun t _ _ => ⟨by rw [hr 215 (by decide)], by rw [hr 217 (by decide)]⟩, fun x _ _ => ⟨⟨by rw [hr 221 (by decide)], by rw [hr 222 (by decide)], by rw [hr 223 (by decide)], by rw [hr 224 (by decide)], by rw [hr 227 (by decide)], by rw [hr 229 (by decide)], fun _ => by rw [hr 226 (by decide)], fun _ => by rw [hr 230 (by decide)]⟩, by rw [hr 225 (by decide)], by rw [hr 228 (by decide)]⟩, fun p i hp _ _ => by rw [hr p ((show ∀ p ∈ tbR, p ∉ [269, 273, 274] by decide) p hp)]⟩ (fun y _ _ _ => ⟨by rw [hr 231 (by decide)], by rw [hr 232 (by decide)]⟩) (fun j _ => by rw [hr 264 (by decide)]) (fun i _ _ => by rw [hr 261 (by decide)]) (fun i => by rw [hr 264 (by decide)]; exact h.2.2.2.2.1 i) (fun i => by rw [hr 265 (by decide)]; exact h.2.2.2.2.2.1 i) h75
theorem CA_rows {s' : yS} {l hh : Nat} (hr : ∀ q, q ∉ [269, 273, 274] → s'.2.1 q = s.2.1 q) : CA b n l hh S O s s' := ⟨fun q hq x _ _ => by rw [hr q ((show ∀ q ∈ wR, q ∉ [269, 273, 274] by decide) q hq)], fun t _ _ => by rw [hr 217 (by decide)], fun j _ _ => by rw [hr 264 (by decide)], fun j _ _ => by rw [hr 270 (by decide)]⟩
theorem p172 {d e l h p : Nat} {A : List Nat} (hLW : ∀ l, Lg' l → Lg l ∧ WKp b W l) (hF : PFm Lg' b z u) (h0 : (u.1 8).toInt = 0) (hC : CK own b n N T F H S0 G u) (hL : Lx b n W u) (hP : PT b n N F H G S O u) (hS : S ≤ 10 + 4100 * (b + 1)) (hO : O ≤ 60000 * (b + 1)) (hN : N ≤ 4002 * b + 2760) (m1 : (u.2.1 259 b).toInt = (e : Int)) (m2 : 4002 * b ≤ l) (m3 : h ≤ N) (m4 : wE G H b n (scX G none) (tVX G none) S O u 11 l h e A) (m5 : (u.1 80).toInt = (p : Int)) (m6 : (u.1 81).toInt = (A.length : Int)) (m7 : seg u p A.length = A) (m8 : p + A.length ≤ 199999) (m9 : (u.1 65).toInt ≤ 10 + 4100 * ((b : Int) + 1)) : wl_230_172 (Tot (d + 1)) 0 u (PQ Lg b z) := by
  obtain ⟨f1, f2, f3, f4, f5, f6, f7, f8, f9⟩ := id hF
  have hA : A.length ≤ 60 := by
    obtain ⟨p', -, q⟩ := m4
    exact (wEp_ok q).2
  have hget : ∀ i, i < A.length → (u.2.1 264 (p + i)).toInt = (A.getD i 0 : Nat) := by
    intro i hi
    have h1 := seg_get (s := u) (p := p) hi
    rw [m7] at h1
    rw [List.getD_eq_getElem?_getD, h1]
    show _ = ((tyE u (p + i) : Nat) : Int)
    unfold tyE
    have := f3 (p + i)
    omega
  refine ⟨fun a1 w => w.1 = u.1 ∧ w.2.2 = u.2.2 ∧ (∀ q i, ¬ (q = 273 ∧ 60 * b ≤ i ∧ i < 60 * (b + 1)) → w.2.1 q i = u.2.1 q i) ∧ ∃ i : Nat, a1.toInt = (i : Int) ∧ i ≤ A.length ∧ ∀ j, j < i → (w.2.1 273 (60 * b + j)).toInt = (A.getD j 0 : Nat), fun a1 _ => (100 - a1.toInt).toNat, ⟨rfl, rfl, fun _ _ _ => rfl, 0, rfl, by omega, fun j hj => by omega⟩, ?_⟩
  rintro a1 w ⟨w1, w2, w3, i, i1, i2, i3⟩
  unfold w_230_172
  rw [w1, show (u.1 30).toInt.toNat = b by omega]
  refine ⟨fun hend => ⟨by omega, ?_⟩, fun hmore => ⟨by omega, fun x5 hx5 => ⟨by omega, fun x6 hx6 => ⟨by omega, fun x7 hx7 => ⟨by omega, by omega, ?_⟩⟩⟩⟩⟩
  · rintro s1 rfl s2 rfl
    have ei : i = A.length := by omega
    refine Tot.imp (Tot.mono (by omega) (s_232 (d := 0))) ?_
    rintro v s3 ⟨rfl, e3⟩
    refine ⟨rfl, ?_⟩
    unfold w_230_207
    rintro s4 rfl
    have c30 : (sa w 274 b (u.1 81)).1 30 = u.1 30 := by show w.1 30 = _; rw [w1]
    rw [c30] at e3
    have t2 : s3.2 = (sa w 274 b (u.1 81)).2 := by rw [e3]; rfl
    have tc' : ∀ q i, ¬ (q = 273 ∧ 60 * b ≤ i ∧ i < 60 * (b + 1)) → ¬ (q = 274 ∧ i = b) → s3.2.1 q i = u.2.1 q i := fun q i c1 c2 => by
      rw [t2, sa_2, if_neg c2]
      exact w3 q i c1
    have tr : ∀ q, q ∉ [269, 273, 274] → s3.2.1 q = u.2.1 q := fun q hq => funext (fun i => tc' q i (fun w => hq (by rw [w.1]; decide)) (fun w => hq (by rw [w.1]; decide)))
    have tk : ∀ k, k ∉ [29, 90, 91, 92, 93, 95, 109, 110] → s3.1 k = u.1 k := fun k hk => by
      have hh : ∀ j, j ∈ [29, 90, 91, 92, 93, 95, 109, 110] → ¬ k = j := fun j hj w => hk (by rw [w]; exact hj)
      rw [e3, sf_1, if_neg (hh 110 (by decide)), sf_1, if_neg (hh 109 (by decide)), sf_1, if_neg (hh 95 (by decide)), sf_1, if_neg (hh 93 (by decide)), sf_1, if_neg (hh 92 (by decide)), sf_1, if_neg (hh 91 (by decide)), sf_1, if_neg (hh 90 (by decide)), sf_1, if_neg (hh 29 (by decide))]
      show w.1 k = _
      rw [w1]
    have t29 : s3.1 29 = u.1 30 := by rw [e3]; rfl
    have tF : s3.1 90 = 1 ∧ s3.1 91 = -1 ∧ s3.1 92 = -1 ∧ s3.1 93 = 0 ∧ s3.1 95 = 0 ∧ s3.1 109 = -1 ∧ s3.1 110 = 0 := by
      rw [e3]
      exact ⟨rfl, rfl, rfl, rfl, rfl, rfl, rfl⟩
    have t22 : s3.2.2 = u.2.2 := by rw [t2]; exact w2
    clear e3
    have t75 : ((sf s3 75 (s3.1 29)).1 75).toInt = (b : Int) := by
      show (s3.1 29).toInt = _
      rw [t29]
      exact f7
    have r2 : ∀ q, q ∉ [269, 273, 274] → (sf s3 75 (s3.1 29)).2.1 q = u.2.1 q := tr
    have bk : BKF b u s3 := by
      intro q i hn
      refine tc' q i (fun w => hn (Or.inl ?_)) (fun w => hn (Or.inl ?_))
      · rw [w.1, show bl 273 = 60 by decide]
        exact w.2
      · rw [w.1, show bl 274 = 1 by decide]
        omega
    have e8 : (sf s3 75 (s3.1 29)).1 8 = u.1 8 := by show s3.1 8 = _; exact tk 8 (by decide)
    refine ⟨rfl, BKF_tr f1 bk, fun i => ?_, fun i => ?_, fun a ha => ?_, by rw [e8]; exact f6, (by show Lg s3.2.2; rw [t22]; exact (hLW _ f9.1).1), (by show (s3.1 2).toInt = 0; rw [tk 2 (by decide)]; exact f9.2.2.1), Or.inr ⟨by rw [e8]; exact h0, fun k hk => ?_, by show (s3.1 29).toInt = _; rw [t29]; exact f7, t75, tF, ?_⟩⟩
    · show 0 ≤ (s3.2.1 264 i).toInt ∧ (s3.2.1 264 i).toInt ≤ 50000
      rw [tr 264 (by decide)]
      exact f3 i
    · show 0 ≤ (s3.2.1 265 i).toInt ∧ (s3.2.1 265 i).toInt ≤ 10000
      rw [tr 265 (by decide)]
      exact f4 i
    · have := f5 a ha
      unfold tyE at this ⊢
      show (s3.2.1 264 a).toInt.toNat = _
      rw [tr 264 (by decide)]
      exact this
    · have hk1 : k ∉ [29, 90, 91, 92, 93, 95, 109, 110] := fun w => hk (List.mem_append_left _ w)
      have hk2 : k ∉ pK := fun w => hk (List.mem_append_right _ w)
      rw [sf_1, if_neg (fun w => hk2 (by rw [w]; decide)), tk k hk1]
      exact f2 k hk2
    · refine ⟨?_, by show (s3.1 65).toInt ≤ _; rw [tk 65 (by decide)]; exact m9, by show (s3.1 26).toInt ≤ _; rw [tk 26 (by decide)]; exact f9.2.2.2⟩
      refine ⟨own, n, W, N, T, F, H, S0, G, S, O, CK_rows hC r2 t75, Lx_eq hL (r2 215 (by decide)) (r2 216 (by decide)) (r2 217 (by decide)), PT_ca hP (fun f _ => by rw [r2 258 (by decide)]) (fun l h _ _ => CA_rows r2), ⟨e, l, h, A, by rw [r2 259 (by decide)]; exact m1, m2, m3, wE_eq (Nat.le_refl _) (Nat.le_refl _) (CA_rows r2) m4, ?_, fun i hi => ?_⟩, hS, hO, hN, by rw [r2 220 (by decide)]; exact f9.2.1, by show WKp b W s3.2.2; rw [t22]; exact (hLW _ f9.1).2⟩
      · show (s3.2.1 274 b).toInt = _
        rw [t2, sa_2, if_pos ⟨rfl, rfl⟩]
        exact m6
      · show (s3.2.1 273 (60 * b + i)).toInt = _
        rw [t2, sa_2, if_neg (fun w => by omega)]
        exact i3 i (by omega)
  · rintro s8 rfl
    rw [show x7.toInt.toNat = p + i by omega, show x6.toInt.toNat = 60 * b + i by omega, w3 264 _ (fun w => by omega)]
    refine ⟨by omega, fun x9 hx9 => ⟨⟨w1, w2, fun q j c1 => ?_, i + 1, by omega, by omega, fun j hj => ?_⟩, by show (100 - x9.toInt).toNat < (100 - a1.toInt).toNat; omega⟩⟩
    · rw [sa_2, if_neg (fun w => c1 ⟨w.1, by omega⟩)]
      exact w3 q j c1
    · rw [sa_2]
      by_cases ej : j = i
      · rw [if_pos ⟨rfl, by omega⟩, ej]
        exact hget i (by omega)
      · rw [if_neg (fun w => by omega)]
        exact i3 j (by omega)
end PR
